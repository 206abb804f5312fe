/-! T: all that may be sent -/
section
def pu_c (g : Nat → Nat) : Nat → Nat
  | 0 => 0
  | m + 1 => pu_c g m + g (m + 1)
theorem pu_c_le {g g' : Nat → Nat} : ∀ m, (∀ i, 1 ≤ i → i ≤ m → g' i ≤ g i) → pu_c g' m ≤ pu_c g m
  | 0, _ => Nat.le_refl _
  | m + 1, h => by
    rw [pu_c, pu_c]
    have h1 := pu_c_le m (fun i h1 h2 => h i h1 (by omega))
    have h2 := h (m + 1) (by omega) (by omega)
    omega
theorem pu_c_lt {g g' : Nat → Nat} {s : Nat} : ∀ m, (∀ i, 1 ≤ i → i ≤ m → g' i ≤ g i) → 1 ≤ s → s ≤ m → g' s < g s → pu_c g' m < pu_c g m
  | 0, _, h1, h2, _ => by omega
  | m + 1, h, h1, h2, h3 => by
    rw [pu_c, pu_c]
    have a1 := pu_c_le m (fun i h1 h2 => h i h1 (by omega))
    have a2 := h (m + 1) (by omega) (by omega)
    by_cases y : s = m + 1
    · subst y; omega
    · have := pu_c_lt m (fun i h1 h2 => h i h1 (by omega)) h1 (by omega) h3
      omega
/-- open and not ended -/
def pu_o (life we : Nat → Int32) (s : Nat) : Nat := if life s = 1 ∧ we s = 0 then 1 else 0
def pu_m (life we : Nat → Int32) (wo : Nat → Nat) : Nat := wo 0 + pu_c (pu_o life we) 7
theorem pu_m_le {life we : Nat → Int32} {wo : Nat → Nat} (h : wo 0 ≤ 255) : pu_m life we wo ≤ 262 := by
  have h1 : ∀ i, pu_o life we i ≤ 1 := by
    intro i; unfold pu_o; split <;> omega
  have := h1 1
  have := h1 2
  have := h1 3
  have := h1 4
  have := h1 5
  have := h1 6
  have := h1 7
  unfold pu_m
  simp only [pu_c]
  omega
/-- a stream that sends comes nearer to the end -/
theorem pu_m_lt {life th ot we fi co : Nat → Int32} {wi wo ql : Nat → Nat} {s n l : Nat} (hS : cr_S life th ot we fi co wi wo ql) (h1 : 1 ≤ s) (h8 : s < 8) (hm : cr_may life we fi wo ql s)
    (hn : n = sd_n ql wo s) (hl : l = sd_l fi ql wo s) : pu_m (sd_li life th s l) (sd_we we s l) (sd_wo wo s n) < pu_m life we wo := by
  obtain ⟨m1, m2, m3⟩ := hm
  obtain ⟨n1, n2, n3, n4⟩ := sd_n_le ql wo s
  have e0 : sd_wo wo s n 0 = wo 0 - n := by
    unfold sd_wo
    rw [pm_us, pm_un (by omega)]
  have hle : ∀ i, 1 ≤ i → i ≤ 7 → pu_o (sd_li life th s l) (sd_we we s l) i ≤ pu_o life we i := by
    intro i _ _
    unfold pu_o
    by_cases y : i = s
    · subst y
      rw [if_pos (show life i = 1 ∧ we i = 0 from ⟨m1, m2⟩)]
      split <;> omega
    · have a : sd_li life th s l i = life i := by
        unfold sd_li; split
        · rfl
        · rw [pm_upd_eq, if_neg y]
      have b : sd_we we s l i = we i := by
        unfold sd_we; split
        · rfl
        · rw [pm_upd_eq, if_neg y]
      rw [a, b]; exact Nat.le_refl _
  unfold pu_m
  rw [e0]
  rcases m3 with ⟨q1, q2, q3⟩ | ⟨q1, q2⟩
  · have hp : 1 ≤ n := by
      rw [hn]; unfold sd_n
      split <;> split <;> split <;> omega
    have := pu_c_le 7 hle
    omega
  · have hn0 : n = 0 := by omega
    have hl1 : l = 1 := by
      rw [hl]; unfold sd_l
      rw [if_neg (by rw [q2]; decide), if_pos (by omega)]
    have := pu_c_lt 7 hle h1 (by omega) (by
      unfold pu_o
      rw [if_pos ⟨m1, m2⟩, if_neg]
      · omega
      · rintro ⟨_, y⟩
        unfold sd_we at y
        rw [if_neg (by omega), pm_upd_eq, if_pos rfl] at y
        exact absurd y (by decide))
    omega
theorem pu_S {life th ot we fi co : Nat → Int32} {wi wo ql : Nat → Nat} {s n l : Nat} (hS : cr_S life th ot we fi co wi wo ql) (h1 : 1 ≤ s) (h8 : s < 8) (hm : cr_may life we fi wo ql s)
    (hn : n = sd_n ql wo s) (hl : l = sd_l fi ql wo s) : cr_S (sd_li life th s l) th ot (sd_we we s l) fi co wi (sd_wo wo s n) (sd_ql ql s n) := by
  obtain ⟨m1, m2, m3⟩ := hm
  obtain ⟨n1, n2, n3, n4⟩ := sd_n_le ql wo s
  refine ⟨?_, fun i hi => ?_⟩
  · unfold sd_li
    split
    · exact hS.1
    · rw [pm_upd_eq, if_neg (by omega)]; exact hS.1
  · obtain ⟨s1, s2, s3, s4, s5, s6, s7, s8, s9, s10⟩ := hS.2 i hi
    have hwo : sd_wo wo s n i ≤ 255 := by
      unfold sd_wo
      by_cases y : i = 0
      · subst y; rw [pm_us, pm_un (by omega)]; omega
      · rw [pm_un y]
        by_cases y2 : i = s
        · subst y2; rw [pm_us]; omega
        · rw [pm_un y2]; exact s6
    have hql : sd_ql ql s n i ≤ 500 := by
      unfold sd_ql
      by_cases y2 : i = s
      · subst y2; rw [pm_us]; omega
      · rw [pm_un y2]; exact s7
    by_cases y : i = s
    · subst y
      have hl01 : l = 0 ∨ (l = 1 ∧ fi i = 1 ∧ n = ql i) := by
        rw [hl]; unfold sd_l
        split
        · left; rfl
        · rename_i y1
          split
          · rename_i y2
            right
            refine ⟨rfl, ?_, by omega⟩
            rcases s4 with y3 | y3
            · exact absurd y3 y1
            · exact y3
          · left; rfl
      rcases hl01 with y0 | ⟨y0, y1, y2⟩
      · have a : sd_li life th i l = life := by unfold sd_li; rw [if_pos (Or.inl y0)]
        have b : sd_we we i l = we := by unfold sd_we; rw [if_pos y0]
        rw [a, b]
        exact ⟨s1, s2, s3, s4, s5, hwo, hql, s8, s9, fun w => by rw [m2] at w; exact absurd w (by decide)⟩
      · have b : sd_we we i l i = 1 := by unfold sd_we; rw [if_neg (by omega), pm_upd_eq, if_pos rfl]
        have hql0 : sd_ql ql i n i = 0 := by unfold sd_ql; rw [pm_us]; omega
        have a : sd_li life th i l i = 1 ∨ sd_li life th i l i = 2 := by
          unfold sd_li
          split
          · left; exact m1
          · right; rw [pm_upd_eq, if_pos rfl]
        refine ⟨by rcases a with a | a; exact Or.inr (Or.inl a); exact Or.inr (Or.inr a), s2, Or.inr b, s4, s5, hwo, hql, fun w => ?_, fun w => ?_, fun _ => ⟨y1, hql0⟩⟩
        · exact s8 (by rw [m1]; decide)
        · exact s9 (by rw [m1]; decide)
    · have a : sd_li life th s l i = life i := by
        unfold sd_li; split
        · rfl
        · rw [pm_upd_eq, if_neg y]
      have b : sd_we we s l i = we i := by
        unfold sd_we; split
        · rfl
        · rw [pm_upd_eq, if_neg y]
      have d : sd_ql ql s n i = ql i := by
        unfold sd_ql; rw [pm_un y]
      rw [a, b, d]
      exact ⟨s1, s2, s3, s4, s5, hwo, s7, s8, s9, s10⟩

variable {f_frameAt f_frameLength f_frameSort f_frameFlags f_frameStream f_down f_entryCount f_most f_typeSeen f_lastSender f_sentLength : Int32} {a_payload a_life a_theyEnded a_weEnded a_finishing a_codes a_windowIn a_windowOut a_headers a_headerCount a_entries a_kinds a_repeats a_messageCount a_text a_nodeCount a_nodeTypes a_valueCount a_valueOwners a_values a_skippedCount a_reader a_chainNode a_chainEnd a_queue a_queueLength a_sent a_nodeSize a_nodePlace : Nat → Int32} {yf_down yf_heads yf_paid yf_payload yf_wants yf_name yf_first yf_counts yf_enters yf_most yf_many yf_sent yf_last yf_nodes yf_values yf_skipped yf_pos yf_there yf_number yf_at : Int32} {ya_kind ya_repeated ya_how ya_code ya_coming ya_going ya_type ya_headers ya_header ya_queued ya_otherEnded ya_ended ya_finishing ya_queue ya_prefix ya_length ya_got ya_high ya_whole ya_has ya_bytes ya_frame ya_payloads ya_table ya_out ya_nodeType ya_valueNode ya_valueNumber ya_value ya_from ya_limit ya_inside ya_sizes : Nat → Int32} {l : Nat} {z : (Nat → Nat) × Nat} {Q ql wo wi : Nat → Nat}
theorem xo_nx {n k : Nat} {post : Int32 → Prop} (hS : cr_S a_life a_theyEnded ya_otherEnded a_weEnded a_finishing a_codes wi wo ql) (hl : l ≤ 7) (hk : k ≤ 7)
    (H7 : k = 7 → post 0) (Hy : k < 7 → cr_may a_life a_weEnded a_finishing wo ql ((l + k) % 7 + 1) → post (nI ((l + k) % 7 + 1)))
    (Hn : k < 7 → ¬ cr_may a_life a_weEnded a_finishing wo ql ((l + k) % 7 + 1) → wX_nextSender_2 post f_frameAt f_frameLength f_frameSort f_frameFlags f_frameStream f_down f_entryCount f_most f_typeSeen (nI l) f_sentLength a_payload a_life a_theyEnded a_weEnded a_finishing a_codes a_windowIn (an_f wo) a_headers a_headerCount a_entries a_kinds a_repeats a_messageCount a_text a_nodeCount a_nodeTypes a_valueCount a_valueOwners a_values a_skippedCount a_reader a_chainNode a_chainEnd a_queue (an_f ql) a_sent a_nodeSize a_nodePlace n (nI (k + 1))) :
    wX_nextSender_2 post f_frameAt f_frameLength f_frameSort f_frameFlags f_frameStream f_down f_entryCount f_most f_typeSeen (nI l) f_sentLength a_payload a_life a_theyEnded a_weEnded a_finishing a_codes a_windowIn (an_f wo) a_headers a_headerCount a_entries a_kinds a_repeats a_messageCount a_text a_nodeCount a_nodeTypes a_valueCount a_valueOwners a_values a_skippedCount a_reader a_chainNode a_chainEnd a_queue (an_f ql) a_sent a_nodeSize a_nodePlace (n + 1) (nI k) := by
  rw [wX_nextSender_2]
  refine pk_le 7 k (fun y => H7 (by omega)) (fun y => ⟨by decide, ?_⟩)
  have e : nI l + nI k - (nI l + nI k) / 7 * 7 + 1 = nI ((l + k) % 7 + 1) := by
    rw [nI_add]
    have := pk_rem (a := l + k) (d := 7) (by omega) (by omega) (by omega)
    rw [show (7 : Int32) = nI 7 from rfl, this, nI_1]
  refine nm_r e ?_
  have Hy := Hy y
  have Hn := Hn y
  have hs8 : (l + k) % 7 + 1 < 8 := by omega
  generalize (l + k) % 7 + 1 = s at *
  obtain ⟨g1, g2⟩ := xr_c8 hs8
  obtain ⟨s1, s2, s3, s4, s5, s6, s7, s8, s9, s10⟩ := hS.2 s hs8
  have h00 := (hS.2 0 (by omega)).2.2.2.2.2.1
  rw [g2]
  refine ⟨g1, br_c (fun y1 => ⟨g1, br_c (fun y2 => ⟨g1, ?_⟩) (fun y2 => ?_)⟩) (fun y1 => ?_)⟩
  · refine pk_le (ql s) 0 (fun y3 => ⟨g1, ?_⟩) (fun y3 => ⟨g1, ?_⟩) rfl rfl (by omega) (by omega)
    · unfold wX_nextSender_80
      refine br_c (fun y4 => nm_r (nI_1 _) (Hn ?_)) (fun y4 => Hy ⟨y1, y2, Or.inr ⟨by omega, ?_⟩⟩)
      · rintro ⟨_, _, w⟩
        rcases w with ⟨w, _⟩ | ⟨_, w⟩
        · omega
        · rw [y4] at w; exact absurd w (by decide)
      · rcases s4 with w | w
        · exact absurd w y4
        · exact w
    · refine pk_le (wo s) 0 (fun y4 => ?_) (fun y4 => ?_) rfl rfl (by omega) (by omega)
      · unfold wX_nextSender_70 wX_nextSender_80
        refine br_t rfl (nm_r (nI_1 _) (Hn ?_))
        rintro ⟨_, _, w⟩
        rcases w with ⟨_, w, _⟩ | ⟨w, _⟩ <;> omega
      · refine pk_le (wo 0) 0 (fun y5 => ?_) (fun y5 => ?_) rfl rfl (by omega) (by omega)
        · unfold wX_nextSender_70 wX_nextSender_80
          refine br_t rfl (nm_r (nI_1 _) (Hn ?_))
          rintro ⟨_, _, w⟩
          rcases w with ⟨_, _, w⟩ | ⟨w, _⟩ <;> omega
        · unfold wX_nextSender_80
          exact br_f (by decide) (Hy ⟨y1, y2, Or.inl ⟨y3, y4, y5⟩⟩)
  · exact nm_r (nI_1 _) (Hn (fun w => y2 w.2.1))
  · exact nm_r (nI_1 _) (Hn (fun w => y1 w.1))
theorem yo_may {s : Nat} {post : Int32 → Prop} (hs8 : s < 8) (hS : cr_S ya_how a_theyEnded ya_otherEnded ya_ended ya_finishing ya_code wi wo ql)
    (Hy : cr_may ya_how ya_ended ya_finishing wo ql s → post 1) (Hn : ¬ cr_may ya_how ya_ended ya_finishing wo ql s → post 0) :
    wpY_may post (yf_down, yf_heads, yf_paid, yf_payload, yf_wants, yf_name, yf_first, yf_counts, yf_enters, yf_most, yf_many, yf_sent, yf_last, yf_nodes, yf_values, yf_skipped, yf_pos, yf_there, yf_number, yf_at, ya_kind, ya_repeated, ya_how, ya_code, ya_coming, an_f wo, ya_type, ya_headers, ya_header, an_f ql, ya_otherEnded, ya_ended, ya_finishing, ya_queue, ya_prefix, ya_length, ya_got, ya_high, ya_whole, ya_has, ya_bytes, ya_frame, ya_payloads, ya_table, ya_out, ya_nodeType, ya_valueNode, ya_valueNumber, ya_value, ya_from, ya_limit, ya_inside, ya_sizes) (nI s) := by
  obtain ⟨g1, g2⟩ := xr_c8 hs8
  obtain ⟨s1, s2, s3, s4, s5, s6, s7, s8, s9, s10⟩ := hS.2 s hs8
  have h00 := (hS.2 0 (by omega)).2.2.2.2.2.1
  unfold wpY_may
  rw [g2]
  refine ⟨g1, br_c (fun y1 => ⟨g1, br_c (fun y2 => ⟨g1, ?_⟩) (fun y2 => Hn (fun w => y2 w.2.1))⟩) (fun y1 => Hn (fun w => y1 w.1))⟩
  refine pk_le (ql s) 0 (fun y3 => ⟨g1, ?_⟩) (fun y3 => ⟨g1, ?_⟩) rfl rfl (by omega) (by omega)
  · rcases s4 with w | w
    · rw [w]
      refine ⟨by rfl, Hn ?_⟩
      rintro ⟨_, _, v⟩
      rcases v with ⟨v, _⟩ | ⟨_, v⟩
      · omega
      · rw [w] at v; exact absurd v (by decide)
    · rw [w]
      exact ⟨by rfl, Hy ⟨y1, y2, Or.inr ⟨by omega, w⟩⟩⟩
  · refine pk_le (wo s) 0 (fun y4 => Hn ?_) (fun y4 => ?_) rfl rfl (by omega) (by omega)
    · rintro ⟨_, _, w⟩
      rcases w with ⟨_, w, _⟩ | ⟨w, _⟩ <;> omega
    · refine pk_le (wo 0) 0 (fun y5 => Hn ?_) (fun y5 => Hy ⟨y1, y2, Or.inl ⟨y3, y4, y5⟩⟩) rfl rfl (by omega) (by omega)
      rintro ⟨_, _, w⟩
      rcases w with ⟨_, _, w⟩ | ⟨w, _⟩ <;> omega
theorem yo_pp {n i b s : Nat} {post : SY → Prop} (hi : i < 7) (hb : b ≤ 7) (hs : s = b % 7 + 1) (hS : cr_S ya_how a_theyEnded ya_otherEnded ya_ended ya_finishing ya_code wi wo ql)
    (Hy : cr_may ya_how ya_ended ya_finishing wo ql s → wpY_send (fun u => match u with | (yf_down, yf_heads, yf_paid, yf_payload, yf_wants, yf_name, yf_first, yf_counts, yf_enters, yf_most, yf_many, yf_sent, yf_last, yf_nodes, yf_values, yf_skipped, yf_pos, yf_there, yf_number, yf_at, ya_kind, ya_repeated, ya_how, ya_code, ya_coming, ya_going, ya_type, ya_headers, ya_header, ya_queued, ya_otherEnded, ya_ended, ya_finishing, ya_queue, ya_prefix, ya_length, ya_got, ya_high, ya_whole, ya_has, ya_bytes, ya_frame, ya_payloads, ya_table, ya_out, ya_nodeType, ya_valueNode, ya_valueNumber, ya_value, ya_from, ya_limit, ya_inside, ya_sizes) => wY_pump_2 post n 0 yf_down yf_heads yf_paid yf_payload yf_wants yf_name yf_first yf_counts yf_enters yf_most yf_many yf_sent yf_last yf_nodes yf_values yf_skipped yf_pos yf_there yf_number yf_at ya_kind ya_repeated ya_how ya_code ya_coming ya_going ya_type ya_headers ya_header ya_queued ya_otherEnded ya_ended ya_finishing ya_queue ya_prefix ya_length ya_got ya_high ya_whole ya_has ya_bytes ya_frame ya_payloads ya_table ya_out ya_nodeType ya_valueNode ya_valueNumber ya_value ya_from ya_limit ya_inside ya_sizes) (0, yf_heads, yf_paid, yf_payload, yf_wants, yf_name, yf_first, yf_counts, yf_enters, yf_most, yf_many, yf_sent, nI s, yf_nodes, yf_values, yf_skipped, yf_pos, yf_there, yf_number, yf_at, ya_kind, ya_repeated, ya_how, ya_code, ya_coming, an_f wo, ya_type, ya_headers, ya_header, an_f ql, ya_otherEnded, ya_ended, ya_finishing, ya_queue, ya_prefix, ya_length, ya_got, ya_high, ya_whole, ya_has, ya_bytes, ya_frame, ya_payloads, ya_table, ya_out, ya_nodeType, ya_valueNode, ya_valueNumber, ya_value, ya_from, ya_limit, ya_inside, ya_sizes) (nI s))
    (Hn : ¬ cr_may ya_how ya_ended ya_finishing wo ql s → wY_pump_2 post n (nI (i + 1)) (0) yf_heads yf_paid yf_payload yf_wants yf_name yf_first yf_counts yf_enters yf_most yf_many yf_sent (nI s) yf_nodes yf_values yf_skipped yf_pos yf_there yf_number yf_at ya_kind ya_repeated ya_how ya_code ya_coming (an_f wo) ya_type ya_headers ya_header (an_f ql) ya_otherEnded ya_ended ya_finishing ya_queue ya_prefix ya_length ya_got ya_high ya_whole ya_has ya_bytes ya_frame ya_payloads ya_table ya_out ya_nodeType ya_valueNode ya_valueNumber ya_value ya_from ya_limit ya_inside ya_sizes) :
    wY_pump_2 post (n + 1) (nI i) (0) yf_heads yf_paid yf_payload yf_wants yf_name yf_first yf_counts yf_enters yf_most yf_many yf_sent (nI b) yf_nodes yf_values yf_skipped yf_pos yf_there yf_number yf_at ya_kind ya_repeated ya_how ya_code ya_coming (an_f wo) ya_type ya_headers ya_header (an_f ql) ya_otherEnded ya_ended ya_finishing ya_queue ya_prefix ya_length ya_got ya_high ya_whole ya_has ya_bytes ya_frame ya_payloads ya_table ya_out ya_nodeType ya_valueNode ya_valueNumber ya_value ya_from ya_limit ya_inside ya_sizes := by
  rw [wY_pump_2]
  refine pk_le 7 i (fun y => absurd y (by omega)) (fun y => br_t rfl ⟨by decide, ?_⟩)
  have e : nI b - nI b / 7 * 7 + 1 = nI s := by
    have := pk_rem (a := b) (d := 7) (by omega) (by omega) (by omega)
    rw [show (7 : Int32) = nI 7 from rfl, this, nI_1, hs]
  refine nm_r e (yo_may (by omega) hS (fun w => ?_) (fun w => ?_))
  · refine br_f (by decide) ?_
    unfold wY_pump_48
    exact br_f (by decide) (Hy w)
  · refine br_t rfl ?_
    unfold wY_pump_48
    refine br_t rfl ?_
    rw [nI_1]
    exact Hn w
end
