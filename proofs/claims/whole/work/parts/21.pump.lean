/-! T: all that may be sent -/
section
def pu_c (g : Nat → Nat) : Nat → Nat
  | 0 => 0
  | m + 1 => pu_c g m + g (m + 1)
theorem pu_c_le {g g' : Nat → Nat} : ∀ m, (∀ i, 1 ≤ i → i ≤ m → g' i ≤ g i) → pu_c g' m ≤ pu_c g m
  | 0, _ => Nat.le_refl _
  | m + 1, h => by
    rw [pu_c, pu_c]
    have h1 := pu_c_le m (fun i h1 h2 => h i h1 (by omega))
    have h2 := h (m + 1) (by omega) (by omega)
    omega
theorem pu_c_lt {g g' : Nat → Nat} {s : Nat} : ∀ m, (∀ i, 1 ≤ i → i ≤ m → g' i ≤ g i) → 1 ≤ s → s ≤ m → g' s < g s → pu_c g' m < pu_c g m
  | 0, _, h1, h2, _ => by omega
  | m + 1, h, h1, h2, h3 => by
    rw [pu_c, pu_c]
    have a1 := pu_c_le m (fun i h1 h2 => h i h1 (by omega))
    have a2 := h (m + 1) (by omega) (by omega)
    by_cases y : s = m + 1
    · subst y; omega
    · have := pu_c_lt m (fun i h1 h2 => h i h1 (by omega)) h1 (by omega) h3
      omega
theorem pu_c_1 {g : Nat → Nat} (h : ∀ i, g i ≤ 1) : ∀ m, pu_c g m ≤ m
  | 0 => Nat.le_refl _
  | m + 1 => by
    rw [pu_c]
    have := pu_c_1 h m
    have := h (m + 1)
    omega
theorem pu_least (P : Nat → Prop) (h : ∃ k, P k) : ∃ k, P k ∧ ∀ j, j < k → ¬ P j := by
  obtain ⟨k, hk⟩ := h
  induction k using Nat.strongRecOn with
  | _ k ih =>
    by_cases g : ∃ j, j < k ∧ P j
    · obtain ⟨j, hj, hp⟩ := g
      exact ih j hj hp
    · exact ⟨k, hk, fun j hj hp => g ⟨j, hj, hp⟩⟩
/-- open and not ended -/
def pu_o (life we : Nat → Int32) (s : Nat) : Nat := if life s = 1 ∧ we s = 0 then 1 else 0
def pu_m (life we : Nat → Int32) (wo : Nat → Nat) : Nat := wo 0 + pu_c (pu_o life we) 7
theorem pu_m_le {life we : Nat → Int32} {wo : Nat → Nat} (h : wo 0 ≤ 255) : pu_m life we wo ≤ 262 := by
  have h1 : ∀ i, pu_o life we i ≤ 1 := by
    intro i; unfold pu_o; split <;> omega
  have h2 := pu_c_1 h1 7
  unfold pu_m
  omega
/-- a stream that sends comes nearer to the end -/
theorem pu_m_lt {life th ot we fi co : Nat → Int32} {wi wo ql : Nat → Nat} {s n l : Nat} (hS : cr_S life th ot we fi co wi wo ql) (h1 : 1 ≤ s) (h8 : s < 8) (hm : cr_may life we fi wo ql s)
    (hn : n = sd_n ql wo s) (hl : l = sd_l fi ql wo s) : pu_m (sd_li life th s l) (sd_we we s l) (sd_wo wo s n) < pu_m life we wo := by
  obtain ⟨m1, m2, m3⟩ := hm
  obtain ⟨n1, n2, n3, n4⟩ := sd_n_le ql wo s
  have e0 : sd_wo wo s n 0 = wo 0 - n := by
    unfold sd_wo
    rw [pm_us, pm_un (by omega)]
  have hle : ∀ i, 1 ≤ i → i ≤ 7 → pu_o (sd_li life th s l) (sd_we we s l) i ≤ pu_o life we i := by
    intro i _ _
    unfold pu_o
    by_cases y : i = s
    · subst y
      rw [if_pos (show life i = 1 ∧ we i = 0 from ⟨m1, m2⟩)]
      split <;> omega
    · have a : sd_li life th s l i = life i := by
        unfold sd_li; split
        · rfl
        · rw [pm_upd_eq, if_neg y]
      have b : sd_we we s l i = we i := by
        unfold sd_we; split
        · rfl
        · rw [pm_upd_eq, if_neg y]
      rw [a, b]; exact Nat.le_refl _
  unfold pu_m
  rw [e0]
  rcases m3 with ⟨q1, q2, q3⟩ | ⟨q1, q2⟩
  · have hp : 1 ≤ n := by
      rw [hn]; unfold sd_n
      split <;> split <;> split <;> omega
    have := pu_c_le 7 hle
    omega
  · have hn0 : n = 0 := by omega
    have hl1 : l = 1 := by
      rw [hl]; unfold sd_l
      rw [if_neg (by rw [q2]; decide), if_pos (by omega)]
    have ha : pu_o life we s = 1 := if_pos ⟨m1, m2⟩
    have hb : pu_o (sd_li life th s l) (sd_we we s l) s = 0 := by
      refine if_neg ?_
      rintro ⟨_, y⟩
      unfold sd_we at y
      rw [if_neg (by omega), pm_upd_eq, if_pos rfl] at y
      exact absurd y (by decide)
    have := pu_c_lt 7 hle h1 (by omega) (by rw [ha, hb]; omega)
    omega
theorem pu_S {life th ot we fi co : Nat → Int32} {wi wo ql : Nat → Nat} {s n l : Nat} (hS : cr_S life th ot we fi co wi wo ql) (h1 : 1 ≤ s) (h8 : s < 8) (hm : cr_may life we fi wo ql s)
    (hn : n = sd_n ql wo s) (hl : l = sd_l fi ql wo s) : cr_S (sd_li life th s l) th ot (sd_we we s l) fi co wi (sd_wo wo s n) (sd_ql ql s n) := by
  obtain ⟨m1, m2, m3⟩ := hm
  obtain ⟨n1, n2, n3, n4⟩ := sd_n_le ql wo s
  refine ⟨?_, fun i hi => ?_⟩
  · unfold sd_li
    split
    · exact hS.1
    · rw [pm_upd_eq, if_neg (by omega)]; exact hS.1
  · obtain ⟨s1, s2, s3, s4, s5, s6, s7, s8, s9, s10⟩ := hS.2 i hi
    have hwo : sd_wo wo s n i ≤ 255 := by
      unfold sd_wo
      by_cases y : i = 0
      · subst y; rw [pm_us, pm_un (by omega)]; omega
      · rw [pm_un y]
        by_cases y2 : i = s
        · subst y2; rw [pm_us]; omega
        · rw [pm_un y2]; exact s6
    have hql : sd_ql ql s n i ≤ 500 := by
      unfold sd_ql
      by_cases y2 : i = s
      · subst y2; rw [pm_us]; omega
      · rw [pm_un y2]; exact s7
    by_cases y : i = s
    · subst y
      have hl01 : l = 0 ∨ (l = 1 ∧ fi i = 1 ∧ n = ql i) := by
        rw [hl]; unfold sd_l
        split
        · left; rfl
        · rename_i y1
          split
          · rename_i y2
            right
            refine ⟨rfl, ?_, by omega⟩
            rcases s4 with y3 | y3
            · exact absurd y3 y1
            · exact y3
          · left; rfl
      rcases hl01 with y0 | ⟨y0, y1, y2⟩
      · have a : sd_li life th i l = life := by unfold sd_li; rw [if_pos (Or.inl y0)]
        have b : sd_we we i l = we := by unfold sd_we; rw [if_pos y0]
        rw [a, b]
        exact ⟨s1, s2, s3, s4, s5, hwo, hql, s8, s9, fun w => by rw [m2] at w; exact absurd w (by decide)⟩
      · have b : sd_we we i l i = 1 := by unfold sd_we; rw [if_neg (by omega), pm_upd_eq, if_pos rfl]
        have hql0 : sd_ql ql i n i = 0 := by unfold sd_ql; rw [pm_us]; omega
        have a : sd_li life th i l i = 1 ∨ sd_li life th i l i = 2 := by
          unfold sd_li
          split
          · left; exact m1
          · right; rw [pm_upd_eq, if_pos rfl]
        refine ⟨by rcases a with a | a; exact Or.inr (Or.inl a); exact Or.inr (Or.inr a), s2, Or.inr b, s4, s5, hwo, hql, fun w => ?_, fun w => ?_, fun _ => ⟨y1, hql0⟩⟩
        · exact s8 (by rw [m1]; decide)
        · exact s9 (by rw [m1]; decide)
    · have a : sd_li life th s l i = life i := by
        unfold sd_li; split
        · rfl
        · rw [pm_upd_eq, if_neg y]
      have b : sd_we we s l i = we i := by
        unfold sd_we; split
        · rfl
        · rw [pm_upd_eq, if_neg y]
      have d : sd_ql ql s n i = ql i := by
        unfold sd_ql; rw [pm_un y]
      rw [a, b, d]
      exact ⟨s1, s2, s3, s4, s5, hwo, s7, s8, s9, s10⟩

variable {f_frameAt f_frameLength f_frameSort f_frameFlags f_frameStream f_down f_entryCount f_most f_typeSeen f_lastSender f_sentLength : Int32} {a_payload a_life a_theyEnded a_weEnded a_finishing a_codes a_windowIn a_windowOut a_headers a_headerCount a_entries a_kinds a_repeats a_messageCount a_text a_nodeCount a_nodeTypes a_valueCount a_valueOwners a_values a_skippedCount a_reader a_chainNode a_chainEnd a_queue a_queueLength a_sent a_nodeSize a_nodePlace : Nat → Int32} {yf_down yf_heads yf_paid yf_payload yf_wants yf_name yf_first yf_counts yf_enters yf_most yf_many yf_sent yf_last yf_nodes yf_values yf_skipped yf_pos yf_there yf_number yf_at : Int32} {ya_kind ya_repeated ya_how ya_code ya_coming ya_going ya_type ya_headers ya_header ya_queued ya_otherEnded ya_ended ya_finishing ya_queue ya_prefix ya_length ya_got ya_high ya_whole ya_has ya_bytes ya_frame ya_payloads ya_table ya_out ya_nodeType ya_valueNode ya_valueNumber ya_value ya_from ya_limit ya_inside ya_sizes : Nat → Int32} {l : Nat} {z : (Nat → Nat) × Nat} {Q ql wo wi : Nat → Nat}
theorem xo_nx {n k : Nat} {post : Int32 → Prop} (hS : cr_S a_life a_theyEnded ya_otherEnded a_weEnded a_finishing a_codes wi wo ql) (hl : l ≤ 7) (hk : k ≤ 7)
    (H7 : k = 7 → post 0) (Hy : k < 7 → cr_may a_life a_weEnded a_finishing wo ql ((l + k) % 7 + 1) → post (nI ((l + k) % 7 + 1)))
    (Hn : k < 7 → ¬ cr_may a_life a_weEnded a_finishing wo ql ((l + k) % 7 + 1) → wX_nextSender_2 post f_frameAt f_frameLength f_frameSort f_frameFlags f_frameStream f_down f_entryCount f_most f_typeSeen (nI l) f_sentLength a_payload a_life a_theyEnded a_weEnded a_finishing a_codes a_windowIn (an_f wo) a_headers a_headerCount a_entries a_kinds a_repeats a_messageCount a_text a_nodeCount a_nodeTypes a_valueCount a_valueOwners a_values a_skippedCount a_reader a_chainNode a_chainEnd a_queue (an_f ql) a_sent a_nodeSize a_nodePlace n (nI (k + 1))) :
    wX_nextSender_2 post f_frameAt f_frameLength f_frameSort f_frameFlags f_frameStream f_down f_entryCount f_most f_typeSeen (nI l) f_sentLength a_payload a_life a_theyEnded a_weEnded a_finishing a_codes a_windowIn (an_f wo) a_headers a_headerCount a_entries a_kinds a_repeats a_messageCount a_text a_nodeCount a_nodeTypes a_valueCount a_valueOwners a_values a_skippedCount a_reader a_chainNode a_chainEnd a_queue (an_f ql) a_sent a_nodeSize a_nodePlace (n + 1) (nI k) := by
  rw [wX_nextSender_2]
  refine pk_le 7 k (fun y => H7 (by omega)) (fun y => ⟨by decide, ?_⟩)
  have e : nI l + nI k - (nI l + nI k) / 7 * 7 + 1 = nI ((l + k) % 7 + 1) := by
    rw [nI_add]
    have := pk_rem (a := l + k) (d := 7) (by omega) (by omega) (by omega)
    rw [show (7 : Int32) = nI 7 from rfl, this, nI_1]
  refine nm_r e ?_
  have Hy := Hy y
  have Hn := Hn y
  have hs8 : (l + k) % 7 + 1 < 8 := by omega
  generalize (l + k) % 7 + 1 = s at *
  obtain ⟨g1, g2⟩ := xr_c8 hs8
  obtain ⟨s1, s2, s3, s4, s5, s6, s7, s8, s9, s10⟩ := hS.2 s hs8
  have h00 := (hS.2 0 (by omega)).2.2.2.2.2.1
  rw [g2]
  refine ⟨g1, br_c (fun y1 => ⟨g1, br_c (fun y2 => ⟨g1, ?_⟩) (fun y2 => ?_)⟩) (fun y1 => ?_)⟩
  · refine pk_le (ql s) 0 (fun y3 => ⟨g1, ?_⟩) (fun y3 => ⟨g1, ?_⟩) rfl rfl (by omega) (by omega)
    · unfold wX_nextSender_80
      refine br_c (fun y4 => nm_r (nI_1 _) (Hn ?_)) (fun y4 => Hy ⟨y1, y2, Or.inr ⟨by omega, ?_⟩⟩)
      · rintro ⟨_, _, w⟩
        rcases w with ⟨w, _⟩ | ⟨_, w⟩
        · omega
        · rw [y4] at w; exact absurd w (by decide)
      · rcases s4 with w | w
        · exact absurd w y4
        · exact w
    · refine pk_le (wo s) 0 (fun y4 => ?_) (fun y4 => ?_) rfl rfl (by omega) (by omega)
      · unfold wX_nextSender_70 wX_nextSender_80
        refine br_t rfl (nm_r (nI_1 _) (Hn ?_))
        rintro ⟨_, _, w⟩
        rcases w with ⟨_, w, _⟩ | ⟨w, _⟩ <;> omega
      · refine pk_le (wo 0) 0 (fun y5 => ?_) (fun y5 => ?_) rfl rfl (by omega) (by omega)
        · unfold wX_nextSender_70 wX_nextSender_80
          refine br_t rfl (nm_r (nI_1 _) (Hn ?_))
          rintro ⟨_, _, w⟩
          rcases w with ⟨_, _, w⟩ | ⟨w, _⟩ <;> omega
        · unfold wX_nextSender_80
          exact br_f (by decide) (Hy ⟨y1, y2, Or.inl ⟨y3, y4, y5⟩⟩)
  · exact nm_r (nI_1 _) (Hn (fun w => y2 w.2.1))
  · exact nm_r (nI_1 _) (Hn (fun w => y1 w.1))
theorem yo_may {s : Nat} {post : Int32 → Prop} (hs8 : s < 8) (hS : cr_S ya_how a_theyEnded ya_otherEnded ya_ended ya_finishing ya_code wi wo ql)
    (Hy : cr_may ya_how ya_ended ya_finishing wo ql s → post 1) (Hn : ¬ cr_may ya_how ya_ended ya_finishing wo ql s → post 0) :
    wpY_may post (yf_down, yf_heads, yf_paid, yf_payload, yf_wants, yf_name, yf_first, yf_counts, yf_enters, yf_most, yf_many, yf_sent, yf_last, yf_nodes, yf_values, yf_skipped, yf_pos, yf_there, yf_number, yf_at, ya_kind, ya_repeated, ya_how, ya_code, ya_coming, an_f wo, ya_type, ya_headers, ya_header, an_f ql, ya_otherEnded, ya_ended, ya_finishing, ya_queue, ya_prefix, ya_length, ya_got, ya_high, ya_whole, ya_has, ya_bytes, ya_frame, ya_payloads, ya_table, ya_out, ya_nodeType, ya_valueNode, ya_valueNumber, ya_value, ya_from, ya_limit, ya_inside, ya_sizes) (nI s) := by
  obtain ⟨g1, g2⟩ := xr_c8 hs8
  obtain ⟨s1, s2, s3, s4, s5, s6, s7, s8, s9, s10⟩ := hS.2 s hs8
  have h00 := (hS.2 0 (by omega)).2.2.2.2.2.1
  unfold wpY_may
  rw [g2]
  refine ⟨g1, br_c (fun y1 => ⟨g1, br_c (fun y2 => ⟨g1, ?_⟩) (fun y2 => Hn (fun w => y2 w.2.1))⟩) (fun y1 => Hn (fun w => y1 w.1))⟩
  refine pk_le (ql s) 0 (fun y3 => ⟨g1, ?_⟩) (fun y3 => ⟨g1, ?_⟩) rfl rfl (by omega) (by omega)
  · rcases s4 with w | w
    · rw [w]
      refine ⟨by rfl, Hn ?_⟩
      rintro ⟨_, _, v⟩
      rcases v with ⟨v, _⟩ | ⟨_, v⟩
      · omega
      · rw [w] at v; exact absurd v (by decide)
    · rw [w]
      exact ⟨by rfl, Hy ⟨y1, y2, Or.inr ⟨by omega, w⟩⟩⟩
  · refine pk_le (wo s) 0 (fun y4 => Hn ?_) (fun y4 => ?_) rfl rfl (by omega) (by omega)
    · rintro ⟨_, _, w⟩
      rcases w with ⟨_, w, _⟩ | ⟨w, _⟩ <;> omega
    · refine pk_le (wo 0) 0 (fun y5 => Hn ?_) (fun y5 => Hy ⟨y1, y2, Or.inl ⟨y3, y4, y5⟩⟩) rfl rfl (by omega) (by omega)
      rintro ⟨_, _, w⟩
      rcases w with ⟨_, _, w⟩ | ⟨w, _⟩ <;> omega
theorem yo_pp {n i b s : Nat} {post : SY → Prop} (hi : i < 7) (hb : b ≤ 7) (hs : s = b % 7 + 1) (hS : cr_S ya_how a_theyEnded ya_otherEnded ya_ended ya_finishing ya_code wi wo ql)
    (Hy : cr_may ya_how ya_ended ya_finishing wo ql s → ∀ P : SY → Prop, (∀ (yf_down : Int32) (yf_heads : Int32) (yf_paid : Int32) (yf_payload : Int32) (yf_wants : Int32) (yf_name : Int32) (yf_first : Int32) (yf_counts : Int32) (yf_enters : Int32) (yf_most : Int32) (yf_many : Int32) (yf_sent : Int32) (yf_last : Int32) (yf_nodes : Int32) (yf_values : Int32) (yf_skipped : Int32) (yf_pos : Int32) (yf_there : Int32) (yf_number : Int32) (yf_at : Int32) (ya_kind : Nat → Int32) (ya_repeated : Nat → Int32) (ya_how : Nat → Int32) (ya_code : Nat → Int32) (ya_coming : Nat → Int32) (ya_going : Nat → Int32) (ya_type : Nat → Int32) (ya_headers : Nat → Int32) (ya_header : Nat → Int32) (ya_queued : Nat → Int32) (ya_otherEnded : Nat → Int32) (ya_ended : Nat → Int32) (ya_finishing : Nat → Int32) (ya_queue : Nat → Int32) (ya_prefix : Nat → Int32) (ya_length : Nat → Int32) (ya_got : Nat → Int32) (ya_high : Nat → Int32) (ya_whole : Nat → Int32) (ya_has : Nat → Int32) (ya_bytes : Nat → Int32) (ya_frame : Nat → Int32) (ya_payloads : Nat → Int32) (ya_table : Nat → Int32) (ya_out : Nat → Int32) (ya_nodeType : Nat → Int32) (ya_valueNode : Nat → Int32) (ya_valueNumber : Nat → Int32) (ya_value : Nat → Int32) (ya_from : Nat → Int32) (ya_limit : Nat → Int32) (ya_inside : Nat → Int32) (ya_sizes : Nat → Int32), P (yf_down, yf_heads, yf_paid, yf_payload, yf_wants, yf_name, yf_first, yf_counts, yf_enters, yf_most, yf_many, yf_sent, yf_last, yf_nodes, yf_values, yf_skipped, yf_pos, yf_there, yf_number, yf_at, ya_kind, ya_repeated, ya_how, ya_code, ya_coming, ya_going, ya_type, ya_headers, ya_header, ya_queued, ya_otherEnded, ya_ended, ya_finishing, ya_queue, ya_prefix, ya_length, ya_got, ya_high, ya_whole, ya_has, ya_bytes, ya_frame, ya_payloads, ya_table, ya_out, ya_nodeType, ya_valueNode, ya_valueNumber, ya_value, ya_from, ya_limit, ya_inside, ya_sizes) = wY_pump_2 post n 0 yf_down yf_heads yf_paid yf_payload yf_wants yf_name yf_first yf_counts yf_enters yf_most yf_many yf_sent yf_last yf_nodes yf_values yf_skipped yf_pos yf_there yf_number yf_at ya_kind ya_repeated ya_how ya_code ya_coming ya_going ya_type ya_headers ya_header ya_queued ya_otherEnded ya_ended ya_finishing ya_queue ya_prefix ya_length ya_got ya_high ya_whole ya_has ya_bytes ya_frame ya_payloads ya_table ya_out ya_nodeType ya_valueNode ya_valueNumber ya_value ya_from ya_limit ya_inside ya_sizes) → wpY_send P (0, yf_heads, yf_paid, yf_payload, yf_wants, yf_name, yf_first, yf_counts, yf_enters, yf_most, yf_many, yf_sent, nI s, yf_nodes, yf_values, yf_skipped, yf_pos, yf_there, yf_number, yf_at, ya_kind, ya_repeated, ya_how, ya_code, ya_coming, an_f wo, ya_type, ya_headers, ya_header, an_f ql, ya_otherEnded, ya_ended, ya_finishing, ya_queue, ya_prefix, ya_length, ya_got, ya_high, ya_whole, ya_has, ya_bytes, ya_frame, ya_payloads, ya_table, ya_out, ya_nodeType, ya_valueNode, ya_valueNumber, ya_value, ya_from, ya_limit, ya_inside, ya_sizes) (nI s))
    (Hn : ¬ cr_may ya_how ya_ended ya_finishing wo ql s → wY_pump_2 post n (nI (i + 1)) (0) yf_heads yf_paid yf_payload yf_wants yf_name yf_first yf_counts yf_enters yf_most yf_many yf_sent (nI s) yf_nodes yf_values yf_skipped yf_pos yf_there yf_number yf_at ya_kind ya_repeated ya_how ya_code ya_coming (an_f wo) ya_type ya_headers ya_header (an_f ql) ya_otherEnded ya_ended ya_finishing ya_queue ya_prefix ya_length ya_got ya_high ya_whole ya_has ya_bytes ya_frame ya_payloads ya_table ya_out ya_nodeType ya_valueNode ya_valueNumber ya_value ya_from ya_limit ya_inside ya_sizes) :
    wY_pump_2 post (n + 1) (nI i) (0) yf_heads yf_paid yf_payload yf_wants yf_name yf_first yf_counts yf_enters yf_most yf_many yf_sent (nI b) yf_nodes yf_values yf_skipped yf_pos yf_there yf_number yf_at ya_kind ya_repeated ya_how ya_code ya_coming (an_f wo) ya_type ya_headers ya_header (an_f ql) ya_otherEnded ya_ended ya_finishing ya_queue ya_prefix ya_length ya_got ya_high ya_whole ya_has ya_bytes ya_frame ya_payloads ya_table ya_out ya_nodeType ya_valueNode ya_valueNumber ya_value ya_from ya_limit ya_inside ya_sizes := by
  rw [wY_pump_2]
  refine pk_le 7 i (fun y => absurd y (by omega)) (fun y => br_t rfl ⟨by decide, ?_⟩)
  have e : nI b - nI b / 7 * 7 + 1 = nI s := by
    have := pk_rem (a := b) (d := 7) (by omega) (by omega) (by omega)
    rw [show (7 : Int32) = nI 7 from rfl, this, nI_1, hs]
  refine nm_r e (yo_may (by omega) hS (fun w => ?_) (fun w => ?_))
  · refine br_f (by decide) ?_
    unfold wY_pump_48
    refine br_f (by decide) (Hy w _ ?_)
    intros; rfl
  · refine br_t rfl ?_
    unfold wY_pump_48
    refine br_t rfl ?_
    rw [nI_1]
    exact Hn w
theorem xo_nxL {n j : Nat} {post : Int32 → Prop} (hS : cr_S a_life a_theyEnded ya_otherEnded a_weEnded a_finishing a_codes wi wo ql) (hl : l ≤ 7) (hj : j ≤ 7)
    (hno : ∀ i, i < j → ¬ cr_may a_life a_weEnded a_finishing wo ql ((l + i) % 7 + 1))
    (H : wX_nextSender_2 post f_frameAt f_frameLength f_frameSort f_frameFlags f_frameStream f_down f_entryCount f_most f_typeSeen (nI l) f_sentLength a_payload a_life a_theyEnded a_weEnded a_finishing a_codes a_windowIn (an_f wo) a_headers a_headerCount a_entries a_kinds a_repeats a_messageCount a_text a_nodeCount a_nodeTypes a_valueCount a_valueOwners a_values a_skippedCount a_reader a_chainNode a_chainEnd a_queue (an_f ql) a_sent a_nodeSize a_nodePlace n (nI j)) : ∀ r k, k + r = j →
    wX_nextSender_2 post f_frameAt f_frameLength f_frameSort f_frameFlags f_frameStream f_down f_entryCount f_most f_typeSeen (nI l) f_sentLength a_payload a_life a_theyEnded a_weEnded a_finishing a_codes a_windowIn (an_f wo) a_headers a_headerCount a_entries a_kinds a_repeats a_messageCount a_text a_nodeCount a_nodeTypes a_valueCount a_valueOwners a_values a_skippedCount a_reader a_chainNode a_chainEnd a_queue (an_f ql) a_sent a_nodeSize a_nodePlace (n + r) (nI k)
  | 0, k, hk => by
    have : k = j := by omega
    subst this; exact H
  | r + 1, k, hk => xo_nx hS hl (by omega) (fun y => absurd y (by omega)) (fun _ y => absurd y (hno k (by omega))) (fun _ _ => xo_nxL hS hl hj hno H r (k + 1) (by omega))
/-- where the reference looks -/
def pu_b (l i : Nat) : Nat := if i = 0 then (if l = 0 then 7 else l) else (l + i - 1) % 7 + 1
theorem pu_b_s {l i : Nat} : pu_b l (i + 1) = pu_b l i % 7 + 1 := by
  unfold pu_b
  rw [if_neg (by omega)]
  split
  · split <;> omega
  · omega
theorem pu_b_le {l i : Nat} (hl : l ≤ 7) : pu_b l i ≤ 7 := by
  unfold pu_b
  split
  · split <;> omega
  · omega
theorem yo_ppL {n j : Nat} {post : SY → Prop} (hS : cr_S ya_how a_theyEnded ya_otherEnded ya_ended ya_finishing ya_code wi wo ql) (hl : l ≤ 7) (hj : j ≤ 7)
    (hno : ∀ i, i < j → ¬ cr_may ya_how ya_ended ya_finishing wo ql ((l + i) % 7 + 1))
    (H : wY_pump_2 post n (nI j) (0) yf_heads yf_paid yf_payload yf_wants yf_name yf_first yf_counts yf_enters yf_most yf_many yf_sent (nI (pu_b l j)) yf_nodes yf_values yf_skipped yf_pos yf_there yf_number yf_at ya_kind ya_repeated ya_how ya_code ya_coming (an_f wo) ya_type ya_headers ya_header (an_f ql) ya_otherEnded ya_ended ya_finishing ya_queue ya_prefix ya_length ya_got ya_high ya_whole ya_has ya_bytes ya_frame ya_payloads ya_table ya_out ya_nodeType ya_valueNode ya_valueNumber ya_value ya_from ya_limit ya_inside ya_sizes) : ∀ r i, i + r = j →
    wY_pump_2 post (n + r) (nI i) (0) yf_heads yf_paid yf_payload yf_wants yf_name yf_first yf_counts yf_enters yf_most yf_many yf_sent (nI (pu_b l i)) yf_nodes yf_values yf_skipped yf_pos yf_there yf_number yf_at ya_kind ya_repeated ya_how ya_code ya_coming (an_f wo) ya_type ya_headers ya_header (an_f ql) ya_otherEnded ya_ended ya_finishing ya_queue ya_prefix ya_length ya_got ya_high ya_whole ya_has ya_bytes ya_frame ya_payloads ya_table ya_out ya_nodeType ya_valueNode ya_valueNumber ya_value ya_from ya_limit ya_inside ya_sizes
  | 0, i, hi => by
    have : i = j := by omega
    subst this; exact H
  | r + 1, i, hi => by
    have hb : pu_b l (i + 1) = (l + i) % 7 + 1 := by
      unfold pu_b; rw [if_neg (by omega)]; rfl
    refine yo_pp (by omega) (pu_b_le hl) pu_b_s hS (fun y => ?_) (fun _ => yo_ppL hS hl hj hno H r (i + 1) (by omega))
    rw [hb] at y
    exact absurd y (hno i (by omega))
/-- the loops of both sides, to one end -/
theorem pu_main : ∀ N (a_life a_weEnded : Nat → Int32) (wo ql Q : Nat → Nat) (z : (Nat → Nat) × Nat) (l : Nat),
    cr_S a_life a_theyEnded ya_otherEnded a_weEnded a_finishing a_codes wi wo ql → ou_I z → cr_B Q → l ≤ 7 → pu_m a_life a_weEnded wo ≤ N →
    ∃ (life' we' : Nat → Int32) (wo' ql' Q' : Nat → Nat) (z' : (Nat → Nat) × Nat) (l' : Nat),
      cr_S life' a_theyEnded ya_otherEnded we' a_finishing a_codes wi wo' ql' ∧ ou_I z' ∧ cr_B Q' ∧ l' ≤ 7 ∧ cr_Q life' we' a_finishing wo' ql' ∧ (∀ s, life' s = a_life s ∨ (a_life s = 1 ∧ life' s = 2)) ∧
      (∀ (post : SX → Prop) turn n, turn + N < 100000 → N < n → post (f_frameAt, f_frameLength, f_frameSort, f_frameFlags, f_frameStream, f_down, f_entryCount, f_most, f_typeSeen, nI l', nI z'.2, a_payload, life', a_theyEnded, we', a_finishing, a_codes, a_windowIn, an_f wo', a_headers, a_headerCount, a_entries, a_kinds, a_repeats, a_messageCount, a_text, a_nodeCount, a_nodeTypes, a_valueCount, a_valueOwners, a_values, a_skippedCount, a_reader, a_chainNode, a_chainEnd, an_f Q', an_f ql', an_f z'.1, a_nodeSize, a_nodePlace) →
        wX_sendQueues_2 post n (nI turn) f_frameAt f_frameLength f_frameSort f_frameFlags f_frameStream f_down f_entryCount f_most f_typeSeen (nI l) (nI z.2) a_payload a_life a_theyEnded a_weEnded a_finishing a_codes a_windowIn (an_f wo) a_headers a_headerCount a_entries a_kinds a_repeats a_messageCount a_text a_nodeCount a_nodeTypes a_valueCount a_valueOwners a_values a_skippedCount a_reader a_chainNode a_chainEnd (an_f Q) (an_f ql) (an_f z.1) a_nodeSize a_nodePlace) ∧
      (∀ (a : yr_Z) (t : Int32) (sz : Nat → Int32) (post : SY → Prop) n, 8 * N + 8 ≤ n → post (0, yf_heads, yf_paid, yf_payload, yf_wants, yf_name, yf_first, yf_counts, yf_enters, yf_most, yf_many, nI z'.2, nI (if l' = 0 then 7 else l'), a.1, a.2.1, a.2.2.1, a.2.2.2.1, t, a.2.2.2.2.1, a.2.2.2.2.2.1, ya_kind, ya_repeated, life', a_codes, ya_coming, an_f wo', ya_type, ya_headers, ya_header, an_f ql', ya_otherEnded, we', a_finishing, an_g Q', ya_prefix, ya_length, ya_got, ya_high, ya_whole, ya_has, ya_bytes, ya_frame, ya_payloads, ya_table, an_g z'.1, a.2.2.2.2.2.2.1, a.2.2.2.2.2.2.2.1, a.2.2.2.2.2.2.2.2.1, a.2.2.2.2.2.2.2.2.2.1, a.2.2.2.2.2.2.2.2.2.2.1, a.2.2.2.2.2.2.2.2.2.2.2.1, a.2.2.2.2.2.2.2.2.2.2.2.2, sz) →
        wY_pump_2 post n 0 (0) yf_heads yf_paid yf_payload yf_wants yf_name yf_first yf_counts yf_enters yf_most yf_many (nI z.2) (nI (if l = 0 then 7 else l)) (a.1) (a.2.1) (a.2.2.1) (a.2.2.2.1) (t) (a.2.2.2.2.1) (a.2.2.2.2.2.1) ya_kind ya_repeated (a_life) (a_codes) ya_coming (an_f wo) ya_type ya_headers ya_header (an_f ql) ya_otherEnded (a_weEnded) (a_finishing) (an_g Q) ya_prefix ya_length ya_got ya_high ya_whole ya_has ya_bytes ya_frame ya_payloads ya_table (an_g z.1) (a.2.2.2.2.2.2.1) (a.2.2.2.2.2.2.2.1) (a.2.2.2.2.2.2.2.2.1) (a.2.2.2.2.2.2.2.2.2.1) (a.2.2.2.2.2.2.2.2.2.2.1) (a.2.2.2.2.2.2.2.2.2.2.2.1) (a.2.2.2.2.2.2.2.2.2.2.2.2) (sz)) := by
  have hnone : ∀ N (a_life a_weEnded : Nat → Int32) (wo ql Q : Nat → Nat) (z : (Nat → Nat) × Nat) (l : Nat), cr_S a_life a_theyEnded ya_otherEnded a_weEnded a_finishing a_codes wi wo ql → ou_I z → cr_B Q → l ≤ 7 →
      (∀ j, j < 7 → ¬ cr_may a_life a_weEnded a_finishing wo ql ((l + j) % 7 + 1)) →
    ∃ (life' we' : Nat → Int32) (wo' ql' Q' : Nat → Nat) (z' : (Nat → Nat) × Nat) (l' : Nat),
      cr_S life' a_theyEnded ya_otherEnded we' a_finishing a_codes wi wo' ql' ∧ ou_I z' ∧ cr_B Q' ∧ l' ≤ 7 ∧ cr_Q life' we' a_finishing wo' ql' ∧ (∀ s, life' s = a_life s ∨ (a_life s = 1 ∧ life' s = 2)) ∧
      (∀ (post : SX → Prop) turn n, turn + N < 100000 → N < n → post (f_frameAt, f_frameLength, f_frameSort, f_frameFlags, f_frameStream, f_down, f_entryCount, f_most, f_typeSeen, nI l', nI z'.2, a_payload, life', a_theyEnded, we', a_finishing, a_codes, a_windowIn, an_f wo', a_headers, a_headerCount, a_entries, a_kinds, a_repeats, a_messageCount, a_text, a_nodeCount, a_nodeTypes, a_valueCount, a_valueOwners, a_values, a_skippedCount, a_reader, a_chainNode, a_chainEnd, an_f Q', an_f ql', an_f z'.1, a_nodeSize, a_nodePlace) →
        wX_sendQueues_2 post n (nI turn) f_frameAt f_frameLength f_frameSort f_frameFlags f_frameStream f_down f_entryCount f_most f_typeSeen (nI l) (nI z.2) a_payload a_life a_theyEnded a_weEnded a_finishing a_codes a_windowIn (an_f wo) a_headers a_headerCount a_entries a_kinds a_repeats a_messageCount a_text a_nodeCount a_nodeTypes a_valueCount a_valueOwners a_values a_skippedCount a_reader a_chainNode a_chainEnd (an_f Q) (an_f ql) (an_f z.1) a_nodeSize a_nodePlace) ∧
      (∀ (a : yr_Z) (t : Int32) (sz : Nat → Int32) (post : SY → Prop) n, 8 * N + 8 ≤ n → post (0, yf_heads, yf_paid, yf_payload, yf_wants, yf_name, yf_first, yf_counts, yf_enters, yf_most, yf_many, nI z'.2, nI (if l' = 0 then 7 else l'), a.1, a.2.1, a.2.2.1, a.2.2.2.1, t, a.2.2.2.2.1, a.2.2.2.2.2.1, ya_kind, ya_repeated, life', a_codes, ya_coming, an_f wo', ya_type, ya_headers, ya_header, an_f ql', ya_otherEnded, we', a_finishing, an_g Q', ya_prefix, ya_length, ya_got, ya_high, ya_whole, ya_has, ya_bytes, ya_frame, ya_payloads, ya_table, an_g z'.1, a.2.2.2.2.2.2.1, a.2.2.2.2.2.2.2.1, a.2.2.2.2.2.2.2.2.1, a.2.2.2.2.2.2.2.2.2.1, a.2.2.2.2.2.2.2.2.2.2.1, a.2.2.2.2.2.2.2.2.2.2.2.1, a.2.2.2.2.2.2.2.2.2.2.2.2, sz) →
        wY_pump_2 post n 0 (0) yf_heads yf_paid yf_payload yf_wants yf_name yf_first yf_counts yf_enters yf_most yf_many (nI z.2) (nI (if l = 0 then 7 else l)) (a.1) (a.2.1) (a.2.2.1) (a.2.2.2.1) (t) (a.2.2.2.2.1) (a.2.2.2.2.2.1) ya_kind ya_repeated (a_life) (a_codes) ya_coming (an_f wo) ya_type ya_headers ya_header (an_f ql) ya_otherEnded (a_weEnded) (a_finishing) (an_g Q) ya_prefix ya_length ya_got ya_high ya_whole ya_has ya_bytes ya_frame ya_payloads ya_table (an_g z.1) (a.2.2.2.2.2.2.1) (a.2.2.2.2.2.2.2.1) (a.2.2.2.2.2.2.2.2.1) (a.2.2.2.2.2.2.2.2.2.1) (a.2.2.2.2.2.2.2.2.2.2.1) (a.2.2.2.2.2.2.2.2.2.2.2.1) (a.2.2.2.2.2.2.2.2.2.2.2.2) (sz)) := by
    intro N a_life a_weEnded wo ql Q z l hS hO hQ hl hno
    refine ⟨a_life, a_weEnded, wo, ql, Q, z, l, hS, hO, hQ, hl, ?_, fun s => Or.inl rfl, ?_, ?_⟩
    · intro s h1 h8 hm
      have := hno ((s + 13 - l) % 7) (by omega)
      rw [show (l + (s + 13 - l) % 7) % 7 + 1 = s by omega] at this
      exact this hm
    · intro post turn n ht hn H
      obtain ⟨n, rfl⟩ : ∃ m, n = m + 1 := ⟨n - 1, by omega⟩
      rw [wX_sendQueues_2]
      refine pk_le 100000 turn (fun y => absurd y (by omega)) (fun _ => ?_)
      unfold wpX_nextSender
      refine ⟨1 + 7, xo_nxL hS hl (Nat.le_refl _) hno ?_ 7 0 rfl⟩
      rw [wX_nextSender_2]
      exact br_t (by decide) (br_t rfl H)
    · intro a t sz post n hn H
      obtain ⟨n, rfl⟩ : ∃ m, n = (m + 1) + 7 := ⟨n - 8, by omega⟩
      refine yo_ppL (n := n + 1) (j := 7) hS hl (Nat.le_refl _) hno ?_ 7 0 rfl
      rw [wY_pump_2]
      have e : pu_b l 7 = if l = 0 then 7 else l := by
        unfold pu_b
        rw [if_neg (by omega)]
        split <;> omega
      rw [e]
      exact br_t (by decide) H
  intro N
  induction N with
  | zero =>
    intro a_life a_weEnded wo ql Q z l hS hO hQ hl hm
    refine hnone 0 a_life a_weEnded wo ql Q z l hS hO hQ hl (fun j hj y => ?_)
    have := pu_m_lt hS (by omega) (by omega) y rfl rfl
    omega
  | succ N ih =>
    intro a_life a_weEnded wo ql Q z l hS hO hQ hl hm
    by_cases hex : ∃ j, j < 7 ∧ cr_may a_life a_weEnded a_finishing wo ql ((l + j) % 7 + 1)
    · obtain ⟨j, ⟨hj, hy⟩, hmin⟩ := pu_least _ hex
      have hno : ∀ i, i < j → ¬ cr_may a_life a_weEnded a_finishing wo ql ((l + i) % 7 + 1) := fun i hi y => hmin i hi ⟨by omega, y⟩
      have hs1 : 1 ≤ (l + j) % 7 + 1 := by omega
      have hs8 : (l + j) % 7 + 1 < 8 := by omega
      have hlt := pu_m_lt hS hs1 hs8 hy rfl rfl
      have hS' := pu_S hS hs1 hs8 hy rfl rfl
      obtain ⟨n1, n2, n3, n4⟩ := sd_n_le ql wo ((l + j) % 7 + 1)
      have hsl : sd_l a_finishing ql wo ((l + j) % 7 + 1) ≤ 1 := by
        unfold sd_l
        split
        · omega
        · split <;> omega
      generalize hs : (l + j) % 7 + 1 = s at *
      generalize hn : sd_n ql wo s = n at *
      generalize hll : sd_l a_finishing ql wo s = ll at *
      obtain ⟨s1, s2, s3, s4, s5, s6, s7, s8, s9, s10⟩ := hS.2 s hs8
      have h00 := (hS.2 0 (by omega)).2.2.2.2.2.1
      have hot : ya_otherEnded s = a_theyEnded s := s8 (by rw [hy.1]; decide)
      have hO' : ou_I (sd_z z Q s n ll) := by
        unfold sd_z
        refine ou_L_I (ou_L_I hO ?_) ?_
        · intro b hb
          simp only [List.mem_cons, List.not_mem_nil, or_false] at hb
          rcases hb with hb | hb | hb | hb <;> omega
        · intro b hb
          unfold sd_bs at hb
          obtain ⟨i, _, rfl⟩ := List.mem_map.mp hb
          exact hQ _
      have hQ' : cr_B (sd_Q Q s n (ql s)) := by
        intro i
        unfold sd_Q
        split
        · exact hQ _
        · exact hQ _
      obtain ⟨life', we', wo', ql', Q', z', l', r1, r2, r3, r4, r5, r6, r7, r8⟩ := ih _ _ _ _ _ _ s hS' hO' hQ' (by omega) (by omega)
      refine ⟨life', we', wo', ql', Q', z', l', r1, r2, r3, r4, r5, fun i => ?_, ?_, ?_⟩
      · have : sd_li a_life a_theyEnded s ll i = a_life i ∨ (a_life i = 1 ∧ sd_li a_life a_theyEnded s ll i = 2) := by
          unfold sd_li
          split
          · exact Or.inl rfl
          · by_cases y : i = s
            · subst y; right; exact ⟨hy.1, by rw [pm_upd_eq, if_pos rfl]⟩
            · left; rw [pm_upd_eq, if_neg y]
        rcases r6 i with y | ⟨y, y'⟩
        · rw [y]; exact this
        · rcases this with w | ⟨w, w'⟩
          · rw [w] at y; exact Or.inr ⟨y, y'⟩
          · rw [w'] at y; exact absurd y (by decide)
      · intro post turn m ht hmm H
        obtain ⟨m, rfl⟩ : ∃ m', m = m' + 1 := ⟨m - 1, by omega⟩
        rw [wX_sendQueues_2]
        refine pk_le 100000 turn (fun y => absurd y (by omega)) (fun _ => ?_)
        unfold wpX_nextSender
        refine ⟨1 + j, xo_nxL (n := 1) hS hl (by omega) hno ?_ j 0 (by omega)⟩
        refine xo_nx hS hl (by omega) (fun y => absurd y (by omega)) (fun _ _ => ?_) (fun _ y => absurd (by rw [hs]; exact hy) y)
        rw [hs]
        refine br_f (fun y => ?_) ?_
        · have := (nI_eq (a := s) (b := 0) (by omega) (by omega)).mp y
          omega
        · exact xo_sendData (by omega) hs8 s7 s6 h00 hO.1 hn.symm hll.symm (nm_r (nI_1 _) (r7 post (turn + 1) m (by omega) (by omega) H))
      · intro a t sz post m hmm H
        obtain ⟨m, rfl⟩ : ∃ m', m = (m' + 1) + j := ⟨m - j - 1, by omega⟩
        refine yo_ppL (n := m + 1) (j := j) hS hl (by omega) hno ?_ j 0 (by omega)
        have hb : pu_b l j % 7 + 1 = s := by
          rw [← pu_b_s]; unfold pu_b; rw [if_neg (by omega)]; exact hs
        refine yo_pp hj (pu_b_le hl) hb.symm hS (fun _ P hP => ?_) (fun y => absurd hy y)
        refine yo_send (by omega) hs8 s7 s6 h00 hO.1 hn.symm hll.symm (fun y1 y2 => ⟨s9 (by rw [hy.1]; decide) (by omega), ?_⟩) ?_
        · rw [← hll] at y1
          unfold sd_l at y1
          split at y1
          · omega
          · split at y1
            · rename_i w; rw [← hn]; exact w
            · omega
        · rw [hP]
          have e : sd_li a_life ya_otherEnded s ll = sd_li a_life a_theyEnded s ll := by
            unfold sd_li; rw [hot]
          rw [e]
          have := r8 a t sz post m (by omega) H
          rw [if_neg (by omega)] at this
          exact this
    · exact hnone (N + 1) a_life a_weEnded wo ql Q z l hS hO hQ hl (fun j hj y => hex ⟨j, hj, y⟩)
end
