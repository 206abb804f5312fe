/-! Y: calls that look at a message -/
section
variable {f_frameAt f_frameLength f_frameSort f_frameFlags f_frameStream f_down f_entryCount f_most f_typeSeen f_lastSender f_sentLength : Int32} {a_payload a_life a_theyEnded a_weEnded a_finishing a_codes a_windowIn a_windowOut a_headers a_headerCount a_entries a_kinds a_repeats a_messageCount a_text a_nodeCount a_nodeTypes a_valueCount a_valueOwners a_values a_skippedCount a_reader a_chainNode a_chainEnd a_queue a_queueLength a_sent a_nodeSize a_nodePlace : Nat → Int32} {yf_down yf_heads yf_paid yf_payload yf_wants yf_name yf_first yf_counts yf_enters yf_most yf_many yf_sent yf_last yf_nodes yf_values yf_skipped yf_pos yf_there yf_number yf_at : Int32} {ya_kind ya_repeated ya_how ya_code ya_coming ya_going ya_type ya_headers ya_header ya_queued ya_otherEnded ya_ended ya_finishing ya_queue ya_prefix ya_length ya_got ya_high ya_whole ya_has ya_bytes ya_frame ya_payloads ya_table ya_out ya_nodeType ya_valueNode ya_valueNumber ya_value ya_from ya_limit ya_inside ya_sizes : Nat → Int32} {k s : Nat} {K : Nat → Nat} {R : Nat → Bool} {tx : Nat → Nat}
theorem lo_X (hs1 : 1 ≤ s) (hs : s < 8) (hk : k < 2 ^ 31)
    (hm : cr_m k K R s tx a_life a_messageCount a_nodeCount a_nodeTypes a_valueCount a_valueOwners a_values a_skippedCount a_reader a_chainNode a_chainEnd ya_type ya_length ya_got ya_high ya_has ya_prefix) {post : Int32 → Prop}
    (H1 : ya_has s = 1 → post 1) (H0 : ya_has s = 0 → post 0) : wpX_hasMessage post (f_frameAt, f_frameLength, f_frameSort, f_frameFlags, f_frameStream, f_down, f_entryCount, f_most, f_typeSeen, f_lastSender, f_sentLength, a_payload, a_life, a_theyEnded, a_weEnded, a_finishing, a_codes, a_windowIn, a_windowOut, a_headers, a_headerCount, a_entries, a_kinds, a_repeats, a_messageCount, a_text, a_nodeCount, a_nodeTypes, a_valueCount, a_valueOwners, a_values, a_skippedCount, a_reader, a_chainNode, a_chainEnd, a_queue, a_queueLength, a_sent, a_nodeSize, a_nodePlace) (nI s) := by
  obtain ⟨p, m, y, h1, h2, h3, h4, h5, h6, h7, h8⟩ := hm
  obtain ⟨g1, g2, g3, g4, g5⟩ := lk_s s hs
  have i0 := xr_ix (s := s) (k := 0) hs (by omega)
  have c0 : (nI (11 * s) + 0).toNatClampNeg = 11 * s := i0.2.2
  unfold wpX_hasMessage
  dsimp only
  rw [g5, h5, i0.1, c0, h3]
  refine br_f (g4 hs1).1 (br_f g3 ⟨lk_in hs, pk_le m 0 (fun w => H0 ?_) (fun w => ⟨i0.2.1, pk_le 3 p (fun w' => H0 ?_) (fun w' => H1 ?_)⟩)⟩)
  · rw [h7, if_neg (by omega)]
  · rw [h7, if_neg (by omega)]
  · rw [h7, if_pos ⟨by omega, w'⟩]
theorem lo_Xn {post : Int32 → Prop} {x : Int32} (hx : x < 1 ∨ (¬ x < 1 ∧ 7 < x)) (h : post 0) : wpX_hasMessage post (f_frameAt, f_frameLength, f_frameSort, f_frameFlags, f_frameStream, f_down, f_entryCount, f_most, f_typeSeen, f_lastSender, f_sentLength, a_payload, a_life, a_theyEnded, a_weEnded, a_finishing, a_codes, a_windowIn, a_windowOut, a_headers, a_headerCount, a_entries, a_kinds, a_repeats, a_messageCount, a_text, a_nodeCount, a_nodeTypes, a_valueCount, a_valueOwners, a_values, a_skippedCount, a_reader, a_chainNode, a_chainEnd, a_queue, a_queueLength, a_sent, a_nodeSize, a_nodePlace) x := by
  unfold wpX_hasMessage
  rcases hx with g | ⟨g1, g2⟩
  · exact br_t g h
  · exact br_f g1 (br_t g2 h)
theorem lo_Yn {post : Int32 → SY → Prop} {x : Int32} (hx : x < 1 ∨ (¬ x < 1 ∧ ¬ x ≤ 7)) (h : post 0 (yf_down, yf_heads, yf_paid, yf_payload, yf_wants, yf_name, yf_first, yf_counts, yf_enters, yf_most, yf_many, yf_sent, yf_last, yf_nodes, yf_values, yf_skipped, yf_pos, yf_there, yf_number, yf_at, ya_kind, ya_repeated, ya_how, ya_code, ya_coming, ya_going, ya_type, ya_headers, ya_header, ya_queued, ya_otherEnded, ya_ended, ya_finishing, ya_queue, ya_prefix, ya_length, ya_got, ya_high, ya_whole, ya_has, ya_bytes, ya_frame, ya_payloads, ya_table, ya_out, ya_nodeType, ya_valueNode, ya_valueNumber, ya_value, ya_from, ya_limit, ya_inside, ya_sizes)) : wpY_open post (yf_down, yf_heads, yf_paid, yf_payload, yf_wants, yf_name, yf_first, yf_counts, yf_enters, yf_most, yf_many, yf_sent, yf_last, yf_nodes, yf_values, yf_skipped, yf_pos, yf_there, yf_number, yf_at, ya_kind, ya_repeated, ya_how, ya_code, ya_coming, ya_going, ya_type, ya_headers, ya_header, ya_queued, ya_otherEnded, ya_ended, ya_finishing, ya_queue, ya_prefix, ya_length, ya_got, ya_high, ya_whole, ya_has, ya_bytes, ya_frame, ya_payloads, ya_table, ya_out, ya_nodeType, ya_valueNode, ya_valueNumber, ya_value, ya_from, ya_limit, ya_inside, ya_sizes) x := by
  unfold wpY_open
  rcases hx with g | ⟨g1, g2⟩
  · exact yn_lo g (br_f (by decide) h)
  · exact yn_hi g1 g2 (br_f (by decide) h)
theorem lo_Y0 {post : Int32 → SY → Prop} (hs1 : 1 ≤ s) (hs : s < 8) (h0 : ya_has s = 0) (h : post 0 (yf_down, yf_heads, yf_paid, yf_payload, yf_wants, yf_name, yf_first, yf_counts, yf_enters, yf_most, yf_many, yf_sent, yf_last, yf_nodes, yf_values, yf_skipped, yf_pos, yf_there, yf_number, yf_at, ya_kind, ya_repeated, ya_how, ya_code, ya_coming, ya_going, ya_type, ya_headers, ya_header, ya_queued, ya_otherEnded, ya_ended, ya_finishing, ya_queue, ya_prefix, ya_length, ya_got, ya_high, ya_whole, ya_has, ya_bytes, ya_frame, ya_payloads, ya_table, ya_out, ya_nodeType, ya_valueNode, ya_valueNumber, ya_value, ya_from, ya_limit, ya_inside, ya_sizes)) : wpY_open post (yf_down, yf_heads, yf_paid, yf_payload, yf_wants, yf_name, yf_first, yf_counts, yf_enters, yf_most, yf_many, yf_sent, yf_last, yf_nodes, yf_values, yf_skipped, yf_pos, yf_there, yf_number, yf_at, ya_kind, ya_repeated, ya_how, ya_code, ya_coming, ya_going, ya_type, ya_headers, ya_header, ya_queued, ya_otherEnded, ya_ended, ya_finishing, ya_queue, ya_prefix, ya_length, ya_got, ya_high, ya_whole, ya_has, ya_bytes, ya_frame, ya_payloads, ya_table, ya_out, ya_nodeType, ya_valueNode, ya_valueNumber, ya_value, ya_from, ya_limit, ya_inside, ya_sizes) (nI s) := by
  obtain ⟨g1, g2, g3, g4, g5⟩ := lk_s s hs
  unfold wpY_open
  rw [g5]
  exact yn_in (g4 hs1).1 g2 (br_t rfl ⟨lk_in hs, br_t h0 h⟩)
theorem cr_by_B (hX : cr_B tx) : yr_B tx s (cr_by tx s) := by
  refine ⟨hX, fun i => ?_, fun i hi => ?_⟩
  · unfold cr_by
    split
    · exact hX _
    · omega
  · unfold cr_by; rw [if_pos hi]
theorem lo_Y1 {T y : Nat} {c : pm_C} {post : Int32 → SY → Prop} (hs1 : 1 ≤ s) (hs : s < 8) (hy : y < 4) (hL : T ≤ 200) (hK : cr_K ya_kind ya_repeated K R) (hX : cr_B tx) (h1 : ya_has s = 1)
    (hty : ya_type s = nI y) (hle : ya_length s = nI T) (hgo : ya_got s = nI T) (hrd : pm_Rd (cr_by tx s) K R T (cr_0 y T) (0, c))
    (H : ∀ (z' : yr_Z), yr_ok c (pm_pos c) z' → post 1 (yf_down, yf_heads, yf_paid, yf_payload, yf_wants, yf_name, yf_first, yf_counts, yf_enters, yf_most, yf_many, yf_sent, yf_last, z'.1, z'.2.1, z'.2.2.1, z'.2.2.2.1, nI T, z'.2.2.2.2.1, z'.2.2.2.2.2.1, ya_kind, ya_repeated, ya_how, ya_code, ya_coming, ya_going, ya_type, ya_headers, ya_header, ya_queued, ya_otherEnded, ya_ended, ya_finishing, ya_queue, ya_prefix, ya_length, ya_got, ya_high, ya_whole, ya_has, an_g tx, ya_frame, ya_payloads, ya_table, ya_out, z'.2.2.2.2.2.2.1, z'.2.2.2.2.2.2.2.1, z'.2.2.2.2.2.2.2.2.1, z'.2.2.2.2.2.2.2.2.2.1, z'.2.2.2.2.2.2.2.2.2.2.1, z'.2.2.2.2.2.2.2.2.2.2.2.1, z'.2.2.2.2.2.2.2.2.2.2.2.2, ya_sizes)) : wpY_open post (yf_down, yf_heads, yf_paid, yf_payload, yf_wants, yf_name, yf_first, yf_counts, yf_enters, yf_most, yf_many, yf_sent, yf_last, yf_nodes, yf_values, yf_skipped, yf_pos, yf_there, yf_number, yf_at, ya_kind, ya_repeated, ya_how, ya_code, ya_coming, ya_going, ya_type, ya_headers, ya_header, ya_queued, ya_otherEnded, ya_ended, ya_finishing, ya_queue, ya_prefix, ya_length, ya_got, ya_high, ya_whole, ya_has, an_g tx, ya_frame, ya_payloads, ya_table, ya_out, ya_nodeType, ya_valueNode, ya_valueNumber, ya_value, ya_from, ya_limit, ya_inside, ya_sizes) (nI s) := by
  obtain ⟨g1, g2, g3, g4, g5⟩ := lk_s s hs
  unfold wpY_open
  rw [g5]
  refine yn_in (g4 hs1).1 g2 (br_t rfl ⟨lk_in hs, br_f (by rw [h1]; decide) ?_⟩)
  refine yr_read hy hL hK (cr_by_B hX) hs hL hty hle hgo hrd (fun c' z' h2 h3 => ?_) (fun z' h2 => absurd rfl h2)
  have : c' = c := (congrArg Prod.snd h2).symm
  subst this
  exact H z' h3
/-- how many values there are of a field, among the first -/
def lo_c (D : pm_D) (x y : Int32) : Nat → Nat
  | 0 => 0
  | i + 1 => lo_c D x y i + if nI (pm_vn D i) = x ∧ nI (pm_vm D i) = y then 1 else 0
/-- the value behind b others; all of them: there is none -/
def lo_f (D : pm_D) (x y w : Int32) : Nat → Nat → Nat → Nat
  | 0, j, _ => j
  | f + 1, j, b => if nI (pm_vn D j) = x ∧ nI (pm_vm D j) = y then (if nI b = w then j else lo_f D x y w f (j + 1) (b + 1)) else lo_f D x y w f (j + 1) b
theorem lo_f_le {D : pm_D} {x y w : Int32} : ∀ f j b, lo_f D x y w f j b ≤ j + f
  | 0, j, b => Nat.le_refl _
  | f + 1, j, b => by
    rw [lo_f]
    have h1 := lo_f_le (D := D) (x := x) (y := y) (w := w) f (j + 1) (b + 1)
    have h2 := lo_f_le (D := D) (x := x) (y := y) (w := w) f (j + 1) b
    split
    · split <;> omega
    · omega
theorem lo_f_s {D : pm_D} {x y w : Int32} : ∀ f j b, lo_f D x y w f j b < j + f → nI (pm_vn D (lo_f D x y w f j b)) = x ∧ nI (pm_vm D (lo_f D x y w f j b)) = y
  | 0, j, b, h => by
    rw [lo_f] at h; omega
  | f + 1, j, b, h => by
    rw [lo_f] at h ⊢
    by_cases g : nI (pm_vn D j) = x ∧ nI (pm_vm D j) = y
    · rw [if_pos g] at h ⊢
      by_cases g2 : nI b = w
      · rw [if_pos g2]; exact g
      · rw [if_neg g2] at h ⊢
        exact lo_f_s f (j + 1) (b + 1) (by omega)
    · rw [if_neg g] at h ⊢
      exact lo_f_s f (j + 1) b (by omega)
theorem lo_none {D : pm_D} {x y : Int32} (h : ∀ j, j < pm_nv D → ¬ (nI (pm_vn D j) = x ∧ nI (pm_vm D j) = y)) : lo_c D x y (pm_nv D) = 0 ∧ ∀ w, lo_f D x y w (pm_nv D) 0 0 = pm_nv D := by
  constructor
  · have : ∀ i, i ≤ pm_nv D → lo_c D x y i = 0 := by
      intro i
      induction i with
      | zero => intro _; rfl
      | succ i ih =>
        intro hi
        rw [lo_c, ih (by omega), if_neg (h i (by omega))]
    exact this _ (Nat.le_refl _)
  · intro w
    have h1 := lo_f_le (D := D) (x := x) (y := y) (w := w) (pm_nv D) 0 0
    rcases Nat.lt_or_ge (lo_f D x y w (pm_nv D) 0 0) (pm_nv D) with g | g
    · exact absurd (lo_f_s (pm_nv D) 0 0 (by omega)) (h _ g)
    · omega
end
