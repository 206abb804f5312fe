/-! J: how the reference reads: numbers, skips, places -/
section
variable {yf_down yf_heads yf_paid yf_payload yf_wants yf_name yf_first yf_counts yf_enters yf_most yf_many yf_sent yf_last yf_nodes yf_values yf_skipped yf_pos yf_there yf_number yf_at : Int32} {ya_kind ya_repeated ya_how ya_code ya_coming ya_going ya_type ya_headers ya_header ya_queued ya_otherEnded ya_ended ya_finishing ya_queue ya_prefix ya_length ya_got ya_high ya_whole ya_has ya_bytes ya_frame ya_payloads ya_table ya_out ya_nodeType ya_valueNode ya_valueNumber ya_value ya_from ya_limit ya_inside ya_sizes : Nat → Int32} {s q e T : Nat} {tx B : Nat → Nat}
def yr_c (c : Nat) : Int32 := if c = 9 then -1 else nI c
theorem yr_ix (s i : Nat) : 200 * nI s + nI i = nI (200 * s + i) := by
  rw [show (200 : Int32) = nI 200 from rfl, pk_mul, nI_add]
/-- the bytes of one stream -/
def yr_B (tx : Nat → Nat) (s : Nat) (B : Nat → Nat) : Prop := cr_B tx ∧ (∀ i, B i < 256) ∧ ∀ i, i < 200 → B i = tx (200 * s + i)
theorem yr_by {i : Nat} (hx : yr_B tx s B) (hs : s < 8) (hi : i < 200) : vp_in (200 * nI s + nI i) 1600 ∧ (an_g tx (200 * nI s + nI i).toNatClampNeg) &&& 255 = nI (B i) := by
  rw [yr_ix]
  refine ⟨vp_in_nI (by omega) (by omega), ?_⟩
  rw [nI_clamp (by omega), an_ga, an_255 _ (hx.1 _), hx.2.2 i hi]
theorem yr_var7 (hx : yr_B tx s B) (hs : s < 8) (hT : T ≤ 200) (he : e ≤ 200) {post : Int32 → SY → Prop} : ∀ f k, k + f = 10 → q + k ≤ T →
    (∀ c k', pm_vr B q e T f k = (c, k') → post (yr_c c) (yf_down, yf_heads, yf_paid, yf_payload, yf_wants, yf_name, yf_first, yf_counts, yf_enters, yf_most, yf_many, yf_sent, yf_last, yf_nodes, yf_values, yf_skipped, nI (q + k'), nI T, pm_vs B q k', yf_at, ya_kind, ya_repeated, ya_how, ya_code, ya_coming, ya_going, ya_type, ya_headers, ya_header, ya_queued, ya_otherEnded, ya_ended, ya_finishing, ya_queue, ya_prefix, ya_length, ya_got, ya_high, ya_whole, ya_has, an_g tx, ya_frame, ya_payloads, ya_table, ya_out, ya_nodeType, ya_valueNode, ya_valueNumber, ya_value, ya_from, ya_limit, ya_inside, ya_sizes)) →
    wY_varint_7 post (nI s) (nI e) yf_down yf_heads yf_paid yf_payload yf_wants yf_name yf_first yf_counts yf_enters yf_most yf_many yf_sent yf_last yf_nodes yf_values yf_skipped (nI T) yf_at ya_kind ya_repeated ya_how ya_code ya_coming ya_going ya_type ya_headers ya_header ya_queued ya_otherEnded ya_ended ya_finishing ya_queue ya_prefix ya_length ya_got ya_high ya_whole ya_has (an_g tx) ya_frame ya_payloads ya_table ya_out ya_nodeType ya_valueNode ya_valueNumber ya_value ya_from ya_limit ya_inside ya_sizes (f + 1) (nI k) (nI (q + k)) (pm_vs B q k)
  | 0, k, hk, hq, H => by
    have : k = 10 := by omega
    subst this
    rw [wY_varint_7]
    exact br_t (by decide) (H 3 10 rfl)
  | f + 1, k, hk, hq, H => by
    rw [wY_varint_7]
    refine pk_le 10 k (fun g => absurd g (by omega)) (fun g => ?_)
    refine pk_eq (q + k) e (fun g1 => H 4 k (by rw [pm_vr, if_pos g1])) (fun g1 => ?_)
    refine pk_eq (q + k) T (fun g2 => H 9 k (by rw [pm_vr, if_neg g1, if_pos g2])) (fun g2 => ?_)
    obtain ⟨b1, b2⟩ := yr_by (i := q + k) hx hs (by omega)
    have hb := hx.2.1 (q + k)
    refine nm_r (nI_1 _) ⟨b1, nm_r b2 ?_⟩
    have hv : ∀ (fn : Int32), fn = pm_vs B q (k + 1) →
        wY_varint_88 post (wY_varint_7 post (nI s) (nI e) yf_down yf_heads yf_paid yf_payload yf_wants yf_name yf_first yf_counts yf_enters yf_most yf_many yf_sent yf_last yf_nodes yf_values yf_skipped (nI T) yf_at ya_kind ya_repeated ya_how ya_code ya_coming ya_going ya_type ya_headers ya_header ya_queued ya_otherEnded ya_ended ya_finishing ya_queue ya_prefix ya_length ya_got ya_high ya_whole ya_has (an_g tx) ya_frame ya_payloads ya_table ya_out ya_nodeType ya_valueNode ya_valueNumber ya_value ya_from ya_limit ya_inside ya_sizes (f + 1)) (nI s) (nI e) (nI k) (nI (B (q + k)))
          yf_down yf_heads yf_paid yf_payload yf_wants yf_name yf_first yf_counts yf_enters yf_most yf_many yf_sent yf_last yf_nodes yf_values yf_skipped (nI (q + k + 1)) (nI T) (fn) yf_at ya_kind ya_repeated ya_how ya_code ya_coming ya_going ya_type ya_headers ya_header ya_queued ya_otherEnded ya_ended ya_finishing ya_queue ya_prefix ya_length ya_got ya_high ya_whole ya_has (an_g tx) ya_frame ya_payloads ya_table ya_out ya_nodeType ya_valueNode ya_valueNumber ya_value ya_from ya_limit ya_inside ya_sizes := by
      intro fn hfn
      subst hfn
      unfold wY_varint_88
      refine pk_le 128 (B (q + k)) (fun g3 => ?_) (fun g3 => ?_)
      · refine nm_r (nI_1 _) ?_
        exact yr_var7 hx hs hT he f (k + 1) (by omega) (by omega) (fun c k' h => H c k' (by
          rw [pm_vr, if_neg g1, if_neg g2, if_neg (by show ¬ B (q + k) < 128; omega)]; exact h))
      · exact H 0 (k + 1) (by
          rw [pm_vr, if_neg g1, if_neg g2, if_pos (show B (q + k) < 128 from g3)])
    refine pk_le 5 k (fun g3 => hv _ ?_) (fun g3 => nm_r ?_ (hv _ rfl))
    · rw [pm_vs, if_neg (by omega)]
    · rw [pm_vs, if_pos g3]
theorem yr_var (hx : yr_B tx s B) (hs : s < 8) (hT : T ≤ 200) (he : e ≤ 200) (hq : q ≤ T) {post : Int32 → SY → Prop}
    (H : ∀ c k', pm_vr B q e T 10 0 = (c, k') → post (yr_c c) (yf_down, yf_heads, yf_paid, yf_payload, yf_wants, yf_name, yf_first, yf_counts, yf_enters, yf_most, yf_many, yf_sent, yf_last, yf_nodes, yf_values, yf_skipped, nI (q + k'), nI T, pm_vs B q k', yf_at, ya_kind, ya_repeated, ya_how, ya_code, ya_coming, ya_going, ya_type, ya_headers, ya_header, ya_queued, ya_otherEnded, ya_ended, ya_finishing, ya_queue, ya_prefix, ya_length, ya_got, ya_high, ya_whole, ya_has, an_g tx, ya_frame, ya_payloads, ya_table, ya_out, ya_nodeType, ya_valueNode, ya_valueNumber, ya_value, ya_from, ya_limit, ya_inside, ya_sizes)) :
    wpY_varint post (yf_down, yf_heads, yf_paid, yf_payload, yf_wants, yf_name, yf_first, yf_counts, yf_enters, yf_most, yf_many, yf_sent, yf_last, yf_nodes, yf_values, yf_skipped, nI q, nI T, yf_number, yf_at, ya_kind, ya_repeated, ya_how, ya_code, ya_coming, ya_going, ya_type, ya_headers, ya_header, ya_queued, ya_otherEnded, ya_ended, ya_finishing, ya_queue, ya_prefix, ya_length, ya_got, ya_high, ya_whole, ya_has, an_g tx, ya_frame, ya_payloads, ya_table, ya_out, ya_nodeType, ya_valueNode, ya_valueNumber, ya_value, ya_from, ya_limit, ya_inside, ya_sizes) (nI s) (nI e) := by
  unfold wpY_varint
  exact ⟨11, yr_var7 hx hs hT he 10 0 rfl hq H⟩
theorem yr_skip {n : Nat} (he : e ≤ 200) (hT : T ≤ 200) (hq : q ≤ T) (hqe : q ≤ e) (hn : n < 2 ^ 31) {post : Int32 → SY → Prop}
    (H1 : e < q + n → T < e → post (-1) (yf_down, yf_heads, yf_paid, yf_payload, yf_wants, yf_name, yf_first, yf_counts, yf_enters, yf_most, yf_many, yf_sent, yf_last, yf_nodes, yf_values, yf_skipped, nI q, nI T, yf_number, yf_at, ya_kind, ya_repeated, ya_how, ya_code, ya_coming, ya_going, ya_type, ya_headers, ya_header, ya_queued, ya_otherEnded, ya_ended, ya_finishing, ya_queue, ya_prefix, ya_length, ya_got, ya_high, ya_whole, ya_has, ya_bytes, ya_frame, ya_payloads, ya_table, ya_out, ya_nodeType, ya_valueNode, ya_valueNumber, ya_value, ya_from, ya_limit, ya_inside, ya_sizes)) (H2 : e < q + n → e ≤ T → post 4 (yf_down, yf_heads, yf_paid, yf_payload, yf_wants, yf_name, yf_first, yf_counts, yf_enters, yf_most, yf_many, yf_sent, yf_last, yf_nodes, yf_values, yf_skipped, nI q, nI T, yf_number, yf_at, ya_kind, ya_repeated, ya_how, ya_code, ya_coming, ya_going, ya_type, ya_headers, ya_header, ya_queued, ya_otherEnded, ya_ended, ya_finishing, ya_queue, ya_prefix, ya_length, ya_got, ya_high, ya_whole, ya_has, ya_bytes, ya_frame, ya_payloads, ya_table, ya_out, ya_nodeType, ya_valueNode, ya_valueNumber, ya_value, ya_from, ya_limit, ya_inside, ya_sizes))
    (H3 : q + n ≤ e → T < q + n → post (-1) (yf_down, yf_heads, yf_paid, yf_payload, yf_wants, yf_name, yf_first, yf_counts, yf_enters, yf_most, yf_many, yf_sent, yf_last, yf_nodes, yf_values, yf_skipped, nI q, nI T, yf_number, yf_at, ya_kind, ya_repeated, ya_how, ya_code, ya_coming, ya_going, ya_type, ya_headers, ya_header, ya_queued, ya_otherEnded, ya_ended, ya_finishing, ya_queue, ya_prefix, ya_length, ya_got, ya_high, ya_whole, ya_has, ya_bytes, ya_frame, ya_payloads, ya_table, ya_out, ya_nodeType, ya_valueNode, ya_valueNumber, ya_value, ya_from, ya_limit, ya_inside, ya_sizes)) (H4 : q + n ≤ e → q + n ≤ T → post 0 (yf_down, yf_heads, yf_paid, yf_payload, yf_wants, yf_name, yf_first, yf_counts, yf_enters, yf_most, yf_many, yf_sent, yf_last, yf_nodes, yf_values, yf_skipped, nI (q + n), nI T, yf_number, yf_at, ya_kind, ya_repeated, ya_how, ya_code, ya_coming, ya_going, ya_type, ya_headers, ya_header, ya_queued, ya_otherEnded, ya_ended, ya_finishing, ya_queue, ya_prefix, ya_length, ya_got, ya_high, ya_whole, ya_has, ya_bytes, ya_frame, ya_payloads, ya_table, ya_out, ya_nodeType, ya_valueNode, ya_valueNumber, ya_value, ya_from, ya_limit, ya_inside, ya_sizes)) :
    wpY_skip post (yf_down, yf_heads, yf_paid, yf_payload, yf_wants, yf_name, yf_first, yf_counts, yf_enters, yf_most, yf_many, yf_sent, yf_last, yf_nodes, yf_values, yf_skipped, nI q, nI T, yf_number, yf_at, ya_kind, ya_repeated, ya_how, ya_code, ya_coming, ya_going, ya_type, ya_headers, ya_header, ya_queued, ya_otherEnded, ya_ended, ya_finishing, ya_queue, ya_prefix, ya_length, ya_got, ya_high, ya_whole, ya_has, ya_bytes, ya_frame, ya_payloads, ya_table, ya_out, ya_nodeType, ya_valueNode, ya_valueNumber, ya_value, ya_from, ya_limit, ya_inside, ya_sizes) (nI n) (nI e) := by
  unfold wpY_skip
  refine pk_le n (e - q) (fun g => ?_) (fun g => ?_) rfl (pk_sub hqe)
  · refine pk_le n (T - q) (fun g2 => ?_) (fun g2 => ?_) rfl (pk_sub hq)
    · exact nm_r (nI_add _ _) (H4 (by omega) (by omega))
    · exact H3 (by omega) (by omega)
  · refine pk_lt T e (fun g2 => ?_) (fun g2 => ?_)
    · exact H1 (by omega) g2
    · exact H2 (by omega) g2

/-- the reference's arrays, as far as a reading has filled them -/
def yr_D (D : pm_D) (nt vn vm va fr : Nat → Int32) : Prop :=
  (∀ i, i < pm_nn D → nt i = nI (pm_nt D i)) ∧ (∀ j, j < pm_nv D → vn j = nI (pm_vn D j) ∧ vm j = nI (pm_vm D j) ∧ va j = pm_va D j ∧ fr j = nI (pm_fr D j))
theorem yr_find2 {D : pm_D} {a n : Nat} (hD : yr_D D ya_nodeType ya_valueNode ya_valueNumber ya_value ya_from) (hv : pm_nv D ≤ 48)
    (hb : ∀ j, j < pm_nv D → pm_vn D j < 2 ^ 31 ∧ pm_vm D j < 2 ^ 31) (ha : a < 2 ^ 31) (hn : n < 2 ^ 31) {post : Int32 → Prop} : ∀ f i, i + f = pm_nv D →
    (post (if pm_fi (pm_vn D) (pm_vm D) a n f i < pm_nv D then nI (pm_fi (pm_vn D) (pm_vm D) a n f i) else -1)) →
    wY_find_2 post (nI a) (nI n) yf_down yf_heads yf_paid yf_payload yf_wants yf_name yf_first yf_counts yf_enters yf_most yf_many yf_sent yf_last yf_nodes (nI (pm_nv D)) yf_skipped yf_pos yf_there yf_number yf_at ya_kind ya_repeated ya_how ya_code ya_coming ya_going ya_type ya_headers ya_header ya_queued ya_otherEnded ya_ended ya_finishing ya_queue ya_prefix ya_length ya_got ya_high ya_whole ya_has ya_bytes ya_frame ya_payloads ya_table ya_out ya_nodeType ya_valueNode ya_valueNumber ya_value ya_from ya_limit ya_inside ya_sizes (f + 1) (nI i)
  | 0, i, hi, H => by
    rw [wY_find_2]
    rw [pm_fi, if_neg (by omega)] at H
    exact pk_le (pm_nv D) i (fun _ => H) (fun g => absurd g (by omega))
  | f + 1, i, hi, H => by
    rw [wY_find_2]
    refine pk_le (pm_nv D) i (fun g => absurd g (by omega)) (fun g => ⟨vp_in_nI (by omega) (by omega), ?_⟩)
    obtain ⟨e1, e2, _, _⟩ := hD.2 i g
    obtain ⟨b1, b2⟩ := hb i g
    rw [nI_clamp (by omega), e1, e2]
    rw [pm_fi] at H
    refine pk_eq (pm_vn D i) a (fun g1 => ⟨vp_in_nI (by omega) (by omega), ?_⟩) (fun g1 => ?_)
    · refine pk_eq (pm_vm D i) n (fun g2 => ?_) (fun g2 => ?_)
      · rw [if_pos (show pm_vn D i = a ∧ pm_vm D i = n from ⟨g1, g2⟩), if_pos g] at H; exact H
      · rw [if_neg (show ¬ (pm_vn D i = a ∧ pm_vm D i = n) from fun y => g2 y.2)] at H
        exact nm_r (nI_1 _) (yr_find2 hD hv hb ha hn f (i + 1) (by omega) H)
    · rw [if_neg (show ¬ (pm_vn D i = a ∧ pm_vm D i = n) from fun y => g1 y.1)] at H
      exact nm_r (nI_1 _) (yr_find2 hD hv hb ha hn f (i + 1) (by omega) H)
theorem yr_find {D : pm_D} {a n : Nat} (hD : yr_D D ya_nodeType ya_valueNode ya_valueNumber ya_value ya_from) (hv : pm_nv D ≤ 48)
    (hb : ∀ j, j < pm_nv D → pm_vn D j < 2 ^ 31 ∧ pm_vm D j < 2 ^ 31) (ha : a < 2 ^ 31) (hn : n < 2 ^ 31) {post : Int32 → Prop}
    (H : post (if pm_ix D a n < pm_nv D then nI (pm_ix D a n) else -1)) : wpY_find post (yf_down, yf_heads, yf_paid, yf_payload, yf_wants, yf_name, yf_first, yf_counts, yf_enters, yf_most, yf_many, yf_sent, yf_last, yf_nodes, nI (pm_nv D), yf_skipped, yf_pos, yf_there, yf_number, yf_at, ya_kind, ya_repeated, ya_how, ya_code, ya_coming, ya_going, ya_type, ya_headers, ya_header, ya_queued, ya_otherEnded, ya_ended, ya_finishing, ya_queue, ya_prefix, ya_length, ya_got, ya_high, ya_whole, ya_has, ya_bytes, ya_frame, ya_payloads, ya_table, ya_out, ya_nodeType, ya_valueNode, ya_valueNumber, ya_value, ya_from, ya_limit, ya_inside, ya_sizes) (nI a) (nI n) := by
  unfold wpY_find
  exact ⟨pm_nv D + 1, yr_find2 hD hv hb ha hn (pm_nv D) 0 (by omega) H⟩
end
section
variable {yf_down yf_heads yf_paid yf_payload yf_wants yf_name yf_first yf_counts yf_enters yf_most yf_many yf_sent yf_last yf_nodes yf_values yf_skipped yf_pos yf_there yf_number yf_at : Int32} {ya_kind ya_repeated ya_how ya_code ya_coming ya_going ya_type ya_headers ya_header ya_queued ya_otherEnded ya_ended ya_finishing ya_queue ya_prefix ya_length ya_got ya_high ya_whole ya_has ya_bytes ya_frame ya_payloads ya_table ya_out ya_nodeType ya_valueNode ya_valueNumber ya_value ya_from ya_limit ya_inside ya_sizes : Nat → Int32} {s q e T : Nat} {tx B : Nat → Nat} {K : Nat → Nat} {R : Nat → Bool} {L : Nat} {dep : Nat → Nat}
theorem yr_D_kp {D : pm_D} {a n st : Nat} {v : Int32} (h : yr_D D ya_nodeType ya_valueNode ya_valueNumber ya_value ya_from) :
    yr_D (pm_kp R D a n v st) ya_nodeType (upd ya_valueNode (pm_pl R D a n) (nI a)) (upd ya_valueNumber (pm_pl R D a n) (nI n)) (upd ya_value (pm_pl R D a n) v) (upd ya_from (pm_pl R D a n) (nI st)) := by
  have hle := pm_pl_le (R := R) (D := D) a n
  refine ⟨h.1, fun j hj => ?_⟩
  simp only [pm_kp_nn, pm_kp_nt, pm_kp_nv, pm_kp_vn, pm_kp_vm, pm_kp_fr, pm_kp_va] at hj ⊢
  generalize pm_pl R D a n = k at hj hle ⊢
  by_cases g : j = k
  · subst g
    simp only [pm_upd_eq, pm_us, if_pos]
    exact ⟨trivial, trivial, trivial, trivial⟩
  · have := h.2 j (by split at hj <;> omega)
    simp only [pm_upd_eq, if_neg g, pm_un g]
    exact this
/-- bounds of what a reading keeps -/
theorem yr_DB {D : pm_D} (I : pm_DI K L dep D) : ∀ j, j < pm_nv D → pm_vn D j < 2 ^ 31 ∧ pm_vm D j < 2 ^ 31 := by
  intro j hj
  obtain ⟨v1, v2, v3, _⟩ := I.2.2.2.2.2.1 j hj
  have := I.2.1
  exact ⟨by omega, by omega⟩
theorem yr_keep {D : pm_D} {b a n st : Nat} {v : Int32} (I : pm_DI K L dep D) (hD : yr_D D ya_nodeType ya_valueNode ya_valueNumber ya_value ya_from) (hK : cr_K ya_kind ya_repeated K R)
    (hb : b < 5) (ha : ya_inside b = nI a) (ha' : a < pm_nn D) (hn : 1 ≤ n) (hn' : n ≤ 15) {post : Int32 → SY → Prop}
    (H5 : pm_pl R D a n = 48 → post 5 (yf_down, yf_heads, yf_paid, yf_payload, yf_wants, yf_name, yf_first, yf_counts, yf_enters, yf_most, yf_many, yf_sent, yf_last, yf_nodes, nI (pm_nv D), yf_skipped, yf_pos, yf_there, yf_number, nI b, ya_kind, ya_repeated, ya_how, ya_code, ya_coming, ya_going, ya_type, ya_headers, ya_header, ya_queued, ya_otherEnded, ya_ended, ya_finishing, ya_queue, ya_prefix, ya_length, ya_got, ya_high, ya_whole, ya_has, ya_bytes, ya_frame, ya_payloads, ya_table, ya_out, ya_nodeType, ya_valueNode, ya_valueNumber, ya_value, ya_from, ya_limit, ya_inside, ya_sizes))
    (H0 : pm_pl R D a n ≠ 48 → post 0 (yf_down, yf_heads, yf_paid, yf_payload, yf_wants, yf_name, yf_first, yf_counts, yf_enters, yf_most, yf_many, yf_sent, yf_last, yf_nodes, nI (pm_nv (pm_kp R D a n v st)), yf_skipped, yf_pos, yf_there, yf_number, nI b, ya_kind, ya_repeated, ya_how, ya_code, ya_coming, ya_going, ya_type, ya_headers, ya_header, ya_queued, ya_otherEnded, ya_ended, ya_finishing, ya_queue, ya_prefix, ya_length, ya_got, ya_high, ya_whole, ya_has, ya_bytes, ya_frame, ya_payloads, ya_table, ya_out, ya_nodeType, upd ya_valueNode (pm_pl R D a n) (nI a), upd ya_valueNumber (pm_pl R D a n) (nI n), upd ya_value (pm_pl R D a n) v, upd ya_from (pm_pl R D a n) (nI st), ya_limit, ya_inside, ya_sizes)) :
    wpY_keep post (yf_down, yf_heads, yf_paid, yf_payload, yf_wants, yf_name, yf_first, yf_counts, yf_enters, yf_most, yf_many, yf_sent, yf_last, yf_nodes, nI (pm_nv D), yf_skipped, yf_pos, yf_there, yf_number, nI b, ya_kind, ya_repeated, ya_how, ya_code, ya_coming, ya_going, ya_type, ya_headers, ya_header, ya_queued, ya_otherEnded, ya_ended, ya_finishing, ya_queue, ya_prefix, ya_length, ya_got, ya_high, ya_whole, ya_has, ya_bytes, ya_frame, ya_payloads, ya_table, ya_out, ya_nodeType, ya_valueNode, ya_valueNumber, ya_value, ya_from, ya_limit, ya_inside, ya_sizes) (nI n) v (nI st) := by
  unfold wpY_keep
  have hnv := I.2.2.1
  have hnn := I.2.1
  have hty := (I.2.2.2.2.1 a ha').1
  have hle := pm_pl_le (R := R) (D := D) a n
  have ej : 16 * nI (pm_nt D a) + nI n = nI (16 * pm_nt D a + n) := by
    rw [show (16 : Int32) = nI 16 from rfl, pk_mul, nI_add]
  have hR := hK.2.2 (16 * pm_nt D a + n) (by omega)
  have h81 : ∀ (zz : Int32), pm_pl R D a n < 48 → zz = nI (pm_pl R D a n) → wY_keep_81 post (nI n) v (nI st) (nI a) zz yf_down yf_heads yf_paid yf_payload yf_wants yf_name yf_first yf_counts yf_enters yf_most yf_many yf_sent yf_last yf_nodes (nI (pm_nv (pm_kp R D a n v st))) yf_skipped yf_pos yf_there yf_number (nI b) ya_kind ya_repeated ya_how ya_code ya_coming ya_going ya_type ya_headers ya_header ya_queued ya_otherEnded ya_ended ya_finishing ya_queue ya_prefix ya_length ya_got ya_high ya_whole ya_has ya_bytes ya_frame ya_payloads ya_table ya_out ya_nodeType ya_valueNode ya_valueNumber ya_value ya_from ya_limit ya_inside ya_sizes := by
    intro zz h48 hz
    subst hz
    unfold wY_keep_81
    have hi : vp_in (nI (pm_pl R D a n)) 48 := vp_in_nI h48 (by omega)
    have hc : (nI (pm_pl R D a n)).toNatClampNeg = pm_pl R D a n := nI_clamp (by omega)
    rw [hc]
    exact ⟨hi, nm_e ⟨hi, nm_e ⟨hi, nm_e ⟨hi, nm_e (H0 (by omega))⟩⟩⟩⟩
  have h60 : pm_pl R D a n = pm_nv D → pm_nv D ≠ 48 → wY_keep_60 post (nI n) v (nI st) (nI a) (-1) yf_down yf_heads yf_paid yf_payload yf_wants yf_name yf_first yf_counts yf_enters yf_most yf_many yf_sent yf_last yf_nodes (nI (pm_nv D)) yf_skipped yf_pos yf_there yf_number (nI b) ya_kind ya_repeated ya_how ya_code ya_coming ya_going ya_type ya_headers ya_header ya_queued ya_otherEnded ya_ended ya_finishing ya_queue ya_prefix ya_length ya_got ya_high ya_whole ya_has ya_bytes ya_frame ya_payloads ya_table ya_out ya_nodeType ya_valueNode ya_valueNumber ya_value ya_from ya_limit ya_inside ya_sizes := by
    intro h1 h2
    unfold wY_keep_60
    refine br_f (by decide) (nm_r (e' := nI (pm_nv (pm_kp R D a n v st))) ?_ (h81 _ (by omega) (by rw [h1])))
    rw [nI_1]
    simp only [pm_kp_nn, pm_kp_nt, pm_kp_nv, pm_kp_vn, pm_kp_vm, pm_kp_fr, pm_kp_va]
    rw [if_pos h1]
  have h42 : pm_pl R D a n = pm_nv D → wY_keep_42 post (nI n) v (nI st) (nI a) (-1) yf_down yf_heads yf_paid yf_payload yf_wants yf_name yf_first yf_counts yf_enters yf_most yf_many yf_sent yf_last yf_nodes (nI (pm_nv D)) yf_skipped yf_pos yf_there yf_number (nI b) ya_kind ya_repeated ya_how ya_code ya_coming ya_going ya_type ya_headers ya_header ya_queued ya_otherEnded ya_ended ya_finishing ya_queue ya_prefix ya_length ya_got ya_high ya_whole ya_has ya_bytes ya_frame ya_payloads ya_table ya_out ya_nodeType ya_valueNode ya_valueNumber ya_value ya_from ya_limit ya_inside ya_sizes := by
    intro h1
    unfold wY_keep_42
    refine br_f (by decide) (pk_eq (pm_nv D) 48 (fun g => H5 (by omega)) (fun g => h60 h1 g))
  refine ⟨vp_in_nI hb (by omega), nm_r (by rw [nI_clamp (by omega), ha]) ⟨vp_in_nI (by omega) (by omega), ?_⟩⟩
  rw [nI_clamp (by omega), hD.1 a ha', ej, nI_clamp (by omega), hR]
  refine ⟨vp_in_nI (by omega) (by omega), ?_⟩
  by_cases hr : R (16 * pm_nt D a + n) = true
  · rw [if_pos hr]
    refine br_f (by decide) (h42 ?_)
    unfold pm_pl; rw [if_pos hr]
  · rw [if_neg hr]
    refine br_t rfl (yr_find hD hnv (yr_DB I) (by omega) (by omega) ?_)
    have epl : pm_pl R D a n = pm_ix D a n := by
      unfold pm_pl; rw [if_neg hr]
    rw [epl] at h81 h60 h42 hle
    by_cases g : pm_ix D a n < pm_nv D
    · rw [if_pos g]
      have h0 : (0 : Int32) ≤ nI (pm_ix D a n) := nI_pos' (by omega)
      unfold wY_keep_42
      refine br_t h0 ?_
      unfold wY_keep_60
      refine br_t h0 ?_
      have := h81 _ (by omega) rfl
      have e2 : pm_nv (pm_kp R D a n v st) = pm_nv D := by
        simp only [pm_kp_nn, pm_kp_nt, pm_kp_nv, pm_kp_vn, pm_kp_vm, pm_kp_fr, pm_kp_va]
        rw [epl, if_neg (by omega)]
      rw [e2] at this
      exact this
    · rw [if_neg g]
      exact h42 (by omega)
end
