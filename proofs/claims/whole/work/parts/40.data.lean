/-! T1: a byte of data, on the reference's side -/
section
variable {yf_down yf_heads yf_paid yf_payload yf_wants yf_name yf_first yf_counts yf_enters yf_most yf_many yf_sent yf_last yf_nodes yf_values yf_skipped yf_pos yf_there yf_number yf_at : Int32} {ya_kind ya_repeated ya_how ya_code ya_coming ya_going ya_type ya_headers ya_header ya_queued ya_otherEnded ya_ended ya_finishing ya_queue ya_prefix ya_length ya_got ya_high ya_whole ya_has ya_bytes ya_frame ya_payloads ya_table ya_out ya_nodeType ya_valueNode ya_valueNumber ya_value ya_from ya_limit ya_inside ya_sizes : Nat → Int32} {z : (Nat → Nat) × Nat} {s b x c L : Nat}
theorem yf_fail {post : SY → Prop} (h0 : 0 < s) (hs : s < 8) (hz : z.2 ≤ 1200)
    (h : post (yf_down, yf_heads, yf_paid, yf_payload, yf_wants, yf_name, yf_first, 0, yf_enters, yf_most, yf_many, nI (ou_L z [1, 2, 0, s, c]).2, yf_last, yf_nodes, yf_values, yf_skipped, yf_pos, yf_there, yf_number, yf_at, ya_kind, ya_repeated, upd ya_how s 2, upd ya_code s (nI c), ya_coming, ya_going, ya_type, ya_headers, ya_header, upd ya_queued s 0, ya_otherEnded, ya_ended, ya_finishing, ya_queue, ya_prefix, ya_length, ya_got, ya_high, ya_whole, ya_has, ya_bytes, ya_frame, ya_payloads, ya_table, an_g (ou_L z [1, 2, 0, s, c]).1, ya_nodeType, ya_valueNode, ya_valueNumber, ya_value, ya_from, ya_limit, ya_inside, ya_sizes)) :
    wpY_fail post (yf_down, yf_heads, yf_paid, yf_payload, yf_wants, yf_name, yf_first, yf_counts, yf_enters, yf_most, yf_many, nI z.2, yf_last, yf_nodes, yf_values, yf_skipped, yf_pos, yf_there, yf_number, yf_at, ya_kind, ya_repeated, ya_how, ya_code, ya_coming, ya_going, ya_type, ya_headers, ya_header, ya_queued, ya_otherEnded, ya_ended, ya_finishing, ya_queue, ya_prefix, ya_length, ya_got, ya_high, ya_whole, ya_has, ya_bytes, ya_frame, ya_payloads, ya_table, an_g z.1, ya_nodeType, ya_valueNode, ya_valueNumber, ya_value, ya_from, ya_limit, ya_inside, ya_sizes) (nI s) (nI c) := by
  unfold wpY_fail
  exact yo_errS h0 hs hz h
theorem yf_ready {post : SY → Prop} (hs : s < 8)
    (h : post (yf_down, yf_heads, yf_paid, yf_payload, yf_wants, yf_name, yf_first, yf_counts, yf_enters, yf_most, yf_many, yf_sent, yf_last, yf_nodes, yf_values, yf_skipped, yf_pos, yf_there, yf_number, yf_at, ya_kind, ya_repeated, ya_how, ya_code, ya_coming, ya_going, ya_type, ya_headers, ya_header, ya_queued, ya_otherEnded, ya_ended, ya_finishing, ya_queue, upd ya_prefix s 0, ya_length, ya_got, ya_high, upd ya_whole s (ya_whole s + 1), upd ya_has s 1, ya_bytes, ya_frame, ya_payloads, ya_table, ya_out, ya_nodeType, ya_valueNode, ya_valueNumber, ya_value, ya_from, ya_limit, ya_inside, ya_sizes)) :
    wpY_ready post (yf_down, yf_heads, yf_paid, yf_payload, yf_wants, yf_name, yf_first, yf_counts, yf_enters, yf_most, yf_many, yf_sent, yf_last, yf_nodes, yf_values, yf_skipped, yf_pos, yf_there, yf_number, yf_at, ya_kind, ya_repeated, ya_how, ya_code, ya_coming, ya_going, ya_type, ya_headers, ya_header, ya_queued, ya_otherEnded, ya_ended, ya_finishing, ya_queue, ya_prefix, ya_length, ya_got, ya_high, ya_whole, ya_has, ya_bytes, ya_frame, ya_payloads, ya_table, ya_out, ya_nodeType, ya_valueNode, ya_valueNumber, ya_value, ya_from, ya_limit, ya_inside, ya_sizes) (nI s) := by
  obtain ⟨g1, g2⟩ := xr_c8 hs
  unfold wpY_ready
  exact ⟨g1, nm_r (e' := upd ya_has s 1) (by rw [g2]; rfl) ⟨g1, g1, nm_r (by rw [g2]) ⟨g1, nm_r (by rw [g2]) h⟩⟩⟩
theorem yd_t1 {post : SY → Prop} (hs : s < 8) (hp : ya_prefix s = nI 1) (H : post (yf_down, yf_heads, yf_paid, yf_payload, yf_wants, yf_name, yf_first, yf_counts, yf_enters, yf_most, yf_many, yf_sent, yf_last, yf_nodes, yf_values, yf_skipped, yf_pos, yf_there, yf_number, yf_at, ya_kind, ya_repeated, ya_how, ya_code, ya_coming, ya_going, ya_type, ya_headers, ya_header, ya_queued, ya_otherEnded, ya_ended, ya_finishing, ya_queue, ya_prefix, ya_length, ya_got, ya_high, ya_whole, ya_has, ya_bytes, ya_frame, ya_payloads, ya_table, ya_out, ya_nodeType, ya_valueNode, ya_valueNumber, ya_value, ya_from, ya_limit, ya_inside, ya_sizes)) : wY_data_41 post (nI s) (nI b) yf_down yf_heads yf_paid yf_payload yf_wants yf_name yf_first yf_counts yf_enters yf_most yf_many yf_sent yf_last yf_nodes yf_values yf_skipped yf_pos yf_there yf_number yf_at ya_kind ya_repeated ya_how ya_code ya_coming ya_going ya_type ya_headers ya_header ya_queued ya_otherEnded ya_ended ya_finishing ya_queue ya_prefix ya_length ya_got ya_high ya_whole ya_has ya_bytes ya_frame ya_payloads ya_table ya_out ya_nodeType ya_valueNode ya_valueNumber ya_value ya_from ya_limit ya_inside ya_sizes := by
  obtain ⟨g1, g2⟩ := xr_c8 hs
  unfold wY_data_41
  rw [g2, hp]
  refine ⟨g1, br_f (by decide) ?_⟩
  unfold wY_data_58
  rw [g2, hp]
  exact ⟨g1, br_f (by decide) H⟩
theorem yd_0 {post : SY → Prop} (hs : s < 8) (hp : ya_prefix s = nI 0) (H : post (yf_down, yf_heads, yf_paid, yf_payload, yf_wants, yf_name, yf_first, yf_counts, yf_enters, yf_most, yf_many, yf_sent, yf_last, yf_nodes, yf_values, yf_skipped, yf_pos, yf_there, yf_number, yf_at, ya_kind, ya_repeated, ya_how, ya_code, ya_coming, ya_going, ya_type, ya_headers, ya_header, ya_queued, ya_otherEnded, ya_ended, ya_finishing, ya_queue, upd ya_prefix s (nI 1), ya_length, ya_got, ya_high, ya_whole, ya_has, ya_bytes, ya_frame, ya_payloads, ya_table, ya_out, ya_nodeType, ya_valueNode, ya_valueNumber, ya_value, ya_from, ya_limit, ya_inside, ya_sizes)) : wpY_data post (yf_down, yf_heads, yf_paid, yf_payload, yf_wants, yf_name, yf_first, yf_counts, yf_enters, yf_most, yf_many, yf_sent, yf_last, yf_nodes, yf_values, yf_skipped, yf_pos, yf_there, yf_number, yf_at, ya_kind, ya_repeated, ya_how, ya_code, ya_coming, ya_going, ya_type, ya_headers, ya_header, ya_queued, ya_otherEnded, ya_ended, ya_finishing, ya_queue, ya_prefix, ya_length, ya_got, ya_high, ya_whole, ya_has, ya_bytes, ya_frame, ya_payloads, ya_table, ya_out, ya_nodeType, ya_valueNode, ya_valueNumber, ya_value, ya_from, ya_limit, ya_inside, ya_sizes) (nI s) (nI 0) := by
  obtain ⟨g1, g2⟩ := xr_c8 hs
  unfold wpY_data
  dsimp only
  rw [g2, hp]
  refine ⟨g1, br_f (by decide) ⟨g1, g1, nm_r (e' := upd ya_prefix s (nI 1)) rfl ⟨g1, ?_⟩⟩⟩
  rw [pk_us]
  exact br_t rfl (br_t rfl (yd_t1 hs pk_us H))
theorem yd_7 {post : SY → Prop} (h0 : 0 < s) (hs : s < 8) (hb : b < 256) (hz : z.2 ≤ 1200) (hb0 : b ≠ 0) (hp : ya_prefix s = nI 0)
    (H : post (yf_down, yf_heads, yf_paid, yf_payload, yf_wants, yf_name, yf_first, 0, yf_enters, yf_most, yf_many, nI (ou_L z [1, 2, 0, s, 7]).2, yf_last, yf_nodes, yf_values, yf_skipped, yf_pos, yf_there, yf_number, yf_at, ya_kind, ya_repeated, upd ya_how s 2, upd ya_code s (nI 7), ya_coming, ya_going, ya_type, ya_headers, ya_header, upd ya_queued s 0, ya_otherEnded, ya_ended, ya_finishing, ya_queue, upd ya_prefix s (nI 1), ya_length, ya_got, ya_high, ya_whole, ya_has, ya_bytes, ya_frame, ya_payloads, ya_table, an_g (ou_L z [1, 2, 0, s, 7]).1, ya_nodeType, ya_valueNode, ya_valueNumber, ya_value, ya_from, ya_limit, ya_inside, ya_sizes)) :
    wpY_data post (yf_down, yf_heads, yf_paid, yf_payload, yf_wants, yf_name, yf_first, yf_counts, yf_enters, yf_most, yf_many, nI z.2, yf_last, yf_nodes, yf_values, yf_skipped, yf_pos, yf_there, yf_number, yf_at, ya_kind, ya_repeated, ya_how, ya_code, ya_coming, ya_going, ya_type, ya_headers, ya_header, ya_queued, ya_otherEnded, ya_ended, ya_finishing, ya_queue, ya_prefix, ya_length, ya_got, ya_high, ya_whole, ya_has, ya_bytes, ya_frame, ya_payloads, ya_table, an_g z.1, ya_nodeType, ya_valueNode, ya_valueNumber, ya_value, ya_from, ya_limit, ya_inside, ya_sizes) (nI s) (nI b) := by
  obtain ⟨g1, g2⟩ := xr_c8 hs
  unfold wpY_data
  dsimp only
  rw [g2, hp]
  refine ⟨g1, br_f (by decide) ⟨g1, g1, nm_r (e' := upd ya_prefix s (nI 1)) rfl ⟨g1, ?_⟩⟩⟩
  rw [pk_us]
  refine br_t rfl (pk_eq b 0 (fun w => absurd w hb0) (fun _ => ?_))
  exact yf_fail (c := 7) h0 hs hz (yd_t1 hs pk_us H)
theorem yd_1 {post : SY → Prop} (hs : s < 8) (hp : ya_prefix s = nI 1) (H : post (yf_down, yf_heads, yf_paid, yf_payload, yf_wants, yf_name, yf_first, yf_counts, yf_enters, yf_most, yf_many, yf_sent, yf_last, yf_nodes, yf_values, yf_skipped, yf_pos, yf_there, yf_number, yf_at, ya_kind, ya_repeated, ya_how, ya_code, ya_coming, ya_going, ya_type, ya_headers, ya_header, ya_queued, ya_otherEnded, ya_ended, ya_finishing, ya_queue, upd ya_prefix s (nI 2), ya_length, ya_got, upd ya_high s (nI b), ya_whole, ya_has, ya_bytes, ya_frame, ya_payloads, ya_table, ya_out, ya_nodeType, ya_valueNode, ya_valueNumber, ya_value, ya_from, ya_limit, ya_inside, ya_sizes)) : wpY_data post (yf_down, yf_heads, yf_paid, yf_payload, yf_wants, yf_name, yf_first, yf_counts, yf_enters, yf_most, yf_many, yf_sent, yf_last, yf_nodes, yf_values, yf_skipped, yf_pos, yf_there, yf_number, yf_at, ya_kind, ya_repeated, ya_how, ya_code, ya_coming, ya_going, ya_type, ya_headers, ya_header, ya_queued, ya_otherEnded, ya_ended, ya_finishing, ya_queue, ya_prefix, ya_length, ya_got, ya_high, ya_whole, ya_has, ya_bytes, ya_frame, ya_payloads, ya_table, ya_out, ya_nodeType, ya_valueNode, ya_valueNumber, ya_value, ya_from, ya_limit, ya_inside, ya_sizes) (nI s) (nI b) := by
  obtain ⟨g1, g2⟩ := xr_c8 hs
  unfold wpY_data
  dsimp only
  rw [g2, hp]
  refine ⟨g1, br_f (by decide) ⟨g1, g1, nm_r (e' := upd ya_prefix s (nI 2)) rfl ⟨g1, ?_⟩⟩⟩
  rw [pk_us]
  refine br_f (by decide) ?_
  unfold wY_data_41
  rw [g2, pk_us]
  refine ⟨g1, br_t rfl ⟨g1, nm_e ?_⟩⟩
  unfold wY_data_58
  rw [g2, pk_us]
  exact ⟨g1, br_f (by decide) H⟩
theorem yd_2 {post : SY → Prop} (h0 : 0 < s) (hs : s < 8) (hb : b < 256) (hx : x < 256) (hz : z.2 ≤ 1200) (hL : L = 256 * x + b) (hp : ya_prefix s = nI 2) (hh : ya_high s = nI x)
    (H8 : 200 < L → post (yf_down, yf_heads, yf_paid, yf_payload, yf_wants, yf_name, yf_first, 0, yf_enters, yf_most, yf_many, nI (ou_L z [1, 2, 0, s, 8]).2, yf_last, yf_nodes, yf_values, yf_skipped, yf_pos, yf_there, yf_number, yf_at, ya_kind, ya_repeated, upd ya_how s 2, upd ya_code s (nI 8), ya_coming, ya_going, ya_type, ya_headers, ya_header, upd ya_queued s 0, ya_otherEnded, ya_ended, ya_finishing, ya_queue, upd ya_prefix s (nI 3), upd ya_length s (nI L), upd ya_got s (nI 0), ya_high, ya_whole, upd ya_has s 0, ya_bytes, ya_frame, ya_payloads, ya_table, an_g (ou_L z [1, 2, 0, s, 8]).1, ya_nodeType, ya_valueNode, ya_valueNumber, ya_value, ya_from, ya_limit, ya_inside, ya_sizes))
    (H0 : L = 0 → post (yf_down, yf_heads, yf_paid, yf_payload, yf_wants, yf_name, yf_first, yf_counts, yf_enters, yf_most, yf_many, nI z.2, yf_last, yf_nodes, yf_values, yf_skipped, yf_pos, yf_there, yf_number, yf_at, ya_kind, ya_repeated, ya_how, ya_code, ya_coming, ya_going, ya_type, ya_headers, ya_header, ya_queued, ya_otherEnded, ya_ended, ya_finishing, ya_queue, upd (upd ya_prefix s (nI 3)) s 0, upd ya_length s (nI L), upd ya_got s (nI 0), ya_high, upd ya_whole s (ya_whole s + 1), upd (upd ya_has s 0) s 1, ya_bytes, ya_frame, ya_payloads, ya_table, an_g z.1, ya_nodeType, ya_valueNode, ya_valueNumber, ya_value, ya_from, ya_limit, ya_inside, ya_sizes))
    (H1 : 0 < L → L ≤ 200 → post (yf_down, yf_heads, yf_paid, yf_payload, yf_wants, yf_name, yf_first, yf_counts, yf_enters, yf_most, yf_many, nI z.2, yf_last, yf_nodes, yf_values, yf_skipped, yf_pos, yf_there, yf_number, yf_at, ya_kind, ya_repeated, ya_how, ya_code, ya_coming, ya_going, ya_type, ya_headers, ya_header, ya_queued, ya_otherEnded, ya_ended, ya_finishing, ya_queue, upd ya_prefix s (nI 3), upd ya_length s (nI L), upd ya_got s (nI 0), ya_high, ya_whole, upd ya_has s 0, ya_bytes, ya_frame, ya_payloads, ya_table, an_g z.1, ya_nodeType, ya_valueNode, ya_valueNumber, ya_value, ya_from, ya_limit, ya_inside, ya_sizes)) :
    wpY_data post (yf_down, yf_heads, yf_paid, yf_payload, yf_wants, yf_name, yf_first, yf_counts, yf_enters, yf_most, yf_many, nI z.2, yf_last, yf_nodes, yf_values, yf_skipped, yf_pos, yf_there, yf_number, yf_at, ya_kind, ya_repeated, ya_how, ya_code, ya_coming, ya_going, ya_type, ya_headers, ya_header, ya_queued, ya_otherEnded, ya_ended, ya_finishing, ya_queue, ya_prefix, ya_length, ya_got, ya_high, ya_whole, ya_has, ya_bytes, ya_frame, ya_payloads, ya_table, an_g z.1, ya_nodeType, ya_valueNode, ya_valueNumber, ya_value, ya_from, ya_limit, ya_inside, ya_sizes) (nI s) (nI b) := by
  obtain ⟨g1, g2⟩ := xr_c8 hs
  unfold wpY_data
  dsimp only
  rw [g2, hp]
  refine ⟨g1, br_f (by decide) ⟨g1, g1, nm_r (e' := upd ya_prefix s (nI 3)) rfl ⟨g1, ?_⟩⟩⟩
  rw [pk_us]
  refine br_f (by decide) ?_
  unfold wY_data_41
  rw [g2, pk_us]
  refine ⟨g1, br_f (by decide) ?_⟩
  unfold wY_data_58
  rw [g2, pk_us, hh]
  refine ⟨g1, br_t (by decide) ⟨g1, g1, nm_r (e' := upd ya_length s (nI L)) (by rw [show (256 : Int32) = nI 256 from rfl, pk_mul, nI_add, hL]) ⟨g1, nm_r (e' := upd ya_got s (nI 0)) rfl ⟨g1, nm_r (e' := upd ya_has s 0) rfl ⟨g1, ?_⟩⟩⟩⟩⟩
  rw [pk_us]
  refine pk_le L 200 (fun w => ⟨g1, pk_eq L 0 (fun w0 => yf_ready hs (H0 w0)) (fun w0 => H1 (by omega) w)⟩) (fun w => ?_)
  exact yf_fail (c := 8) h0 hs hz (H8 w)
end
/-! T2: of a stream's message after a byte -/
section
variable {K : Nat → Nat} {R : Nat → Bool} {k s mm y p p' L t : Nat} {tx tx' : Nat → Nat} {life life' mc nc nt vc vo va sk rd cn ce mc' nc' nt' vc' vo' va' sk' rd' cn' ce' ty le go hi ha pr le' go' hi' ha' pr' : Nat → Int32}
theorem td_ha (h : p < 3) (h' : p' < 3) : (if mm ≠ 0 ∧ p < 3 then (1 : Int32) else 0) = if mm ≠ 0 ∧ p' < 3 then 1 else 0 := by
  by_cases e : mm = 0
  · rw [if_neg (fun w => w.1 e), if_neg (fun w => w.1 e)]
  · rw [if_pos ⟨e, h⟩, if_pos ⟨e, h'⟩]
theorem td_low (hp : p < 3) (hp' : p' < 3) (hl0 : life' s ≠ 0) (hl1 : life' s = 1 → life s = 1) (h2 : pr' s = nI p') (h3 : rd' (11 * s) = nI p') (g4 : mm ≤ k) (g5 : mc s = nI mm) (g6 : y < 4)
    (g7 : ha s = if mm ≠ 0 ∧ p < 3 then 1 else 0) (h9 : p' = 2 → ∃ x, x < 256 ∧ hi' s = nI x ∧ rd' (11 * s + 1) = nI (256 * x)) (g10 : life s = 1 ∨ ha s = 1 → ty s = nI y ∧ nt (16 * s) = nI y)
    (g11 : ha s = 1 → ∃ L, L ≤ 200 ∧ le s = nI L ∧ go s = nI L ∧ cr_done K R s y L (cr_by tx s) nc nt vc vo va sk) :
    cr_m (k + 1) K R s tx life' mc nc nt vc vo va sk rd' cn ce ty le go hi' ha pr' :=
  ⟨p', mm, y, by omega, h2, h3, by omega, g5, g6, g7.trans (td_ha hp hp'), fun w => absurd w hl0, h9, fun w => g10 (w.elim (fun w => Or.inl (hl1 w)) Or.inr), g11, fun w => absurd w (by omega)⟩
theorem td_bad (hl : life' s = 2) (h2 : pr' s = nI 3) (h3 : rd' (11 * s) = nI 3) (g4 : mm ≤ k) (g5 : mc' s = nI mm) (g6 : y < 4) (g7 : ha' s = 0) :
    cr_m (k + 1) K R s tx' life' mc' nc' nt' vc' vo' va' sk' rd' cn' ce' ty le' go' hi' ha' pr' :=
  ⟨3, mm, y, by omega, h2, h3, by omega, g5, g6, g7.trans (if_neg (fun w => absurd w.2 (by omega))).symm, fun w => absurd (hl.symm.trans w) (by decide), fun w => absurd w (by omega),
    fun w => w.elim (fun w => absurd (hl.symm.trans w) (by decide)) (fun w => absurd (g7.symm.trans w) (by decide)), fun w => absurd (g7.symm.trans w) (by decide), fun _ w => absurd (hl.symm.trans w) (by decide)⟩
theorem td_inc (hL : L ≤ 200) (hl : life' s = 1) (h2 : pr' s = nI 3) (h3 : rd' (11 * s) = nI 3) (g4 : mm ≤ k) (g5 : mc' s = nI mm) (g6 : y < 4) (g7 : ha' s = 0) (g10 : ty s = nI y ∧ nt' (16 * s) = nI y) (hle : le' s = nI L) (hgo : go' s = nI t)
    (hi : cr_inc K R s y L t (cr_by tx' s) nc' nt' vc' vo' va' sk' rd' cn' ce') :
    cr_m (k + 1) K R s tx' life' mc' nc' nt' vc' vo' va' sk' rd' cn' ce' ty le' go' hi' ha' pr' :=
  ⟨3, mm, y, by omega, h2, h3, by omega, g5, g6, g7.trans (if_neg (fun w => absurd w.2 (by omega))).symm, fun w => absurd (hl.symm.trans w) (by decide), fun w => absurd w (by omega),
    fun _ => g10, fun w => absurd (g7.symm.trans w) (by decide), fun _ _ => ⟨L, t, hL, hle, hgo, hi⟩⟩
theorem td_done (hL : L ≤ 200) (hl : life' s = 1) (h2 : pr' s = nI 0) (h3 : rd' (11 * s) = nI 0) (g4 : mm ≤ k) (g5 : mc' s = nI (mm + 1)) (g6 : y < 4) (g7 : ha' s = 1) (g10 : ty s = nI y ∧ nt' (16 * s) = nI y) (hle : le' s = nI L) (hgo : go' s = nI L)
    (hd : cr_done K R s y L (cr_by tx' s) nc' nt' vc' vo' va' sk') :
    cr_m (k + 1) K R s tx' life' mc' nc' nt' vc' vo' va' sk' rd' cn' ce' ty le' go' hi' ha' pr' :=
  ⟨0, mm + 1, y, by omega, h2, h3, by omega, g5, g6, g7.trans (if_pos ⟨by omega, by omega⟩).symm, fun w => absurd (hl.symm.trans w) (by decide), fun w => absurd w (by omega),
    fun _ => g10, fun _ => ⟨L, hL, hle, hgo, hd⟩, fun w => absurd w (by omega)⟩
/-- the stream itself and the others -/
theorem td_M (hM : cr_M k K R tx life mc nc nt vc vo va sk rd cn ce ty le go hi ha pr) (hs : s < 8)
    (hm : cr_m (k + 1) K R s tx' life' mc' nc' nt' vc' vo' va' sk' rd' cn' ce' ty le' go' hi' ha' pr')
    (hF : xr_fr s mc nc nt vc vo va sk rd cn ce mc' nc' nt' vc' vo' va' sk' rd' cn' ce') (htx : ∀ j, j < 200 * s ∨ 200 * s + 200 ≤ j → tx' j = tx j)
    (hl : ∀ i, i ≠ s → life' i = life i) (h1 : ∀ i, i ≠ s → le' i = le i) (h2 : ∀ i, i ≠ s → go' i = go i) (h3 : ∀ i, i ≠ s → hi' i = hi i) (h4 : ∀ i, i ≠ s → ha' i = ha i) (h5 : ∀ i, i ≠ s → pr' i = pr i) :
    cr_M (k + 1) K R tx' life' mc' nc' nt' vc' vo' va' sk' rd' cn' ce' ty le' go' hi' ha' pr' := by
  intro i i1 i8
  by_cases e : i = s
  · subst e; exact hm
  · exact cr_m_fr e hF (fun j hj => htx _ (by omega)) (h1 i e) (h2 i e) (h3 i e) (h4 i e) (h5 i e) rfl (hl i e) (cr_m_k (by omega) (hM i i1 i8))
theorem td_r {f : Nat → Int32} : ∀ i, i ≠ s → f i = f i := fun _ _ => rfl
theorem td_u {f : Nat → Int32} {x : Int32} : ∀ i, i ≠ s → upd f s x i = f i := fun _ h => pk_un h
theorem td_uu {f : Nat → Int32} {x x' : Int32} : ∀ i, i ≠ s → upd (upd f s x) s x' i = f i := fun _ h => (pk_un h).trans (pk_un h)
theorem td_fr0 (h : xr_O 11 s rd rd') : xr_fr s mc nc nt vc vo va sk rd cn ce mc nc nt vc vo va sk rd' cn ce :=
  ⟨xr_O_r, xr_O_r, xr_O_r, xr_O_r, xr_O_r, xr_O_r, xr_O_r, h, xr_O_r, xr_O_r, rfl⟩
theorem td_z {z : (Nat → Nat) × Nat} {c : Nat} (hO : ou_I z) (hs : s < 8) (hc : c < 256) : ou_I (ou_L z [1, 2, 0, s, c]) := by
  refine ou_L_I hO (fun b hb => ?_)
  simp only [List.mem_cons, List.not_mem_nil, or_false] at hb
  rcases hb with hb | hb | hb | hb | hb <;> omega
end
