/-! W2: the reference appends -/
section
theorem an_low (y : Int32) (b : Nat) (h : y.toBitVec.toNat % 256 = b % 256) : vp_nar .byte y.toInt8.toInt32 = an_b b := by
  rw [pk_vb]
  unfold an_b
  have e : y.toInt8 = (nI b).toInt8 := by
    apply Int8.toBitVec_inj.mp
    apply BitVec.eq_of_toNat_eq
    rw [Int32.toBitVec_toInt8, Int32.toBitVec_toInt8, BitVec.signExtend_eq_setWidth_of_le _ (by decide), BitVec.signExtend_eq_setWidth_of_le _ (by decide), BitVec.toNat_setWidth, BitVec.toNat_setWidth]
    have e2 : (nI b).toBitVec.toNat = b % 2 ^ 32 := rfl
    rw [e2]
    omega
  rw [e]
theorem lN_m128 {x : Nat} (hx : x < 2 ^ 64) : lN x &&& (-128) = 0 ↔ x / 128 = 0 := by
  have e0 : (-128 : Int64) = lN (2 ^ 64 - 128) := by decide
  rw [e0, wb_and hx (by decide)]
  have e1 : (x &&& (2 ^ 64 - 128)) / 2 ^ 7 = x / 128 := by
    rw [Nat.and_div_two_pow, show (2 ^ 64 - 128) / 2 ^ 7 = 2 ^ 57 - 1 by decide, Nat.and_two_pow_sub_one_eq_mod]
    omega
  have e2 : (x &&& (2 ^ 64 - 128)) % 2 ^ 7 = 0 := by
    rw [Nat.and_mod_two_pow, show (2 ^ 64 - 128) % 2 ^ 7 = 0 by decide, Nat.and_zero]
  generalize x &&& (2 ^ 64 - 128) = y at *
  have hy : y < 2 ^ 64 := by omega
  constructor
  · intro h
    have := congrArg (fun z : Int64 => z.toBitVec.toNat) h
    simp only [wb_tn hy] at this
    have z0 : (0 : Int64).toBitVec.toNat = 0 := by decide
    omega
  · intro h
    have : y = 0 := by omega
    rw [this]; rfl
theorem nI_or : ∀ r, r < 128 → nI r ||| 128 = nI (r + 128) := by decide +kernel
theorem pm_uu {f : Nat → Nat} {k x y : Nat} : pm_u (pm_u f k x) k y = pm_u f k y := by
  funext j
  unfold pm_u
  split <;> rfl
variable {yf_down yf_heads yf_paid yf_payload yf_wants yf_name yf_first yf_counts yf_enters yf_most yf_many yf_sent yf_last yf_nodes yf_values yf_skipped yf_pos yf_there yf_number yf_at : Int32} {ya_kind ya_repeated ya_how ya_code ya_coming ya_going ya_type ya_headers ya_header ya_queued ya_otherEnded ya_ended ya_finishing ya_queue ya_prefix ya_length ya_got ya_high ya_whole ya_has ya_bytes ya_frame ya_payloads ya_table ya_out ya_nodeType ya_valueNode ya_valueNumber ya_value ya_from ya_limit ya_inside ya_sizes : Nat → Int32} {s q1 : Nat} {ql Q1 : Nat → Nat} {k x v fr : Nat}
theorem yw_1 {post : SY → Prop} {b : Nat} {x : Int32} (hs : s < 8) (hq : q1 < 500) (hx : vp_nar .byte x.toInt8.toInt32 = an_b b) (H : post (yf_down, yf_heads, yf_paid, yf_payload, yf_wants, yf_name, yf_first, yf_counts, yf_enters, yf_most, yf_many, yf_sent, yf_last, yf_nodes, yf_values, yf_skipped, yf_pos, yf_there, yf_number, yf_at, ya_kind, ya_repeated, ya_how, ya_code, ya_coming, ya_going, ya_type, ya_headers, ya_header, an_f (pm_u ql s (q1 + 1)), ya_otherEnded, ya_ended, ya_finishing, an_g (pm_u Q1 (500 * s + q1) b), ya_prefix, ya_length, ya_got, ya_high, ya_whole, ya_has, ya_bytes, ya_frame, ya_payloads, ya_table, ya_out, ya_nodeType, ya_valueNode, ya_valueNumber, ya_value, ya_from, ya_limit, ya_inside, ya_sizes)) :
    wpY_append post (yf_down, yf_heads, yf_paid, yf_payload, yf_wants, yf_name, yf_first, yf_counts, yf_enters, yf_most, yf_many, yf_sent, yf_last, yf_nodes, yf_values, yf_skipped, yf_pos, yf_there, yf_number, yf_at, ya_kind, ya_repeated, ya_how, ya_code, ya_coming, ya_going, ya_type, ya_headers, ya_header, an_f (pm_u ql s q1), ya_otherEnded, ya_ended, ya_finishing, an_g Q1, ya_prefix, ya_length, ya_got, ya_high, ya_whole, ya_has, ya_bytes, ya_frame, ya_payloads, ya_table, ya_out, ya_nodeType, ya_valueNode, ya_valueNumber, ya_value, ya_from, ya_limit, ya_inside, ya_sizes) (nI s) x := by
  obtain ⟨c1, c2⟩ := xr_c8 hs
  have e1 : an_f (pm_u ql s q1) s = nI q1 := by rw [an_fa, pm_us]
  have e2 : 500 * nI s + nI q1 = nI (500 * s + q1) := by rw [show (500 : Int32) = nI 500 from rfl, pk_mul, nI_add]
  unfold wpY_append
  dsimp only
  rw [c2, e1, e2, nI_clamp (by omega), hx]
  exact ⟨c1, c1, nm_r (e' := an_f (pm_u ql s (q1 + 1))) (by rw [nI_1, an_fu, pm_uu]) ⟨vp_in_nI (by omega) (by omega), nm_r (an_gu _ _ _) H⟩⟩
theorem yw_17 {post : SY → Prop} (hs : s < 8) : ∀ f x Q1 q1, x < 128 ^ (f + 1) → x < 2 ^ 64 → q1 + (ct_vd f x).length ≤ 500 →
    post (yf_down, yf_heads, yf_paid, yf_payload, yf_wants, yf_name, yf_first, yf_counts, yf_enters, yf_most, yf_many, yf_sent, yf_last, yf_nodes, yf_values, yf_skipped, yf_pos, yf_there, yf_number, yf_at, ya_kind, ya_repeated, ya_how, ya_code, ya_coming, ya_going, ya_type, ya_headers, ya_header, an_f (pm_u ql s (q1 + (ct_vd f x).length)), ya_otherEnded, ya_ended, ya_finishing, an_g (ct_put Q1 (500 * s + q1) (ct_vd f x)), ya_prefix, ya_length, ya_got, ya_high, ya_whole, ya_has, ya_bytes, ya_frame, ya_payloads, ya_table, ya_out, ya_nodeType, ya_valueNode, ya_valueNumber, ya_value, ya_from, ya_limit, ya_inside, ya_sizes) → wY_appendVarint_17 post (nI s) (f + 1) (lN x) yf_down yf_heads yf_paid yf_payload yf_wants yf_name yf_first yf_counts yf_enters yf_most yf_many yf_sent yf_last yf_nodes yf_values yf_skipped yf_pos yf_there yf_number yf_at ya_kind ya_repeated ya_how ya_code ya_coming ya_going ya_type ya_headers ya_header (an_f (pm_u ql s q1)) ya_otherEnded ya_ended ya_finishing (an_g Q1) ya_prefix ya_length ya_got ya_high ya_whole ya_has ya_bytes ya_frame ya_payloads ya_table ya_out ya_nodeType ya_valueNode ya_valueNumber ya_value ya_from ya_limit ya_inside ya_sizes
  | 0, x, Q1, q1, h1, h2, h3, H => by
    have h3' : q1 + 1 ≤ 500 := h3
    rw [wY_appendVarint_17]
    refine br_t ((lN_m128 h2).mpr (by omega)) (yw_1 (b := x) hs (by omega) (by rw [lN_i]; exact an_b1 x) H)
  | f + 1, x, Q1, q1, h1, h2, h3, H => by
    rw [wY_appendVarint_17]
    rw [ct_vd] at H h3
    by_cases h0 : x / 128 = 0
    · rw [if_pos h0] at H h3
      have h3' : q1 + 1 ≤ 500 := h3
      exact br_t ((lN_m128 h2).mpr h0) (yw_1 (b := x) hs (by omega) (by rw [lN_i]; exact an_b1 x) H)
    · rw [if_neg h0] at H h3
      rw [List.length_cons] at H h3
      have e1 : (lN x &&& 127).toInt32 ||| 128 = nI (x % 128 + 128) := by
        rw [show (127 : Int64) = lN (2 ^ 7 - 1) from rfl, wb_mask h2 (by omega), lN_i]
        exact nI_or _ (by omega)
      dsimp only
      rw [e1]
      refine br_f (fun w => h0 ((lN_m128 h2).mp w)) (yw_1 (b := x % 128 + 128) hs (by omega) (an_b1 _) (nm_r (e' := lN (x / 128)) (wb_shr (k := 7) h2 (by omega)) ?_))
      refine yw_17 hs f (x / 128) (pm_u Q1 (500 * s + q1) (x % 128 + 128)) (q1 + 1) ?_ (by omega) (by omega) ?_
      · rw [Nat.pow_succ] at h1
        exact Nat.div_lt_of_lt_mul (by omega)
      · rw [show 500 * s + (q1 + 1) = 500 * s + q1 + 1 by omega, show q1 + 1 + (ct_vd f (x / 128)).length = q1 + ((ct_vd f (x / 128)).length + 1) by omega]
        exact H
theorem yw_L {post : SY → Prop} {y : Nat} (hs : s < 8) (hy : y < 2 ^ 64) (hl : q1 + (ct_v y).length ≤ 500) (H : post (yf_down, yf_heads, yf_paid, yf_payload, yf_wants, yf_name, yf_first, yf_counts, yf_enters, yf_most, yf_many, yf_sent, yf_last, yf_nodes, yf_values, yf_skipped, yf_pos, yf_there, yf_number, yf_at, ya_kind, ya_repeated, ya_how, ya_code, ya_coming, ya_going, ya_type, ya_headers, ya_header, an_f (pm_u ql s (q1 + (ct_v y).length)), ya_otherEnded, ya_ended, ya_finishing, an_g (ct_put Q1 (500 * s + q1) (ct_v y)), ya_prefix, ya_length, ya_got, ya_high, ya_whole, ya_has, ya_bytes, ya_frame, ya_payloads, ya_table, ya_out, ya_nodeType, ya_valueNode, ya_valueNumber, ya_value, ya_from, ya_limit, ya_inside, ya_sizes)) :
    ∃ m, wY_appendVarint_17 post (nI s) m (lN y) yf_down yf_heads yf_paid yf_payload yf_wants yf_name yf_first yf_counts yf_enters yf_most yf_many yf_sent yf_last yf_nodes yf_values yf_skipped yf_pos yf_there yf_number yf_at ya_kind ya_repeated ya_how ya_code ya_coming ya_going ya_type ya_headers ya_header (an_f (pm_u ql s q1)) ya_otherEnded ya_ended ya_finishing (an_g Q1) ya_prefix ya_length ya_got ya_high ya_whole ya_has ya_bytes ya_frame ya_payloads ya_table ya_out ya_nodeType ya_valueNode ya_valueNumber ya_value ya_from ya_limit ya_inside ya_sizes :=
  ⟨10, yw_17 hs 9 y Q1 q1 (Nat.lt_trans hy (by decide)) hy hl H⟩
theorem yw_v0 {post : SY → Prop} {y : Int32} (hs : s < 8) (hl : q1 + (ct_v y.toBitVec.toNat).length ≤ 500) (H : post (yf_down, yf_heads, yf_paid, yf_payload, yf_wants, yf_name, yf_first, yf_counts, yf_enters, yf_most, yf_many, yf_sent, yf_last, yf_nodes, yf_values, yf_skipped, yf_pos, yf_there, yf_number, yf_at, ya_kind, ya_repeated, ya_how, ya_code, ya_coming, ya_going, ya_type, ya_headers, ya_header, an_f (pm_u ql s (q1 + (ct_v y.toBitVec.toNat).length)), ya_otherEnded, ya_ended, ya_finishing, an_g (ct_put Q1 (500 * s + q1) (ct_v y.toBitVec.toNat)), ya_prefix, ya_length, ya_got, ya_high, ya_whole, ya_has, ya_bytes, ya_frame, ya_payloads, ya_table, ya_out, ya_nodeType, ya_valueNode, ya_valueNumber, ya_value, ya_from, ya_limit, ya_inside, ya_sizes)) :
    wpY_appendVarint post (yf_down, yf_heads, yf_paid, yf_payload, yf_wants, yf_name, yf_first, yf_counts, yf_enters, yf_most, yf_many, yf_sent, yf_last, yf_nodes, yf_values, yf_skipped, yf_pos, yf_there, yf_number, yf_at, ya_kind, ya_repeated, ya_how, ya_code, ya_coming, ya_going, ya_type, ya_headers, ya_header, an_f (pm_u ql s q1), ya_otherEnded, ya_ended, ya_finishing, an_g Q1, ya_prefix, ya_length, ya_got, ya_high, ya_whole, ya_has, ya_bytes, ya_frame, ya_payloads, ya_table, ya_out, ya_nodeType, ya_valueNode, ya_valueNumber, ya_value, ya_from, ya_limit, ya_inside, ya_sizes) (nI s) y 0 := by
  unfold wpY_appendVarint
  exact br_t rfl (nm_r (zx_z y) (yw_L hs (Nat.lt_trans y.toBitVec.isLt (by decide)) hl H))
theorem yw_v1 {post : SY → Prop} {y : Int32} (hs : s < 8) (hl : q1 + (ct_v (sz_ux y)).length ≤ 500) (H : post (yf_down, yf_heads, yf_paid, yf_payload, yf_wants, yf_name, yf_first, yf_counts, yf_enters, yf_most, yf_many, yf_sent, yf_last, yf_nodes, yf_values, yf_skipped, yf_pos, yf_there, yf_number, yf_at, ya_kind, ya_repeated, ya_how, ya_code, ya_coming, ya_going, ya_type, ya_headers, ya_header, an_f (pm_u ql s (q1 + (ct_v (sz_ux y)).length)), ya_otherEnded, ya_ended, ya_finishing, an_g (ct_put Q1 (500 * s + q1) (ct_v (sz_ux y))), ya_prefix, ya_length, ya_got, ya_high, ya_whole, ya_has, ya_bytes, ya_frame, ya_payloads, ya_table, ya_out, ya_nodeType, ya_valueNode, ya_valueNumber, ya_value, ya_from, ya_limit, ya_inside, ya_sizes)) :
    wpY_appendVarint post (yf_down, yf_heads, yf_paid, yf_payload, yf_wants, yf_name, yf_first, yf_counts, yf_enters, yf_most, yf_many, yf_sent, yf_last, yf_nodes, yf_values, yf_skipped, yf_pos, yf_there, yf_number, yf_at, ya_kind, ya_repeated, ya_how, ya_code, ya_coming, ya_going, ya_type, ya_headers, ya_header, an_f (pm_u ql s q1), ya_otherEnded, ya_ended, ya_finishing, an_g Q1, ya_prefix, ya_length, ya_got, ya_high, ya_whole, ya_has, ya_bytes, ya_frame, ya_payloads, ya_table, ya_out, ya_nodeType, ya_valueNode, ya_valueNumber, ya_value, ya_from, ya_limit, ya_inside, ya_sizes) (nI s) y 1 := by
  unfold wpY_appendVarint
  dsimp only
  rw [zx_ext]
  exact br_f (by decide) (yw_L hs (sz_ux_lt y) hl H)
/-- what a value brings, a part's own bytes aside -/
def yv_l (B : Nat → Nat) (k : Nat) (x : Int32) (fr : Nat) : List Nat :=
  if k = 1 then ct_v (sz_ux x) else if k = 2 then ct_v (sz_zg x).toBitVec.toNat else if k = 3 then ct_4 x.toBitVec.toNat
  else if k = 4 then (List.range x.toNatClampNeg).map (fun i => B (fr + i)) else []
theorem yv_n {post : SY → Prop} {x1 x2 x3 x4 : Int32} (h2 : ¬ x2 = 2) (h3 : ¬ x2 = 3) (H : post (yf_down, yf_heads, yf_paid, yf_payload, yf_wants, yf_name, yf_first, yf_counts, yf_enters, yf_most, yf_many, yf_sent, yf_last, yf_nodes, yf_values, yf_skipped, yf_pos, yf_there, yf_number, yf_at, ya_kind, ya_repeated, ya_how, ya_code, ya_coming, ya_going, ya_type, ya_headers, ya_header, ya_queued, ya_otherEnded, ya_ended, ya_finishing, ya_queue, ya_prefix, ya_length, ya_got, ya_high, ya_whole, ya_has, ya_bytes, ya_frame, ya_payloads, ya_table, ya_out, ya_nodeType, ya_valueNode, ya_valueNumber, ya_value, ya_from, ya_limit, ya_inside, ya_sizes)) : ∃ m, wY_appendValue_44 post x1 x2 x3 x4 m 0 yf_down yf_heads yf_paid yf_payload yf_wants yf_name yf_first yf_counts yf_enters yf_most yf_many yf_sent yf_last yf_nodes yf_values yf_skipped yf_pos yf_there yf_number yf_at ya_kind ya_repeated ya_how ya_code ya_coming ya_going ya_type ya_headers ya_header ya_queued ya_otherEnded ya_ended ya_finishing ya_queue ya_prefix ya_length ya_got ya_high ya_whole ya_has ya_bytes ya_frame ya_payloads ya_table ya_out ya_nodeType ya_valueNode ya_valueNumber ya_value ya_from ya_limit ya_inside ya_sizes := by
  refine ⟨1, ?_⟩
  rw [wY_appendValue_44]
  refine br_f (by decide) (br_f h2 ⟨1, ?_⟩)
  rw [wY_appendValue_77]
  exact br_c (fun _ => H) (fun _ => br_f h3 H)
theorem yv_77 {post : SY → Prop} {tx B : Nat → Nat} {m : Nat} (hs : s < 8) (hv : v < 48) (hB : yr_B tx s B) (hfr : ya_from v = nI fr) (hm : fr + m ≤ 200) : ∀ f i Q1 q1, i + f = m → q1 + f ≤ 500 →
    post (yf_down, yf_heads, yf_paid, yf_payload, yf_wants, yf_name, yf_first, yf_counts, yf_enters, yf_most, yf_many, yf_sent, yf_last, yf_nodes, yf_values, yf_skipped, yf_pos, yf_there, yf_number, yf_at, ya_kind, ya_repeated, ya_how, ya_code, ya_coming, ya_going, ya_type, ya_headers, ya_header, an_f (pm_u ql s (q1 + f)), ya_otherEnded, ya_ended, ya_finishing, an_g (ct_put Q1 (500 * s + q1) ((List.range' i f).map (fun i => B (fr + i)))), ya_prefix, ya_length, ya_got, ya_high, ya_whole, ya_has, an_g tx, ya_frame, ya_payloads, ya_table, ya_out, ya_nodeType, ya_valueNode, ya_valueNumber, ya_value, ya_from, ya_limit, ya_inside, ya_sizes) →
    wY_appendValue_77 post (nI s) 3 (nI v) (nI m) (f + 1) (nI i) yf_down yf_heads yf_paid yf_payload yf_wants yf_name yf_first yf_counts yf_enters yf_most yf_many yf_sent yf_last yf_nodes yf_values yf_skipped yf_pos yf_there yf_number yf_at ya_kind ya_repeated ya_how ya_code ya_coming ya_going ya_type ya_headers ya_header (an_f (pm_u ql s q1)) ya_otherEnded ya_ended ya_finishing (an_g Q1) ya_prefix ya_length ya_got ya_high ya_whole ya_has (an_g tx) ya_frame ya_payloads ya_table ya_out ya_nodeType ya_valueNode ya_valueNumber ya_value ya_from ya_limit ya_inside ya_sizes
  | 0, i, Q1, q1, hi, hq, H => by
    rw [wY_appendValue_77]
    exact pk_le m i (fun _ => H) (fun w => by omega)
  | f + 1, i, Q1, q1, hi, hq, H => by
    rw [wY_appendValue_77]
    have e1 : 200 * nI s + nI fr + nI i = nI (200 * s + fr + i) := by rw [show (200 : Int32) = nI 200 from rfl, pk_mul, nI_add, nI_add]
    have e2 : an_g tx (200 * s + fr + i) = an_b (B (fr + i)) := by rw [an_ga, hB.2.2 (fr + i) (by omega), Nat.add_assoc]
    dsimp only
    rw [nI_clamp (n := v) (by omega), hfr, e1, nI_clamp (by omega), e2]
    refine pk_le m i (fun w => by omega) (fun _ => br_t rfl ⟨vp_in_nI hv (by omega), vp_in_nI (by omega) (by omega), yw_1 hs (by omega) (an_bb _) (nm_r (nI_1 i) ?_)⟩)
    refine yv_77 hs hv hB hfr hm f (i + 1) (pm_u Q1 (500 * s + q1) (B (fr + i))) (q1 + 1) (by omega) (by omega) ?_
    rw [show 500 * s + (q1 + 1) = 500 * s + q1 + 1 by omega, show q1 + 1 + f = q1 + (f + 1) by omega]
    exact H
theorem yv_44 {post : SY → Prop} {y : Int32} {x3 : Int32} (hs : s < 8) (hq : q1 + 4 ≤ 500) (H : post (yf_down, yf_heads, yf_paid, yf_payload, yf_wants, yf_name, yf_first, yf_counts, yf_enters, yf_most, yf_many, yf_sent, yf_last, yf_nodes, yf_values, yf_skipped, yf_pos, yf_there, yf_number, yf_at, ya_kind, ya_repeated, ya_how, ya_code, ya_coming, ya_going, ya_type, ya_headers, ya_header, an_f (pm_u ql s (q1 + 4)), ya_otherEnded, ya_ended, ya_finishing, an_g (ct_put Q1 (500 * s + q1) (ct_4 y.toBitVec.toNat)), ya_prefix, ya_length, ya_got, ya_high, ya_whole, ya_has, ya_bytes, ya_frame, ya_payloads, ya_table, ya_out, ya_nodeType, ya_valueNode, ya_valueNumber, ya_value, ya_from, ya_limit, ya_inside, ya_sizes)) :
    ∃ m, wY_appendValue_44 post (nI s) 2 x3 y m 0 yf_down yf_heads yf_paid yf_payload yf_wants yf_name yf_first yf_counts yf_enters yf_most yf_many yf_sent yf_last yf_nodes yf_values yf_skipped yf_pos yf_there yf_number yf_at ya_kind ya_repeated ya_how ya_code ya_coming ya_going ya_type ya_headers ya_header (an_f (pm_u ql s q1)) ya_otherEnded ya_ended ya_finishing (an_g Q1) ya_prefix ya_length ya_got ya_high ya_whole ya_has ya_bytes ya_frame ya_payloads ya_table ya_out ya_nodeType ya_valueNode ya_valueNumber ya_value ya_from ya_limit ya_inside ya_sizes := by
  have b0 := fd_sh y ((8 * (0 : Int32)) &&& 31) 0 (Or.inl rfl) (by decide)
  have b1 := fd_sh y ((8 * (1 : Int32)) &&& 31) 8 (Or.inr (Or.inl rfl)) (by decide)
  have b2 := fd_sh y ((8 * (2 : Int32)) &&& 31) 16 (Or.inr (Or.inr (Or.inl rfl))) (by decide)
  have b3 := fd_sh y ((8 * (3 : Int32)) &&& 31) 24 (Or.inr (Or.inr (Or.inr rfl))) (by decide)
  refine ⟨5, ?_⟩
  rw [wY_appendValue_44]
  refine br_f (by decide) (br_t rfl (yw_1 (b := y.toBitVec.toNat % 256) hs (by omega) (an_low _ _ (by omega)) (nm_r (e' := 1) (by decide) ?_)))
  rw [wY_appendValue_44]
  refine br_f (by decide) (br_t rfl (yw_1 (b := y.toBitVec.toNat / 256 % 256) hs (by omega) (an_low _ _ (by omega)) (nm_r (e' := 2) (by decide) ?_)))
  rw [wY_appendValue_44]
  refine br_f (by decide) (br_t rfl (yw_1 (b := y.toBitVec.toNat / 65536 % 256) hs (by omega) (an_low _ _ (by omega)) (nm_r (e' := 3) (by decide) ?_)))
  rw [wY_appendValue_44]
  refine br_f (by decide) (br_t rfl (yw_1 (b := y.toBitVec.toNat / 16777216 % 256) hs (by omega) (an_low _ _ (by omega)) (nm_r (e' := 4) (by decide) ?_)))
  rw [wY_appendValue_44]
  refine br_t (by decide) ⟨1, ?_⟩
  rw [wY_appendValue_77]
  exact br_c (fun _ => H) (fun _ => br_f (by decide) H)
theorem yv_val {post : SY → Prop} {tx B : Nat → Nat} {y : Int32} (hs : s < 8) (hv : v < 48) (hk : k ≤ 8) (hk0 : k ≠ 0) (hB : yr_B tx s B) (hval : ya_value v = y) (hfr : ya_from v = nI fr) (h4 : k = 4 → ∃ m, y = nI m ∧ fr + m ≤ 200)
    (hq : q1 + (yv_l B k y fr).length ≤ 500) (H : post (yf_down, yf_heads, yf_paid, yf_payload, yf_wants, yf_name, yf_first, yf_counts, yf_enters, yf_most, yf_many, yf_sent, yf_last, yf_nodes, yf_values, yf_skipped, yf_pos, yf_there, yf_number, yf_at, ya_kind, ya_repeated, ya_how, ya_code, ya_coming, ya_going, ya_type, ya_headers, ya_header, an_f (pm_u ql s (q1 + (yv_l B k y fr).length)), ya_otherEnded, ya_ended, ya_finishing, an_g (ct_put Q1 (500 * s + q1) (yv_l B k y fr)), ya_prefix, ya_length, ya_got, ya_high, ya_whole, ya_has, an_g tx, ya_frame, ya_payloads, ya_table, ya_out, ya_nodeType, ya_valueNode, ya_valueNumber, ya_value, ya_from, ya_limit, ya_inside, ya_sizes)) :
    wpY_appendValue post (yf_down, yf_heads, yf_paid, yf_payload, yf_wants, yf_name, yf_first, yf_counts, yf_enters, yf_most, yf_many, yf_sent, yf_last, yf_nodes, yf_values, yf_skipped, yf_pos, yf_there, yf_number, yf_at, ya_kind, ya_repeated, ya_how, ya_code, ya_coming, ya_going, ya_type, ya_headers, ya_header, an_f (pm_u ql s q1), ya_otherEnded, ya_ended, ya_finishing, an_g Q1, ya_prefix, ya_length, ya_got, ya_high, ya_whole, ya_has, an_g tx, ya_frame, ya_payloads, ya_table, ya_out, ya_nodeType, ya_valueNode, ya_valueNumber, ya_value, ya_from, ya_limit, ya_inside, ya_sizes) (nI s) (nI k + (-1)) (nI v) := by
  have yk := xr_k2 k hk
  unfold wpY_appendValue
  refine ⟨vp_in_nI hv (by omega), nm_r (e' := y) (by rw [nI_clamp (by omega)]; exact hval) ?_⟩
  unfold yv_l at H hq
  by_cases k1 : k = 1
  · subst k1
    rw [if_pos rfl] at H hq
    refine br_t (by decide) (yw_v1 hs hq ?_)
    dsimp only
    unfold wY_appendValue_20
    exact br_f (by decide) (yv_n (by decide) (by decide) H)
  · rw [if_neg k1] at H hq
    refine br_f (fun w => k1 (yk.2.1.mp w)) ?_
    unfold wY_appendValue_20
    by_cases k2 : k = 2
    · subst k2
      rw [if_pos rfl] at H hq
      exact br_t (by decide) (yw_v0 (y := sz_zg y) hs hq (yv_n (by decide) (by decide) H))
    · rw [if_neg k2] at H hq
      refine br_f (fun w => k2 (yk.2.2.1.mp w)) ?_
      by_cases k3 : k = 3
      · subst k3
        rw [if_pos rfl] at H hq
        exact yv_44 hs hq H
      · rw [if_neg k3] at H hq
        by_cases k4 : k = 4
        · subst k4
          rw [if_pos rfl] at H hq
          obtain ⟨m, e, hm⟩ := h4 rfl
          subst e
          rw [nI_clamp (by omega)] at H hq
          rw [List.length_map, List.length_range] at hq
          rw [List.length_map, List.length_range, List.range_eq_range'] at H
          refine ⟨1, ?_⟩
          rw [wY_appendValue_44]
          exact br_f (by decide) (br_f (by decide) ⟨m + 1, yv_77 hs hv hB hfr hm m 0 Q1 q1 (by omega) hq H⟩)
        · rw [if_neg k4] at H
          exact yv_n (fun w => k3 (yk.2.2.2.1.mp w)) (fun w => k4 (yk.2.2.2.2.1.mp w)) H
end
