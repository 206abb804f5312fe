/-! Z2: the sizes of bodies -/
section
theorem sz_wd_big : ∀ f x, 128 ^ f ≤ x → sz_wd f x = f + 1
  | 0, _, _ => rfl
  | f + 1, x, h => by
    have h1 : 128 ^ f ≤ x / 128 := by
      rw [Nat.pow_succ] at h
      exact (Nat.le_div_iff_mul_le (by omega)).mpr h
    have h2 : 0 < 128 ^ f := by first | exact Nat.pow_pos (by omega) | exact Nat.pos_pow_of_pos f (by omega)
    rw [sz_wd, if_neg (by omega), sz_wd_big f (x / 128) h1]
    omega
theorem sz_5 {k : Nat} (h0 : k ≠ 0) (h1 : k ≠ 1) (h2 : k ≠ 2) (h3 : k ≠ 3) (h4 : k ≠ 4) : 4 < k := by omega
theorem sz_16 {m : Nat} (h : m < 16) : m < 2 ^ 31 := by omega
theorem sz_ux_n {x : Int32} (h : x < 0) : sz_w (sz_ux x) = 10 := by
  unfold sz_w
  refine sz_wd_big 9 _ ?_
  unfold sz_ux
  rw [if_pos h]
  have hx : 2 ^ 31 ≤ x.toBitVec.toNat := by
    rcases Nat.lt_or_ge x.toBitVec.toNat (2 ^ 31) with g | g
    · exact absurd h (by rw [yr_nI x]; exact nI_pos g)
    · exact g
  have : (128 : Nat) ^ 9 = 2 ^ 63 := by decide
  omega
theorem sz_ux_p {x : Int32} (h : ¬ x < 0) : sz_ux x = x.toBitVec.toNat := if_neg h
variable {yf_down yf_heads yf_paid yf_payload yf_wants yf_name yf_first yf_counts yf_enters yf_most yf_many yf_sent yf_last yf_nodes yf_values yf_skipped yf_pos yf_there yf_number yf_at : Int32} {ya_kind ya_repeated ya_how ya_code ya_coming ya_going ya_type ya_headers ya_header ya_queued ya_otherEnded ya_ended ya_finishing ya_queue ya_prefix ya_length ya_got ya_high ya_whole ya_has ya_bytes ya_frame ya_payloads ya_table ya_out ya_nodeType ya_valueNode ya_valueNumber ya_value ya_from ya_limit ya_inside ya_sizes : Nat → Int32}
/-- the width of a value's body, as the reference reckons it -/
theorem zy_of {k j : Nat} {S : Nat → Nat} {post : Int32 → Prop} (hj : j < 48) (hk : k ≤ 8) (hk0 : k ≠ 0) (h4 : k = 4 → ∃ m, m < 2 ^ 31 ∧ ya_value j = nI m) (h5 : 4 < k → ∃ m, m < 16 ∧ ya_value j = nI m ∧ ya_sizes m = nI (S m))
    (H : post (nI (sz_b k (ya_value j) S))) : wpY_widthOf post (yf_down, yf_heads, yf_paid, yf_payload, yf_wants, yf_name, yf_first, yf_counts, yf_enters, yf_most, yf_many, yf_sent, yf_last, yf_nodes, yf_values, yf_skipped, yf_pos, yf_there, yf_number, yf_at, ya_kind, ya_repeated, ya_how, ya_code, ya_coming, ya_going, ya_type, ya_headers, ya_header, ya_queued, ya_otherEnded, ya_ended, ya_finishing, ya_queue, ya_prefix, ya_length, ya_got, ya_high, ya_whole, ya_has, ya_bytes, ya_frame, ya_payloads, ya_table, ya_out, ya_nodeType, ya_valueNode, ya_valueNumber, ya_value, ya_from, ya_limit, ya_inside, ya_sizes) (nI k + (-1)) (nI j) := by
  have yk := xr_k2 k hk
  unfold wpY_widthOf
  dsimp only
  refine ⟨vp_in_nI hj (by omega), nm_r (by rw [nI_clamp (by omega)]) ?_⟩
  unfold sz_b at H
  refine br_c (fun z => ?_) (fun z => ?_)
  · rw [if_pos (yk.2.1.mp z)] at H
    refine br_c (fun w => zy_width ?_) (fun w => ?_)
    · have hn : ¬ ya_value j < 0 := fun y => absurd (Int32.lt_of_lt_of_le y w) (by intro g; exact absurd g (Int32.lt_irrefl))
      rw [sz_ux_p hn] at H; exact H
    · have hn : ya_value j < 0 := by
        rw [Int32.le_iff_toInt_le] at w
        rw [Int32.lt_iff_toInt_lt]
        omega
      rw [sz_ux_n hn] at H; exact H
  · have k1 : k ≠ 1 := fun y => z (yk.2.1.mpr y)
    rw [if_neg k1] at H
    refine br_c (fun z2 => ?_) (fun z2 => ?_)
    · rw [if_pos (yk.2.2.1.mp z2)] at H
      exact zy_width H
    · have k2 : k ≠ 2 := fun y => z2 (yk.2.2.1.mpr y)
      rw [if_neg k2] at H
      refine br_c (fun z3 => ?_) (fun z3 => ?_)
      · rw [if_pos (yk.2.2.2.1.mp z3)] at H; exact H
      · have k3 : k ≠ 3 := fun y => z3 (yk.2.2.2.1.mpr y)
        rw [if_neg k3] at H
        refine br_c (fun z4 => ?_) (fun z4 => ?_)
        · have k4 := yk.2.2.2.2.1.mp z4
          obtain ⟨m, m1, m2⟩ := h4 k4
          rw [if_pos k4, m2, nI_clamp m1] at H
          rw [m2]; exact H
        · have k4 : k ≠ 4 := fun y => z4 (yk.2.2.2.2.1.mpr y)
          obtain ⟨m, m1, m2, m3⟩ := h5 (sz_5 hk0 k1 k2 k3 k4)
          rw [if_neg k4, m2, nI_clamp (sz_16 m1)] at H
          rw [m2, nI_clamp (sz_16 m1), m3]
          exact ⟨vp_in_nI m1 (by decide), H⟩
end
