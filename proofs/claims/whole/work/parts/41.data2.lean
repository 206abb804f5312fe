/-! T3: a byte of a message, on the reference's side -/
section
variable {yf_down yf_heads yf_paid yf_payload yf_wants yf_name yf_first yf_counts yf_enters yf_most yf_many yf_sent yf_last yf_nodes yf_values yf_skipped yf_pos yf_there yf_number yf_at : Int32} {ya_kind ya_repeated ya_how ya_code ya_coming ya_going ya_type ya_headers ya_header ya_queued ya_otherEnded ya_ended ya_finishing ya_queue ya_prefix ya_length ya_got ya_high ya_whole ya_has ya_bytes ya_frame ya_payloads ya_table ya_out ya_nodeType ya_valueNode ya_valueNumber ya_value ya_from ya_limit ya_inside ya_sizes : Nat → Int32} {z : (Nat → Nat) × Nat} {s b L t y : Nat} {tx : Nat → Nat} {K : Nat → Nat} {R : Nat → Bool}
theorem td_B (h : cr_B tx) : yr_B tx s (cr_by tx s) := by
  refine ⟨h, fun i => ?_, fun i hi => if_pos hi⟩
  unfold cr_by
  split
  · exact h _
  · omega
theorem td_BB {j : Nat} (hb : b < 256) (h : cr_B tx) : cr_B (pm_u tx j b) := by
  intro i
  unfold pm_u
  split
  · exact hb
  · exact h i
theorem yd_3 {post : SY → Prop} {r : Nat × pm_C} (h0 : 0 < s) (hs : s < 8) (hb : b < 256) (hy : y < 4) (hL : L ≤ 200) (ht : t < L) (hz : z.2 ≤ 1200) (hK : cr_K ya_kind ya_repeated K R) (hX : cr_B tx) (hp : ya_prefix s = nI 3)
    (hgo : ya_got s = nI t) (hle : ya_length s = nI L) (hty : ya_type s = nI y) (hrd : pm_Rd (cr_by (pm_u tx (200 * s + t) b) s) K R (t + 1) (cr_0 y L) r) (hr5 : r.1 ≤ 5 ∨ r.1 = 9)
    (HE : ∀ (a : yr_Z), r.1 ≠ 0 → r.1 ≠ 9 → post (yf_down, yf_heads, yf_paid, yf_payload, yf_wants, yf_name, yf_first, 0, yf_enters, yf_most, yf_many, nI (ou_L z [1, 2, 0, s, 10 + r.1]).2, yf_last, a.1, a.2.1, a.2.2.1, a.2.2.2.1, nI (t + 1), a.2.2.2.2.1, a.2.2.2.2.2.1, ya_kind, ya_repeated, upd ya_how s 2, upd ya_code s (nI (10 + r.1)), ya_coming, ya_going, ya_type, ya_headers, ya_header, upd ya_queued s 0, ya_otherEnded, ya_ended, ya_finishing, ya_queue, ya_prefix, ya_length, upd ya_got s (nI (t + 1)), ya_high, ya_whole, ya_has, an_g (pm_u tx (200 * s + t) b), ya_frame, ya_payloads, ya_table, an_g (ou_L z [1, 2, 0, s, 10 + r.1]).1, a.2.2.2.2.2.2.1, a.2.2.2.2.2.2.2.1, a.2.2.2.2.2.2.2.2.1, a.2.2.2.2.2.2.2.2.2.1, a.2.2.2.2.2.2.2.2.2.2.1, a.2.2.2.2.2.2.2.2.2.2.2.1, a.2.2.2.2.2.2.2.2.2.2.2.2, ya_sizes))
    (H1 : ∀ (a : yr_Z), r.1 = 0 ∨ r.1 = 9 → t + 1 ≠ L → post (yf_down, yf_heads, yf_paid, yf_payload, yf_wants, yf_name, yf_first, yf_counts, yf_enters, yf_most, yf_many, nI z.2, yf_last, a.1, a.2.1, a.2.2.1, a.2.2.2.1, nI (t + 1), a.2.2.2.2.1, a.2.2.2.2.2.1, ya_kind, ya_repeated, ya_how, ya_code, ya_coming, ya_going, ya_type, ya_headers, ya_header, ya_queued, ya_otherEnded, ya_ended, ya_finishing, ya_queue, ya_prefix, ya_length, upd ya_got s (nI (t + 1)), ya_high, ya_whole, ya_has, an_g (pm_u tx (200 * s + t) b), ya_frame, ya_payloads, ya_table, an_g z.1, a.2.2.2.2.2.2.1, a.2.2.2.2.2.2.2.1, a.2.2.2.2.2.2.2.2.1, a.2.2.2.2.2.2.2.2.2.1, a.2.2.2.2.2.2.2.2.2.2.1, a.2.2.2.2.2.2.2.2.2.2.2.1, a.2.2.2.2.2.2.2.2.2.2.2.2, ya_sizes))
    (H0 : ∀ (a : yr_Z), r.1 = 0 ∨ r.1 = 9 → t + 1 = L → post (yf_down, yf_heads, yf_paid, yf_payload, yf_wants, yf_name, yf_first, yf_counts, yf_enters, yf_most, yf_many, nI z.2, yf_last, a.1, a.2.1, a.2.2.1, a.2.2.2.1, nI (t + 1), a.2.2.2.2.1, a.2.2.2.2.2.1, ya_kind, ya_repeated, ya_how, ya_code, ya_coming, ya_going, ya_type, ya_headers, ya_header, ya_queued, ya_otherEnded, ya_ended, ya_finishing, ya_queue, upd ya_prefix s 0, ya_length, upd ya_got s (nI (t + 1)), ya_high, upd ya_whole s (ya_whole s + 1), upd ya_has s 1, an_g (pm_u tx (200 * s + t) b), ya_frame, ya_payloads, ya_table, an_g z.1, a.2.2.2.2.2.2.1, a.2.2.2.2.2.2.2.1, a.2.2.2.2.2.2.2.2.1, a.2.2.2.2.2.2.2.2.2.1, a.2.2.2.2.2.2.2.2.2.2.1, a.2.2.2.2.2.2.2.2.2.2.2.1, a.2.2.2.2.2.2.2.2.2.2.2.2, ya_sizes)) :
    wpY_data post (yf_down, yf_heads, yf_paid, yf_payload, yf_wants, yf_name, yf_first, yf_counts, yf_enters, yf_most, yf_many, nI z.2, yf_last, yf_nodes, yf_values, yf_skipped, yf_pos, yf_there, yf_number, yf_at, ya_kind, ya_repeated, ya_how, ya_code, ya_coming, ya_going, ya_type, ya_headers, ya_header, ya_queued, ya_otherEnded, ya_ended, ya_finishing, ya_queue, ya_prefix, ya_length, ya_got, ya_high, ya_whole, ya_has, an_g tx, ya_frame, ya_payloads, ya_table, an_g z.1, ya_nodeType, ya_valueNode, ya_valueNumber, ya_value, ya_from, ya_limit, ya_inside, ya_sizes) (nI s) (nI b) := by
  obtain ⟨g1, g2⟩ := xr_c8 hs
  have et : 200 * nI s + nI t = nI (200 * s + t) := by
    rw [show (200 : Int32) = nI 200 from rfl, pk_mul, nI_add]
  unfold wpY_data
  dsimp only
  rw [g2, hp, hgo, et]
  refine ⟨g1, br_t (by decide) ⟨g1, g1, nm_r (e' := upd ya_got s (nI (t + 1))) (by rw [nI_1]) ⟨vp_in_nI (by omega) (by omega), nm_r (e' := an_g (pm_u tx (200 * s + t) b)) (by rw [nI_clamp (by omega), an_b1, an_gu]) ?_⟩⟩⟩
  refine yr_read (B := cr_by (pm_u tx (200 * s + t) b) s) (T := t + 1) (L := L) (K := K) (R := R) hy hL hK (td_B (td_BB hb hX)) hs (by omega) hty hle pk_us hrd (fun c' a ha _ => ?_) (fun a ha => ?_)
  · dsimp only
    refine br_t (by decide) ⟨g1, g1, ?_⟩
    rw [pk_us, hle]
    exact pk_eq (t + 1) L (fun w => yf_ready hs (H0 a (Or.inl (by rw [ha])) w)) (fun w => H1 a (Or.inl (by rw [ha])) w)
  · by_cases h9 : r.1 = 9
    · have e9 : yr_a r.1 = 0 := if_pos h9
      dsimp only
      rw [e9]
      refine br_t (by decide) ⟨g1, g1, ?_⟩
      rw [pk_us, hle]
      exact pk_eq (t + 1) L (fun w => yf_ready hs (H0 a (Or.inr h9) w)) (fun w => H1 a (Or.inr h9) w)
    · have e9 : yr_a r.1 = nI r.1 := if_neg h9
      have h5 : r.1 ≤ 5 := by omega
      dsimp only
      rw [e9]
      refine pk_le r.1 0 (fun w => by omega) (fun _ => ?_)
      have e10 : (10 : Int32) + nI r.1 = nI (10 + r.1) := by
        rw [show (10 : Int32) = nI 10 from rfl, nI_add]
      rw [e10]
      exact yf_fail h0 hs hz (HE a ha h9)
end
