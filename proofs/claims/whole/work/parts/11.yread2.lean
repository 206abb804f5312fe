/-! L: how the reference reads: rows of bytes, parts, elements, the whole -/
section
variable {yf_down yf_heads yf_paid yf_payload yf_wants yf_name yf_first yf_counts yf_enters yf_most yf_many yf_sent yf_last yf_nodes yf_values yf_skipped yf_pos yf_there yf_number yf_at : Int32} {ya_kind ya_repeated ya_how ya_code ya_coming ya_going ya_type ya_headers ya_header ya_queued ya_otherEnded ya_ended ya_finishing ya_queue ya_prefix ya_length ya_got ya_high ya_whole ya_has ya_bytes ya_frame ya_payloads ya_table ya_out ya_nodeType ya_valueNode ya_valueNumber ya_value ya_from ya_limit ya_inside ya_sizes : Nat → Int32} {s q e T : Nat} {tx : Nat → Nat} {K : Nat → Nat} {R : Nat → Bool} {L : Nat} {dep : Nat → Nat} {c : pm_C} {z : yr_Z} {a1 a2 a3 a4 a5 a6 a7 : Nat → Int32}
theorem yr_row {n len : Nat} {g : Nat × pm_C} (rD : yr_D (pm_d c) a1 a2 a3 a4 a5) (rA : ∀ i, i ≤ pm_at c → a6 i = nI (pm_lim c i) ∧ a7 i = nI (pm_ins c i)) (I : pm_CI K R L dep c) (hL : L ≤ 200) (hK : cr_K ya_kind ya_repeated K R) (hT : T ≤ 200)
    (hq : q ≤ T) (he : e = pm_lim c (pm_at c)) (hql : q + len ≤ e) (hn : 1 ≤ n) (hn' : n ≤ 15) (hk : K (pm_fj c n) = 4)
    (hg : g = pm_body K R T c n q len) {post : Int32 → SY → Prop}
    (H0 : ∀ c' z', g = (0, c') → yr_ok c' (pm_pos c') z' → post 0 (yf_down, yf_heads, yf_paid, yf_payload, yf_wants, yf_name, yf_first, yf_counts, yf_enters, yf_most, yf_many, yf_sent, yf_last, z'.1, z'.2.1, z'.2.2.1, z'.2.2.2.1, nI T, z'.2.2.2.2.1, z'.2.2.2.2.2.1, ya_kind, ya_repeated, ya_how, ya_code, ya_coming, ya_going, ya_type, ya_headers, ya_header, ya_queued, ya_otherEnded, ya_ended, ya_finishing, ya_queue, ya_prefix, ya_length, ya_got, ya_high, ya_whole, ya_has, an_g tx, ya_frame, ya_payloads, ya_table, ya_out, z'.2.2.2.2.2.2.1, z'.2.2.2.2.2.2.2.1, z'.2.2.2.2.2.2.2.2.1, z'.2.2.2.2.2.2.2.2.2.1, z'.2.2.2.2.2.2.2.2.2.2.1, z'.2.2.2.2.2.2.2.2.2.2.2.1, z'.2.2.2.2.2.2.2.2.2.2.2.2, ya_sizes)) (HE : ∀ x z', g.1 = x → x ≠ 0 → post (yr_c x) (yf_down, yf_heads, yf_paid, yf_payload, yf_wants, yf_name, yf_first, yf_counts, yf_enters, yf_most, yf_many, yf_sent, yf_last, z'.1, z'.2.1, z'.2.2.1, z'.2.2.2.1, nI T, z'.2.2.2.2.1, z'.2.2.2.2.2.1, ya_kind, ya_repeated, ya_how, ya_code, ya_coming, ya_going, ya_type, ya_headers, ya_header, ya_queued, ya_otherEnded, ya_ended, ya_finishing, ya_queue, ya_prefix, ya_length, ya_got, ya_high, ya_whole, ya_has, an_g tx, ya_frame, ya_payloads, ya_table, ya_out, z'.2.2.2.2.2.2.1, z'.2.2.2.2.2.2.2.1, z'.2.2.2.2.2.2.2.2.1, z'.2.2.2.2.2.2.2.2.2.1, z'.2.2.2.2.2.2.2.2.2.2.1, z'.2.2.2.2.2.2.2.2.2.2.2.1, z'.2.2.2.2.2.2.2.2.2.2.2.2, ya_sizes)) :
    wpY_row post (yf_down, yf_heads, yf_paid, yf_payload, yf_wants, yf_name, yf_first, yf_counts, yf_enters, yf_most, yf_many, yf_sent, yf_last, nI (pm_nn (pm_d c)), nI (pm_nv (pm_d c)), nI (pm_sk c), nI q, nI T, (nI len), nI (pm_at c), ya_kind, ya_repeated, ya_how, ya_code, ya_coming, ya_going, ya_type, ya_headers, ya_header, ya_queued, ya_otherEnded, ya_ended, ya_finishing, ya_queue, ya_prefix, ya_length, ya_got, ya_high, ya_whole, ya_has, an_g tx, ya_frame, ya_payloads, ya_table, ya_out, a1, a2, a3, a4, a5, a6, a7, ya_sizes) (nI n) (nI e) := by
  have h3 := I.2.1
  have hin := I.2.2.2.2.1 (pm_at c) (Nat.le_refl _)
  have hnv := I.1.2.2.1
  have hnn := I.1.2.1
  have hty := (I.1.2.2.2.2.1 _ hin.1).1
  have hl := pm_lim_le I (pm_at c) (Nat.le_refl _)
  have hle := pm_pl_le (R := R) (D := pm_d c) (pm_nd c) n
  have ej : 16 * nI (pm_nt (pm_d c) (pm_nd c)) + nI n = nI (pm_fj c n) := by
    rw [show (16 : Int32) = nI 16 from rfl, pk_mul, nI_add]; rfl
  have hj : pm_fj c n < 64 := by
    show 16 * pm_nt (pm_d c) (pm_ins c (pm_at c)) + n < 64; omega
  have hR := hK.2.2 (pm_fj c n) hj
  unfold pm_body at hg
  rw [if_neg (by omega), if_pos hk] at hg
  have h75 : pm_pl R (pm_d c) (pm_nd c) n ≠ 48 → wY_row_75 post (nI n) (nI e) (nI len) (nI q) yf_down yf_heads yf_paid yf_payload yf_wants yf_name yf_first yf_counts yf_enters yf_most yf_many yf_sent yf_last (nI (pm_nn (pm_d c))) (nI (pm_nv (pm_d c))) (nI (pm_sk c)) (nI q) (nI T) ((nI len)) (nI (pm_at c)) ya_kind ya_repeated ya_how ya_code ya_coming ya_going ya_type ya_headers ya_header ya_queued ya_otherEnded ya_ended ya_finishing ya_queue ya_prefix ya_length ya_got ya_high ya_whole ya_has (an_g tx) ya_frame ya_payloads ya_table ya_out (a1) (a2) (a3) (a4) (a5) (a6) (a7) ya_sizes := by
    intro h48
    rw [if_neg h48] at hg
    unfold wY_row_75
    refine yr_skip (n := len) (by omega) hT hq (by omega) (by omega) (fun g1 _ => absurd g1 (by omega)) (fun g1 _ => absurd g1 (by omega)) (fun g1 g2 => ?_) (fun g1 g2 => ?_)
    · rw [if_pos g2] at hg
      exact br_f (by decide) (HE 9 (nI (pm_nn (pm_d c)), nI (pm_nv (pm_d c)), nI (pm_sk c), nI q, nI len, nI (pm_at c), a1, a2, a3, a4, a5, a6, a7) (by rw [hg]) (by omega))
    · rw [if_neg (by omega)] at hg
      exact br_t rfl (yr_kept I hK rD rA hn hn' hg H0 HE)
  have h57 : pm_pl R (pm_d c) (pm_nd c) n = pm_nv (pm_d c) → wY_row_52 post (nI n) (nI e) (nI len) (nI q) yf_down yf_heads yf_paid yf_payload yf_wants yf_name yf_first yf_counts yf_enters yf_most yf_many yf_sent yf_last (nI (pm_nn (pm_d c))) (nI (pm_nv (pm_d c))) (nI (pm_sk c)) (nI q) (nI T) ((nI len)) (nI (pm_at c)) ya_kind ya_repeated ya_how ya_code ya_coming ya_going ya_type ya_headers ya_header ya_queued ya_otherEnded ya_ended ya_finishing ya_queue ya_prefix ya_length ya_got ya_high ya_whole ya_has (an_g tx) ya_frame ya_payloads ya_table ya_out (a1) (a2) (a3) (a4) (a5) (a6) (a7) ya_sizes := by
    intro hp
    unfold wY_row_52 wY_row_57
    refine br_f (by decide) (pk_eq (pm_nv (pm_d c)) 48 (fun g1 => ?_) (fun g1 => h75 (by omega)))
    rw [if_pos (by omega)] at hg
    exact HE 5 (nI (pm_nn (pm_d c)), nI (pm_nv (pm_d c)), nI (pm_sk c), nI q, nI len, nI (pm_at c), a1, a2, a3, a4, a5, a6, a7) (by rw [hg]) (by omega)
  unfold wpY_row
  refine ⟨vp_in_nI (by omega) (by omega), nm_r (by rw [nI_clamp (by omega), (rA _ (Nat.le_refl _)).2]) ⟨vp_in_nI (by omega) (by omega), ?_⟩⟩
  rw [nI_clamp (by omega), rD.1 _ hin.1, show pm_ins c (pm_at c) = pm_nd c from rfl, ej, nI_clamp (by omega), hR]
  refine ⟨vp_in_nI hj (by omega), ?_⟩
  by_cases hr : R (pm_fj c n) = true
  · rw [if_pos hr]
    refine br_f (by decide) (h57 ?_)
    unfold pm_pl; exact if_pos hr
  · rw [if_neg hr]
    have epl : pm_pl R (pm_d c) (pm_nd c) n = pm_ix (pm_d c) (pm_nd c) n := by
      unfold pm_pl; exact if_neg hr
    refine br_t rfl (yr_find rD hnv (yr_DB I.1) (by have : pm_nd c < 16 := by show pm_ins c (pm_at c) < 16; omega
                                                    omega) (by omega) ?_)
    rw [epl] at h57 h75 hle
    by_cases g1 : pm_ix (pm_d c) (pm_nd c) n < pm_nv (pm_d c)
    · rw [if_pos g1]
      refine br_t (nI_pos' (by omega)) ?_
      unfold wY_row_57
      exact br_t rfl (h75 (by omega))
    · rw [if_neg g1]
      exact br_f (by decide) (h57 (by omega))
theorem yr_part {n t len : Nat} {x5 : Int32} {g : Nat × pm_C} (rD : yr_D (pm_d c) a1 a2 a3 a4 a5) (rA : ∀ i, i ≤ pm_at c → a6 i = nI (pm_lim c i) ∧ a7 i = nI (pm_ins c i)) (I : pm_CI K R L dep c) (hK : cr_K ya_kind ya_repeated K R)
    (hn : 1 ≤ n) (hn' : n ≤ 15) (hk : 4 < K (pm_fj c n)) (hg : g = pm_part R c n t q len) {post : Int32 → SY → Prop}
    (H0 : ∀ c' z', g = (0, c') → yr_ok c' (pm_pos c') z' → post 0 (yf_down, yf_heads, yf_paid, yf_payload, yf_wants, yf_name, yf_first, yf_counts, yf_enters, yf_most, yf_many, yf_sent, yf_last, z'.1, z'.2.1, z'.2.2.1, z'.2.2.2.1, nI T, z'.2.2.2.2.1, z'.2.2.2.2.2.1, ya_kind, ya_repeated, ya_how, ya_code, ya_coming, ya_going, ya_type, ya_headers, ya_header, ya_queued, ya_otherEnded, ya_ended, ya_finishing, ya_queue, ya_prefix, ya_length, ya_got, ya_high, ya_whole, ya_has, an_g tx, ya_frame, ya_payloads, ya_table, ya_out, z'.2.2.2.2.2.2.1, z'.2.2.2.2.2.2.2.1, z'.2.2.2.2.2.2.2.2.1, z'.2.2.2.2.2.2.2.2.2.1, z'.2.2.2.2.2.2.2.2.2.2.1, z'.2.2.2.2.2.2.2.2.2.2.2.1, z'.2.2.2.2.2.2.2.2.2.2.2.2, ya_sizes)) (HE : ∀ x z', g.1 = x → x ≠ 0 → post (yr_c x) (yf_down, yf_heads, yf_paid, yf_payload, yf_wants, yf_name, yf_first, yf_counts, yf_enters, yf_most, yf_many, yf_sent, yf_last, z'.1, z'.2.1, z'.2.2.1, z'.2.2.2.1, nI T, z'.2.2.2.2.1, z'.2.2.2.2.2.1, ya_kind, ya_repeated, ya_how, ya_code, ya_coming, ya_going, ya_type, ya_headers, ya_header, ya_queued, ya_otherEnded, ya_ended, ya_finishing, ya_queue, ya_prefix, ya_length, ya_got, ya_high, ya_whole, ya_has, an_g tx, ya_frame, ya_payloads, ya_table, ya_out, z'.2.2.2.2.2.2.1, z'.2.2.2.2.2.2.2.1, z'.2.2.2.2.2.2.2.2.1, z'.2.2.2.2.2.2.2.2.2.1, z'.2.2.2.2.2.2.2.2.2.2.1, z'.2.2.2.2.2.2.2.2.2.2.2.1, z'.2.2.2.2.2.2.2.2.2.2.2.2, ya_sizes)) :
    wpY_part post (yf_down, yf_heads, yf_paid, yf_payload, yf_wants, yf_name, yf_first, yf_counts, yf_enters, yf_most, yf_many, yf_sent, yf_last, nI (pm_nn (pm_d c)), nI (pm_nv (pm_d c)), nI (pm_sk c), nI q, nI T, x5, nI (pm_at c), ya_kind, ya_repeated, ya_how, ya_code, ya_coming, ya_going, ya_type, ya_headers, ya_header, ya_queued, ya_otherEnded, ya_ended, ya_finishing, ya_queue, ya_prefix, ya_length, ya_got, ya_high, ya_whole, ya_has, an_g tx, ya_frame, ya_payloads, ya_table, ya_out, a1, a2, a3, a4, a5, a6, a7, ya_sizes) (nI n) (nI t) (nI (q + len)) := by
  have h3 := I.2.1
  have hin := I.2.2.2.2.1 (pm_at c) (Nat.le_refl _)
  have hnv := I.1.2.2.1
  have hnn := I.1.2.1
  have hty := (I.1.2.2.2.2.1 _ hin.1).1
  have hle := pm_pl_le (R := R) (D := pm_d c) (pm_nd c) n
  have hnd : pm_nd c < pm_nn (pm_d c) := hin.1
  have ej : 16 * nI (pm_nt (pm_d c) (pm_nd c)) + nI n = nI (pm_fj c n) := by
    rw [show (16 : Int32) = nI 16 from rfl, pk_mul, nI_add]; rfl
  have hj : pm_fj c n < 64 := by
    show 16 * pm_nt (pm_d c) (pm_ins c (pm_at c)) + n < 64; omega
  have hR := hK.2.2 (pm_fj c n) hj
  unfold pm_part at hg
  have hnew : pm_pl R (pm_d c) (pm_nd c) n = pm_nv (pm_d c) → wY_part_42 post (nI n) (nI t) (nI (q + len)) (-1) yf_down yf_heads yf_paid yf_payload yf_wants yf_name yf_first yf_counts yf_enters yf_most yf_many yf_sent yf_last (nI (pm_nn (pm_d c))) (nI (pm_nv (pm_d c))) (nI (pm_sk c)) (nI q) (nI T) (x5) (nI (pm_at c)) ya_kind ya_repeated ya_how ya_code ya_coming ya_going ya_type ya_headers ya_header ya_queued ya_otherEnded ya_ended ya_finishing ya_queue ya_prefix ya_length ya_got ya_high ya_whole ya_has (an_g tx) ya_frame ya_payloads ya_table ya_out (a1) (a2) (a3) (a4) (a5) (a6) (a7) ya_sizes := by
    intro hp
    rw [if_neg (by omega)] at hg
    unfold wY_part_42
    refine br_f (by decide) (pk_eq (pm_nn (pm_d c)) 16 (fun g1 => ?_) (fun g1 => ?_))
    · rw [if_pos (Or.inl g1)] at hg
      exact HE 5 (nI (pm_nn (pm_d c)), nI (pm_nv (pm_d c)), nI (pm_sk c), nI q, x5, nI (pm_at c), a1, a2, a3, a4, a5, a6, a7) (by rw [hg]) (by omega)
    refine pk_eq (pm_nv (pm_d c)) 48 (fun g2 => ?_) (fun g2 => ?_)
    · rw [if_pos (Or.inr (Or.inl g2))] at hg
      exact HE 5 (nI (pm_nn (pm_d c)), nI (pm_nv (pm_d c)), nI (pm_sk c), nI q, x5, nI (pm_at c), a1, a2, a3, a4, a5, a6, a7) (by rw [hg]) (by omega)
    refine pk_eq (pm_at c) 3 (fun g3 => ?_) (fun g3 => ?_)
    · rw [if_pos (Or.inr (Or.inr g3))] at hg
      exact HE 5 (nI (pm_nn (pm_d c)), nI (pm_nv (pm_d c)), nI (pm_sk c), nI q, x5, nI (pm_at c), a1, a2, a3, a4, a5, a6, a7) (by rw [hg]) (by omega)
    rw [if_neg (fun y => by omega)] at hg
    refine ⟨vp_in_nI (by omega) (by omega), nm_r (by rw [nI_clamp (by omega)]) (nm_r (nI_1 _) ?_)⟩
    have rD' : yr_D (pm_d c) (upd a1 (pm_nn (pm_d c)) (nI t)) a2 a3 a4 a5 := by
      refine ⟨fun i hi => ?_, rD.2⟩
      rw [pm_upd_eq, if_neg (by omega)]
      exact rD.1 i hi
    refine yr_keep (st := 0) I.1 rD' hK (by omega) (rA _ (Nat.le_refl _)).2 hin.1 hn hn' (fun h48 => ?_) (fun h48 => ?_)
    · exact absurd h48 (by show pm_pl R (pm_d c) (pm_nd c) n ≠ 48; omega)
    · unfold wY_part_105
      refine nm_r (nI_1 _) ⟨vp_in_nI (by omega) (by omega), nm_r (by rw [nI_clamp (by omega)]) (br_f (by decide) ⟨vp_in_nI (by omega) (by omega), nm_r (by rw [nI_clamp (by omega), nI_pred]) ?_⟩)⟩
      refine H0 _ (nI (pm_nn (pm_d c) + 1), nI (pm_nv (pm_kp R (pm_d c) (pm_nd c) n (nI (pm_nn (pm_d c))) 0)), nI (pm_sk c), nI q, x5, nI (pm_at c + 1), upd a1 (pm_nn (pm_d c)) (nI t),
        upd a2 (pm_pl R (pm_d c) (pm_nd c) n) (nI (pm_nd c)), upd a3 (pm_pl R (pm_d c) (pm_nd c) n) (nI n), upd a4 (pm_pl R (pm_d c) (pm_nd c) n) (nI (pm_nn (pm_d c))), upd a5 (pm_pl R (pm_d c) (pm_nd c) n) (nI 0),
        upd a6 (pm_at c + 1) (nI (q + len)), upd a7 (pm_at c + 1) (nI (pm_nn (pm_d c)))) hg ⟨rfl, rfl, rfl, rfl, rfl, ?_, ?_⟩
      · have hk := yr_D_kp (R := R) (D := pm_d c) (a := pm_nd c) (n := n) (st := 0) (v := nI (pm_nn (pm_d c))) rD'
        refine ⟨fun i hi => ?_, hk.2⟩
        have hi : i < pm_nn (pm_d c) + 1 := hi
        show upd a1 (pm_nn (pm_d c)) (nI t) i = nI (pm_u (pm_nt (pm_d c)) (pm_nn (pm_d c)) t i)
        by_cases g4 : i = pm_nn (pm_d c)
        · rw [pm_upd_eq, if_pos g4, g4, pm_us]
        · rw [pm_upd_eq, if_neg g4, pm_un g4]
          exact rD.1 i (by omega)
      · intro i hi
        have hi : i ≤ pm_at c + 1 := hi
        show upd a6 (pm_at c + 1) (nI (q + len)) i = nI (pm_u (pm_lim c) (pm_at c + 1) (q + len) i) ∧ upd a7 (pm_at c + 1) (nI (pm_nn (pm_d c))) i = nI (pm_u (pm_ins c) (pm_at c + 1) (pm_nn (pm_d c)) i)
        by_cases g4 : i = pm_at c + 1
        · rw [pm_upd_eq, if_pos g4, pm_upd_eq, if_pos g4, g4, pm_us, pm_us]; exact ⟨rfl, rfl⟩
        · rw [pm_upd_eq, if_neg g4, pm_upd_eq, if_neg g4, pm_un g4, pm_un g4]
          exact rA i (by omega)
  unfold wpY_part
  refine ⟨vp_in_nI (by omega) (by omega), nm_r (by rw [nI_clamp (by omega), (rA _ (Nat.le_refl _)).2]) ⟨vp_in_nI (by omega) (by omega), ?_⟩⟩
  rw [nI_clamp (by omega), rD.1 _ hin.1, show pm_ins c (pm_at c) = pm_nd c from rfl, ej, nI_clamp (by omega), hR]
  refine ⟨vp_in_nI hj (by omega), ?_⟩
  by_cases hr : R (pm_fj c n) = true
  · rw [if_pos hr]
    refine br_f (by decide) (hnew ?_)
    unfold pm_pl; exact if_pos hr
  · rw [if_neg hr]
    have epl : pm_pl R (pm_d c) (pm_nd c) n = pm_ix (pm_d c) (pm_nd c) n := by
      unfold pm_pl; exact if_neg hr
    refine br_t rfl (yr_find rD hnv (yr_DB I.1) (by omega) (by omega) ?_)
    by_cases g1 : pm_ix (pm_d c) (pm_nd c) n < pm_nv (pm_d c)
    · rw [if_pos g1]
      have hlt : pm_pl R (pm_d c) (pm_nd c) n < pm_nv (pm_d c) := by omega
      obtain ⟨_, p2, p3⟩ := pm_pl_lt hlt
      have hkk : pm_kk K (pm_d c) (pm_pl R (pm_d c) (pm_nd c) n) = K (pm_fj c n) := by
        simp only [pm_kk]; rw [p2, p3]; rfl
      obtain ⟨m, w1, w2, w3, w4⟩ := (I.1.2.2.2.2.2.1 _ hlt).2.2.2.2.2 (by rw [hkk]; exact hk)
      have hm : (pm_va (pm_d c) (pm_pl R (pm_d c) (pm_nd c) n)).toNatClampNeg = m := by
        rw [w1, nI_clamp (by omega)]
      rw [if_pos hlt, hm] at hg
      have hva := (rD.2 _ hlt).2.2.1
      rw [epl] at hva w1
      have h0 : (0 : Int32) ≤ nI (pm_ix (pm_d c) (pm_nd c) n) := nI_pos' (by omega)
      unfold wY_part_42
      refine br_t h0 ?_
      unfold wY_part_105
      refine nm_r (nI_1 _) ⟨vp_in_nI (by omega) (by omega), nm_r (by rw [nI_clamp (by omega)]) (br_t h0 ⟨vp_in_nI (by omega) (by omega), vp_in_nI (by omega) (by omega), nm_r (by rw [nI_clamp (by omega), nI_clamp (by omega), hva, w1]) ?_⟩)⟩
      refine H0 _ (nI (pm_nn (pm_d c)), nI (pm_nv (pm_d c)), nI (pm_sk c), nI q, x5, nI (pm_at c + 1), a1, a2, a3, a4, a5,
        upd a6 (pm_at c + 1) (nI (q + len)), upd a7 (pm_at c + 1) (nI m)) hg ⟨rfl, rfl, rfl, rfl, rfl, rD, ?_⟩
      intro i hi
      have hi : i ≤ pm_at c + 1 := hi
      show upd a6 (pm_at c + 1) (nI (q + len)) i = nI (pm_u (pm_lim c) (pm_at c + 1) (q + len) i) ∧ upd a7 (pm_at c + 1) (nI m) i = nI (pm_u (pm_ins c) (pm_at c + 1) m i)
      by_cases g4 : i = pm_at c + 1
      · rw [pm_upd_eq, if_pos g4, pm_upd_eq, if_pos g4, g4, pm_us, pm_us]; exact ⟨rfl, rfl⟩
      · rw [pm_upd_eq, if_neg g4, pm_upd_eq, if_neg g4, pm_un g4, pm_un g4]
        exact rA i (by omega)
    · rw [if_neg g1]
      exact hnew (by omega)
end
