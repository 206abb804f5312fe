/-! L: how the reference reads: rows of bytes, parts, elements, the whole -/
section
variable {yf_down yf_heads yf_paid yf_payload yf_wants yf_name yf_first yf_counts yf_enters yf_most yf_many yf_sent yf_last yf_nodes yf_values yf_skipped yf_pos yf_there yf_number yf_at : Int32} {ya_kind ya_repeated ya_how ya_code ya_coming ya_going ya_type ya_headers ya_header ya_queued ya_otherEnded ya_ended ya_finishing ya_queue ya_prefix ya_length ya_got ya_high ya_whole ya_has ya_bytes ya_frame ya_payloads ya_table ya_out ya_nodeType ya_valueNode ya_valueNumber ya_value ya_from ya_limit ya_inside ya_sizes : Nat → Int32} {s q e T : Nat} {tx B : Nat → Nat} {K : Nat → Nat} {R : Nat → Bool} {L : Nat} {dep : Nat → Nat} {c : pm_C} {z : yr_Z} {a1 a2 a3 a4 a5 a6 a7 : Nat → Int32}
theorem yr_row {n len : Nat} {g : Nat × pm_C} (rD : yr_D (pm_d c) a1 a2 a3 a4 a5) (rA : ∀ i, i ≤ pm_at c → a6 i = nI (pm_lim c i) ∧ a7 i = nI (pm_ins c i)) (I : pm_CI K R L dep c) (hL : L ≤ 200) (hK : cr_K ya_kind ya_repeated K R) (hT : T ≤ 200)
    (hq : q ≤ T) (he : e = pm_lim c (pm_at c)) (hql : q + len ≤ e) (hn : 1 ≤ n) (hn' : n ≤ 15) (hk : K (pm_fj c n) = 4)
    (hg : g = pm_body K R T c n q len) {post : Int32 → SY → Prop}
    (H0 : ∀ c' (z' : yr_Z), g = (0, c') → yr_ok c' (pm_pos c') z' → post 0 (yf_down, yf_heads, yf_paid, yf_payload, yf_wants, yf_name, yf_first, yf_counts, yf_enters, yf_most, yf_many, yf_sent, yf_last, z'.1, z'.2.1, z'.2.2.1, z'.2.2.2.1, nI T, z'.2.2.2.2.1, z'.2.2.2.2.2.1, ya_kind, ya_repeated, ya_how, ya_code, ya_coming, ya_going, ya_type, ya_headers, ya_header, ya_queued, ya_otherEnded, ya_ended, ya_finishing, ya_queue, ya_prefix, ya_length, ya_got, ya_high, ya_whole, ya_has, an_g tx, ya_frame, ya_payloads, ya_table, ya_out, z'.2.2.2.2.2.2.1, z'.2.2.2.2.2.2.2.1, z'.2.2.2.2.2.2.2.2.1, z'.2.2.2.2.2.2.2.2.2.1, z'.2.2.2.2.2.2.2.2.2.2.1, z'.2.2.2.2.2.2.2.2.2.2.2.1, z'.2.2.2.2.2.2.2.2.2.2.2.2, ya_sizes)) (HE : ∀ x (z' : yr_Z), g.1 = x → x ≠ 0 → post (yr_c x) (yf_down, yf_heads, yf_paid, yf_payload, yf_wants, yf_name, yf_first, yf_counts, yf_enters, yf_most, yf_many, yf_sent, yf_last, z'.1, z'.2.1, z'.2.2.1, z'.2.2.2.1, nI T, z'.2.2.2.2.1, z'.2.2.2.2.2.1, ya_kind, ya_repeated, ya_how, ya_code, ya_coming, ya_going, ya_type, ya_headers, ya_header, ya_queued, ya_otherEnded, ya_ended, ya_finishing, ya_queue, ya_prefix, ya_length, ya_got, ya_high, ya_whole, ya_has, an_g tx, ya_frame, ya_payloads, ya_table, ya_out, z'.2.2.2.2.2.2.1, z'.2.2.2.2.2.2.2.1, z'.2.2.2.2.2.2.2.2.1, z'.2.2.2.2.2.2.2.2.2.1, z'.2.2.2.2.2.2.2.2.2.2.1, z'.2.2.2.2.2.2.2.2.2.2.2.1, z'.2.2.2.2.2.2.2.2.2.2.2.2, ya_sizes)) :
    wpY_row post (yf_down, yf_heads, yf_paid, yf_payload, yf_wants, yf_name, yf_first, yf_counts, yf_enters, yf_most, yf_many, yf_sent, yf_last, nI (pm_nn (pm_d c)), nI (pm_nv (pm_d c)), nI (pm_sk c), nI q, nI T, (nI len), nI (pm_at c), ya_kind, ya_repeated, ya_how, ya_code, ya_coming, ya_going, ya_type, ya_headers, ya_header, ya_queued, ya_otherEnded, ya_ended, ya_finishing, ya_queue, ya_prefix, ya_length, ya_got, ya_high, ya_whole, ya_has, an_g tx, ya_frame, ya_payloads, ya_table, ya_out, a1, a2, a3, a4, a5, a6, a7, ya_sizes) (nI n) (nI e) := by
  have h3 := I.2.1
  have hin := I.2.2.2.2.1 (pm_at c) (Nat.le_refl _)
  have hnv := I.1.2.2.1
  have hnn := I.1.2.1
  have hty := (I.1.2.2.2.2.1 _ hin.1).1
  have hl := pm_lim_le I (pm_at c) (Nat.le_refl _)
  have hle := pm_pl_le (R := R) (D := pm_d c) (pm_nd c) n
  have ej : 16 * nI (pm_nt (pm_d c) (pm_nd c)) + nI n = nI (pm_fj c n) := by
    rw [show (16 : Int32) = nI 16 from rfl, pk_mul, nI_add]; rfl
  have hj : pm_fj c n < 64 := by
    show 16 * pm_nt (pm_d c) (pm_ins c (pm_at c)) + n < 64; omega
  have hR := hK.2.2 (pm_fj c n) hj
  unfold pm_body at hg
  rw [if_neg (by omega), if_pos hk] at hg
  have h75 : pm_pl R (pm_d c) (pm_nd c) n ≠ 48 → wY_row_75 post (nI n) (nI e) (nI len) (nI q) yf_down yf_heads yf_paid yf_payload yf_wants yf_name yf_first yf_counts yf_enters yf_most yf_many yf_sent yf_last (nI (pm_nn (pm_d c))) (nI (pm_nv (pm_d c))) (nI (pm_sk c)) (nI q) (nI T) ((nI len)) (nI (pm_at c)) ya_kind ya_repeated ya_how ya_code ya_coming ya_going ya_type ya_headers ya_header ya_queued ya_otherEnded ya_ended ya_finishing ya_queue ya_prefix ya_length ya_got ya_high ya_whole ya_has (an_g tx) ya_frame ya_payloads ya_table ya_out (a1) (a2) (a3) (a4) (a5) (a6) (a7) ya_sizes := by
    intro h48
    rw [if_neg h48] at hg
    unfold wY_row_75
    refine yr_skip (n := len) (by omega) hT hq (by omega) (by omega) (fun g1 _ => absurd g1 (by omega)) (fun g1 _ => absurd g1 (by omega)) (fun g1 g2 => ?_) (fun g1 g2 => ?_)
    · rw [if_pos g2] at hg
      exact br_f (by decide) (HE 9 (nI (pm_nn (pm_d c)), nI (pm_nv (pm_d c)), nI (pm_sk c), nI q, nI len, nI (pm_at c), a1, a2, a3, a4, a5, a6, a7) (by rw [hg]) (by omega))
    · rw [if_neg (by omega)] at hg
      exact br_t rfl (yr_kept I hK rD rA hn hn' hg H0 HE)
  have h57 : pm_pl R (pm_d c) (pm_nd c) n = pm_nv (pm_d c) → wY_row_52 post (nI n) (nI e) (nI len) (nI q) yf_down yf_heads yf_paid yf_payload yf_wants yf_name yf_first yf_counts yf_enters yf_most yf_many yf_sent yf_last (nI (pm_nn (pm_d c))) (nI (pm_nv (pm_d c))) (nI (pm_sk c)) (nI q) (nI T) ((nI len)) (nI (pm_at c)) ya_kind ya_repeated ya_how ya_code ya_coming ya_going ya_type ya_headers ya_header ya_queued ya_otherEnded ya_ended ya_finishing ya_queue ya_prefix ya_length ya_got ya_high ya_whole ya_has (an_g tx) ya_frame ya_payloads ya_table ya_out (a1) (a2) (a3) (a4) (a5) (a6) (a7) ya_sizes := by
    intro hp
    unfold wY_row_52 wY_row_57
    refine br_f (by decide) (pk_eq (pm_nv (pm_d c)) 48 (fun g1 => ?_) (fun g1 => h75 (by omega)))
    rw [if_pos (by omega)] at hg
    exact HE 5 (nI (pm_nn (pm_d c)), nI (pm_nv (pm_d c)), nI (pm_sk c), nI q, nI len, nI (pm_at c), a1, a2, a3, a4, a5, a6, a7) (by rw [hg]) (by omega)
  unfold wpY_row
  refine ⟨vp_in_nI (by omega) (by omega), nm_r (by rw [nI_clamp (by omega), (rA _ (Nat.le_refl _)).2]) ⟨vp_in_nI (by omega) (by omega), ?_⟩⟩
  rw [nI_clamp (by omega), rD.1 _ hin.1, show pm_ins c (pm_at c) = pm_nd c from rfl, ej, nI_clamp (by omega), hR]
  refine ⟨vp_in_nI hj (by omega), ?_⟩
  by_cases hr : R (pm_fj c n) = true
  · rw [if_pos hr]
    refine br_f (by decide) (h57 ?_)
    unfold pm_pl; exact if_pos hr
  · rw [if_neg hr]
    have epl : pm_pl R (pm_d c) (pm_nd c) n = pm_ix (pm_d c) (pm_nd c) n := by
      unfold pm_pl; exact if_neg hr
    refine br_t rfl (yr_find rD hnv (yr_DB I.1) (by have : pm_nd c < 16 := by show pm_ins c (pm_at c) < 16; omega
                                                    omega) (by omega) ?_)
    rw [epl] at h57 h75 hle
    by_cases g1 : pm_ix (pm_d c) (pm_nd c) n < pm_nv (pm_d c)
    · rw [if_pos g1]
      refine br_t (nI_pos' (by omega)) ?_
      unfold wY_row_57
      exact br_t rfl (h75 (by omega))
    · rw [if_neg g1]
      exact br_f (by decide) (h57 (by omega))
theorem yr_part {n t len : Nat} {x5 : Int32} {g : Nat × pm_C} (rD : yr_D (pm_d c) a1 a2 a3 a4 a5) (rA : ∀ i, i ≤ pm_at c → a6 i = nI (pm_lim c i) ∧ a7 i = nI (pm_ins c i)) (I : pm_CI K R L dep c) (hK : cr_K ya_kind ya_repeated K R)
    (hn : 1 ≤ n) (hn' : n ≤ 15) (hk : 4 < K (pm_fj c n)) (hg : g = pm_part R c n t q len) {post : Int32 → SY → Prop}
    (H0 : ∀ c' (z' : yr_Z), g = (0, c') → yr_ok c' (pm_pos c') z' → post 0 (yf_down, yf_heads, yf_paid, yf_payload, yf_wants, yf_name, yf_first, yf_counts, yf_enters, yf_most, yf_many, yf_sent, yf_last, z'.1, z'.2.1, z'.2.2.1, z'.2.2.2.1, nI T, z'.2.2.2.2.1, z'.2.2.2.2.2.1, ya_kind, ya_repeated, ya_how, ya_code, ya_coming, ya_going, ya_type, ya_headers, ya_header, ya_queued, ya_otherEnded, ya_ended, ya_finishing, ya_queue, ya_prefix, ya_length, ya_got, ya_high, ya_whole, ya_has, an_g tx, ya_frame, ya_payloads, ya_table, ya_out, z'.2.2.2.2.2.2.1, z'.2.2.2.2.2.2.2.1, z'.2.2.2.2.2.2.2.2.1, z'.2.2.2.2.2.2.2.2.2.1, z'.2.2.2.2.2.2.2.2.2.2.1, z'.2.2.2.2.2.2.2.2.2.2.2.1, z'.2.2.2.2.2.2.2.2.2.2.2.2, ya_sizes)) (HE : ∀ x (z' : yr_Z), g.1 = x → x ≠ 0 → post (yr_c x) (yf_down, yf_heads, yf_paid, yf_payload, yf_wants, yf_name, yf_first, yf_counts, yf_enters, yf_most, yf_many, yf_sent, yf_last, z'.1, z'.2.1, z'.2.2.1, z'.2.2.2.1, nI T, z'.2.2.2.2.1, z'.2.2.2.2.2.1, ya_kind, ya_repeated, ya_how, ya_code, ya_coming, ya_going, ya_type, ya_headers, ya_header, ya_queued, ya_otherEnded, ya_ended, ya_finishing, ya_queue, ya_prefix, ya_length, ya_got, ya_high, ya_whole, ya_has, an_g tx, ya_frame, ya_payloads, ya_table, ya_out, z'.2.2.2.2.2.2.1, z'.2.2.2.2.2.2.2.1, z'.2.2.2.2.2.2.2.2.1, z'.2.2.2.2.2.2.2.2.2.1, z'.2.2.2.2.2.2.2.2.2.2.1, z'.2.2.2.2.2.2.2.2.2.2.2.1, z'.2.2.2.2.2.2.2.2.2.2.2.2, ya_sizes)) :
    wpY_part post (yf_down, yf_heads, yf_paid, yf_payload, yf_wants, yf_name, yf_first, yf_counts, yf_enters, yf_most, yf_many, yf_sent, yf_last, nI (pm_nn (pm_d c)), nI (pm_nv (pm_d c)), nI (pm_sk c), nI q, nI T, x5, nI (pm_at c), ya_kind, ya_repeated, ya_how, ya_code, ya_coming, ya_going, ya_type, ya_headers, ya_header, ya_queued, ya_otherEnded, ya_ended, ya_finishing, ya_queue, ya_prefix, ya_length, ya_got, ya_high, ya_whole, ya_has, an_g tx, ya_frame, ya_payloads, ya_table, ya_out, a1, a2, a3, a4, a5, a6, a7, ya_sizes) (nI n) (nI t) (nI (q + len)) := by
  have h3 := I.2.1
  have hin := I.2.2.2.2.1 (pm_at c) (Nat.le_refl _)
  have hnv := I.1.2.2.1
  have hnn := I.1.2.1
  have hty := (I.1.2.2.2.2.1 _ hin.1).1
  have hle := pm_pl_le (R := R) (D := pm_d c) (pm_nd c) n
  have hnd : pm_nd c < pm_nn (pm_d c) := hin.1
  have ej : 16 * nI (pm_nt (pm_d c) (pm_nd c)) + nI n = nI (pm_fj c n) := by
    rw [show (16 : Int32) = nI 16 from rfl, pk_mul, nI_add]; rfl
  have hj : pm_fj c n < 64 := by
    show 16 * pm_nt (pm_d c) (pm_ins c (pm_at c)) + n < 64; omega
  have hR := hK.2.2 (pm_fj c n) hj
  unfold pm_part at hg
  have hnew : pm_pl R (pm_d c) (pm_nd c) n = pm_nv (pm_d c) → wY_part_42 post (nI n) (nI t) (nI (q + len)) (-1) yf_down yf_heads yf_paid yf_payload yf_wants yf_name yf_first yf_counts yf_enters yf_most yf_many yf_sent yf_last (nI (pm_nn (pm_d c))) (nI (pm_nv (pm_d c))) (nI (pm_sk c)) (nI q) (nI T) (x5) (nI (pm_at c)) ya_kind ya_repeated ya_how ya_code ya_coming ya_going ya_type ya_headers ya_header ya_queued ya_otherEnded ya_ended ya_finishing ya_queue ya_prefix ya_length ya_got ya_high ya_whole ya_has (an_g tx) ya_frame ya_payloads ya_table ya_out (a1) (a2) (a3) (a4) (a5) (a6) (a7) ya_sizes := by
    intro hp
    rw [if_neg (by omega)] at hg
    unfold wY_part_42
    refine br_f (by decide) (pk_eq (pm_nn (pm_d c)) 16 (fun g1 => ?_) (fun g1 => ?_))
    · rw [if_pos (Or.inl g1)] at hg
      exact HE 5 (nI (pm_nn (pm_d c)), nI (pm_nv (pm_d c)), nI (pm_sk c), nI q, x5, nI (pm_at c), a1, a2, a3, a4, a5, a6, a7) (by rw [hg]) (by omega)
    refine pk_eq (pm_nv (pm_d c)) 48 (fun g2 => ?_) (fun g2 => ?_)
    · rw [if_pos (Or.inr (Or.inl g2))] at hg
      exact HE 5 (nI (pm_nn (pm_d c)), nI (pm_nv (pm_d c)), nI (pm_sk c), nI q, x5, nI (pm_at c), a1, a2, a3, a4, a5, a6, a7) (by rw [hg]) (by omega)
    refine pk_eq (pm_at c) 3 (fun g3 => ?_) (fun g3 => ?_)
    · rw [if_pos (Or.inr (Or.inr g3))] at hg
      exact HE 5 (nI (pm_nn (pm_d c)), nI (pm_nv (pm_d c)), nI (pm_sk c), nI q, x5, nI (pm_at c), a1, a2, a3, a4, a5, a6, a7) (by rw [hg]) (by omega)
    rw [if_neg (fun y => by omega)] at hg
    refine ⟨vp_in_nI (by omega) (by omega), nm_r (by rw [nI_clamp (by omega)]) (nm_r (nI_1 _) ?_)⟩
    have rD' : yr_D (pm_d c) (upd a1 (pm_nn (pm_d c)) (nI t)) a2 a3 a4 a5 := by
      refine ⟨fun i hi => ?_, rD.2⟩
      rw [pm_upd_eq, if_neg (by omega)]
      exact rD.1 i hi
    refine yr_keep (st := 0) I.1 rD' hK (by omega) (rA _ (Nat.le_refl _)).2 hin.1 hn hn' (fun h48 => ?_) (fun h48 => ?_)
    · exact absurd h48 (by show pm_pl R (pm_d c) (pm_nd c) n ≠ 48; omega)
    · unfold wY_part_105
      refine nm_r (nI_1 _) ⟨vp_in_nI (by omega) (by omega), nm_r (by rw [nI_clamp (by omega)]) (br_f (by decide) ⟨vp_in_nI (by omega) (by omega), nm_r (by rw [nI_clamp (by omega), nI_pred]) ?_⟩)⟩
      refine H0 _ (nI (pm_nn (pm_d c) + 1), nI (pm_nv (pm_kp R (pm_d c) (pm_nd c) n (nI (pm_nn (pm_d c))) 0)), nI (pm_sk c), nI q, x5, nI (pm_at c + 1), upd a1 (pm_nn (pm_d c)) (nI t),
        upd a2 (pm_pl R (pm_d c) (pm_nd c) n) (nI (pm_nd c)), upd a3 (pm_pl R (pm_d c) (pm_nd c) n) (nI n), upd a4 (pm_pl R (pm_d c) (pm_nd c) n) (nI (pm_nn (pm_d c))), upd a5 (pm_pl R (pm_d c) (pm_nd c) n) (nI 0),
        upd a6 (pm_at c + 1) (nI (q + len)), upd a7 (pm_at c + 1) (nI (pm_nn (pm_d c)))) hg ⟨rfl, rfl, rfl, rfl, rfl, ?_, ?_⟩
      · have hk := yr_D_kp (R := R) (D := pm_d c) (a := pm_nd c) (n := n) (st := 0) (v := nI (pm_nn (pm_d c))) rD'
        refine ⟨fun i hi => ?_, hk.2⟩
        have hi : i < pm_nn (pm_d c) + 1 := hi
        show upd a1 (pm_nn (pm_d c)) (nI t) i = nI (pm_u (pm_nt (pm_d c)) (pm_nn (pm_d c)) t i)
        by_cases g4 : i = pm_nn (pm_d c)
        · rw [pm_upd_eq, if_pos g4, g4, pm_us]
        · rw [pm_upd_eq, if_neg g4, pm_un g4]
          exact rD.1 i (by omega)
      · intro i hi
        have hi : i ≤ pm_at c + 1 := hi
        show upd a6 (pm_at c + 1) (nI (q + len)) i = nI (pm_u (pm_lim c) (pm_at c + 1) (q + len) i) ∧ upd a7 (pm_at c + 1) (nI (pm_nn (pm_d c))) i = nI (pm_u (pm_ins c) (pm_at c + 1) (pm_nn (pm_d c)) i)
        by_cases g4 : i = pm_at c + 1
        · rw [pm_upd_eq, if_pos g4, pm_upd_eq, if_pos g4, g4, pm_us, pm_us]; exact ⟨rfl, rfl⟩
        · rw [pm_upd_eq, if_neg g4, pm_upd_eq, if_neg g4, pm_un g4, pm_un g4]
          exact rA i (by omega)
  unfold wpY_part
  refine ⟨vp_in_nI (by omega) (by omega), nm_r (by rw [nI_clamp (by omega), (rA _ (Nat.le_refl _)).2]) ⟨vp_in_nI (by omega) (by omega), ?_⟩⟩
  rw [nI_clamp (by omega), rD.1 _ hin.1, show pm_ins c (pm_at c) = pm_nd c from rfl, ej, nI_clamp (by omega), hR]
  refine ⟨vp_in_nI hj (by omega), ?_⟩
  by_cases hr : R (pm_fj c n) = true
  · rw [if_pos hr]
    refine br_f (by decide) (hnew ?_)
    unfold pm_pl; exact if_pos hr
  · rw [if_neg hr]
    have epl : pm_pl R (pm_d c) (pm_nd c) n = pm_ix (pm_d c) (pm_nd c) n := by
      unfold pm_pl; exact if_neg hr
    refine br_t rfl (yr_find rD hnv (yr_DB I.1) (by omega) (by omega) ?_)
    by_cases g1 : pm_ix (pm_d c) (pm_nd c) n < pm_nv (pm_d c)
    · rw [if_pos g1]
      have hlt : pm_pl R (pm_d c) (pm_nd c) n < pm_nv (pm_d c) := by omega
      obtain ⟨_, p2, p3⟩ := pm_pl_lt hlt
      have hkk : pm_kk K (pm_d c) (pm_pl R (pm_d c) (pm_nd c) n) = K (pm_fj c n) := by
        simp only [pm_kk]; rw [p2, p3]; rfl
      obtain ⟨m, w1, w2, w3, w4⟩ := (I.1.2.2.2.2.2.1 _ hlt).2.2.2.2.2 (by rw [hkk]; exact hk)
      have hm : (pm_va (pm_d c) (pm_pl R (pm_d c) (pm_nd c) n)).toNatClampNeg = m := by
        rw [w1, nI_clamp (by omega)]
      rw [if_pos hlt, hm] at hg
      have hva := (rD.2 _ hlt).2.2.1
      rw [epl] at hva w1
      have h0 : (0 : Int32) ≤ nI (pm_ix (pm_d c) (pm_nd c) n) := nI_pos' (by omega)
      unfold wY_part_42
      refine br_t h0 ?_
      unfold wY_part_105
      refine nm_r (nI_1 _) ⟨vp_in_nI (by omega) (by omega), nm_r (by rw [nI_clamp (by omega)]) (br_t h0 ⟨vp_in_nI (by omega) (by omega), vp_in_nI (by omega) (by omega), nm_r (by rw [nI_clamp (by omega), nI_clamp (by omega), hva, w1]) ?_⟩)⟩
      refine H0 _ (nI (pm_nn (pm_d c)), nI (pm_nv (pm_d c)), nI (pm_sk c), nI q, x5, nI (pm_at c + 1), a1, a2, a3, a4, a5,
        upd a6 (pm_at c + 1) (nI (q + len)), upd a7 (pm_at c + 1) (nI m)) hg ⟨rfl, rfl, rfl, rfl, rfl, rD, ?_⟩
      intro i hi
      have hi : i ≤ pm_at c + 1 := hi
      show upd a6 (pm_at c + 1) (nI (q + len)) i = nI (pm_u (pm_lim c) (pm_at c + 1) (q + len) i) ∧ upd a7 (pm_at c + 1) (nI m) i = nI (pm_u (pm_ins c) (pm_at c + 1) m i)
      by_cases g4 : i = pm_at c + 1
      · rw [pm_upd_eq, if_pos g4, pm_upd_eq, if_pos g4, g4, pm_us, pm_us]; exact ⟨rfl, rfl⟩
      · rw [pm_upd_eq, if_neg g4, pm_upd_eq, if_neg g4, pm_un g4, pm_un g4]
        exact rA i (by omega)
    · rw [if_neg g1]
      exact hnew (by omega)
end
section
variable {yf_down yf_heads yf_paid yf_payload yf_wants yf_name yf_first yf_counts yf_enters yf_most yf_many yf_sent yf_last yf_nodes yf_values yf_skipped yf_pos yf_there yf_number yf_at : Int32} {ya_kind ya_repeated ya_how ya_code ya_coming ya_going ya_type ya_headers ya_header ya_queued ya_otherEnded ya_ended ya_finishing ya_queue ya_prefix ya_length ya_got ya_high ya_whole ya_has ya_bytes ya_frame ya_payloads ya_table ya_out ya_nodeType ya_valueNode ya_valueNumber ya_value ya_from ya_limit ya_inside ya_sizes : Nat → Int32} {s q e T : Nat} {tx B : Nat → Nat} {K : Nat → Nat} {R : Nat → Bool} {L : Nat} {dep : Nat → Nat} {c : pm_C} {z : yr_Z} {a1 a2 a3 a4 a5 a6 a7 : Nat → Int32}
/-- what is left behind a tag that is no plain single -/
theorem yr_175 {r g : Nat × pm_C} {m n w : Nat} {x5 x7 x9 : Int32} {kk : Nat} (rD : yr_D (pm_d c) a1 a2 a3 a4 a5) (rA : ∀ i, i ≤ pm_at c → a6 i = nI (pm_lim c i) ∧ a7 i = nI (pm_ins c i))
    (I : pm_CI K R L dep c) (hr : pm_row c = 0) (hL : L ≤ 200) (hK : cr_K ya_kind ya_repeated K R) (hx : yr_B tx s B) (hs : s < 8) (hT : T ≤ 200)
    (h0 : pm_pos c < q) (hq : q ≤ pm_lim c (pm_at c)) (hqT : q ≤ T) (hn : 1 ≤ n)
    (hkk : kk = if 15 < n then 0 else K (pm_fj c n)) (hx7 : n ≤ 15 → x7 = nI (pm_fj c n)) (hx9 : x9 = if 1 ≤ kk ∧ kk ≤ 3 then 1 else 0)
    (hw : w = 0 ∨ w = 1 ∨ w = 2 ∨ w = 5) (hpl : ¬ (1 ≤ kk ∧ kk ≤ 3 ∧ w = if kk = 3 then 5 else 0))
    (hg : g = if w = 0 then pm_goV B K R T c 0 q 0 else if w = 2 then pm_goL B K R T c (pm_fl K R c n 2) q 0 else pm_goF B R T c 0 q (if w = 1 then 8 else 4))
    (hI : ∀ c', g = (0, c') → ∃ dep', pm_CI K R L dep' c' ∧ pm_pos c' ≤ T)
    (hrd0 : ∀ c', g = (0, c') → pm_rd B K R T m c' = some r) (hrdE : g.1 ≠ 0 → r = g) {post : Int32 → SY → Prop}
    (H0 : ∀ dep' m' c' (z' : yr_Z), m' ≤ m → pm_rd B K R T m' c' = some r → pm_row c' = 0 → pm_CI K R L dep' c' → pm_pos c' ≤ T → yr_ok c' (pm_pos c') z' → post 0 (yf_down, yf_heads, yf_paid, yf_payload, yf_wants, yf_name, yf_first, yf_counts, yf_enters, yf_most, yf_many, yf_sent, yf_last, z'.1, z'.2.1, z'.2.2.1, z'.2.2.2.1, nI T, z'.2.2.2.2.1, z'.2.2.2.2.2.1, ya_kind, ya_repeated, ya_how, ya_code, ya_coming, ya_going, ya_type, ya_headers, ya_header, ya_queued, ya_otherEnded, ya_ended, ya_finishing, ya_queue, ya_prefix, ya_length, ya_got, ya_high, ya_whole, ya_has, an_g tx, ya_frame, ya_payloads, ya_table, ya_out, z'.2.2.2.2.2.2.1, z'.2.2.2.2.2.2.2.1, z'.2.2.2.2.2.2.2.2.1, z'.2.2.2.2.2.2.2.2.2.1, z'.2.2.2.2.2.2.2.2.2.2.1, z'.2.2.2.2.2.2.2.2.2.2.2.1, z'.2.2.2.2.2.2.2.2.2.2.2.2, ya_sizes))
    (HE : ∀ (z' : yr_Z), r.1 ≠ 0 → post (yr_c r.1) (yf_down, yf_heads, yf_paid, yf_payload, yf_wants, yf_name, yf_first, yf_counts, yf_enters, yf_most, yf_many, yf_sent, yf_last, z'.1, z'.2.1, z'.2.2.1, z'.2.2.2.1, nI T, z'.2.2.2.2.1, z'.2.2.2.2.2.1, ya_kind, ya_repeated, ya_how, ya_code, ya_coming, ya_going, ya_type, ya_headers, ya_header, ya_queued, ya_otherEnded, ya_ended, ya_finishing, ya_queue, ya_prefix, ya_length, ya_got, ya_high, ya_whole, ya_has, an_g tx, ya_frame, ya_payloads, ya_table, ya_out, z'.2.2.2.2.2.2.1, z'.2.2.2.2.2.2.2.1, z'.2.2.2.2.2.2.2.2.1, z'.2.2.2.2.2.2.2.2.2.1, z'.2.2.2.2.2.2.2.2.2.2.1, z'.2.2.2.2.2.2.2.2.2.2.2.1, z'.2.2.2.2.2.2.2.2.2.2.2.2, ya_sizes)) :
    wY_element_175 post (nI s) (nI (pm_pos c)) (nI (pm_lim c (pm_at c))) (nI w) (nI n) x7 (nI kk + (-1)) x9 0 yf_down yf_heads yf_paid yf_payload yf_wants yf_name yf_first yf_counts yf_enters yf_most yf_many yf_sent yf_last (nI (pm_nn (pm_d c))) (nI (pm_nv (pm_d c))) (nI (pm_sk c)) (nI q) (nI T) (x5) (nI (pm_at c)) ya_kind ya_repeated ya_how ya_code ya_coming ya_going ya_type ya_headers ya_header ya_queued ya_otherEnded ya_ended ya_finishing ya_queue ya_prefix ya_length ya_got ya_high ya_whole ya_has (an_g tx) ya_frame ya_payloads ya_table ya_out (a1) (a2) (a3) (a4) (a5) (a6) (a7) ya_sizes := by
  have he : pm_end c = pm_lim c (pm_at c) := by unfold pm_end; exact if_pos hr
  have hl := pm_lim_le I (pm_at c) (Nat.le_refl _)
  have hk8 : kk ≤ 8 := by
    rw [hkk]; split
    · omega
    · exact hK.1 _
  have yk := yr_k kk hk8
  have F0 : ∀ c' (z' : yr_Z), g = (0, c') → pm_row c' = 0 → yr_ok c' (pm_pos c') z' → post 0 (yf_down, yf_heads, yf_paid, yf_payload, yf_wants, yf_name, yf_first, yf_counts, yf_enters, yf_most, yf_many, yf_sent, yf_last, z'.1, z'.2.1, z'.2.2.1, z'.2.2.2.1, nI T, z'.2.2.2.2.1, z'.2.2.2.2.2.1, ya_kind, ya_repeated, ya_how, ya_code, ya_coming, ya_going, ya_type, ya_headers, ya_header, ya_queued, ya_otherEnded, ya_ended, ya_finishing, ya_queue, ya_prefix, ya_length, ya_got, ya_high, ya_whole, ya_has, an_g tx, ya_frame, ya_payloads, ya_table, ya_out, z'.2.2.2.2.2.2.1, z'.2.2.2.2.2.2.2.1, z'.2.2.2.2.2.2.2.2.1, z'.2.2.2.2.2.2.2.2.2.1, z'.2.2.2.2.2.2.2.2.2.2.1, z'.2.2.2.2.2.2.2.2.2.2.2.1, z'.2.2.2.2.2.2.2.2.2.2.2.2, ya_sizes) := by
    intro c' z' h1 h2 h3
    obtain ⟨dep', i1, i2⟩ := hI c' h1
    exact H0 dep' m c' z' (Nat.le_refl _) (hrd0 c' h1) h2 i1 i2 h3
  have FE : ∀ x (z' : yr_Z), g.1 = x → x ≠ 0 → post (yr_c x) (yf_down, yf_heads, yf_paid, yf_payload, yf_wants, yf_name, yf_first, yf_counts, yf_enters, yf_most, yf_many, yf_sent, yf_last, z'.1, z'.2.1, z'.2.2.1, z'.2.2.2.1, nI T, z'.2.2.2.2.1, z'.2.2.2.2.2.1, ya_kind, ya_repeated, ya_how, ya_code, ya_coming, ya_going, ya_type, ya_headers, ya_header, ya_queued, ya_otherEnded, ya_ended, ya_finishing, ya_queue, ya_prefix, ya_length, ya_got, ya_high, ya_whole, ya_has, an_g tx, ya_frame, ya_payloads, ya_table, ya_out, z'.2.2.2.2.2.2.1, z'.2.2.2.2.2.2.2.1, z'.2.2.2.2.2.2.2.2.1, z'.2.2.2.2.2.2.2.2.2.1, z'.2.2.2.2.2.2.2.2.2.2.1, z'.2.2.2.2.2.2.2.2.2.2.2.1, z'.2.2.2.2.2.2.2.2.2.2.2.2, ya_sizes) := by
    intro x z' h1 h2
    have hr : r = g := hrdE (by rw [h1]; exact h2)
    have := HE z' (by rw [hr, h1]; exact h2)
    rw [hr, h1] at this
    exact this
  unfold wY_element_175
  refine br_t rfl ?_
  have h360 : ∀ p x, p ≤ pm_end c → pm_pos c ≤ p → g = pm_fin R c 0 p 0 0 → wY_element_360 post (nI (pm_pos c)) 0 yf_down yf_heads yf_paid yf_payload yf_wants yf_name yf_first yf_counts yf_enters yf_most yf_many yf_sent yf_last (nI (pm_nn (pm_d c))) (nI (pm_nv (pm_d c))) (nI (pm_sk c)) (nI p) (nI T) (x) (nI (pm_at c)) ya_kind ya_repeated ya_how ya_code ya_coming ya_going ya_type ya_headers ya_header ya_queued ya_otherEnded ya_ended ya_finishing ya_queue ya_prefix ya_length ya_got ya_high ya_whole ya_has (an_g tx) ya_frame ya_payloads ya_table ya_out (a1) (a2) (a3) (a4) (a5) (a6) (a7) ya_sizes := by
    intro p x _ hp hgf
    unfold wY_element_360
    refine br_t rfl (nm_r (by rw [pk_sub hp, nI_add]) ?_)
    unfold pm_fin at hgf
    rw [if_pos rfl] at hgf
    exact F0 _ (nI (pm_nn (pm_d c)), nI (pm_nv (pm_d c)), nI (pm_sk c + (p - pm_pos c)), nI p, x, nI (pm_at c), a1, a2, a3, a4, a5, a6, a7) hgf hr ⟨rfl, rfl, rfl, rfl, rfl, rD, rA⟩
  have h360e : ∀ x p y, x ≤ 9 → x ≠ 0 → g.1 = x → wY_element_360 post (nI (pm_pos c)) (yr_c x) yf_down yf_heads yf_paid yf_payload yf_wants yf_name yf_first yf_counts yf_enters yf_most yf_many yf_sent yf_last (nI (pm_nn (pm_d c))) (nI (pm_nv (pm_d c))) (nI (pm_sk c)) (nI p) (nI T) (y) (nI (pm_at c)) ya_kind ya_repeated ya_how ya_code ya_coming ya_going ya_type ya_headers ya_header ya_queued ya_otherEnded ya_ended ya_finishing ya_queue ya_prefix ya_length ya_got ya_high ya_whole ya_has (an_g tx) ya_frame ya_payloads ya_table ya_out (a1) (a2) (a3) (a4) (a5) (a6) (a7) ya_sizes := by
    intro x p y h9 hx0 hgx
    unfold wY_element_360
    exact br_f (yr_ne x h9 hx0) (FE x (nI (pm_nn (pm_d c)), nI (pm_nv (pm_d c)), nI (pm_sk c), nI p, y, nI (pm_at c), a1, a2, a3, a4, a5, a6, a7) hgx hx0)
  have hskip : ∀ v, g = pm_goF B R T c 0 q v → v = 8 ∨ v = 4 → wY_element_354 post (nI (pm_pos c)) (nI (pm_lim c (pm_at c))) (nI v) yf_down yf_heads yf_paid yf_payload yf_wants yf_name yf_first yf_counts yf_enters yf_most yf_many yf_sent yf_last (nI (pm_nn (pm_d c))) (nI (pm_nv (pm_d c))) (nI (pm_sk c)) (nI q) (nI T) (x5) (nI (pm_at c)) ya_kind ya_repeated ya_how ya_code ya_coming ya_going ya_type ya_headers ya_header ya_queued ya_otherEnded ya_ended ya_finishing ya_queue ya_prefix ya_length ya_got ya_high ya_whole ya_has (an_g tx) ya_frame ya_payloads ya_table ya_out (a1) (a2) (a3) (a4) (a5) (a6) (a7) ya_sizes := by
    intro v hv hv8
    unfold wY_element_354
    refine yr_skip (n := v) (by omega) hT hqT (by omega) (by omega) (fun g1 g2 => ?_) (fun g1 g2 => ?_) (fun g1 g2 => ?_) (fun g1 g2 => ?_)
    · exact h360e 9 q x5 (by omega) (by omega) (by rw [hv, pm_goF_9 (by omega) (by omega)])
    · exact h360e 4 q x5 (by omega) (by omega) (by rw [hv, pm_goF_e (by omega) (by omega)])
    · exact h360e 9 q x5 (by omega) (by omega) (by rw [hv, pm_goF_9 (by omega) (by omega)])
    · rw [pm_goF_d (by omega) (by omega)] at hv
      exact h360 (q + v) x5 (by omega) (by omega) (by rw [hv]; unfold pm_fin; rw [if_pos rfl, if_pos rfl])
  rcases hw with hw | hw | hw | hw
  · subst hw
    rw [if_pos rfl] at hg
    refine br_f (by decide) (br_t rfl (yr_var hx hs hT (by omega) hqT (fun cc k' hv => ?_)))
    unfold pm_goV at hg
    rw [he, show 10 - 0 = 10 from rfl, hv] at hg
    dsimp only at hg
    have hc9 : cc ≤ 9 := by
      have := pm_vr_lt (B := B) (p := q) (e := pm_lim c (pm_at c)) (T := T) 10 0
      rw [hv] at this; exact this
    by_cases hc : cc = 0
    · subst hc
      rw [if_pos rfl] at hg
      have := pm_vr_ok _ _ (by omega) (by omega) hv
      exact h360 (q + k') _ (by omega) (by omega) (by rw [hg]; unfold pm_fin; rw [if_pos rfl, if_pos rfl])
    · rw [if_neg hc] at hg
      exact h360e cc _ _ hc9 hc (by rw [hg])
  · subst hw
    rw [if_neg (by decide), if_neg (by decide), if_pos rfl] at hg
    exact br_f (by decide) (br_f (by decide) (br_t rfl (hskip 8 hg (Or.inl rfl))))
  · subst hw
    rw [if_neg (by decide), if_pos rfl] at hg
    refine br_t rfl (yr_var hx hs hT (by omega) hqT (fun cc k' hv => ?_))
    unfold pm_goL at hg
    rw [show 10 - 0 = 10 from rfl, hv] at hg
    dsimp only at hg
    have hc9 : cc ≤ 9 := by
      have := pm_vr_lt (B := B) (p := q) (e := pm_lim c (pm_at c)) (T := T) 10 0
      rw [hv] at this; exact this
    by_cases hc : cc = 0
    · subst hc
      rw [if_pos rfl] at hg
      have hv' := pm_vr_ok _ _ (by omega) (by omega) hv
      refine br_t rfl ?_
      generalize pm_vs B q k' = x at hg ⊢
      unfold pm_len at hg
      refine br_c (fun hneg => ?_) (fun hneg => ?_)
      · rw [if_pos (Or.inl hneg)] at hg
        exact FE 4 (nI (pm_nn (pm_d c)), nI (pm_nv (pm_d c)), nI (pm_sk c), nI (q + k'), x, nI (pm_at c), a1, a2, a3, a4, a5, a6, a7) (by rw [hg]) (by omega)
      obtain ⟨len, hlen, rfl⟩ := nI_of hneg
      rw [nI_clamp hlen] at hg
      refine pk_le len (pm_lim c (pm_at c) - (q + k')) (fun g1 => ?_) (fun g1 => ?_) rfl (pk_sub (by omega))
      · rw [if_neg (by
          intro y; rcases y with y | y
          · exact hneg y
          · omega)] at hg
        have e2 : nI (q + k') + nI len = nI (q + k' + len) := nI_add _ _
        have h311 : pm_fl K R c n 2 = 0 → wY_element_311 post (nI (pm_pos c)) (nI (pm_lim c (pm_at c))) yf_down yf_heads yf_paid yf_payload yf_wants yf_name yf_first yf_counts yf_enters yf_most yf_many yf_sent yf_last (nI (pm_nn (pm_d c))) (nI (pm_nv (pm_d c))) (nI (pm_sk c)) (nI (q + k')) (nI T) ((nI len)) (nI (pm_at c)) ya_kind ya_repeated ya_how ya_code ya_coming ya_going ya_type ya_headers ya_header ya_queued ya_otherEnded ya_ended ya_finishing ya_queue ya_prefix ya_length ya_got ya_high ya_whole ya_has (an_g tx) ya_frame ya_payloads ya_table ya_out (a1) (a2) (a3) (a4) (a5) (a6) (a7) ya_sizes := by
          intro hf
          rw [hf] at hg
          unfold pm_body at hg
          rw [if_pos rfl] at hg
          unfold wY_element_311
          refine yr_skip (n := len) (by omega) hT (by omega) (by omega) (by omega) (fun g2 _ => absurd g2 (by omega)) (fun g2 _ => absurd g2 (by omega)) (fun g2 g3 => ?_) (fun g2 g3 => ?_)
          · rw [if_pos g3] at hg
            exact h360e 9 _ _ (by omega) (by omega) (by rw [hg])
          · rw [if_neg (by omega)] at hg
            exact h360 _ _ (by omega) (by omega) hg
        have hf0 : ∀ (y : n ≤ 15), kk = K (pm_fj c n) := by
          intro y; rw [hkk, if_neg (by omega)]
        refine br_c (fun h83 => ?_) (fun h83 => ?_)
        · refine br_c (fun h8 => ?_) (fun h8 => ?_)
          · have hk4 := yk.2.2.2.2.2.1.mp h8
            have hn15 : n ≤ 15 := by
              rcases Nat.lt_or_ge 15 n with y | y
              · rw [hkk, if_pos y] at hk4; omega
              · exact y
            have hkn := hf0 hn15
            have hf : pm_fl K R c n 2 = n := by
              unfold pm_fl
              rw [if_neg (by omega), if_neg (by omega), if_pos (Or.inl (by rw [← hkn, hk4]; decide))]
            rw [hf] at hg
            exact yr_row rD rA I hL hK hT (by omega) rfl (by omega) hn hn15 (by omega) hg (fun c' z' g2 g3 => F0 c' z' g2 (by
              have : pm_row (pm_body K R T c n (q + k') len).2 = 0 := by
                unfold pm_body
                rw [if_neg (by omega), if_pos (by omega)]
                split
                · exact hr
                split
                · exact hr
                · rw [pm_fin_r]; exact hr
              rw [← hg, g2] at this
              exact this) g3) FE
          · have hk4 : kk ≠ 4 := fun y => h8 (yk.2.2.2.2.2.1.mpr y)
            have hk4' : kk ≤ 4 := yk.2.2.2.2.1.mp h83
            by_cases hsc : 1 ≤ kk ∧ kk ≤ 3
            · rw [if_pos hsc] at hx9
              have hn15 : n ≤ 15 := by
                rcases Nat.lt_or_ge 15 n with y | y
                · rw [hkk, if_pos y] at hsc; omega
                · exact y
              have hkn := hf0 hn15
              have hin := I.2.2.2.2.1 (pm_at c) (Nat.le_refl _)
              have hty := (I.1.2.2.2.2.1 _ hin.1).1
              have hj : pm_fj c n < 64 := by
                show 16 * pm_nt (pm_d c) (pm_ins c (pm_at c)) + n < 64; omega
              rw [hx9, hx7 hn15, nI_clamp (by omega), hK.2.2 _ hj]
              refine br_f (by decide) ⟨vp_in_nI hj (by omega), ?_⟩
              by_cases hR : R (pm_fj c n) = true
              · rw [if_pos hR]
                have hf : pm_fl K R c n 2 = n := by
                  unfold pm_fl
                  rw [if_neg (by omega), if_neg (by omega), if_pos (Or.inr ⟨rfl, hR⟩)]
                rw [hf] at hg
                unfold pm_body at hg
                rw [if_neg (by omega), if_neg (by omega), if_neg (by omega)] at hg
                refine br_f (by decide) ?_
                rw [e2]
                unfold wpY_packed
                obtain ⟨dep', i1, i2⟩ := hI _ hg
                refine ⟨m + 1, yr_packed (dep := dep') hL hK hx hs hT m (q + k', pm_at c, q + k' + len, n, pm_sk c, pm_lim c, pm_ins c, pm_d c) (nI (pm_nn (pm_d c)), nI (pm_nv (pm_d c)), nI (pm_sk c), nI (q + k'), nI len, nI (pm_at c), a1, a2, a3, a4, a5, a6, a7)
                  (hrd0 _ hg) rfl (by omega) rfl (hf0 hn15).symm i1 ⟨rfl, rfl, rfl, rfl, rfl, rD, rA⟩ i2 (fun m' c' z' h1 h2 h3 h4 h5 h6 => H0 dep' m' c' z' (by omega) h2 h3 h4 h5 h6) HE⟩
              · rw [if_neg hR]
                exact br_t rfl (h311 (by
                  unfold pm_fl
                  rw [if_neg (by omega), if_neg (by omega), if_neg (by
                    intro y
                    rcases y with y | y
                    · rw [← hkn] at y
                      unfold pm_w at y
                      split at y
                      · omega
                      · split at y <;> omega
                    · exact hR y.2)]))
            · rw [if_neg hsc] at hx9
              rw [hx9]
              have hk0 : kk = 0 := by omega
              refine br_t rfl (h311 ?_)
              unfold pm_fl
              split
              · rfl
              · rename_i y
                rw [hkk, if_neg y] at hk0
                rw [if_pos hk0]
        · have hk5 : 4 < kk := by
            rcases Nat.lt_or_ge 4 kk with y | y
            · exact y
            · exact absurd (yk.2.2.2.2.1.mpr y) h83
          have hn15 : n ≤ 15 := by
            rcases Nat.lt_or_ge 15 n with y | y
            · rw [hkk, if_pos y] at hk5; omega
            · exact y
          have hkn := hf0 hn15
          have hf : pm_fl K R c n 2 = n := by
            unfold pm_fl
            rw [if_neg (by omega), if_neg (by omega), if_pos (Or.inl (by
              rw [← hkn]; unfold pm_w
              rw [if_neg (by omega), if_neg (by omega)]))]
          rw [hf] at hg
          unfold pm_body at hg
          rw [if_neg (by omega), if_neg (by omega), if_pos (by omega), ← hkn] at hg
          rw [yk.2.2.2.2.2.2 hk5, e2]
          exact yr_part rD rA I hK hn hn15 (by omega) hg (fun c' z' g2 g3 => F0 c' z' g2 (by
            have : pm_row (pm_part R c n (kk - 5) (q + k') len).2 = 0 ∨ (pm_part R c n (kk - 5) (q + k') len).1 ≠ 0 := by
              unfold pm_part
              split
              · left; rfl
              split
              · right; show (5 : Nat) ≠ 0; omega
              · left; rfl
            rw [← hg, g2] at this
            rcases this with y | y
            · exact y
            · exact absurd rfl y) g3) FE
      · rw [if_pos (Or.inr (by omega))] at hg
        exact FE 4 (nI (pm_nn (pm_d c)), nI (pm_nv (pm_d c)), nI (pm_sk c), nI (q + k'), nI len, nI (pm_at c), a1, a2, a3, a4, a5, a6, a7) (by rw [hg]) (by omega)
    · rw [if_neg hc] at hg
      exact br_f (yr_ne cc hc9 hc) (FE cc (nI (pm_nn (pm_d c)), nI (pm_nv (pm_d c)), nI (pm_sk c), nI (q + k'), _, nI (pm_at c), a1, a2, a3, a4, a5, a6, a7) (by rw [hg]) hc)
  · subst hw
    rw [if_neg (by decide), if_neg (by decide), if_neg (by decide)] at hg
    exact br_f (by decide) (br_f (by decide) (br_f (by decide) (hskip 4 hg (Or.inr rfl))))
end
