/-! W3: the reference writes a value -/
section
theorem ct_v_1 {x : Nat} (h : x < 128) : ct_v x = [x] := by
  unfold ct_v
  rw [ct_vd, if_pos (by omega)]
theorem yv_b {B : Nat → Nat} {k st : Nat} {x : Int32} {g : Nat → List Nat} (h : k ≤ 4) (h0 : k ≠ 0) : ct_b B k x st g = yv_l B k x st := by
  unfold ct_b yv_l
  by_cases k1 : k = 1
  · rw [if_pos k1, if_pos k1]
  by_cases k2 : k = 2
  · rw [if_neg k1, if_pos k2, if_neg k1, if_pos k2]
  by_cases k3 : k = 3
  · rw [if_neg k1, if_neg k2, if_pos k3, if_neg k1, if_neg k2, if_pos k3]
  by_cases k4 : k = 4
  · rw [if_neg k1, if_neg k2, if_neg k3, if_pos k4, if_neg k1, if_neg k2, if_neg k3, if_pos k4]
  · omega
theorem yv_5 {B : Nat → Nat} {k st : Nat} {x : Int32} (h : 4 < k) : yv_l B k x st = [] := by
  unfold yv_l
  rw [if_neg (by omega), if_neg (by omega), if_neg (by omega), if_neg (by omega)]
theorem ct_b5 {B : Nat → Nat} {k st m : Nat} {g : Nat → List Nat} (h : 4 < k) (hm : m < 2 ^ 31) : ct_b B k (nI m) st g = g m := by
  unfold ct_b
  rw [if_neg (by omega), if_neg (by omega), if_neg (by omega), if_neg (by omega), nI_clamp hm]
theorem yk4 : ∀ k, k ≤ 8 → ((4 : Int32) ≤ nI k + (-1) ↔ 4 < k) ∧ (2 < nI k + (-1) ↔ 3 < k) := by decide +kernel
variable {yf_down yf_heads yf_paid yf_payload yf_wants yf_name yf_first yf_counts yf_enters yf_most yf_many yf_sent yf_last yf_nodes yf_values yf_skipped yf_pos yf_there yf_number yf_at : Int32} {ya_kind ya_repeated ya_how ya_code ya_coming ya_going ya_type ya_headers ya_header ya_queued ya_otherEnded ya_ended ya_finishing ya_queue ya_prefix ya_length ya_got ya_high ya_whole ya_has ya_bytes ya_frame ya_payloads ya_table ya_out ya_nodeType ya_valueNode ya_valueNumber ya_value ya_from ya_limit ya_inside ya_sizes : Nat → Int32} {K : Nat → Nat} {R : Nat → Bool} {L : Nat} {dep : Nat → Nat} {D : pm_D} {a n v s d k : Nat} {ql : Nat → Nat} {tx B : Nat → Nat} {post : SY → Prop} {J : Int32 → Int32 → Int32 → Int32 → Int32 → Int32 → Int32 → Int32 → Int32 → Int32 → Int32 → Int32 → Int32 → Int32 → Int32 → Int32 → Int32 → Int32 → Int32 → Int32 → Int32 → (Nat → Int32) → (Nat → Int32) → (Nat → Int32) → (Nat → Int32) → (Nat → Int32) → (Nat → Int32) → (Nat → Int32) → (Nat → Int32) → (Nat → Int32) → (Nat → Int32) → (Nat → Int32) → (Nat → Int32) → (Nat → Int32) → (Nat → Int32) → (Nat → Int32) → (Nat → Int32) → (Nat → Int32) → (Nat → Int32) → (Nat → Int32) → (Nat → Int32) → (Nat → Int32) → (Nat → Int32) → (Nat → Int32) → (Nat → Int32) → (Nat → Int32) → (Nat → Int32) → (Nat → Int32) → (Nat → Int32) → (Nat → Int32) → (Nat → Int32) → (Nat → Int32) → (Nat → Int32) → (Nat → Int32) → Prop}
theorem yz_283 {Q1 : Nat → Nat} {q1 : Nat} {lim ins : Nat → Int32} (hs : s < 8) (hB : yr_B tx s B) (hD : yr_D D ya_nodeType ya_valueNode ya_valueNumber ya_value ya_from) (I : pm_DI K L dep D) (hL : L ≤ 200) (hk : k ≤ 8) (hv : v < pm_nv D) (ek : pm_kk K D v = k) (hd : d ≤ 3)
    (hq : q1 + (yv_l B k (pm_va D v) (pm_fr D v)).length ≤ 500)
    (Hn : k ≤ 4 → J (nI d) yf_down yf_heads yf_paid yf_payload yf_wants yf_name yf_first yf_counts yf_enters yf_most yf_many yf_sent yf_last yf_nodes yf_values yf_skipped yf_pos yf_there yf_number yf_at ya_kind ya_repeated ya_how ya_code ya_coming ya_going ya_type ya_headers ya_header (an_f (pm_u ql s (q1 + (yv_l B k (pm_va D v) (pm_fr D v)).length))) ya_otherEnded ya_ended ya_finishing (an_g (ct_put Q1 (500 * s + q1) (yv_l B k (pm_va D v) (pm_fr D v)))) ya_prefix ya_length ya_got ya_high ya_whole ya_has (an_g tx) ya_frame ya_payloads ya_table ya_out ya_nodeType ya_valueNode ya_valueNumber ya_value ya_from (lim) (ins) ya_sizes)
    (Hp : 4 < k → J (nI (d + 1)) yf_down yf_heads yf_paid yf_payload yf_wants yf_name yf_first yf_counts yf_enters yf_most yf_many yf_sent yf_last yf_nodes yf_values yf_skipped yf_pos yf_there yf_number yf_at ya_kind ya_repeated ya_how ya_code ya_coming ya_going ya_type ya_headers ya_header (an_f (pm_u ql s q1)) ya_otherEnded ya_ended ya_finishing (an_g Q1) ya_prefix ya_length ya_got ya_high ya_whole ya_has (an_g tx) ya_frame ya_payloads ya_table ya_out ya_nodeType ya_valueNode ya_valueNumber ya_value ya_from (upd lim (d + 1) 48) (upd ins (d + 1) (pm_va D v)) ya_sizes) :
    wY_write_283 post J (nI s) (nI d) (nI v) (nI k + (-1)) yf_down yf_heads yf_paid yf_payload yf_wants yf_name yf_first yf_counts yf_enters yf_most yf_many yf_sent yf_last yf_nodes yf_values yf_skipped yf_pos yf_there yf_number yf_at ya_kind ya_repeated ya_how ya_code ya_coming ya_going ya_type ya_headers ya_header (an_f (pm_u ql s q1)) ya_otherEnded ya_ended ya_finishing (an_g Q1) ya_prefix ya_length ya_got ya_high ya_whole ya_has (an_g tx) ya_frame ya_payloads ya_table ya_out ya_nodeType ya_valueNode ya_valueNumber ya_value ya_from (lim) (ins) ya_sizes := by
  have hnv := I.2.2.1
  obtain ⟨v1, v2, v3, v4, v5, v6⟩ := I.2.2.2.2.2.1 v hv
  obtain ⟨w1, w2, w3, w4⟩ := hD.2 v hv
  rw [ek] at v4 v5 v6
  have yk := yk4 k hk
  unfold wY_write_283
  refine yv_val (y := pm_va D v) hs (by omega) hk v4 hB w3 w4 (fun z => ?_) hq ?_
  · obtain ⟨m, m1, m2⟩ := v5 z
    exact ⟨m, m1, by omega⟩
  · dsimp only
    refine br_c (fun z => ?_) (fun z => ?_)
    · have k5 := yk.1.mp z
      rw [yv_5 k5]
      have c48 : (nI v).toNatClampNeg = v := nI_clamp (by omega)
      rw [c48, w3]
      refine nm_r (nI_1 d) ⟨vp_in_nI (by omega) (by omega), vp_in_nI (by omega) (by omega), nm_r (e' := upd ins (d + 1) (pm_va D v)) (by rw [nI_clamp (by omega)]) ⟨vp_in_nI (by omega) (by omega), nm_r (e' := upd lim (d + 1) 48) (by rw [nI_clamp (by omega)]) (Hp k5)⟩⟩
    · refine Hn ?_
      rcases Nat.lt_or_ge 4 k with w | w
      · exact absurd (yk.1.mpr w) z
      · exact w
theorem yz_275 {Q1 : Nat → Nat} {q1 w : Nat} {lim ins : Nat → Int32} (hs : s < 8) (hw : w < 2 ^ 31) (hq : q1 + (ct_v w).length ≤ 500)
    (H : wY_write_283 post J (nI s) (nI d) (nI v) (nI k + (-1)) yf_down yf_heads yf_paid yf_payload yf_wants yf_name yf_first yf_counts yf_enters yf_most yf_many yf_sent yf_last yf_nodes yf_values yf_skipped yf_pos yf_there yf_number yf_at ya_kind ya_repeated ya_how ya_code ya_coming ya_going ya_type ya_headers ya_header (an_f (pm_u ql s (q1 + (ct_v w).length))) ya_otherEnded ya_ended ya_finishing (an_g (ct_put Q1 (500 * s + q1) (ct_v w))) ya_prefix ya_length ya_got ya_high ya_whole ya_has ya_bytes ya_frame ya_payloads ya_table ya_out ya_nodeType ya_valueNode ya_valueNumber ya_value ya_from (lim) (ins) ya_sizes) :
    wY_write_275 post J (nI s) (nI d) (nI v) (nI k + (-1)) (nI w) yf_down yf_heads yf_paid yf_payload yf_wants yf_name yf_first yf_counts yf_enters yf_most yf_many yf_sent yf_last yf_nodes yf_values yf_skipped yf_pos yf_there yf_number yf_at ya_kind ya_repeated ya_how ya_code ya_coming ya_going ya_type ya_headers ya_header (an_f (pm_u ql s q1)) ya_otherEnded ya_ended ya_finishing (an_g Q1) ya_prefix ya_length ya_got ya_high ya_whole ya_has ya_bytes ya_frame ya_payloads ya_table ya_out ya_nodeType ya_valueNode ya_valueNumber ya_value ya_from (lim) (ins) ya_sizes := by
  unfold wY_write_275
  have e : (nI w).toBitVec.toNat = w := pk_tn (by omega)
  refine yw_v0 (y := nI w) hs (by rw [e]; exact hq) ?_
  rw [e]
  exact H
theorem yz_227 {Q1 : Nat → Nat} {q1 t : Nat} {x3 x4 x6 x7 x8 : Int32} {z0 : Int32} {lim ins : Nat → Int32} (hs : s < 8) (hn : n ≤ 15) (ht : t ≤ 5) (hz : z0 = nI t) (hq : q1 < 500)
    (H : wY_write_232 post J (nI s) (nI d) x3 x4 (nI v) x6 x7 x8 yf_down yf_heads yf_paid yf_payload yf_wants yf_name yf_first yf_counts yf_enters yf_most yf_many yf_sent yf_last yf_nodes yf_values yf_skipped yf_pos yf_there yf_number yf_at ya_kind ya_repeated ya_how ya_code ya_coming ya_going ya_type ya_headers ya_header (an_f (pm_u ql s (q1 + 1))) ya_otherEnded ya_ended ya_finishing (an_g (ct_put Q1 (500 * s + q1) [8 * n + t])) ya_prefix ya_length ya_got ya_high ya_whole ya_has ya_bytes ya_frame ya_payloads ya_table ya_out ya_nodeType ya_valueNode ya_valueNumber ya_value ya_from (lim) (ins) ya_sizes) :
    wY_write_227 post J (nI s) (nI d) x3 x4 (nI v) x6 x7 x8 z0 (8 * nI n) (nI s) yf_down yf_heads yf_paid yf_payload yf_wants yf_name yf_first yf_counts yf_enters yf_most yf_many yf_sent yf_last yf_nodes yf_values yf_skipped yf_pos yf_there yf_number yf_at ya_kind ya_repeated ya_how ya_code ya_coming ya_going ya_type ya_headers ya_header (an_f (pm_u ql s q1)) ya_otherEnded ya_ended ya_finishing (an_g Q1) ya_prefix ya_length ya_got ya_high ya_whole ya_has ya_bytes ya_frame ya_payloads ya_table ya_out ya_nodeType ya_valueNode ya_valueNumber ya_value ya_from (lim) (ins) ya_sizes := by
  unfold wY_write_227
  have e1 : 8 * nI n + z0 = nI (8 * n + t) := by rw [hz, show (8 : Int32) = nI 8 from rfl, pk_mul, nI_add]
  have e : (nI (8 * n + t)).toBitVec.toNat = 8 * n + t := pk_tn (by omega)
  have e2 : ct_v (8 * n + t) = [8 * n + t] := ct_v_1 (by omega)
  rw [e1]
  refine yw_v0 (y := nI (8 * n + t)) hs (by rw [e, e2]; exact hq) ?_
  rw [e, e2]
  exact H
/-- a value of a field, from its kind on -/
theorem yz_em {Q1 : Nat → Nat} {q1 : Nat} {lim ins : Nat → Int32} (hs : s < 8) (hB : yr_B tx s B) (hK : cr_K ya_kind ya_repeated K R) (hD : yr_D D ya_nodeType ya_valueNode ya_valueNumber ya_value ya_from) (I : pm_DI K L dep D) (hL : L ≤ 200)
    (hS : ∀ m, m < pm_nn D → ya_sizes m = nI (sz_S K R D m)) (hv : v < pm_nv D) (e1 : pm_vn D v = a) (e2 : pm_vm D v = n) (hd : d ≤ 3)
    (hq : q1 + (em_h B K R D (ct_S B K R D) a n v).length ≤ 500)
    (Hn : K (sz_j D a n) ≤ 4 → J (nI d) yf_down yf_heads yf_paid yf_payload yf_wants yf_name yf_first yf_counts yf_enters yf_most yf_many yf_sent yf_last yf_nodes (nI (pm_nv D)) yf_skipped yf_pos yf_there yf_number yf_at ya_kind ya_repeated ya_how ya_code ya_coming ya_going ya_type ya_headers ya_header (an_f (pm_u ql s (q1 + (em_h B K R D (ct_S B K R D) a n v).length))) ya_otherEnded ya_ended ya_finishing (an_g (ct_put Q1 (500 * s + q1) (em_h B K R D (ct_S B K R D) a n v))) ya_prefix ya_length ya_got ya_high ya_whole ya_has (an_g tx) ya_frame ya_payloads ya_table ya_out ya_nodeType ya_valueNode ya_valueNumber ya_value ya_from (lim) (ins) ya_sizes)
    (Hp : ∀ m pre, 4 < K (sz_j D a n) → pm_va D v = nI m → a < m → m < pm_nn D → dep m = dep a + 1 → em_h B K R D (ct_S B K R D) a n v = pre ++ ct_S B K R D m → J (nI (d + 1)) yf_down yf_heads yf_paid yf_payload yf_wants yf_name yf_first yf_counts yf_enters yf_most yf_many yf_sent yf_last yf_nodes (nI (pm_nv D)) yf_skipped yf_pos yf_there yf_number yf_at ya_kind ya_repeated ya_how ya_code ya_coming ya_going ya_type ya_headers ya_header (an_f (pm_u ql s (q1 + pre.length))) ya_otherEnded ya_ended ya_finishing (an_g (ct_put Q1 (500 * s + q1) pre)) ya_prefix ya_length ya_got ya_high ya_whole ya_has (an_g tx) ya_frame ya_payloads ya_table ya_out ya_nodeType ya_valueNode ya_valueNumber ya_value ya_from (upd lim (d + 1) 48) (upd ins (d + 1) (nI m)) ya_sizes) :
    (((3 : Int32) ≤ nI (K (sz_j D a n)) + (-1) → wY_write_157 post J (nI s) (nI d) (nI a) (nI n) (nI v) (nI (K (sz_j D a n)) + (-1)) yf_down yf_heads yf_paid yf_payload yf_wants yf_name yf_first yf_counts yf_enters yf_most yf_many yf_sent yf_last yf_nodes (nI (pm_nv D)) yf_skipped yf_pos yf_there yf_number yf_at ya_kind ya_repeated ya_how ya_code ya_coming ya_going ya_type ya_headers ya_header (an_f (pm_u ql s q1)) ya_otherEnded ya_ended ya_finishing (an_g Q1) ya_prefix ya_length ya_got ya_high ya_whole ya_has (an_g tx) ya_frame ya_payloads ya_table ya_out ya_nodeType ya_valueNode ya_valueNumber ya_value ya_from (lim) (ins) ya_sizes) ∧
     (¬ (3 : Int32) ≤ nI (K (sz_j D a n)) + (-1) → ((ya_repeated (sz_j D a n) = 0 → wY_write_157 post J (nI s) (nI d) (nI a) (nI n) (nI v) (nI (K (sz_j D a n)) + (-1)) yf_down yf_heads yf_paid yf_payload yf_wants yf_name yf_first yf_counts yf_enters yf_most yf_many yf_sent yf_last yf_nodes (nI (pm_nv D)) yf_skipped yf_pos yf_there yf_number yf_at ya_kind ya_repeated ya_how ya_code ya_coming ya_going ya_type ya_headers ya_header (an_f (pm_u ql s q1)) ya_otherEnded ya_ended ya_finishing (an_g Q1) ya_prefix ya_length ya_got ya_high ya_whole ya_has (an_g tx) ya_frame ya_payloads ya_table ya_out ya_nodeType ya_valueNode ya_valueNumber ya_value ya_from (lim) (ins) ya_sizes) ∧
      (¬ ya_repeated (sz_j D a n) = 0 → wY_write_158 post J (nI s) (nI d) (nI a) (nI n) (nI v) (nI (K (sz_j D a n)) + (-1)) 1 yf_down yf_heads yf_paid yf_payload yf_wants yf_name yf_first yf_counts yf_enters yf_most yf_many yf_sent yf_last yf_nodes (nI (pm_nv D)) yf_skipped yf_pos yf_there yf_number yf_at ya_kind ya_repeated ya_how ya_code ya_coming ya_going ya_type ya_headers ya_header (an_f (pm_u ql s q1)) ya_otherEnded ya_ended ya_finishing (an_g Q1) ya_prefix ya_length ya_got ya_high ya_whole ya_has (an_g tx) ya_frame ya_payloads ya_table ya_out ya_nodeType ya_valueNode ya_valueNumber ya_value ya_from (lim) (ins) ya_sizes)))) := by
  have hnv := I.2.2.1
  have hnn := I.2.1
  obtain ⟨v1, v2, v3, v4, v5, v6⟩ := I.2.2.2.2.2.1 v hv
  have ha : a < pm_nn D := by rw [← e1]; exact v1
  have hn1 : 1 ≤ n := by rw [← e2]; exact v2
  have hn : n ≤ 15 := by rw [← e2]; exact v3
  have ek : pm_kk K D v = K (sz_j D a n) := sz_kk e1 e2
  rw [ek] at v4 v5 v6
  have hjj : sz_j D a n < 64 := by
    have := (I.2.2.2.2.1 a ha).1
    unfold sz_j
    omega
  have hrep := hK.2.2 _ hjj
  have hk8 := hK.1 (sz_j D a n)
  have hg : (fun m => (ct_S B K R D m).length) = sz_S K R D := funext (fun m => ct_S_len m)
  have hSa : ∀ m, a < m → m < pm_nn D → ya_sizes m = nI (sz_S K R D m) := fun m _ h => hS m h
  obtain ⟨b1, b2⟩ := sz_bd_le (R := R) I hL ha hn1 hn
  have hlv : sz_l (K (sz_j D a n)) (pm_va D v) (sz_S K R D) ≤ sz_bd K D (sz_S K R D) a n := sz_sm_1 (h := fun j => sz_l (K (sz_j D a n)) (pm_va D j) (sz_S K R D)) (pm_nv D) v hv e1 e2
  have hix : pm_ix D a n < pm_nv D := by
    rcases Nat.lt_or_ge (pm_ix D a n) (pm_nv D) with w | w
    · exact w
    · exact absurd ⟨e1, e2⟩ (pm_ix_n (by omega) v hv)
  have hbl : (ct_b B (K (sz_j D a n)) (pm_va D v) (pm_fr D v) (ct_S B K R D)).length = sz_b (K (sz_j D a n)) (pm_va D v) (sz_S K R D) := by rw [ct_b_len, hg]
  have hb31 : sz_b (K (sz_j D a n)) (pm_va D v) (sz_S K R D) < 2 ^ 31 := by
    unfold sz_l at hlv
    omega
  have yk := yr_k _ hk8
  have yk5 := yk4 _ hk8
  have yk2 := zy_k2 _ hk8
  have hfind : ∀ {P : Int32 → Prop}, P (nI (pm_ix D a n)) → wpY_find P (yf_down, yf_heads, yf_paid, yf_payload, yf_wants, yf_name, yf_first, yf_counts, yf_enters, yf_most, yf_many, yf_sent, yf_last, yf_nodes, nI (pm_nv D), yf_skipped, yf_pos, yf_there, yf_number, yf_at, ya_kind, ya_repeated, ya_how, ya_code, ya_coming, ya_going, ya_type, ya_headers, ya_header, an_f (pm_u ql s q1), ya_otherEnded, ya_ended, ya_finishing, an_g Q1, ya_prefix, ya_length, ya_got, ya_high, ya_whole, ya_has, an_g tx, ya_frame, ya_payloads, ya_table, ya_out, ya_nodeType, ya_valueNode, ya_valueNumber, ya_value, ya_from, lim, ins, ya_sizes) (nI a) (nI n) := by
    intro P hP
    refine yr_find hD hnv (fun j hj => ?_) (by omega) (by omega) ?_
    · obtain ⟨x1, x2⟩ := xr_DB I j hj
      omega
    · rw [if_pos hix]; exact hP
  generalize hkk : K (sz_j D a n) = k at *
  by_cases p : k < 4 ∧ R (sz_j D a n) = true
  · -- a packed row
    have hrow : (ct_row B K D (ct_S B K R D) a n (pm_nv D)).length = sz_row K D (sz_S K R D) a n := by rw [ct_row_len, hg]; rfl
    have hr31 : sz_row K D (sz_S K R D) a n < 2 ^ 31 := by
      rw [← sz_bd_r (by rw [hkk]; exact p.1)]
      omega
    have eh : em_h B K R D (ct_S B K R D) a n v = (if pm_ix D a n = v then ct_hd n (sz_row K D (sz_S K R D) a n) else []) ++ yv_l B k (pm_va D v) (pm_fr D v) := by
      unfold em_h
      rw [hkk, if_pos p, hrow, yv_b (by omega) v4]
    rw [eh] at hq Hn
    rw [List.length_append] at hq
    have h283 : ∀ (Q2 : Nat → Nat) (q2 : Nat) (l : List Nat), Q2 = ct_put Q1 (500 * s + q1) l → q2 = q1 + l.length → l = (if pm_ix D a n = v then ct_hd n (sz_row K D (sz_S K R D) a n) else []) →
        wY_write_283 post J (nI s) (nI d) (nI v) (nI k + (-1)) yf_down yf_heads yf_paid yf_payload yf_wants yf_name yf_first yf_counts yf_enters yf_most yf_many yf_sent yf_last yf_nodes (nI (pm_nv D)) yf_skipped yf_pos yf_there yf_number yf_at ya_kind ya_repeated ya_how ya_code ya_coming ya_going ya_type ya_headers ya_header (an_f (pm_u ql s q2)) ya_otherEnded ya_ended ya_finishing (an_g Q2) ya_prefix ya_length ya_got ya_high ya_whole ya_has (an_g tx) ya_frame ya_payloads ya_table ya_out ya_nodeType ya_valueNode ya_valueNumber ya_value ya_from (lim) (ins) ya_sizes := by
      intro Q2 q2 l hQ2 hq2 hl
      rw [← hl] at hq Hn
      refine yz_283 hs hB hD I hL (by omega) hv ek hd (by omega) (fun w => ?_) (fun w => by omega)
      rw [hQ2, hq2, ← Nat.add_assoc, cp_app, Nat.add_assoc, ← List.length_append]
      exact Hn w
    refine br_f (fun w => ?_) (br_f (by rw [hrep, if_pos p.2]; decide) ?_)
    · have := yk.2.2.2.1.mp w
      omega
    unfold wY_write_158
    refine hfind ?_
    refine pk_eq (pm_ix D a n) v (fun z => ?_) (fun z => ?_)
    · rw [if_pos z] at hq h283
      have hl1 : (ct_hd n (sz_row K D (sz_S K R D) a n)).length = 1 + (ct_v (sz_row K D (sz_S K R D) a n)).length := by
        unfold ct_hd; rw [List.length_cons]; omega
      unfold wY_write_177
      refine br_f (by decide) (br_f (by decide) ?_)
      have h232 : wY_write_232 post J (nI s) (nI d) (nI a) (nI n) (nI v) (nI k + (-1)) 1 1 yf_down yf_heads yf_paid yf_payload yf_wants yf_name yf_first yf_counts yf_enters yf_most yf_many yf_sent yf_last yf_nodes (nI (pm_nv D)) yf_skipped yf_pos yf_there yf_number yf_at ya_kind ya_repeated ya_how ya_code ya_coming ya_going ya_type ya_headers ya_header (an_f (pm_u ql s (q1 + 1))) ya_otherEnded ya_ended ya_finishing (an_g (ct_put Q1 (500 * s + q1) [8 * n + 2])) ya_prefix ya_length ya_got ya_high ya_whole ya_has (an_g tx) ya_frame ya_payloads ya_table ya_out ya_nodeType ya_valueNode ya_valueNumber ya_value ya_from (lim) (ins) ya_sizes := by
        unfold wY_write_232
        rw [← hkk]
        refine br_f (by decide) (zy_row hK.1 hD I hL (by omega) hn hSa ?_)
        rw [hkk]
        unfold wY_write_257
        refine br_f (by decide) (br_f (by decide) (yz_275 hs hr31 (by omega) (h283 _ _ (ct_hd n (sz_row K D (sz_S K R D) a n)) ?_ ?_ rfl)))
        · rw [← Nat.add_assoc]
          exact cp_app [8 * n + 2] _ Q1 (500 * s + q1)
        · rw [hl1]; omega
      have h227 : wY_write_227 post J (nI s) (nI d) (nI a) (nI n) (nI v) (nI k + (-1)) 1 1 2 (8 * nI n) (nI s) yf_down yf_heads yf_paid yf_payload yf_wants yf_name yf_first yf_counts yf_enters yf_most yf_many yf_sent yf_last yf_nodes (nI (pm_nv D)) yf_skipped yf_pos yf_there yf_number yf_at ya_kind ya_repeated ya_how ya_code ya_coming ya_going ya_type ya_headers ya_header (an_f (pm_u ql s q1)) ya_otherEnded ya_ended ya_finishing (an_g Q1) ya_prefix ya_length ya_got ya_high ya_whole ya_has (an_g tx) ya_frame ya_payloads ya_table ya_out ya_nodeType ya_valueNode ya_valueNumber ya_value ya_from (lim) (ins) ya_sizes := yz_227 (t := 2) hs hn (by omega) rfl (by omega) h232
      unfold wY_write_189
      have h211 : wY_write_211 post J (nI s) (nI d) (nI a) (nI n) (nI v) (nI k + (-1)) 1 1 (8 * nI n) (nI s) yf_down yf_heads yf_paid yf_payload yf_wants yf_name yf_first yf_counts yf_enters yf_most yf_many yf_sent yf_last yf_nodes (nI (pm_nv D)) yf_skipped yf_pos yf_there yf_number yf_at ya_kind ya_repeated ya_how ya_code ya_coming ya_going ya_type ya_headers ya_header (an_f (pm_u ql s q1)) ya_otherEnded ya_ended ya_finishing (an_g Q1) ya_prefix ya_length ya_got ya_high ya_whole ya_has (an_g tx) ya_frame ya_payloads ya_table ya_out ya_nodeType ya_valueNode ya_valueNumber ya_value ya_from (lim) (ins) ya_sizes := by
        unfold wY_write_211
        unfold wY_write_222
        exact br_c (fun _ => h227) (fun _ => br_f (by decide) h227)
      exact br_c (fun _ => br_f (by decide) h211) (fun _ => h211)
    · rw [if_neg z] at h283
      unfold wY_write_177
      refine br_f (by decide) (br_t rfl ?_)
      unfold wY_write_232
      rw [← hkk]
      refine br_f (by decide) (zy_row hK.1 hD I hL (by omega) hn hSa ?_)
      rw [hkk]
      unfold wY_write_257
      refine br_f (by decide) (br_t rfl ?_)
      unfold wY_write_269
      exact br_t (yk2.mpr (by omega)) (h283 Q1 q1 [] rfl rfl rfl)
  · -- a value with a tag of its own
    have eh : em_h B K R D (ct_S B K R D) a n v = (8 * n + pm_w k) :: ((if 3 < k then ct_v (sz_b k (pm_va D v) (sz_S K R D)) else []) ++ ct_b B k (pm_va D v) (pm_fr D v) (ct_S B K R D)) := by
      unfold em_h ct_l
      rw [hkk, if_neg p, hbl]
    rw [eh] at hq Hn Hp
    rw [List.length_cons, List.length_append] at hq
    have hfin : ∀ (Q2 : Nat → Nat) (q2 : Nat) (l : List Nat), Q2 = ct_put Q1 (500 * s + q1) l → q2 = q1 + l.length → l = (8 * n + pm_w k) :: (if 3 < k then ct_v (sz_b k (pm_va D v) (sz_S K R D)) else []) →
        wY_write_283 post J (nI s) (nI d) (nI v) (nI k + (-1)) yf_down yf_heads yf_paid yf_payload yf_wants yf_name yf_first yf_counts yf_enters yf_most yf_many yf_sent yf_last yf_nodes (nI (pm_nv D)) yf_skipped yf_pos yf_there yf_number yf_at ya_kind ya_repeated ya_how ya_code ya_coming ya_going ya_type ya_headers ya_header (an_f (pm_u ql s q2)) ya_otherEnded ya_ended ya_finishing (an_g Q2) ya_prefix ya_length ya_got ya_high ya_whole ya_has (an_g tx) ya_frame ya_payloads ya_table ya_out ya_nodeType ya_valueNode ya_valueNumber ya_value ya_from (lim) (ins) ya_sizes := by
      intro Q2 q2 l hQ2 hq2 hl
      have hll : l.length = 1 + (if 3 < k then ct_v (sz_b k (pm_va D v) (sz_S K R D)) else []).length := by rw [hl, List.length_cons]; omega
      by_cases k5 : 4 < k
      · obtain ⟨m, m1, m2, m3, m4⟩ := v6 k5
        refine yz_283 hs hB hD I hL (by omega) hv ek hd (by rw [yv_5 k5]; show q2 + 0 ≤ 500; omega) (fun w => by omega) (fun w => ?_)
        rw [m1, hQ2, hq2]
        refine Hp m l k5 m1 (by omega) m3 (by rw [← e1]; exact m4) ?_
        rw [hl, m1, ct_b5 k5 (by omega)]
        rfl
      · refine yz_283 hs hB hD I hL (by omega) hv ek hd ?_ (fun w => ?_) (fun w => absurd w k5)
        · rw [← yv_b (g := ct_S B K R D) (by omega) v4]; omega
        · rw [← yv_b (g := ct_S B K R D) (by omega) v4, hQ2, hq2, ← Nat.add_assoc, cp_app, Nat.add_assoc, ← List.length_append, hl]
          exact Hn w
    have h269 : ∀ x8 : Int32, wY_write_257 post J (nI s) (nI d) (nI v) (nI k + (-1)) 0 x8 (nI (sz_b k (pm_va D v) (sz_S K R D))) yf_down yf_heads yf_paid yf_payload yf_wants yf_name yf_first yf_counts yf_enters yf_most yf_many yf_sent yf_last yf_nodes (nI (pm_nv D)) yf_skipped yf_pos yf_there yf_number yf_at ya_kind ya_repeated ya_how ya_code ya_coming ya_going ya_type ya_headers ya_header (an_f (pm_u ql s (q1 + 1))) ya_otherEnded ya_ended ya_finishing (an_g (ct_put Q1 (500 * s + q1) [8 * n + pm_w k])) ya_prefix ya_length ya_got ya_high ya_whole ya_has (an_g tx) ya_frame ya_payloads ya_table ya_out ya_nodeType ya_valueNode ya_valueNumber ya_value ya_from (lim) (ins) ya_sizes := by
      intro x8
      unfold wY_write_257
      refine br_t rfl ?_
      unfold wY_write_269
      refine br_c (fun z => ?_) (fun z => ?_)
      · have k3 := yk2.mp z
        refine hfin _ _ [8 * n + pm_w k] rfl rfl ?_
        rw [if_neg (by omega)]
      · have k3 : 3 < k := by
          rcases Nat.lt_or_ge 3 k with w | w
          · exact w
          · exact absurd (yk2.mpr w) z
        rw [if_pos k3] at hq hfin
        refine yz_275 hs hb31 (by omega) (hfin _ _ ((8 * n + pm_w k) :: ct_v (sz_b k (pm_va D v) (sz_S K R D))) ?_ ?_ rfl)
        · rw [← Nat.add_assoc]
          exact cp_app [8 * n + pm_w k] _ Q1 (500 * s + q1)
        · rw [List.length_cons]; omega
    have h232 : ∀ x8 : Int32, wY_write_232 post J (nI s) (nI d) (nI a) (nI n) (nI v) (nI k + (-1)) 0 x8 yf_down yf_heads yf_paid yf_payload yf_wants yf_name yf_first yf_counts yf_enters yf_most yf_many yf_sent yf_last yf_nodes (nI (pm_nv D)) yf_skipped yf_pos yf_there yf_number yf_at ya_kind ya_repeated ya_how ya_code ya_coming ya_going ya_type ya_headers ya_header (an_f (pm_u ql s (q1 + 1))) ya_otherEnded ya_ended ya_finishing (an_g (ct_put Q1 (500 * s + q1) [8 * n + pm_w k])) ya_prefix ya_length ya_got ya_high ya_whole ya_has (an_g tx) ya_frame ya_payloads ya_table ya_out ya_nodeType ya_valueNode ya_valueNumber ya_value ya_from (lim) (ins) ya_sizes := by
      intro x8
      unfold wY_write_232
      rw [← hkk]
      refine br_t rfl (zy_v hK.1 hD I hL hv e1 e2 hSa ?_)
      rw [hkk]
      exact h269 x8
    have h189 : ∀ x8 : Int32, wY_write_189 post J (nI s) (nI d) (nI a) (nI n) (nI v) (nI k + (-1)) 0 x8 yf_down yf_heads yf_paid yf_payload yf_wants yf_name yf_first yf_counts yf_enters yf_most yf_many yf_sent yf_last yf_nodes (nI (pm_nv D)) yf_skipped yf_pos yf_there yf_number yf_at ya_kind ya_repeated ya_how ya_code ya_coming ya_going ya_type ya_headers ya_header (an_f (pm_u ql s q1)) ya_otherEnded ya_ended ya_finishing (an_g Q1) ya_prefix ya_length ya_got ya_high ya_whole ya_has (an_g tx) ya_frame ya_payloads ya_table ya_out ya_nodeType ya_valueNode ya_valueNumber ya_value ya_from (lim) (ins) ya_sizes := by
      intro x8
      unfold wY_write_189
      refine br_c (fun z => br_t rfl ?_) (fun z => ?_)
      · have k3 := yk.1.mp z
        have ew : pm_w k = 5 := by unfold pm_w; rw [if_neg (by omega), if_pos k3]
        have h := h232 x8
        rw [ew] at h
        exact yz_227 (t := 5) hs hn (by omega) rfl (by omega) h
      · have k3 : k ≠ 3 := fun w => z (yk.1.mpr w)
        unfold wY_write_211
        refine br_c (fun z2 => ?_) (fun z2 => br_t rfl ?_)
        · have k4 := yk5.2.mp z2
          have ew : pm_w k = 2 := by unfold pm_w; rw [if_neg (by omega), if_neg k3]
          have h := h232 x8
          rw [ew] at h
          unfold wY_write_222
          exact yz_227 (t := 2) hs hn (by omega) rfl (by omega) h
        · have k4 : k ≤ 3 := by
            rcases Nat.lt_or_ge 3 k with w | w
            · exact absurd (yk5.2.mpr w) z2
            · exact w
          have ew : pm_w k = 0 := by unfold pm_w; rw [if_pos (by omega)]
          have h := h232 x8
          rw [ew] at h
          exact yz_227 (t := 0) hs hn (by omega) rfl (by omega) h
    have h158 : wY_write_158 post J (nI s) (nI d) (nI a) (nI n) (nI v) (nI k + (-1)) 0 yf_down yf_heads yf_paid yf_payload yf_wants yf_name yf_first yf_counts yf_enters yf_most yf_many yf_sent yf_last yf_nodes (nI (pm_nv D)) yf_skipped yf_pos yf_there yf_number yf_at ya_kind ya_repeated ya_how ya_code ya_coming ya_going ya_type ya_headers ya_header (an_f (pm_u ql s q1)) ya_otherEnded ya_ended ya_finishing (an_g Q1) ya_prefix ya_length ya_got ya_high ya_whole ya_has (an_g tx) ya_frame ya_payloads ya_table ya_out ya_nodeType ya_valueNode ya_valueNumber ya_value ya_from (lim) (ins) ya_sizes := by
      unfold wY_write_158
      refine hfind ?_
      unfold wY_write_177
      exact br_c (fun _ => br_t rfl (h189 1)) (fun _ => br_t rfl (h189 0))
    refine br_c (fun z => ?_) (fun z => br_c (fun z2 => ?_) (fun z2 => ?_))
    · unfold wY_write_157; exact h158
    · unfold wY_write_157; exact h158
    · exfalso
      rw [hrep] at z2
      refine p ⟨?_, ?_⟩
      · rcases Nat.lt_or_ge k 4 with w | w
        · exact w
        · exact absurd (yk.2.2.2.1.mpr w) z
      · by_cases hr : R (sz_j D a n) = true
        · exact hr
        · rw [if_neg hr] at z2; exact absurd rfl z2
end
