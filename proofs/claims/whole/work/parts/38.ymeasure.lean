/-! Z8: the reference's measure -/
section
theorem zy_k2 : ∀ k, k ≤ 8 → (nI k + (-1) ≤ 2 ↔ k ≤ 3) := by decide +kernel
variable {K : Nat → Nat} {R : Nat → Bool} {L : Nat} {dep : Nat → Nat} {D : pm_D} {a n : Nat} {S : Nat → Nat}
theorem sz_sm_1 {h : Nat → Nat} : ∀ c j, j < c → pm_vn D j = a → pm_vm D j = n → h j ≤ sz_sm D a n h c
  | 0, j, hj, _, _ => absurd hj (by omega)
  | c + 1, j, hj, z1, z2 => by
    rw [sz_sm]
    by_cases z : j = c
    · subst z
      rw [if_pos ⟨z1, z2⟩]; omega
    · have := sz_sm_1 (h := h) c j (by omega) z1 z2
      omega
theorem sz_sm_0 {h : Nat → Nat} : ∀ c, (∀ j, j < c → ¬ (pm_vn D j = a ∧ pm_vm D j = n)) → sz_sm D a n h c = 0
  | 0, _ => rfl
  | c + 1, H => by
    rw [sz_sm, if_neg (H c (by omega)), sz_sm_0 c (fun j hj => H j (by omega))]
theorem pm_ix_s (h : pm_ix D a n < pm_nv D) : pm_vn D (pm_ix D a n) = a ∧ pm_vm D (pm_ix D a n) = n :=
  (pm_fi_s (vn := pm_vn D) (vm := pm_vm D) (a := a) (n := n) (pm_nv D) 0).2.2.1 (by unfold pm_ix at h; omega)
theorem pm_ix_n (h : ¬ pm_ix D a n < pm_nv D) : ∀ j, j < pm_nv D → ¬ (pm_vn D j = a ∧ pm_vm D j = n) :=
  fun j hj => (pm_fi_s (vn := pm_vn D) (vm := pm_vm D) (a := a) (n := n) (pm_nv D) 0).2.2.2 j (by omega) (by unfold pm_ix at h; omega)
theorem sz_w1 {x : Nat} (h : x < 128) : sz_w x = 1 := by
  unfold sz_w
  rw [sz_wd, if_pos (by omega)]
variable {yf_down yf_heads yf_paid yf_payload yf_wants yf_name yf_first yf_counts yf_enters yf_most yf_many yf_sent yf_last yf_nodes yf_values yf_skipped yf_pos yf_there yf_number yf_at : Int32} {ya_kind ya_repeated ya_how ya_code ya_coming ya_going ya_type ya_headers ya_header ya_queued ya_otherEnded ya_ended ya_finishing ya_queue ya_prefix ya_length ya_got ya_high ya_whole ya_has ya_bytes ya_frame ya_payloads ya_table ya_out ya_nodeType ya_valueNode ya_valueNumber ya_value ya_from ya_limit ya_inside ya_sizes : Nat → Int32}
theorem zy_v {post : Int32 → Prop} {j : Nat} (hK8 : ∀ j, K j ≤ 8) (hD : yr_D D ya_nodeType ya_valueNode ya_valueNumber ya_value ya_from) (I : pm_DI K L dep D) (hL : L ≤ 200) (hj : j < pm_nv D) (e1 : pm_vn D j = a) (e2 : pm_vm D j = n)
    (hS : ∀ m, a < m → m < pm_nn D → ya_sizes m = nI (S m)) (H : post (nI (sz_b (K (sz_j D a n)) (pm_va D j) S))) : wpY_widthOf post (yf_down, yf_heads, yf_paid, yf_payload, yf_wants, yf_name, yf_first, yf_counts, yf_enters, yf_most, yf_many, yf_sent, yf_last, yf_nodes, yf_values, yf_skipped, yf_pos, yf_there, yf_number, yf_at, ya_kind, ya_repeated, ya_how, ya_code, ya_coming, ya_going, ya_type, ya_headers, ya_header, ya_queued, ya_otherEnded, ya_ended, ya_finishing, ya_queue, ya_prefix, ya_length, ya_got, ya_high, ya_whole, ya_has, ya_bytes, ya_frame, ya_payloads, ya_table, ya_out, ya_nodeType, ya_valueNode, ya_valueNumber, ya_value, ya_from, ya_limit, ya_inside, ya_sizes) (nI (K (sz_j D a n)) + (-1)) (nI j) := by
  have hnv := I.2.2.1
  have hnn := I.2.1
  obtain ⟨v1, v2, v3, v4, v5, v6⟩ := I.2.2.2.2.2.1 j hj
  rw [sz_kk e1 e2] at v4 v5 v6
  obtain ⟨_, _, w3, _⟩ := hD.2 j hj
  refine zy_of (S := S) (by omega) (hK8 _) v4 (fun z => ?_) (fun z => ?_) (by rw [w3]; exact H)
  · obtain ⟨m, m1, m2⟩ := v5 z
    exact ⟨m, by omega, by rw [w3, m1]⟩
  · obtain ⟨m, m1, m2, m3, m4⟩ := v6 z
    exact ⟨m, by omega, by rw [w3, m1], hS m (by omega) m3⟩
theorem zy_r6 {post : Int32 → Prop} (hK8 : ∀ j, K j ≤ 8) (hD : yr_D D ya_nodeType ya_valueNode ya_valueNumber ya_value ya_from) (I : pm_DI K L dep D) (hL : L ≤ 200) (ha : a < 16) (hn : n ≤ 15)
    (hS : ∀ m, a < m → m < pm_nn D → ya_sizes m = nI (S m)) (H : post (nI (sz_row K D S a n))) : ∀ f i, i + f = pm_nv D →
    wY_rowWidth_6 post (nI a) (nI n) (nI (K (sz_j D a n)) + (-1)) yf_down yf_heads yf_paid yf_payload yf_wants yf_name yf_first yf_counts yf_enters yf_most yf_many yf_sent yf_last yf_nodes (nI (pm_nv D)) yf_skipped yf_pos yf_there yf_number yf_at ya_kind ya_repeated ya_how ya_code ya_coming ya_going ya_type ya_headers ya_header ya_queued ya_otherEnded ya_ended ya_finishing ya_queue ya_prefix ya_length ya_got ya_high ya_whole ya_has ya_bytes ya_frame ya_payloads ya_table ya_out ya_nodeType ya_valueNode ya_valueNumber ya_value ya_from ya_limit ya_inside ya_sizes (f + 1) (nI (sz_sm D a n (fun j => sz_b (K (sz_j D a n)) (pm_va D j) S) i)) (nI i)
  | 0, i, hi => by
    have hnv := I.2.2.1
    have : i = pm_nv D := by omega
    subst this
    rw [wY_rowWidth_6]
    exact pk_le (pm_nv D) (pm_nv D) (fun _ => H) (fun g => absurd g (by omega))
  | f + 1, i, hi => by
    have hnv := I.2.2.1
    have hnn := I.2.1
    rw [wY_rowWidth_6]
    have in48 : vp_in (nI i) 48 := vp_in_nI (by omega) (by omega)
    have cl : (nI i).toNatClampNeg = i := nI_clamp (by omega)
    refine pk_le (pm_nv D) i (fun g => absurd g (by omega)) (fun g => ⟨in48, ?_⟩)
    obtain ⟨b1, b2⟩ := xr_DB I i g
    have ih := zy_r6 hK8 hD I hL ha hn hS H f (i + 1) (by omega)
    rw [sz_sm] at ih
    rw [cl, (hD.2 i g).1, (hD.2 i g).2.1]
    refine pk_eq (pm_vn D i) a (fun z1 => ⟨in48, pk_eq (pm_vm D i) n (fun z2 => ?_) (fun z2 => ?_)⟩) (fun z1 => ?_)
    · rw [if_pos ⟨z1, z2⟩] at ih
      exact zy_v hK8 hD I hL g z1 z2 hS (nm_r (nI_add _ _) (nm_r (nI_1 _) ih))
    · rw [if_neg (fun z => z2 z.2), Nat.add_zero] at ih
      exact nm_r (nI_1 _) ih
    · rw [if_neg (fun z => z1 z.1), Nat.add_zero] at ih
      exact nm_r (nI_1 _) ih
theorem zy_row {post : Int32 → Prop} (hK8 : ∀ j, K j ≤ 8) (hD : yr_D D ya_nodeType ya_valueNode ya_valueNumber ya_value ya_from) (I : pm_DI K L dep D) (hL : L ≤ 200) (ha : a < 16) (hn : n ≤ 15)
    (hS : ∀ m, a < m → m < pm_nn D → ya_sizes m = nI (S m)) (H : post (nI (sz_row K D S a n))) : wpY_rowWidth post (yf_down, yf_heads, yf_paid, yf_payload, yf_wants, yf_name, yf_first, yf_counts, yf_enters, yf_most, yf_many, yf_sent, yf_last, yf_nodes, nI (pm_nv D), yf_skipped, yf_pos, yf_there, yf_number, yf_at, ya_kind, ya_repeated, ya_how, ya_code, ya_coming, ya_going, ya_type, ya_headers, ya_header, ya_queued, ya_otherEnded, ya_ended, ya_finishing, ya_queue, ya_prefix, ya_length, ya_got, ya_high, ya_whole, ya_has, ya_bytes, ya_frame, ya_payloads, ya_table, ya_out, ya_nodeType, ya_valueNode, ya_valueNumber, ya_value, ya_from, ya_limit, ya_inside, ya_sizes) (nI a) (nI n) (nI (K (sz_j D a n)) + (-1)) := by
  unfold wpY_rowWidth
  exact ⟨pm_nv D + 1, zy_r6 hK8 hD I hL ha hn hS H (pm_nv D) 0 (by omega)⟩
theorem zy_w {post : Int32 → Prop} {x : Nat} (hx : x < 2 ^ 32) (H : post (nI (sz_w x))) : wpY_width post (nI x) := zy_width (by rw [pk_tn hx]; exact H)
theorem zy_w8 {post : Int32 → Prop} (hn : n ≤ 15) (H : post 1) : wpY_width post (8 * nI n) := by
  rw [show (8 : Int32) = nI 8 from rfl, pk_mul]
  refine zy_w (by omega) ?_
  rw [sz_w1 (by omega)]; exact H
theorem zy_120e {post : SY → Prop} {J7 : Int32 → (Nat → Int32) → (Nat → Int32) → (Nat → Int32) → (Nat → Int32) → (Nat → Int32) → (Nat → Int32) → (Nat → Int32) → (Nat → Int32) → (Nat → Int32) → (Nat → Int32) → (Nat → Int32) → (Nat → Int32) → (Nat → Int32) → (Nat → Int32) → (Nat → Int32) → (Nat → Int32) → (Nat → Int32) → (Nat → Int32) → (Nat → Int32) → (Nat → Int32) → (Nat → Int32) → (Nat → Int32) → (Nat → Int32) → (Nat → Int32) → (Nat → Int32) → (Nat → Int32) → (Nat → Int32) → (Nat → Int32) → (Nat → Int32) → (Nat → Int32) → (Nat → Int32) → (Nat → Int32) → (Nat → Int32) → Prop} {J : Int32 → Int32 → Prop} {x1 x2 x4 x6 : Int32} (h6 : ¬ x6 = 0) (H : J x2 (nI (n + 1))) :
    wY_measure_120 post J7 J x1 (nI n) x4 x6 yf_down yf_heads yf_paid yf_payload yf_wants yf_name yf_first yf_counts yf_enters yf_most yf_many yf_sent yf_last yf_nodes yf_values yf_skipped yf_pos yf_there yf_number yf_at ya_kind ya_repeated ya_how ya_code ya_coming ya_going ya_type ya_headers ya_header ya_queued ya_otherEnded ya_ended ya_finishing ya_queue ya_prefix ya_length ya_got ya_high ya_whole ya_has ya_bytes ya_frame ya_payloads ya_table ya_out ya_nodeType ya_valueNode ya_valueNumber ya_value ya_from ya_limit ya_inside ya_sizes 1 x2 0 := by
  rw [wY_measure_120]
  exact br_c (fun _ => nm_r (nI_1 _) H) (fun _ => br_f h6 (nm_r (nI_1 _) H))
theorem zy_120 {post : SY → Prop} {J7 : Int32 → (Nat → Int32) → (Nat → Int32) → (Nat → Int32) → (Nat → Int32) → (Nat → Int32) → (Nat → Int32) → (Nat → Int32) → (Nat → Int32) → (Nat → Int32) → (Nat → Int32) → (Nat → Int32) → (Nat → Int32) → (Nat → Int32) → (Nat → Int32) → (Nat → Int32) → (Nat → Int32) → (Nat → Int32) → (Nat → Int32) → (Nat → Int32) → (Nat → Int32) → (Nat → Int32) → (Nat → Int32) → (Nat → Int32) → (Nat → Int32) → (Nat → Int32) → (Nat → Int32) → (Nat → Int32) → (Nat → Int32) → (Nat → Int32) → (Nat → Int32) → (Nat → Int32) → (Nat → Int32) → (Nat → Int32) → Prop} {J : Int32 → Int32 → Prop} {w : Nat} (hK : cr_K ya_kind ya_repeated K R) (hD : yr_D D ya_nodeType ya_valueNode ya_valueNumber ya_value ya_from) (I : pm_DI K L dep D) (hL : L ≤ 200) (ha : a < pm_nn D) (h1 : 1 ≤ n) (hn : n ≤ 15)
    (hp : ¬ (K (sz_j D a n) < 4 ∧ R (sz_j D a n) = true))
    (hS : ∀ m, a < m → m < pm_nn D → ya_sizes m = nI (sz_S K R D m)) (H : J (nI (w + sz_f K R D (sz_S K R D) a n)) (nI (n + 1))) : ∀ f i, i + f = pm_nv D →
    wY_measure_120 post J7 J (nI a) (nI n) (nI (sz_j D a n)) 0 yf_down yf_heads yf_paid yf_payload yf_wants yf_name yf_first yf_counts yf_enters yf_most yf_many yf_sent yf_last yf_nodes (nI (pm_nv D)) yf_skipped yf_pos yf_there yf_number yf_at ya_kind ya_repeated ya_how ya_code ya_coming ya_going ya_type ya_headers ya_header ya_queued ya_otherEnded ya_ended ya_finishing ya_queue ya_prefix ya_length ya_got ya_high ya_whole ya_has ya_bytes ya_frame ya_payloads ya_table ya_out ya_nodeType ya_valueNode ya_valueNumber ya_value ya_from ya_limit ya_inside ya_sizes (f + 1) (nI (w + sz_sm D a n (fun j => 1 + sz_l (K (sz_j D a n)) (pm_va D j) (sz_S K R D)) i)) (nI i)
  | 0, i, hi => by
    have hnv := I.2.2.1
    have : i = pm_nv D := by omega
    subst this
    rw [wY_measure_120]
    unfold sz_f at H
    rw [if_neg hp] at H
    exact pk_le (pm_nv D) (pm_nv D) (fun _ => nm_r (nI_1 _) H) (fun g => absurd g (by omega))
  | f + 1, i, hi => by
    have hnv := I.2.2.1
    have hnn := I.2.1
    have hty := (I.2.2.2.2.1 a ha).1
    have hj : sz_j D a n < 64 := by unfold sz_j; omega
    rw [wY_measure_120]
    have in48 : vp_in (nI i) 48 := vp_in_nI (by omega) (by omega)
    have in64 : vp_in (nI (sz_j D a n)) 64 := vp_in_nI hj (by omega)
    have cl : (nI i).toNatClampNeg = i := nI_clamp (by omega)
    have cj : (nI (sz_j D a n)).toNatClampNeg = sz_j D a n := nI_clamp (by omega)
    refine pk_le (pm_nv D) i (fun g => absurd g (by omega)) (fun g => br_t rfl ⟨in48, ?_⟩)
    obtain ⟨b1, b2⟩ := xr_DB I i g
    have ih := zy_120 (post := post) (J7 := J7) hK hD I hL ha h1 hn hp hS H f (i + 1) (by omega)
    rw [sz_sm] at ih
    rw [cl, (hD.2 i g).1, (hD.2 i g).2.1, cj, hK.2.1 _ hj]
    refine pk_eq (pm_vn D i) a (fun z1 => ⟨in48, pk_eq (pm_vm D i) n (fun z2 => ⟨in64, ?_⟩) (fun z2 => ?_)⟩) (fun z1 => ?_)
    · rw [if_pos ⟨z1, z2⟩] at ih
      have hb : sz_b (K (sz_j D a n)) (pm_va D i) (sz_S K R D) < 2 ^ 31 := by
        have q1 := (sz_bd_le (R := R) I hL ha h1 hn).2
        unfold sz_f at q1
        rw [if_neg hp] at q1
        have q2 := sz_sm_1 (h := fun j => 1 + sz_l (K (sz_j D a n)) (pm_va D j) (sz_S K R D)) (pm_nv D) i g z1 z2
        have q3 : sz_b (K (sz_j D a n)) (pm_va D i) (sz_S K R D) ≤ sz_l (K (sz_j D a n)) (pm_va D i) (sz_S K R D) := by unfold sz_l; omega
        have q4 : 1 + sz_l (K (sz_j D a n)) (pm_va D i) (sz_S K R D) ≤ sz_sm D a n (fun j => 1 + sz_l (K (sz_j D a n)) (pm_va D j) (sz_S K R D)) (pm_nv D) := q2
        omega
      refine zy_v hK.1 hD I hL g z1 z2 hS (zy_w8 hn ⟨in64, br_c (fun z3 => ?_) (fun z3 => zy_w (by omega) ?_)⟩)
      · have k3 := (zy_k2 _ (hK.1 (sz_j D a n))).mp z3
        have el : sz_l (K (sz_j D a n)) (pm_va D i) (sz_S K R D) = sz_b (K (sz_j D a n)) (pm_va D i) (sz_S K R D) := sz_l_s (by omega)
        rw [el] at ih
        refine nm_r ?_ (nm_r (nI_1 _) ih)
        rw [show (0 : Int32) = nI 0 from rfl, show (1 : Int32) = nI 1 from rfl, nI_add, nI_add, nI_add]
        exact congrArg nI (by omega)
      · have k3 : 3 < K (sz_j D a n) := by
          rcases Nat.lt_or_ge 3 (K (sz_j D a n)) with q | q
          · exact q
          · exact absurd ((zy_k2 _ (hK.1 (sz_j D a n))).mpr q) z3
        have el : sz_l (K (sz_j D a n)) (pm_va D i) (sz_S K R D) = sz_b (K (sz_j D a n)) (pm_va D i) (sz_S K R D) + sz_w (sz_b (K (sz_j D a n)) (pm_va D i) (sz_S K R D)) := by
          unfold sz_l; rw [if_pos k3]
        rw [el] at ih
        refine nm_r ?_ (nm_r (nI_1 _) ih)
        rw [show (1 : Int32) = nI 1 from rfl, nI_add, nI_add, nI_add]
        exact congrArg nI (by omega)
    · rw [if_neg (fun z => z2 z.2), Nat.add_zero] at ih
      exact nm_r (nI_1 _) ih
    · rw [if_neg (fun z => z1 z.1), Nat.add_zero] at ih
      exact nm_r (nI_1 _) ih
theorem zy_15 {post : SY → Prop} {J7 : Int32 → (Nat → Int32) → (Nat → Int32) → (Nat → Int32) → (Nat → Int32) → (Nat → Int32) → (Nat → Int32) → (Nat → Int32) → (Nat → Int32) → (Nat → Int32) → (Nat → Int32) → (Nat → Int32) → (Nat → Int32) → (Nat → Int32) → (Nat → Int32) → (Nat → Int32) → (Nat → Int32) → (Nat → Int32) → (Nat → Int32) → (Nat → Int32) → (Nat → Int32) → (Nat → Int32) → (Nat → Int32) → (Nat → Int32) → (Nat → Int32) → (Nat → Int32) → (Nat → Int32) → (Nat → Int32) → (Nat → Int32) → (Nat → Int32) → (Nat → Int32) → (Nat → Int32) → (Nat → Int32) → (Nat → Int32) → Prop} (hK : cr_K ya_kind ya_repeated K R) (hD : yr_D D ya_nodeType ya_valueNode ya_valueNumber ya_value ya_from) (I : pm_DI K L dep D) (hL : L ≤ 200) (ha : a < pm_nn D)
    (hS : ∀ m, a < m → m < pm_nn D → ya_sizes m = nI (sz_S K R D m))
    (H : ∀ ns : Nat → Int32, (∀ m, a ≤ m → m < pm_nn D → ns m = nI (sz_S K R D m)) → J7 (nI a + (-1)) ya_kind ya_repeated ya_how ya_code ya_coming ya_going ya_type ya_headers ya_header ya_queued ya_otherEnded ya_ended ya_finishing ya_queue ya_prefix ya_length ya_got ya_high ya_whole ya_has ya_bytes ya_frame ya_payloads ya_table ya_out ya_nodeType ya_valueNode ya_valueNumber ya_value ya_from ya_limit ya_inside (ns)) : ∀ f j, j + f = 15 →
    wY_measure_15 post J7 (nI a) yf_down yf_heads yf_paid yf_payload yf_wants yf_name yf_first yf_counts yf_enters yf_most yf_many yf_sent yf_last yf_nodes (nI (pm_nv D)) yf_skipped yf_pos yf_there yf_number yf_at ya_kind ya_repeated ya_how ya_code ya_coming ya_going ya_type ya_headers ya_header ya_queued ya_otherEnded ya_ended ya_finishing ya_queue ya_prefix ya_length ya_got ya_high ya_whole ya_has ya_bytes ya_frame ya_payloads ya_table ya_out ya_nodeType ya_valueNode ya_valueNumber ya_value ya_from ya_limit ya_inside ya_sizes (f + 1) (nI (sz_ns (sz_f K R D (sz_S K R D) a) j)) (nI (j + 1))
  | 0, j, hj => by
    have hnn := I.2.1
    have : j = 15 := by omega
    subst this
    rw [wY_measure_15]
    refine pk_le 16 16 (fun _ => ⟨vp_in_nI (by omega) (by omega), nm_r rfl (nm_r rfl (H _ (fun m g1 g2 => ?_)))⟩) (fun g => absurd g (by omega))
    rw [nI_clamp (by omega)]
    by_cases z : m = a
    · subst z
      rw [pk_us, sz_S_e (R := R) I ha]; rfl
    · rw [pk_un z]; exact hS m (by omega) g2
  | f + 1, j, hj => by
    have hnn := I.2.1
    have hnv := I.2.2.1
    have hty := (I.2.2.2.2.1 a ha).1
    have hj64 : sz_j D a (j + 1) < 64 := by unfold sz_j; omega
    have in64 : vp_in (nI (sz_j D a (j + 1))) 64 := vp_in_nI hj64 (by omega)
    have cj : (nI (sz_j D a (j + 1))).toNatClampNeg = sz_j D a (j + 1) := nI_clamp (by omega)
    have ih := zy_15 (post := post) hK hD I hL ha hS H f (j + 1) (by omega)
    rw [sz_ns] at ih
    rw [wY_measure_15]
    refine pk_le 16 (j + 1) (fun g => absurd g (by omega)) (fun g => ⟨vp_in_nI (by omega) (by omega), nm_r (e' := nI (sz_j D a (j + 1))) ?_ ?_⟩)
    · rw [nI_clamp (by omega), hD.1 a ha, show (16 : Int32) = nI 16 from rfl, pk_mul, nI_add]; rfl
    refine yr_find hD hnv (fun i hi => by have := xr_DB I i hi; omega) (by omega) (by omega) ?_
    by_cases hx : pm_ix D a (j + 1) < pm_nv D
    · rw [if_pos hx]
      refine br_t (nI_pos' (by omega)) ⟨in64, ?_⟩
      rw [cj, hK.2.1 _ hj64, hK.2.2 _ hj64]
      have hw : ∀ (p : ¬ (K (sz_j D a (j + 1)) < 4 ∧ R (sz_j D a (j + 1)) = true)), wY_measure_75 post J7 (wY_measure_15 post J7 (nI a) yf_down yf_heads yf_paid yf_payload yf_wants yf_name yf_first yf_counts yf_enters yf_most yf_many yf_sent yf_last yf_nodes (nI (pm_nv D)) yf_skipped yf_pos yf_there yf_number yf_at ya_kind ya_repeated ya_how ya_code ya_coming ya_going ya_type ya_headers ya_header ya_queued ya_otherEnded ya_ended ya_finishing ya_queue ya_prefix ya_length ya_got ya_high ya_whole ya_has ya_bytes ya_frame ya_payloads ya_table ya_out ya_nodeType ya_valueNode ya_valueNumber ya_value ya_from ya_limit ya_inside ya_sizes (f + 1)) (nI a) (nI (sz_ns (sz_f K R D (sz_S K R D) a) j)) (nI (j + 1)) (nI (sz_j D a (j + 1))) yf_down yf_heads yf_paid yf_payload yf_wants yf_name yf_first yf_counts yf_enters yf_most yf_many yf_sent yf_last yf_nodes (nI (pm_nv D)) yf_skipped yf_pos yf_there yf_number yf_at ya_kind ya_repeated ya_how ya_code ya_coming ya_going ya_type ya_headers ya_header ya_queued ya_otherEnded ya_ended ya_finishing ya_queue ya_prefix ya_length ya_got ya_high ya_whole ya_has ya_bytes ya_frame ya_payloads ya_table ya_out ya_nodeType ya_valueNode ya_valueNumber ya_value ya_from ya_limit ya_inside ya_sizes := by
        intro p
        unfold wY_measure_75 wY_measure_76
        exact br_t rfl ⟨pm_nv D + 1, zy_120 hK hD I hL ha (by omega) (by omega) p hS ih (pm_nv D) 0 (by omega)⟩
      refine br_c (fun z => hw (fun p => ?_)) (fun z => ⟨in64, ?_⟩)
      · have := (yr_k _ (hK.1 _)).2.2.2.1.mp z
        omega
      · have k4 : K (sz_j D a (j + 1)) < 4 := by
          rcases Nat.lt_or_ge (K (sz_j D a (j + 1))) 4 with q | q
          · exact q
          · exact absurd ((yr_k _ (hK.1 _)).2.2.2.1.mpr q) z
        by_cases hr : R (sz_j D a (j + 1)) = true
        · rw [if_pos hr]
          refine br_f (by decide) ?_
          have hbd := sz_bd_le (R := R) I hL ha (show 1 ≤ j + 1 by omega) (show j + 1 ≤ 15 by omega)
          rw [sz_bd_r k4] at hbd
          have hr0 : sz_row K D (sz_S K R D) a (j + 1) ≠ 0 := by
            have q1 := sz_sm_1 (D := D) (a := a) (n := j + 1) (h := fun i => sz_b (K (sz_j D a (j + 1))) (pm_va D i) (sz_S K R D)) (pm_nv D) (pm_ix D a (j + 1)) hx (pm_ix_s hx).1 (pm_ix_s hx).2
            have q2 : 1 ≤ sz_b (K (sz_j D a (j + 1))) (pm_va D (pm_ix D a (j + 1))) (sz_S K R D) := by
              refine sz_b_1 ?_ k4
              rw [← sz_kk (K := K) (pm_ix_s hx).1 (pm_ix_s hx).2]
              exact (I.2.2.2.2.2.1 _ hx).2.2.2.1
            have q3 : sz_b (K (sz_j D a (j + 1))) (pm_va D (pm_ix D a (j + 1))) (sz_S K R D) ≤ sz_row K D (sz_S K R D) a (j + 1) := q1
            omega
          have ef : sz_f K R D (sz_S K R D) a (j + 1) = 1 + sz_w (sz_row K D (sz_S K R D) a (j + 1)) + sz_row K D (sz_S K R D) a (j + 1) := by
            unfold sz_f
            rw [if_pos ⟨k4, hr⟩, if_neg hr0]
          unfold wY_measure_76
          refine br_f (by decide) ⟨in64, ?_⟩
          rw [cj, hK.2.1 _ hj64]
          refine zy_row hK.1 hD I hL (by omega) (by omega) hS (zy_w8 (by omega) (zy_w (by omega) (nm_r (e' := nI (sz_ns (sz_f K R D (sz_S K R D) a) j + sz_f K R D (sz_S K R D) a (j + 1))) ?_ ⟨1, zy_120e (by decide) ih⟩)))
          rw [show (1 : Int32) = nI 1 from rfl, nI_add, nI_add, nI_add, ef]
        · rw [if_neg hr]
          exact br_t rfl (hw (fun p => hr p.2))
    · rw [if_neg hx]
      have e0 : sz_f K R D (sz_S K R D) a (j + 1) = 0 := by
        have hno := pm_ix_n (D := D) (a := a) (n := j + 1) hx
        unfold sz_f sz_row
        rw [sz_sm_0 _ hno, sz_sm_0 _ hno]
        split <;> rfl
      rw [e0, Nat.add_zero] at ih
      exact br_f (by decide) (nm_r (nI_1 _) ih)
theorem zy_7 {post : SY → Prop} (hK : cr_K ya_kind ya_repeated K R) (hD : yr_D D ya_nodeType ya_valueNode ya_valueNumber ya_value ya_from) (I : pm_DI K L dep D) (hL : L ≤ 200)
    (H : ∀ ns : Nat → Int32, (∀ m, m < pm_nn D → ns m = nI (sz_S K R D m)) → post (yf_down, yf_heads, yf_paid, yf_payload, yf_wants, yf_name, yf_first, yf_counts, yf_enters, yf_most, yf_many, yf_sent, yf_last, yf_nodes, nI (pm_nv D), yf_skipped, yf_pos, yf_there, yf_number, yf_at, ya_kind, ya_repeated, ya_how, ya_code, ya_coming, ya_going, ya_type, ya_headers, ya_header, ya_queued, ya_otherEnded, ya_ended, ya_finishing, ya_queue, ya_prefix, ya_length, ya_got, ya_high, ya_whole, ya_has, ya_bytes, ya_frame, ya_payloads, ya_table, ya_out, ya_nodeType, ya_valueNode, ya_valueNumber, ya_value, ya_from, ya_limit, ya_inside, ns)) : ∀ b ns, b ≤ pm_nn D → (∀ m, b ≤ m → m < pm_nn D → ns m = nI (sz_S K R D m)) →
    wY_measure_7 post yf_down yf_heads yf_paid yf_payload yf_wants yf_name yf_first yf_counts yf_enters yf_most yf_many yf_sent yf_last yf_nodes (nI (pm_nv D)) yf_skipped yf_pos yf_there yf_number yf_at (b + 1) (nI b + (-1)) ya_kind ya_repeated ya_how ya_code ya_coming ya_going ya_type ya_headers ya_header ya_queued ya_otherEnded ya_ended ya_finishing ya_queue ya_prefix ya_length ya_got ya_high ya_whole ya_has ya_bytes ya_frame ya_payloads ya_table ya_out ya_nodeType ya_valueNode ya_valueNumber ya_value ya_from ya_limit ya_inside (ns)
  | 0, ns, hb, h1 => by
    rw [wY_measure_7]
    exact br_t (by decide) (H ns (fun m hm => h1 m (by omega) hm))
  | b + 1, ns, hb, h1 => by
    have hnn := I.2.1
    rw [wY_measure_7, pk_m1]
    exact br_f (nI_pos (by omega)) ⟨16, zy_15 hK hD I hL (by omega) (fun m g1 g2 => h1 m (by omega) g2) (fun ns' h' => zy_7 hK hD I hL H b ns' (by omega) h') 15 0 rfl⟩
theorem zy_measure {post : SY → Prop} (hK : cr_K ya_kind ya_repeated K R) (hD : yr_D D ya_nodeType ya_valueNode ya_valueNumber ya_value ya_from) (I : pm_DI K L dep D) (hL : L ≤ 200) (h1 : yf_nodes = nI (pm_nn D)) (h2 : yf_values = nI (pm_nv D))
    (H : ∀ ns : Nat → Int32, (∀ m, m < pm_nn D → ns m = nI (sz_S K R D m)) → post (yf_down, yf_heads, yf_paid, yf_payload, yf_wants, yf_name, yf_first, yf_counts, yf_enters, yf_most, yf_many, yf_sent, yf_last, yf_nodes, yf_values, yf_skipped, yf_pos, yf_there, yf_number, yf_at, ya_kind, ya_repeated, ya_how, ya_code, ya_coming, ya_going, ya_type, ya_headers, ya_header, ya_queued, ya_otherEnded, ya_ended, ya_finishing, ya_queue, ya_prefix, ya_length, ya_got, ya_high, ya_whole, ya_has, ya_bytes, ya_frame, ya_payloads, ya_table, ya_out, ya_nodeType, ya_valueNode, ya_valueNumber, ya_value, ya_from, ya_limit, ya_inside, ns)) : wpY_measure post (yf_down, yf_heads, yf_paid, yf_payload, yf_wants, yf_name, yf_first, yf_counts, yf_enters, yf_most, yf_many, yf_sent, yf_last, yf_nodes, yf_values, yf_skipped, yf_pos, yf_there, yf_number, yf_at, ya_kind, ya_repeated, ya_how, ya_code, ya_coming, ya_going, ya_type, ya_headers, ya_header, ya_queued, ya_otherEnded, ya_ended, ya_finishing, ya_queue, ya_prefix, ya_length, ya_got, ya_high, ya_whole, ya_has, ya_bytes, ya_frame, ya_payloads, ya_table, ya_out, ya_nodeType, ya_valueNode, ya_valueNumber, ya_value, ya_from, ya_limit, ya_inside, ya_sizes) := by
  subst h2
  unfold wpY_measure
  refine nm_r (e' := nI (pm_nn D) + (-1)) (by rw [h1, Int32.sub_eq_add_neg]) ⟨pm_nn D + 1, ?_⟩
  exact zy_7 hK hD I hL H (pm_nn D) _ (Nat.le_refl _) (fun m g1 g2 => absurd g1 (by omega))
end
