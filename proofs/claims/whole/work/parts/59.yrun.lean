/-! W4: the reference writes a message -/
section
variable {yf_down yf_heads yf_paid yf_payload yf_wants yf_name yf_first yf_counts yf_enters yf_most yf_many yf_sent yf_last yf_nodes yf_values yf_skipped yf_pos yf_there yf_number yf_at : Int32} {ya_kind ya_repeated ya_how ya_code ya_coming ya_going ya_type ya_headers ya_header ya_queued ya_otherEnded ya_ended ya_finishing ya_queue ya_prefix ya_length ya_got ya_high ya_whole ya_has ya_bytes ya_frame ya_payloads ya_table ya_out ya_nodeType ya_valueNode ya_valueNumber ya_value ya_from ya_limit ya_inside ya_sizes : Nat → Int32} {K : Nat → Nat} {R : Nat → Bool} {L : Nat} {dep : Nat → Nat} {D : pm_D} {s : Nat} {ql : Nat → Nat} {tx B : Nat → Nat}
theorem yz_top {post : SY → Prop} {a d c fu : Nat} {lim ins : Nat → Int32} {Q1 : Nat → Nat} {q1 : Nat} (hs : s < 8) (hB : yr_B tx s B) (hK : cr_K ya_kind ya_repeated K R) (hD : yr_D D ya_nodeType ya_valueNode ya_valueNumber ya_value ya_from) (I : pm_DI K L dep D) (hL : L ≤ 200)
    (hS : ∀ m, m < pm_nn D → ya_sizes m = nI (sz_S K R D m)) (ha : a < pm_nn D) (hd : d ≤ 3) (hc : c < 768) (hlim : lim d = nI c) (hins : ins d = nI a)
    (hq : q1 + (em B K R D (ct_S B K R D) a (c / 48) (c % 48)).length ≤ 500)
    (H0 : ¬ (c % 48 < pm_nv D ∧ pm_vn D (c % 48) = a ∧ pm_vm D (c % 48) = c / 48 ∧ 4 < K (sz_j D a (c / 48))) → ∀ l, l = em B K R D (ct_S B K R D) a (c / 48) (c % 48) → wY_write_17 post (nI s) fu (nI d) yf_down yf_heads yf_paid yf_payload yf_wants yf_name yf_first yf_counts yf_enters yf_most yf_many yf_sent yf_last yf_nodes (nI (pm_nv D)) yf_skipped yf_pos yf_there yf_number yf_at ya_kind ya_repeated ya_how ya_code ya_coming ya_going ya_type ya_headers ya_header (an_f (pm_u ql s (q1 + l.length))) ya_otherEnded ya_ended ya_finishing (an_g (ct_put Q1 (500 * s + q1) l)) ya_prefix ya_length ya_got ya_high ya_whole ya_has (an_g tx) ya_frame ya_payloads ya_table ya_out ya_nodeType ya_valueNode ya_valueNumber ya_value ya_from (upd lim d (nI (c + 1))) (ins) ya_sizes)
    (Hp : (c % 48 < pm_nv D ∧ pm_vn D (c % 48) = a ∧ pm_vm D (c % 48) = c / 48 ∧ 4 < K (sz_j D a (c / 48))) → ∀ m pre, pm_va D (c % 48) = nI m → m < pm_nn D → dep m = dep a + 1 → em B K R D (ct_S B K R D) a (c / 48) (c % 48) = pre ++ ct_S B K R D m → wY_write_17 post (nI s) fu (nI (d + 1)) yf_down yf_heads yf_paid yf_payload yf_wants yf_name yf_first yf_counts yf_enters yf_most yf_many yf_sent yf_last yf_nodes (nI (pm_nv D)) yf_skipped yf_pos yf_there yf_number yf_at ya_kind ya_repeated ya_how ya_code ya_coming ya_going ya_type ya_headers ya_header (an_f (pm_u ql s (q1 + pre.length))) ya_otherEnded ya_ended ya_finishing (an_g (ct_put Q1 (500 * s + q1) pre)) ya_prefix ya_length ya_got ya_high ya_whole ya_has (an_g tx) ya_frame ya_payloads ya_table ya_out ya_nodeType ya_valueNode ya_valueNumber ya_value ya_from (upd (upd lim d (nI (c + 1))) (d + 1) 48) (upd ins (d + 1) (nI m)) ya_sizes) :
    wY_write_17 post (nI s) (fu + 1) (nI d) yf_down yf_heads yf_paid yf_payload yf_wants yf_name yf_first yf_counts yf_enters yf_most yf_many yf_sent yf_last yf_nodes (nI (pm_nv D)) yf_skipped yf_pos yf_there yf_number yf_at ya_kind ya_repeated ya_how ya_code ya_coming ya_going ya_type ya_headers ya_header (an_f (pm_u ql s q1)) ya_otherEnded ya_ended ya_finishing (an_g Q1) ya_prefix ya_length ya_got ya_high ya_whole ya_has (an_g tx) ya_frame ya_payloads ya_table ya_out ya_nodeType ya_valueNode ya_valueNumber ya_value ya_from (lim) (ins) ya_sizes := by
  have hnv := I.2.2.1
  have hnn := I.2.1
  have in5 : vp_in (nI d) 5 := vp_in_nI (by omega) (by omega)
  have cd : (nI d).toNatClampNeg = d := nI_clamp (by omega)
  have e1 : nI c / 48 = nI (c / 48) := pk_div (by omega) (d := 48) (by omega) (by omega)
  have e2 : nI c - nI c / 48 * 48 = nI (c % 48) := pk_rem (by omega) (d := 48) (by omega) (by omega)
  have HN : ¬ (c % 48 < pm_nv D ∧ pm_vn D (c % 48) = a ∧ pm_vm D (c % 48) = c / 48) → wY_write_17 post (nI s) fu (nI d) yf_down yf_heads yf_paid yf_payload yf_wants yf_name yf_first yf_counts yf_enters yf_most yf_many yf_sent yf_last yf_nodes (nI (pm_nv D)) yf_skipped yf_pos yf_there yf_number yf_at ya_kind ya_repeated ya_how ya_code ya_coming ya_going ya_type ya_headers ya_header (an_f (pm_u ql s q1)) ya_otherEnded ya_ended ya_finishing (an_g Q1) ya_prefix ya_length ya_got ya_high ya_whole ya_has (an_g tx) ya_frame ya_payloads ya_table ya_out ya_nodeType ya_valueNode ya_valueNumber ya_value ya_from (upd lim d (nI (c + 1))) (ins) ya_sizes := by
    intro h
    exact H0 (fun q => h ⟨q.1, q.2.1, q.2.2.1⟩) [] (by unfold em; rw [if_neg h])
  rw [wY_write_17]
  dsimp only
  rw [cd, hlim, hins, e2, e1, nI_1]
  refine br_f (nI_pos (by omega)) ⟨in5, nm_e ⟨in5, by decide, nm_e ⟨in5, by decide, nm_e ⟨in5, in5, nm_e ?_⟩⟩⟩⟩
  refine pk_le (c / 48) 15 (fun hn => pk_le (pm_nv D) (c % 48) (fun w => HN (fun q => by omega)) (fun hv => ?_)) (fun w => by omega)
  have in48 : vp_in (nI (c % 48)) 48 := vp_in_nI (by omega) (by omega)
  have cv : (nI (c % 48)).toNatClampNeg = c % 48 := nI_clamp (by omega)
  obtain ⟨w1, w2, w3, w4⟩ := hD.2 (c % 48) hv
  obtain ⟨x1, x2⟩ := xr_DB I (c % 48) hv
  rw [cv, w1, w2]
  refine ⟨in48, pk_eq (pm_vn D (c % 48)) a (fun z1 => ⟨in48, pk_eq (pm_vm D (c % 48)) (c / 48) (fun z2 => ?_) (fun z2 => HN (fun q => z2 q.2.2))⟩) (fun z1 => HN (fun q => z1 q.2.1))⟩
  have em1 : em B K R D (ct_S B K R D) a (c / 48) (c % 48) = em_h B K R D (ct_S B K R D) a (c / 48) (c % 48) := by unfold em; rw [if_pos ⟨hv, z1, z2⟩]
  have hty := (I.2.2.2.2.1 a ha).1
  have hjj : sz_j D a (c / 48) < 64 := by
    unfold sz_j
    omega
  have ca : (nI a).toNatClampNeg = a := nI_clamp (by omega)
  have ej : 16 * nI (pm_nt D a) + nI (c / 48) = nI (sz_j D a (c / 48)) := by rw [show (16 : Int32) = nI 16 from rfl, pk_mul, nI_add]; rfl
  have cj : (nI (sz_j D a (c / 48))).toNatClampNeg = sz_j D a (c / 48) := nI_clamp (by omega)
  have in16 : vp_in (nI a) 16 := vp_in_nI (by omega) (by omega)
  have in64 : vp_in (nI (sz_j D a (c / 48))) 64 := vp_in_nI hjj (by omega)
  rw [em1] at hq
  have key := yz_em (post := post) (J := wY_write_17 post (nI s) fu) (d := d) (v := c % 48) (Q1 := Q1) (q1 := q1) (lim := upd lim d (nI (c + 1))) (ins := ins) (ql := ql) hs hB hK hD I hL hS hv z1 z2 hd hq (fun w => H0 (fun q => by have := q.2.2.2; omega) _ em1.symm) (fun m pre k5 m1 m2 m3 m4 he => Hp ⟨hv, z1, z2, k5⟩ m pre m1 m3 m4 (em1.trans he))
  rw [ca, hD.1 a ha, ej, cj]
  refine ⟨in16, in64, nm_r (hK.2.1 _ hjj) ⟨key.1, fun w => ⟨in16, in64, key.2 w⟩⟩⟩
theorem yz_run (hs : s < 8) (hB : yr_B tx s B) (hK : cr_K ya_kind ya_repeated K R) (hD : yr_D D ya_nodeType ya_valueNode ya_valueNumber ya_value ya_from) (I : pm_DI K L dep D) (hL : L ≤ 200)
    (hS : ∀ m, m < pm_nn D → ya_sizes m = nI (sz_S K R D m)) : ∀ e a d, a < pm_nn D → dep a = d → d + e = 4 → ∀ r c (lim ins : Nat → Int32) (Q1 : Nat → Nat) (q1 : Nat), c + r = 768 → lim d = nI c → ins d = nI a →
    q1 + (em_T B K R D (ct_S B K R D) a r c).length ≤ 500 → ∃ (fu : Nat) (lim' ins' : Nat → Int32), (∀ i, i < d → lim' i = lim i ∧ ins' i = ins i) ∧
    ∀ (post : SY → Prop) fu', wY_write_17 post (nI s) fu' (nI d + (-1)) yf_down yf_heads yf_paid yf_payload yf_wants yf_name yf_first yf_counts yf_enters yf_most yf_many yf_sent yf_last yf_nodes (nI (pm_nv D)) yf_skipped yf_pos yf_there yf_number yf_at ya_kind ya_repeated ya_how ya_code ya_coming ya_going ya_type ya_headers ya_header (an_f (pm_u ql s (q1 + (em_T B K R D (ct_S B K R D) a r c).length))) ya_otherEnded ya_ended ya_finishing (an_g (ct_put Q1 (500 * s + q1) (em_T B K R D (ct_S B K R D) a r c))) ya_prefix ya_length ya_got ya_high ya_whole ya_has (an_g tx) ya_frame ya_payloads ya_table ya_out ya_nodeType ya_valueNode ya_valueNumber ya_value ya_from (lim') (ins') ya_sizes →
      wY_write_17 post (nI s) (fu' + fu) (nI d) yf_down yf_heads yf_paid yf_payload yf_wants yf_name yf_first yf_counts yf_enters yf_most yf_many yf_sent yf_last yf_nodes (nI (pm_nv D)) yf_skipped yf_pos yf_there yf_number yf_at ya_kind ya_repeated ya_how ya_code ya_coming ya_going ya_type ya_headers ya_header (an_f (pm_u ql s q1)) ya_otherEnded ya_ended ya_finishing (an_g Q1) ya_prefix ya_length ya_got ya_high ya_whole ya_has (an_g tx) ya_frame ya_payloads ya_table ya_out ya_nodeType ya_valueNode ya_valueNumber ya_value ya_from (lim) (ins) ya_sizes := by
  intro e
  induction e with
  | zero =>
    intro a d ha hda hde
    have := (I.2.2.2.2.1 a ha).2
    omega
  | succ e ihe =>
    intro a d ha hda hde r
    have hd3 := (I.2.2.2.2.1 a ha).2
    induction r with
    | zero =>
      intro c lim ins Q1 q1 hc hlim hins hq
      have ec : c = 768 := by omega
      subst ec
      refine ⟨1, upd lim d (nI 769), ins, fun i hi => ⟨pk_un (by omega), rfl⟩, fun post fu' H => ?_⟩
      have in5 : vp_in (nI d) 5 := vp_in_nI (by omega) (by omega)
      have cd : (nI d).toNatClampNeg = d := nI_clamp (by omega)
      rw [wY_write_17]
      dsimp only
      rw [cd, hlim]
      exact br_f (nI_pos (by omega)) ⟨in5, nm_e ⟨in5, by decide, nm_e ⟨in5, by decide, nm_e ⟨in5, in5, nm_r (e' := upd lim d (nI 769)) (by rw [nI_1]) (br_f (by decide) (nm_e H))⟩⟩⟩⟩
    | succ r ihr =>
      intro c lim ins Q1 q1 hc hlim hins hq
      rw [em_T, List.length_append] at hq
      have e3 : ∀ l : List Nat, 500 * s + (q1 + l.length) = 500 * s + q1 + l.length := fun l => by omega
      by_cases hpart : (c % 48 < pm_nv D ∧ pm_vn D (c % 48) = a ∧ pm_vm D (c % 48) = c / 48 ∧ 4 < K (sz_j D a (c / 48)))
      · obtain ⟨z0, z1, z2, k5⟩ := hpart
        obtain ⟨v1, v2, v3, v4, v5, v6⟩ := I.2.2.2.2.2.1 (c % 48) z0
        obtain ⟨m, m1, m2, m3, m4⟩ := v6 (by rw [sz_kk z1 z2]; exact k5)
        rw [z1] at m2 m4
        have hm31 : m < 2 ^ 31 := by
          have := I.2.1
          omega
        obtain ⟨pre, hpre⟩ : ∃ pre, em B K R D (ct_S B K R D) a (c / 48) (c % 48) = pre ++ ct_S B K R D m := by
          refine ⟨(8 * (c / 48) + pm_w (K (sz_j D a (c / 48)))) :: ct_v (ct_b B (K (sz_j D a (c / 48))) (pm_va D (c % 48)) (pm_fr D (c % 48)) (ct_S B K R D)).length, ?_⟩
          unfold em em_h ct_l
          rw [if_pos ⟨z0, z1, z2⟩, if_neg (fun q => by have := q.1; omega), if_pos (by omega), m1, ct_b5 k5 hm31]
          rfl
        rw [hpre, List.length_append] at hq
        have hall := em_all (B := B) (R := R) I m3
        obtain ⟨fu1, lim1, ins1, g1, g2⟩ := ihe m (d + 1) m3 (by omega) (by omega) 720 48 (upd (upd lim d (nI (c + 1))) (d + 1) 48) (upd ins (d + 1) (nI m)) (ct_put Q1 (500 * s + q1) pre) (q1 + pre.length) (by omega) pk_us pk_us (by rw [hall]; omega)
        rw [hall] at g2
        have gd := g1 d (by omega)
        rw [pk_un (by omega), pk_us, pk_un (by omega), hins] at gd
        obtain ⟨fu2, lim2, ins2, h1, h2⟩ := ihr (c + 1) lim1 ins1 (ct_put Q1 (500 * s + q1) (pre ++ ct_S B K R D m)) (q1 + (pre ++ ct_S B K R D m).length) (by omega) gd.1 gd.2 (by rw [List.length_append]; omega)
        refine ⟨fu2 + fu1 + 1, lim2, ins2, fun i hi => ?_, fun post fu' H => ?_⟩
        · have a1 := h1 i hi
          have a2 := g1 i (by omega)
          rw [pk_un (by omega), pk_un (by omega), pk_un (by omega)] at a2
          exact ⟨a1.1.trans a2.1, a1.2.trans a2.2⟩
        · refine yz_top hs hB hK hD I hL hS ha (by omega) (by omega) hlim hins (by rw [hpre, List.length_append]; omega) (fun q => absurd ⟨z0, z1, z2, k5⟩ q) (fun _ m' pre' w1 w2 w3 w4 => ?_)
          have em' : m' = m := (nI_eq (by have := I.2.1; omega) hm31).mp (w1.symm.trans m1)
          subst em'
          have ep : pre' = pre := List.append_cancel_right (w4.symm.trans hpre)
          subst ep
          have hfu : Nat.add fu' (fu2 + fu1) = (fu' + fu2) + fu1 := (Nat.add_assoc fu' fu2 fu1).symm
          rw [hfu]
          refine g2 post (fu' + fu2) ?_
          rw [pk_m1, e3, cp_app, Nat.add_assoc q1, ← List.length_append]
          refine h2 post fu' ?_
          rw [em_T, hpre, List.length_append] at H
          rw [e3, cp_app, Nat.add_assoc q1]
          exact H
      · obtain ⟨fu2, lim2, ins2, h1, h2⟩ := ihr (c + 1) (upd lim d (nI (c + 1))) ins (ct_put Q1 (500 * s + q1) (em B K R D (ct_S B K R D) a (c / 48) (c % 48))) (q1 + (em B K R D (ct_S B K R D) a (c / 48) (c % 48)).length) (by omega) pk_us hins (by omega)
        refine ⟨fu2 + 1, lim2, ins2, fun i hi => ?_, fun post fu' H => ?_⟩
        · have a1 := h1 i hi
          rw [pk_un (by omega)] at a1
          exact a1
        · refine yz_top hs hB hK hD I hL hS ha (by omega) (by omega) hlim hins (by omega) (fun _ l hl => ?_) (fun q => absurd q hpart)
          subst hl
          refine h2 post fu' ?_
          rw [em_T, List.length_append] at H
          rw [e3, cp_app, Nat.add_assoc q1]
          exact H
theorem yz_write {post : SY → Prop} {Q1 : Nat → Nat} {q1 : Nat} (hs : s < 8) (hB : yr_B tx s B) (hK : cr_K ya_kind ya_repeated K R) (hD : yr_D D ya_nodeType ya_valueNode ya_valueNumber ya_value ya_from) (I : pm_DI K L dep D) (hL : L ≤ 200)
    (hS : ∀ m, m < pm_nn D → ya_sizes m = nI (sz_S K R D m)) (hq : q1 + (ct_S B K R D 0).length ≤ 500)
    (H : ∀ lim' ins' : Nat → Int32, post (yf_down, yf_heads, yf_paid, yf_payload, yf_wants, yf_name, yf_first, yf_counts, yf_enters, yf_most, yf_many, yf_sent, yf_last, yf_nodes, nI (pm_nv D), yf_skipped, yf_pos, yf_there, yf_number, yf_at, ya_kind, ya_repeated, ya_how, ya_code, ya_coming, ya_going, ya_type, ya_headers, ya_header, an_f (pm_u ql s (q1 + (ct_S B K R D 0).length)), ya_otherEnded, ya_ended, ya_finishing, an_g (ct_put Q1 (500 * s + q1) (ct_S B K R D 0)), ya_prefix, ya_length, ya_got, ya_high, ya_whole, ya_has, an_g tx, ya_frame, ya_payloads, ya_table, ya_out, ya_nodeType, ya_valueNode, ya_valueNumber, ya_value, ya_from, lim', ins', ya_sizes)) :
    wpY_write post (yf_down, yf_heads, yf_paid, yf_payload, yf_wants, yf_name, yf_first, yf_counts, yf_enters, yf_most, yf_many, yf_sent, yf_last, yf_nodes, nI (pm_nv D), yf_skipped, yf_pos, yf_there, yf_number, yf_at, ya_kind, ya_repeated, ya_how, ya_code, ya_coming, ya_going, ya_type, ya_headers, ya_header, an_f (pm_u ql s q1), ya_otherEnded, ya_ended, ya_finishing, an_g Q1, ya_prefix, ya_length, ya_got, ya_high, ya_whole, ya_has, an_g tx, ya_frame, ya_payloads, ya_table, ya_out, ya_nodeType, ya_valueNode, ya_valueNumber, ya_value, ya_from, ya_limit, ya_inside, ya_sizes) (nI s) := by
  have h0 := I.1
  have hall := em_all (B := B) (R := R) I h0
  unfold wpY_write
  refine nm_e (nm_e ?_)
  obtain ⟨fu, lim', ins', g1, g2⟩ := yz_run (ql := ql) hs hB hK hD I hL hS 4 0 0 h0 I.2.2.2.1 (by omega) 720 48 (upd ya_limit 0 48) (upd ya_inside 0 0) Q1 q1 (by omega) pk_us pk_us (by rw [hall]; exact hq)
  rw [hall] at g2
  refine ⟨1 + fu, g2 post 1 ?_⟩
  rw [wY_write_17]
  exact br_t (by decide) (H lim' ins')
end
