/-! M: how the reference reads an element and the whole -/
section
variable {yf_down yf_heads yf_paid yf_payload yf_wants yf_name yf_first yf_counts yf_enters yf_most yf_many yf_sent yf_last yf_nodes yf_values yf_skipped yf_pos yf_there yf_number yf_at : Int32} {ya_kind ya_repeated ya_how ya_code ya_coming ya_going ya_type ya_headers ya_header ya_queued ya_otherEnded ya_ended ya_finishing ya_queue ya_prefix ya_length ya_got ya_high ya_whole ya_has ya_bytes ya_frame ya_payloads ya_table ya_out ya_nodeType ya_valueNode ya_valueNumber ya_value ya_from ya_limit ya_inside ya_sizes : Nat → Int32} {s q e T : Nat} {tx B : Nat → Nat} {K : Nat → Nat} {R : Nat → Bool} {L : Nat} {dep : Nat → Nat} {c : pm_C} {z : yr_Z} {a1 a2 a3 a4 a5 a6 a7 : Nat → Int32}
theorem yr_elem {r g : Nat × pm_C} {m : Nat} (hz : yr_ok c (pm_pos c) z) (I : pm_CI K R L dep c) (hr : pm_row c = 0) (hL : L ≤ 200) (hK : cr_K ya_kind ya_repeated K R) (hx : yr_B tx s B) (hs : s < 8) (hT : T ≤ 200)
    (hp : pm_pos c ≤ T) (hg : g = pm_goT B K R T c 0)
    (hrd0 : ∀ c', g = (0, c') → pm_rd B K R T m c' = some r) (hrdE : g.1 ≠ 0 → r = g) {post : Int32 → SY → Prop}
    (H0 : ∀ dep' m' c' (z' : yr_Z), m' ≤ m → pm_rd B K R T m' c' = some r → pm_row c' = 0 → pm_CI K R L dep' c' → pm_pos c' ≤ T → yr_ok c' (pm_pos c') z' → post 0 (yf_down, yf_heads, yf_paid, yf_payload, yf_wants, yf_name, yf_first, yf_counts, yf_enters, yf_most, yf_many, yf_sent, yf_last, z'.1, z'.2.1, z'.2.2.1, z'.2.2.2.1, nI T, z'.2.2.2.2.1, z'.2.2.2.2.2.1, ya_kind, ya_repeated, ya_how, ya_code, ya_coming, ya_going, ya_type, ya_headers, ya_header, ya_queued, ya_otherEnded, ya_ended, ya_finishing, ya_queue, ya_prefix, ya_length, ya_got, ya_high, ya_whole, ya_has, an_g tx, ya_frame, ya_payloads, ya_table, ya_out, z'.2.2.2.2.2.2.1, z'.2.2.2.2.2.2.2.1, z'.2.2.2.2.2.2.2.2.1, z'.2.2.2.2.2.2.2.2.2.1, z'.2.2.2.2.2.2.2.2.2.2.1, z'.2.2.2.2.2.2.2.2.2.2.2.1, z'.2.2.2.2.2.2.2.2.2.2.2.2, ya_sizes))
    (HE : ∀ (z' : yr_Z), r.1 ≠ 0 → post (yr_c r.1) (yf_down, yf_heads, yf_paid, yf_payload, yf_wants, yf_name, yf_first, yf_counts, yf_enters, yf_most, yf_many, yf_sent, yf_last, z'.1, z'.2.1, z'.2.2.1, z'.2.2.2.1, nI T, z'.2.2.2.2.1, z'.2.2.2.2.2.1, ya_kind, ya_repeated, ya_how, ya_code, ya_coming, ya_going, ya_type, ya_headers, ya_header, ya_queued, ya_otherEnded, ya_ended, ya_finishing, ya_queue, ya_prefix, ya_length, ya_got, ya_high, ya_whole, ya_has, an_g tx, ya_frame, ya_payloads, ya_table, ya_out, z'.2.2.2.2.2.2.1, z'.2.2.2.2.2.2.2.1, z'.2.2.2.2.2.2.2.2.1, z'.2.2.2.2.2.2.2.2.2.1, z'.2.2.2.2.2.2.2.2.2.2.1, z'.2.2.2.2.2.2.2.2.2.2.2.1, z'.2.2.2.2.2.2.2.2.2.2.2.2, ya_sizes)) :
    wpY_element post (yf_down, yf_heads, yf_paid, yf_payload, yf_wants, yf_name, yf_first, yf_counts, yf_enters, yf_most, yf_many, yf_sent, yf_last, z.1, z.2.1, z.2.2.1, z.2.2.2.1, nI T, z.2.2.2.2.1, z.2.2.2.2.2.1, ya_kind, ya_repeated, ya_how, ya_code, ya_coming, ya_going, ya_type, ya_headers, ya_header, ya_queued, ya_otherEnded, ya_ended, ya_finishing, ya_queue, ya_prefix, ya_length, ya_got, ya_high, ya_whole, ya_has, an_g tx, ya_frame, ya_payloads, ya_table, ya_out, z.2.2.2.2.2.2.1, z.2.2.2.2.2.2.2.1, z.2.2.2.2.2.2.2.2.1, z.2.2.2.2.2.2.2.2.2.1, z.2.2.2.2.2.2.2.2.2.2.1, z.2.2.2.2.2.2.2.2.2.2.2.1, z.2.2.2.2.2.2.2.2.2.2.2.2, ya_sizes) (nI s) := by
  obtain ⟨z1, z2, z3, z4, z5, z6, a1, a2, a3, a4, a5, a6, a7⟩ := z
  dsimp only [yr_ok] at hz
  obtain ⟨rfl, rfl, rfl, rfl, rfl, rD, rA⟩ := hz
  have he : pm_end c = pm_lim c (pm_at c) := by unfold pm_end; exact if_pos hr
  have hpe := I.2.2.2.2.2.2.1
  have hl := pm_lim_le I (pm_at c) (Nat.le_refl _)
  have h3 := I.2.1
  have hin := I.2.2.2.2.1 (pm_at c) (Nat.le_refl _)
  have hty := (I.1.2.2.2.2.1 _ hin.1).1
  have hnn := I.1.2.1
  have hI : ∀ c', g = (0, c') → ∃ dep', pm_CI K R L dep' c' ∧ pm_pos c' ≤ T := by
    intro c' h
    obtain ⟨dep', i1, i2, i3⟩ := pm_goT_I I hr hK.1 hp hL (hg.symm.trans h)
    exact ⟨dep', i1, i3⟩
  have F0 : ∀ c' (z' : yr_Z), g = (0, c') → pm_row c' = 0 → yr_ok c' (pm_pos c') z' → post 0 (yf_down, yf_heads, yf_paid, yf_payload, yf_wants, yf_name, yf_first, yf_counts, yf_enters, yf_most, yf_many, yf_sent, yf_last, z'.1, z'.2.1, z'.2.2.1, z'.2.2.2.1, nI T, z'.2.2.2.2.1, z'.2.2.2.2.2.1, ya_kind, ya_repeated, ya_how, ya_code, ya_coming, ya_going, ya_type, ya_headers, ya_header, ya_queued, ya_otherEnded, ya_ended, ya_finishing, ya_queue, ya_prefix, ya_length, ya_got, ya_high, ya_whole, ya_has, an_g tx, ya_frame, ya_payloads, ya_table, ya_out, z'.2.2.2.2.2.2.1, z'.2.2.2.2.2.2.2.1, z'.2.2.2.2.2.2.2.2.1, z'.2.2.2.2.2.2.2.2.2.1, z'.2.2.2.2.2.2.2.2.2.2.1, z'.2.2.2.2.2.2.2.2.2.2.2.1, z'.2.2.2.2.2.2.2.2.2.2.2.2, ya_sizes) := by
    intro c' z' h1 h2 h3
    obtain ⟨dep', i1, i2⟩ := hI c' h1
    exact H0 dep' m c' z' (Nat.le_refl _) (hrd0 c' h1) h2 i1 i2 h3
  have FE : ∀ x (z' : yr_Z), g.1 = x → x ≠ 0 → post (yr_c x) (yf_down, yf_heads, yf_paid, yf_payload, yf_wants, yf_name, yf_first, yf_counts, yf_enters, yf_most, yf_many, yf_sent, yf_last, z'.1, z'.2.1, z'.2.2.1, z'.2.2.2.1, nI T, z'.2.2.2.2.1, z'.2.2.2.2.2.1, ya_kind, ya_repeated, ya_how, ya_code, ya_coming, ya_going, ya_type, ya_headers, ya_header, ya_queued, ya_otherEnded, ya_ended, ya_finishing, ya_queue, ya_prefix, ya_length, ya_got, ya_high, ya_whole, ya_has, an_g tx, ya_frame, ya_payloads, ya_table, ya_out, z'.2.2.2.2.2.2.1, z'.2.2.2.2.2.2.2.1, z'.2.2.2.2.2.2.2.2.1, z'.2.2.2.2.2.2.2.2.2.1, z'.2.2.2.2.2.2.2.2.2.2.1, z'.2.2.2.2.2.2.2.2.2.2.2.1, z'.2.2.2.2.2.2.2.2.2.2.2.2, ya_sizes) := by
    intro x z' h1 h2
    have hr : r = g := hrdE (by rw [h1]; exact h2)
    have := HE z' (by rw [hr, h1]; exact h2)
    rw [hr, h1] at this
    exact this
  unfold wpY_element
  dsimp only
  refine ⟨vp_in_nI (by omega) (by omega), nm_r (by rw [nI_clamp (by omega), (rA _ (Nat.le_refl _)).1]) (yr_var hx hs hT (by omega) hp (fun cc k' hv => ?_))⟩
  have hc9 : cc ≤ 9 := by
    have := pm_vr_lt (B := B) (p := pm_pos c) (e := pm_lim c (pm_at c)) (T := T) 10 0
    rw [hv] at this; exact this
  unfold pm_goT at hg
  rw [show 10 - 0 = 10 from rfl, hv] at hg
  dsimp only at hg
  by_cases hc : cc = 0
  · subst hc
    rw [if_pos rfl] at hg
    have hv' := pm_vr_ok _ _ (by omega) (by omega) hv
    generalize pm_vs B (pm_pos c) k' = x at hg ⊢
    refine br_t rfl (nm_r (pk_and x 3 (by decide)) (nm_r (yr_u3 x) ?_))
    have hX : x.toBitVec.toNat < 2 ^ 32 := x.toBitVec.isLt
    generalize x.toBitVec.toNat = X at hg hX ⊢
    have h175 : ∀ kk x7 x9 w, X / 8 ≠ 0 → (kk = if 15 < X / 8 then 0 else K (pm_fj c (X / 8))) → (X / 8 ≤ 15 → x7 = nI (pm_fj c (X / 8))) → (x9 = if 1 ≤ kk ∧ kk ≤ 3 then (1 : Int32) else 0) →
        w = X % 8 → (w = 0 ∨ w = 1 ∨ w = 2 ∨ w = 5) → ¬ (1 ≤ kk ∧ kk ≤ 3 ∧ w = if kk = 3 then 5 else 0) →
        wY_element_175 post (nI s) (nI (pm_pos c)) (nI (pm_lim c (pm_at c))) (nI w) (nI (X / 8)) x7 (nI kk + (-1)) x9 0 yf_down yf_heads yf_paid yf_payload yf_wants yf_name yf_first yf_counts yf_enters yf_most yf_many yf_sent yf_last (nI (pm_nn (pm_d c))) (nI (pm_nv (pm_d c))) (nI (pm_sk c)) (nI (pm_pos c + k')) (nI T) (x) (nI (pm_at c)) ya_kind ya_repeated ya_how ya_code ya_coming ya_going ya_type ya_headers ya_header ya_queued ya_otherEnded ya_ended ya_finishing ya_queue ya_prefix ya_length ya_got ya_high ya_whole ya_has (an_g tx) ya_frame ya_payloads ya_table ya_out (a1) (a2) (a3) (a4) (a5) (a6) (a7) ya_sizes := by
      intro kk x7 x9 w hn hkk hx7 hx9 hw hw4 hpl
      refine yr_175 rD rA I hr hL hK hx hs hT (by omega) (by omega) (by omega) (by omega) hkk hx7 hx9 hw4 hpl ?_ hI hrd0 hrdE H0 HE
      have hk8 := hK.1 (pm_fj c (X / 8))
      obtain ⟨w0, w5, w2⟩ := pm_w_0 _ hk8
      rw [hg]
      unfold pm_dis
      rw [if_neg hn, ← hw]
      rcases hw4 with y | y | y | y
      · subst y
        rw [if_pos rfl, if_pos rfl]
        have : pm_fl K R c (X / 8) 0 = 0 := by
          unfold pm_fl
          split
          · rfl
          rename_i y1
          rw [if_neg y1] at hkk
          split
          · rfl
          rename_i y2
          rw [if_neg]
          intro y3
          rcases y3 with y3 | y3
          · have := w0.mp y3.symm
            exact hpl ⟨by omega, by omega, by rw [if_neg (by omega)]⟩
          · exact absurd y3.1 (by decide)
        rw [this]
      · subst y
        rw [if_neg (by decide), if_neg (by decide), if_neg (by decide), if_pos rfl, if_neg (by decide), if_neg (by decide), if_pos rfl]
      · subst y
        rw [if_neg (by decide), if_pos rfl, if_neg (by decide), if_pos rfl]
      · subst y
        rw [if_neg (by decide), if_neg (by decide), if_pos rfl, if_neg (by decide), if_neg (by decide), if_neg (by decide)]
        have : pm_fl K R c (X / 8) 5 = 0 := by
          unfold pm_fl
          split
          · rfl
          rename_i y1
          rw [if_neg y1] at hkk
          split
          · rfl
          rename_i y2
          rw [if_neg]
          intro y3
          rcases y3 with y3 | y3
          · have := w5.mp y3.symm
            exact hpl ⟨by omega, by omega, by rw [if_pos (by omega)]⟩
          · exact absurd y3.1 (by decide)
        rw [this]
    have hsing : ∀ kk x7 x9 w, X / 8 ≠ 0 → X / 8 ≤ 15 → kk = K (pm_fj c (X / 8)) → w = X % 8 → (1 ≤ kk ∧ kk ≤ 3 ∧ w = if kk = 3 then 5 else 0) →
        wY_element_175 post (nI s) (nI (pm_pos c)) (nI (pm_lim c (pm_at c))) (nI w) (nI (X / 8)) x7 (nI kk + (-1)) x9 1 yf_down yf_heads yf_paid yf_payload yf_wants yf_name yf_first yf_counts yf_enters yf_most yf_many yf_sent yf_last (nI (pm_nn (pm_d c))) (nI (pm_nv (pm_d c))) (nI (pm_sk c)) (nI (pm_pos c + k')) (nI T) (x) (nI (pm_at c)) ya_kind ya_repeated ya_how ya_code ya_coming ya_going ya_type ya_headers ya_header ya_queued ya_otherEnded ya_ended ya_finishing ya_queue ya_prefix ya_length ya_got ya_high ya_whole ya_has (an_g tx) ya_frame ya_payloads ya_table ya_out (a1) (a2) (a3) (a4) (a5) (a6) (a7) ya_sizes := by
      intro kk x7 x9 w hn hn15 hkk hw hpl
      obtain ⟨p1, p2, p3⟩ := hpl
      unfold wY_element_175
      refine br_f (by decide) ?_
      refine yr_single (z := (nI (pm_nn (pm_d c)), nI (pm_nv (pm_d c)), nI (pm_sk c), nI (pm_pos c + k'), x, nI (pm_at c), a1, a2, a3, a4, a5, a6, a7)) (g := g) ⟨rfl, rfl, rfl, rfl, rfl, rD, rA⟩ I hL hK hx hs hT (by omega) (by omega) he.symm (by omega) hn15 hkk.symm p1 p2 ?_ (fun c' z' h1 h2 => F0 c' z' h1 ?_ h2) FE
      · rw [hg]
        unfold pm_dis
        rw [if_neg hn, ← hw]
        by_cases y : kk = 3
        · rw [if_pos y] at p3
          rw [p3, if_neg (by decide), if_neg (by decide), if_pos rfl, if_pos y]
          have : pm_fl K R c (X / 8) 5 = X / 8 := by
            unfold pm_fl
            rw [if_neg (by omega), if_neg (by omega), if_pos (Or.inl (by rw [← hkk, y]; decide))]
          rw [this]
        · rw [if_neg y] at p3
          rw [p3, if_pos rfl, if_neg y]
          have : pm_fl K R c (X / 8) 0 = X / 8 := by
            unfold pm_fl
            rw [if_neg (by omega), if_neg (by omega), if_pos (Or.inl (by
              rw [← hkk]; exact ((pm_w_0 kk (by omega)).1.mpr (by omega)).symm))]
          rw [this]
      · have hrow : pm_row (pm_dis B K R T c (pm_pos c + k') X).2 = 0 := by
          unfold pm_dis
          rw [if_neg hn, ← hw]
          by_cases y : kk = 3
          · rw [if_pos y] at p3
            rw [p3, if_neg (by decide), if_neg (by decide), if_pos rfl, pm_goF_r]; exact hr
          · rw [if_neg y] at p3
            rw [p3, if_pos rfl, pm_goV_r]; exact hr
        rw [← hg, h1] at hrow
        exact hrow
    have h129 : ∀ kk x7 w, X / 8 ≠ 0 → (kk = if 15 < X / 8 then 0 else K (pm_fj c (X / 8))) → (X / 8 ≤ 15 → x7 = nI (pm_fj c (X / 8))) → w = X % 8 → (w = 0 ∨ w = 1 ∨ w = 2 ∨ w = 5) →
        wY_element_129 post (nI s) (nI (pm_pos c)) (nI (pm_lim c (pm_at c))) (nI w) (nI (X / 8)) x7 (nI kk + (-1)) yf_down yf_heads yf_paid yf_payload yf_wants yf_name yf_first yf_counts yf_enters yf_most yf_many yf_sent yf_last (nI (pm_nn (pm_d c))) (nI (pm_nv (pm_d c))) (nI (pm_sk c)) (nI (pm_pos c + k')) (nI T) (x) (nI (pm_at c)) ya_kind ya_repeated ya_how ya_code ya_coming ya_going ya_type ya_headers ya_header ya_queued ya_otherEnded ya_ended ya_finishing ya_queue ya_prefix ya_length ya_got ya_high ya_whole ya_has (an_g tx) ya_frame ya_payloads ya_table ya_out (a1) (a2) (a3) (a4) (a5) (a6) (a7) ya_sizes := by
      intro kk x7 w hn hkk hx7 hw hw4
      have hk8 : kk ≤ 8 := by
        rw [hkk]; split
        · omega
        · exact hK.1 _
      have yk := yr_k kk hk8
      have h146 : ¬ (1 ≤ kk ∧ kk ≤ 3) → wY_element_146 post (nI s) (nI (pm_pos c)) (nI (pm_lim c (pm_at c))) (nI w) (nI (X / 8)) x7 (nI kk + (-1)) yf_down yf_heads yf_paid yf_payload yf_wants yf_name yf_first yf_counts yf_enters yf_most yf_many yf_sent yf_last (nI (pm_nn (pm_d c))) (nI (pm_nv (pm_d c))) (nI (pm_sk c)) (nI (pm_pos c + k')) (nI T) (x) (nI (pm_at c)) ya_kind ya_repeated ya_how ya_code ya_coming ya_going ya_type ya_headers ya_header ya_queued ya_otherEnded ya_ended ya_finishing ya_queue ya_prefix ya_length ya_got ya_high ya_whole ya_has (an_g tx) ya_frame ya_payloads ya_table ya_out (a1) (a2) (a3) (a4) (a5) (a6) (a7) ya_sizes := by
        intro y
        unfold wY_element_146 wY_element_147
        refine br_t rfl ?_
        unfold wY_element_174
        exact h175 kk x7 0 w hn hkk hx7 (by rw [if_neg y]) hw hw4 (fun y' => y ⟨y'.1, y'.2.1⟩)
      unfold wY_element_129
      refine br_c (fun y => h146 (by have := yk.2.2.1.mp y; omega)) (fun y => br_c (fun y2 => h146 (by have := yk.2.2.2.1.mp y2; omega)) (fun y2 => ?_))
      have hk1 : 1 ≤ kk := by
        rcases Nat.eq_zero_or_pos kk with y3 | y3
        · exact absurd (yk.2.2.1.mpr y3) y
        · exact y3
      have hk3 : kk ≤ 3 := by
        rcases Nat.lt_or_ge kk 4 with y3 | y3
        · omega
        · exact absurd (yk.2.2.2.1.mpr y3) y2
      have hn15 : X / 8 ≤ 15 := by
        rcases Nat.lt_or_ge 15 (X / 8) with y3 | y3
        · rw [if_pos y3] at hkk; omega
        · exact y3
      have hkn : kk = K (pm_fj c (X / 8)) := by rw [hkk, if_neg (by omega)]
      unfold wY_element_147
      refine br_f (by decide) (br_c (fun y3 => ?_) (fun y3 => ?_))
      · have y4 := yk.1.mp y3
        unfold wY_element_167
        refine pk_eq w 5 (fun y5 => hsing kk x7 1 w hn hn15 hkn hw ⟨hk1, hk3, by rw [if_pos y4]; exact y5⟩) (fun y5 => ?_) rfl rfl (by omega) (by omega)
        unfold wY_element_174
        exact h175 kk x7 1 w hn hkk hx7 (by rw [if_pos ⟨hk1, hk3⟩]) hw hw4 (fun y' => y5 (by have := y'.2.2; rw [if_pos y4] at this; exact this))
      · have y4 : kk ≠ 3 := fun y5 => y3 (yk.1.mpr y5)
        unfold wY_element_167
        refine pk_eq w 0 (fun y5 => hsing kk x7 1 w hn hn15 hkn hw ⟨hk1, hk3, by rw [if_neg y4]; exact y5⟩) (fun y5 => ?_) rfl rfl (by omega) (by omega)
        unfold wY_element_174
        exact h175 kk x7 1 w hn hkk hx7 (by rw [if_pos ⟨hk1, hk3⟩]) hw hw4 (fun y' => y5 (by have := y'.2.2; rw [if_neg y4] at this; exact this))
    have h71 : ∀ w, w = X % 8 → (w = 0 ∨ w = 1 ∨ w = 2 ∨ w = 5) → wY_element_71 post (nI s) (nI (pm_pos c)) (nI (pm_lim c (pm_at c))) (nI w) (nI (X / 8)) yf_down yf_heads yf_paid yf_payload yf_wants yf_name yf_first yf_counts yf_enters yf_most yf_many yf_sent yf_last (nI (pm_nn (pm_d c))) (nI (pm_nv (pm_d c))) (nI (pm_sk c)) (nI (pm_pos c + k')) (nI T) (x) (nI (pm_at c)) ya_kind ya_repeated ya_how ya_code ya_coming ya_going ya_type ya_headers ya_header ya_queued ya_otherEnded ya_ended ya_finishing ya_queue ya_prefix ya_length ya_got ya_high ya_whole ya_has (an_g tx) ya_frame ya_payloads ya_table ya_out (a1) (a2) (a3) (a4) (a5) (a6) (a7) ya_sizes := by
      intro w hw hw4
      unfold wY_element_71
      refine pk_eq (X / 8) 0 (fun y => ?_) (fun y => ?_) rfl rfl (by omega) (by omega)
      · refine FE 2 (nI (pm_nn (pm_d c)), nI (pm_nv (pm_d c)), nI (pm_sk c), nI (pm_pos c + k'), x, nI (pm_at c), a1, a2, a3, a4, a5, a6, a7) ?_ (by omega)
        rw [hg]; unfold pm_dis; rw [if_pos y]
      refine pk_le (X / 8) 15 (fun y2 => ?_) (fun y2 => ?_) rfl rfl (by omega) (by omega)
      · have hj : pm_fj c (X / 8) < 64 := by
          show 16 * pm_nt (pm_d c) (pm_ins c (pm_at c)) + X / 8 < 64; omega
        have ej : 16 * nI (pm_nt (pm_d c) (pm_ins c (pm_at c))) + nI (X / 8) = nI (pm_fj c (X / 8)) := by
          rw [show (16 : Int32) = nI 16 from rfl, pk_mul, nI_add]; rfl
        rw [nI_clamp (show pm_at c < 2 ^ 31 by omega), (rA _ (Nat.le_refl _)).2, nI_clamp (show pm_ins c (pm_at c) < 2 ^ 31 by omega), rD.1 _ hin.1, ej]
        refine ⟨vp_in_nI (by omega) (by omega), vp_in_nI (by omega) (by omega), ?_⟩
        unfold wY_element_109
        refine pk_le (X / 8) 15 (fun _ => ?_) (fun y3 => absurd y3 (by omega)) rfl rfl (by omega) (by omega)
        rw [nI_clamp (by omega), hK.2.1 _ hj]
        exact ⟨vp_in_nI hj (by omega), h129 _ _ w y (by rw [if_neg (by omega)]) (fun _ => rfl) hw hw4⟩
      · unfold wY_element_109
        refine pk_le (X / 8) 15 (fun y3 => absurd y3 (by omega)) (fun _ => ?_) rfl rfl (by omega) (by omega)
        exact h129 0 _ w y (by rw [if_pos y2]) (fun y3 => absurd y3 (by omega)) hw hw4
    refine pk_eq (X % 2 ^ 3) 0 (fun y => h71 _ rfl (by omega)) (fun y0 => ?_) rfl rfl (by omega) (by omega)
    refine pk_eq (X % 2 ^ 3) 1 (fun y => h71 _ rfl (by omega)) (fun y1 => ?_) rfl rfl (by omega) (by omega)
    refine pk_eq (X % 2 ^ 3) 2 (fun y => h71 _ rfl (by omega)) (fun y2 => ?_) rfl rfl (by omega) (by omega)
    refine pk_eq (X % 2 ^ 3) 5 (fun y => h71 _ rfl (by omega)) (fun y5 => ?_) rfl rfl (by omega) (by omega)
    refine FE 2 (nI (pm_nn (pm_d c)), nI (pm_nv (pm_d c)), nI (pm_sk c), nI (pm_pos c + k'), x, nI (pm_at c), a1, a2, a3, a4, a5, a6, a7) ?_ (by omega)
    rw [hg]; unfold pm_dis
    split
    · rfl
    · first | rfl | (rw [if_neg (by omega), if_neg (by omega), if_neg (by omega), if_neg (by omega)])
  · rw [if_neg hc] at hg
    exact br_f (yr_ne cc hc9 hc) (FE cc (nI (pm_nn (pm_d c)), nI (pm_nv (pm_d c)), nI (pm_sk c), nI (pm_pos c + k'), _, nI (pm_at c), a1, a2, a3, a4, a5, a6, a7) (by rw [hg]) hc)
theorem yr_pop {post : Int32 → SY → Prop} {J : Int32 → Int32 → Int32 → Int32 → Int32 → Int32 → Int32 → Int32 → Int32 → Int32 → Int32 → Int32 → Int32 → Int32 → Int32 → Int32 → Int32 → Int32 → Int32 → Int32 → Int32 → (Nat → Int32) → (Nat → Int32) → (Nat → Int32) → (Nat → Int32) → (Nat → Int32) → (Nat → Int32) → (Nat → Int32) → (Nat → Int32) → (Nat → Int32) → (Nat → Int32) → (Nat → Int32) → (Nat → Int32) → (Nat → Int32) → (Nat → Int32) → (Nat → Int32) → (Nat → Int32) → (Nat → Int32) → (Nat → Int32) → (Nat → Int32) → (Nat → Int32) → (Nat → Int32) → (Nat → Int32) → (Nat → Int32) → (Nat → Int32) → (Nat → Int32) → (Nat → Int32) → (Nat → Int32) → (Nat → Int32) → (Nat → Int32) → (Nat → Int32) → (Nat → Int32) → (Nat → Int32) → (Nat → Int32) → Prop} {p : Nat} {lim : Nat → Nat} (hp : p < 2 ^ 31) (hl : ∀ i, lim i < 2 ^ 31) : ∀ a, a ≤ 3 → (∀ i, i ≤ a → ya_limit i = nI (lim i)) →
    wY_read_108 post J (nI s) yf_down yf_heads yf_paid yf_payload yf_wants yf_name yf_first yf_counts yf_enters yf_most yf_many yf_sent yf_last yf_nodes yf_values yf_skipped (nI p) yf_there yf_number (nI (pm_pop lim p a)) ya_kind ya_repeated ya_how ya_code ya_coming ya_going ya_type ya_headers ya_header ya_queued ya_otherEnded ya_ended ya_finishing ya_queue ya_prefix ya_length ya_got ya_high ya_whole ya_has ya_bytes ya_frame ya_payloads ya_table ya_out ya_nodeType ya_valueNode ya_valueNumber ya_value ya_from ya_limit ya_inside ya_sizes →
    wY_read_72 post J (nI s) yf_down yf_heads yf_paid yf_payload yf_wants yf_name yf_first yf_counts yf_enters yf_most yf_many yf_sent yf_last yf_nodes yf_values yf_skipped (nI p) yf_there yf_number ya_kind ya_repeated ya_how ya_code ya_coming ya_going ya_type ya_headers ya_header ya_queued ya_otherEnded ya_ended ya_finishing ya_queue ya_prefix ya_length ya_got ya_high ya_whole ya_has ya_bytes ya_frame ya_payloads ya_table ya_out ya_nodeType ya_valueNode ya_valueNumber ya_value ya_from ya_limit ya_inside ya_sizes (a + 1) (nI a)
  | 0, _, _, H => by
    rw [wY_read_72]
    exact br_t (by decide) H
  | a + 1, ha, hli, H => by
    rw [wY_read_72]
    refine pk_le (a + 1) 0 (fun y => absurd y (by omega)) (fun _ => ⟨vp_in_nI (by omega) (by omega), ?_⟩)
    rw [nI_clamp (by omega), hli (a + 1) (Nat.le_refl _)]
    rw [pm_pop] at H
    have := hl (a + 1)
    refine pk_eq p (lim (a + 1)) (fun y => ?_) (fun y => ?_) rfl rfl hp this
    · rw [if_pos y] at H
      exact nm_r (nI_pred a) (yr_pop hp hl a (by omega) (fun i hi => hli i (by omega)) H)
    · rw [if_neg y] at H
      exact H
end
section
variable {yf_down yf_heads yf_paid yf_payload yf_wants yf_name yf_first yf_counts yf_enters yf_most yf_many yf_sent yf_last yf_nodes yf_values yf_skipped yf_pos yf_there yf_number yf_at : Int32} {ya_kind ya_repeated ya_how ya_code ya_coming ya_going ya_type ya_headers ya_header ya_queued ya_otherEnded ya_ended ya_finishing ya_queue ya_prefix ya_length ya_got ya_high ya_whole ya_has ya_bytes ya_frame ya_payloads ya_table ya_out ya_nodeType ya_valueNode ya_valueNumber ya_value ya_from ya_limit ya_inside ya_sizes : Nat → Int32} {s q e T : Nat} {tx B : Nat → Nat} {K : Nat → Nat} {R : Nat → Bool} {L : Nat} {dep : Nat → Nat} {c : pm_C} {z : yr_Z} {a1 a2 a3 a4 a5 a6 a7 : Nat → Int32}
/-- what a reading answers -/
def yr_a (x : Nat) : Int32 := if x = 9 then 0 else nI x
theorem yr_a9 : ∀ x, x ≤ 9 → x ≠ 0 → ¬ yr_c x = 0 ∧ ((x = 9 → ¬ (0 : Int32) ≤ yr_c x) ∧ (x ≠ 9 → (0 : Int32) ≤ yr_c x ∧ yr_c x = nI x)) := by
  unfold yr_c
  decide +kernel
theorem pm_c9_part {f t q len : Nat} : (pm_part R c f t q len).1 ≤ 9 := by
  unfold pm_part
  split
  · show 0 ≤ 9; omega
  split
  · show 5 ≤ 9; omega
  · show 0 ≤ 9; omega
theorem pm_c9_body {f q len : Nat} : (pm_body K R T c f q len).1 ≤ 9 := by
  unfold pm_body
  split
  · split
    · show 9 ≤ 9; omega
    · exact pm_c9_fin
  split
  · split
    · show 5 ≤ 9; omega
    split
    · show 9 ≤ 9; omega
    · exact pm_c9_fin
  split
  · exact pm_c9_part
  · show 0 ≤ 9; omega
theorem pm_c9_L {B : Nat → Nat} {f d : Nat} : (pm_goL B K R T c f q d).1 ≤ 9 := by
  unfold pm_goL
  split
  · unfold pm_len
    split
    · show 4 ≤ 9; omega
    · exact pm_c9_body
  · exact pm_vr_lt _ _
theorem pm_c9_T {B : Nat → Nat} {d : Nat} : (pm_goT B K R T c d).1 ≤ 9 := by
  unfold pm_goT
  split
  · unfold pm_dis
    split
    · show 2 ≤ 9; omega
    split
    · exact pm_c9_V
    split
    · exact pm_c9_L
    split
    · exact pm_c9_F
    split
    · exact pm_c9_F
    · show 2 ≤ 9; omega
  · exact pm_vr_lt _ _
theorem pm_rd_9 {B : Nat → Nat} {r : Nat × pm_C} : ∀ n c, pm_rd B K R T n c = some r → r.1 ≤ 9
  | 0, c, h => by simp [pm_rd] at h
  | n + 1, c, h => by
    rw [pm_rd] at h
    split at h
    · split at h
      · exact pm_rd_9 n _ h
      split at h
      · exact pm_rd_9 n _ h
      · rw [← Option.some.inj h]; exact pm_c9_S
    split at h
    · rw [← Option.some.inj h]; show 0 ≤ 9; omega
    split at h
    · exact pm_rd_9 n _ h
    · rw [← Option.some.inj h]; exact pm_c9_T
theorem yr_loop {r : Nat × pm_C} (hL : L ≤ 200) (hK : cr_K ya_kind ya_repeated K R) (hx : yr_B tx s B) (hs : s < 8) (hT : T ≤ 200) {post : Int32 → SY → Prop}
    (H0 : ∀ c' (z' : yr_Z), r = (0, c') → yr_ok c' (pm_pos c') z' → post 0 (yf_down, yf_heads, yf_paid, yf_payload, yf_wants, yf_name, yf_first, yf_counts, yf_enters, yf_most, yf_many, yf_sent, yf_last, z'.1, z'.2.1, z'.2.2.1, z'.2.2.2.1, nI T, z'.2.2.2.2.1, z'.2.2.2.2.2.1, ya_kind, ya_repeated, ya_how, ya_code, ya_coming, ya_going, ya_type, ya_headers, ya_header, ya_queued, ya_otherEnded, ya_ended, ya_finishing, ya_queue, ya_prefix, ya_length, ya_got, ya_high, ya_whole, ya_has, an_g tx, ya_frame, ya_payloads, ya_table, ya_out, z'.2.2.2.2.2.2.1, z'.2.2.2.2.2.2.2.1, z'.2.2.2.2.2.2.2.2.1, z'.2.2.2.2.2.2.2.2.2.1, z'.2.2.2.2.2.2.2.2.2.2.1, z'.2.2.2.2.2.2.2.2.2.2.2.1, z'.2.2.2.2.2.2.2.2.2.2.2.2, ya_sizes)) (HE : ∀ (z' : yr_Z), r.1 ≠ 0 → post (yr_a r.1) (yf_down, yf_heads, yf_paid, yf_payload, yf_wants, yf_name, yf_first, yf_counts, yf_enters, yf_most, yf_many, yf_sent, yf_last, z'.1, z'.2.1, z'.2.2.1, z'.2.2.2.1, nI T, z'.2.2.2.2.1, z'.2.2.2.2.2.1, ya_kind, ya_repeated, ya_how, ya_code, ya_coming, ya_going, ya_type, ya_headers, ya_header, ya_queued, ya_otherEnded, ya_ended, ya_finishing, ya_queue, ya_prefix, ya_length, ya_got, ya_high, ya_whole, ya_has, an_g tx, ya_frame, ya_payloads, ya_table, ya_out, z'.2.2.2.2.2.2.1, z'.2.2.2.2.2.2.2.1, z'.2.2.2.2.2.2.2.2.1, z'.2.2.2.2.2.2.2.2.2.1, z'.2.2.2.2.2.2.2.2.2.2.1, z'.2.2.2.2.2.2.2.2.2.2.2.1, z'.2.2.2.2.2.2.2.2.2.2.2.2, ya_sizes)) : ∀ N m n dep c (z : yr_Z), m ≤ N → m < n →
    pm_rd B K R T m c = some r → pm_row c = 0 → pm_CI K R L dep c → pm_pos c ≤ T → yr_ok c (pm_pos c) z →
    wY_read_68 post (nI s) n 0 yf_down yf_heads yf_paid yf_payload yf_wants yf_name yf_first yf_counts yf_enters yf_most yf_many yf_sent yf_last (z.1) (z.2.1) (z.2.2.1) (z.2.2.2.1) (nI T) (z.2.2.2.2.1) (z.2.2.2.2.2.1) ya_kind ya_repeated ya_how ya_code ya_coming ya_going ya_type ya_headers ya_header ya_queued ya_otherEnded ya_ended ya_finishing ya_queue ya_prefix ya_length ya_got ya_high ya_whole ya_has (an_g tx) ya_frame ya_payloads ya_table ya_out (z.2.2.2.2.2.2.1) (z.2.2.2.2.2.2.2.1) (z.2.2.2.2.2.2.2.2.1) (z.2.2.2.2.2.2.2.2.2.1) (z.2.2.2.2.2.2.2.2.2.2.1) (z.2.2.2.2.2.2.2.2.2.2.2.1) (z.2.2.2.2.2.2.2.2.2.2.2.2) ya_sizes
  | 0, m, n, dep, c, z, h1, _, hrd, _, _, _, _ => by
    have : m = 0 := by omega
    subst this
    simp [pm_rd] at hrd
  | N + 1, m, n, dep, c, z, h1, h2, hrd, hr, I, hp, hz => by
    obtain ⟨m, rfl⟩ : ∃ m', m = m' + 1 := ⟨m - 1, by cases m with
      | zero => simp [pm_rd] at hrd
      | succ m => omega⟩
    obtain ⟨n, rfl⟩ : ∃ n', n = n' + 1 := ⟨n - 1, by omega⟩
    obtain ⟨z1, z2, z3, z4, z5, z6, a1, a2, a3, a4, a5, a6, a7⟩ := z
    dsimp only [yr_ok] at hz
    obtain ⟨rfl, rfl, rfl, rfl, rfl, rD, rA⟩ := hz
    have hr9 := pm_rd_9 _ _ hrd
    have I' := pm_CI_pop I hr
    have hpop := pm_pop_s (lim := pm_lim c) (p := pm_pos c) (pm_at c)
    have h3 := I.2.1
    have hl0 := I.2.2.2.1
    have hz' : yr_ok (pm_popC c) (pm_pos (pm_popC c)) (nI (pm_nn (pm_d c)), nI (pm_nv (pm_d c)), nI (pm_sk c), nI (pm_pos c), z5, nI (pm_pop (pm_lim c) (pm_pos c) (pm_at c)), a1, a2, a3, a4, a5, a6, a7) :=
      ⟨rfl, rfl, rfl, rfl, rfl, rD, fun i hi => rA i (Nat.le_trans hi hpop.1)⟩
    rw [wY_read_68]
    refine br_t rfl ⟨pm_at c + 1, ?_⟩
    have hll : ∀ i, (if i ≤ pm_at c then pm_lim c i else 0) < 2 ^ 31 := by
      intro i
      split
      · rename_i y
        have := pm_lim_le I i y
        omega
      · omega
    have epop : ∀ a, a ≤ pm_at c → pm_pop (fun i => if i ≤ pm_at c then pm_lim c i else 0) (pm_pos c) a = pm_pop (pm_lim c) (pm_pos c) a := by
      intro a
      induction a with
      | zero => intro _; rfl
      | succ a ih =>
        intro ha
        rw [pm_pop, pm_pop, if_pos ha, ih (by omega)]
    refine yr_pop (lim := fun i => if i ≤ pm_at c then pm_lim c i else 0) (by omega) hll (pm_at c) h3 (fun i hi => by rw [if_pos hi]; exact (rA i hi).1) ?_
    rw [epop _ (Nat.le_refl _)]
    unfold wY_read_108
    dsimp only
    rw [(rA 0 (by omega)).1]
    rw [pm_rd, if_neg (fun y => y hr)] at hrd
    have hll0 := pm_lim_le I 0 (by omega)
    refine pk_eq (pm_pos c) (pm_lim c 0) (fun y => ?_) (fun y => ?_)
    · rw [if_pos y] at hrd
      exact H0 (pm_popC c) _ (Option.some.inj hrd).symm hz'
    · rw [if_neg y] at hrd
      refine yr_elem (m := m) (r := r) (c := pm_popC c) (g := pm_goT B K R T (pm_popC c) 0) hz' I' hr hL hK hx hs hT hp rfl (fun c' h => ?_) (fun h => ?_) (fun dep' m' c' z' h4 h5 h6 h7 h8 h9 => ?_) (fun z' h4 => ?_)
      · rw [h, if_pos rfl] at hrd
        exact hrd
      · rw [if_neg h] at hrd
        exact (Option.some.inj hrd).symm
      · exact yr_loop hL hK hx hs hT H0 HE N m' n dep' c' z' (by omega) (by omega) h5 h6 h7 h8 h9
      · obtain ⟨n, rfl⟩ : ∃ n', n = n' + 1 := ⟨n - 1, by omega⟩
        obtain ⟨e1, e2, e3⟩ := yr_a9 r.1 hr9 h4
        have hfin := HE z' h4
        unfold yr_a at hfin
        rw [wY_read_68]
        refine br_f e1 ?_
        by_cases h9 : r.1 = 9
        · rw [if_pos h9] at hfin
          exact br_f (e2 h9) hfin
        · rw [if_neg h9] at hfin
          rw [(e3 h9).2]
          exact br_t (by rw [← (e3 h9).2]; exact (e3 h9).1) hfin
theorem cr_0_I {y : Nat} (hy : y < 4) : pm_CI K R L (fun _ => 0) (cr_0 y L) := by
  refine ⟨⟨Nat.le_refl _, by show 1 ≤ 16; omega, Nat.zero_le _, rfl, fun i _ => ⟨hy, Nat.zero_le _⟩, fun j hj => absurd hj (Nat.not_lt_zero _), fun i j _ hj => absurd hj (Nat.not_lt_zero _), fun m h1 h2 => absurd h2 (by show ¬ m < 1; omega)⟩,
    Nat.zero_le _, rfl, rfl, fun i hi => ⟨by show 0 < 1; omega, by show 0 = i; have : i ≤ 0 := hi; omega⟩, fun i hi => absurd hi (Nat.not_lt_zero _), Nat.zero_le _, fun h => absurd rfl h⟩
theorem yr_read {r : Nat × pm_C} {y : Nat} (hy : y < 4) (hL : L ≤ 200) (hK : cr_K ya_kind ya_repeated K R) (hx : yr_B tx s B) (hs : s < 8) (hT : T ≤ 200)
    (hty : ya_type s = nI y) (hle : ya_length s = nI L) (hgo : ya_got s = nI T) (hrd : pm_Rd B K R T (cr_0 y L) r) {post : Int32 → SY → Prop}
    (H0 : ∀ c' (z' : yr_Z), r = (0, c') → yr_ok c' (pm_pos c') z' → post 0 (yf_down, yf_heads, yf_paid, yf_payload, yf_wants, yf_name, yf_first, yf_counts, yf_enters, yf_most, yf_many, yf_sent, yf_last, z'.1, z'.2.1, z'.2.2.1, z'.2.2.2.1, nI T, z'.2.2.2.2.1, z'.2.2.2.2.2.1, ya_kind, ya_repeated, ya_how, ya_code, ya_coming, ya_going, ya_type, ya_headers, ya_header, ya_queued, ya_otherEnded, ya_ended, ya_finishing, ya_queue, ya_prefix, ya_length, ya_got, ya_high, ya_whole, ya_has, an_g tx, ya_frame, ya_payloads, ya_table, ya_out, z'.2.2.2.2.2.2.1, z'.2.2.2.2.2.2.2.1, z'.2.2.2.2.2.2.2.2.1, z'.2.2.2.2.2.2.2.2.2.1, z'.2.2.2.2.2.2.2.2.2.2.1, z'.2.2.2.2.2.2.2.2.2.2.2.1, z'.2.2.2.2.2.2.2.2.2.2.2.2, ya_sizes)) (HE : ∀ (z' : yr_Z), r.1 ≠ 0 → post (yr_a r.1) (yf_down, yf_heads, yf_paid, yf_payload, yf_wants, yf_name, yf_first, yf_counts, yf_enters, yf_most, yf_many, yf_sent, yf_last, z'.1, z'.2.1, z'.2.2.1, z'.2.2.2.1, nI T, z'.2.2.2.2.1, z'.2.2.2.2.2.1, ya_kind, ya_repeated, ya_how, ya_code, ya_coming, ya_going, ya_type, ya_headers, ya_header, ya_queued, ya_otherEnded, ya_ended, ya_finishing, ya_queue, ya_prefix, ya_length, ya_got, ya_high, ya_whole, ya_has, an_g tx, ya_frame, ya_payloads, ya_table, ya_out, z'.2.2.2.2.2.2.1, z'.2.2.2.2.2.2.2.1, z'.2.2.2.2.2.2.2.2.1, z'.2.2.2.2.2.2.2.2.2.1, z'.2.2.2.2.2.2.2.2.2.2.1, z'.2.2.2.2.2.2.2.2.2.2.2.1, z'.2.2.2.2.2.2.2.2.2.2.2.2, ya_sizes)) :
    wpY_read post (yf_down, yf_heads, yf_paid, yf_payload, yf_wants, yf_name, yf_first, yf_counts, yf_enters, yf_most, yf_many, yf_sent, yf_last, yf_nodes, yf_values, yf_skipped, yf_pos, yf_there, yf_number, yf_at, ya_kind, ya_repeated, ya_how, ya_code, ya_coming, ya_going, ya_type, ya_headers, ya_header, ya_queued, ya_otherEnded, ya_ended, ya_finishing, ya_queue, ya_prefix, ya_length, ya_got, ya_high, ya_whole, ya_has, an_g tx, ya_frame, ya_payloads, ya_table, ya_out, ya_nodeType, ya_valueNode, ya_valueNumber, ya_value, ya_from, ya_limit, ya_inside, ya_sizes) (nI s) := by
  obtain ⟨m, hm⟩ := hrd
  have hi : vp_in (nI s) 8 := vp_in_nI hs (by omega)
  unfold wpY_read
  dsimp only
  rw [nI_clamp (by omega), hty, hle, hgo]
  refine ⟨hi, nm_e ⟨hi, nm_e ⟨hi, nm_e (nm_e ⟨m + 1, ?_⟩)⟩⟩⟩
  refine yr_loop hL hK hx hs hT H0 HE m m (m + 1) (fun _ => 0) (cr_0 y L) (1, 0, 0, 0, yf_number, 0, upd ya_nodeType 0 (nI y), ya_valueNode, ya_valueNumber, ya_value, ya_from, upd ya_limit 0 (nI L), upd ya_inside 0 0) (Nat.le_refl _) (by omega) hm rfl (cr_0_I hy) (Nat.zero_le _) ?_
  refine ⟨rfl, rfl, rfl, rfl, rfl, ⟨fun i hi => ?_, fun j hj => absurd hj (Nat.not_lt_zero _)⟩, fun i hi => ?_⟩
  · have : i = 0 := by
      have : i < 1 := hi
      omega
    subst this; rfl
  · have : i = 0 := by
      have : i ≤ 0 := hi
      omega
    subst this; exact ⟨rfl, rfl⟩
end
