/-! K: how the reference reads an element -/
section
/-- nodes, values, skipped, pos, number, at, and the arrays of a reading -/
abbrev yr_Z : Type := Int32 × Int32 × Int32 × Int32 × Int32 × Int32 × (Nat → Int32) × (Nat → Int32) × (Nat → Int32) × (Nat → Int32) × (Nat → Int32) × (Nat → Int32) × (Nat → Int32)
def yr_ok (c : pm_C) (q : Nat) (z : yr_Z) : Prop :=
  z.1 = nI (pm_nn (pm_d c)) ∧ z.2.1 = nI (pm_nv (pm_d c)) ∧ z.2.2.1 = nI (pm_sk c) ∧ z.2.2.2.1 = nI q ∧ z.2.2.2.2.2.1 = nI (pm_at c) ∧
  yr_D (pm_d c) z.2.2.2.2.2.2.1 z.2.2.2.2.2.2.2.1 z.2.2.2.2.2.2.2.2.1 z.2.2.2.2.2.2.2.2.2.1 z.2.2.2.2.2.2.2.2.2.2.1 ∧
  (∀ i, i ≤ pm_at c → z.2.2.2.2.2.2.2.2.2.2.2.1 i = nI (pm_lim c i) ∧ z.2.2.2.2.2.2.2.2.2.2.2.2 i = nI (pm_ins c i))
theorem yr_bt {x i : Nat} (hx : x < 256) (hi : 8 ≤ i) : bt (nI x) i = false := by
  unfold bt
  show (BitVec.ofNat 32 x).getLsbD i = false
  rw [BitVec.getLsbD_ofNat, Nat.testBit_lt_two_pow (Nat.lt_of_lt_of_le hx (by have := Nat.pow_le_pow_right (show 0 < 2 by omega) hi; omega))]
  simp
theorem yr_fs {B : Nat → Nat} {q : Nat} (hB : ∀ i, B i < 256) :
    ((((((((0 : Int32) <<< ((8 : Int32) &&& 31)) ||| nI (B (q + 3))) <<< ((8 : Int32) &&& 31)) ||| nI (B (q + 2))) <<< ((8 : Int32) &&& 31)) ||| nI (B (q + 1))) <<< ((8 : Int32) &&& 31)) ||| nI (B (q + 0)) = pm_fs B q 4 := by
  have e : pm_fs B q 4 = (((0 ||| (nI (B (q + 0)) <<< (nI 0 &&& 31))) ||| (nI (B (q + 1)) <<< (nI 8 &&& 31))) ||| (nI (B (q + 2)) <<< (nI 16 &&& 31))) ||| (nI (B (q + 3)) <<< (nI 24 &&& 31)) := rfl
  rw [e]
  apply b_ext
  intro i hi
  have h0 : ∀ j, 8 ≤ j → bt (nI (B (q + 0))) j = false := fun j hj => yr_bt (hB _) hj
  have h1 : ∀ j, 8 ≤ j → bt (nI (B (q + 1))) j = false := fun j hj => yr_bt (hB _) hj
  have h2 : ∀ j, 8 ≤ j → bt (nI (B (q + 2))) j = false := fun j hj => yr_bt (hB _) hj
  have h3 : ∀ j, 8 ≤ j → bt (nI (B (q + 3))) j = false := fun j hj => yr_bt (hB _) hj
  generalize nI (B (q + 0)) = b0 at *
  generalize nI (B (q + 1)) = b1 at *
  generalize nI (B (q + 2)) = b2 at *
  generalize nI (B (q + 3)) = b3 at *
  rw [b_or, b_or, b_or, b_or, b_or, b_shl 24 (by omega) _ hi, b_shl 16 (by omega) _ hi, b_shl 8 (by omega) _ hi, b_shl 0 (by omega) _ hi, b_shl8 _ hi]
  rw [b_or, b_0, b_shl8 _ (show i - 8 < 32 by omega), b_or, b_shl8 _ (show i - 8 - 8 < 32 by omega), b_or, b_shl8 _ (show i - 8 - 8 - 8 < 32 by omega), b_0]
  have d : ∀ (p : Prop) [Decidable p], p → decide p = true := fun p _ h => by simp [h]
  have f : ∀ (p : Prop) [Decidable p], ¬ p → decide p = false := fun p _ h => by simp [h]
  by_cases g1 : i < 8
  · rw [f (8 ≤ i) (by omega), f (16 ≤ i) (by omega), f (24 ≤ i) (by omega), d (0 ≤ i) (by omega)]; simp
  by_cases g2 : i < 16
  · rw [d (8 ≤ i) (by omega), f (16 ≤ i) (by omega), f (24 ≤ i) (by omega), d (0 ≤ i) (by omega), f (8 ≤ i - 8) (by omega), h0 i (by omega), h0 (i - 0) (by omega)]; simp
  by_cases g3 : i < 24
  · rw [d (8 ≤ i) (by omega), d (16 ≤ i) (by omega), f (24 ≤ i) (by omega), d (0 ≤ i) (by omega), d (8 ≤ i - 8) (by omega), f (8 ≤ i - 8 - 8) (by omega), h0 i (by omega), h0 (i - 0) (by omega), h1 (i - 8) (by omega)]
    simp [show i - 8 - 8 = i - 16 by omega]
  · rw [d (8 ≤ i) (by omega), d (16 ≤ i) (by omega), d (24 ≤ i) (by omega), d (0 ≤ i) (by omega), d (8 ≤ i - 8) (by omega), d (8 ≤ i - 8 - 8) (by omega), h0 i (by omega), h0 (i - 0) (by omega), h1 (i - 8) (by omega), h2 (i - 8 - 8) (by omega), h2 (i - 16) (by omega)]
    simp [show i - 8 - 8 - 8 = i - 24 by omega]
theorem yr_k : ∀ k, k ≤ 8 → (nI k + (-1) = 2 ↔ k = 3) ∧ (nI k + (-1) = 1 ↔ k = 2) ∧ (nI k + (-1) < 0 ↔ k = 0) ∧ (3 ≤ nI k + (-1) ↔ 4 ≤ k) ∧ (nI k + (-1) ≤ 3 ↔ k ≤ 4) ∧ (nI k + (-1) = 3 ↔ k = 4) ∧ (4 < k → nI k + (-1) - 4 = nI (k - 5)) := by
  decide +kernel

theorem yr_ne : ∀ x, x ≤ 9 → x ≠ 0 → ¬ yr_c x = 0 := by
  unfold yr_c
  decide +kernel
theorem pm_vr_lt {B : Nat → Nat} {p e T : Nat} : ∀ f k, (pm_vr B p e T f k).1 ≤ 9
  | 0, k => by show 3 ≤ 9; omega
  | f + 1, k => by
    rw [pm_vr]
    split
    · show 4 ≤ 9; omega
    split
    · show 9 ≤ 9; omega
    split
    · show 0 ≤ 9; omega
    · exact pm_vr_lt f (k + 1)
variable {yf_down yf_heads yf_paid yf_payload yf_wants yf_name yf_first yf_counts yf_enters yf_most yf_many yf_sent yf_last yf_nodes yf_values yf_skipped yf_pos yf_there yf_number yf_at : Int32} {ya_kind ya_repeated ya_how ya_code ya_coming ya_going ya_type ya_headers ya_header ya_queued ya_otherEnded ya_ended ya_finishing ya_queue ya_prefix ya_length ya_got ya_high ya_whole ya_has ya_bytes ya_frame ya_payloads ya_table ya_out ya_nodeType ya_valueNode ya_valueNumber ya_value ya_from ya_limit ya_inside ya_sizes : Nat → Int32} {s q e T : Nat} {tx B : Nat → Nat} {K : Nat → Nat} {R : Nat → Bool} {L : Nat} {dep : Nat → Nat} {c : pm_C} {z : yr_Z}
theorem pm_end_le (I : pm_CI K R L dep c) : pm_end c ≤ L := by
  have h := pm_lim_le I (pm_at c) (Nat.le_refl _)
  unfold pm_end
  split
  · exact h
  · rename_i g
    exact Nat.le_trans (I.2.2.2.2.2.2.2 g).1 h
/-- a value is kept, at the end of an element -/
theorem yr_kept {n p : Nat} {g : Nat × pm_C} {v : Int32} {st : Nat} {x5 : Int32} {a1 a2 a3 a4 a5 a6 a7 : Nat → Int32} (I : pm_CI K R L dep c) (hK : cr_K ya_kind ya_repeated K R)
    (rD : yr_D (pm_d c) a1 a2 a3 a4 a5) (rA : ∀ i, i ≤ pm_at c → a6 i = nI (pm_lim c i) ∧ a7 i = nI (pm_ins c i))
    (hn : 1 ≤ n) (hn' : n ≤ 15) (hg : g = pm_fin R c n p v st) {post : Int32 → SY → Prop}
    (H0 : ∀ c' (z' : yr_Z), g = (0, c') → yr_ok c' (pm_pos c') z' → post 0 (yf_down, yf_heads, yf_paid, yf_payload, yf_wants, yf_name, yf_first, yf_counts, yf_enters, yf_most, yf_many, yf_sent, yf_last, z'.1, z'.2.1, z'.2.2.1, z'.2.2.2.1, nI T, z'.2.2.2.2.1, z'.2.2.2.2.2.1, ya_kind, ya_repeated, ya_how, ya_code, ya_coming, ya_going, ya_type, ya_headers, ya_header, ya_queued, ya_otherEnded, ya_ended, ya_finishing, ya_queue, ya_prefix, ya_length, ya_got, ya_high, ya_whole, ya_has, an_g tx, ya_frame, ya_payloads, ya_table, ya_out, z'.2.2.2.2.2.2.1, z'.2.2.2.2.2.2.2.1, z'.2.2.2.2.2.2.2.2.1, z'.2.2.2.2.2.2.2.2.2.1, z'.2.2.2.2.2.2.2.2.2.2.1, z'.2.2.2.2.2.2.2.2.2.2.2.1, z'.2.2.2.2.2.2.2.2.2.2.2.2, ya_sizes)) (HE : ∀ x (z' : yr_Z), g.1 = x → x ≠ 0 → post (yr_c x) (yf_down, yf_heads, yf_paid, yf_payload, yf_wants, yf_name, yf_first, yf_counts, yf_enters, yf_most, yf_many, yf_sent, yf_last, z'.1, z'.2.1, z'.2.2.1, z'.2.2.2.1, nI T, z'.2.2.2.2.1, z'.2.2.2.2.2.1, ya_kind, ya_repeated, ya_how, ya_code, ya_coming, ya_going, ya_type, ya_headers, ya_header, ya_queued, ya_otherEnded, ya_ended, ya_finishing, ya_queue, ya_prefix, ya_length, ya_got, ya_high, ya_whole, ya_has, an_g tx, ya_frame, ya_payloads, ya_table, ya_out, z'.2.2.2.2.2.2.1, z'.2.2.2.2.2.2.2.1, z'.2.2.2.2.2.2.2.2.1, z'.2.2.2.2.2.2.2.2.2.1, z'.2.2.2.2.2.2.2.2.2.2.1, z'.2.2.2.2.2.2.2.2.2.2.2.1, z'.2.2.2.2.2.2.2.2.2.2.2.2, ya_sizes)) :
    wpY_keep post (yf_down, yf_heads, yf_paid, yf_payload, yf_wants, yf_name, yf_first, yf_counts, yf_enters, yf_most, yf_many, yf_sent, yf_last, nI (pm_nn (pm_d c)), nI (pm_nv (pm_d c)), nI (pm_sk c), nI p, nI T, x5, nI (pm_at c), ya_kind, ya_repeated, ya_how, ya_code, ya_coming, ya_going, ya_type, ya_headers, ya_header, ya_queued, ya_otherEnded, ya_ended, ya_finishing, ya_queue, ya_prefix, ya_length, ya_got, ya_high, ya_whole, ya_has, an_g tx, ya_frame, ya_payloads, ya_table, ya_out, a1, a2, a3, a4, a5, a6, a7, ya_sizes) (nI n) v (nI st) := by
  have h3 := I.2.1
  have hin := I.2.2.2.2.1 (pm_at c) (Nat.le_refl _)
  unfold pm_fin at hg
  rw [if_neg (by omega)] at hg
  refine yr_keep I.1 rD hK (by omega) (rA _ (Nat.le_refl _)).2 hin.1 hn hn' (fun h48 => ?_) (fun h48 => ?_)
  · have hg5 : g = (5, c) := by
      rw [hg]; exact if_pos h48
    exact HE 5 (nI (pm_nn (pm_d c)), nI (pm_nv (pm_d c)), nI (pm_sk c), nI p, x5, nI (pm_at c), a1, a2, a3, a4, a5, a6, a7) (by rw [hg5]) (by omega)
  · have hg0 : g = (0, (p, pm_at c, pm_row c, pm_fld c, pm_sk c, pm_lim c, pm_ins c, pm_kp R (pm_d c) (pm_nd c) n v st)) := by
      rw [hg]; exact if_neg h48
    exact H0 _ (nI (pm_nn (pm_d c)), nI (pm_nv (pm_kp R (pm_d c) (pm_nd c) n v st)), nI (pm_sk c), nI p, x5, nI (pm_at c), a1,
      upd a2 (pm_pl R (pm_d c) (pm_nd c) n) (nI (pm_nd c)), upd a3 (pm_pl R (pm_d c) (pm_nd c) n) (nI n), upd a4 (pm_pl R (pm_d c) (pm_nd c) n) v, upd a5 (pm_pl R (pm_d c) (pm_nd c) n) (nI st), a6, a7) hg0
      ⟨rfl, rfl, rfl, rfl, rfl, yr_D_kp rD, rA⟩
theorem yr_single {n k : Nat} {g : Nat × pm_C} (hz : yr_ok c q z) (I : pm_CI K R L dep c) (hL : L ≤ 200) (hK : cr_K ya_kind ya_repeated K R) (hx : yr_B tx s B) (hs : s < 8) (hT : T ≤ 200)
    (hq : q ≤ T) (hqe : q ≤ e) (he : e = pm_end c) (hn : 1 ≤ n) (hn' : n ≤ 15) (hk : K (pm_fj c n) = k) (hk1 : 1 ≤ k) (hk3 : k ≤ 3)
    (hg : g = if k = 3 then pm_goF B R T c n q 4 else pm_goV B K R T c n q 0) {post : Int32 → SY → Prop}
    (H0 : ∀ c' (z' : yr_Z), g = (0, c') → yr_ok c' (pm_pos c') z' → post 0 (yf_down, yf_heads, yf_paid, yf_payload, yf_wants, yf_name, yf_first, yf_counts, yf_enters, yf_most, yf_many, yf_sent, yf_last, z'.1, z'.2.1, z'.2.2.1, z'.2.2.2.1, nI T, z'.2.2.2.2.1, z'.2.2.2.2.2.1, ya_kind, ya_repeated, ya_how, ya_code, ya_coming, ya_going, ya_type, ya_headers, ya_header, ya_queued, ya_otherEnded, ya_ended, ya_finishing, ya_queue, ya_prefix, ya_length, ya_got, ya_high, ya_whole, ya_has, an_g tx, ya_frame, ya_payloads, ya_table, ya_out, z'.2.2.2.2.2.2.1, z'.2.2.2.2.2.2.2.1, z'.2.2.2.2.2.2.2.2.1, z'.2.2.2.2.2.2.2.2.2.1, z'.2.2.2.2.2.2.2.2.2.2.1, z'.2.2.2.2.2.2.2.2.2.2.2.1, z'.2.2.2.2.2.2.2.2.2.2.2.2, ya_sizes)) (HE : ∀ x (z' : yr_Z), g.1 = x → x ≠ 0 → post (yr_c x) (yf_down, yf_heads, yf_paid, yf_payload, yf_wants, yf_name, yf_first, yf_counts, yf_enters, yf_most, yf_many, yf_sent, yf_last, z'.1, z'.2.1, z'.2.2.1, z'.2.2.2.1, nI T, z'.2.2.2.2.1, z'.2.2.2.2.2.1, ya_kind, ya_repeated, ya_how, ya_code, ya_coming, ya_going, ya_type, ya_headers, ya_header, ya_queued, ya_otherEnded, ya_ended, ya_finishing, ya_queue, ya_prefix, ya_length, ya_got, ya_high, ya_whole, ya_has, an_g tx, ya_frame, ya_payloads, ya_table, ya_out, z'.2.2.2.2.2.2.1, z'.2.2.2.2.2.2.2.1, z'.2.2.2.2.2.2.2.2.1, z'.2.2.2.2.2.2.2.2.2.1, z'.2.2.2.2.2.2.2.2.2.2.1, z'.2.2.2.2.2.2.2.2.2.2.2.1, z'.2.2.2.2.2.2.2.2.2.2.2.2, ya_sizes)) :
    wpY_single post (yf_down, yf_heads, yf_paid, yf_payload, yf_wants, yf_name, yf_first, yf_counts, yf_enters, yf_most, yf_many, yf_sent, yf_last, z.1, z.2.1, z.2.2.1, z.2.2.2.1, nI T, z.2.2.2.2.1, z.2.2.2.2.2.1, ya_kind, ya_repeated, ya_how, ya_code, ya_coming, ya_going, ya_type, ya_headers, ya_header, ya_queued, ya_otherEnded, ya_ended, ya_finishing, ya_queue, ya_prefix, ya_length, ya_got, ya_high, ya_whole, ya_has, an_g tx, ya_frame, ya_payloads, ya_table, ya_out, z.2.2.2.2.2.2.1, z.2.2.2.2.2.2.2.1, z.2.2.2.2.2.2.2.2.1, z.2.2.2.2.2.2.2.2.2.1, z.2.2.2.2.2.2.2.2.2.2.1, z.2.2.2.2.2.2.2.2.2.2.2.1, z.2.2.2.2.2.2.2.2.2.2.2.2, ya_sizes) (nI s) (nI k + (-1)) (nI n) (nI e) := by
  obtain ⟨z1, z2, z3, z4, z5, z6, a1, a2, a3, a4, a5, a6, a7⟩ := z
  dsimp only [yr_ok] at hz
  obtain ⟨rfl, rfl, rfl, rfl, rfl, rD, rA⟩ := hz
  have hkk := yr_k k (by omega)
  have he2 := pm_end_le I
  unfold wpY_single
  by_cases h3 : k = 3
  · rw [if_pos h3] at hg
    refine br_t (hkk.1.mpr h3) ?_
    refine yr_skip (n := 4) (by omega) hT hq hqe (by omega) (fun g1 g2 => ?_) (fun g1 g2 => ?_) (fun g1 g2 => ?_) (fun g1 g2 => ?_)
    · have hg9 : g = (9, c) := by rw [hg]; exact pm_goF_9 (by omega) (by omega)
      exact br_f (by decide) (HE 9 (nI (pm_nn (pm_d c)), nI (pm_nv (pm_d c)), nI (pm_sk c), nI q, z5, nI (pm_at c), a1, a2, a3, a4, a5, a6, a7) (by rw [hg9]) (by omega))
    · have hg4 : g = (4, c) := by rw [hg]; exact pm_goF_e (by omega) (by omega)
      exact br_f (by decide) (HE 4 (nI (pm_nn (pm_d c)), nI (pm_nv (pm_d c)), nI (pm_sk c), nI q, z5, nI (pm_at c), a1, a2, a3, a4, a5, a6, a7) (by rw [hg4]) (by omega))
    · have hg9 : g = (9, c) := by rw [hg]; exact pm_goF_9 (by omega) (by omega)
      exact br_f (by decide) (HE 9 (nI (pm_nn (pm_d c)), nI (pm_nv (pm_d c)), nI (pm_sk c), nI q, z5, nI (pm_at c), a1, a2, a3, a4, a5, a6, a7) (by rw [hg9]) (by omega))
    · rw [pm_goF_d (by omega) (by omega)] at hg
      refine br_t rfl (br_f (fun y => by have := hkk.2.1.mp y; omega) ?_)
      unfold wY_single_65
      refine br_t (hkk.1.mpr h3) ⟨5, ?_⟩
      have hix : ∀ i, i < 4 → 200 * nI s + nI q + nI i = 200 * nI s + nI (q + i) := by
        intro i _
        rw [Int32.add_assoc, nI_add]
      have hb : ∀ i, i < 4 → vp_in (200 * nI s + nI q + nI i) 1600 ∧ (an_g tx (200 * nI s + nI q + nI i).toNatClampNeg) &&& 255 = nI (B (q + i)) := by
        intro i hi
        rw [hix i hi]
        exact yr_by hx hs (by omega)
      rw [wY_single_76]
      refine br_f (by decide) ⟨(hb 3 (by omega)).1, nm_r (by rw [show (3 : Int32) = nI 3 from rfl, (hb 3 (by omega)).2]) (nm_r (e' := nI 2) (by decide) ?_)⟩
      rw [wY_single_76]
      refine br_f (by decide) ⟨(hb 2 (by omega)).1, nm_r (by rw [(hb 2 (by omega)).2]) (nm_r (e' := nI 1) (by decide) ?_)⟩
      rw [wY_single_76]
      refine br_f (by decide) ⟨(hb 1 (by omega)).1, nm_r (by rw [(hb 1 (by omega)).2]) (nm_r (e' := nI 0) (by decide) ?_)⟩
      rw [wY_single_76]
      refine br_f (by decide) ⟨(hb 0 (by omega)).1, nm_r (e' := pm_fs B q 4) (by rw [(hb 0 (by omega)).2]; exact yr_fs hx.2.1) (nm_r (e' := -1) (by decide) ?_)⟩
      rw [wY_single_76]
      refine br_t (by decide) ?_
      unfold wY_single_115
      exact yr_kept (st := 0) I hK rD rA hn hn' hg H0 HE
  · rw [if_neg h3] at hg
    refine br_f (fun y => h3 (hkk.1.mp y)) ?_
    refine yr_var hx hs hT (by omega) hq (fun cc k' hv => ?_)
    unfold pm_goV at hg
    rw [← he, show 10 - 0 = 10 from rfl, hv] at hg
    dsimp only at hg
    by_cases hc : cc = 0
    · subst hc
      rw [if_pos rfl] at hg
      refine br_t rfl ?_
      refine br_c (fun y => nm_e ?_) (fun y => ?_)
      · unfold wY_single_65
        refine br_f (fun y => h3 (hkk.1.mp y)) ?_
        unfold wY_single_115
        have hk2 := hkk.2.1.mp y
        unfold pm_val at hg
        rw [hk, if_pos hk2] at hg
        exact yr_kept (st := 0) I hK rD rA hn hn' hg H0 HE
      · unfold wY_single_65
        refine br_f (fun y => h3 (hkk.1.mp y)) ?_
        unfold wY_single_115
        unfold pm_val at hg
        rw [hk, if_neg (fun z => y (hkk.2.1.mpr z))] at hg
        exact yr_kept (st := 0) I hK rD rA hn hn' hg H0 HE
    · rw [if_neg hc] at hg
      refine br_f ?_ (HE cc (nI (pm_nn (pm_d c)), nI (pm_nv (pm_d c)), nI (pm_sk c), nI (q + k'), _, nI (pm_at c), a1, a2, a3, a4, a5, a6, a7) (by rw [hg]) hc)
      exact yr_ne cc (by have := pm_vr_lt (B := B) (p := q) (e := e) (T := T) 10 0; rw [hv] at this; exact this) hc
theorem pm_fin_r {f p st : Nat} {v : Int32} : pm_row (pm_fin R c f p v st).2 = pm_row c := by
  unfold pm_fin
  split
  · rfl
  split
  · rfl
  · rfl
theorem pm_goV_r {B : Nat → Nat} {f d : Nat} : pm_row (pm_goV B K R T c f q d).2 = pm_row c := by
  unfold pm_goV
  split
  · exact pm_fin_r
  · rfl
theorem pm_goF_r {B : Nat → Nat} {f w : Nat} : pm_row (pm_goF B R T c f q w).2 = pm_row c := by
  unfold pm_goF
  split
  · split <;> rfl
  split
  · rfl
  · exact pm_fin_r
theorem yr_nI (x : Int32) : x = nI x.toBitVec.toNat := by
  obtain ⟨n, hn, rfl⟩ := wb_of32 x
  rw [pk_tn hn]
theorem yr_u3 (x : Int32) : (x.toUInt32 >>> ((3 : Int32).toUInt32 &&& Int32.toUInt32 31)).toInt32 = nI (x.toBitVec.toNat / 8) := by
  obtain ⟨n, hn, rfl⟩ := wb_of32 x
  rw [pk_tn hn, pk_ushrN hn 3 3 (by decide)]
theorem pm_c9_fin {f p st : Nat} {v : Int32} : (pm_fin R c f p v st).1 ≤ 9 := by
  unfold pm_fin
  split
  · show 0 ≤ 9; omega
  split
  · show 5 ≤ 9; omega
  · show 0 ≤ 9; omega
theorem pm_c9_V {B : Nat → Nat} {f d : Nat} : (pm_goV B K R T c f q d).1 ≤ 9 := by
  unfold pm_goV
  split
  · exact pm_c9_fin
  · exact pm_vr_lt _ _
theorem pm_c9_F {B : Nat → Nat} {f w : Nat} : (pm_goF B R T c f q w).1 ≤ 9 := by
  unfold pm_goF
  split
  · split
    · show 4 ≤ 9; omega
    · show 9 ≤ 9; omega
  split
  · show 9 ≤ 9; omega
  · exact pm_c9_fin
theorem pm_c9_S {B : Nat → Nat} : (pm_goS B K R T c).1 ≤ 9 := by
  unfold pm_goS
  split
  · exact pm_c9_F
  · exact pm_c9_V
/-- a row of singles -/
theorem yr_packed {r : Nat × pm_C} (hL : L ≤ 200) (hK : cr_K ya_kind ya_repeated K R) (hx : yr_B tx s B) (hs : s < 8) (hT : T ≤ 200) {post : Int32 → SY → Prop} {kk n e : Nat} : ∀ m c (z : yr_Z),
    pm_rd B K R T m c = some r → pm_row c = e → e ≠ 0 → pm_fld c = n → K (pm_fj c n) = kk → pm_CI K R L dep c → yr_ok c (pm_pos c) z → pm_pos c ≤ T →
    (∀ m' c' (z' : yr_Z), m' < m → pm_rd B K R T m' c' = some r → pm_row c' = 0 → pm_CI K R L dep c' → pm_pos c' ≤ T → yr_ok c' (pm_pos c') z' → post 0 (yf_down, yf_heads, yf_paid, yf_payload, yf_wants, yf_name, yf_first, yf_counts, yf_enters, yf_most, yf_many, yf_sent, yf_last, z'.1, z'.2.1, z'.2.2.1, z'.2.2.2.1, nI T, z'.2.2.2.2.1, z'.2.2.2.2.2.1, ya_kind, ya_repeated, ya_how, ya_code, ya_coming, ya_going, ya_type, ya_headers, ya_header, ya_queued, ya_otherEnded, ya_ended, ya_finishing, ya_queue, ya_prefix, ya_length, ya_got, ya_high, ya_whole, ya_has, an_g tx, ya_frame, ya_payloads, ya_table, ya_out, z'.2.2.2.2.2.2.1, z'.2.2.2.2.2.2.2.1, z'.2.2.2.2.2.2.2.2.1, z'.2.2.2.2.2.2.2.2.2.1, z'.2.2.2.2.2.2.2.2.2.2.1, z'.2.2.2.2.2.2.2.2.2.2.2.1, z'.2.2.2.2.2.2.2.2.2.2.2.2, ya_sizes)) →
    (∀ (z' : yr_Z), r.1 ≠ 0 → post (yr_c r.1) (yf_down, yf_heads, yf_paid, yf_payload, yf_wants, yf_name, yf_first, yf_counts, yf_enters, yf_most, yf_many, yf_sent, yf_last, z'.1, z'.2.1, z'.2.2.1, z'.2.2.2.1, nI T, z'.2.2.2.2.1, z'.2.2.2.2.2.1, ya_kind, ya_repeated, ya_how, ya_code, ya_coming, ya_going, ya_type, ya_headers, ya_header, ya_queued, ya_otherEnded, ya_ended, ya_finishing, ya_queue, ya_prefix, ya_length, ya_got, ya_high, ya_whole, ya_has, an_g tx, ya_frame, ya_payloads, ya_table, ya_out, z'.2.2.2.2.2.2.1, z'.2.2.2.2.2.2.2.1, z'.2.2.2.2.2.2.2.2.1, z'.2.2.2.2.2.2.2.2.2.1, z'.2.2.2.2.2.2.2.2.2.2.1, z'.2.2.2.2.2.2.2.2.2.2.2.1, z'.2.2.2.2.2.2.2.2.2.2.2.2, ya_sizes)) →
    wY_packed_3 post (nI s) (nI kk + (-1)) (nI n) (nI e) (m + 1) 0 yf_down yf_heads yf_paid yf_payload yf_wants yf_name yf_first yf_counts yf_enters yf_most yf_many yf_sent yf_last (z.1) (z.2.1) (z.2.2.1) (z.2.2.2.1) (nI T) (z.2.2.2.2.1) (z.2.2.2.2.2.1) ya_kind ya_repeated ya_how ya_code ya_coming ya_going ya_type ya_headers ya_header ya_queued ya_otherEnded ya_ended ya_finishing ya_queue ya_prefix ya_length ya_got ya_high ya_whole ya_has (an_g tx) ya_frame ya_payloads ya_table ya_out (z.2.2.2.2.2.2.1) (z.2.2.2.2.2.2.2.1) (z.2.2.2.2.2.2.2.2.1) (z.2.2.2.2.2.2.2.2.2.1) (z.2.2.2.2.2.2.2.2.2.2.1) (z.2.2.2.2.2.2.2.2.2.2.2.1) (z.2.2.2.2.2.2.2.2.2.2.2.2) ya_sizes
  | 0, c, z, hrd, _, _, _, _, _, _, _, _, _ => absurd hrd (by simp [pm_rd])
  | m + 1, c, z, hrd, hrow, he0, hfl, hkk, I, hz, hpT, H0, HE => by
    have hr0 : pm_row c ≠ 0 := by omega
    obtain ⟨k1, k2, k3, k4, k5, k6⟩ := I.2.2.2.2.2.2.2 hr0
    have hend : pm_end c = pm_row c := by unfold pm_end; exact if_neg hr0
    have hpe := I.2.2.2.2.2.2.1
    have hel := pm_end_le I
    rw [pm_rd, if_pos hr0] at hrd
    rw [hfl] at k2 k3 k4 k5 k6
    rw [wY_packed_3]
    refine br_t rfl ?_
    have hz4 : z.2.2.2.1 = nI (pm_pos c) := hz.2.2.2.1
    rw [hz4]
    refine pk_le e (pm_pos c) (fun g => ?_) (fun g => ?_)
    · rw [if_pos (by omega)] at hrd
      rw [← hz4]
      exact H0 m (pm_row0 c) z (by omega) hrd rfl (pm_CI_row0 I hr0 (by omega)) hpT hz
    · rw [if_neg (by omega)] at hrd
      rw [← hz4]
      refine yr_single (g := pm_goS B K R T c) hz I hL hK hx hs hT hpT (by omega) (by omega) k2 k3 hkk (by omega) (by omega) ?_ (fun c' z' hg hz' => ?_) (fun x z' hg hx0 => ?_)
      · unfold pm_goS
        rw [hfl, hkk]
      · rw [hg] at hrd
        rw [if_pos rfl] at hrd
        obtain ⟨q1, q2, q3, q4, q5, q6, q7, q8, q9, q10⟩ := pm_goS_I I hr0 (by omega) hpT hg
        refine yr_packed hL hK hx hs hT m c' z' hrd (by omega) he0 (by omega) ?_ q1 hz' q3 (fun m' c'' z'' h1 => H0 m' c'' z'' (by omega)) HE
        rw [← hkk]
        unfold pm_fj pm_nd
        rw [q10, q9, q5]
      · rw [if_neg (by rw [hg]; exact hx0)] at hrd
        have hr : pm_goS B K R T c = r := Option.some.inj hrd
        rw [wY_packed_3]
        have h9 : x ≤ 9 := by
          rw [← hg]; exact pm_c9_S
        refine br_f (yr_ne x h9 hx0) ?_
        have hxr : r.1 = x := by rw [← hr]; exact hg
        rw [← hxr]
        exact HE z' (by rw [hxr]; exact hx0)
end
