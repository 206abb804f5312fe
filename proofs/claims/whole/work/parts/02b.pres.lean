/-! C2: an element keeps what holds -/
section
variable {B : Nat → Nat} {K : Nat → Nat} {R : Nat → Bool} {L T p q e d w f n : Nat} {dep : Nat → Nat} {c c' : pm_C}
theorem pm_w_0 : ∀ k, k ≤ 8 → (pm_w k = 0 ↔ k < 3) ∧ (pm_w k = 5 ↔ k = 3) ∧ (pm_w k = 2 ↔ 3 < k) := by
  decide
theorem pm_vr_ok {k' : Nat} : ∀ f k, p + k ≤ e → p + k ≤ T → pm_vr B p e T f k = (0, k') → k < k' ∧ p + k' ≤ e ∧ p + k' ≤ T
  | 0, k, _, _, h => by
    have : (3 : Nat) = 0 := congrArg Prod.fst h
    omega
  | f + 1, k, h1, h2, h => by
    rw [pm_vr] at h
    split at h
    · have : (4 : Nat) = 0 := congrArg Prod.fst h
      omega
    split at h
    · have : (9 : Nat) = 0 := congrArg Prod.fst h
      omega
    split at h
    · have : k + 1 = k' := congrArg Prod.snd h
      omega
    · have := pm_vr_ok f (k + 1) (by omega) (by omega) h
      omega
/-- what a number must be for its field -/
def pm_fok (K : Nat → Nat) (L : Nat) (c : pm_C) (f : Nat) (v : Int32) (st : Nat) : Prop :=
  f = 0 ∨ (1 ≤ f ∧ f ≤ 15 ∧ K (pm_fj c f) ≠ 0 ∧ K (pm_fj c f) ≤ 4 ∧ (K (pm_fj c f) = 4 → ∃ m, v = nI m ∧ st + m ≤ L))
theorem pm_fin_I {v : Int32} {st : Nat} (I : pm_CI K R L dep c) (hp : p ≤ pm_end c) (hf : pm_fok K L c f v st) (h : pm_fin R c f p v st = (0, c')) :
    pm_CI K R L dep c' ∧ pm_pos c' = p ∧ pm_at c' = pm_at c ∧ pm_row c' = pm_row c ∧ pm_fld c' = pm_fld c ∧ pm_lim c' = pm_lim c ∧ pm_ins c' = pm_ins c ∧ pm_nt (pm_d c') = pm_nt (pm_d c) := by
  unfold pm_fin at h
  by_cases h0 : f = 0
  · rw [if_pos h0] at h
    have e : _ = c' := congrArg Prod.snd h
    subst e
    exact ⟨pm_CI_p I hp, rfl, rfl, rfl, rfl, rfl, rfl, rfl⟩
  · rw [if_neg h0] at h
    split at h
    · have : (5 : Nat) = 0 := congrArg Prod.fst h
      omega
    · rename_i h48
      have e : _ = c' := congrArg Prod.snd h
      subst e
      rcases hf with hf | ⟨f1, f2, f3, f4, f5⟩
      · exact absurd hf h0
      · exact ⟨pm_CI_kp I hp f1 f2 f3 f4 h48 f5, rfl, rfl, rfl, rfl, rfl, rfl, rfl⟩
theorem pm_goV_I (I : pm_CI K R L dep c) (hq : q ≤ pm_end c) (hqT : q ≤ T) (hf : ∀ v, pm_fok K L c f v 0) (h : pm_goV B K R T c f q 0 = (0, c')) :
    pm_CI K R L dep c' ∧ q < pm_pos c' ∧ pm_pos c' ≤ T ∧ pm_pos c' ≤ pm_end c ∧ pm_at c' = pm_at c ∧ pm_row c' = pm_row c ∧ pm_fld c' = pm_fld c ∧ pm_lim c' = pm_lim c ∧ pm_ins c' = pm_ins c ∧ pm_nt (pm_d c') = pm_nt (pm_d c) := by
  unfold pm_goV at h
  split at h
  · rename_i h0
    obtain ⟨k', hk⟩ : ∃ k', pm_vr B q (pm_end c) T (10 - 0) 0 = (0, k') := ⟨_, Prod.ext h0 rfl⟩
    have hv := pm_vr_ok _ _ (by omega) (by omega) hk
    rw [hk] at h
    obtain ⟨r1, r2, r3⟩ := pm_fin_I I (by show q + k' ≤ _; omega) (hf _) h
    refine ⟨r1, ?_, ?_, ?_, r3⟩ <;> rw [r2] <;> show _ <;> dsimp only <;> omega
  · rename_i h0
    exact absurd (congrArg Prod.fst h) h0
theorem pm_goF_I (I : pm_CI K R L dep c) (hw : 0 < w) (hf : ∀ v, pm_fok K L c f v 0) (h : pm_goF B R T c f q w = (0, c')) :
    pm_CI K R L dep c' ∧ q < pm_pos c' ∧ pm_pos c' ≤ T ∧ pm_pos c' ≤ pm_end c ∧ pm_at c' = pm_at c ∧ pm_row c' = pm_row c ∧ pm_fld c' = pm_fld c ∧ pm_lim c' = pm_lim c ∧ pm_ins c' = pm_ins c ∧ pm_nt (pm_d c') = pm_nt (pm_d c) := by
  unfold pm_goF at h
  split at h
  · split at h
    · have : (4 : Nat) = 0 := congrArg Prod.fst h
      omega
    · have : (9 : Nat) = 0 := congrArg Prod.fst h
      omega
  split at h
  · have : (9 : Nat) = 0 := congrArg Prod.fst h
    omega
  · obtain ⟨r1, r2, r3⟩ := pm_fin_I I (by omega) (hf _) h
    refine ⟨r1, ?_, ?_, ?_, r3⟩ <;> rw [r2] <;> omega
/-- a field of a row's kind -/
theorem pm_fok3 (h1 : 1 ≤ f) (h2 : f ≤ 15) (h3 : 1 ≤ K (pm_fj c f)) (h4 : K (pm_fj c f) ≤ 3) (v : Int32) (st : Nat) : pm_fok K L c f v st :=
  Or.inr ⟨h1, h2, by omega, by omega, fun z => by omega⟩
theorem pm_goS_I (I : pm_CI K R L dep c) (hr : pm_row c ≠ 0) (hp : pm_pos c ≤ pm_row c) (hpT : pm_pos c ≤ T) (h : pm_goS B K R T c = (0, c')) :
    pm_CI K R L dep c' ∧ pm_pos c < pm_pos c' ∧ pm_pos c' ≤ T ∧ pm_pos c' ≤ pm_row c ∧ pm_at c' = pm_at c ∧ pm_row c' = pm_row c ∧ pm_fld c' = pm_fld c ∧ pm_lim c' = pm_lim c ∧ pm_ins c' = pm_ins c ∧ pm_nt (pm_d c') = pm_nt (pm_d c) := by
  obtain ⟨k1, k2, k3, k4, k5, k6⟩ := I.2.2.2.2.2.2.2 hr
  have he : pm_end c = pm_row c := by unfold pm_end; exact if_neg hr
  unfold pm_goS at h
  split at h
  · have := pm_goF_I I (by omega) (pm_fok3 k2 k3 k4 k5 · 0) h
    rw [he] at this; exact this
  · have := pm_goV_I I (by omega) hpT (pm_fok3 k2 k3 k4 k5 · 0) h
    rw [he] at this; exact this
theorem pm_fl_s (n w : Nat) : pm_fl K R c n w = 0 ∨ (pm_fl K R c n w = n ∧ n ≤ 15 ∧ K (pm_fj c n) ≠ 0 ∧ (w = pm_w (K (pm_fj c n)) ∨ (w = 2 ∧ R (pm_fj c n) = true))) := by
  unfold pm_fl
  split
  · left; rfl
  split
  · left; rfl
  split
  · rename_i h1 h2 h3
    exact Or.inr ⟨rfl, by omega, h2, h3⟩
  · left; rfl
theorem pm_body_I {len : Nat} (I : pm_CI K R L dep c) (hr : pm_row c = 0) (hK : ∀ j, K j ≤ 8) (h0 : pm_pos c < q) (hq : q + len ≤ pm_lim c (pm_at c)) (hqT : q ≤ T) (hL : L ≤ 200)
    (hf : f = 0 ∨ (1 ≤ f ∧ f ≤ 15 ∧ K (pm_fj c f) ≠ 0 ∧ (K (pm_fj c f) ≤ 3 → R (pm_fj c f) = true))) (h : pm_body K R T c f q len = (0, c')) :
    ∃ dep', pm_CI K R L dep' c' ∧ pm_pos c < pm_pos c' ∧ pm_pos c' ≤ T := by
  have he : pm_end c = pm_lim c (pm_at c) := by unfold pm_end; exact if_pos hr
  have hl := pm_lim_le I (pm_at c) (Nat.le_refl _)
  unfold pm_body at h
  by_cases z0 : f = 0
  · rw [if_pos z0] at h
    split at h
    · have : (9 : Nat) = 0 := congrArg Prod.fst h
      omega
    · obtain ⟨r1, r2, r3⟩ := pm_fin_I I (by omega) (Or.inl rfl) h
      exact ⟨dep, r1, by omega, by omega⟩
  · rw [if_neg z0] at h
    rcases hf with hf | ⟨f1, f2, f3, f4⟩
    · exact absurd hf z0
    split at h
    · rename_i h4
      split at h
      · have : (5 : Nat) = 0 := congrArg Prod.fst h
        omega
      split at h
      · have : (9 : Nat) = 0 := congrArg Prod.fst h
        omega
      · obtain ⟨r1, r2, r3⟩ := pm_fin_I I (by omega) (Or.inr ⟨f1, f2, f3, by omega, fun _ => ⟨len, rfl, by omega⟩⟩) h
        exact ⟨dep, r1, by omega, by omega⟩
    split at h
    · rename_i h4 h5
      have h8 := hK (pm_fj c f)
      unfold pm_part at h
      split at h
      · rename_i hlt
        obtain ⟨_, p2, p3⟩ := pm_pl_lt hlt
        have hkk : pm_kk K (pm_d c) (pm_pl R (pm_d c) (pm_nd c) f) = K (pm_fj c f) := by
          simp only [pm_kk]; rw [p2, p3]; rfl
        obtain ⟨m, w1, w2, w3, w4⟩ := (I.1.2.2.2.2.2.1 _ hlt).2.2.2.2.2 (by rw [hkk]; exact h5)
        have e : _ = c' := congrArg Prod.snd h
        subst e
        have hdep := (I.2.2.2.2.1 (pm_at c) (Nat.le_refl _)).2
        rw [p2] at w4
        have hm : (pm_va (pm_d c) (pm_pl R (pm_d c) (pm_nd c) f)).toNatClampNeg = m := by
          rw [w1, nI_clamp (by have := I.1.2.1; omega)]
        rw [hm]
        exact ⟨dep, pm_CI_old I hq w3 (by rw [w4]; show dep (pm_ins c (pm_at c)) + 1 = _; rw [hdep]), h0, hqT⟩
      split at h
      · have : (5 : Nat) = 0 := congrArg Prod.fst h
        omega
      · rename_i hnl hm
        have hpl : pm_pl R (pm_d c) (pm_nd c) f = pm_nv (pm_d c) := by
          have := pm_pl_le (R := R) (D := pm_d c) (pm_nd c) f
          omega
        have e : _ = c' := congrArg Prod.snd h
        subst e
        have ek : (pm_kp R (pm_d c) (pm_nd c) f (nI (pm_nn (pm_d c))) 0).2.2 = (pm_nv (pm_d c) + 1, pm_u (pm_vn (pm_d c)) (pm_nv (pm_d c)) (pm_nd c), pm_u (pm_vm (pm_d c)) (pm_nv (pm_d c)) f, pm_u (pm_fr (pm_d c)) (pm_nv (pm_d c)) 0, upd (pm_va (pm_d c)) (pm_nv (pm_d c)) (nI (pm_nn (pm_d c)))) := by
          unfold pm_kp
          dsimp only
          rw [hpl, if_pos rfl]
        rw [ek]
        exact ⟨_, pm_CI_new I hq f1 f2 h5 (by omega) (fun z => hm (Or.inl z)) (fun z => hm (Or.inr (Or.inl z))) (fun z => hm (Or.inr (Or.inr z))), h0, hqT⟩
    · rename_i h4 h5
      have e : _ = c' := congrArg Prod.snd h
      subst e
      exact ⟨dep, pm_CI_row I hr hq f1 f2 (by omega) (by omega) (f4 (by omega)) (by omega), h0, hqT⟩
theorem pm_dis_I {X : Nat} (I : pm_CI K R L dep c) (hr : pm_row c = 0) (hK : ∀ j, K j ≤ 8) (h0 : pm_pos c < q) (hq : q ≤ pm_lim c (pm_at c)) (hqT : q ≤ T) (hL : L ≤ 200)
    (h : pm_dis B K R T c q X = (0, c')) : ∃ dep', pm_CI K R L dep' c' ∧ pm_pos c < pm_pos c' ∧ pm_pos c' ≤ T := by
  have he : pm_end c = pm_lim c (pm_at c) := by unfold pm_end; exact if_pos hr
  unfold pm_dis at h
  split at h
  · have : (2 : Nat) = 0 := congrArg Prod.fst h
    omega
  rename_i hn
  split at h
  · have hf : ∀ v, pm_fok K L c (pm_fl K R c (X / 8) 0) v 0 := by
      intro v
      rcases pm_fl_s (K := K) (R := R) (c := c) (X / 8) 0 with z | ⟨z1, z2, z3, z4⟩
      · exact Or.inl z
      · rw [z1]
        have hlt : K (pm_fj c (X / 8)) < 3 := by
          rcases z4 with z4 | z4
          · exact (pm_w_0 _ (hK _)).1.mp z4.symm
          · exact absurd z4.1 (by decide)
        exact Or.inr ⟨by omega, z2, z3, by omega, fun y => by omega⟩
    obtain ⟨r1, r2, r3, _⟩ := pm_goV_I I (by omega) hqT hf h
    exact ⟨dep, r1, by omega, r3⟩
  split at h
  · unfold pm_goL at h
    split at h
    · rename_i h2
      obtain ⟨k', hk⟩ : ∃ k', pm_vr B q (pm_lim c (pm_at c)) T (10 - 0) 0 = (0, k') := ⟨_, Prod.ext h2 rfl⟩
      have hv := pm_vr_ok _ _ (by omega) (by omega) hk
      rw [hk] at h
      unfold pm_len at h
      split at h
      · have : (4 : Nat) = 0 := congrArg Prod.fst h
        omega
      · rename_i hlen
        dsimp only at h hlen
        have hf : pm_fl K R c (X / 8) 2 = 0 ∨ (1 ≤ pm_fl K R c (X / 8) 2 ∧ pm_fl K R c (X / 8) 2 ≤ 15 ∧ K (pm_fj c (pm_fl K R c (X / 8) 2)) ≠ 0 ∧ (K (pm_fj c (pm_fl K R c (X / 8) 2)) ≤ 3 → R (pm_fj c (pm_fl K R c (X / 8) 2)) = true)) := by
          rcases pm_fl_s (K := K) (R := R) (c := c) (X / 8) 2 with z | ⟨z1, z2, z3, z4⟩
          · exact Or.inl z
          · rw [z1]
            refine Or.inr ⟨by omega, z2, z3, fun y => ?_⟩
            rcases z4 with z4 | z4
            · unfold pm_w at z4
              split at z4
              · omega
              · split at z4 <;> omega
            · exact z4.2
        obtain ⟨dep', r1, r2, r3⟩ := pm_body_I I hr hK (by omega) (by omega) (by omega) hL hf h
        exact ⟨dep', r1, r2, r3⟩
    · rename_i h2
      exact absurd (congrArg Prod.fst h) h2
  split at h
  · have hf : ∀ v, pm_fok K L c (pm_fl K R c (X / 8) 5) v 0 := by
      intro v
      rcases pm_fl_s (K := K) (R := R) (c := c) (X / 8) 5 with z | ⟨z1, z2, z3, z4⟩
      · exact Or.inl z
      · rw [z1]
        have hlt : K (pm_fj c (X / 8)) = 3 := by
          rcases z4 with z4 | z4
          · exact (pm_w_0 _ (hK _)).2.1.mp z4.symm
          · exact absurd z4.1 (by decide)
        exact Or.inr ⟨by omega, z2, z3, by omega, fun y => by omega⟩
    obtain ⟨r1, r2, r3, _⟩ := pm_goF_I I (by omega) hf h
    exact ⟨dep, r1, by omega, r3⟩
  split at h
  · obtain ⟨r1, r2, r3, _⟩ := pm_goF_I I (by omega) (fun v => Or.inl rfl) h
    exact ⟨dep, r1, by omega, r3⟩
  · have : (2 : Nat) = 0 := congrArg Prod.fst h
    omega
theorem pm_goT_I (I : pm_CI K R L dep c) (hr : pm_row c = 0) (hK : ∀ j, K j ≤ 8) (hp : pm_pos c ≤ T) (hL : L ≤ 200)
    (h : pm_goT B K R T c 0 = (0, c')) : ∃ dep', pm_CI K R L dep' c' ∧ pm_pos c < pm_pos c' ∧ pm_pos c' ≤ T := by
  have he : pm_end c = pm_lim c (pm_at c) := by unfold pm_end; exact if_pos hr
  have hpe := I.2.2.2.2.2.2.1
  unfold pm_goT at h
  split at h
  · rename_i h2
    obtain ⟨k', hk⟩ : ∃ k', pm_vr B (pm_pos c) (pm_lim c (pm_at c)) T (10 - 0) 0 = (0, k') := ⟨_, Prod.ext h2 rfl⟩
    have hv := pm_vr_ok _ _ (by omega) (by omega) hk
    rw [hk] at h
    exact pm_dis_I I hr hK (by dsimp only; omega) (by dsimp only; omega) (by dsimp only; omega) hL h
  · rename_i h2
    exact absurd (congrArg Prod.fst h) h2
end
