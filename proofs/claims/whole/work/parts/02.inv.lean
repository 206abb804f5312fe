/-! C: what holds of a message that is read -/
section
abbrev pm_kk (K : Nat → Nat) (D : pm_D) (j : Nat) : Nat := K (16 * pm_nt D (pm_vn D j) + pm_vm D j)
/-- of one value -/
def pm_VI (K : Nat → Nat) (L : Nat) (dep : Nat → Nat) (D : pm_D) (j : Nat) : Prop :=
  pm_vn D j < pm_nn D ∧ 1 ≤ pm_vm D j ∧ pm_vm D j ≤ 15 ∧ pm_kk K D j ≠ 0 ∧
  (pm_kk K D j = 4 → ∃ m, pm_va D j = nI m ∧ pm_fr D j + m ≤ L) ∧
  (4 < pm_kk K D j → ∃ m, pm_va D j = nI m ∧ pm_vn D j < m ∧ m < pm_nn D ∧ dep m = dep (pm_vn D j) + 1)
def pm_DI (K : Nat → Nat) (L : Nat) (dep : Nat → Nat) (D : pm_D) : Prop :=
  1 ≤ pm_nn D ∧ pm_nn D ≤ 16 ∧ pm_nv D ≤ 48 ∧ dep 0 = 0 ∧ (∀ i, i < pm_nn D → pm_nt D i < 4 ∧ dep i ≤ 3) ∧
  (∀ j, j < pm_nv D → pm_VI K L dep D j) ∧
  (∀ i j, i < j → j < pm_nv D → 4 < pm_kk K D i → 4 < pm_kk K D j → (pm_va D i).toNatClampNeg < (pm_va D j).toNatClampNeg) ∧
  (∀ m, 1 ≤ m → m < pm_nn D → ∃ j, j < pm_nv D ∧ 4 < pm_kk K D j ∧ pm_va D j = nI m)
def pm_CI (K : Nat → Nat) (R : Nat → Bool) (L : Nat) (dep : Nat → Nat) (c : pm_C) : Prop :=
  pm_DI K L dep (pm_d c) ∧ pm_at c ≤ 3 ∧ pm_ins c 0 = 0 ∧ pm_lim c 0 = L ∧
  (∀ i, i ≤ pm_at c → pm_ins c i < pm_nn (pm_d c) ∧ dep (pm_ins c i) = i) ∧
  (∀ i, i < pm_at c → pm_lim c (i + 1) ≤ pm_lim c i) ∧ pm_pos c ≤ pm_end c ∧
  (pm_row c ≠ 0 → pm_row c ≤ pm_lim c (pm_at c) ∧ 1 ≤ pm_fld c ∧ pm_fld c ≤ 15 ∧ 1 ≤ K (pm_fj c (pm_fld c)) ∧ K (pm_fj c (pm_fld c)) ≤ 3 ∧ R (pm_fj c (pm_fld c)) = true)

variable {K : Nat → Nat} {R : Nat → Bool} {L : Nat} {dep : Nat → Nat} {D : pm_D} {c : pm_C}
theorem pm_fi_s {vn vm : Nat → Nat} {a n : Nat} : ∀ (k i : Nat), i ≤ pm_fi vn vm a n k i ∧ pm_fi vn vm a n k i ≤ i + k ∧
    (pm_fi vn vm a n k i < i + k → vn (pm_fi vn vm a n k i) = a ∧ vm (pm_fi vn vm a n k i) = n) ∧
    (∀ j, i ≤ j → j < pm_fi vn vm a n k i → ¬ (vn j = a ∧ vm j = n))
  | 0, i => ⟨Nat.le_refl _, Nat.le_refl _, fun h => absurd h (by simp [pm_fi]), fun j h1 h2 => by simp only [pm_fi] at h2; omega⟩
  | k + 1, i => by
    rw [pm_fi]
    by_cases h : vn i = a ∧ vm i = n
    · rw [if_pos h]
      exact ⟨Nat.le_refl _, by omega, fun _ => h, fun j h1 h2 => by omega⟩
    · rw [if_neg h]
      obtain ⟨h1, h2, h3, h4⟩ := pm_fi_s (vn := vn) (vm := vm) (a := a) (n := n) k (i + 1)
      refine ⟨by omega, by omega, fun z => h3 (by omega), fun j hj1 hj2 => ?_⟩
      rcases Nat.lt_or_ge i j with g | g
      · exact h4 j g hj2
      · have : j = i := by omega
        subst this; exact h
theorem pm_pl_le (a n : Nat) : pm_pl R D a n ≤ pm_nv D := by
  unfold pm_pl
  split
  · exact Nat.le_refl _
  · have := (pm_fi_s (vn := pm_vn D) (vm := pm_vm D) (a := a) (n := n) (pm_nv D) 0).2.1
    unfold pm_ix; omega
theorem pm_pl_lt {a n : Nat} (h : pm_pl R D a n < pm_nv D) : R (16 * pm_nt D a + n) = false ∧ pm_vn D (pm_pl R D a n) = a ∧ pm_vm D (pm_pl R D a n) = n := by
  unfold pm_pl at h ⊢
  split at h
  · omega
  · rename_i g
    rw [if_neg g]
    refine ⟨by simpa using g, (pm_fi_s (vn := pm_vn D) (vm := pm_vm D) (a := a) (n := n) (pm_nv D) 0).2.2.1 ?_⟩
    unfold pm_ix at h; omega

theorem pm_u_eq (f : Nat → Nat) (k x j : Nat) : pm_u f k x j = if j = k then x else f j := rfl
theorem pm_upd_eq (f : Nat → Int32) (k : Nat) (x : Int32) (j : Nat) : upd f k x j = if j = k then x else f j := rfl

/-- a value that is kept (no part) -/
theorem pm_kp_I {a n st : Nat} {v : Int32} (I : pm_DI K L dep D) (ha : a < pm_nn D) (hn : 1 ≤ n) (hn' : n ≤ 15)
    (hk : K (16 * pm_nt D a + n) ≠ 0) (hk' : K (16 * pm_nt D a + n) ≤ 4) (h48 : pm_pl R D a n ≠ 48)
    (hv : K (16 * pm_nt D a + n) = 4 → ∃ m, v = nI m ∧ st + m ≤ L) : pm_DI K L dep (pm_kp R D a n v st) := by
  obtain ⟨i1, i2, i3, i4, i5, i6, i7, i8⟩ := I
  have hle := pm_pl_le (R := R) (D := D) a n
  have hlt := fun h => pm_pl_lt (R := R) (D := D) (a := a) (n := n) h
  generalize hk0 : pm_pl R D a n = k at hle hlt h48
  have e1 : ∀ j, j ≠ k → pm_kk K (pm_kp R D a n v st) j = pm_kk K D j := by
    intro j hj
    simp only [pm_kk, pm_kp_nn, pm_kp_nt, pm_kp_nv, pm_kp_vn, pm_kp_vm, pm_kp_fr, pm_kp_va, hk0, pm_un hj]
  have e2 : pm_kk K (pm_kp R D a n v st) k = K (16 * pm_nt D a + n) := by
    simp only [pm_kk, pm_kp_nn, pm_kp_nt, pm_kp_nv, pm_kp_vn, pm_kp_vm, pm_kp_fr, pm_kp_va, hk0, pm_us]
  have e3 : ∀ j, j < pm_nv (pm_kp R D a n v st) → j ≠ k → j < pm_nv D := by
    intro j hj hjk
    simp only [pm_kp_nn, pm_kp_nt, pm_kp_nv, pm_kp_vn, pm_kp_vm, pm_kp_fr, pm_kp_va, hk0] at hj
    split at hj <;> omega
  have e4 : ∀ j, j < pm_nv D → j < pm_nv (pm_kp R D a n v st) := by
    intro j hj
    simp only [pm_kp_nn, pm_kp_nt, pm_kp_nv, pm_kp_vn, pm_kp_vm, pm_kp_fr, pm_kp_va, hk0]
    split <;> omega
  have ek : k < pm_nv D → pm_kk K D k = K (16 * pm_nt D a + n) := by
    intro h
    simp only [pm_kk, (hlt h).2.1, (hlt h).2.2]
  have ev : ∀ j, j ≠ k → pm_va (pm_kp R D a n v st) j = pm_va D j := by
    intro j hj
    simp only [pm_kp_nn, pm_kp_nt, pm_kp_nv, pm_kp_vn, pm_kp_vm, pm_kp_fr, pm_kp_va, hk0, pm_upd_eq, if_neg hj]
  refine ⟨i1, i2, ?_, i4, i5, ?_, ?_, ?_⟩
  · simp only [pm_kp_nn, pm_kp_nt, pm_kp_nv, pm_kp_vn, pm_kp_vm, pm_kp_fr, pm_kp_va, hk0]
    split <;> omega
  · intro j hj
    by_cases hjk : j = k
    · subst hjk
      refine ⟨?_, ?_, ?_, ?_, ?_, ?_⟩
      · simp only [pm_kp_nn, pm_kp_nt, pm_kp_nv, pm_kp_vn, pm_kp_vm, pm_kp_fr, pm_kp_va, hk0, pm_us]; exact ha
      · simp only [pm_kp_nn, pm_kp_nt, pm_kp_nv, pm_kp_vn, pm_kp_vm, pm_kp_fr, pm_kp_va, hk0, pm_us]; exact hn
      · simp only [pm_kp_nn, pm_kp_nt, pm_kp_nv, pm_kp_vn, pm_kp_vm, pm_kp_fr, pm_kp_va, hk0, pm_us]; exact hn'
      · rw [e2]; exact hk
      · intro z
        rw [e2] at z
        obtain ⟨m, hm1, hm2⟩ := hv z
        exact ⟨m, by simp only [pm_kp_nn, pm_kp_nt, pm_kp_nv, pm_kp_vn, pm_kp_vm, pm_kp_fr, pm_kp_va, hk0, pm_upd_eq, if_pos]; exact hm1, by simp only [pm_kp_nn, pm_kp_nt, pm_kp_nv, pm_kp_vn, pm_kp_vm, pm_kp_fr, pm_kp_va, hk0, pm_us]; exact hm2⟩
      · intro z
        rw [e2] at z; omega
    · obtain ⟨v1, v2, v3, v4, v5, v6⟩ := i6 j (e3 j hj hjk)
      refine ⟨?_, ?_, ?_, ?_, ?_, ?_⟩
      · simp only [pm_kp_nn, pm_kp_nt, pm_kp_nv, pm_kp_vn, pm_kp_vm, pm_kp_fr, pm_kp_va, hk0, pm_un hjk]; exact v1
      · simp only [pm_kp_nn, pm_kp_nt, pm_kp_nv, pm_kp_vn, pm_kp_vm, pm_kp_fr, pm_kp_va, hk0, pm_un hjk]; exact v2
      · simp only [pm_kp_nn, pm_kp_nt, pm_kp_nv, pm_kp_vn, pm_kp_vm, pm_kp_fr, pm_kp_va, hk0, pm_un hjk]; exact v3
      · rw [e1 j hjk]; exact v4
      · rw [e1 j hjk, ev j hjk]
        simp only [pm_kp_nn, pm_kp_nt, pm_kp_nv, pm_kp_vn, pm_kp_vm, pm_kp_fr, pm_kp_va, hk0, pm_un hjk]; exact v5
      · rw [e1 j hjk, ev j hjk]
        simp only [pm_kp_nn, pm_kp_nt, pm_kp_nv, pm_kp_vn, pm_kp_vm, pm_kp_fr, pm_kp_va, hk0, pm_un hjk]; exact v6
  · intro i j hij hj hi hj'
    have h1 : i ≠ k := by
      intro z; subst z; rw [e2] at hi; omega
    have h2 : j ≠ k := by
      intro z; subst z; rw [e2] at hj'; omega
    rw [e1 i h1] at hi
    rw [e1 j h2] at hj'
    rw [ev i h1, ev j h2]
    exact i7 i j hij (e3 j hj h2) hi hj'
  · intro m hm hm'
    obtain ⟨j, hj, hj1, hj2⟩ := i8 m hm hm'
    have h1 : j ≠ k := by
      intro z; subst z; rw [ek hj] at hj1; omega
    exact ⟨j, e4 j hj, by rw [e1 j h1]; exact hj1, by rw [ev j h1]; exact hj2⟩

/-- a part that is new -/
theorem pm_pt_I {a n t : Nat} (I : pm_DI K L dep D) (ha : a < pm_nn D) (hn : 1 ≤ n) (hn' : n ≤ 15)
    (hk : 4 < K (16 * pm_nt D a + n)) (ht : t < 4) (h16 : pm_nn D ≠ 16) (h48 : pm_nv D ≠ 48) (hd : dep a < 3) :
    pm_DI K L (pm_u dep (pm_nn D) (dep a + 1)) (pm_nn D + 1, pm_u (pm_nt D) (pm_nn D) t, pm_nv D + 1, pm_u (pm_vn D) (pm_nv D) a, pm_u (pm_vm D) (pm_nv D) n, pm_u (pm_fr D) (pm_nv D) 0, upd (pm_va D) (pm_nv D) (nI (pm_nn D))) := by
  obtain ⟨i1, i2, i3, i4, i5, i6, i7, i8⟩ := I
  obtain ⟨nn, nt, nv, vn, vm, fr, va⟩ := D
  simp only [pm_nn, pm_nt, pm_nv, pm_vn, pm_vm, pm_fr, pm_va] at *
  have e1 : ∀ j, j < nv → pm_kk K (nn + 1, pm_u nt nn t, nv + 1, pm_u vn nv a, pm_u vm nv n, pm_u fr nv 0, upd va nv (nI nn)) j = pm_kk K (nn, nt, nv, vn, vm, fr, va) j := by
    intro j hj
    have := (i6 j hj).1
    simp only [pm_kk, pm_nt, pm_vn, pm_vm] at *
    rw [pm_un (show j ≠ nv by omega), pm_un (show j ≠ nv by omega), pm_un (show vn j ≠ nn by simp only [pm_nn, pm_vn] at this; omega)]
  have e2 : pm_kk K (nn + 1, pm_u nt nn t, nv + 1, pm_u vn nv a, pm_u vm nv n, pm_u fr nv 0, upd va nv (nI nn)) nv = K (16 * nt a + n) := by
    simp only [pm_kk, pm_nt, pm_vn, pm_vm]
    rw [pm_us, pm_us, pm_un (show a ≠ nn by omega)]
  have ev : ∀ j, j ≠ nv → upd va nv (nI nn) j = va j := by
    intro j hj
    rw [pm_upd_eq, if_neg hj]
  have ev2 : upd va nv (nI nn) nv = nI nn := by
    rw [pm_upd_eq, if_pos rfl]
  refine ⟨by simp only [pm_nn]; omega, by simp only [pm_nn]; omega, by simp only [pm_nv]; omega, ?_, ?_, ?_, ?_, ?_⟩
  · rw [pm_un (by omega)]; exact i4
  · intro i hi
    simp only [pm_nn, pm_nt] at *
    by_cases hin : i = nn
    · subst hin
      rw [pm_us, pm_us]
      exact ⟨ht, by omega⟩
    · rw [pm_un hin, pm_un hin]
      exact i5 i (by omega)
  · intro j hj
    simp only [pm_nv] at hj
    by_cases hjk : j = nv
    · subst hjk
      refine ⟨?_, ?_, ?_, ?_, ?_, ?_⟩
      · simp only [pm_nn, pm_vn, pm_us]; omega
      · simp only [pm_vm, pm_us]; exact hn
      · simp only [pm_vm, pm_us]; exact hn'
      · rw [e2]; omega
      · intro z
        rw [e2] at z; omega
      · intro _
        refine ⟨nn, ev2, ?_, ?_, ?_⟩
        · simp only [pm_vn, pm_us]; exact ha
        · simp only [pm_nn]; omega
        · simp only [pm_vn, pm_us]
          rw [pm_un (show a ≠ nn by omega)]
    · have hjl : j < nv := by omega
      obtain ⟨v1, v2, v3, v4, v5, v6⟩ := i6 j hjl
      simp only [pm_nn, pm_vn, pm_vm] at v1 v2 v3
      refine ⟨?_, ?_, ?_, ?_, ?_, ?_⟩
      · simp only [pm_nn, pm_vn, pm_un hjk]; omega
      · simp only [pm_vm, pm_un hjk]; exact v2
      · simp only [pm_vm, pm_un hjk]; exact v3
      · rw [e1 j hjl]; exact v4
      · rw [e1 j hjl]
        simp only [pm_va, pm_fr, ev j hjk, pm_un hjk]; exact v5
      · rw [e1 j hjl]
        intro z
        obtain ⟨m, w1, w2, w3, w4⟩ := v6 z
        simp only [pm_nn, pm_vn, pm_va] at w1 w2 w3 w4
        refine ⟨m, ?_, ?_, ?_, ?_⟩
        · simp only [pm_va, ev j hjk]; exact w1
        · simp only [pm_vn, pm_un hjk]; exact w2
        · simp only [pm_nn]; omega
        · simp only [pm_vn, pm_un hjk]
          rw [pm_un (show m ≠ nn by omega), pm_un (show vn j ≠ nn by omega)]
          exact w4
  · intro i j hij hj hi hj'
    simp only [pm_nv] at hj
    rw [e1 i (by omega)] at hi
    by_cases hjk : j = nv
    · subst hjk
      obtain ⟨m, w1, w2, w3, w4⟩ := (i6 i (by omega)).2.2.2.2.2 hi
      simp only [pm_va, pm_nn] at w1 w3 ⊢
      rw [ev2, ev i (by omega), w1, nI_clamp (by omega), nI_clamp (by omega)]
      exact w3
    · rw [e1 j (by omega)] at hj'
      simp only [pm_va]
      rw [ev i (by omega), ev j hjk]
      exact i7 i j hij (by omega) hi hj'
  · intro m hm hm'
    simp only [pm_nn] at hm'
    by_cases hmn : m = nn
    · subst hmn
      exact ⟨nv, by simp only [pm_nv]; omega, by rw [e2]; exact hk, ev2⟩
    · obtain ⟨j, hj, hj1, hj2⟩ := i8 m hm (by omega)
      exact ⟨j, by simp only [pm_nv]; omega, by rw [e1 j hj]; exact hj1, by simp only [pm_va]; rw [ev j (by omega)]; exact hj2⟩

variable {p q x len n t : Nat} {D' : pm_D}
theorem pm_CI_k (I : pm_CI K R L dep c) (I' : pm_DI K L dep D') (h1 : pm_nn D' = pm_nn (pm_d c)) (h2 : pm_nt D' = pm_nt (pm_d c)) (hp : p ≤ pm_end c) :
    pm_CI K R L dep (p, pm_at c, pm_row c, pm_fld c, x, pm_lim c, pm_ins c, D') := by
  obtain ⟨j1, j2, j3, j4, j5, j6, j7, j8⟩ := I
  refine ⟨I', j2, j3, j4, ?_, j6, ?_, ?_⟩
  · intro i hi
    have := j5 i hi
    simp only [pm_ins, pm_d] at *
    rw [h1]; exact this
  · exact hp
  · intro h
    have := j8 h
    simp only [pm_fj, pm_nd, pm_row, pm_fld, pm_lim, pm_at, pm_ins, pm_d] at *
    rw [h2]; exact this
theorem pm_CI_p (I : pm_CI K R L dep c) (hp : p ≤ pm_end c) :
    pm_CI K R L dep (p, pm_at c, pm_row c, pm_fld c, x, pm_lim c, pm_ins c, pm_d c) := pm_CI_k I I.1 rfl rfl hp
theorem pm_CI_kp {f st : Nat} {v : Int32} (I : pm_CI K R L dep c) (hp : p ≤ pm_end c) (hn : 1 ≤ f) (hn' : f ≤ 15)
    (hk : K (pm_fj c f) ≠ 0) (hk' : K (pm_fj c f) ≤ 4) (h48 : pm_pl R (pm_d c) (pm_nd c) f ≠ 48)
    (hv : K (pm_fj c f) = 4 → ∃ m, v = nI m ∧ st + m ≤ L) :
    pm_CI K R L dep (p, pm_at c, pm_row c, pm_fld c, x, pm_lim c, pm_ins c, pm_kp R (pm_d c) (pm_nd c) f v st) :=
  pm_CI_k I (pm_kp_I I.1 (I.2.2.2.2.1 _ (Nat.le_refl _)).1 hn hn' hk hk' h48 hv) rfl rfl hp
theorem pm_lim_le (I : pm_CI K R L dep c) : ∀ i, i ≤ pm_at c → pm_lim c i ≤ L
  | 0, _ => by rw [I.2.2.2.1]; exact Nat.le_refl _
  | i + 1, h => Nat.le_trans (I.2.2.2.2.2.1 i (by omega)) (pm_lim_le I i (by omega))
theorem pm_pop_s {lim : Nat → Nat} {p : Nat} : ∀ a, pm_pop lim p a ≤ a ∧ (pm_pop lim p a = 0 ∨ p ≠ lim (pm_pop lim p a)) ∧ (∀ i, pm_pop lim p a < i → i ≤ a → p = lim i)
  | 0 => ⟨Nat.le_refl _, Or.inl rfl, fun i h1 h2 => by simp only [pm_pop] at h1; omega⟩
  | a + 1 => by
    rw [pm_pop]
    by_cases h : p = lim (a + 1)
    · rw [if_pos h]
      obtain ⟨h1, h2, h3⟩ := pm_pop_s (lim := lim) (p := p) a
      refine ⟨by omega, h2, fun i hi hi' => ?_⟩
      by_cases g : i = a + 1
      · subst g; exact h
      · exact h3 i hi (by omega)
    · rw [if_neg h]
      exact ⟨Nat.le_refl _, Or.inr h, fun i h1 h2 => by omega⟩
theorem pm_CI_pop (I : pm_CI K R L dep c) (hr : pm_row c = 0) : pm_CI K R L dep (pm_popC c) := by
  obtain ⟨j1, j2, j3, j4, j5, j6, j7, j8⟩ := I
  obtain ⟨h1, h2, h3⟩ := pm_pop_s (lim := pm_lim c) (p := pm_pos c) (pm_at c)
  refine ⟨j1, Nat.le_trans h1 j2, j3, j4, fun i hi => j5 i (Nat.le_trans hi h1), fun i hi => j6 i (Nat.lt_of_lt_of_le hi h1), ?_, fun h => absurd hr h⟩
  have e : pm_end (pm_popC c) = pm_lim c (pm_pop (pm_lim c) (pm_pos c) (pm_at c)) := by
    unfold pm_end; exact if_pos hr
  have e' : pm_end c = pm_lim c (pm_at c) := by
    unfold pm_end; exact if_pos hr
  rw [e]
  show pm_pos c ≤ _
  rw [e'] at j7
  by_cases g : pm_pop (pm_lim c) (pm_pos c) (pm_at c) = pm_at c
  · rw [g]; exact j7
  · have := h3 (pm_pop (pm_lim c) (pm_pos c) (pm_at c) + 1) (by omega) (by omega)
    have := j6 (pm_pop (pm_lim c) (pm_pos c) (pm_at c)) (by omega)
    omega
/-- popped and not at the message's end: before the end of its part -/
theorem pm_pop_lt (I : pm_CI K R L dep c) (hr : pm_row c = 0) (h : pm_pos c ≠ pm_lim c 0) :
    pm_pos (pm_popC c) < pm_lim (pm_popC c) (pm_at (pm_popC c)) := by
  have I' := (pm_CI_pop I hr).2.2.2.2.2.2.1
  have e : pm_end (pm_popC c) = pm_lim c (pm_pop (pm_lim c) (pm_pos c) (pm_at c)) := by
    unfold pm_end; exact if_pos hr
  obtain ⟨h1, h2, h3⟩ := pm_pop_s (lim := pm_lim c) (p := pm_pos c) (pm_at c)
  rw [e] at I'
  have I2 : pm_pos c ≤ pm_lim c (pm_pop (pm_lim c) (pm_pos c) (pm_at c)) := I'
  show pm_pos c < pm_lim c (pm_pop (pm_lim c) (pm_pos c) (pm_at c))
  rcases h2 with h2 | h2
  · rw [h2] at I2 ⊢; omega
  · omega
theorem pm_CI_row0 (I : pm_CI K R L dep c) (hr : pm_row c ≠ 0) (h : pm_pos c = pm_row c) : pm_CI K R L dep (pm_row0 c) := by
  obtain ⟨j1, j2, j3, j4, j5, j6, j7, j8⟩ := I
  refine ⟨j1, j2, j3, j4, j5, j6, ?_, fun h => absurd rfl h⟩
  have := (j8 hr).1
  show pm_pos c ≤ pm_lim c (pm_at c)
  omega
theorem pm_CI_row {f : Nat} (I : pm_CI K R L dep c) (hr : pm_row c = 0) (hq : q + len ≤ pm_lim c (pm_at c)) (hn : 1 ≤ f) (hn' : f ≤ 15)
    (hk : 1 ≤ K (pm_fj c f)) (hk' : K (pm_fj c f) ≤ 3) (hR : R (pm_fj c f) = true) (h0 : 0 < q) :
    pm_CI K R L dep (q, pm_at c, q + len, f, pm_sk c, pm_lim c, pm_ins c, pm_d c) := by
  obtain ⟨j1, j2, j3, j4, j5, j6, j7, j8⟩ := I
  refine ⟨j1, j2, j3, j4, j5, j6, ?_, fun _ => ⟨hq, hn, hn', hk, hk', hR⟩⟩
  unfold pm_end
  show q ≤ if q + len = 0 then _ else q + len
  rw [if_neg (by omega)]; omega
theorem pm_CI_old {f m : Nat} (I : pm_CI K R L dep c) (hq : q + len ≤ pm_lim c (pm_at c))
    (hm : m < pm_nn (pm_d c)) (hd : dep m = pm_at c + 1) :
    pm_CI K R L dep (q, pm_at c + 1, 0, f, pm_sk c, pm_u (pm_lim c) (pm_at c + 1) (q + len), pm_u (pm_ins c) (pm_at c + 1) m, pm_d c) := by
  obtain ⟨j1, j2, j3, j4, j5, j6, j7, j8⟩ := I
  have h3 := (j1.2.2.2.2.1 m hm).2
  refine ⟨j1, by show pm_at c + 1 ≤ 3; omega, ?_, ?_, ?_, ?_, ?_, fun h => absurd rfl h⟩
  · show pm_u (pm_ins c) (pm_at c + 1) m 0 = 0
    rw [pm_un (by omega)]; exact j3
  · show pm_u (pm_lim c) (pm_at c + 1) (q + len) 0 = L
    rw [pm_un (by omega)]; exact j4
  · intro i hi
    have hi : i ≤ pm_at c + 1 := hi
    show pm_u (pm_ins c) (pm_at c + 1) m i < pm_nn (pm_d c) ∧ dep (pm_u (pm_ins c) (pm_at c + 1) m i) = i
    by_cases g : i = pm_at c + 1
    · subst g; rw [pm_us]; exact ⟨hm, hd⟩
    · rw [pm_un g]; exact j5 i (by omega)
  · intro i hi
    have hi : i < pm_at c + 1 := hi
    show pm_u (pm_lim c) (pm_at c + 1) (q + len) (i + 1) ≤ pm_u (pm_lim c) (pm_at c + 1) (q + len) i
    rw [pm_un (show i ≠ pm_at c + 1 by omega)]
    by_cases g : i = pm_at c
    · subst g; rw [pm_us]; exact hq
    · rw [pm_un (by omega)]; exact j6 i (by omega)
  · unfold pm_end
    show q ≤ if (0 : Nat) = 0 then pm_u (pm_lim c) (pm_at c + 1) (q + len) (pm_at c + 1) else _
    rw [if_pos rfl, pm_us]; omega
theorem pm_CI_new {f t : Nat} (I : pm_CI K R L dep c) (hq : q + len ≤ pm_lim c (pm_at c)) (hn : 1 ≤ n) (hn' : n ≤ 15)
    (hk : 4 < K (pm_fj c n)) (ht : t < 4) (h16 : pm_nn (pm_d c) ≠ 16) (h48 : pm_nv (pm_d c) ≠ 48) (h3 : pm_at c ≠ 3) :
    pm_CI K R L (pm_u dep (pm_nn (pm_d c)) (pm_at c + 1)) (q, pm_at c + 1, 0, f, pm_sk c, pm_u (pm_lim c) (pm_at c + 1) (q + len), pm_u (pm_ins c) (pm_at c + 1) (pm_nn (pm_d c)),
      (pm_nn (pm_d c) + 1, pm_u (pm_nt (pm_d c)) (pm_nn (pm_d c)) t, pm_nv (pm_d c) + 1, pm_u (pm_vn (pm_d c)) (pm_nv (pm_d c)) (pm_nd c), pm_u (pm_vm (pm_d c)) (pm_nv (pm_d c)) n, pm_u (pm_fr (pm_d c)) (pm_nv (pm_d c)) 0, upd (pm_va (pm_d c)) (pm_nv (pm_d c)) (nI (pm_nn (pm_d c))))) := by
  obtain ⟨j1, j2, j3, j4, j5, j6, j7, j8⟩ := I
  have ha := j5 (pm_at c) (Nat.le_refl _)
  have hdep : dep (pm_nd c) = pm_at c := ha.2
  have J := pm_pt_I (t := t) (n := n) (a := pm_nd c) j1 ha.1 hn hn' hk ht h16 h48 (by rw [hdep]; omega)
  rw [hdep] at J
  refine ⟨J, by show pm_at c + 1 ≤ 3; omega, ?_, ?_, ?_, ?_, ?_, fun h => absurd rfl h⟩
  · show pm_u (pm_ins c) (pm_at c + 1) (pm_nn (pm_d c)) 0 = 0
    rw [pm_un (by omega)]; exact j3
  · show pm_u (pm_lim c) (pm_at c + 1) (q + len) 0 = L
    rw [pm_un (by omega)]; exact j4
  · intro i hi
    have hi : i ≤ pm_at c + 1 := hi
    show pm_u (pm_ins c) (pm_at c + 1) (pm_nn (pm_d c)) i < pm_nn (pm_d c) + 1 ∧ pm_u dep (pm_nn (pm_d c)) (pm_at c + 1) (pm_u (pm_ins c) (pm_at c + 1) (pm_nn (pm_d c)) i) = i
    by_cases g : i = pm_at c + 1
    · subst g; rw [pm_us, pm_us]; exact ⟨by omega, rfl⟩
    · have := j5 i (by omega)
      rw [pm_un g, pm_un (show pm_ins c i ≠ pm_nn (pm_d c) by omega)]
      exact ⟨by omega, this.2⟩
  · intro i hi
    have hi : i < pm_at c + 1 := hi
    show pm_u (pm_lim c) (pm_at c + 1) (q + len) (i + 1) ≤ pm_u (pm_lim c) (pm_at c + 1) (q + len) i
    rw [pm_un (show i ≠ pm_at c + 1 by omega)]
    by_cases g : i = pm_at c
    · subst g; rw [pm_us]; exact hq
    · rw [pm_un (by omega)]; exact j6 i (by omega)
  · unfold pm_end
    show q ≤ if (0 : Nat) = 0 then pm_u (pm_lim c) (pm_at c + 1) (q + len) (pm_at c + 1) else _
    rw [if_pos rfl, pm_us]; omega
end
