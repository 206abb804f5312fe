/-! D: the sizes of a message that is written again -/
section
def sz_wd : Nat → Nat → Nat
  | 0, _ => 1
  | f + 1, x => if x / 128 = 0 then 1 else 1 + sz_wd f (x / 128)
def sz_w (x : Nat) : Nat := sz_wd 9 x
theorem sz_wd_le : ∀ f x, sz_wd f x ≤ f + 1 ∧ 1 ≤ sz_wd f x
  | 0, _ => ⟨Nat.le_refl _, Nat.le_refl _⟩
  | f + 1, x => by
    rw [sz_wd]
    have := sz_wd_le f (x / 128)
    split <;> omega
theorem sz_w_le (x : Nat) : sz_w x ≤ 10 ∧ 1 ≤ sz_w x := sz_wd_le 9 x
/-- an int as the 64 bits that its long has -/
def sz_ux (x : Int32) : Nat := if x < 0 then 2 ^ 64 - 2 ^ 32 + x.toBitVec.toNat else x.toBitVec.toNat
def sz_zg (x : Int32) : Int32 := (x <<< (1 &&& 31)) ^^^ (x >>> (31 &&& 31))
def sz_b (k : Nat) (x : Int32) (g : Nat → Nat) : Nat :=
  if k = 1 then sz_w (sz_ux x) else if k = 2 then sz_w (sz_zg x).toBitVec.toNat else if k = 3 then 4 else if k = 4 then x.toNatClampNeg else g x.toNatClampNeg
def sz_l (k : Nat) (x : Int32) (g : Nat → Nat) : Nat := sz_b k x g + if 3 < k then sz_w (sz_b k x g) else 0
def sz_sm (D : pm_D) (a n : Nat) (h : Nat → Nat) : Nat → Nat
  | 0 => 0
  | c + 1 => sz_sm D a n h c + if pm_vn D c = a ∧ pm_vm D c = n then h c else 0
def sz_j (D : pm_D) (a n : Nat) : Nat := 16 * pm_nt D a + n
/-- the bodies of a field, as a packed row has them -/
def sz_row (K : Nat → Nat) (D : pm_D) (g : Nat → Nat) (a n : Nat) : Nat := sz_sm D a n (fun j => sz_b (K (sz_j D a n)) (pm_va D j) g) (pm_nv D)
def sz_pk (K : Nat → Nat) (R : Nat → Bool) (D : pm_D) (a n : Nat) : Prop := K (sz_j D a n) < 4 ∧ R (sz_j D a n) = true
def sz_f (K : Nat → Nat) (R : Nat → Bool) (D : pm_D) (g : Nat → Nat) (a n : Nat) : Nat :=
  if K (sz_j D a n) < 4 ∧ R (sz_j D a n) = true then
    (if sz_row K D g a n = 0 then 0 else 1 + sz_w (sz_row K D g a n) + sz_row K D g a n)
  else sz_sm D a n (fun j => 1 + sz_l (K (sz_j D a n)) (pm_va D j) g) (pm_nv D)
def sz_ns (h : Nat → Nat) : Nat → Nat
  | 0 => 0
  | m + 1 => sz_ns h m + h (m + 1)
def sz_n (K : Nat → Nat) (R : Nat → Bool) (D : pm_D) (g : Nat → Nat) (a : Nat) : Nat := sz_ns (sz_f K R D g a) 15
def sz_r (K : Nat → Nat) (R : Nat → Bool) (D : pm_D) : Nat → Nat → Nat
  | 0, _ => 0
  | f + 1, a => sz_n K R D (sz_r K R D f) a
def sz_S (K : Nat → Nat) (R : Nat → Bool) (D : pm_D) (a : Nat) : Nat := sz_r K R D 4 a

variable {K : Nat → Nat} {R : Nat → Bool} {L : Nat} {dep : Nat → Nat} {D : pm_D} {a n : Nat} {g g' : Nat → Nat}
theorem sz_sm_g {h h' : Nat → Nat} : ∀ c, (∀ j, j < c → pm_vn D j = a → pm_vm D j = n → h j = h' j) → sz_sm D a n h c = sz_sm D a n h' c
  | 0, _ => rfl
  | c + 1, H => by
    rw [sz_sm, sz_sm, sz_sm_g c (fun j hj => H j (by omega))]
    by_cases z : pm_vn D c = a ∧ pm_vm D c = n
    · rw [if_pos z, if_pos z, H c (by omega) z.1 z.2]
    · rw [if_neg z, if_neg z]
theorem sz_ns_g {h h' : Nat → Nat} : ∀ m, (∀ i, 1 ≤ i → i ≤ m → h i = h' i) → sz_ns h m = sz_ns h' m
  | 0, _ => rfl
  | m + 1, H => by
    rw [sz_ns, sz_ns, sz_ns_g m (fun i h1 h2 => H i h1 (by omega)), H (m + 1) (by omega) (by omega)]
theorem sz_b_g {k : Nat} {x : Int32} (h : 4 < k → g x.toNatClampNeg = g' x.toNatClampNeg) : sz_b k x g = sz_b k x g' ∨ k = 0 := by
  unfold sz_b
  by_cases k1 : k = 1
  · left; rw [if_pos k1, if_pos k1]
  by_cases k2 : k = 2
  · left; rw [if_neg k1, if_pos k2, if_neg k1, if_pos k2]
  by_cases k3 : k = 3
  · left; rw [if_neg k1, if_neg k2, if_pos k3, if_neg k1, if_neg k2, if_pos k3]
  by_cases k4 : k = 4
  · left; rw [if_neg k1, if_neg k2, if_neg k3, if_pos k4, if_neg k1, if_neg k2, if_neg k3, if_pos k4]
  by_cases k0 : k = 0
  · right; exact k0
  · left; rw [if_neg k1, if_neg k2, if_neg k3, if_neg k4, if_neg k1, if_neg k2, if_neg k3, if_neg k4, h (by omega)]
/-- the size of a node depends on its parts alone -/
theorem sz_n_g (I : pm_DI K L dep D) (H : ∀ j, j < pm_nv D → pm_vn D j = a → 4 < pm_kk K D j → g (pm_va D j).toNatClampNeg = g' (pm_va D j).toNatClampNeg) :
    sz_n K R D g a = sz_n K R D g' a := by
  unfold sz_n
  apply sz_ns_g
  intro m hm hm'
  have hb : ∀ j, j < pm_nv D → pm_vn D j = a → pm_vm D j = m → sz_b (K (sz_j D a m)) (pm_va D j) g = sz_b (K (sz_j D a m)) (pm_va D j) g' := by
    intro j hj h1 h2
    have e : pm_kk K D j = K (sz_j D a m) := by
      unfold sz_j; simp only [pm_kk]; rw [h1, h2]
    rcases sz_b_g (k := K (sz_j D a m)) (x := pm_va D j) (fun z => H j hj h1 (by rw [e]; exact z)) with z | z
    · exact z
    · exact absurd (e.trans z) (I.2.2.2.2.2.1 j hj).2.2.2.1
  have h1 : sz_row K D g a m = sz_row K D g' a m := sz_sm_g _ hb
  have h2 : sz_sm D a m (fun j => 1 + sz_l (K (sz_j D a m)) (pm_va D j) g) (pm_nv D) = sz_sm D a m (fun j => 1 + sz_l (K (sz_j D a m)) (pm_va D j) g') (pm_nv D) := by
    apply sz_sm_g
    intro j hj z1 z2
    show 1 + sz_l _ _ _ = 1 + sz_l _ _ _
    unfold sz_l
    rw [hb j hj z1 z2]
  unfold sz_f
  rw [h1, h2]
theorem sz_r_s (I : pm_DI K L dep D) : ∀ f a, a < pm_nn D → 4 ≤ f + dep a → sz_r K R D f a = sz_r K R D (f + 1) a
  | 0, a, ha, h => by
    have := (I.2.2.2.2.1 a ha).2
    omega
  | f + 1, a, ha, h => by
    rw [sz_r, sz_r]
    apply sz_n_g I
    intro j hj h1 h2
    obtain ⟨m, w1, w2, w3, w4⟩ := (I.2.2.2.2.2.1 j hj).2.2.2.2.2 h2
    rw [w1, nI_clamp (by have := I.2.1; omega)]
    rw [h1] at w4
    exact sz_r_s I f m w3 (by omega)
theorem sz_S_e (I : pm_DI K L dep D) (ha : a < pm_nn D) : sz_S K R D a = sz_n K R D (sz_S K R D) a := by
  have h := sz_r_s (R := R) I 4 a ha (by omega)
  show sz_r K R D 4 a = _
  rw [h]; rfl

/-! bounds -/
def sz_C : Nat → Nat
  | 0 => 0
  | f + 1 => 48 * (200 + sz_C f + 11)
theorem sz_sm_le {h : Nat → Nat} {H : Nat} (hh : ∀ j, h j ≤ H) : ∀ c, sz_sm D a n h c ≤ c * H
  | 0 => by simp [sz_sm]
  | c + 1 => by
    rw [sz_sm, Nat.succ_mul]
    have h1 := sz_sm_le hh c
    have h2 := hh c
    split <;> omega
theorem sz_sm_mono {h h' : Nat → Nat} : ∀ c, (∀ j, j < c → pm_vn D j = a → pm_vm D j = n → h j ≤ h' j) → sz_sm D a n h c ≤ sz_sm D a n h' c
  | 0, _ => Nat.le_refl _
  | c + 1, H => by
    rw [sz_sm, sz_sm]
    have h1 := sz_sm_mono c (fun j hj => H j (by omega))
    by_cases z : pm_vn D c = a ∧ pm_vm D c = n
    · rw [if_pos z, if_pos z]
      have := H c (by omega) z.1 z.2
      omega
    · rw [if_neg z, if_neg z]; exact h1
theorem sz_sm_11 {h : Nat → Nat} {H : Nat} : ∀ c, (∀ j, j < c → pm_vn D j = a → pm_vm D j = n → h j ≤ H) → sz_sm D a n h c ≠ 0 →
    sz_sm D a n h c + 11 ≤ sz_sm D a n (fun _ => H + 11) c
  | 0, _, h0 => absurd rfl h0
  | c + 1, hh, h0 => by
    have hm := sz_sm_mono (D := D) (a := a) (n := n) (h := h) (h' := fun _ => H + 11) c (fun j hj z1 z2 => Nat.le_trans (hh j (by omega) z1 z2) (by omega))
    rw [sz_sm] at h0 ⊢
    rw [sz_sm]
    by_cases z : pm_vn D c = a ∧ pm_vm D c = n
    · rw [if_pos z] at h0 ⊢
      rw [if_pos z]
      have := hh c (by omega) z.1 z.2
      omega
    · rw [if_neg z] at h0 ⊢
      rw [if_neg z]
      have := sz_sm_11 c (fun j hj => hh j (by omega)) (by omega)
      omega
theorem sz_ns_add (h h' : Nat → Nat) : ∀ m, sz_ns (fun i => h i + h' i) m = sz_ns h m + sz_ns h' m
  | 0 => rfl
  | m + 1 => by
    rw [sz_ns, sz_ns, sz_ns, sz_ns_add h h' m]; omega
theorem sz_ns_one {P : Prop} [Decidable P] (x Q : Nat) : ∀ m, sz_ns (fun i => if P ∧ x = i then Q else 0) m ≤ if x ≤ m then Q else 0
  | 0 => Nat.zero_le _
  | m + 1 => by
    rw [sz_ns]
    have h := sz_ns_one (P := P) x Q m
    by_cases z : x = m + 1
    · rw [if_neg (by omega)] at h
      rw [if_pos (show x ≤ m + 1 by omega)]
      split <;> omega
    · rw [if_neg (show ¬ (P ∧ x = m + 1) from fun y => z y.2)]
      by_cases z2 : x ≤ m
      · rw [if_pos z2] at h
        rw [if_pos (show x ≤ m + 1 by omega)]; omega
      · rw [if_neg z2] at h
        omega
theorem sz_ns_sm (Q m : Nat) : ∀ c, sz_ns (fun i => sz_sm D a i (fun _ => Q) c) m ≤ c * Q
  | 0 => by
    have h : ∀ m, sz_ns (fun i => sz_sm D a i (fun _ => Q) 0) m = 0 := by
      intro m
      induction m with
      | zero => rfl
      | succ m ih => rw [sz_ns, ih]; rfl
    rw [h]; exact Nat.zero_le _
  | c + 1 => by
    have e : (fun i => sz_sm D a i (fun _ => Q) (c + 1)) = (fun i => sz_sm D a i (fun _ => Q) c + if pm_vn D c = a ∧ pm_vm D c = i then Q else 0) := rfl
    rw [e, sz_ns_add, Nat.succ_mul]
    have h1 := sz_ns_sm Q m c
    have h2 := sz_ns_one (P := pm_vn D c = a) (pm_vm D c) Q m
    have h3 : (if pm_vm D c ≤ m then Q else 0) ≤ Q := by split <;> omega
    omega
theorem sz_ns_mono {h h' : Nat → Nat} : ∀ m, (∀ i, 1 ≤ i → i ≤ m → h i ≤ h' i) → sz_ns h m ≤ sz_ns h' m
  | 0, _ => Nat.le_refl _
  | m + 1, H => by
    rw [sz_ns, sz_ns]
    have := sz_ns_mono m (fun i h1 h2 => H i h1 (by omega))
    have := H (m + 1) (by omega) (by omega)
    omega
theorem sz_f_le {H : Nat} (hb : ∀ j, j < pm_nv D → pm_vn D j = a → pm_vm D j = n → sz_b (K (sz_j D a n)) (pm_va D j) g ≤ H) :
    sz_f K R D g a n ≤ sz_sm D a n (fun _ => H + 11) (pm_nv D) := by
  unfold sz_f
  split
  · split
    · exact Nat.zero_le _
    · rename_i h0
      have h1 := sz_sm_11 (D := D) (a := a) (n := n) (H := H) (pm_nv D) hb h0
      have h2 := (sz_w_le (sz_row K D g a n)).1
      unfold sz_row at h2 ⊢
      omega
  · apply sz_sm_mono
    intro j hj z1 z2
    have h1 := hb j hj z1 z2
    show 1 + sz_l _ _ _ ≤ H + 11
    unfold sz_l
    have h2 := (sz_w_le (sz_b (K (sz_j D a n)) (pm_va D j) g)).1
    split <;> omega
theorem sz_n_le {H : Nat} (hb : ∀ j, j < pm_nv D → pm_vn D j = a → sz_b (pm_kk K D j) (pm_va D j) g ≤ H) : sz_n K R D g a ≤ pm_nv D * (H + 11) := by
  unfold sz_n
  refine Nat.le_trans (sz_ns_mono 15 (h' := fun i => sz_sm D a i (fun _ => H + 11) (pm_nv D)) (fun i _ _ => sz_f_le ?_)) (sz_ns_sm _ _ _)
  intro j hj z1 z2
  have e : K (sz_j D a i) = pm_kk K D j := by
    unfold sz_j; simp only [pm_kk]; rw [z1, z2]
  rw [e]; exact hb j hj z1
theorem sz_r_le (I : pm_DI K L dep D) (hL : L ≤ 200) : ∀ f a, sz_r K R D f a ≤ sz_C f
  | 0, _ => Nat.le_refl _
  | f + 1, a => by
    rw [sz_r, sz_C]
    have h := sz_n_le (K := K) (R := R) (D := D) (a := a) (g := sz_r K R D f) (H := 200 + sz_C f) (by
      intro j hj _
      obtain ⟨v1, v2, v3, v4, v5, v6⟩ := I.2.2.2.2.2.1 j hj
      unfold sz_b
      split
      · have := (sz_w_le (sz_ux (pm_va D j))).1; omega
      split
      · have := (sz_w_le (sz_zg (pm_va D j)).toBitVec.toNat).1; omega
      split
      · omega
      split
      · rename_i h4
        obtain ⟨m, w1, w2⟩ := v5 h4
        rw [w1, nI_clamp (by omega)]; omega
      · have := sz_r_le I hL f (pm_va D j).toNatClampNeg
        omega)
    refine Nat.le_trans h ?_
    exact Nat.mul_le_mul_right _ I.2.2.1
theorem sz_S_le (I : pm_DI K L dep D) (hL : L ≤ 200) (a : Nat) : sz_S K R D a ≤ 1121318160 + 2 ^ 28 := by
  have h := sz_r_le (R := R) I hL 4 a
  have e : sz_C 4 ≤ 1121318160 + 2 ^ 28 := by decide
  exact Nat.le_trans h e
end
