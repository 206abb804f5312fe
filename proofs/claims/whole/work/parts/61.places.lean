/-! W6: what of a message is written already -/
section
variable {B : Nat → Nat} {K : Nat → Nat} {R : Nat → Bool} {L : Nat} {dep : Nat → Nat} {D : pm_D} {G : Nat → Nat} {a n k m mm : Nat} {Q P : Nat → Nat} {np : Nat → Int32} {at' E : Nat}
/-- a part that has its place, and is still to be written -/
def wr_T (K : Nat → Nat) (D : pm_D) (a n k m : Nat) : Prop :=
  a < m ∧ m < pm_nn D ∧ ∃ j, j < pm_nv D ∧ 4 < pm_kk K D j ∧ pm_va D j = nI m ∧ (pm_vn D j < a ∨ (pm_vn D j = a ∧ (pm_vm D j < n ∨ (pm_vm D j = n ∧ j < k))))
def wr_J (B : Nat → Nat) (K : Nat → Nat) (R : Nat → Bool) (D : pm_D) (G : Nat → Nat) (a n k : Nat) (Q : Nat → Nat) (np : Nat → Int32) (P : Nat → Nat) (at' E : Nat) : Prop :=
  (∀ j, Q j = G j ∨ (at' ≤ j ∧ j < E) ∨ ∃ m, wr_T K D a n k m ∧ P m ≤ j ∧ j < P m + sz_S K R D m) ∧
  (∀ m, wr_T K D a n k m → np m = nI (P m) ∧ ct_at G (P m) (ct_S B K R D m) ∧ P m + sz_S K R D m ≤ 4000)
theorem wr_skip (h : ¬ (pm_vn D k = a ∧ pm_vm D k = n ∧ 4 < pm_kk K D k)) : wr_T K D a n (k + 1) m ↔ wr_T K D a n k m := by
  constructor
  · rintro ⟨h1, h2, j, j1, j2, j3, j4⟩
    refine ⟨h1, h2, j, j1, j2, j3, ?_⟩
    rcases j4 with w | ⟨w, w2 | ⟨w2, w3⟩⟩
    · exact Or.inl w
    · exact Or.inr ⟨w, Or.inl w2⟩
    · refine Or.inr ⟨w, Or.inr ⟨w2, ?_⟩⟩
      have : j ≠ k := fun e => h (by subst e; exact ⟨w, w2, j2⟩)
      omega
  · rintro ⟨h1, h2, j, j1, j2, j3, j4⟩
    refine ⟨h1, h2, j, j1, j2, j3, ?_⟩
    rcases j4 with w | ⟨w, w2 | ⟨w2, w3⟩⟩
    · exact Or.inl w
    · exact Or.inr ⟨w, Or.inl w2⟩
    · exact Or.inr ⟨w, Or.inr ⟨w2, by omega⟩⟩
theorem wr_new (hk : k < pm_nv D) (e1 : pm_vn D k = a) (e2 : pm_vm D k = n) (k5 : 4 < pm_kk K D k) (e3 : pm_va D k = nI mm) (h1 : a < mm) (h2 : mm < pm_nn D) (hnn : pm_nn D ≤ 16) : wr_T K D a n (k + 1) m ↔ wr_T K D a n k m ∨ m = mm := by
  constructor
  · rintro ⟨g1, g2, j, j1, j2, j3, j4⟩
    by_cases e : j = k
    · subst e
      right
      exact (nI_eq (by omega) (by omega)).mp (j3.symm.trans e3)
    · left
      refine ⟨g1, g2, j, j1, j2, j3, ?_⟩
      rcases j4 with w | ⟨w, w2 | ⟨w2, w3⟩⟩
      · exact Or.inl w
      · exact Or.inr ⟨w, Or.inl w2⟩
      · exact Or.inr ⟨w, Or.inr ⟨w2, by omega⟩⟩
  · rintro (⟨g1, g2, j, j1, j2, j3, j4⟩ | e)
    · refine ⟨g1, g2, j, j1, j2, j3, ?_⟩
      rcases j4 with w | ⟨w, w2 | ⟨w2, w3⟩⟩
      · exact Or.inl w
      · exact Or.inr ⟨w, Or.inl w2⟩
      · exact Or.inr ⟨w, Or.inr ⟨w2, by omega⟩⟩
    · subst e
      exact ⟨h1, h2, k, hk, k5, e3, Or.inr ⟨e1, Or.inr ⟨e2, by omega⟩⟩⟩
theorem wr_fresh (I : pm_DI K L dep D) (hk : k < pm_nv D) (e1 : pm_vn D k = a) (e2 : pm_vm D k = n) (k5 : 4 < pm_kk K D k) (e3 : pm_va D k = nI mm) (h2 : mm < pm_nn D) : ¬ wr_T K D a n k mm := by
  rintro ⟨g1, g2, j, j1, j2, j3, j4⟩
  have hnn := I.2.1
  have mono := I.2.2.2.2.2.2.1
  have ej : (pm_va D j).toNatClampNeg = mm := by rw [j3, nI_clamp (by omega)]
  have ek : (pm_va D k).toNatClampNeg = mm := by rw [e3, nI_clamp (by omega)]
  have hjk : j = k := by
    rcases Nat.lt_trichotomy j k with w | w | w
    · have := mono j k w hk j2 k5
      omega
    · exact w
    · have := mono k j w j1 k5 j2
      omega
  subst hjk
  rcases j4 with w | ⟨w, w2 | ⟨w2, w3⟩⟩ <;> omega
theorem wr_field : wr_T K D a n (pm_nv D) m ↔ wr_T K D a (n + 1) 0 m := by
  constructor
  · rintro ⟨g1, g2, j, j1, j2, j3, j4⟩
    refine ⟨g1, g2, j, j1, j2, j3, ?_⟩
    rcases j4 with w | ⟨w, w2 | ⟨w2, w3⟩⟩
    · exact Or.inl w
    · exact Or.inr ⟨w, Or.inl (by omega)⟩
    · exact Or.inr ⟨w, Or.inl (by omega)⟩
  · rintro ⟨g1, g2, j, j1, j2, j3, j4⟩
    refine ⟨g1, g2, j, j1, j2, j3, ?_⟩
    rcases j4 with w | ⟨w, w2 | ⟨w2, w3⟩⟩
    · exact Or.inl w
    · by_cases e : pm_vm D j = n
      · exact Or.inr ⟨w, Or.inr ⟨e, j1⟩⟩
      · exact Or.inr ⟨w, Or.inl (by omega)⟩
    · omega
theorem wr_node (I : pm_DI K L dep D) : wr_T K D (a + 1) 1 0 m ↔ wr_T K D a 16 0 m ∧ m ≠ a + 1 := by
  constructor
  · rintro ⟨g1, g2, j, j1, j2, j3, j4⟩
    have hm := I.2.2.2.2.2.1 j j1
    refine ⟨⟨by omega, g2, j, j1, j2, j3, ?_⟩, by omega⟩
    have h1 := hm.2.1
    have h15 := hm.2.2.1
    rcases j4 with w | ⟨w, w2 | ⟨w2, w3⟩⟩
    · by_cases e : pm_vn D j = a
      · exact Or.inr ⟨e, Or.inl (by omega)⟩
      · exact Or.inl (by omega)
    · omega
    · omega
  · rintro ⟨⟨g1, g2, j, j1, j2, j3, j4⟩, hne⟩
    refine ⟨by omega, g2, j, j1, j2, j3, Or.inl ?_⟩
    rcases j4 with w | ⟨w, _⟩ <;> omega
theorem wr_in (I : pm_DI K L dep D) (h : a + 1 < pm_nn D) : wr_T K D a 16 0 (a + 1) := by
  obtain ⟨j, j1, j2, j3⟩ := I.2.2.2.2.2.2.2 (a + 1) (by omega) h
  have hm := I.2.2.2.2.2.1 j j1
  obtain ⟨m, m1, m2, m3, m4⟩ := hm.2.2.2.2.2 j2
  have hnn := I.2.1
  have e : m = a + 1 := (nI_eq (by omega) (by omega)).mp (m1.symm.trans j3)
  subst e
  refine ⟨by omega, h, j, j1, j2, j3, ?_⟩
  have h15 := hm.2.2.1
  by_cases e2 : pm_vn D j = a
  · exact Or.inr ⟨e2, Or.inl (by omega)⟩
  · exact Or.inl (by omega)
theorem wr_Jput {l : List Nat} (h : wr_J B K R D G a n k Q np P at' E) (ha : ct_at G at' l) : wr_J B K R D G a n k (ct_put Q at' l) np P (at' + l.length) E :=
  ⟨wr_step h.1 ha, h.2⟩
theorem wr_Jeq {a' n' k' : Nat} (ht : ∀ m, wr_T K D a n k m ↔ wr_T K D a' n' k' m) (h : wr_J B K R D G a n k Q np P at' E) : wr_J B K R D G a' n' k' Q np P at' E := by
  refine ⟨fun j => ?_, fun m hm => h.2 m ((ht m).mpr hm)⟩
  rcases h.1 j with w | w | ⟨m, w1, w2⟩
  · exact Or.inl w
  · exact Or.inr (Or.inl w)
  · exact Or.inr (Or.inr ⟨m, (ht m).mp w1, w2⟩)
theorem wr_Jnew (I : pm_DI K L dep D) (hk : k < pm_nv D) (e1 : pm_vn D k = a) (e2 : pm_vm D k = n) (k5 : 4 < pm_kk K D k) (e3 : pm_va D k = nI mm) (h1 : a < mm) (h2 : mm < pm_nn D)
    (h : wr_J B K R D G a n k Q np P at' E) (hc : ct_at G at' (ct_S B K R D mm)) (hE : at' + sz_S K R D mm ≤ E) (hE4 : E ≤ 4000) : wr_J B K R D G a n (k + 1) Q (upd np mm (nI at')) (pm_u P mm at') (at' + sz_S K R D mm) E := by
  have hf := wr_fresh I hk e1 e2 k5 e3 h2
  have ht : ∀ m, wr_T K D a n (k + 1) m ↔ wr_T K D a n k m ∨ m = mm := fun m => wr_new hk e1 e2 k5 e3 h1 h2 I.2.1
  refine ⟨fun j => ?_, fun m hm => ?_⟩
  · rcases h.1 j with w | w | ⟨m, w1, w2⟩
    · exact Or.inl w
    · by_cases z : j < at' + sz_S K R D mm
      · refine Or.inr (Or.inr ⟨mm, (ht mm).mpr (Or.inr rfl), ?_⟩)
        rw [pm_us]
        exact ⟨w.1, z⟩
      · exact Or.inr (Or.inl ⟨by omega, w.2⟩)
    · have hne : m ≠ mm := fun e => hf (e ▸ w1)
      refine Or.inr (Or.inr ⟨m, (ht m).mpr (Or.inl w1), ?_⟩)
      rw [pm_un hne]
      exact w2
  · rcases (ht m).mp hm with w | w
    · have hne : m ≠ mm := fun e => hf (e ▸ w)
      rw [pk_un hne, pm_un hne]
      exact h.2 m w
    · subst w
      rw [pk_us, pm_us]
      exact ⟨rfl, hc, by omega⟩
/-- the next node's turn -/
theorem wr_Jnode (I : pm_DI K L dep D) (ha : a + 1 < pm_nn D) (h : wr_J B K R D G a 16 0 Q np P E E) :
    np (a + 1) = nI (P (a + 1)) ∧ ct_at G (P (a + 1)) (ct_S B K R D (a + 1)) ∧ P (a + 1) + sz_S K R D (a + 1) ≤ 4000 ∧ wr_J B K R D G (a + 1) 1 0 Q np P (P (a + 1)) (P (a + 1) + sz_S K R D (a + 1)) := by
  obtain ⟨p1, p2, p3⟩ := h.2 (a + 1) (wr_in I ha)
  refine ⟨p1, p2, p3, fun j => ?_, fun m hm => h.2 m ((wr_node I).mp hm).1⟩
  rcases h.1 j with w | w | ⟨m, w1, w2⟩
  · exact Or.inl w
  · omega
  · by_cases e : m = a + 1
    · subst e
      exact Or.inr (Or.inl w2)
    · exact Or.inr (Or.inr ⟨m, (wr_node I).mpr ⟨w1, e⟩, w2⟩)
/-- all is written -/
theorem wr_Jend (ha : a + 1 = pm_nn D) (h : wr_J B K R D G a 16 0 Q np P E E) : Q = G := by
  funext j
  rcases h.1 j with w | w | ⟨m, ⟨w1, w2, _⟩, _⟩
  · exact w
  · omega
  · omega
/-- what is still to come of a field, of a node -/
def ct_sf (D : pm_D) (a n : Nat) (h : Nat → List Nat) : Nat → Nat → List Nat
  | 0, _ => []
  | r + 1, c => (if pm_vn D c = a ∧ pm_vm D c = n then h c else []) ++ ct_sf D a n h r (c + 1)
theorem ct_sf_sm {h : Nat → List Nat} : ∀ r c, ct_sm D a n h (c + r) = ct_sm D a n h c ++ ct_sf D a n h r c
  | 0, c => by rw [Nat.add_zero, ct_sf, List.append_nil]
  | r + 1, c => by
    have h1 := ct_sf_sm (h := h) r (c + 1)
    rw [show c + (r + 1) = c + 1 + r by omega, h1, ct_sm, ct_sf, List.append_assoc]
theorem ct_sf_all {h : Nat → List Nat} : ct_sf D a n h (pm_nv D) 0 = ct_sm D a n h (pm_nv D) := by
  have := ct_sf_sm (D := D) (a := a) (n := n) (h := h) (pm_nv D) 0
  rw [Nat.zero_add] at this
  rw [this]; rfl
def ct_nf (h : Nat → List Nat) : Nat → Nat → List Nat
  | 0, _ => []
  | r + 1, c => h c ++ ct_nf h r (c + 1)
theorem ct_nf_ns {h : Nat → List Nat} : ∀ r c, ct_ns h (c + r) = ct_ns h c ++ ct_nf h r (c + 1)
  | 0, c => by rw [Nat.add_zero, ct_nf, List.append_nil]
  | r + 1, c => by
    have h1 := ct_nf_ns (h := h) r (c + 1)
    rw [show c + (r + 1) = c + 1 + r by omega, h1, ct_ns, ct_nf, List.append_assoc]
theorem ct_nf_all {h : Nat → List Nat} : ct_nf h 15 1 = ct_ns h 15 := by
  have := ct_nf_ns (h := h) 15 0
  rw [Nat.zero_add] at this
  rw [this]; rfl
end
