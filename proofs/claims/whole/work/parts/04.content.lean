/-! E: the bytes of a message that is written again -/
section
def ct_vd : Nat → Nat → List Nat
  | 0, x => [x]
  | f + 1, x => if x / 128 = 0 then [x] else (x % 128 + 128) :: ct_vd f (x / 128)
def ct_v (x : Nat) : List Nat := ct_vd 9 x
theorem ct_vd_len : ∀ f x, (ct_vd f x).length = sz_wd f x
  | 0, _ => rfl
  | f + 1, x => by
    rw [ct_vd, sz_wd]
    split
    · rfl
    · rw [List.length_cons, ct_vd_len f]; omega
theorem ct_v_len (x : Nat) : (ct_v x).length = sz_w x := ct_vd_len 9 x
def ct_4 (x : Nat) : List Nat := [x % 256, x / 256 % 256, x / 65536 % 256, x / 16777216 % 256]
def ct_b (B : Nat → Nat) (k : Nat) (x : Int32) (st : Nat) (g : Nat → List Nat) : List Nat :=
  if k = 1 then ct_v (sz_ux x) else if k = 2 then ct_v (sz_zg x).toBitVec.toNat else if k = 3 then ct_4 x.toBitVec.toNat
  else if k = 4 then (List.range x.toNatClampNeg).map (fun i => B (st + i)) else g x.toNatClampNeg
def ct_l (B : Nat → Nat) (k : Nat) (x : Int32) (st : Nat) (g : Nat → List Nat) : List Nat :=
  (if 3 < k then ct_v (ct_b B k x st g).length else []) ++ ct_b B k x st g
def ct_sm (D : pm_D) (a n : Nat) (h : Nat → List Nat) : Nat → List Nat
  | 0 => []
  | c + 1 => ct_sm D a n h c ++ if pm_vn D c = a ∧ pm_vm D c = n then h c else []
/-- the head of a packed row -/
def ct_hd (n W : Nat) : List Nat := (8 * n + 2) :: ct_v W
def ct_row (B : Nat → Nat) (K : Nat → Nat) (D : pm_D) (g : Nat → List Nat) (a n : Nat) (c : Nat) : List Nat :=
  ct_sm D a n (fun j => ct_b B (K (sz_j D a n)) (pm_va D j) (pm_fr D j) g) c
def ct_one (B : Nat → Nat) (K : Nat → Nat) (D : pm_D) (g : Nat → List Nat) (a n : Nat) (c : Nat) : List Nat :=
  ct_sm D a n (fun j => (8 * n + pm_w (K (sz_j D a n))) :: ct_l B (K (sz_j D a n)) (pm_va D j) (pm_fr D j) g) c
def ct_f (B : Nat → Nat) (K : Nat → Nat) (R : Nat → Bool) (D : pm_D) (g : Nat → List Nat) (a n : Nat) : List Nat :=
  if K (sz_j D a n) < 4 ∧ R (sz_j D a n) = true then
    (if (ct_row B K D g a n (pm_nv D)).length = 0 then [] else ct_hd n (ct_row B K D g a n (pm_nv D)).length) ++ ct_row B K D g a n (pm_nv D)
  else ct_one B K D g a n (pm_nv D)
def ct_ns (h : Nat → List Nat) : Nat → List Nat
  | 0 => []
  | m + 1 => ct_ns h m ++ h (m + 1)
def ct_n (B : Nat → Nat) (K : Nat → Nat) (R : Nat → Bool) (D : pm_D) (g : Nat → List Nat) (a : Nat) : List Nat := ct_ns (ct_f B K R D g a) 15
def ct_r (B : Nat → Nat) (K : Nat → Nat) (R : Nat → Bool) (D : pm_D) : Nat → Nat → List Nat
  | 0, _ => []
  | f + 1, a => ct_n B K R D (ct_r B K R D f) a
def ct_S (B : Nat → Nat) (K : Nat → Nat) (R : Nat → Bool) (D : pm_D) (a : Nat) : List Nat := ct_r B K R D 4 a

variable {B : Nat → Nat} {K : Nat → Nat} {R : Nat → Bool} {L : Nat} {dep : Nat → Nat} {D : pm_D} {a n : Nat} {g g' : Nat → List Nat}
theorem ct_b_len (k : Nat) (x : Int32) (st : Nat) : (ct_b B k x st g).length = sz_b k x (fun m => (g m).length) := by
  unfold ct_b sz_b
  split
  · rw [ct_v_len]
  split
  · rw [ct_v_len]
  split
  · rfl
  split
  · rw [List.length_map, List.length_range]
  · rfl
theorem ct_l_len (k : Nat) (x : Int32) (st : Nat) : (ct_l B k x st g).length = sz_l k x (fun m => (g m).length) := by
  unfold ct_l sz_l
  rw [List.length_append, ct_b_len]
  split
  · rw [ct_v_len]; omega
  · rw [List.length_nil]; omega
theorem ct_sm_len {h : Nat → List Nat} : ∀ c, (ct_sm D a n h c).length = sz_sm D a n (fun j => (h j).length) c
  | 0 => rfl
  | c + 1 => by
    rw [ct_sm, sz_sm, List.length_append, ct_sm_len c]
    split <;> rfl
theorem ct_row_len (c : Nat) : (ct_row B K D g a n c).length = sz_sm D a n (fun j => sz_b (K (sz_j D a n)) (pm_va D j) (fun m => (g m).length)) c := by
  unfold ct_row
  rw [ct_sm_len]
  exact sz_sm_g _ (fun j _ _ _ => ct_b_len _ _ _)
theorem ct_one_len (c : Nat) : (ct_one B K D g a n c).length = sz_sm D a n (fun j => 1 + sz_l (K (sz_j D a n)) (pm_va D j) (fun m => (g m).length)) c := by
  unfold ct_one
  rw [ct_sm_len]
  refine sz_sm_g _ (fun j _ _ _ => ?_)
  rw [List.length_cons, ct_l_len]; omega
theorem ct_f_len : (ct_f B K R D g a n).length = sz_f K R D (fun m => (g m).length) a n := by
  unfold ct_f sz_f sz_row
  rw [ct_row_len]
  split
  · rw [List.length_append, ct_row_len]
    split
    · rename_i h0
      rw [h0]; rfl
    · unfold ct_hd
      rw [List.length_cons, ct_v_len]; omega
  · rw [ct_one_len]
theorem ct_ns_len {h : Nat → List Nat} : ∀ m, (ct_ns h m).length = sz_ns (fun i => (h i).length) m
  | 0 => rfl
  | m + 1 => by
    rw [ct_ns, sz_ns, List.length_append, ct_ns_len m]
theorem ct_n_len : (ct_n B K R D g a).length = sz_n K R D (fun m => (g m).length) a := by
  unfold ct_n sz_n
  rw [ct_ns_len]
  exact sz_ns_g _ (fun i _ _ => ct_f_len)
theorem ct_r_len : ∀ f a, (ct_r B K R D f a).length = sz_r K R D f a
  | 0, _ => rfl
  | f + 1, a => by
    rw [ct_r, sz_r, ct_n_len]
    have : (fun m => (ct_r B K R D f m).length) = sz_r K R D f := by
      funext m; exact ct_r_len f m
    rw [this]
theorem ct_S_len (a : Nat) : (ct_S B K R D a).length = sz_S K R D a := ct_r_len 4 a
theorem ct_sm_g {h h' : Nat → List Nat} : ∀ c, (∀ j, j < c → pm_vn D j = a → pm_vm D j = n → h j = h' j) → ct_sm D a n h c = ct_sm D a n h' c
  | 0, _ => rfl
  | c + 1, H => by
    rw [ct_sm, ct_sm, ct_sm_g c (fun j hj => H j (by omega))]
    by_cases z : pm_vn D c = a ∧ pm_vm D c = n
    · rw [if_pos z, if_pos z, H c (by omega) z.1 z.2]
    · rw [if_neg z, if_neg z]
theorem ct_ns_g {h h' : Nat → List Nat} : ∀ m, (∀ i, 1 ≤ i → i ≤ m → h i = h' i) → ct_ns h m = ct_ns h' m
  | 0, _ => rfl
  | m + 1, H => by
    rw [ct_ns, ct_ns, ct_ns_g m (fun i h1 h2 => H i h1 (by omega)), H (m + 1) (by omega) (by omega)]
theorem ct_n_g (I : pm_DI K L dep D) (H : ∀ j, j < pm_nv D → pm_vn D j = a → 4 < pm_kk K D j → g (pm_va D j).toNatClampNeg = g' (pm_va D j).toNatClampNeg) :
    ct_n B K R D g a = ct_n B K R D g' a := by
  unfold ct_n
  apply ct_ns_g
  intro m hm hm'
  have hb : ∀ j, j < pm_nv D → pm_vn D j = a → pm_vm D j = m → ct_b B (K (sz_j D a m)) (pm_va D j) (pm_fr D j) g = ct_b B (K (sz_j D a m)) (pm_va D j) (pm_fr D j) g' := by
    intro j hj h1 h2
    have e : pm_kk K D j = K (sz_j D a m) := by
      unfold sz_j; simp only [pm_kk]; rw [h1, h2]
    have e0 : K (sz_j D a m) ≠ 0 := by
      rw [← e]; exact (I.2.2.2.2.2.1 j hj).2.2.2.1
    unfold ct_b
    split
    · rfl
    split
    · rfl
    split
    · rfl
    split
    · rfl
    · exact H j hj h1 (by rw [e]; omega)
  have h1 : ct_row B K D g a m (pm_nv D) = ct_row B K D g' a m (pm_nv D) := ct_sm_g _ hb
  have h2 : ct_one B K D g a m (pm_nv D) = ct_one B K D g' a m (pm_nv D) := by
    apply ct_sm_g
    intro j hj z1 z2
    show _ :: ct_l _ _ _ _ _ = _ :: ct_l _ _ _ _ _
    unfold ct_l
    rw [hb j hj z1 z2]
  unfold ct_f
  rw [h1, h2]
theorem ct_r_s (I : pm_DI K L dep D) : ∀ f a, a < pm_nn D → 4 ≤ f + dep a → ct_r B K R D f a = ct_r B K R D (f + 1) a
  | 0, a, ha, h => by
    have := (I.2.2.2.2.1 a ha).2
    omega
  | f + 1, a, ha, h => by
    rw [ct_r, ct_r]
    apply ct_n_g I
    intro j hj h1 h2
    obtain ⟨m, w1, w2, w3, w4⟩ := (I.2.2.2.2.2.1 j hj).2.2.2.2.2 h2
    rw [w1, nI_clamp (by have := I.2.1; omega)]
    rw [h1] at w4
    exact ct_r_s I f m w3 (by omega)
theorem ct_S_e (I : pm_DI K L dep D) (ha : a < pm_nn D) : ct_S B K R D a = ct_n B K R D (ct_S B K R D) a := by
  have h := ct_r_s (B := B) (R := R) I 4 a ha (by omega)
  show ct_r B K R D 4 a = _
  rw [h]; rfl

/-- a list stands at a place -/
def ct_at (G : Nat → Nat) (p : Nat) (l : List Nat) : Prop := ∀ i (h : i < l.length), G (p + i) = l[i]
theorem ct_at_nil {G : Nat → Nat} {p : Nat} : ct_at G p [] := fun i h => absurd h (by simp)
theorem ct_at_app {G : Nat → Nat} {p : Nat} {l l' : List Nat} : ct_at G p (l ++ l') ↔ ct_at G p l ∧ ct_at G (p + l.length) l' := by
  constructor
  · intro h
    refine ⟨fun i hi => ?_, fun i hi => ?_⟩
    · have := h i (by rw [List.length_append]; omega)
      rw [this, List.getElem_append_left hi]
    · have := h (l.length + i) (by rw [List.length_append]; omega)
      rw [Nat.add_assoc, this, List.getElem_append_right (by omega)]
      simp only [Nat.add_sub_cancel_left]
  · rintro ⟨h1, h2⟩ i hi
    by_cases g : i < l.length
    · rw [h1 i g, List.getElem_append_left g]
    · have := h2 (i - l.length) (by rw [List.length_append] at hi; omega)
      rw [show p + l.length + (i - l.length) = p + i by omega] at this
      rw [this, List.getElem_append_right (by omega)]
theorem ct_at_cons {G : Nat → Nat} {p x : Nat} {l : List Nat} : ct_at G p (x :: l) ↔ G p = x ∧ ct_at G (p + 1) l := by
  have h := ct_at_app (G := G) (p := p) (l := [x]) (l' := l)
  rw [show [x] ++ l = x :: l from rfl, show [x].length = 1 from rfl] at h
  rw [h]
  refine ⟨fun z => ⟨z.1 0 (by simp), z.2⟩, fun z => ⟨fun i hi => ?_, z.2⟩⟩
  have : i = 0 := by simp at hi; omega
  subst this; exact z.1
end
