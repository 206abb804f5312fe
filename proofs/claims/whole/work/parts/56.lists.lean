/-! W1: lists put at a place; the bytes of a node in the reference's order -/
section
def ct_put (Q : Nat → Nat) (p : Nat) : List Nat → Nat → Nat
  | [] => Q
  | x :: l => ct_put (pm_u Q p x) (p + 1) l
theorem cp_app : ∀ (l l' : List Nat) (Q : Nat → Nat) (p : Nat), ct_put (ct_put Q p l) (p + l.length) l' = ct_put Q p (l ++ l')
  | [], _, _, _ => rfl
  | x :: l, l', Q, p => by
    have h := cp_app l l' (pm_u Q p x) (p + 1)
    rw [show p + 1 + l.length = p + (x :: l).length by rw [List.length_cons]; omega] at h
    exact h
theorem cp_out : ∀ (l : List Nat) (Q : Nat → Nat) (p j : Nat), j < p ∨ p + l.length ≤ j → ct_put Q p l j = Q j
  | [], _, _, _, _ => rfl
  | x :: l, Q, p, j, h => by
    rw [List.length_cons] at h
    show ct_put (pm_u Q p x) (p + 1) l j = Q j
    rw [cp_out l _ (p + 1) j (by omega), pm_un (by omega)]
theorem cp_in {G : Nat → Nat} : ∀ (l : List Nat) (Q : Nat → Nat) (p j : Nat), ct_at G p l → p ≤ j → j < p + l.length → ct_put Q p l j = G j
  | [], _, p, j, _, h1, h2 => absurd h2 (by rw [List.length_nil]; omega)
  | x :: l, Q, p, j, ha, h1, h2 => by
    rw [List.length_cons] at h2
    obtain ⟨a1, a2⟩ := ct_at_cons.mp ha
    show ct_put (pm_u Q p x) (p + 1) l j = G j
    by_cases e : j = p
    · subst e
      rw [cp_out l _ (j + 1) j (by omega), pm_us, a1]
    · exact cp_in l _ (p + 1) j a2 (by omega) (by omega)
theorem cp_at : ∀ (l : List Nat) (Q : Nat → Nat) (p : Nat), ct_at (ct_put Q p l) p l
  | [], _, _ => ct_at_nil
  | x :: l, Q, p => by
    refine ct_at_cons.mpr ⟨?_, cp_at l _ (p + 1)⟩
    show ct_put (pm_u Q p x) (p + 1) l p = x
    rw [cp_out l _ (p + 1) p (by omega), pm_us]
theorem cp_B : ∀ (l : List Nat) (Q : Nat → Nat) (p : Nat), (∀ b, b ∈ l → b < 256) → cr_B Q → cr_B (ct_put Q p l)
  | [], _, _, _, h => h
  | x :: l, Q, p, hl, h => cp_B l _ (p + 1) (fun b hb => hl b (List.mem_cons_of_mem _ hb)) (td_BB (hl x (List.mem_cons_self ..)) h)
/-- a part is written as it shall be -/
theorem wr_step {G Q : Nat → Nat} {U : Nat → Prop} {at' E : Nat} {l : List Nat} (h : ∀ j, Q j = G j ∨ (at' ≤ j ∧ j < E) ∨ U j) (ha : ct_at G at' l) : ∀ j, ct_put Q at' l j = G j ∨ (at' + l.length ≤ j ∧ j < E) ∨ U j := by
  intro j
  by_cases z : at' ≤ j ∧ j < at' + l.length
  · exact Or.inl (cp_in l Q at' j ha z.1 z.2)
  · rw [cp_out l Q at' j (by omega)]
    rcases h j with w | w | w
    · exact Or.inl w
    · exact Or.inr (Or.inl ⟨by omega, w.2⟩)
    · exact Or.inr (Or.inr w)
variable {B : Nat → Nat} {K : Nat → Nat} {R : Nat → Bool} {L : Nat} {dep : Nat → Nat} {D : pm_D} {a n : Nat} {g : Nat → List Nat}
/-- what a value of a field brings -/
def em_h (B : Nat → Nat) (K : Nat → Nat) (R : Nat → Bool) (D : pm_D) (g : Nat → List Nat) (a n v : Nat) : List Nat :=
  if K (sz_j D a n) < 4 ∧ R (sz_j D a n) = true then
    (if pm_ix D a n = v then ct_hd n (ct_row B K D g a n (pm_nv D)).length else []) ++ ct_b B (K (sz_j D a n)) (pm_va D v) (pm_fr D v) g
  else (8 * n + pm_w (K (sz_j D a n))) :: ct_l B (K (sz_j D a n)) (pm_va D v) (pm_fr D v) g
def em (B : Nat → Nat) (K : Nat → Nat) (R : Nat → Bool) (D : pm_D) (g : Nat → List Nat) (a n v : Nat) : List Nat :=
  if v < pm_nv D ∧ pm_vn D v = a ∧ pm_vm D v = n then em_h B K R D g a n v else []
def em_T (B : Nat → Nat) (K : Nat → Nat) (R : Nat → Bool) (D : pm_D) (g : Nat → List Nat) (a : Nat) : Nat → Nat → List Nat
  | 0, _ => []
  | r + 1, c => em B K R D g a (c / 48) (c % 48) ++ em_T B K R D g a r (c + 1)
theorem em_T_app : ∀ r r' c, em_T B K R D g a (r + r') c = em_T B K R D g a r c ++ em_T B K R D g a r' (c + r)
  | 0, r', c => by rw [Nat.zero_add]; rfl
  | r + 1, r', c => by
    rw [show r + 1 + r' = (r + r') + 1 by omega, em_T, em_T, em_T_app r r' (c + 1), List.append_assoc, show c + 1 + r = c + (r + 1) by omega]
theorem em_T_1 (r c : Nat) : em_T B K R D g a (r + 1) c = em_T B K R D g a r c ++ em B K R D g a ((c + r) / 48) ((c + r) % 48) := by
  rw [em_T_app r 1 c, em_T, em_T, List.append_nil]
theorem em_F (hv : pm_nv D ≤ 48) : ∀ r, r ≤ 48 → em_T B K R D g a r (48 * n) = ct_sm D a n (em_h B K R D g a n) (if r ≤ pm_nv D then r else pm_nv D)
  | 0, _ => by rw [if_pos (Nat.zero_le _)]; rfl
  | r + 1, h => by
    rw [em_T_1, em_F hv r (by omega), show (48 * n + r) / 48 = n by omega, show (48 * n + r) % 48 = r by omega]
    unfold em
    by_cases w : r + 1 ≤ pm_nv D
    · rw [if_pos w, if_pos (by omega), ct_sm]
      by_cases z : pm_vn D r = a ∧ pm_vm D r = n
      · rw [if_pos ⟨by omega, z⟩, if_pos z]
      · rw [if_neg (fun q => z q.2), if_neg z]
    · rw [if_neg w, if_neg (show ¬ (r < pm_nv D ∧ pm_vn D r = a ∧ pm_vm D r = n) from fun q => by omega), List.append_nil]
      by_cases w2 : r ≤ pm_nv D
      · rw [if_pos w2, show r = pm_nv D by omega]
      · rw [if_neg w2]
theorem ct_sm_0 {h : Nat → List Nat} : ∀ c, (∀ j, j < c → ¬ (pm_vn D j = a ∧ pm_vm D j = n)) → ct_sm D a n h c = []
  | 0, _ => rfl
  | c + 1, H => by
    rw [ct_sm, if_neg (H c (by omega)), ct_sm_0 c (fun j hj => H j (by omega))]; rfl
theorem pm_ix_lt {j : Nat} (h : j < pm_nv D) (hj : j < pm_ix D a n) : ¬ (pm_vn D j = a ∧ pm_vm D j = n) :=
  (pm_fi_s (vn := pm_vn D) (vm := pm_vm D) (a := a) (n := n) (pm_nv D) 0).2.2.2 j (by omega) (by unfold pm_ix at hj; omega)
theorem em_row {hd : List Nat} {b : Nat → List Nat} : ∀ c, c ≤ pm_nv D → ct_sm D a n (fun v => (if pm_ix D a n = v then hd else []) ++ b v) c = (if pm_ix D a n < c then hd else []) ++ ct_sm D a n b c
  | 0, _ => rfl
  | c + 1, h => by
    rw [ct_sm, em_row c (by omega), ct_sm]
    by_cases z : pm_vn D c = a ∧ pm_vm D c = n
    · rw [if_pos z, if_pos z]
      by_cases e : pm_ix D a n = c
      · rw [if_neg (show ¬ pm_ix D a n < c by omega), if_pos e, if_pos (show pm_ix D a n < c + 1 by omega), ct_sm_0 c (fun j hj => pm_ix_lt (by omega) (by omega))]
        rfl
      · have hle : ¬ c < pm_ix D a n := fun w => pm_ix_lt (by omega) w z
        rw [if_pos (show pm_ix D a n < c by omega), if_neg e, if_pos (show pm_ix D a n < c + 1 by omega), List.nil_append, List.append_assoc]
    · rw [if_neg z, if_neg z, List.append_nil, List.append_nil]
      by_cases e : pm_ix D a n = c
      · exact absurd (e ▸ pm_ix_s (D := D) (a := a) (n := n) (by omega)) z
      · by_cases w : pm_ix D a n < c
        · rw [if_pos w, if_pos (show pm_ix D a n < c + 1 by omega)]
        · rw [if_neg w, if_neg (show ¬ pm_ix D a n < c + 1 by omega)]
theorem ct_row_0 (I : pm_DI K L dep D) (hk : K (sz_j D a n) < 4) : (ct_row B K D g a n (pm_nv D)).length = 0 ↔ ¬ pm_ix D a n < pm_nv D := by
  rw [ct_row_len]
  constructor
  · intro h w
    have z := pm_ix_s w
    have := sz_sm_1 (h := fun j => sz_b (K (sz_j D a n)) (pm_va D j) (fun m => (g m).length)) (pm_nv D) _ w z.1 z.2
    have h1 : 1 ≤ sz_b (K (sz_j D a n)) (pm_va D (pm_ix D a n)) (fun m => (g m).length) := by
      refine sz_b_1 ?_ hk
      rw [← sz_kk (K := K) z.1 z.2]
      exact (I.2.2.2.2.2.1 _ w).2.2.2.1
    omega
  · intro h
    exact sz_sm_0 _ (pm_ix_n h)
theorem em_f (I : pm_DI K L dep D) : em_T B K R D g a 48 (48 * n) = ct_f B K R D g a n := by
  have hv := I.2.2.1
  rw [em_F hv 48 (Nat.le_refl _)]
  have e : (if 48 ≤ pm_nv D then 48 else pm_nv D) = pm_nv D := by split <;> omega
  rw [e]
  unfold ct_f
  by_cases p : K (sz_j D a n) < 4 ∧ R (sz_j D a n) = true
  · rw [if_pos p]
    have e2 : em_h B K R D g a n = fun v => (if pm_ix D a n = v then ct_hd n (ct_row B K D g a n (pm_nv D)).length else []) ++ ct_b B (K (sz_j D a n)) (pm_va D v) (pm_fr D v) g := by
      funext v
      unfold em_h
      rw [if_pos p]
    rw [e2, em_row (pm_nv D) (Nat.le_refl _)]
    have e3 := ct_row_0 (B := B) (g := g) (a := a) (n := n) I p.1
    by_cases w : pm_ix D a n < pm_nv D
    · rw [if_pos w, if_neg (fun q => e3.mp q w)]; rfl
    · rw [if_neg w, if_pos (e3.mpr w)]; rfl
  · rw [if_neg p]
    have e2 : em_h B K R D g a n = fun v => (8 * n + pm_w (K (sz_j D a n))) :: ct_l B (K (sz_j D a n)) (pm_va D v) (pm_fr D v) g := by
      funext v
      unfold em_h
      rw [if_neg p]
    rw [e2]; rfl
theorem em_ns (I : pm_DI K L dep D) : ∀ m, em_T B K R D g a (48 * m) 48 = ct_ns (ct_f B K R D g a) m
  | 0 => rfl
  | m + 1 => by
    rw [show 48 * (m + 1) = 48 * m + 48 by omega, em_T_app, em_ns I m, ct_ns, show 48 + 48 * m = 48 * (m + 1) by omega, em_f I]
theorem em_all (I : pm_DI K L dep D) (ha : a < pm_nn D) : em_T B K R D (ct_S B K R D) a 720 48 = ct_S B K R D a := by
  rw [ct_S_e I ha]
  exact em_ns I 15
end
