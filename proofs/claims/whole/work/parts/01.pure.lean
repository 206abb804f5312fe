/-! A: the pure picture of a message that is read -/
section
abbrev pm_D : Type := Nat × (Nat → Nat) × Nat × (Nat → Nat) × (Nat → Nat) × (Nat → Nat) × (Nat → Int32)
def pm_nn (D : pm_D) : Nat := D.1
def pm_nt (D : pm_D) : Nat → Nat := D.2.1
def pm_nv (D : pm_D) : Nat := D.2.2.1
def pm_vn (D : pm_D) : Nat → Nat := D.2.2.2.1
def pm_vm (D : pm_D) : Nat → Nat := D.2.2.2.2.1
def pm_fr (D : pm_D) : Nat → Nat := D.2.2.2.2.2.1
def pm_va (D : pm_D) : Nat → Int32 := D.2.2.2.2.2.2
/-- the cursor: pos, at, row, fld, skipped, limits, insides, what is kept -/
abbrev pm_C : Type := Nat × Nat × Nat × Nat × Nat × (Nat → Nat) × (Nat → Nat) × pm_D
abbrev pm_pos (c : pm_C) : Nat := c.1
abbrev pm_at (c : pm_C) : Nat := c.2.1
abbrev pm_row (c : pm_C) : Nat := c.2.2.1
abbrev pm_fld (c : pm_C) : Nat := c.2.2.2.1
abbrev pm_sk (c : pm_C) : Nat := c.2.2.2.2.1
abbrev pm_lim (c : pm_C) : Nat → Nat := c.2.2.2.2.2.1
abbrev pm_ins (c : pm_C) : Nat → Nat := c.2.2.2.2.2.2.1
abbrev pm_d (c : pm_C) : pm_D := c.2.2.2.2.2.2.2
def pm_u (f : Nat → Nat) (k x : Nat) : Nat → Nat := fun j => if j = k then x else f j
theorem pm_us {f : Nat → Nat} {k x : Nat} : pm_u f k x k = x := if_pos rfl
theorem pm_un {f : Nat → Nat} {k x j : Nat} (h : j ≠ k) : pm_u f k x j = f j := if_neg h

def pm_fi (vn vm : Nat → Nat) (a n : Nat) : Nat → Nat → Nat
  | 0, i => i
  | c + 1, i => if vn i = a ∧ vm i = n then i else pm_fi vn vm a n c (i + 1)
def pm_ix (D : pm_D) (a n : Nat) : Nat := pm_fi (pm_vn D) (pm_vm D) a n (pm_nv D) 0
def pm_pl (R : Nat → Bool) (D : pm_D) (a n : Nat) : Nat := if R (16 * pm_nt D a + n) = true then pm_nv D else pm_ix D a n
def pm_kp (R : Nat → Bool) (D : pm_D) (a n : Nat) (v : Int32) (st : Nat) : pm_D :=
  (pm_nn D, pm_nt D, (if pm_pl R D a n = pm_nv D then pm_nv D + 1 else pm_nv D),
    pm_u (pm_vn D) (pm_pl R D a n) a, pm_u (pm_vm D) (pm_pl R D a n) n, pm_u (pm_fr D) (pm_pl R D a n) st, upd (pm_va D) (pm_pl R D a n) v)

theorem pm_kp_nn {R : Nat → Bool} {D : pm_D} {a n st : Nat} {v : Int32} : pm_nn (pm_kp R D a n v st) = pm_nn D := rfl
theorem pm_kp_nt {R : Nat → Bool} {D : pm_D} {a n st : Nat} {v : Int32} : pm_nt (pm_kp R D a n v st) = pm_nt D := rfl
theorem pm_kp_nv {R : Nat → Bool} {D : pm_D} {a n st : Nat} {v : Int32} : pm_nv (pm_kp R D a n v st) = if pm_pl R D a n = pm_nv D then pm_nv D + 1 else pm_nv D := rfl
theorem pm_kp_vn {R : Nat → Bool} {D : pm_D} {a n st : Nat} {v : Int32} : pm_vn (pm_kp R D a n v st) = pm_u (pm_vn D) (pm_pl R D a n) a := rfl
theorem pm_kp_vm {R : Nat → Bool} {D : pm_D} {a n st : Nat} {v : Int32} : pm_vm (pm_kp R D a n v st) = pm_u (pm_vm D) (pm_pl R D a n) n := rfl
theorem pm_kp_fr {R : Nat → Bool} {D : pm_D} {a n st : Nat} {v : Int32} : pm_fr (pm_kp R D a n v st) = pm_u (pm_fr D) (pm_pl R D a n) st := rfl
theorem pm_kp_va {R : Nat → Bool} {D : pm_D} {a n st : Nat} {v : Int32} : pm_va (pm_kp R D a n v st) = upd (pm_va D) (pm_pl R D a n) v := rfl

def pm_vr (B : Nat → Nat) (p e T : Nat) : Nat → Nat → Nat × Nat
  | 0, k => (3, k)
  | f + 1, k => if p + k = e then (4, k) else if p + k = T then (9, k) else if B (p + k) < 128 then (0, k + 1) else pm_vr B p e T f (k + 1)
def pm_vs (B : Nat → Nat) (p : Nat) : Nat → Int32
  | 0 => 0
  | d + 1 => if d < 5 then pm_vs B p d ||| ((nI (B (p + d)) &&& 127) <<< ((7 * nI d) &&& 31)) else pm_vs B p d
def pm_fs (B : Nat → Nat) (p : Nat) : Nat → Int32
  | 0 => 0
  | d + 1 => if d < 4 then pm_fs B p d ||| (nI (B (p + d)) <<< ((8 * nI d) &&& 31)) else pm_fs B p d
def pm_zz (x : Int32) : Int32 := (x.toUInt32 >>> ((1 : Int32).toUInt32 &&& Int32.toUInt32 31)).toInt32 ^^^ (-(x &&& 1))
def pm_val (K : Nat → Nat) (j : Nat) (x : Int32) : Int32 := if K j = 2 then pm_zz x else x
def pm_end (c : pm_C) : Nat := if pm_row c = 0 then pm_lim c (pm_at c) else pm_row c
def pm_nd (c : pm_C) : Nat := pm_ins c (pm_at c)
def pm_fj (c : pm_C) (f : Nat) : Nat := 16 * pm_nt (pm_d c) (pm_nd c) + f

def pm_fin (R : Nat → Bool) (c : pm_C) (f p : Nat) (v : Int32) (st : Nat) : Nat × pm_C :=
  if f = 0 then (0, (p, pm_at c, pm_row c, pm_fld c, pm_sk c + (p - pm_pos c), pm_lim c, pm_ins c, pm_d c))
  else if pm_pl R (pm_d c) (pm_nd c) f = 48 then (5, c)
  else (0, (p, pm_at c, pm_row c, pm_fld c, pm_sk c, pm_lim c, pm_ins c, pm_kp R (pm_d c) (pm_nd c) f v st))
def pm_goV (B : Nat → Nat) (K : Nat → Nat) (R : Nat → Bool) (T : Nat) (c : pm_C) (f q d : Nat) : Nat × pm_C :=
  if (pm_vr B q (pm_end c) T (10 - d) d).1 = 0 then
    pm_fin R c f (q + (pm_vr B q (pm_end c) T (10 - d) d).2) (pm_val K (pm_fj c f) (pm_vs B q (pm_vr B q (pm_end c) T (10 - d) d).2)) 0
  else ((pm_vr B q (pm_end c) T (10 - d) d).1, c)
def pm_goF (B : Nat → Nat) (R : Nat → Bool) (T : Nat) (c : pm_C) (f q w : Nat) : Nat × pm_C :=
  if pm_end c < q + w then (if pm_end c ≤ T then (4, c) else (9, c))
  else if T < q + w then (9, c) else pm_fin R c f (q + w) (pm_fs B q 4) 0
def pm_part (R : Nat → Bool) (c : pm_C) (f t q len : Nat) : Nat × pm_C :=
  if pm_pl R (pm_d c) (pm_nd c) f < pm_nv (pm_d c) then
    (0, (q, pm_at c + 1, 0, pm_fld c, pm_sk c, pm_u (pm_lim c) (pm_at c + 1) (q + len),
      pm_u (pm_ins c) (pm_at c + 1) (pm_va (pm_d c) (pm_pl R (pm_d c) (pm_nd c) f)).toNatClampNeg, pm_d c))
  else if pm_nn (pm_d c) = 16 ∨ pm_nv (pm_d c) = 48 ∨ pm_at c = 3 then (5, c)
  else (0, (q, pm_at c + 1, 0, pm_fld c, pm_sk c, pm_u (pm_lim c) (pm_at c + 1) (q + len),
      pm_u (pm_ins c) (pm_at c + 1) (pm_nn (pm_d c)),
      (pm_nn (pm_d c) + 1, pm_u (pm_nt (pm_d c)) (pm_nn (pm_d c)) t, (pm_kp R (pm_d c) (pm_nd c) f (nI (pm_nn (pm_d c))) 0).2.2)))
def pm_body (K : Nat → Nat) (R : Nat → Bool) (T : Nat) (c : pm_C) (f q len : Nat) : Nat × pm_C :=
  if f = 0 then (if T < q + len then (9, c) else pm_fin R c 0 (q + len) 0 0)
  else if K (pm_fj c f) = 4 then
    (if pm_pl R (pm_d c) (pm_nd c) f = 48 then (5, c) else if T < q + len then (9, c) else pm_fin R c f (q + len) (nI len) q)
  else if 4 < K (pm_fj c f) then pm_part R c f (K (pm_fj c f) - 5) q len
  else (0, (q, pm_at c, q + len, f, pm_sk c, pm_lim c, pm_ins c, pm_d c))
def pm_len (K : Nat → Nat) (R : Nat → Bool) (T : Nat) (c : pm_C) (f q : Nat) (x : Int32) : Nat × pm_C :=
  if x < 0 ∨ pm_lim c (pm_at c) < q + x.toNatClampNeg then (4, c) else pm_body K R T c f q x.toNatClampNeg
def pm_goL (B : Nat → Nat) (K : Nat → Nat) (R : Nat → Bool) (T : Nat) (c : pm_C) (f q d : Nat) : Nat × pm_C :=
  if (pm_vr B q (pm_lim c (pm_at c)) T (10 - d) d).1 = 0 then
    pm_len K R T c f (q + (pm_vr B q (pm_lim c (pm_at c)) T (10 - d) d).2) (pm_vs B q (pm_vr B q (pm_lim c (pm_at c)) T (10 - d) d).2)
  else ((pm_vr B q (pm_lim c (pm_at c)) T (10 - d) d).1, c)
def pm_w (k : Nat) : Nat := if k < 3 then 0 else if k = 3 then 5 else 2
/-- the number under which a tag's element is known, or 0 -/
def pm_fl (K : Nat → Nat) (R : Nat → Bool) (c : pm_C) (n w : Nat) : Nat :=
  if 15 < n then 0 else if K (pm_fj c n) = 0 then 0
  else if w = pm_w (K (pm_fj c n)) ∨ (w = 2 ∧ R (pm_fj c n) = true) then n else 0
def pm_dis (B : Nat → Nat) (K : Nat → Nat) (R : Nat → Bool) (T : Nat) (c : pm_C) (q X : Nat) : Nat × pm_C :=
  if X / 8 = 0 then (2, c)
  else if X % 8 = 0 then pm_goV B K R T c (pm_fl K R c (X / 8) 0) q 0
  else if X % 8 = 2 then pm_goL B K R T c (pm_fl K R c (X / 8) 2) q 0
  else if X % 8 = 5 then pm_goF B R T c (pm_fl K R c (X / 8) 5) q 4
  else if X % 8 = 1 then pm_goF B R T c 0 q 8
  else (2, c)
def pm_goT (B : Nat → Nat) (K : Nat → Nat) (R : Nat → Bool) (T : Nat) (c : pm_C) (d : Nat) : Nat × pm_C :=
  if (pm_vr B (pm_pos c) (pm_lim c (pm_at c)) T (10 - d) d).1 = 0 then
    pm_dis B K R T c (pm_pos c + (pm_vr B (pm_pos c) (pm_lim c (pm_at c)) T (10 - d) d).2) (pm_vs B (pm_pos c) (pm_vr B (pm_pos c) (pm_lim c (pm_at c)) T (10 - d) d).2).toBitVec.toNat
  else ((pm_vr B (pm_pos c) (pm_lim c (pm_at c)) T (10 - d) d).1, c)
/-- the single of a row: by the field's kind -/
def pm_goS (B : Nat → Nat) (K : Nat → Nat) (R : Nat → Bool) (T : Nat) (c : pm_C) : Nat × pm_C :=
  if K (pm_fj c (pm_fld c)) = 3 then pm_goF B R T c (pm_fld c) (pm_pos c) 4 else pm_goV B K R T c (pm_fld c) (pm_pos c) 0
def pm_pop (lim : Nat → Nat) (p : Nat) : Nat → Nat
  | 0 => 0
  | a + 1 => if p = lim (a + 1) then pm_pop lim p a else a + 1
def pm_popC (c : pm_C) : pm_C := (pm_pos c, pm_pop (pm_lim c) (pm_pos c) (pm_at c), pm_row c, pm_fld c, pm_sk c, pm_lim c, pm_ins c, pm_d c)
def pm_row0 (c : pm_C) : pm_C := (pm_pos c, pm_at c, 0, pm_fld c, pm_sk c, pm_lim c, pm_ins c, pm_d c)
def pm_rd (B : Nat → Nat) (K : Nat → Nat) (R : Nat → Bool) (T : Nat) : Nat → pm_C → Option (Nat × pm_C)
  | 0, _ => none
  | n + 1, c =>
    if pm_row c ≠ 0 then
      (if pm_pos c = pm_row c then pm_rd B K R T n (pm_row0 c)
       else if (pm_goS B K R T c).1 = 0 then pm_rd B K R T n (pm_goS B K R T c).2 else some (pm_goS B K R T c))
    else if pm_pos c = pm_lim c 0 then some (0, pm_popC c)
    else if (pm_goT B K R T (pm_popC c) 0).1 = 0 then pm_rd B K R T n (pm_goT B K R T (pm_popC c) 0).2
    else some (pm_goT B K R T (pm_popC c) 0)
def pm_Rd (B : Nat → Nat) (K : Nat → Nat) (R : Nat → Bool) (T : Nat) (c : pm_C) (r : Nat × pm_C) : Prop := ∃ n, pm_rd B K R T n c = some r
/-- what is left of an element: h 0 tag, 1 length, 2 varint, 3 fixed, 4 body -/
abbrev pm_P : Type := Nat × Nat × Nat × Nat × Nat
def pm_go (B : Nat → Nat) (K : Nat → Nat) (R : Nat → Bool) (T : Nat) (c : pm_C) (h f q d w : Nat) : Nat × pm_C :=
  if h = 0 then pm_goT B K R T c d else if h = 1 then pm_goL B K R T c f q d else if h = 2 then pm_goV B K R T c f q d
  else if h = 3 then pm_goF B R T c f q w else pm_body K R T c f q w
def pm_Rp (B : Nat → Nat) (K : Nat → Nat) (R : Nat → Bool) (T : Nat) (g : Nat × pm_C) (r : Nat × pm_C) : Prop :=
  (g.1 = 0 ∧ pm_Rd B K R T g.2 r) ∨ (g.1 ≠ 0 ∧ r = g)

/-! B: its steps -/
variable {B B' : Nat → Nat} {K : Nat → Nat} {R : Nat → Bool} {p e T d f q w : Nat} {c : pm_C} {r : Nat × pm_C}
theorem pm_vr_c (hd : d < 10) (h1 : p + d ≠ e) (h2 : p + d ≠ T) (h3 : ¬ B (p + d) < 128) :
    pm_vr B p e T (10 - d) d = pm_vr B p e T (10 - (d + 1)) (d + 1) := by
  obtain ⟨g, hg⟩ : ∃ g, 10 - d = g + 1 := ⟨9 - d, by omega⟩
  have hg2 : 10 - (d + 1) = g := by omega
  rw [hg, hg2, pm_vr, if_neg h1, if_neg h2, if_neg h3]
theorem pm_vr_d (hd : d < 10) (h1 : p + d ≠ e) (h2 : p + d ≠ T) (h3 : B (p + d) < 128) : pm_vr B p e T (10 - d) d = (0, d + 1) := by
  obtain ⟨g, hg⟩ : ∃ g, 10 - d = g + 1 := ⟨9 - d, by omega⟩
  rw [hg, pm_vr, if_neg h1, if_neg h2, if_pos h3]
theorem pm_vr_e (hd : d < 10) (h1 : p + d = e) : pm_vr B p e T (10 - d) d = (4, d) := by
  obtain ⟨g, hg⟩ : ∃ g, 10 - d = g + 1 := ⟨9 - d, by omega⟩
  rw [hg, pm_vr, if_pos h1]
theorem pm_vr_9 (hd : d < 10) (h1 : p + d ≠ e) (h2 : p + d = T) : pm_vr B p e T (10 - d) d = (9, d) := by
  obtain ⟨g, hg⟩ : ∃ g, 10 - d = g + 1 := ⟨9 - d, by omega⟩
  rw [hg, pm_vr, if_neg h1, if_pos h2]
theorem pm_vr_x (h1 : p + 9 ≠ e) (h2 : p + 9 ≠ T) (h3 : ¬ B (p + 9) < 128) : pm_vr B p e T (10 - 9) 9 = (3, 10) := by
  rw [pm_vr_c (by omega) h1 h2 h3]; rfl

theorem pm_goT_c (hd : d < 10) (h1 : pm_pos c + d ≠ pm_lim c (pm_at c)) (h2 : pm_pos c + d ≠ T) (h3 : ¬ B (pm_pos c + d) < 128) :
    pm_goT B K R T c d = pm_goT B K R T c (d + 1) := by
  unfold pm_goT; rw [pm_vr_c hd h1 h2 h3]
theorem pm_goT_d (hd : d < 10) (h1 : pm_pos c + d ≠ pm_lim c (pm_at c)) (h2 : pm_pos c + d ≠ T) (h3 : B (pm_pos c + d) < 128) :
    pm_goT B K R T c d = pm_dis B K R T c (pm_pos c + (d + 1)) (pm_vs B (pm_pos c) (d + 1)).toBitVec.toNat := by
  unfold pm_goT; rw [pm_vr_d hd h1 h2 h3]; rfl
theorem pm_goT_e (hd : d < 10) (h1 : pm_pos c + d = pm_lim c (pm_at c)) : pm_goT B K R T c d = (4, c) := by
  unfold pm_goT; rw [pm_vr_e hd h1]; rfl
theorem pm_goT_9 (hd : d < 10) (h1 : pm_pos c + d ≠ pm_lim c (pm_at c)) (h2 : pm_pos c + d = T) : pm_goT B K R T c d = (9, c) := by
  unfold pm_goT; rw [pm_vr_9 hd h1 h2]; rfl
theorem pm_goT_x (h1 : pm_pos c + 9 ≠ pm_lim c (pm_at c)) (h2 : pm_pos c + 9 ≠ T) (h3 : ¬ B (pm_pos c + 9) < 128) : pm_goT B K R T c 9 = (3, c) := by
  unfold pm_goT; rw [pm_vr_x h1 h2 h3]; rfl
theorem pm_goL_c (hd : d < 10) (h1 : q + d ≠ pm_lim c (pm_at c)) (h2 : q + d ≠ T) (h3 : ¬ B (q + d) < 128) :
    pm_goL B K R T c f q d = pm_goL B K R T c f q (d + 1) := by
  unfold pm_goL; rw [pm_vr_c hd h1 h2 h3]
theorem pm_goL_d (hd : d < 10) (h1 : q + d ≠ pm_lim c (pm_at c)) (h2 : q + d ≠ T) (h3 : B (q + d) < 128) :
    pm_goL B K R T c f q d = pm_len K R T c f (q + (d + 1)) (pm_vs B q (d + 1)) := by
  unfold pm_goL; rw [pm_vr_d hd h1 h2 h3]; rfl
theorem pm_goL_e (hd : d < 10) (h1 : q + d = pm_lim c (pm_at c)) : pm_goL B K R T c f q d = (4, c) := by
  unfold pm_goL; rw [pm_vr_e hd h1]; rfl
theorem pm_goL_9 (hd : d < 10) (h1 : q + d ≠ pm_lim c (pm_at c)) (h2 : q + d = T) : pm_goL B K R T c f q d = (9, c) := by
  unfold pm_goL; rw [pm_vr_9 hd h1 h2]; rfl
theorem pm_goL_x (h1 : q + 9 ≠ pm_lim c (pm_at c)) (h2 : q + 9 ≠ T) (h3 : ¬ B (q + 9) < 128) : pm_goL B K R T c f q 9 = (3, c) := by
  unfold pm_goL; rw [pm_vr_x h1 h2 h3]; rfl
theorem pm_goV_c (hd : d < 10) (h1 : q + d ≠ pm_end c) (h2 : q + d ≠ T) (h3 : ¬ B (q + d) < 128) :
    pm_goV B K R T c f q d = pm_goV B K R T c f q (d + 1) := by
  unfold pm_goV; rw [pm_vr_c hd h1 h2 h3]
theorem pm_goV_d (hd : d < 10) (h1 : q + d ≠ pm_end c) (h2 : q + d ≠ T) (h3 : B (q + d) < 128) :
    pm_goV B K R T c f q d = pm_fin R c f (q + (d + 1)) (pm_val K (pm_fj c f) (pm_vs B q (d + 1))) 0 := by
  unfold pm_goV; rw [pm_vr_d hd h1 h2 h3]; rfl
theorem pm_goV_e (hd : d < 10) (h1 : q + d = pm_end c) : pm_goV B K R T c f q d = (4, c) := by
  unfold pm_goV; rw [pm_vr_e hd h1]; rfl
theorem pm_goV_9 (hd : d < 10) (h1 : q + d ≠ pm_end c) (h2 : q + d = T) : pm_goV B K R T c f q d = (9, c) := by
  unfold pm_goV; rw [pm_vr_9 hd h1 h2]; rfl
theorem pm_goV_x (h1 : q + 9 ≠ pm_end c) (h2 : q + 9 ≠ T) (h3 : ¬ B (q + 9) < 128) : pm_goV B K R T c f q 9 = (3, c) := by
  unfold pm_goV; rw [pm_vr_x h1 h2 h3]; rfl
theorem pm_goF_e (h1 : pm_end c < q + w) (h2 : pm_end c ≤ T) : pm_goF B R T c f q w = (4, c) := by
  unfold pm_goF; rw [if_pos h1, if_pos h2]
theorem pm_goF_9 (h2 : T < q + w) (h3 : T < pm_end c) : pm_goF B R T c f q w = (9, c) := by
  unfold pm_goF
  by_cases h1 : pm_end c < q + w
  · rw [if_pos h1, if_neg (by omega)]
  · rw [if_neg h1, if_pos h2]
theorem pm_goF_d (h1 : q + w ≤ pm_end c) (h2 : q + w ≤ T) : pm_goF B R T c f q w = pm_fin R c f (q + w) (pm_fs B q 4) 0 := by
  unfold pm_goF; rw [if_neg (by omega), if_neg (by omega)]

theorem pm_vs_g : ∀ d, (∀ i, i < d → B' (p + i) = B (p + i)) → pm_vs B' p d = pm_vs B p d
  | 0, _ => rfl
  | d + 1, h => by
    unfold pm_vs
    rw [pm_vs_g d (fun i hi => h i (by omega)), h d (by omega)]
theorem pm_fs_g : ∀ d, (∀ i, i < d → B' (p + i) = B (p + i)) → pm_fs B' p d = pm_fs B p d
  | 0, _ => rfl
  | d + 1, h => by
    unfold pm_fs
    rw [pm_fs_g d (fun i hi => h i (by omega)), h d (by omega)]

theorem pm_rd_row (h : pm_row c ≠ 0) (h1 : pm_pos c = pm_row c) (H : pm_Rd B K R T (pm_row0 c) r) : pm_Rd B K R T c r := by
  obtain ⟨n, hn⟩ := H
  exact ⟨n + 1, by rw [pm_rd, if_pos h, if_pos h1, hn]⟩
theorem pm_rd_S (h : pm_row c ≠ 0) (h1 : pm_pos c ≠ pm_row c) (H : pm_Rp B K R T (pm_goS B K R T c) r) : pm_Rd B K R T c r := by
  rcases H with ⟨h0, n, hn⟩ | ⟨h0, hr⟩
  · exact ⟨n + 1, by rw [pm_rd, if_pos h, if_neg h1, if_pos h0, hn]⟩
  · exact ⟨1, by rw [pm_rd, if_pos h, if_neg h1, if_neg h0, hr]⟩
theorem pm_rd_T (h : pm_row c = 0) (h1 : pm_pos c ≠ pm_lim c 0) (H : pm_Rp B K R T (pm_goT B K R T (pm_popC c) 0) r) : pm_Rd B K R T c r := by
  rcases H with ⟨h0, n, hn⟩ | ⟨h0, hr⟩
  · exact ⟨n + 1, by rw [pm_rd, if_neg (fun z => z h), if_neg h1, if_pos h0, hn]⟩
  · exact ⟨1, by rw [pm_rd, if_neg (fun z => z h), if_neg h1, if_neg h0, hr]⟩
theorem pm_rd_E (h : pm_row c = 0) (h1 : pm_pos c = pm_lim c 0) : pm_Rd B K R T c (0, pm_popC c) :=
  ⟨1, by rw [pm_rd, if_neg (fun z => z h), if_pos h1]⟩
theorem pm_Rp_0 {g : Nat × pm_C} {c' : pm_C} (h : g = (0, c')) (H : pm_Rd B K R T c' r) : pm_Rp B K R T g r := by
  subst h; exact Or.inl ⟨rfl, H⟩
theorem pm_Rp_e {g : Nat × pm_C} {x : Nat} (h : g = (x, c)) (hx : x ≠ 0) : pm_Rp B K R T g (x, c) := by
  subst h; exact Or.inr ⟨hx, rfl⟩
end
