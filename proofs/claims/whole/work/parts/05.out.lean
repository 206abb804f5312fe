/-! F: arrays of naturals; what goes out -/
section
/-- an array that holds naturals -/
def an_f (f : Nat → Nat) : Nat → Int32 := fun j => nI (f j)
theorem an_fa (f : Nat → Nat) (j : Nat) : an_f f j = nI (f j) := rfl
theorem an_fu (f : Nat → Nat) (k x : Nat) : upd (an_f f) k (nI x) = an_f (pm_u f k x) := by
  funext j
  show (if j = k then nI x else nI (f j)) = nI (if j = k then x else f j)
  split <;> rfl
/-- a byte as the byte type has it -/
def an_b (x : Nat) : Int32 := (nI x).toInt8.toInt32
def an_g (f : Nat → Nat) : Nat → Int32 := fun j => an_b (f j)
theorem an_ga (f : Nat → Nat) (j : Nat) : an_g f j = an_b (f j) := rfl
theorem an_gu (f : Nat → Nat) (k x : Nat) : upd (an_g f) k (an_b x) = an_g (pm_u f k x) := by
  funext j
  show (if j = k then an_b x else an_b (f j)) = an_b (if j = k then x else f j)
  split <;> rfl
theorem an_255 : ∀ x, x < 256 → an_b x &&& 255 = nI x := by
  unfold an_b
  decide +kernel
def ou_1 (z : (Nat → Nat) × Nat) (b : Nat) : (Nat → Nat) × Nat := if z.2 < 1200 then (pm_u z.1 z.2 b, z.2 + 1) else z
def ou_L (z : (Nat → Nat) × Nat) : List Nat → (Nat → Nat) × Nat
  | [] => z
  | b :: l => ou_L (ou_1 z b) l
theorem ou_L_app (z : (Nat → Nat) × Nat) : ∀ l l', ou_L z (l ++ l') = ou_L (ou_L z l) l'
  | [], _ => rfl
  | b :: l, l' => by
    rw [List.cons_append, ou_L, ou_L, ou_L_app (ou_1 z b) l l']
theorem ou_L_1 (z : (Nat → Nat) × Nat) (b : Nat) : ou_L z [b] = ou_1 z b := rfl
/-- bytes, and at most 1200 of them -/
def ou_I (z : (Nat → Nat) × Nat) : Prop := z.2 ≤ 1200 ∧ ∀ j, z.1 j < 256
theorem ou_1_I {z : (Nat → Nat) × Nat} {b : Nat} (h : ou_I z) (hb : b < 256) : ou_I (ou_1 z b) := by
  unfold ou_1
  split
  · rename_i h1
    refine ⟨h1, fun j => ?_⟩
    show (if j = z.2 then b else z.1 j) < 256
    split
    · exact hb
    · exact h.2 j
  · exact h
theorem ou_L_I : ∀ {l : List Nat} {z : (Nat → Nat) × Nat}, ou_I z → (∀ b, b ∈ l → b < 256) → ou_I (ou_L z l)
  | [], _, h, _ => h
  | b :: l, z, h, hb => ou_L_I (l := l) (ou_1_I h (hb b (by simp))) (fun x hx => hb x (by simp [hx]))
end
