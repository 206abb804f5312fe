section
/-! rows pasted from kit/rows -/
section
theorem pk_us {f : Nat → Int32} {k : Nat} {x : Int32} : upd f k x k = x := if_pos rfl
theorem pk_un {f : Nat → Int32} {k j : Nat} {x : Int32} (h : j ≠ k) : upd f k x j = f j := if_neg h
theorem pk_uLs {f : Nat → Int64} {k : Nat} {x : Int64} : vp_updL f k x k = x := if_pos rfl
theorem pk_uLn {f : Nat → Int64} {k j : Nat} {x : Int64} (h : j ≠ k) : vp_updL f k x j = f j := if_neg h
theorem pk_sub {a b : Nat} (h : b ≤ a) : nI a - nI b = nI (a - b) := by
  obtain ⟨c, rfl⟩ : ∃ c, a = c + b := ⟨a - b, by omega⟩
  rw [← nI_add, Int32.add_sub_cancel, Nat.add_sub_cancel]
theorem pk_m1 (n : Nat) : nI (n + 1) + (-1) = nI n := by
  rw [← nI_1, Int32.add_assoc, show (1 : Int32) + (-1) = 0 from rfl, Int32.add_zero]
theorem pk_mul (a b : Nat) : nI a * nI b = nI (a * b) := (Int32.ofNat_mul a b).symm
theorem pk_div {a d : Nat} (ha : a < 2 ^ 31) (h0 : 0 < d) (hd : d < 2 ^ 31) : nI a / nI d = nI (a / d) := by
  apply Int32.toInt_inj.mp
  rw [lg_idiv_nonneg (by rw [nI_toInt ha]; omega) (by rw [nI_toInt hd]; omega), nI_toInt ha, nI_toInt hd, nI_toInt (Nat.lt_of_le_of_lt (Nat.div_le_self a d) ha)]
  first | rfl | exact (Int.natCast_ediv _ _).symm
theorem pk_rem {a d : Nat} (ha : a < 2 ^ 31) (h0 : 0 < d) (hd : d < 2 ^ 31) : nI a - nI a / nI d * nI d = nI (a % d) := by
  rw [pk_div ha h0 hd, pk_mul, pk_sub (Nat.div_mul_le_self a d)]
  exact congrArg nI (by have := Nat.div_add_mod' a d; omega)
theorem pk_sub_toInt {a b : Nat} (ha : a < 2 ^ 30) (hb : b < 2 ^ 30) : (nI a - nI b).toInt = (a : Int) - b := by
  rw [Int32.toInt_sub, nI_toInt (by omega), nI_toInt (by omega)]
  exact Int.bmod_eq_of_le (by omega) (by omega)
theorem pk_sneg {a b : Nat} (hb : b < 2 ^ 30) (h : a < b) : nI a - nI b < 0 := by
  rw [Int32.lt_iff_toInt_lt, pk_sub_toInt (by omega) hb, show (0 : Int32).toInt = 0 from by decide]
  omega
theorem pk_ix (x : Int32) {n : Nat} (hn : n < 2 ^ 31) : x < 0 ∨ nI n ≤ x ∨ ∃ j : Nat, j < n ∧ x = nI j := by
  by_cases h : x < 0
  · exact Or.inl h
  · obtain ⟨j, hj, rfl⟩ := nI_of h
    by_cases h2 : j < n
    · exact Or.inr (Or.inr ⟨j, h2, rfl⟩)
    · exact Or.inr (Or.inl (nI_le (by omega) hj))
theorem pk_le {x y : Int32} {A B : Prop} (a b : Nat) (f : a ≤ b → A) (g : b < a → B) (hx : x = nI a := by rfl) (hy : y = nI b := by rfl) (ha : a < 2 ^ 31 := by omega) (hb : b < 2 ^ 31 := by omega) : (x ≤ y → A) ∧ (¬ x ≤ y → B) := by
  subst hx hy
  rw [nI_leI ha hb]
  exact ⟨f, fun z => g (by omega)⟩
theorem pk_lt {x y : Int32} {A B : Prop} (a b : Nat) (f : a < b → A) (g : b ≤ a → B) (hx : x = nI a := by rfl) (hy : y = nI b := by rfl) (ha : a < 2 ^ 31 := by omega) (hb : b < 2 ^ 31 := by omega) : (x < y → A) ∧ (¬ x < y → B) := by
  subst hx hy
  rw [nI_ltI ha hb]
  exact ⟨f, fun z => g (by omega)⟩
theorem pk_eq {x y : Int32} {A B : Prop} (a b : Nat) (f : a = b → A) (g : a ≠ b → B) (hx : x = nI a := by rfl) (hy : y = nI b := by rfl) (ha : a < 2 ^ 31 := by omega) (hb : b < 2 ^ 31 := by omega) : (x = y → A) ∧ (¬ x = y → B) := by
  subst hx hy
  rw [nI_eq ha hb]
  exact ⟨f, g⟩
theorem pk_in {x : Int32} (n N : Nat) (h : n < N) (hx : x = nI n := by rfl) (hN : N < 2 ^ 31 := by omega) : vp_in x N := by
  subst hx
  exact vp_in_nI h hN
theorem pk_cl {x : Int32} (n : Nat) (hx : x = nI n := by rfl) (h : n < 2 ^ 31 := by omega) : x.toNatClampNeg = n := by
  subst hx
  exact nI_clamp h
theorem pk_tn {n : Nat} (h : n < 2 ^ 32) : (nI n).toBitVec.toNat = n := Nat.mod_eq_of_lt h
theorem pk_and (x : Int32) {m : Int32} (k : Nat) (hm : m.toBitVec.toNat = 2 ^ k - 1) : x &&& m = nI (x.toBitVec.toNat % 2 ^ k) := by
  apply Int32.toBitVec_inj.mp
  apply BitVec.eq_of_toNat_eq
  rw [Int32.toBitVec_and, BitVec.toNat_and, hm, Nat.and_two_pow_sub_one_eq_mod]
  show _ = (BitVec.ofNat 32 _).toNat
  rw [BitVec.toNat_ofNat]
  exact (Nat.mod_eq_of_lt (Nat.lt_of_le_of_lt (Nat.mod_le _ _) x.toBitVec.isLt)).symm
theorem pk_andN {n : Nat} (h : n < 2 ^ 32) {m : Int32} (k : Nat) (hm : m.toBitVec.toNat = 2 ^ k - 1) : nI n &&& m = nI (n % 2 ^ k) := by
  rw [pk_and _ k hm, pk_tn h]
theorem pk_andE (x : Int32) {m : Int32} (k : Nat) (hm : m.toBitVec.toNat = 2 ^ k - 1) : ∃ j : Nat, j < 2 ^ k ∧ x &&& m = nI j := ⟨_, Nat.mod_lt _ (Nat.two_pow_pos k), pk_and x k hm⟩
theorem pk_andIn (x : Int32) {m : Int32} (k : Nat) (hm : m.toBitVec.toNat = 2 ^ k - 1) (hk : k ≤ 30) : vp_in (x &&& m) (2 ^ k) := by
  obtain ⟨j, hj, e⟩ := pk_andE x k hm
  rw [e]
  exact vp_in_nI hj (Nat.lt_of_le_of_lt (Nat.pow_le_pow_right (by decide) hk) (by decide))
theorem pk_shl (a s : Int32) (k : Nat) (hs : (s.toBitVec.smod 32).toNat = k) : (a <<< s).toBitVec.toNat = a.toBitVec.toNat * 2 ^ k % 2 ^ 32 := by
  show (a.toBitVec <<< (s.toBitVec.smod 32).toNat).toNat = _
  rw [hs, BitVec.toNat_shiftLeft, Nat.shiftLeft_eq]
theorem pk_shlN {n : Nat} (s : Int32) (k : Nat) (hs : (s.toBitVec.smod 32).toNat = k) (h : n * 2 ^ k < 2 ^ 32) : nI n <<< s = nI (n * 2 ^ k) := by
  apply Int32.toBitVec_inj.mp
  apply BitVec.eq_of_toNat_eq
  have hn : n < 2 ^ 32 := Nat.lt_of_le_of_lt (Nat.le_mul_of_pos_right n (Nat.two_pow_pos k)) h
  rw [pk_shl _ _ k hs, pk_tn hn, pk_tn h, Nat.mod_eq_of_lt h]
theorem pk_shr (a s : Int32) (k : Nat) (hs : (s.toBitVec.smod 32).toNat = k) : (a >>> s).toInt = a.toInt >>> k := by
  show (a.toBitVec.sshiftRight (s.toBitVec.smod 32).toNat).toInt = _
  rw [hs, BitVec.toInt_sshiftRight]
  rfl
theorem pk_shrN {n : Nat} (h : n < 2 ^ 31) (s : Int32) (k : Nat) (hs : (s.toBitVec.smod 32).toNat = k) : nI n >>> s = nI (n / 2 ^ k) := by
  apply Int32.toInt_inj.mp
  have h2 : n / 2 ^ k ≤ n := Nat.div_le_self _ _
  rw [pk_shr _ _ k hs, nI_toInt h, nI_toInt (by omega), Int.shiftRight_eq_div_pow]
  rfl
theorem pk_ushr (x s : Int32) (k : Nat) (hs : ((s.toUInt32 &&& Int32.toUInt32 31).toBitVec % 32).toNat = k) : (x.toUInt32 >>> (s.toUInt32 &&& Int32.toUInt32 31)).toInt32.toBitVec.toNat = x.toBitVec.toNat / 2 ^ k := by
  have e : (x.toUInt32 >>> (s.toUInt32 &&& Int32.toUInt32 31)).toInt32.toBitVec = x.toBitVec >>> k := by
    rw [← hs]
    exact UInt32.toBitVec_shiftRight _ _
  rw [e, BitVec.toNat_ushiftRight, Nat.shiftRight_eq_div_pow]
theorem pk_ushrN {n : Nat} (hn : n < 2 ^ 32) (s : Int32) (k : Nat) (hs : ((s.toUInt32 &&& Int32.toUInt32 31).toBitVec % 32).toNat = k) : ((nI n).toUInt32 >>> (s.toUInt32 &&& Int32.toUInt32 31)).toInt32 = nI (n / 2 ^ k) := by
  apply Int32.toBitVec_inj.mp
  apply BitVec.eq_of_toNat_eq
  rw [pk_ushr _ s k hs, pk_tn hn, pk_tn (Nat.lt_of_le_of_lt (Nat.div_le_self _ _) hn)]
theorem pk_nb (z : Int32) : narrow .byte (.int z.toInt8.toInt32) = .int z.toInt8.toInt32 := congrArg Value.int (by simp)
theorem pk_ns (z : Int32) : narrow .short (.int z.toInt16.toInt32) = .int z.toInt16.toInt32 := congrArg Value.int (by simp)
theorem pk_fb (r : Int32) : fits .byte (.int r.toInt8.toInt32) = true := by
  have ⟨a, b⟩ := lg_i2b_range r
  have h1 : (-128 : Int32).toInt = -128 := by decide
  have h2 : (127 : Int32).toInt = 127 := by decide
  simp only [fits, Bool.and_eq_true, decide_eq_true_eq, Int32.le_iff_toInt_le, h1, h2]
  omega
theorem pk_fs (r : Int32) : fits .short (.int r.toInt16.toInt32) = true := by
  have ⟨a, b⟩ := lg_i2s_range r
  have h1 : (-32768 : Int32).toInt = -32768 := by decide
  have h2 : (32767 : Int32).toInt = 32767 := by decide
  simp only [fits, Bool.and_eq_true, decide_eq_true_eq, Int32.le_iff_toInt_le, h1, h2]
  omega
theorem pk_charN {q : Nat} (hq : q < 65536) : narrow .char (.int (nI q)) = .int (nI q) ∧ fits .char (.int (nI q)) = true := by
  constructor
  · have e : (nI q).toUInt32.toUInt16.toUInt32.toInt32 = nI q := by
      apply Int32.toBitVec_inj.mp
      apply BitVec.eq_of_toNat_eq
      show (nI q).toUInt32.toUInt16.toUInt32.toNat = q % 2 ^ 32
      rw [UInt16.toNat_toUInt32, UInt32.toNat_toUInt16, show (nI q).toUInt32.toNat = q % 2 ^ 32 from rfl]
      omega
    exact congrArg Value.int e
  · have a : (0 : Int32) ≤ nI q := nI_pos' (by omega)
    have b : nI q ≤ 65535 := nI_le (b := 65535) (by omega) (by decide)
    show (decide ((0 : Int32) ≤ nI q) && decide (nI q ≤ 65535)) = true
    rw [decide_eq_true a, decide_eq_true b]
    rfl
theorem pk_char (x : Int32) : (x.toUInt32 % 65536).toInt32 = nI (x.toBitVec.toNat % 65536) := by
  apply Int32.toBitVec_inj.mp
  apply BitVec.eq_of_toNat_eq
  rw [pk_tn (by omega)]
  show (x.toUInt32 % 65536).toNat = _
  rw [UInt32.toNat_mod]
  rfl
theorem pk_nc (x : Int32) : narrow .char (.int (x.toUInt32 % 65536).toInt32) = .int (x.toUInt32 % 65536).toInt32 := by
  rw [pk_char]
  exact (pk_charN (Nat.mod_lt _ (by decide))).1
theorem pk_fc (x : Int32) : fits .char (.int (x.toUInt32 % 65536).toInt32) = true := by
  rw [pk_char]
  exact (pk_charN (Nat.mod_lt _ (by decide))).2
theorem pk_vb (z : Int32) : vp_nar .byte z.toInt8.toInt32 = z.toInt8.toInt32 := by rw [vp_nar_byte]; simp
theorem pk_vs (z : Int32) : vp_nar .short z.toInt16.toInt32 = z.toInt16.toInt32 := by rw [vp_nar_short]; simp
theorem pk_vc (z : Int32) : vp_nar .char (z.toUInt32 % 65536).toInt32 = (z.toUInt32 % 65536).toInt32 := Value.int.inj (pk_nc z)
theorem pk_lT {n : Nat} (h : n < 2 ^ 63) : (lN n).toInt = (n : Int) := lg_ofNat_toInt h
theorem pk_lLT {a b : Nat} (ha : a < 2 ^ 63) (hb : b < 2 ^ 63) : lN a < lN b ↔ a < b := by
  rw [Int64.lt_iff_toInt_lt, pk_lT ha, pk_lT hb]; omega
theorem pk_lLE {a b : Nat} (ha : a < 2 ^ 63) (hb : b < 2 ^ 63) : lN a ≤ lN b ↔ a ≤ b := by
  rw [Int64.le_iff_toInt_le, pk_lT ha, pk_lT hb]; omega
theorem pk_lEQ {a b : Nat} (ha : a < 2 ^ 63) (hb : b < 2 ^ 63) : lN a = lN b ↔ a = b := by
  rw [← Int64.toInt_inj, pk_lT ha, pk_lT hb]; omega
theorem pk_lOf {x : Int64} (h : ¬ x < 0) : ∃ k : Nat, k < 2 ^ 63 ∧ x = lN k := by
  rw [Int64.lt_iff_toInt_lt] at h
  have h0 : (0 : Int64).toInt = 0 := by decide
  have hx := Int64.toInt_lt x
  refine ⟨x.toInt.toNat, by omega, Int64.toInt_inj.mp ?_⟩
  rw [pk_lT (by omega)]
  omega
theorem pk_lDiv {a b : Nat} (ha : a < 2 ^ 63) (h0 : 0 < b) (hb : b < 2 ^ 63) : lN a / lN b = lN (a / b) := by
  apply Int64.toInt_inj.mp
  rw [lg_ldiv_nonneg (by rw [pk_lT ha]; omega) (by rw [pk_lT hb]; omega), pk_lT ha, pk_lT hb, pk_lT (Nat.lt_of_le_of_lt (Nat.div_le_self a b) ha)]
  rfl
theorem pk_lRem {a b : Nat} (ha : a < 2 ^ 63) (h0 : 0 < b) (hb : b < 2 ^ 63) : lN a - lN a / lN b * lN b = lN (a % b) := by
  rw [pk_lDiv ha h0 hb, lN_mul, lN_sub (Nat.div_mul_le_self a b)]
  exact congrArg lN (by have := Nat.div_add_mod' a b; omega)
theorem pk_loop {σ : Type} (W : Nat → Nat → σ → Prop) (I : Nat → σ → Prop) (e i0 : Nat) (s : σ) (hi : i0 ≤ e) (h0 : I i0 s) (hx : ∀ n s, I e s → W (n + 1) e s)
    (hs : ∀ n i s, i < e → I i s → (∀ s', I (i + 1) s' → W n (i + 1) s') → W (n + 1) i s) : ∃ n, W n i0 s :=
  ⟨e + 1, loop_i W I e hx hs (e + 1) i0 s hi (by omega) h0⟩
theorem pk_loopD {σ : Type} (W : Nat → Nat → σ → Prop) (I : Nat → σ → Prop) (hx : ∀ n s, I 0 s → W (n + 1) 0 s)
    (hs : ∀ n i s, I (i + 1) s → (∀ s', I i s' → W n i s') → W (n + 1) (i + 1) s) : ∀ (e : Nat) (s : σ), I e s → W (e + 1) e s := by
  intro e
  induction e with
  | zero => exact fun s h => hx 0 s h
  | succ e ih => exact fun s h => hs (e + 1) e s h (fun s' h' => ih s' h')
theorem lp1 {A1 : Type} (W : Nat → A1 → Prop) (I : A1 → Prop) (μ : A1 → Nat) (hs : ∀ (n : Nat) (a1 : A1), I a1 → (∀ (b1 : A1), I b1 → μ b1 < μ a1 → W n b1) → W (n + 1) a1) (a1 : A1) (h : I a1) : ∃ n, W n a1 :=
  loop_m (σ := A1) (fun n s => W n s) (fun s => I s) (fun s => μ s) (fun n s hI hk => hs n s hI (fun b1 h9 hm => hk b1 h9 hm)) a1 h
theorem lp2 {A1 A2 : Type} (W : Nat → A1 → A2 → Prop) (I : A1 → A2 → Prop) (μ : A1 → A2 → Nat) (hs : ∀ (n : Nat) (a1 : A1) (a2 : A2), I a1 a2 → (∀ (b1 : A1) (b2 : A2), I b1 b2 → μ b1 b2 < μ a1 a2 → W n b1 b2) → W (n + 1) a1 a2) (a1 : A1) (a2 : A2) (h : I a1 a2) : ∃ n, W n a1 a2 :=
  loop_m (σ := A1 × A2) (fun n s => W n s.1 s.2) (fun s => I s.1 s.2) (fun s => μ s.1 s.2) (fun n s hI hk => hs n s.1 s.2 hI (fun b1 b2 h9 hm => hk (b1, b2) h9 hm)) (a1, a2) h
theorem lp3 {A1 A2 A3 : Type} (W : Nat → A1 → A2 → A3 → Prop) (I : A1 → A2 → A3 → Prop) (μ : A1 → A2 → A3 → Nat) (hs : ∀ (n : Nat) (a1 : A1) (a2 : A2) (a3 : A3), I a1 a2 a3 → (∀ (b1 : A1) (b2 : A2) (b3 : A3), I b1 b2 b3 → μ b1 b2 b3 < μ a1 a2 a3 → W n b1 b2 b3) → W (n + 1) a1 a2 a3) (a1 : A1) (a2 : A2) (a3 : A3) (h : I a1 a2 a3) : ∃ n, W n a1 a2 a3 :=
  loop_m (σ := A1 × A2 × A3) (fun n s => W n s.1 s.2.1 s.2.2) (fun s => I s.1 s.2.1 s.2.2) (fun s => μ s.1 s.2.1 s.2.2) (fun n s hI hk => hs n s.1 s.2.1 s.2.2 hI (fun b1 b2 b3 h9 hm => hk (b1, b2, b3) h9 hm)) (a1, a2, a3) h
/-! ===== Int32 by its bits: bt x i ===== -/
def bt (x : Int32) (i : Nat) : Bool := x.toBitVec.getLsbD i
theorem b_ext {x y : Int32} (h : ∀ i, i < 32 → bt x i = bt y i) : x = y := Int32.toBitVec_inj.mp (BitVec.eq_of_getLsbD_eq (fun i hi => h i hi))
theorem b_or (x y : Int32) (i : Nat) : bt (x ||| y) i = (bt x i || bt y i) := by unfold bt; rw [Int32.toBitVec_or, BitVec.getLsbD_or]
theorem b_and (x y : Int32) (i : Nat) : bt (x &&& y) i = (bt x i && bt y i) := by unfold bt; rw [Int32.toBitVec_and, BitVec.getLsbD_and]
theorem b_xor (x y : Int32) (i : Nat) : bt (x ^^^ y) i = (bt x i ^^ bt y i) := by unfold bt; rw [Int32.toBitVec_xor, BitVec.getLsbD_xor]
theorem b_big {x : Int32} {i : Nat} (h : 32 ≤ i) : bt x i = false := BitVec.getLsbD_of_ge _ _ h
theorem b_255 (i : Nat) : bt 255 i = decide (i < 8) := by
  rcases Nat.lt_or_ge i 32 with h | h
  · exact (by decide +kernel : ∀ i, i < 32 → bt 255 i = decide (i < 8)) i h
  · rw [b_big h, decide_eq_false (by omega)]
theorem b_65535 (i : Nat) : bt 65535 i = decide (i < 16) := by
  rcases Nat.lt_or_ge i 32 with h | h
  · exact (by decide +kernel : ∀ i, i < 32 → bt 65535 i = decide (i < 16)) i h
  · rw [b_big h, decide_eq_false (by omega)]
theorem b_m1 : ∀ i, i < 32 → bt (-1) i = true := by decide +kernel
theorem b_0 (i : Nat) : bt 0 i = false := BitVec.getLsbD_zero
theorem s_l : ∀ n, n < 32 → ((nI n &&& 31).toBitVec.smod 32).toNat = n := by decide +kernel
theorem s_u : ∀ n, n < 32 → (((nI n).toUInt32 &&& Int32.toUInt32 31).toBitVec % 32).toNat = n := by decide +kernel
theorem b_shl (n : Nat) (hn : n < 32) (x : Int32) {i : Nat} (hi : i < 32) : bt (x <<< (nI n &&& 31)) i = (decide (n ≤ i) && bt x (i - n)) := by
  unfold bt
  rw [Int32.toBitVec_shiftLeft]
  show (x.toBitVec <<< ((nI n &&& 31).toBitVec.smod 32).toNat).getLsbD i = _
  rw [s_l n hn, BitVec.getLsbD_shiftLeft]
  rcases Nat.lt_or_ge i n with h | h
  · simp [h, Nat.not_le.mpr h]
  · simp [hi, h, Nat.not_lt.mpr h]
theorem b_ushr (n : Nat) (hn : n < 32) (x : Int32) (i : Nat) : bt ((x.toUInt32 >>> ((nI n).toUInt32 &&& Int32.toUInt32 31)).toInt32) i = bt x (n + i) := by
  show (x.toUInt32 >>> ((nI n).toUInt32 &&& Int32.toUInt32 31)).toBitVec.getLsbD i = x.toUInt32.toBitVec.getLsbD (n + i)
  rw [UInt32.toBitVec_shiftRight]
  show (x.toUInt32.toBitVec >>> (((nI n).toUInt32 &&& Int32.toUInt32 31).toBitVec % 32).toNat).getLsbD i = _
  rw [s_u n hn, BitVec.getLsbD_ushiftRight]
theorem b_sshr (n : Nat) (hn : n < 32) (x : Int32) {i : Nat} (hi : i < 32) : bt (x >>> (nI n &&& 31)) i = if n + i < 32 then bt x (n + i) else bt x 31 := by
  unfold bt
  rw [Int32.toBitVec_shiftRight]
  show (x.toBitVec.sshiftRight ((nI n &&& 31).toBitVec.smod 32).toNat).getLsbD i = _
  rw [s_l n hn, BitVec.getLsbD_sshiftRight, BitVec.msb_eq_getLsbD_last]
  simp [hi]
theorem b_shl8 (x : Int32) {i : Nat} (hi : i < 32) : bt (x <<< ((8 : Int32) &&& 31)) i = (decide (8 ≤ i) && bt x (i - 8)) := b_shl 8 (by omega) x hi
theorem b_shl16 (x : Int32) {i : Nat} (hi : i < 32) : bt (x <<< ((16 : Int32) &&& 31)) i = (decide (16 ≤ i) && bt x (i - 16)) := b_shl 16 (by omega) x hi
theorem b_shl24 (x : Int32) {i : Nat} (hi : i < 32) : bt (x <<< ((24 : Int32) &&& 31)) i = (decide (24 ≤ i) && bt x (i - 24)) := b_shl 24 (by omega) x hi
theorem b_sshr8 (x : Int32) {i : Nat} (hi : i < 32) : bt (x >>> ((8 : Int32) &&& 31)) i = if 8 + i < 32 then bt x (8 + i) else bt x 31 := b_sshr 8 (by omega) x hi
/-! ===== a byte read unsigned ===== -/
theorem bp_b (x : Int32) : x.toInt8.toInt32 &&& 255 = x &&& 255 := by
  apply Int32.toBitVec_inj.mp
  rw [Int32.toBitVec_and, Int32.toBitVec_and, Int8.toBitVec_toInt32, Int32.toBitVec_toInt8]
  apply BitVec.eq_of_getLsbD_eq
  intro i hi
  rw [BitVec.getLsbD_and, BitVec.getLsbD_and]
  have hm : ∀ i < 32, 8 ≤ i → (255 : Int32).toBitVec.getLsbD i = false := by decide
  rcases Nat.lt_or_ge i 8 with z | z
  · rw [BitVec.getLsbD_signExtend, BitVec.getLsbD_signExtend, if_pos z, if_pos hi]
    simp only [z, hi, decide_true, Bool.true_and]
  · rw [hm i hi z]; simp
/-! ===== lN n to 2^64: shifts, and, or, masks, one bit ===== -/
theorem wb_tb (n : Nat) : (lN n).toBitVec = BitVec.ofNat 64 n := rfl
theorem wb_inj {a b : Int64} (h : a.toBitVec = b.toBitVec) : a = b := Int64.toBitVec_inj.mp h
theorem wb_tn {n : Nat} (h : n < 2 ^ 64) : (lN n).toBitVec.toNat = n := by rw [wb_tb, BitVec.toNat_ofNat, Nat.mod_eq_of_lt h]
theorem wb_of (x : Int64) : ∃ n, n < 2 ^ 64 ∧ x = lN n := ⟨x.toBitVec.toNat, x.toBitVec.isLt, wb_inj (by rw [wb_tb]; simp)⟩
theorem wb_of32 (x : Int32) : ∃ n, n < 2 ^ 32 ∧ x = nI n := ⟨x.toBitVec.toNat, x.toBitVec.isLt, Int32.toBitVec_inj.mp (by show _ = BitVec.ofNat 32 _; simp)⟩
theorem wb_c : ∀ k, k < 64 → ((nI k).toInt64 &&& 63) = lN k := by decide +kernel
theorem wb_cu : ∀ k, k < 64 → ((nI k).toInt64.toUInt64 &&& Int64.toUInt64 63) = UInt64.ofNat k := by decide +kernel
theorem wb_sm : ∀ k, k < 64 → (BitVec.ofNat 64 k).smod 64 = BitVec.ofNat 64 k := by decide +kernel
theorem wb_pw {a b : Nat} (h : a ≤ b) : 2 ^ b = 2 ^ a * 2 ^ (b - a) := by rw [← Nat.pow_add]; congr 1; omega
theorem wb_lt2 {a b : Nat} (h : a < b) : 2 ^ a < 2 ^ b := Nat.pow_lt_pow_right (by decide) h
theorem wb_mod (n : Nat) : lN n = lN (n % 2 ^ 64) := wb_inj (by rw [wb_tb, wb_tb]; apply BitVec.eq_of_toNat_eq; rw [BitVec.toNat_ofNat, BitVec.toNat_ofNat, Nat.mod_mod])
theorem wb_shr {n k : Nat} (hn : n < 2 ^ 64) (hk : k < 64) : ((lN n).toUInt64 >>> ((nI k).toInt64.toUInt64 &&& Int64.toUInt64 63)).toInt64 = lN (n / 2 ^ k) := by
  rw [wb_cu k hk]
  apply wb_inj
  apply BitVec.eq_of_toNat_eq
  show ((lN n).toUInt64 >>> UInt64.ofNat k).toNat = (BitVec.ofNat 64 _).toNat
  have h1 : (UInt64.ofNat k).toNat = k := by
    show (BitVec.ofNat 64 k).toNat = k
    rw [BitVec.toNat_ofNat, Nat.mod_eq_of_lt (by omega)]
  have h2 : (lN n).toUInt64.toNat = n := wb_tn hn
  rw [UInt64.toNat_shiftRight, h1, h2, Nat.mod_eq_of_lt hk, Nat.shiftRight_eq_div_pow, BitVec.toNat_ofNat, Nat.mod_eq_of_lt (Nat.lt_of_le_of_lt (Nat.div_le_self _ _) hn)]
theorem wb_shl (n : Nat) {k : Nat} (hk : k < 64) : lN n <<< ((nI k).toInt64 &&& 63) = lN (n * 2 ^ k) := by
  rw [wb_c k hk]
  apply wb_inj
  rw [Int64.toBitVec_shiftLeft, wb_tb, wb_tb, wb_tb, wb_sm k hk]
  apply BitVec.eq_of_toNat_eq
  rw [BitVec.shiftLeft_eq', BitVec.toNat_shiftLeft, BitVec.toNat_ofNat, BitVec.toNat_ofNat, BitVec.toNat_ofNat, Nat.mod_eq_of_lt (show k < 2 ^ 64 by omega), Nat.shiftLeft_eq, Nat.mul_mod, Nat.mod_mod, ← Nat.mul_mod]
theorem wb_and {a b : Nat} (ha : a < 2 ^ 64) (hb : b < 2 ^ 64) : lN a &&& lN b = lN (a &&& b) := by
  apply wb_inj
  rw [Int64.toBitVec_and, wb_tb, wb_tb, wb_tb]
  apply BitVec.eq_of_toNat_eq
  rw [BitVec.toNat_and, BitVec.toNat_ofNat, BitVec.toNat_ofNat, BitVec.toNat_ofNat, Nat.mod_eq_of_lt ha, Nat.mod_eq_of_lt hb, Nat.mod_eq_of_lt (Nat.and_lt_two_pow _ hb)]
theorem wb_or {a b : Nat} (ha : a < 2 ^ 64) (hb : b < 2 ^ 64) : lN a ||| lN b = lN (a ||| b) := by
  apply wb_inj
  rw [Int64.toBitVec_or, wb_tb, wb_tb, wb_tb]
  apply BitVec.eq_of_toNat_eq
  rw [BitVec.toNat_or, BitVec.toNat_ofNat, BitVec.toNat_ofNat, BitVec.toNat_ofNat, Nat.mod_eq_of_lt ha, Nat.mod_eq_of_lt hb, Nat.mod_eq_of_lt (Nat.or_lt_two_pow ha hb)]
theorem wb_mask {n k : Nat} (hn : n < 2 ^ 64) (hk : k < 64) : lN n &&& lN (2 ^ k - 1) = lN (n % 2 ^ k) := by
  rw [wb_and hn (by have := wb_lt2 hk; omega), Nat.and_two_pow_sub_one_eq_mod]
theorem wb_a1 {n : Nat} (hn : n < 2 ^ 64) : lN n &&& 1 = lN (n % 2) := wb_mask (k := 1) hn (by decide)
theorem wb_bit {n k : Nat} (hn : n < 2 ^ 64) (hk : k < 64) : ((lN n).toUInt64 >>> ((nI k).toInt64.toUInt64 &&& Int64.toUInt64 63)).toInt64 &&& 1 = lN (n / 2 ^ k % 2) := by
  rw [wb_shr hn hk, wb_a1 (Nat.lt_of_le_of_lt (Nat.div_le_self _ _) hn)]
theorem wb_xor {q k : Nat} (hk : k < 63) (h : 2 ^ k ≤ q) (h2 : q < 2 ^ (k + 1)) : lN q ^^^ lN (2 ^ k) = lN (q - 2 ^ k) := by
  obtain ⟨r, rfl⟩ : ∃ r, q = 2 ^ k + r := ⟨q - 2 ^ k, by omega⟩
  have hr : r < 2 ^ k := by rw [Nat.pow_succ] at h2; omega
  have hx : (2 ^ k + r) ^^^ 2 ^ k = r := by
    apply Nat.eq_of_testBit_eq
    intro i
    rw [Nat.testBit_xor, Nat.testBit_two_pow]
    rcases Nat.lt_trichotomy i k with h | h | h
    · rw [Nat.testBit_two_pow_add_gt h]
      simp [show ¬ k = i by omega]
    · subst h
      rw [Nat.testBit_two_pow_add_eq]
      simp
    · have a1 : 2 ^ (k + 1) ≤ 2 ^ i := Nat.pow_le_pow_right (by decide) h
      rw [Nat.testBit_lt_two_pow (show 2 ^ k + r < 2 ^ i by omega), Nat.testBit_lt_two_pow (show r < 2 ^ i by omega)]
      simp [show ¬ k = i by omega]
  have b1 := wb_lt2 (show k + 1 < 64 by omega)
  have b2 := wb_lt2 (show k < 64 by omega)
  apply wb_inj
  rw [Int64.toBitVec_xor, wb_tb, wb_tb, wb_tb]
  apply BitVec.eq_of_toNat_eq
  rw [BitVec.toNat_xor, BitVec.toNat_ofNat, BitVec.toNat_ofNat, BitVec.toNat_ofNat, Nat.mod_eq_of_lt (by omega : 2 ^ k + r < 2 ^ 64), Nat.mod_eq_of_lt b2, hx, Nat.add_sub_cancel_left, Nat.mod_eq_of_lt (by omega)]

end
end
section
/-! A: the pure picture of a message that is read -/
section
abbrev pm_D : Type := Nat × (Nat → Nat) × Nat × (Nat → Nat) × (Nat → Nat) × (Nat → Nat) × (Nat → Int32)
def pm_nn (D : pm_D) : Nat := D.1
def pm_nt (D : pm_D) : Nat → Nat := D.2.1
def pm_nv (D : pm_D) : Nat := D.2.2.1
def pm_vn (D : pm_D) : Nat → Nat := D.2.2.2.1
def pm_vm (D : pm_D) : Nat → Nat := D.2.2.2.2.1
def pm_fr (D : pm_D) : Nat → Nat := D.2.2.2.2.2.1
def pm_va (D : pm_D) : Nat → Int32 := D.2.2.2.2.2.2
/-- the cursor: pos, at, row, fld, skipped, limits, insides, what is kept -/
abbrev pm_C : Type := Nat × Nat × Nat × Nat × Nat × (Nat → Nat) × (Nat → Nat) × pm_D
abbrev pm_pos (c : pm_C) : Nat := c.1
abbrev pm_at (c : pm_C) : Nat := c.2.1
abbrev pm_row (c : pm_C) : Nat := c.2.2.1
abbrev pm_fld (c : pm_C) : Nat := c.2.2.2.1
abbrev pm_sk (c : pm_C) : Nat := c.2.2.2.2.1
abbrev pm_lim (c : pm_C) : Nat → Nat := c.2.2.2.2.2.1
abbrev pm_ins (c : pm_C) : Nat → Nat := c.2.2.2.2.2.2.1
abbrev pm_d (c : pm_C) : pm_D := c.2.2.2.2.2.2.2
def pm_u (f : Nat → Nat) (k x : Nat) : Nat → Nat := fun j => if j = k then x else f j
theorem pm_us {f : Nat → Nat} {k x : Nat} : pm_u f k x k = x := if_pos rfl
theorem pm_un {f : Nat → Nat} {k x j : Nat} (h : j ≠ k) : pm_u f k x j = f j := if_neg h

def pm_fi (vn vm : Nat → Nat) (a n : Nat) : Nat → Nat → Nat
  | 0, i => i
  | c + 1, i => if vn i = a ∧ vm i = n then i else pm_fi vn vm a n c (i + 1)
def pm_ix (D : pm_D) (a n : Nat) : Nat := pm_fi (pm_vn D) (pm_vm D) a n (pm_nv D) 0
def pm_pl (R : Nat → Bool) (D : pm_D) (a n : Nat) : Nat := if R (16 * pm_nt D a + n) = true then pm_nv D else pm_ix D a n
def pm_kp (R : Nat → Bool) (D : pm_D) (a n : Nat) (v : Int32) (st : Nat) : pm_D :=
  (pm_nn D, pm_nt D, (if pm_pl R D a n = pm_nv D then pm_nv D + 1 else pm_nv D),
    pm_u (pm_vn D) (pm_pl R D a n) a, pm_u (pm_vm D) (pm_pl R D a n) n, pm_u (pm_fr D) (pm_pl R D a n) st, upd (pm_va D) (pm_pl R D a n) v)

theorem pm_kp_nn {R : Nat → Bool} {D : pm_D} {a n st : Nat} {v : Int32} : pm_nn (pm_kp R D a n v st) = pm_nn D := rfl
theorem pm_kp_nt {R : Nat → Bool} {D : pm_D} {a n st : Nat} {v : Int32} : pm_nt (pm_kp R D a n v st) = pm_nt D := rfl
theorem pm_kp_nv {R : Nat → Bool} {D : pm_D} {a n st : Nat} {v : Int32} : pm_nv (pm_kp R D a n v st) = if pm_pl R D a n = pm_nv D then pm_nv D + 1 else pm_nv D := rfl
theorem pm_kp_vn {R : Nat → Bool} {D : pm_D} {a n st : Nat} {v : Int32} : pm_vn (pm_kp R D a n v st) = pm_u (pm_vn D) (pm_pl R D a n) a := rfl
theorem pm_kp_vm {R : Nat → Bool} {D : pm_D} {a n st : Nat} {v : Int32} : pm_vm (pm_kp R D a n v st) = pm_u (pm_vm D) (pm_pl R D a n) n := rfl
theorem pm_kp_fr {R : Nat → Bool} {D : pm_D} {a n st : Nat} {v : Int32} : pm_fr (pm_kp R D a n v st) = pm_u (pm_fr D) (pm_pl R D a n) st := rfl
theorem pm_kp_va {R : Nat → Bool} {D : pm_D} {a n st : Nat} {v : Int32} : pm_va (pm_kp R D a n v st) = upd (pm_va D) (pm_pl R D a n) v := rfl

def pm_vr (B : Nat → Nat) (p e T : Nat) : Nat → Nat → Nat × Nat
  | 0, k => (3, k)
  | f + 1, k => if p + k = e then (4, k) else if p + k = T then (9, k) else if B (p + k) < 128 then (0, k + 1) else pm_vr B p e T f (k + 1)
def pm_vs (B : Nat → Nat) (p : Nat) : Nat → Int32
  | 0 => 0
  | d + 1 => if d < 5 then pm_vs B p d ||| ((nI (B (p + d)) &&& 127) <<< ((7 * nI d) &&& 31)) else pm_vs B p d
def pm_fs (B : Nat → Nat) (p : Nat) : Nat → Int32
  | 0 => 0
  | d + 1 => if d < 4 then pm_fs B p d ||| (nI (B (p + d)) <<< ((8 * nI d) &&& 31)) else pm_fs B p d
def pm_zz (x : Int32) : Int32 := (x.toUInt32 >>> ((1 : Int32).toUInt32 &&& Int32.toUInt32 31)).toInt32 ^^^ (-(x &&& 1))
def pm_val (K : Nat → Nat) (j : Nat) (x : Int32) : Int32 := if K j = 2 then pm_zz x else x
def pm_end (c : pm_C) : Nat := if pm_row c = 0 then pm_lim c (pm_at c) else pm_row c
def pm_nd (c : pm_C) : Nat := pm_ins c (pm_at c)
def pm_fj (c : pm_C) (f : Nat) : Nat := 16 * pm_nt (pm_d c) (pm_nd c) + f

def pm_fin (R : Nat → Bool) (c : pm_C) (f p : Nat) (v : Int32) (st : Nat) : Nat × pm_C :=
  if f = 0 then (0, (p, pm_at c, pm_row c, pm_fld c, pm_sk c + (p - pm_pos c), pm_lim c, pm_ins c, pm_d c))
  else if pm_pl R (pm_d c) (pm_nd c) f = 48 then (5, c)
  else (0, (p, pm_at c, pm_row c, pm_fld c, pm_sk c, pm_lim c, pm_ins c, pm_kp R (pm_d c) (pm_nd c) f v st))
def pm_goV (B : Nat → Nat) (K : Nat → Nat) (R : Nat → Bool) (T : Nat) (c : pm_C) (f q d : Nat) : Nat × pm_C :=
  if (pm_vr B q (pm_end c) T (10 - d) d).1 = 0 then
    pm_fin R c f (q + (pm_vr B q (pm_end c) T (10 - d) d).2) (pm_val K (pm_fj c f) (pm_vs B q (pm_vr B q (pm_end c) T (10 - d) d).2)) 0
  else ((pm_vr B q (pm_end c) T (10 - d) d).1, c)
def pm_goF (B : Nat → Nat) (R : Nat → Bool) (T : Nat) (c : pm_C) (f q w : Nat) : Nat × pm_C :=
  if pm_end c < q + w then (if pm_end c ≤ T then (4, c) else (9, c))
  else if T < q + w then (9, c) else pm_fin R c f (q + w) (pm_fs B q 4) 0
def pm_part (R : Nat → Bool) (c : pm_C) (f t q len : Nat) : Nat × pm_C :=
  if pm_pl R (pm_d c) (pm_nd c) f < pm_nv (pm_d c) then
    (0, (q, pm_at c + 1, 0, pm_fld c, pm_sk c, pm_u (pm_lim c) (pm_at c + 1) (q + len),
      pm_u (pm_ins c) (pm_at c + 1) (pm_va (pm_d c) (pm_pl R (pm_d c) (pm_nd c) f)).toNatClampNeg, pm_d c))
  else if pm_nn (pm_d c) = 16 ∨ pm_nv (pm_d c) = 48 ∨ pm_at c = 3 then (5, c)
  else (0, (q, pm_at c + 1, 0, pm_fld c, pm_sk c, pm_u (pm_lim c) (pm_at c + 1) (q + len),
      pm_u (pm_ins c) (pm_at c + 1) (pm_nn (pm_d c)),
      (pm_nn (pm_d c) + 1, pm_u (pm_nt (pm_d c)) (pm_nn (pm_d c)) t, (pm_kp R (pm_d c) (pm_nd c) f (nI (pm_nn (pm_d c))) 0).2.2)))
def pm_body (K : Nat → Nat) (R : Nat → Bool) (T : Nat) (c : pm_C) (f q len : Nat) : Nat × pm_C :=
  if f = 0 then (if T < q + len then (9, c) else pm_fin R c 0 (q + len) 0 0)
  else if K (pm_fj c f) = 4 then
    (if pm_pl R (pm_d c) (pm_nd c) f = 48 then (5, c) else if T < q + len then (9, c) else pm_fin R c f (q + len) (nI len) q)
  else if 4 < K (pm_fj c f) then pm_part R c f (K (pm_fj c f) - 5) q len
  else (0, (q, pm_at c, q + len, f, pm_sk c, pm_lim c, pm_ins c, pm_d c))
def pm_len (K : Nat → Nat) (R : Nat → Bool) (T : Nat) (c : pm_C) (f q : Nat) (x : Int32) : Nat × pm_C :=
  if x < 0 ∨ pm_lim c (pm_at c) < q + x.toNatClampNeg then (4, c) else pm_body K R T c f q x.toNatClampNeg
def pm_goL (B : Nat → Nat) (K : Nat → Nat) (R : Nat → Bool) (T : Nat) (c : pm_C) (f q d : Nat) : Nat × pm_C :=
  if (pm_vr B q (pm_lim c (pm_at c)) T (10 - d) d).1 = 0 then
    pm_len K R T c f (q + (pm_vr B q (pm_lim c (pm_at c)) T (10 - d) d).2) (pm_vs B q (pm_vr B q (pm_lim c (pm_at c)) T (10 - d) d).2)
  else ((pm_vr B q (pm_lim c (pm_at c)) T (10 - d) d).1, c)
def pm_w (k : Nat) : Nat := if k < 3 then 0 else if k = 3 then 5 else 2
/-- the number under which a tag's element is known, or 0 -/
def pm_fl (K : Nat → Nat) (R : Nat → Bool) (c : pm_C) (n w : Nat) : Nat :=
  if 15 < n then 0 else if K (pm_fj c n) = 0 then 0
  else if w = pm_w (K (pm_fj c n)) ∨ (w = 2 ∧ R (pm_fj c n) = true) then n else 0
def pm_dis (B : Nat → Nat) (K : Nat → Nat) (R : Nat → Bool) (T : Nat) (c : pm_C) (q X : Nat) : Nat × pm_C :=
  if X / 8 = 0 then (2, c)
  else if X % 8 = 0 then pm_goV B K R T c (pm_fl K R c (X / 8) 0) q 0
  else if X % 8 = 2 then pm_goL B K R T c (pm_fl K R c (X / 8) 2) q 0
  else if X % 8 = 5 then pm_goF B R T c (pm_fl K R c (X / 8) 5) q 4
  else if X % 8 = 1 then pm_goF B R T c 0 q 8
  else (2, c)
def pm_goT (B : Nat → Nat) (K : Nat → Nat) (R : Nat → Bool) (T : Nat) (c : pm_C) (d : Nat) : Nat × pm_C :=
  if (pm_vr B (pm_pos c) (pm_lim c (pm_at c)) T (10 - d) d).1 = 0 then
    pm_dis B K R T c (pm_pos c + (pm_vr B (pm_pos c) (pm_lim c (pm_at c)) T (10 - d) d).2) (pm_vs B (pm_pos c) (pm_vr B (pm_pos c) (pm_lim c (pm_at c)) T (10 - d) d).2).toBitVec.toNat
  else ((pm_vr B (pm_pos c) (pm_lim c (pm_at c)) T (10 - d) d).1, c)
/-- the single of a row: by the field's kind -/
def pm_goS (B : Nat → Nat) (K : Nat → Nat) (R : Nat → Bool) (T : Nat) (c : pm_C) : Nat × pm_C :=
  if K (pm_fj c (pm_fld c)) = 3 then pm_goF B R T c (pm_fld c) (pm_pos c) 4 else pm_goV B K R T c (pm_fld c) (pm_pos c) 0
def pm_pop (lim : Nat → Nat) (p : Nat) : Nat → Nat
  | 0 => 0
  | a + 1 => if p = lim (a + 1) then pm_pop lim p a else a + 1
def pm_popC (c : pm_C) : pm_C := (pm_pos c, pm_pop (pm_lim c) (pm_pos c) (pm_at c), pm_row c, pm_fld c, pm_sk c, pm_lim c, pm_ins c, pm_d c)
def pm_row0 (c : pm_C) : pm_C := (pm_pos c, pm_at c, 0, pm_fld c, pm_sk c, pm_lim c, pm_ins c, pm_d c)
def pm_rd (B : Nat → Nat) (K : Nat → Nat) (R : Nat → Bool) (T : Nat) : Nat → pm_C → Option (Nat × pm_C)
  | 0, _ => none
  | n + 1, c =>
    if pm_row c ≠ 0 then
      (if pm_pos c = pm_row c then pm_rd B K R T n (pm_row0 c)
       else if (pm_goS B K R T c).1 = 0 then pm_rd B K R T n (pm_goS B K R T c).2 else some (pm_goS B K R T c))
    else if pm_pos c = pm_lim c 0 then some (0, pm_popC c)
    else if (pm_goT B K R T (pm_popC c) 0).1 = 0 then pm_rd B K R T n (pm_goT B K R T (pm_popC c) 0).2
    else some (pm_goT B K R T (pm_popC c) 0)
def pm_Rd (B : Nat → Nat) (K : Nat → Nat) (R : Nat → Bool) (T : Nat) (c : pm_C) (r : Nat × pm_C) : Prop := ∃ n, pm_rd B K R T n c = some r
/-- what is left of an element: h 0 tag, 1 length, 2 varint, 3 fixed, 4 body -/
abbrev pm_P : Type := Nat × Nat × Nat × Nat × Nat
def pm_go (B : Nat → Nat) (K : Nat → Nat) (R : Nat → Bool) (T : Nat) (c : pm_C) (h f q d w : Nat) : Nat × pm_C :=
  if h = 0 then pm_goT B K R T c d else if h = 1 then pm_goL B K R T c f q d else if h = 2 then pm_goV B K R T c f q d
  else if h = 3 then pm_goF B R T c f q w else pm_body K R T c f q w
def pm_Rp (B : Nat → Nat) (K : Nat → Nat) (R : Nat → Bool) (T : Nat) (g : Nat × pm_C) (r : Nat × pm_C) : Prop :=
  (g.1 = 0 ∧ pm_Rd B K R T g.2 r) ∨ (g.1 ≠ 0 ∧ r = g)

/-! B: its steps -/
variable {B B' : Nat → Nat} {K : Nat → Nat} {R : Nat → Bool} {p e T d f q w : Nat} {c : pm_C} {r : Nat × pm_C}
theorem pm_vr_c (hd : d < 10) (h1 : p + d ≠ e) (h2 : p + d ≠ T) (h3 : ¬ B (p + d) < 128) :
    pm_vr B p e T (10 - d) d = pm_vr B p e T (10 - (d + 1)) (d + 1) := by
  obtain ⟨g, hg⟩ : ∃ g, 10 - d = g + 1 := ⟨9 - d, by omega⟩
  have hg2 : 10 - (d + 1) = g := by omega
  rw [hg, hg2, pm_vr, if_neg h1, if_neg h2, if_neg h3]
theorem pm_vr_d (hd : d < 10) (h1 : p + d ≠ e) (h2 : p + d ≠ T) (h3 : B (p + d) < 128) : pm_vr B p e T (10 - d) d = (0, d + 1) := by
  obtain ⟨g, hg⟩ : ∃ g, 10 - d = g + 1 := ⟨9 - d, by omega⟩
  rw [hg, pm_vr, if_neg h1, if_neg h2, if_pos h3]
theorem pm_vr_e (hd : d < 10) (h1 : p + d = e) : pm_vr B p e T (10 - d) d = (4, d) := by
  obtain ⟨g, hg⟩ : ∃ g, 10 - d = g + 1 := ⟨9 - d, by omega⟩
  rw [hg, pm_vr, if_pos h1]
theorem pm_vr_9 (hd : d < 10) (h1 : p + d ≠ e) (h2 : p + d = T) : pm_vr B p e T (10 - d) d = (9, d) := by
  obtain ⟨g, hg⟩ : ∃ g, 10 - d = g + 1 := ⟨9 - d, by omega⟩
  rw [hg, pm_vr, if_neg h1, if_pos h2]
theorem pm_vr_x (h1 : p + 9 ≠ e) (h2 : p + 9 ≠ T) (h3 : ¬ B (p + 9) < 128) : pm_vr B p e T (10 - 9) 9 = (3, 10) := by
  rw [pm_vr_c (by omega) h1 h2 h3]; rfl

theorem pm_goT_c (hd : d < 10) (h1 : pm_pos c + d ≠ pm_lim c (pm_at c)) (h2 : pm_pos c + d ≠ T) (h3 : ¬ B (pm_pos c + d) < 128) :
    pm_goT B K R T c d = pm_goT B K R T c (d + 1) := by
  unfold pm_goT; rw [pm_vr_c hd h1 h2 h3]
theorem pm_goT_d (hd : d < 10) (h1 : pm_pos c + d ≠ pm_lim c (pm_at c)) (h2 : pm_pos c + d ≠ T) (h3 : B (pm_pos c + d) < 128) :
    pm_goT B K R T c d = pm_dis B K R T c (pm_pos c + (d + 1)) (pm_vs B (pm_pos c) (d + 1)).toBitVec.toNat := by
  unfold pm_goT; rw [pm_vr_d hd h1 h2 h3]; rfl
theorem pm_goT_e (hd : d < 10) (h1 : pm_pos c + d = pm_lim c (pm_at c)) : pm_goT B K R T c d = (4, c) := by
  unfold pm_goT; rw [pm_vr_e hd h1]; rfl
theorem pm_goT_9 (hd : d < 10) (h1 : pm_pos c + d ≠ pm_lim c (pm_at c)) (h2 : pm_pos c + d = T) : pm_goT B K R T c d = (9, c) := by
  unfold pm_goT; rw [pm_vr_9 hd h1 h2]; rfl
theorem pm_goT_x (h1 : pm_pos c + 9 ≠ pm_lim c (pm_at c)) (h2 : pm_pos c + 9 ≠ T) (h3 : ¬ B (pm_pos c + 9) < 128) : pm_goT B K R T c 9 = (3, c) := by
  unfold pm_goT; rw [pm_vr_x h1 h2 h3]; rfl
theorem pm_goL_c (hd : d < 10) (h1 : q + d ≠ pm_lim c (pm_at c)) (h2 : q + d ≠ T) (h3 : ¬ B (q + d) < 128) :
    pm_goL B K R T c f q d = pm_goL B K R T c f q (d + 1) := by
  unfold pm_goL; rw [pm_vr_c hd h1 h2 h3]
theorem pm_goL_d (hd : d < 10) (h1 : q + d ≠ pm_lim c (pm_at c)) (h2 : q + d ≠ T) (h3 : B (q + d) < 128) :
    pm_goL B K R T c f q d = pm_len K R T c f (q + (d + 1)) (pm_vs B q (d + 1)) := by
  unfold pm_goL; rw [pm_vr_d hd h1 h2 h3]; rfl
theorem pm_goL_e (hd : d < 10) (h1 : q + d = pm_lim c (pm_at c)) : pm_goL B K R T c f q d = (4, c) := by
  unfold pm_goL; rw [pm_vr_e hd h1]; rfl
theorem pm_goL_9 (hd : d < 10) (h1 : q + d ≠ pm_lim c (pm_at c)) (h2 : q + d = T) : pm_goL B K R T c f q d = (9, c) := by
  unfold pm_goL; rw [pm_vr_9 hd h1 h2]; rfl
theorem pm_goL_x (h1 : q + 9 ≠ pm_lim c (pm_at c)) (h2 : q + 9 ≠ T) (h3 : ¬ B (q + 9) < 128) : pm_goL B K R T c f q 9 = (3, c) := by
  unfold pm_goL; rw [pm_vr_x h1 h2 h3]; rfl
theorem pm_goV_c (hd : d < 10) (h1 : q + d ≠ pm_end c) (h2 : q + d ≠ T) (h3 : ¬ B (q + d) < 128) :
    pm_goV B K R T c f q d = pm_goV B K R T c f q (d + 1) := by
  unfold pm_goV; rw [pm_vr_c hd h1 h2 h3]
theorem pm_goV_d (hd : d < 10) (h1 : q + d ≠ pm_end c) (h2 : q + d ≠ T) (h3 : B (q + d) < 128) :
    pm_goV B K R T c f q d = pm_fin R c f (q + (d + 1)) (pm_val K (pm_fj c f) (pm_vs B q (d + 1))) 0 := by
  unfold pm_goV; rw [pm_vr_d hd h1 h2 h3]; rfl
theorem pm_goV_e (hd : d < 10) (h1 : q + d = pm_end c) : pm_goV B K R T c f q d = (4, c) := by
  unfold pm_goV; rw [pm_vr_e hd h1]; rfl
theorem pm_goV_9 (hd : d < 10) (h1 : q + d ≠ pm_end c) (h2 : q + d = T) : pm_goV B K R T c f q d = (9, c) := by
  unfold pm_goV; rw [pm_vr_9 hd h1 h2]; rfl
theorem pm_goV_x (h1 : q + 9 ≠ pm_end c) (h2 : q + 9 ≠ T) (h3 : ¬ B (q + 9) < 128) : pm_goV B K R T c f q 9 = (3, c) := by
  unfold pm_goV; rw [pm_vr_x h1 h2 h3]; rfl
theorem pm_goF_e (h1 : pm_end c < q + w) (h2 : pm_end c ≤ T) : pm_goF B R T c f q w = (4, c) := by
  unfold pm_goF; rw [if_pos h1, if_pos h2]
theorem pm_goF_9 (h2 : T < q + w) (h3 : T < pm_end c) : pm_goF B R T c f q w = (9, c) := by
  unfold pm_goF
  by_cases h1 : pm_end c < q + w
  · rw [if_pos h1, if_neg (by omega)]
  · rw [if_neg h1, if_pos h2]
theorem pm_goF_d (h1 : q + w ≤ pm_end c) (h2 : q + w ≤ T) : pm_goF B R T c f q w = pm_fin R c f (q + w) (pm_fs B q 4) 0 := by
  unfold pm_goF; rw [if_neg (by omega), if_neg (by omega)]

theorem pm_vs_g : ∀ d, (∀ i, i < d → B' (p + i) = B (p + i)) → pm_vs B' p d = pm_vs B p d
  | 0, _ => rfl
  | d + 1, h => by
    unfold pm_vs
    rw [pm_vs_g d (fun i hi => h i (by omega)), h d (by omega)]
theorem pm_fs_g : ∀ d, (∀ i, i < d → B' (p + i) = B (p + i)) → pm_fs B' p d = pm_fs B p d
  | 0, _ => rfl
  | d + 1, h => by
    unfold pm_fs
    rw [pm_fs_g d (fun i hi => h i (by omega)), h d (by omega)]

theorem pm_rd_row (h : pm_row c ≠ 0) (h1 : pm_pos c = pm_row c) (H : pm_Rd B K R T (pm_row0 c) r) : pm_Rd B K R T c r := by
  obtain ⟨n, hn⟩ := H
  exact ⟨n + 1, by rw [pm_rd, if_pos h, if_pos h1, hn]⟩
theorem pm_rd_S (h : pm_row c ≠ 0) (h1 : pm_pos c ≠ pm_row c) (H : pm_Rp B K R T (pm_goS B K R T c) r) : pm_Rd B K R T c r := by
  rcases H with ⟨h0, n, hn⟩ | ⟨h0, hr⟩
  · exact ⟨n + 1, by rw [pm_rd, if_pos h, if_neg h1, if_pos h0, hn]⟩
  · exact ⟨1, by rw [pm_rd, if_pos h, if_neg h1, if_neg h0, hr]⟩
theorem pm_rd_T (h : pm_row c = 0) (h1 : pm_pos c ≠ pm_lim c 0) (H : pm_Rp B K R T (pm_goT B K R T (pm_popC c) 0) r) : pm_Rd B K R T c r := by
  rcases H with ⟨h0, n, hn⟩ | ⟨h0, hr⟩
  · exact ⟨n + 1, by rw [pm_rd, if_neg (fun z => z h), if_neg h1, if_pos h0, hn]⟩
  · exact ⟨1, by rw [pm_rd, if_neg (fun z => z h), if_neg h1, if_neg h0, hr]⟩
theorem pm_rd_E (h : pm_row c = 0) (h1 : pm_pos c = pm_lim c 0) : pm_Rd B K R T c (0, pm_popC c) :=
  ⟨1, by rw [pm_rd, if_neg (fun z => z h), if_pos h1]⟩
theorem pm_Rp_0 {g : Nat × pm_C} {c' : pm_C} (h : g = (0, c')) (H : pm_Rd B K R T c' r) : pm_Rp B K R T g r := by
  subst h; exact Or.inl ⟨rfl, H⟩
theorem pm_Rp_e {g : Nat × pm_C} {x : Nat} (h : g = (x, c)) (hx : x ≠ 0) : pm_Rp B K R T g (x, c) := by
  subst h; exact Or.inr ⟨hx, rfl⟩
end
end
section
/-! C: what holds of a message that is read -/
section
abbrev pm_kk (K : Nat → Nat) (D : pm_D) (j : Nat) : Nat := K (16 * pm_nt D (pm_vn D j) + pm_vm D j)
/-- of one value -/
def pm_VI (K : Nat → Nat) (L : Nat) (dep : Nat → Nat) (D : pm_D) (j : Nat) : Prop :=
  pm_vn D j < pm_nn D ∧ 1 ≤ pm_vm D j ∧ pm_vm D j ≤ 15 ∧ pm_kk K D j ≠ 0 ∧
  (pm_kk K D j = 4 → ∃ m, pm_va D j = nI m ∧ pm_fr D j + m ≤ L) ∧
  (4 < pm_kk K D j → ∃ m, pm_va D j = nI m ∧ pm_vn D j < m ∧ m < pm_nn D ∧ dep m = dep (pm_vn D j) + 1)
def pm_DI (K : Nat → Nat) (L : Nat) (dep : Nat → Nat) (D : pm_D) : Prop :=
  1 ≤ pm_nn D ∧ pm_nn D ≤ 16 ∧ pm_nv D ≤ 48 ∧ dep 0 = 0 ∧ (∀ i, i < pm_nn D → pm_nt D i < 4 ∧ dep i ≤ 3) ∧
  (∀ j, j < pm_nv D → pm_VI K L dep D j) ∧
  (∀ i j, i < j → j < pm_nv D → 4 < pm_kk K D i → 4 < pm_kk K D j → (pm_va D i).toNatClampNeg < (pm_va D j).toNatClampNeg) ∧
  (∀ m, 1 ≤ m → m < pm_nn D → ∃ j, j < pm_nv D ∧ 4 < pm_kk K D j ∧ pm_va D j = nI m)
def pm_CI (K : Nat → Nat) (R : Nat → Bool) (L : Nat) (dep : Nat → Nat) (c : pm_C) : Prop :=
  pm_DI K L dep (pm_d c) ∧ pm_at c ≤ 3 ∧ pm_ins c 0 = 0 ∧ pm_lim c 0 = L ∧
  (∀ i, i ≤ pm_at c → pm_ins c i < pm_nn (pm_d c) ∧ dep (pm_ins c i) = i) ∧
  (∀ i, i < pm_at c → pm_lim c (i + 1) ≤ pm_lim c i) ∧ pm_pos c ≤ pm_end c ∧
  (pm_row c ≠ 0 → pm_row c ≤ pm_lim c (pm_at c) ∧ 1 ≤ pm_fld c ∧ pm_fld c ≤ 15 ∧ 1 ≤ K (pm_fj c (pm_fld c)) ∧ K (pm_fj c (pm_fld c)) ≤ 3 ∧ R (pm_fj c (pm_fld c)) = true)

variable {K : Nat → Nat} {R : Nat → Bool} {L : Nat} {dep : Nat → Nat} {D : pm_D} {c : pm_C}
theorem pm_fi_s {vn vm : Nat → Nat} {a n : Nat} : ∀ (k i : Nat), i ≤ pm_fi vn vm a n k i ∧ pm_fi vn vm a n k i ≤ i + k ∧
    (pm_fi vn vm a n k i < i + k → vn (pm_fi vn vm a n k i) = a ∧ vm (pm_fi vn vm a n k i) = n) ∧
    (∀ j, i ≤ j → j < pm_fi vn vm a n k i → ¬ (vn j = a ∧ vm j = n))
  | 0, i => ⟨Nat.le_refl _, Nat.le_refl _, fun h => absurd h (by simp [pm_fi]), fun j h1 h2 => by simp only [pm_fi] at h2; omega⟩
  | k + 1, i => by
    rw [pm_fi]
    by_cases h : vn i = a ∧ vm i = n
    · rw [if_pos h]
      exact ⟨Nat.le_refl _, by omega, fun _ => h, fun j h1 h2 => by omega⟩
    · rw [if_neg h]
      obtain ⟨h1, h2, h3, h4⟩ := pm_fi_s (vn := vn) (vm := vm) (a := a) (n := n) k (i + 1)
      refine ⟨by omega, by omega, fun z => h3 (by omega), fun j hj1 hj2 => ?_⟩
      rcases Nat.lt_or_ge i j with g | g
      · exact h4 j g hj2
      · have : j = i := by omega
        subst this; exact h
theorem pm_pl_le (a n : Nat) : pm_pl R D a n ≤ pm_nv D := by
  unfold pm_pl
  split
  · exact Nat.le_refl _
  · have := (pm_fi_s (vn := pm_vn D) (vm := pm_vm D) (a := a) (n := n) (pm_nv D) 0).2.1
    unfold pm_ix; omega
theorem pm_pl_lt {a n : Nat} (h : pm_pl R D a n < pm_nv D) : R (16 * pm_nt D a + n) = false ∧ pm_vn D (pm_pl R D a n) = a ∧ pm_vm D (pm_pl R D a n) = n := by
  unfold pm_pl at h ⊢
  split at h
  · omega
  · rename_i g
    rw [if_neg g]
    refine ⟨by simpa using g, (pm_fi_s (vn := pm_vn D) (vm := pm_vm D) (a := a) (n := n) (pm_nv D) 0).2.2.1 ?_⟩
    unfold pm_ix at h; omega

theorem pm_u_eq (f : Nat → Nat) (k x j : Nat) : pm_u f k x j = if j = k then x else f j := rfl
theorem pm_upd_eq (f : Nat → Int32) (k : Nat) (x : Int32) (j : Nat) : upd f k x j = if j = k then x else f j := rfl

/-- a value that is kept (no part) -/
theorem pm_kp_I {a n st : Nat} {v : Int32} (I : pm_DI K L dep D) (ha : a < pm_nn D) (hn : 1 ≤ n) (hn' : n ≤ 15)
    (hk : K (16 * pm_nt D a + n) ≠ 0) (hk' : K (16 * pm_nt D a + n) ≤ 4) (h48 : pm_pl R D a n ≠ 48)
    (hv : K (16 * pm_nt D a + n) = 4 → ∃ m, v = nI m ∧ st + m ≤ L) : pm_DI K L dep (pm_kp R D a n v st) := by
  obtain ⟨i1, i2, i3, i4, i5, i6, i7, i8⟩ := I
  have hle := pm_pl_le (R := R) (D := D) a n
  have hlt := fun h => pm_pl_lt (R := R) (D := D) (a := a) (n := n) h
  generalize hk0 : pm_pl R D a n = k at hle hlt h48
  have e1 : ∀ j, j ≠ k → pm_kk K (pm_kp R D a n v st) j = pm_kk K D j := by
    intro j hj
    simp only [pm_kk, pm_kp_nn, pm_kp_nt, pm_kp_nv, pm_kp_vn, pm_kp_vm, pm_kp_fr, pm_kp_va, hk0, pm_un hj]
  have e2 : pm_kk K (pm_kp R D a n v st) k = K (16 * pm_nt D a + n) := by
    simp only [pm_kk, pm_kp_nn, pm_kp_nt, pm_kp_nv, pm_kp_vn, pm_kp_vm, pm_kp_fr, pm_kp_va, hk0, pm_us]
  have e3 : ∀ j, j < pm_nv (pm_kp R D a n v st) → j ≠ k → j < pm_nv D := by
    intro j hj hjk
    simp only [pm_kp_nn, pm_kp_nt, pm_kp_nv, pm_kp_vn, pm_kp_vm, pm_kp_fr, pm_kp_va, hk0] at hj
    split at hj <;> omega
  have e4 : ∀ j, j < pm_nv D → j < pm_nv (pm_kp R D a n v st) := by
    intro j hj
    simp only [pm_kp_nn, pm_kp_nt, pm_kp_nv, pm_kp_vn, pm_kp_vm, pm_kp_fr, pm_kp_va, hk0]
    split <;> omega
  have ek : k < pm_nv D → pm_kk K D k = K (16 * pm_nt D a + n) := by
    intro h
    simp only [pm_kk, (hlt h).2.1, (hlt h).2.2]
  have ev : ∀ j, j ≠ k → pm_va (pm_kp R D a n v st) j = pm_va D j := by
    intro j hj
    simp only [pm_kp_nn, pm_kp_nt, pm_kp_nv, pm_kp_vn, pm_kp_vm, pm_kp_fr, pm_kp_va, hk0, pm_upd_eq, if_neg hj]
  refine ⟨i1, i2, ?_, i4, i5, ?_, ?_, ?_⟩
  · simp only [pm_kp_nn, pm_kp_nt, pm_kp_nv, pm_kp_vn, pm_kp_vm, pm_kp_fr, pm_kp_va, hk0]
    split <;> omega
  · intro j hj
    by_cases hjk : j = k
    · subst hjk
      refine ⟨?_, ?_, ?_, ?_, ?_, ?_⟩
      · simp only [pm_kp_nn, pm_kp_nt, pm_kp_nv, pm_kp_vn, pm_kp_vm, pm_kp_fr, pm_kp_va, hk0, pm_us]; exact ha
      · simp only [pm_kp_nn, pm_kp_nt, pm_kp_nv, pm_kp_vn, pm_kp_vm, pm_kp_fr, pm_kp_va, hk0, pm_us]; exact hn
      · simp only [pm_kp_nn, pm_kp_nt, pm_kp_nv, pm_kp_vn, pm_kp_vm, pm_kp_fr, pm_kp_va, hk0, pm_us]; exact hn'
      · rw [e2]; exact hk
      · intro z
        rw [e2] at z
        obtain ⟨m, hm1, hm2⟩ := hv z
        exact ⟨m, by simp only [pm_kp_nn, pm_kp_nt, pm_kp_nv, pm_kp_vn, pm_kp_vm, pm_kp_fr, pm_kp_va, hk0, pm_upd_eq, if_pos]; exact hm1, by simp only [pm_kp_nn, pm_kp_nt, pm_kp_nv, pm_kp_vn, pm_kp_vm, pm_kp_fr, pm_kp_va, hk0, pm_us]; exact hm2⟩
      · intro z
        rw [e2] at z; omega
    · obtain ⟨v1, v2, v3, v4, v5, v6⟩ := i6 j (e3 j hj hjk)
      refine ⟨?_, ?_, ?_, ?_, ?_, ?_⟩
      · simp only [pm_kp_nn, pm_kp_nt, pm_kp_nv, pm_kp_vn, pm_kp_vm, pm_kp_fr, pm_kp_va, hk0, pm_un hjk]; exact v1
      · simp only [pm_kp_nn, pm_kp_nt, pm_kp_nv, pm_kp_vn, pm_kp_vm, pm_kp_fr, pm_kp_va, hk0, pm_un hjk]; exact v2
      · simp only [pm_kp_nn, pm_kp_nt, pm_kp_nv, pm_kp_vn, pm_kp_vm, pm_kp_fr, pm_kp_va, hk0, pm_un hjk]; exact v3
      · rw [e1 j hjk]; exact v4
      · rw [e1 j hjk, ev j hjk]
        simp only [pm_kp_nn, pm_kp_nt, pm_kp_nv, pm_kp_vn, pm_kp_vm, pm_kp_fr, pm_kp_va, hk0, pm_un hjk]; exact v5
      · rw [e1 j hjk, ev j hjk]
        simp only [pm_kp_nn, pm_kp_nt, pm_kp_nv, pm_kp_vn, pm_kp_vm, pm_kp_fr, pm_kp_va, hk0, pm_un hjk]; exact v6
  · intro i j hij hj hi hj'
    have h1 : i ≠ k := by
      intro z; subst z; rw [e2] at hi; omega
    have h2 : j ≠ k := by
      intro z; subst z; rw [e2] at hj'; omega
    rw [e1 i h1] at hi
    rw [e1 j h2] at hj'
    rw [ev i h1, ev j h2]
    exact i7 i j hij (e3 j hj h2) hi hj'
  · intro m hm hm'
    obtain ⟨j, hj, hj1, hj2⟩ := i8 m hm hm'
    have h1 : j ≠ k := by
      intro z; subst z; rw [ek hj] at hj1; omega
    exact ⟨j, e4 j hj, by rw [e1 j h1]; exact hj1, by rw [ev j h1]; exact hj2⟩

/-- a part that is new -/
theorem pm_pt_I {a n t : Nat} (I : pm_DI K L dep D) (ha : a < pm_nn D) (hn : 1 ≤ n) (hn' : n ≤ 15)
    (hk : 4 < K (16 * pm_nt D a + n)) (ht : t < 4) (h16 : pm_nn D ≠ 16) (h48 : pm_nv D ≠ 48) (hd : dep a < 3) :
    pm_DI K L (pm_u dep (pm_nn D) (dep a + 1)) (pm_nn D + 1, pm_u (pm_nt D) (pm_nn D) t, pm_nv D + 1, pm_u (pm_vn D) (pm_nv D) a, pm_u (pm_vm D) (pm_nv D) n, pm_u (pm_fr D) (pm_nv D) 0, upd (pm_va D) (pm_nv D) (nI (pm_nn D))) := by
  obtain ⟨i1, i2, i3, i4, i5, i6, i7, i8⟩ := I
  obtain ⟨nn, nt, nv, vn, vm, fr, va⟩ := D
  simp only [pm_nn, pm_nt, pm_nv, pm_vn, pm_vm, pm_fr, pm_va] at *
  have e1 : ∀ j, j < nv → pm_kk K (nn + 1, pm_u nt nn t, nv + 1, pm_u vn nv a, pm_u vm nv n, pm_u fr nv 0, upd va nv (nI nn)) j = pm_kk K (nn, nt, nv, vn, vm, fr, va) j := by
    intro j hj
    have := (i6 j hj).1
    simp only [pm_kk, pm_nt, pm_vn, pm_vm] at *
    rw [pm_un (show j ≠ nv by omega), pm_un (show j ≠ nv by omega), pm_un (show vn j ≠ nn by simp only [pm_nn, pm_vn] at this; omega)]
  have e2 : pm_kk K (nn + 1, pm_u nt nn t, nv + 1, pm_u vn nv a, pm_u vm nv n, pm_u fr nv 0, upd va nv (nI nn)) nv = K (16 * nt a + n) := by
    simp only [pm_kk, pm_nt, pm_vn, pm_vm]
    rw [pm_us, pm_us, pm_un (show a ≠ nn by omega)]
  have ev : ∀ j, j ≠ nv → upd va nv (nI nn) j = va j := by
    intro j hj
    rw [pm_upd_eq, if_neg hj]
  have ev2 : upd va nv (nI nn) nv = nI nn := by
    rw [pm_upd_eq, if_pos rfl]
  refine ⟨by simp only [pm_nn]; omega, by simp only [pm_nn]; omega, by simp only [pm_nv]; omega, ?_, ?_, ?_, ?_, ?_⟩
  · rw [pm_un (by omega)]; exact i4
  · intro i hi
    simp only [pm_nn, pm_nt] at *
    by_cases hin : i = nn
    · subst hin
      rw [pm_us, pm_us]
      exact ⟨ht, by omega⟩
    · rw [pm_un hin, pm_un hin]
      exact i5 i (by omega)
  · intro j hj
    simp only [pm_nv] at hj
    by_cases hjk : j = nv
    · subst hjk
      refine ⟨?_, ?_, ?_, ?_, ?_, ?_⟩
      · simp only [pm_nn, pm_vn, pm_us]; omega
      · simp only [pm_vm, pm_us]; exact hn
      · simp only [pm_vm, pm_us]; exact hn'
      · rw [e2]; omega
      · intro z
        rw [e2] at z; omega
      · intro _
        refine ⟨nn, ev2, ?_, ?_, ?_⟩
        · simp only [pm_vn, pm_us]; exact ha
        · simp only [pm_nn]; omega
        · simp only [pm_vn, pm_us]
          rw [pm_un (show a ≠ nn by omega)]
    · have hjl : j < nv := by omega
      obtain ⟨v1, v2, v3, v4, v5, v6⟩ := i6 j hjl
      simp only [pm_nn, pm_vn, pm_vm] at v1 v2 v3
      refine ⟨?_, ?_, ?_, ?_, ?_, ?_⟩
      · simp only [pm_nn, pm_vn, pm_un hjk]; omega
      · simp only [pm_vm, pm_un hjk]; exact v2
      · simp only [pm_vm, pm_un hjk]; exact v3
      · rw [e1 j hjl]; exact v4
      · rw [e1 j hjl]
        simp only [pm_va, pm_fr, ev j hjk, pm_un hjk]; exact v5
      · rw [e1 j hjl]
        intro z
        obtain ⟨m, w1, w2, w3, w4⟩ := v6 z
        simp only [pm_nn, pm_vn, pm_va] at w1 w2 w3 w4
        refine ⟨m, ?_, ?_, ?_, ?_⟩
        · simp only [pm_va, ev j hjk]; exact w1
        · simp only [pm_vn, pm_un hjk]; exact w2
        · simp only [pm_nn]; omega
        · simp only [pm_vn, pm_un hjk]
          rw [pm_un (show m ≠ nn by omega), pm_un (show vn j ≠ nn by omega)]
          exact w4
  · intro i j hij hj hi hj'
    simp only [pm_nv] at hj
    rw [e1 i (by omega)] at hi
    by_cases hjk : j = nv
    · subst hjk
      obtain ⟨m, w1, w2, w3, w4⟩ := (i6 i (by omega)).2.2.2.2.2 hi
      simp only [pm_va, pm_nn] at w1 w3 ⊢
      rw [ev2, ev i (by omega), w1, nI_clamp (by omega), nI_clamp (by omega)]
      exact w3
    · rw [e1 j (by omega)] at hj'
      simp only [pm_va]
      rw [ev i (by omega), ev j hjk]
      exact i7 i j hij (by omega) hi hj'
  · intro m hm hm'
    simp only [pm_nn] at hm'
    by_cases hmn : m = nn
    · subst hmn
      exact ⟨nv, by simp only [pm_nv]; omega, by rw [e2]; exact hk, ev2⟩
    · obtain ⟨j, hj, hj1, hj2⟩ := i8 m hm (by omega)
      exact ⟨j, by simp only [pm_nv]; omega, by rw [e1 j hj]; exact hj1, by simp only [pm_va]; rw [ev j (by omega)]; exact hj2⟩

variable {p q x len n t : Nat} {D' : pm_D}
theorem pm_CI_k (I : pm_CI K R L dep c) (I' : pm_DI K L dep D') (h1 : pm_nn D' = pm_nn (pm_d c)) (h2 : pm_nt D' = pm_nt (pm_d c)) (hp : p ≤ pm_end c) :
    pm_CI K R L dep (p, pm_at c, pm_row c, pm_fld c, x, pm_lim c, pm_ins c, D') := by
  obtain ⟨j1, j2, j3, j4, j5, j6, j7, j8⟩ := I
  refine ⟨I', j2, j3, j4, ?_, j6, ?_, ?_⟩
  · intro i hi
    have := j5 i hi
    simp only [pm_ins, pm_d] at *
    rw [h1]; exact this
  · exact hp
  · intro h
    have := j8 h
    simp only [pm_fj, pm_nd, pm_row, pm_fld, pm_lim, pm_at, pm_ins, pm_d] at *
    rw [h2]; exact this
theorem pm_CI_p (I : pm_CI K R L dep c) (hp : p ≤ pm_end c) :
    pm_CI K R L dep (p, pm_at c, pm_row c, pm_fld c, x, pm_lim c, pm_ins c, pm_d c) := pm_CI_k I I.1 rfl rfl hp
theorem pm_CI_kp {f st : Nat} {v : Int32} (I : pm_CI K R L dep c) (hp : p ≤ pm_end c) (hn : 1 ≤ f) (hn' : f ≤ 15)
    (hk : K (pm_fj c f) ≠ 0) (hk' : K (pm_fj c f) ≤ 4) (h48 : pm_pl R (pm_d c) (pm_nd c) f ≠ 48)
    (hv : K (pm_fj c f) = 4 → ∃ m, v = nI m ∧ st + m ≤ L) :
    pm_CI K R L dep (p, pm_at c, pm_row c, pm_fld c, x, pm_lim c, pm_ins c, pm_kp R (pm_d c) (pm_nd c) f v st) :=
  pm_CI_k I (pm_kp_I I.1 (I.2.2.2.2.1 _ (Nat.le_refl _)).1 hn hn' hk hk' h48 hv) rfl rfl hp
theorem pm_lim_le (I : pm_CI K R L dep c) : ∀ i, i ≤ pm_at c → pm_lim c i ≤ L
  | 0, _ => by rw [I.2.2.2.1]; exact Nat.le_refl _
  | i + 1, h => Nat.le_trans (I.2.2.2.2.2.1 i (by omega)) (pm_lim_le I i (by omega))
theorem pm_pop_s {lim : Nat → Nat} {p : Nat} : ∀ a, pm_pop lim p a ≤ a ∧ (pm_pop lim p a = 0 ∨ p ≠ lim (pm_pop lim p a)) ∧ (∀ i, pm_pop lim p a < i → i ≤ a → p = lim i)
  | 0 => ⟨Nat.le_refl _, Or.inl rfl, fun i h1 h2 => by simp only [pm_pop] at h1; omega⟩
  | a + 1 => by
    rw [pm_pop]
    by_cases h : p = lim (a + 1)
    · rw [if_pos h]
      obtain ⟨h1, h2, h3⟩ := pm_pop_s (lim := lim) (p := p) a
      refine ⟨by omega, h2, fun i hi hi' => ?_⟩
      by_cases g : i = a + 1
      · subst g; exact h
      · exact h3 i hi (by omega)
    · rw [if_neg h]
      exact ⟨Nat.le_refl _, Or.inr h, fun i h1 h2 => by omega⟩
theorem pm_CI_pop (I : pm_CI K R L dep c) (hr : pm_row c = 0) : pm_CI K R L dep (pm_popC c) := by
  obtain ⟨j1, j2, j3, j4, j5, j6, j7, j8⟩ := I
  obtain ⟨h1, h2, h3⟩ := pm_pop_s (lim := pm_lim c) (p := pm_pos c) (pm_at c)
  refine ⟨j1, Nat.le_trans h1 j2, j3, j4, fun i hi => j5 i (Nat.le_trans hi h1), fun i hi => j6 i (Nat.lt_of_lt_of_le hi h1), ?_, fun h => absurd hr h⟩
  have e : pm_end (pm_popC c) = pm_lim c (pm_pop (pm_lim c) (pm_pos c) (pm_at c)) := by
    unfold pm_end; exact if_pos hr
  have e' : pm_end c = pm_lim c (pm_at c) := by
    unfold pm_end; exact if_pos hr
  rw [e]
  show pm_pos c ≤ _
  rw [e'] at j7
  by_cases g : pm_pop (pm_lim c) (pm_pos c) (pm_at c) = pm_at c
  · rw [g]; exact j7
  · have := h3 (pm_pop (pm_lim c) (pm_pos c) (pm_at c) + 1) (by omega) (by omega)
    have := j6 (pm_pop (pm_lim c) (pm_pos c) (pm_at c)) (by omega)
    omega
/-- popped and not at the message's end: before the end of its part -/
theorem pm_pop_lt (I : pm_CI K R L dep c) (hr : pm_row c = 0) (h : pm_pos c ≠ pm_lim c 0) :
    pm_pos (pm_popC c) < pm_lim (pm_popC c) (pm_at (pm_popC c)) := by
  have I' := (pm_CI_pop I hr).2.2.2.2.2.2.1
  have e : pm_end (pm_popC c) = pm_lim c (pm_pop (pm_lim c) (pm_pos c) (pm_at c)) := by
    unfold pm_end; exact if_pos hr
  obtain ⟨h1, h2, h3⟩ := pm_pop_s (lim := pm_lim c) (p := pm_pos c) (pm_at c)
  rw [e] at I'
  have I2 : pm_pos c ≤ pm_lim c (pm_pop (pm_lim c) (pm_pos c) (pm_at c)) := I'
  show pm_pos c < pm_lim c (pm_pop (pm_lim c) (pm_pos c) (pm_at c))
  rcases h2 with h2 | h2
  · rw [h2] at I2 ⊢; omega
  · omega
theorem pm_CI_row0 (I : pm_CI K R L dep c) (hr : pm_row c ≠ 0) (h : pm_pos c = pm_row c) : pm_CI K R L dep (pm_row0 c) := by
  obtain ⟨j1, j2, j3, j4, j5, j6, j7, j8⟩ := I
  refine ⟨j1, j2, j3, j4, j5, j6, ?_, fun h => absurd rfl h⟩
  have := (j8 hr).1
  show pm_pos c ≤ pm_lim c (pm_at c)
  omega
theorem pm_CI_row {f : Nat} (I : pm_CI K R L dep c) (hr : pm_row c = 0) (hq : q + len ≤ pm_lim c (pm_at c)) (hn : 1 ≤ f) (hn' : f ≤ 15)
    (hk : 1 ≤ K (pm_fj c f)) (hk' : K (pm_fj c f) ≤ 3) (hR : R (pm_fj c f) = true) (h0 : 0 < q) :
    pm_CI K R L dep (q, pm_at c, q + len, f, pm_sk c, pm_lim c, pm_ins c, pm_d c) := by
  obtain ⟨j1, j2, j3, j4, j5, j6, j7, j8⟩ := I
  refine ⟨j1, j2, j3, j4, j5, j6, ?_, fun _ => ⟨hq, hn, hn', hk, hk', hR⟩⟩
  unfold pm_end
  show q ≤ if q + len = 0 then _ else q + len
  rw [if_neg (by omega)]; omega
theorem pm_CI_old {f m : Nat} (I : pm_CI K R L dep c) (hq : q + len ≤ pm_lim c (pm_at c))
    (hm : m < pm_nn (pm_d c)) (hd : dep m = pm_at c + 1) :
    pm_CI K R L dep (q, pm_at c + 1, 0, f, pm_sk c, pm_u (pm_lim c) (pm_at c + 1) (q + len), pm_u (pm_ins c) (pm_at c + 1) m, pm_d c) := by
  obtain ⟨j1, j2, j3, j4, j5, j6, j7, j8⟩ := I
  have h3 := (j1.2.2.2.2.1 m hm).2
  refine ⟨j1, by show pm_at c + 1 ≤ 3; omega, ?_, ?_, ?_, ?_, ?_, fun h => absurd rfl h⟩
  · show pm_u (pm_ins c) (pm_at c + 1) m 0 = 0
    rw [pm_un (by omega)]; exact j3
  · show pm_u (pm_lim c) (pm_at c + 1) (q + len) 0 = L
    rw [pm_un (by omega)]; exact j4
  · intro i hi
    have hi : i ≤ pm_at c + 1 := hi
    show pm_u (pm_ins c) (pm_at c + 1) m i < pm_nn (pm_d c) ∧ dep (pm_u (pm_ins c) (pm_at c + 1) m i) = i
    by_cases g : i = pm_at c + 1
    · subst g; rw [pm_us]; exact ⟨hm, hd⟩
    · rw [pm_un g]; exact j5 i (by omega)
  · intro i hi
    have hi : i < pm_at c + 1 := hi
    show pm_u (pm_lim c) (pm_at c + 1) (q + len) (i + 1) ≤ pm_u (pm_lim c) (pm_at c + 1) (q + len) i
    rw [pm_un (show i ≠ pm_at c + 1 by omega)]
    by_cases g : i = pm_at c
    · subst g; rw [pm_us]; exact hq
    · rw [pm_un (by omega)]; exact j6 i (by omega)
  · unfold pm_end
    show q ≤ if (0 : Nat) = 0 then pm_u (pm_lim c) (pm_at c + 1) (q + len) (pm_at c + 1) else _
    rw [if_pos rfl, pm_us]; omega
theorem pm_CI_new {f t : Nat} (I : pm_CI K R L dep c) (hq : q + len ≤ pm_lim c (pm_at c)) (hn : 1 ≤ n) (hn' : n ≤ 15)
    (hk : 4 < K (pm_fj c n)) (ht : t < 4) (h16 : pm_nn (pm_d c) ≠ 16) (h48 : pm_nv (pm_d c) ≠ 48) (h3 : pm_at c ≠ 3) :
    pm_CI K R L (pm_u dep (pm_nn (pm_d c)) (pm_at c + 1)) (q, pm_at c + 1, 0, f, pm_sk c, pm_u (pm_lim c) (pm_at c + 1) (q + len), pm_u (pm_ins c) (pm_at c + 1) (pm_nn (pm_d c)),
      (pm_nn (pm_d c) + 1, pm_u (pm_nt (pm_d c)) (pm_nn (pm_d c)) t, pm_nv (pm_d c) + 1, pm_u (pm_vn (pm_d c)) (pm_nv (pm_d c)) (pm_nd c), pm_u (pm_vm (pm_d c)) (pm_nv (pm_d c)) n, pm_u (pm_fr (pm_d c)) (pm_nv (pm_d c)) 0, upd (pm_va (pm_d c)) (pm_nv (pm_d c)) (nI (pm_nn (pm_d c))))) := by
  obtain ⟨j1, j2, j3, j4, j5, j6, j7, j8⟩ := I
  have ha := j5 (pm_at c) (Nat.le_refl _)
  have hdep : dep (pm_nd c) = pm_at c := ha.2
  have J := pm_pt_I (t := t) (n := n) (a := pm_nd c) j1 ha.1 hn hn' hk ht h16 h48 (by rw [hdep]; omega)
  rw [hdep] at J
  refine ⟨J, by show pm_at c + 1 ≤ 3; omega, ?_, ?_, ?_, ?_, ?_, fun h => absurd rfl h⟩
  · show pm_u (pm_ins c) (pm_at c + 1) (pm_nn (pm_d c)) 0 = 0
    rw [pm_un (by omega)]; exact j3
  · show pm_u (pm_lim c) (pm_at c + 1) (q + len) 0 = L
    rw [pm_un (by omega)]; exact j4
  · intro i hi
    have hi : i ≤ pm_at c + 1 := hi
    show pm_u (pm_ins c) (pm_at c + 1) (pm_nn (pm_d c)) i < pm_nn (pm_d c) + 1 ∧ pm_u dep (pm_nn (pm_d c)) (pm_at c + 1) (pm_u (pm_ins c) (pm_at c + 1) (pm_nn (pm_d c)) i) = i
    by_cases g : i = pm_at c + 1
    · subst g; rw [pm_us, pm_us]; exact ⟨by omega, rfl⟩
    · have := j5 i (by omega)
      rw [pm_un g, pm_un (show pm_ins c i ≠ pm_nn (pm_d c) by omega)]
      exact ⟨by omega, this.2⟩
  · intro i hi
    have hi : i < pm_at c + 1 := hi
    show pm_u (pm_lim c) (pm_at c + 1) (q + len) (i + 1) ≤ pm_u (pm_lim c) (pm_at c + 1) (q + len) i
    rw [pm_un (show i ≠ pm_at c + 1 by omega)]
    by_cases g : i = pm_at c
    · subst g; rw [pm_us]; exact hq
    · rw [pm_un (by omega)]; exact j6 i (by omega)
  · unfold pm_end
    show q ≤ if (0 : Nat) = 0 then pm_u (pm_lim c) (pm_at c + 1) (q + len) (pm_at c + 1) else _
    rw [if_pos rfl, pm_us]; omega
end
end
section
/-! C2: an element keeps what holds -/
section
variable {B : Nat → Nat} {K : Nat → Nat} {R : Nat → Bool} {L T p q e d w f n : Nat} {dep : Nat → Nat} {c c' : pm_C}
theorem pm_w_0 : ∀ k, k ≤ 8 → (pm_w k = 0 ↔ k < 3) ∧ (pm_w k = 5 ↔ k = 3) ∧ (pm_w k = 2 ↔ 3 < k) := by
  decide
theorem pm_vr_ok {k' : Nat} : ∀ f k, p + k ≤ e → p + k ≤ T → pm_vr B p e T f k = (0, k') → k < k' ∧ p + k' ≤ e ∧ p + k' ≤ T
  | 0, k, _, _, h => by
    have : (3 : Nat) = 0 := congrArg Prod.fst h
    omega
  | f + 1, k, h1, h2, h => by
    rw [pm_vr] at h
    split at h
    · have : (4 : Nat) = 0 := congrArg Prod.fst h
      omega
    split at h
    · have : (9 : Nat) = 0 := congrArg Prod.fst h
      omega
    split at h
    · have : k + 1 = k' := congrArg Prod.snd h
      omega
    · have := pm_vr_ok f (k + 1) (by omega) (by omega) h
      omega
/-- what a number must be for its field -/
def pm_fok (K : Nat → Nat) (L : Nat) (c : pm_C) (f : Nat) (v : Int32) (st : Nat) : Prop :=
  f = 0 ∨ (1 ≤ f ∧ f ≤ 15 ∧ K (pm_fj c f) ≠ 0 ∧ K (pm_fj c f) ≤ 4 ∧ (K (pm_fj c f) = 4 → ∃ m, v = nI m ∧ st + m ≤ L))
theorem pm_fin_I {v : Int32} {st : Nat} (I : pm_CI K R L dep c) (hp : p ≤ pm_end c) (hf : pm_fok K L c f v st) (h : pm_fin R c f p v st = (0, c')) :
    pm_CI K R L dep c' ∧ pm_pos c' = p ∧ pm_at c' = pm_at c ∧ pm_row c' = pm_row c ∧ pm_fld c' = pm_fld c ∧ pm_lim c' = pm_lim c ∧ pm_ins c' = pm_ins c ∧ pm_nt (pm_d c') = pm_nt (pm_d c) := by
  unfold pm_fin at h
  by_cases h0 : f = 0
  · rw [if_pos h0] at h
    have e : _ = c' := congrArg Prod.snd h
    subst e
    exact ⟨pm_CI_p I hp, rfl, rfl, rfl, rfl, rfl, rfl, rfl⟩
  · rw [if_neg h0] at h
    split at h
    · have : (5 : Nat) = 0 := congrArg Prod.fst h
      omega
    · rename_i h48
      have e : _ = c' := congrArg Prod.snd h
      subst e
      rcases hf with hf | ⟨f1, f2, f3, f4, f5⟩
      · exact absurd hf h0
      · exact ⟨pm_CI_kp I hp f1 f2 f3 f4 h48 f5, rfl, rfl, rfl, rfl, rfl, rfl, rfl⟩
theorem pm_goV_I (I : pm_CI K R L dep c) (hq : q ≤ pm_end c) (hqT : q ≤ T) (hf : ∀ v, pm_fok K L c f v 0) (h : pm_goV B K R T c f q 0 = (0, c')) :
    pm_CI K R L dep c' ∧ q < pm_pos c' ∧ pm_pos c' ≤ T ∧ pm_pos c' ≤ pm_end c ∧ pm_at c' = pm_at c ∧ pm_row c' = pm_row c ∧ pm_fld c' = pm_fld c ∧ pm_lim c' = pm_lim c ∧ pm_ins c' = pm_ins c ∧ pm_nt (pm_d c') = pm_nt (pm_d c) := by
  unfold pm_goV at h
  split at h
  · rename_i h0
    obtain ⟨k', hk⟩ : ∃ k', pm_vr B q (pm_end c) T (10 - 0) 0 = (0, k') := ⟨_, Prod.ext h0 rfl⟩
    have hv := pm_vr_ok _ _ (by omega) (by omega) hk
    rw [hk] at h
    obtain ⟨r1, r2, r3⟩ := pm_fin_I I (by show q + k' ≤ _; omega) (hf _) h
    refine ⟨r1, ?_, ?_, ?_, r3⟩ <;> rw [r2] <;> show _ <;> dsimp only <;> omega
  · rename_i h0
    exact absurd (congrArg Prod.fst h) h0
theorem pm_goF_I (I : pm_CI K R L dep c) (hw : 0 < w) (hf : ∀ v, pm_fok K L c f v 0) (h : pm_goF B R T c f q w = (0, c')) :
    pm_CI K R L dep c' ∧ q < pm_pos c' ∧ pm_pos c' ≤ T ∧ pm_pos c' ≤ pm_end c ∧ pm_at c' = pm_at c ∧ pm_row c' = pm_row c ∧ pm_fld c' = pm_fld c ∧ pm_lim c' = pm_lim c ∧ pm_ins c' = pm_ins c ∧ pm_nt (pm_d c') = pm_nt (pm_d c) := by
  unfold pm_goF at h
  split at h
  · split at h
    · have : (4 : Nat) = 0 := congrArg Prod.fst h
      omega
    · have : (9 : Nat) = 0 := congrArg Prod.fst h
      omega
  split at h
  · have : (9 : Nat) = 0 := congrArg Prod.fst h
    omega
  · obtain ⟨r1, r2, r3⟩ := pm_fin_I I (by omega) (hf _) h
    refine ⟨r1, ?_, ?_, ?_, r3⟩ <;> rw [r2] <;> omega
/-- a field of a row's kind -/
theorem pm_fok3 (h1 : 1 ≤ f) (h2 : f ≤ 15) (h3 : 1 ≤ K (pm_fj c f)) (h4 : K (pm_fj c f) ≤ 3) (v : Int32) (st : Nat) : pm_fok K L c f v st :=
  Or.inr ⟨h1, h2, by omega, by omega, fun z => by omega⟩
theorem pm_goS_I (I : pm_CI K R L dep c) (hr : pm_row c ≠ 0) (hp : pm_pos c ≤ pm_row c) (hpT : pm_pos c ≤ T) (h : pm_goS B K R T c = (0, c')) :
    pm_CI K R L dep c' ∧ pm_pos c < pm_pos c' ∧ pm_pos c' ≤ T ∧ pm_pos c' ≤ pm_row c ∧ pm_at c' = pm_at c ∧ pm_row c' = pm_row c ∧ pm_fld c' = pm_fld c ∧ pm_lim c' = pm_lim c ∧ pm_ins c' = pm_ins c ∧ pm_nt (pm_d c') = pm_nt (pm_d c) := by
  obtain ⟨k1, k2, k3, k4, k5, k6⟩ := I.2.2.2.2.2.2.2 hr
  have he : pm_end c = pm_row c := by unfold pm_end; exact if_neg hr
  unfold pm_goS at h
  split at h
  · have := pm_goF_I I (by omega) (pm_fok3 k2 k3 k4 k5 · 0) h
    rw [he] at this; exact this
  · have := pm_goV_I I (by omega) hpT (pm_fok3 k2 k3 k4 k5 · 0) h
    rw [he] at this; exact this
theorem pm_fl_s (n w : Nat) : pm_fl K R c n w = 0 ∨ (pm_fl K R c n w = n ∧ n ≤ 15 ∧ K (pm_fj c n) ≠ 0 ∧ (w = pm_w (K (pm_fj c n)) ∨ (w = 2 ∧ R (pm_fj c n) = true))) := by
  unfold pm_fl
  split
  · left; rfl
  split
  · left; rfl
  split
  · rename_i h1 h2 h3
    exact Or.inr ⟨rfl, by omega, h2, h3⟩
  · left; rfl
theorem pm_body_I {len : Nat} (I : pm_CI K R L dep c) (hr : pm_row c = 0) (hK : ∀ j, K j ≤ 8) (h0 : pm_pos c < q) (hq : q + len ≤ pm_lim c (pm_at c)) (hqT : q ≤ T) (hL : L ≤ 200)
    (hf : f = 0 ∨ (1 ≤ f ∧ f ≤ 15 ∧ K (pm_fj c f) ≠ 0 ∧ (K (pm_fj c f) ≤ 3 → R (pm_fj c f) = true))) (h : pm_body K R T c f q len = (0, c')) :
    ∃ dep', pm_CI K R L dep' c' ∧ pm_pos c < pm_pos c' ∧ pm_pos c' ≤ T := by
  have he : pm_end c = pm_lim c (pm_at c) := by unfold pm_end; exact if_pos hr
  have hl := pm_lim_le I (pm_at c) (Nat.le_refl _)
  unfold pm_body at h
  by_cases z0 : f = 0
  · rw [if_pos z0] at h
    split at h
    · have : (9 : Nat) = 0 := congrArg Prod.fst h
      omega
    · obtain ⟨r1, r2, r3⟩ := pm_fin_I I (by omega) (Or.inl rfl) h
      exact ⟨dep, r1, by omega, by omega⟩
  · rw [if_neg z0] at h
    rcases hf with hf | ⟨f1, f2, f3, f4⟩
    · exact absurd hf z0
    split at h
    · rename_i h4
      split at h
      · have : (5 : Nat) = 0 := congrArg Prod.fst h
        omega
      split at h
      · have : (9 : Nat) = 0 := congrArg Prod.fst h
        omega
      · obtain ⟨r1, r2, r3⟩ := pm_fin_I I (by omega) (Or.inr ⟨f1, f2, f3, by omega, fun _ => ⟨len, rfl, by omega⟩⟩) h
        exact ⟨dep, r1, by omega, by omega⟩
    split at h
    · rename_i h4 h5
      have h8 := hK (pm_fj c f)
      unfold pm_part at h
      split at h
      · rename_i hlt
        obtain ⟨_, p2, p3⟩ := pm_pl_lt hlt
        have hkk : pm_kk K (pm_d c) (pm_pl R (pm_d c) (pm_nd c) f) = K (pm_fj c f) := by
          simp only [pm_kk]; rw [p2, p3]; rfl
        obtain ⟨m, w1, w2, w3, w4⟩ := (I.1.2.2.2.2.2.1 _ hlt).2.2.2.2.2 (by rw [hkk]; exact h5)
        have e : _ = c' := congrArg Prod.snd h
        subst e
        have hdep := (I.2.2.2.2.1 (pm_at c) (Nat.le_refl _)).2
        rw [p2] at w4
        have hm : (pm_va (pm_d c) (pm_pl R (pm_d c) (pm_nd c) f)).toNatClampNeg = m := by
          rw [w1, nI_clamp (by have := I.1.2.1; omega)]
        rw [hm]
        exact ⟨dep, pm_CI_old I hq w3 (by rw [w4]; show dep (pm_ins c (pm_at c)) + 1 = _; rw [hdep]), h0, hqT⟩
      split at h
      · have : (5 : Nat) = 0 := congrArg Prod.fst h
        omega
      · rename_i hnl hm
        have hpl : pm_pl R (pm_d c) (pm_nd c) f = pm_nv (pm_d c) := by
          have := pm_pl_le (R := R) (D := pm_d c) (pm_nd c) f
          omega
        have e : _ = c' := congrArg Prod.snd h
        subst e
        have ek : (pm_kp R (pm_d c) (pm_nd c) f (nI (pm_nn (pm_d c))) 0).2.2 = (pm_nv (pm_d c) + 1, pm_u (pm_vn (pm_d c)) (pm_nv (pm_d c)) (pm_nd c), pm_u (pm_vm (pm_d c)) (pm_nv (pm_d c)) f, pm_u (pm_fr (pm_d c)) (pm_nv (pm_d c)) 0, upd (pm_va (pm_d c)) (pm_nv (pm_d c)) (nI (pm_nn (pm_d c)))) := by
          unfold pm_kp
          dsimp only
          rw [hpl, if_pos rfl]
        rw [ek]
        exact ⟨_, pm_CI_new I hq f1 f2 h5 (by omega) (fun z => hm (Or.inl z)) (fun z => hm (Or.inr (Or.inl z))) (fun z => hm (Or.inr (Or.inr z))), h0, hqT⟩
    · rename_i h4 h5
      have e : _ = c' := congrArg Prod.snd h
      subst e
      exact ⟨dep, pm_CI_row I hr hq f1 f2 (by omega) (by omega) (f4 (by omega)) (by omega), h0, hqT⟩
theorem pm_dis_I {X : Nat} (I : pm_CI K R L dep c) (hr : pm_row c = 0) (hK : ∀ j, K j ≤ 8) (h0 : pm_pos c < q) (hq : q ≤ pm_lim c (pm_at c)) (hqT : q ≤ T) (hL : L ≤ 200)
    (h : pm_dis B K R T c q X = (0, c')) : ∃ dep', pm_CI K R L dep' c' ∧ pm_pos c < pm_pos c' ∧ pm_pos c' ≤ T := by
  have he : pm_end c = pm_lim c (pm_at c) := by unfold pm_end; exact if_pos hr
  unfold pm_dis at h
  split at h
  · have : (2 : Nat) = 0 := congrArg Prod.fst h
    omega
  rename_i hn
  split at h
  · have hf : ∀ v, pm_fok K L c (pm_fl K R c (X / 8) 0) v 0 := by
      intro v
      rcases pm_fl_s (K := K) (R := R) (c := c) (X / 8) 0 with z | ⟨z1, z2, z3, z4⟩
      · exact Or.inl z
      · rw [z1]
        have hlt : K (pm_fj c (X / 8)) < 3 := by
          rcases z4 with z4 | z4
          · exact (pm_w_0 _ (hK _)).1.mp z4.symm
          · exact absurd z4.1 (by decide)
        exact Or.inr ⟨by omega, z2, z3, by omega, fun y => by omega⟩
    obtain ⟨r1, r2, r3, _⟩ := pm_goV_I I (by omega) hqT hf h
    exact ⟨dep, r1, by omega, r3⟩
  split at h
  · unfold pm_goL at h
    split at h
    · rename_i h2
      obtain ⟨k', hk⟩ : ∃ k', pm_vr B q (pm_lim c (pm_at c)) T (10 - 0) 0 = (0, k') := ⟨_, Prod.ext h2 rfl⟩
      have hv := pm_vr_ok _ _ (by omega) (by omega) hk
      rw [hk] at h
      unfold pm_len at h
      split at h
      · have : (4 : Nat) = 0 := congrArg Prod.fst h
        omega
      · rename_i hlen
        dsimp only at h hlen
        have hf : pm_fl K R c (X / 8) 2 = 0 ∨ (1 ≤ pm_fl K R c (X / 8) 2 ∧ pm_fl K R c (X / 8) 2 ≤ 15 ∧ K (pm_fj c (pm_fl K R c (X / 8) 2)) ≠ 0 ∧ (K (pm_fj c (pm_fl K R c (X / 8) 2)) ≤ 3 → R (pm_fj c (pm_fl K R c (X / 8) 2)) = true)) := by
          rcases pm_fl_s (K := K) (R := R) (c := c) (X / 8) 2 with z | ⟨z1, z2, z3, z4⟩
          · exact Or.inl z
          · rw [z1]
            refine Or.inr ⟨by omega, z2, z3, fun y => ?_⟩
            rcases z4 with z4 | z4
            · unfold pm_w at z4
              split at z4
              · omega
              · split at z4 <;> omega
            · exact z4.2
        obtain ⟨dep', r1, r2, r3⟩ := pm_body_I I hr hK (by omega) (by omega) (by omega) hL hf h
        exact ⟨dep', r1, r2, r3⟩
    · rename_i h2
      exact absurd (congrArg Prod.fst h) h2
  split at h
  · have hf : ∀ v, pm_fok K L c (pm_fl K R c (X / 8) 5) v 0 := by
      intro v
      rcases pm_fl_s (K := K) (R := R) (c := c) (X / 8) 5 with z | ⟨z1, z2, z3, z4⟩
      · exact Or.inl z
      · rw [z1]
        have hlt : K (pm_fj c (X / 8)) = 3 := by
          rcases z4 with z4 | z4
          · exact (pm_w_0 _ (hK _)).2.1.mp z4.symm
          · exact absurd z4.1 (by decide)
        exact Or.inr ⟨by omega, z2, z3, by omega, fun y => by omega⟩
    obtain ⟨r1, r2, r3, _⟩ := pm_goF_I I (by omega) hf h
    exact ⟨dep, r1, by omega, r3⟩
  split at h
  · obtain ⟨r1, r2, r3, _⟩ := pm_goF_I I (by omega) (fun v => Or.inl rfl) h
    exact ⟨dep, r1, by omega, r3⟩
  · have : (2 : Nat) = 0 := congrArg Prod.fst h
    omega
theorem pm_goT_I (I : pm_CI K R L dep c) (hr : pm_row c = 0) (hK : ∀ j, K j ≤ 8) (hp : pm_pos c ≤ T) (hL : L ≤ 200)
    (h : pm_goT B K R T c 0 = (0, c')) : ∃ dep', pm_CI K R L dep' c' ∧ pm_pos c < pm_pos c' ∧ pm_pos c' ≤ T := by
  have he : pm_end c = pm_lim c (pm_at c) := by unfold pm_end; exact if_pos hr
  have hpe := I.2.2.2.2.2.2.1
  unfold pm_goT at h
  split at h
  · rename_i h2
    obtain ⟨k', hk⟩ : ∃ k', pm_vr B (pm_pos c) (pm_lim c (pm_at c)) T (10 - 0) 0 = (0, k') := ⟨_, Prod.ext h2 rfl⟩
    have hv := pm_vr_ok _ _ (by omega) (by omega) hk
    rw [hk] at h
    exact pm_dis_I I hr hK (by dsimp only; omega) (by dsimp only; omega) (by dsimp only; omega) hL h
  · rename_i h2
    exact absurd (congrArg Prod.fst h) h2
end
end
section
/-! D: the sizes of a message that is written again -/
section
def sz_wd : Nat → Nat → Nat
  | 0, _ => 1
  | f + 1, x => if x / 128 = 0 then 1 else 1 + sz_wd f (x / 128)
def sz_w (x : Nat) : Nat := sz_wd 9 x
theorem sz_wd_le : ∀ f x, sz_wd f x ≤ f + 1 ∧ 1 ≤ sz_wd f x
  | 0, _ => ⟨Nat.le_refl _, Nat.le_refl _⟩
  | f + 1, x => by
    rw [sz_wd]
    have := sz_wd_le f (x / 128)
    split <;> omega
theorem sz_w_le (x : Nat) : sz_w x ≤ 10 ∧ 1 ≤ sz_w x := sz_wd_le 9 x
/-- an int as the 64 bits that its long has -/
def sz_ux (x : Int32) : Nat := if x < 0 then 2 ^ 64 - 2 ^ 32 + x.toBitVec.toNat else x.toBitVec.toNat
def sz_zg (x : Int32) : Int32 := (x <<< (1 &&& 31)) ^^^ (x >>> (31 &&& 31))
def sz_b (k : Nat) (x : Int32) (g : Nat → Nat) : Nat :=
  if k = 1 then sz_w (sz_ux x) else if k = 2 then sz_w (sz_zg x).toBitVec.toNat else if k = 3 then 4 else if k = 4 then x.toNatClampNeg else g x.toNatClampNeg
def sz_l (k : Nat) (x : Int32) (g : Nat → Nat) : Nat := sz_b k x g + if 3 < k then sz_w (sz_b k x g) else 0
def sz_sm (D : pm_D) (a n : Nat) (h : Nat → Nat) : Nat → Nat
  | 0 => 0
  | c + 1 => sz_sm D a n h c + if pm_vn D c = a ∧ pm_vm D c = n then h c else 0
def sz_j (D : pm_D) (a n : Nat) : Nat := 16 * pm_nt D a + n
/-- the bodies of a field, as a packed row has them -/
def sz_row (K : Nat → Nat) (D : pm_D) (g : Nat → Nat) (a n : Nat) : Nat := sz_sm D a n (fun j => sz_b (K (sz_j D a n)) (pm_va D j) g) (pm_nv D)
def sz_pk (K : Nat → Nat) (R : Nat → Bool) (D : pm_D) (a n : Nat) : Prop := K (sz_j D a n) < 4 ∧ R (sz_j D a n) = true
def sz_f (K : Nat → Nat) (R : Nat → Bool) (D : pm_D) (g : Nat → Nat) (a n : Nat) : Nat :=
  if K (sz_j D a n) < 4 ∧ R (sz_j D a n) = true then
    (if sz_row K D g a n = 0 then 0 else 1 + sz_w (sz_row K D g a n) + sz_row K D g a n)
  else sz_sm D a n (fun j => 1 + sz_l (K (sz_j D a n)) (pm_va D j) g) (pm_nv D)
def sz_ns (h : Nat → Nat) : Nat → Nat
  | 0 => 0
  | m + 1 => sz_ns h m + h (m + 1)
def sz_n (K : Nat → Nat) (R : Nat → Bool) (D : pm_D) (g : Nat → Nat) (a : Nat) : Nat := sz_ns (sz_f K R D g a) 15
def sz_r (K : Nat → Nat) (R : Nat → Bool) (D : pm_D) : Nat → Nat → Nat
  | 0, _ => 0
  | f + 1, a => sz_n K R D (sz_r K R D f) a
def sz_S (K : Nat → Nat) (R : Nat → Bool) (D : pm_D) (a : Nat) : Nat := sz_r K R D 4 a

variable {K : Nat → Nat} {R : Nat → Bool} {L : Nat} {dep : Nat → Nat} {D : pm_D} {a n : Nat} {g g' : Nat → Nat}
theorem sz_sm_g {h h' : Nat → Nat} : ∀ c, (∀ j, j < c → pm_vn D j = a → pm_vm D j = n → h j = h' j) → sz_sm D a n h c = sz_sm D a n h' c
  | 0, _ => rfl
  | c + 1, H => by
    rw [sz_sm, sz_sm, sz_sm_g c (fun j hj => H j (by omega))]
    by_cases z : pm_vn D c = a ∧ pm_vm D c = n
    · rw [if_pos z, if_pos z, H c (by omega) z.1 z.2]
    · rw [if_neg z, if_neg z]
theorem sz_ns_g {h h' : Nat → Nat} : ∀ m, (∀ i, 1 ≤ i → i ≤ m → h i = h' i) → sz_ns h m = sz_ns h' m
  | 0, _ => rfl
  | m + 1, H => by
    rw [sz_ns, sz_ns, sz_ns_g m (fun i h1 h2 => H i h1 (by omega)), H (m + 1) (by omega) (by omega)]
theorem sz_b_g {k : Nat} {x : Int32} (h : 4 < k → g x.toNatClampNeg = g' x.toNatClampNeg) : sz_b k x g = sz_b k x g' ∨ k = 0 := by
  unfold sz_b
  by_cases k1 : k = 1
  · left; rw [if_pos k1, if_pos k1]
  by_cases k2 : k = 2
  · left; rw [if_neg k1, if_pos k2, if_neg k1, if_pos k2]
  by_cases k3 : k = 3
  · left; rw [if_neg k1, if_neg k2, if_pos k3, if_neg k1, if_neg k2, if_pos k3]
  by_cases k4 : k = 4
  · left; rw [if_neg k1, if_neg k2, if_neg k3, if_pos k4, if_neg k1, if_neg k2, if_neg k3, if_pos k4]
  by_cases k0 : k = 0
  · right; exact k0
  · left; rw [if_neg k1, if_neg k2, if_neg k3, if_neg k4, if_neg k1, if_neg k2, if_neg k3, if_neg k4, h (by omega)]
/-- the size of a node depends on its parts alone -/
theorem sz_n_g (I : pm_DI K L dep D) (H : ∀ j, j < pm_nv D → pm_vn D j = a → 4 < pm_kk K D j → g (pm_va D j).toNatClampNeg = g' (pm_va D j).toNatClampNeg) :
    sz_n K R D g a = sz_n K R D g' a := by
  unfold sz_n
  apply sz_ns_g
  intro m hm hm'
  have hb : ∀ j, j < pm_nv D → pm_vn D j = a → pm_vm D j = m → sz_b (K (sz_j D a m)) (pm_va D j) g = sz_b (K (sz_j D a m)) (pm_va D j) g' := by
    intro j hj h1 h2
    have e : pm_kk K D j = K (sz_j D a m) := by
      unfold sz_j; simp only [pm_kk]; rw [h1, h2]
    rcases sz_b_g (k := K (sz_j D a m)) (x := pm_va D j) (fun z => H j hj h1 (by rw [e]; exact z)) with z | z
    · exact z
    · exact absurd (e.trans z) (I.2.2.2.2.2.1 j hj).2.2.2.1
  have h1 : sz_row K D g a m = sz_row K D g' a m := sz_sm_g _ hb
  have h2 : sz_sm D a m (fun j => 1 + sz_l (K (sz_j D a m)) (pm_va D j) g) (pm_nv D) = sz_sm D a m (fun j => 1 + sz_l (K (sz_j D a m)) (pm_va D j) g') (pm_nv D) := by
    apply sz_sm_g
    intro j hj z1 z2
    show 1 + sz_l _ _ _ = 1 + sz_l _ _ _
    unfold sz_l
    rw [hb j hj z1 z2]
  unfold sz_f
  rw [h1, h2]
theorem sz_r_s (I : pm_DI K L dep D) : ∀ f a, a < pm_nn D → 4 ≤ f + dep a → sz_r K R D f a = sz_r K R D (f + 1) a
  | 0, a, ha, h => by
    have := (I.2.2.2.2.1 a ha).2
    omega
  | f + 1, a, ha, h => by
    rw [sz_r, sz_r]
    apply sz_n_g I
    intro j hj h1 h2
    obtain ⟨m, w1, w2, w3, w4⟩ := (I.2.2.2.2.2.1 j hj).2.2.2.2.2 h2
    rw [w1, nI_clamp (by have := I.2.1; omega)]
    rw [h1] at w4
    exact sz_r_s I f m w3 (by omega)
theorem sz_S_e (I : pm_DI K L dep D) (ha : a < pm_nn D) : sz_S K R D a = sz_n K R D (sz_S K R D) a := by
  have h := sz_r_s (R := R) I 4 a ha (by omega)
  show sz_r K R D 4 a = _
  rw [h]; rfl

/-! bounds -/
def sz_C : Nat → Nat
  | 0 => 0
  | f + 1 => 48 * (200 + sz_C f + 11)
theorem sz_sm_le {h : Nat → Nat} {H : Nat} (hh : ∀ j, h j ≤ H) : ∀ c, sz_sm D a n h c ≤ c * H
  | 0 => by simp [sz_sm]
  | c + 1 => by
    rw [sz_sm, Nat.succ_mul]
    have h1 := sz_sm_le hh c
    have h2 := hh c
    split <;> omega
theorem sz_sm_mono {h h' : Nat → Nat} : ∀ c, (∀ j, j < c → pm_vn D j = a → pm_vm D j = n → h j ≤ h' j) → sz_sm D a n h c ≤ sz_sm D a n h' c
  | 0, _ => Nat.le_refl _
  | c + 1, H => by
    rw [sz_sm, sz_sm]
    have h1 := sz_sm_mono c (fun j hj => H j (by omega))
    by_cases z : pm_vn D c = a ∧ pm_vm D c = n
    · rw [if_pos z, if_pos z]
      have := H c (by omega) z.1 z.2
      omega
    · rw [if_neg z, if_neg z]; exact h1
theorem sz_sm_11 {h : Nat → Nat} {H : Nat} : ∀ c, (∀ j, j < c → pm_vn D j = a → pm_vm D j = n → h j ≤ H) → sz_sm D a n h c ≠ 0 →
    sz_sm D a n h c + 11 ≤ sz_sm D a n (fun _ => H + 11) c
  | 0, _, h0 => absurd rfl h0
  | c + 1, hh, h0 => by
    have hm := sz_sm_mono (D := D) (a := a) (n := n) (h := h) (h' := fun _ => H + 11) c (fun j hj z1 z2 => Nat.le_trans (hh j (by omega) z1 z2) (by omega))
    rw [sz_sm] at h0 ⊢
    rw [sz_sm]
    by_cases z : pm_vn D c = a ∧ pm_vm D c = n
    · rw [if_pos z] at h0 ⊢
      rw [if_pos z]
      have := hh c (by omega) z.1 z.2
      omega
    · rw [if_neg z] at h0 ⊢
      rw [if_neg z]
      have := sz_sm_11 c (fun j hj => hh j (by omega)) (by omega)
      omega
theorem sz_ns_add (h h' : Nat → Nat) : ∀ m, sz_ns (fun i => h i + h' i) m = sz_ns h m + sz_ns h' m
  | 0 => rfl
  | m + 1 => by
    rw [sz_ns, sz_ns, sz_ns, sz_ns_add h h' m]; omega
theorem sz_ns_one {P : Prop} [Decidable P] (x Q : Nat) : ∀ m, sz_ns (fun i => if P ∧ x = i then Q else 0) m ≤ if x ≤ m then Q else 0
  | 0 => Nat.zero_le _
  | m + 1 => by
    rw [sz_ns]
    have h := sz_ns_one (P := P) x Q m
    by_cases z : x = m + 1
    · rw [if_neg (by omega)] at h
      rw [if_pos (show x ≤ m + 1 by omega)]
      split <;> omega
    · rw [if_neg (show ¬ (P ∧ x = m + 1) from fun y => z y.2)]
      by_cases z2 : x ≤ m
      · rw [if_pos z2] at h
        rw [if_pos (show x ≤ m + 1 by omega)]; omega
      · rw [if_neg z2] at h
        omega
theorem sz_ns_sm (Q m : Nat) : ∀ c, sz_ns (fun i => sz_sm D a i (fun _ => Q) c) m ≤ c * Q
  | 0 => by
    have h : ∀ m, sz_ns (fun i => sz_sm D a i (fun _ => Q) 0) m = 0 := by
      intro m
      induction m with
      | zero => rfl
      | succ m ih => rw [sz_ns, ih]; rfl
    rw [h]; exact Nat.zero_le _
  | c + 1 => by
    have e : (fun i => sz_sm D a i (fun _ => Q) (c + 1)) = (fun i => sz_sm D a i (fun _ => Q) c + if pm_vn D c = a ∧ pm_vm D c = i then Q else 0) := rfl
    rw [e, sz_ns_add, Nat.succ_mul]
    have h1 := sz_ns_sm Q m c
    have h2 := sz_ns_one (P := pm_vn D c = a) (pm_vm D c) Q m
    have h3 : (if pm_vm D c ≤ m then Q else 0) ≤ Q := by split <;> omega
    omega
theorem sz_ns_mono {h h' : Nat → Nat} : ∀ m, (∀ i, 1 ≤ i → i ≤ m → h i ≤ h' i) → sz_ns h m ≤ sz_ns h' m
  | 0, _ => Nat.le_refl _
  | m + 1, H => by
    rw [sz_ns, sz_ns]
    have := sz_ns_mono m (fun i h1 h2 => H i h1 (by omega))
    have := H (m + 1) (by omega) (by omega)
    omega
theorem sz_f_le {H : Nat} (hb : ∀ j, j < pm_nv D → pm_vn D j = a → pm_vm D j = n → sz_b (K (sz_j D a n)) (pm_va D j) g ≤ H) :
    sz_f K R D g a n ≤ sz_sm D a n (fun _ => H + 11) (pm_nv D) := by
  unfold sz_f
  split
  · split
    · exact Nat.zero_le _
    · rename_i h0
      have h1 := sz_sm_11 (D := D) (a := a) (n := n) (H := H) (pm_nv D) hb h0
      have h2 := (sz_w_le (sz_row K D g a n)).1
      unfold sz_row at h2 ⊢
      omega
  · apply sz_sm_mono
    intro j hj z1 z2
    have h1 := hb j hj z1 z2
    show 1 + sz_l _ _ _ ≤ H + 11
    unfold sz_l
    have h2 := (sz_w_le (sz_b (K (sz_j D a n)) (pm_va D j) g)).1
    split <;> omega
theorem sz_n_le {H : Nat} (hb : ∀ j, j < pm_nv D → pm_vn D j = a → sz_b (pm_kk K D j) (pm_va D j) g ≤ H) : sz_n K R D g a ≤ pm_nv D * (H + 11) := by
  unfold sz_n
  refine Nat.le_trans (sz_ns_mono 15 (h' := fun i => sz_sm D a i (fun _ => H + 11) (pm_nv D)) (fun i _ _ => sz_f_le ?_)) (sz_ns_sm _ _ _)
  intro j hj z1 z2
  have e : K (sz_j D a i) = pm_kk K D j := by
    unfold sz_j; simp only [pm_kk]; rw [z1, z2]
  rw [e]; exact hb j hj z1
theorem sz_r_le (I : pm_DI K L dep D) (hL : L ≤ 200) : ∀ f a, sz_r K R D f a ≤ sz_C f
  | 0, _ => Nat.le_refl _
  | f + 1, a => by
    rw [sz_r, sz_C]
    have h := sz_n_le (K := K) (R := R) (D := D) (a := a) (g := sz_r K R D f) (H := 200 + sz_C f) (by
      intro j hj _
      obtain ⟨v1, v2, v3, v4, v5, v6⟩ := I.2.2.2.2.2.1 j hj
      unfold sz_b
      split
      · have := (sz_w_le (sz_ux (pm_va D j))).1; omega
      split
      · have := (sz_w_le (sz_zg (pm_va D j)).toBitVec.toNat).1; omega
      split
      · omega
      split
      · rename_i h4
        obtain ⟨m, w1, w2⟩ := v5 h4
        rw [w1, nI_clamp (by omega)]; omega
      · have := sz_r_le I hL f (pm_va D j).toNatClampNeg
        omega)
    refine Nat.le_trans h ?_
    exact Nat.mul_le_mul_right _ I.2.2.1
theorem sz_S_le (I : pm_DI K L dep D) (hL : L ≤ 200) (a : Nat) : sz_S K R D a ≤ 1121318160 + 2 ^ 28 := by
  have h := sz_r_le (R := R) I hL 4 a
  have e : sz_C 4 ≤ 1121318160 + 2 ^ 28 := by decide
  exact Nat.le_trans h e
end
end
section
/-! E: the bytes of a message that is written again -/
section
def ct_vd : Nat → Nat → List Nat
  | 0, x => [x]
  | f + 1, x => if x / 128 = 0 then [x] else (x % 128 + 128) :: ct_vd f (x / 128)
def ct_v (x : Nat) : List Nat := ct_vd 9 x
theorem ct_vd_len : ∀ f x, (ct_vd f x).length = sz_wd f x
  | 0, _ => rfl
  | f + 1, x => by
    rw [ct_vd, sz_wd]
    split
    · rfl
    · rw [List.length_cons, ct_vd_len f]; omega
theorem ct_v_len (x : Nat) : (ct_v x).length = sz_w x := ct_vd_len 9 x
def ct_4 (x : Nat) : List Nat := [x % 256, x / 256 % 256, x / 65536 % 256, x / 16777216 % 256]
def ct_b (B : Nat → Nat) (k : Nat) (x : Int32) (st : Nat) (g : Nat → List Nat) : List Nat :=
  if k = 1 then ct_v (sz_ux x) else if k = 2 then ct_v (sz_zg x).toBitVec.toNat else if k = 3 then ct_4 x.toBitVec.toNat
  else if k = 4 then (List.range x.toNatClampNeg).map (fun i => B (st + i)) else g x.toNatClampNeg
def ct_l (B : Nat → Nat) (k : Nat) (x : Int32) (st : Nat) (g : Nat → List Nat) : List Nat :=
  (if 3 < k then ct_v (ct_b B k x st g).length else []) ++ ct_b B k x st g
def ct_sm (D : pm_D) (a n : Nat) (h : Nat → List Nat) : Nat → List Nat
  | 0 => []
  | c + 1 => ct_sm D a n h c ++ if pm_vn D c = a ∧ pm_vm D c = n then h c else []
/-- the head of a packed row -/
def ct_hd (n W : Nat) : List Nat := (8 * n + 2) :: ct_v W
def ct_row (B : Nat → Nat) (K : Nat → Nat) (D : pm_D) (g : Nat → List Nat) (a n : Nat) (c : Nat) : List Nat :=
  ct_sm D a n (fun j => ct_b B (K (sz_j D a n)) (pm_va D j) (pm_fr D j) g) c
def ct_one (B : Nat → Nat) (K : Nat → Nat) (D : pm_D) (g : Nat → List Nat) (a n : Nat) (c : Nat) : List Nat :=
  ct_sm D a n (fun j => (8 * n + pm_w (K (sz_j D a n))) :: ct_l B (K (sz_j D a n)) (pm_va D j) (pm_fr D j) g) c
def ct_f (B : Nat → Nat) (K : Nat → Nat) (R : Nat → Bool) (D : pm_D) (g : Nat → List Nat) (a n : Nat) : List Nat :=
  if K (sz_j D a n) < 4 ∧ R (sz_j D a n) = true then
    (if (ct_row B K D g a n (pm_nv D)).length = 0 then [] else ct_hd n (ct_row B K D g a n (pm_nv D)).length) ++ ct_row B K D g a n (pm_nv D)
  else ct_one B K D g a n (pm_nv D)
def ct_ns (h : Nat → List Nat) : Nat → List Nat
  | 0 => []
  | m + 1 => ct_ns h m ++ h (m + 1)
def ct_n (B : Nat → Nat) (K : Nat → Nat) (R : Nat → Bool) (D : pm_D) (g : Nat → List Nat) (a : Nat) : List Nat := ct_ns (ct_f B K R D g a) 15
def ct_r (B : Nat → Nat) (K : Nat → Nat) (R : Nat → Bool) (D : pm_D) : Nat → Nat → List Nat
  | 0, _ => []
  | f + 1, a => ct_n B K R D (ct_r B K R D f) a
def ct_S (B : Nat → Nat) (K : Nat → Nat) (R : Nat → Bool) (D : pm_D) (a : Nat) : List Nat := ct_r B K R D 4 a

variable {B : Nat → Nat} {K : Nat → Nat} {R : Nat → Bool} {L : Nat} {dep : Nat → Nat} {D : pm_D} {a n : Nat} {g g' : Nat → List Nat}
theorem ct_b_len (k : Nat) (x : Int32) (st : Nat) : (ct_b B k x st g).length = sz_b k x (fun m => (g m).length) := by
  unfold ct_b sz_b
  split
  · rw [ct_v_len]
  split
  · rw [ct_v_len]
  split
  · rfl
  split
  · rw [List.length_map, List.length_range]
  · rfl
theorem ct_l_len (k : Nat) (x : Int32) (st : Nat) : (ct_l B k x st g).length = sz_l k x (fun m => (g m).length) := by
  unfold ct_l sz_l
  rw [List.length_append, ct_b_len]
  split
  · rw [ct_v_len]; omega
  · rw [List.length_nil]; omega
theorem ct_sm_len {h : Nat → List Nat} : ∀ c, (ct_sm D a n h c).length = sz_sm D a n (fun j => (h j).length) c
  | 0 => rfl
  | c + 1 => by
    rw [ct_sm, sz_sm, List.length_append, ct_sm_len c]
    split <;> rfl
theorem ct_row_len (c : Nat) : (ct_row B K D g a n c).length = sz_sm D a n (fun j => sz_b (K (sz_j D a n)) (pm_va D j) (fun m => (g m).length)) c := by
  unfold ct_row
  rw [ct_sm_len]
  exact sz_sm_g _ (fun j _ _ _ => ct_b_len _ _ _)
theorem ct_one_len (c : Nat) : (ct_one B K D g a n c).length = sz_sm D a n (fun j => 1 + sz_l (K (sz_j D a n)) (pm_va D j) (fun m => (g m).length)) c := by
  unfold ct_one
  rw [ct_sm_len]
  refine sz_sm_g _ (fun j _ _ _ => ?_)
  rw [List.length_cons, ct_l_len]; omega
theorem ct_f_len : (ct_f B K R D g a n).length = sz_f K R D (fun m => (g m).length) a n := by
  unfold ct_f sz_f sz_row
  rw [ct_row_len]
  split
  · rw [List.length_append, ct_row_len]
    split
    · rename_i h0
      rw [h0]; rfl
    · unfold ct_hd
      rw [List.length_cons, ct_v_len]; omega
  · rw [ct_one_len]
theorem ct_ns_len {h : Nat → List Nat} : ∀ m, (ct_ns h m).length = sz_ns (fun i => (h i).length) m
  | 0 => rfl
  | m + 1 => by
    rw [ct_ns, sz_ns, List.length_append, ct_ns_len m]
theorem ct_n_len : (ct_n B K R D g a).length = sz_n K R D (fun m => (g m).length) a := by
  unfold ct_n sz_n
  rw [ct_ns_len]
  exact sz_ns_g _ (fun i _ _ => ct_f_len)
theorem ct_r_len : ∀ f a, (ct_r B K R D f a).length = sz_r K R D f a
  | 0, _ => rfl
  | f + 1, a => by
    rw [ct_r, sz_r, ct_n_len]
    have : (fun m => (ct_r B K R D f m).length) = sz_r K R D f := by
      funext m; exact ct_r_len f m
    rw [this]
theorem ct_S_len (a : Nat) : (ct_S B K R D a).length = sz_S K R D a := ct_r_len 4 a
theorem ct_sm_g {h h' : Nat → List Nat} : ∀ c, (∀ j, j < c → pm_vn D j = a → pm_vm D j = n → h j = h' j) → ct_sm D a n h c = ct_sm D a n h' c
  | 0, _ => rfl
  | c + 1, H => by
    rw [ct_sm, ct_sm, ct_sm_g c (fun j hj => H j (by omega))]
    by_cases z : pm_vn D c = a ∧ pm_vm D c = n
    · rw [if_pos z, if_pos z, H c (by omega) z.1 z.2]
    · rw [if_neg z, if_neg z]
theorem ct_ns_g {h h' : Nat → List Nat} : ∀ m, (∀ i, 1 ≤ i → i ≤ m → h i = h' i) → ct_ns h m = ct_ns h' m
  | 0, _ => rfl
  | m + 1, H => by
    rw [ct_ns, ct_ns, ct_ns_g m (fun i h1 h2 => H i h1 (by omega)), H (m + 1) (by omega) (by omega)]
theorem ct_n_g (I : pm_DI K L dep D) (H : ∀ j, j < pm_nv D → pm_vn D j = a → 4 < pm_kk K D j → g (pm_va D j).toNatClampNeg = g' (pm_va D j).toNatClampNeg) :
    ct_n B K R D g a = ct_n B K R D g' a := by
  unfold ct_n
  apply ct_ns_g
  intro m hm hm'
  have hb : ∀ j, j < pm_nv D → pm_vn D j = a → pm_vm D j = m → ct_b B (K (sz_j D a m)) (pm_va D j) (pm_fr D j) g = ct_b B (K (sz_j D a m)) (pm_va D j) (pm_fr D j) g' := by
    intro j hj h1 h2
    have e : pm_kk K D j = K (sz_j D a m) := by
      unfold sz_j; simp only [pm_kk]; rw [h1, h2]
    have e0 : K (sz_j D a m) ≠ 0 := by
      rw [← e]; exact (I.2.2.2.2.2.1 j hj).2.2.2.1
    unfold ct_b
    split
    · rfl
    split
    · rfl
    split
    · rfl
    split
    · rfl
    · exact H j hj h1 (by rw [e]; omega)
  have h1 : ct_row B K D g a m (pm_nv D) = ct_row B K D g' a m (pm_nv D) := ct_sm_g _ hb
  have h2 : ct_one B K D g a m (pm_nv D) = ct_one B K D g' a m (pm_nv D) := by
    apply ct_sm_g
    intro j hj z1 z2
    show _ :: ct_l _ _ _ _ _ = _ :: ct_l _ _ _ _ _
    unfold ct_l
    rw [hb j hj z1 z2]
  unfold ct_f
  rw [h1, h2]
theorem ct_r_s (I : pm_DI K L dep D) : ∀ f a, a < pm_nn D → 4 ≤ f + dep a → ct_r B K R D f a = ct_r B K R D (f + 1) a
  | 0, a, ha, h => by
    have := (I.2.2.2.2.1 a ha).2
    omega
  | f + 1, a, ha, h => by
    rw [ct_r, ct_r]
    apply ct_n_g I
    intro j hj h1 h2
    obtain ⟨m, w1, w2, w3, w4⟩ := (I.2.2.2.2.2.1 j hj).2.2.2.2.2 h2
    rw [w1, nI_clamp (by have := I.2.1; omega)]
    rw [h1] at w4
    exact ct_r_s I f m w3 (by omega)
theorem ct_S_e (I : pm_DI K L dep D) (ha : a < pm_nn D) : ct_S B K R D a = ct_n B K R D (ct_S B K R D) a := by
  have h := ct_r_s (B := B) (R := R) I 4 a ha (by omega)
  show ct_r B K R D 4 a = _
  rw [h]; rfl

/-- a list stands at a place -/
def ct_at (G : Nat → Nat) (p : Nat) (l : List Nat) : Prop := ∀ i (h : i < l.length), G (p + i) = l[i]
theorem ct_at_nil {G : Nat → Nat} {p : Nat} : ct_at G p [] := fun i h => absurd h (by simp)
theorem ct_at_app {G : Nat → Nat} {p : Nat} {l l' : List Nat} : ct_at G p (l ++ l') ↔ ct_at G p l ∧ ct_at G (p + l.length) l' := by
  constructor
  · intro h
    refine ⟨fun i hi => ?_, fun i hi => ?_⟩
    · have := h i (by rw [List.length_append]; omega)
      rw [this, List.getElem_append_left hi]
    · have := h (l.length + i) (by rw [List.length_append]; omega)
      rw [Nat.add_assoc, this, List.getElem_append_right (by omega)]
      simp only [Nat.add_sub_cancel_left]
  · rintro ⟨h1, h2⟩ i hi
    by_cases g : i < l.length
    · rw [h1 i g, List.getElem_append_left g]
    · have := h2 (i - l.length) (by rw [List.length_append] at hi; omega)
      rw [show p + l.length + (i - l.length) = p + i by omega] at this
      rw [this, List.getElem_append_right (by omega)]
theorem ct_at_cons {G : Nat → Nat} {p x : Nat} {l : List Nat} : ct_at G p (x :: l) ↔ G p = x ∧ ct_at G (p + 1) l := by
  have h := ct_at_app (G := G) (p := p) (l := [x]) (l' := l)
  rw [show [x] ++ l = x :: l from rfl, show [x].length = 1 from rfl] at h
  rw [h]
  refine ⟨fun z => ⟨z.1 0 (by simp), z.2⟩, fun z => ⟨fun i hi => ?_, z.2⟩⟩
  have : i = 0 := by simp at hi; omega
  subst this; exact z.1
end
end
section
/-! F: arrays of naturals; what goes out -/
section
/-- an array that holds naturals -/
def an_f (f : Nat → Nat) : Nat → Int32 := fun j => nI (f j)
theorem an_fa (f : Nat → Nat) (j : Nat) : an_f f j = nI (f j) := rfl
theorem an_fu (f : Nat → Nat) (k x : Nat) : upd (an_f f) k (nI x) = an_f (pm_u f k x) := by
  funext j
  show (if j = k then nI x else nI (f j)) = nI (if j = k then x else f j)
  split <;> rfl
/-- a byte as the byte type has it -/
def an_b (x : Nat) : Int32 := (nI x).toInt8.toInt32
def an_g (f : Nat → Nat) : Nat → Int32 := fun j => an_b (f j)
theorem an_ga (f : Nat → Nat) (j : Nat) : an_g f j = an_b (f j) := rfl
theorem an_gu (f : Nat → Nat) (k x : Nat) : upd (an_g f) k (an_b x) = an_g (pm_u f k x) := by
  funext j
  show (if j = k then an_b x else an_b (f j)) = an_b (if j = k then x else f j)
  split <;> rfl
theorem an_255 : ∀ x, x < 256 → an_b x &&& 255 = nI x := by
  unfold an_b
  decide +kernel
def ou_1 (z : (Nat → Nat) × Nat) (b : Nat) : (Nat → Nat) × Nat := if z.2 < 1200 then (pm_u z.1 z.2 b, z.2 + 1) else z
def ou_L (z : (Nat → Nat) × Nat) : List Nat → (Nat → Nat) × Nat
  | [] => z
  | b :: l => ou_L (ou_1 z b) l
theorem ou_L_app (z : (Nat → Nat) × Nat) : ∀ l l', ou_L z (l ++ l') = ou_L (ou_L z l) l'
  | [], _ => rfl
  | b :: l, l' => by
    rw [List.cons_append, ou_L, ou_L, ou_L_app (ou_1 z b) l l']
theorem ou_L_1 (z : (Nat → Nat) × Nat) (b : Nat) : ou_L z [b] = ou_1 z b := rfl
/-- bytes, and at most 1200 of them -/
def ou_I (z : (Nat → Nat) × Nat) : Prop := z.2 ≤ 1200 ∧ ∀ j, z.1 j < 256
theorem ou_1_I {z : (Nat → Nat) × Nat} {b : Nat} (h : ou_I z) (hb : b < 256) : ou_I (ou_1 z b) := by
  unfold ou_1
  split
  · rename_i h1
    refine ⟨h1, fun j => ?_⟩
    show (if j = z.2 then b else z.1 j) < 256
    split
    · exact hb
    · exact h.2 j
  · exact h
theorem ou_L_I : ∀ {l : List Nat} {z : (Nat → Nat) × Nat}, ou_I z → (∀ b, b ∈ l → b < 256) → ou_I (ou_L z l)
  | [], _, h, _ => h
  | b :: l, z, h, hb => ou_L_I (l := l) (ou_1_I h (hb b (by simp))) (fun x hx => hb x (by simp [hx]))
end
end
section
/-! G: what is put out, and errors, on both sides -/
section
variable {f_frameAt f_frameLength f_frameSort f_frameFlags f_frameStream f_down f_entryCount f_most f_typeSeen f_lastSender f_sentLength : Int32} {a_payload a_life a_theyEnded a_weEnded a_finishing a_codes a_windowIn a_windowOut a_headers a_headerCount a_entries a_kinds a_repeats a_messageCount a_text a_nodeCount a_nodeTypes a_valueCount a_valueOwners a_values a_skippedCount a_reader a_chainNode a_chainEnd a_queue a_queueLength a_sent a_nodeSize a_nodePlace : Nat → Int32} {yf_down yf_heads yf_paid yf_payload yf_wants yf_name yf_first yf_counts yf_enters yf_most yf_many yf_sent yf_last yf_nodes yf_values yf_skipped yf_pos yf_there yf_number yf_at : Int32} {ya_kind ya_repeated ya_how ya_code ya_coming ya_going ya_type ya_headers ya_header ya_queued ya_otherEnded ya_ended ya_finishing ya_queue ya_prefix ya_length ya_got ya_high ya_whole ya_has ya_bytes ya_frame ya_payloads ya_table ya_out ya_nodeType ya_valueNode ya_valueNumber ya_value ya_from ya_limit ya_inside ya_sizes : Nat → Int32} {z : (Nat → Nat) × Nat}
theorem ou_1_le {b : Nat} (hz : z.2 ≤ 1200) : (ou_1 z b).2 ≤ 1200 := by
  unfold ou_1
  split
  · rename_i h; exact h
  · exact hz
theorem ou_L_le : ∀ (l : List Nat) {z : (Nat → Nat) × Nat}, z.2 ≤ 1200 → (ou_L z l).2 ≤ 1200
  | [], _, h => h
  | _ :: l, _, h => ou_L_le l (ou_1_le h)
theorem an_bb (q : Nat) : vp_nar .byte (an_b q).toInt8.toInt32 = an_b q := by
  unfold an_b
  rw [pk_vb, ← vp_nar_byte, pk_vb]
theorem an_b1 (q : Nat) : vp_nar .byte (nI q).toInt8.toInt32 = an_b q := pk_vb _
theorem an_b2 (q : Nat) : vp_nar .byte (an_b q) = an_b q := pk_vb _
theorem xo_put {b : Nat} {post : SX → Prop} (hz : z.2 ≤ 1200)
    (h : post (f_frameAt, f_frameLength, f_frameSort, f_frameFlags, f_frameStream, f_down, f_entryCount, f_most, f_typeSeen, f_lastSender, nI (ou_1 z b).2, a_payload, a_life, a_theyEnded, a_weEnded, a_finishing, a_codes, a_windowIn, a_windowOut, a_headers, a_headerCount, a_entries, a_kinds, a_repeats, a_messageCount, a_text, a_nodeCount, a_nodeTypes, a_valueCount, a_valueOwners, a_values, a_skippedCount, a_reader, a_chainNode, a_chainEnd, a_queue, a_queueLength, an_f (ou_1 z b).1, a_nodeSize, a_nodePlace)) :
    wpX_putOut post (f_frameAt, f_frameLength, f_frameSort, f_frameFlags, f_frameStream, f_down, f_entryCount, f_most, f_typeSeen, f_lastSender, nI z.2, a_payload, a_life, a_theyEnded, a_weEnded, a_finishing, a_codes, a_windowIn, a_windowOut, a_headers, a_headerCount, a_entries, a_kinds, a_repeats, a_messageCount, a_text, a_nodeCount, a_nodeTypes, a_valueCount, a_valueOwners, a_values, a_skippedCount, a_reader, a_chainNode, a_chainEnd, a_queue, a_queueLength, an_f z.1, a_nodeSize, a_nodePlace) (nI b) := by
  unfold wpX_putOut
  refine pk_le 1200 z.2 (fun g => ?_) (fun g => ?_)
  · unfold ou_1 at h
    rw [if_neg (by omega)] at h; exact h
  · unfold ou_1 at h
    rw [if_pos g] at h
    exact ⟨vp_in_nI g (by omega), nm_r (by rw [nI_clamp (by omega), an_fu]) (nm_r (nI_1 _) h)⟩
theorem yo_put {b : Nat} {x : Int32} {post : SY → Prop} (hx : vp_nar .byte x.toInt8.toInt32 = an_b b) (hz : z.2 ≤ 1200)
    (h : post (yf_down, yf_heads, yf_paid, yf_payload, yf_wants, yf_name, yf_first, yf_counts, yf_enters, yf_most, yf_many, nI (ou_1 z b).2, yf_last, yf_nodes, yf_values, yf_skipped, yf_pos, yf_there, yf_number, yf_at, ya_kind, ya_repeated, ya_how, ya_code, ya_coming, ya_going, ya_type, ya_headers, ya_header, ya_queued, ya_otherEnded, ya_ended, ya_finishing, ya_queue, ya_prefix, ya_length, ya_got, ya_high, ya_whole, ya_has, ya_bytes, ya_frame, ya_payloads, ya_table, an_g (ou_1 z b).1, ya_nodeType, ya_valueNode, ya_valueNumber, ya_value, ya_from, ya_limit, ya_inside, ya_sizes)) :
    wpY_put post (yf_down, yf_heads, yf_paid, yf_payload, yf_wants, yf_name, yf_first, yf_counts, yf_enters, yf_most, yf_many, nI z.2, yf_last, yf_nodes, yf_values, yf_skipped, yf_pos, yf_there, yf_number, yf_at, ya_kind, ya_repeated, ya_how, ya_code, ya_coming, ya_going, ya_type, ya_headers, ya_header, ya_queued, ya_otherEnded, ya_ended, ya_finishing, ya_queue, ya_prefix, ya_length, ya_got, ya_high, ya_whole, ya_has, ya_bytes, ya_frame, ya_payloads, ya_table, an_g z.1, ya_nodeType, ya_valueNode, ya_valueNumber, ya_value, ya_from, ya_limit, ya_inside, ya_sizes) x := by
  unfold wpY_put
  refine pk_le 1200 z.2 (fun g => ?_) (fun g => ?_)
  · unfold ou_1 at h
    rw [if_neg (by omega)] at h; exact h
  · unfold ou_1 at h
    rw [if_pos g] at h
    exact nm_r (nI_1 _) ⟨vp_in_nI g (by omega), nm_r (by rw [nI_clamp (by omega), hx, an_gu]) h⟩
theorem xo_short {a b c d : Nat} {post : SX → Prop} (hz : z.2 ≤ 1200)
    (h : post (f_frameAt, f_frameLength, f_frameSort, f_frameFlags, f_frameStream, f_down, f_entryCount, f_most, f_typeSeen, f_lastSender, nI (ou_L z [1, a, b, c, d]).2, a_payload, a_life, a_theyEnded, a_weEnded, a_finishing, a_codes, a_windowIn, a_windowOut, a_headers, a_headerCount, a_entries, a_kinds, a_repeats, a_messageCount, a_text, a_nodeCount, a_nodeTypes, a_valueCount, a_valueOwners, a_values, a_skippedCount, a_reader, a_chainNode, a_chainEnd, a_queue, a_queueLength, an_f (ou_L z [1, a, b, c, d]).1, a_nodeSize, a_nodePlace)) :
    wpX_sendShort post (f_frameAt, f_frameLength, f_frameSort, f_frameFlags, f_frameStream, f_down, f_entryCount, f_most, f_typeSeen, f_lastSender, nI z.2, a_payload, a_life, a_theyEnded, a_weEnded, a_finishing, a_codes, a_windowIn, a_windowOut, a_headers, a_headerCount, a_entries, a_kinds, a_repeats, a_messageCount, a_text, a_nodeCount, a_nodeTypes, a_valueCount, a_valueOwners, a_values, a_skippedCount, a_reader, a_chainNode, a_chainEnd, a_queue, a_queueLength, an_f z.1, a_nodeSize, a_nodePlace) (nI a) (nI b) (nI c) (nI d) := by
  unfold wpX_sendShort
  exact xo_put (b := 1) hz (xo_put (ou_1_le hz) (xo_put (ou_1_le (ou_1_le hz)) (xo_put (ou_1_le (ou_1_le (ou_1_le hz))) (xo_put (ou_1_le (ou_1_le (ou_1_le (ou_1_le hz)))) h))))
theorem yo_frame {a b c d : Nat} {post : SY → Prop} (hz : z.2 ≤ 1200)
    (h : post (yf_down, yf_heads, yf_paid, yf_payload, yf_wants, yf_name, yf_first, yf_counts, yf_enters, yf_most, yf_many, nI (ou_L z [a, b, c, d]).2, yf_last, yf_nodes, yf_values, yf_skipped, yf_pos, yf_there, yf_number, yf_at, ya_kind, ya_repeated, ya_how, ya_code, ya_coming, ya_going, ya_type, ya_headers, ya_header, ya_queued, ya_otherEnded, ya_ended, ya_finishing, ya_queue, ya_prefix, ya_length, ya_got, ya_high, ya_whole, ya_has, ya_bytes, ya_frame, ya_payloads, ya_table, an_g (ou_L z [a, b, c, d]).1, ya_nodeType, ya_valueNode, ya_valueNumber, ya_value, ya_from, ya_limit, ya_inside, ya_sizes)) :
    wpY_frame post (yf_down, yf_heads, yf_paid, yf_payload, yf_wants, yf_name, yf_first, yf_counts, yf_enters, yf_most, yf_many, nI z.2, yf_last, yf_nodes, yf_values, yf_skipped, yf_pos, yf_there, yf_number, yf_at, ya_kind, ya_repeated, ya_how, ya_code, ya_coming, ya_going, ya_type, ya_headers, ya_header, ya_queued, ya_otherEnded, ya_ended, ya_finishing, ya_queue, ya_prefix, ya_length, ya_got, ya_high, ya_whole, ya_has, ya_bytes, ya_frame, ya_payloads, ya_table, an_g z.1, ya_nodeType, ya_valueNode, ya_valueNumber, ya_value, ya_from, ya_limit, ya_inside, ya_sizes) (nI a) (nI b) (nI c) (nI d) := by
  unfold wpY_frame
  exact yo_put (an_b1 _) hz (yo_put (an_b1 _) (ou_1_le hz) (yo_put (an_b1 _) (ou_1_le (ou_1_le hz)) (yo_put (an_b1 _) (ou_1_le (ou_1_le (ou_1_le hz))) h)))
theorem xo_failC {c : Nat} {post : SX → Prop} (hz : z.2 ≤ 1200)
    (h : post (f_frameAt, f_frameLength, f_frameSort, f_frameFlags, f_frameStream, 1, f_entryCount, f_most, f_typeSeen, f_lastSender, nI (ou_L z [1, 5, 0, 0, c]).2, a_payload, a_life, a_theyEnded, a_weEnded, a_finishing, upd a_codes 0 (nI c), a_windowIn, a_windowOut, a_headers, a_headerCount, a_entries, a_kinds, a_repeats, a_messageCount, a_text, a_nodeCount, a_nodeTypes, a_valueCount, a_valueOwners, a_values, a_skippedCount, a_reader, a_chainNode, a_chainEnd, a_queue, a_queueLength, an_f (ou_L z [1, 5, 0, 0, c]).1, a_nodeSize, a_nodePlace)) :
    wpX_failConnection post (f_frameAt, f_frameLength, f_frameSort, f_frameFlags, f_frameStream, f_down, f_entryCount, f_most, f_typeSeen, f_lastSender, nI z.2, a_payload, a_life, a_theyEnded, a_weEnded, a_finishing, a_codes, a_windowIn, a_windowOut, a_headers, a_headerCount, a_entries, a_kinds, a_repeats, a_messageCount, a_text, a_nodeCount, a_nodeTypes, a_valueCount, a_valueOwners, a_values, a_skippedCount, a_reader, a_chainNode, a_chainEnd, a_queue, a_queueLength, an_f z.1, a_nodeSize, a_nodePlace) (nI c) := by
  unfold wpX_failConnection
  exact nm_e (xo_short (a := 5) (b := 0) (c := 0) (d := c) hz h)
theorem xo_failS {s c : Nat} {post : SX → Prop} (hs : s < 8) (hz : z.2 ≤ 1200)
    (h : post (f_frameAt, f_frameLength, f_frameSort, f_frameFlags, f_frameStream, f_down, f_entryCount, f_most, f_typeSeen, f_lastSender, nI (ou_L z [1, 2, 0, s, c]).2, a_payload, upd a_life s 2, a_theyEnded, a_weEnded, a_finishing, upd a_codes s (nI c), a_windowIn, a_windowOut, a_headers, a_headerCount, a_entries, a_kinds, a_repeats, a_messageCount, a_text, a_nodeCount, a_nodeTypes, a_valueCount, a_valueOwners, a_values, a_skippedCount, a_reader, a_chainNode, a_chainEnd, a_queue, upd a_queueLength s 0, an_f (ou_L z [1, 2, 0, s, c]).1, a_nodeSize, a_nodePlace)) :
    wpX_failStream post (f_frameAt, f_frameLength, f_frameSort, f_frameFlags, f_frameStream, f_down, f_entryCount, f_most, f_typeSeen, f_lastSender, nI z.2, a_payload, a_life, a_theyEnded, a_weEnded, a_finishing, a_codes, a_windowIn, a_windowOut, a_headers, a_headerCount, a_entries, a_kinds, a_repeats, a_messageCount, a_text, a_nodeCount, a_nodeTypes, a_valueCount, a_valueOwners, a_values, a_skippedCount, a_reader, a_chainNode, a_chainEnd, a_queue, a_queueLength, an_f z.1, a_nodeSize, a_nodePlace) (nI s) (nI c) := by
  unfold wpX_failStream
  have hc : (nI s).toNatClampNeg = s := nI_clamp (by omega)
  have hi : vp_in (nI s) 8 := vp_in_nI hs (by omega)
  exact ⟨hi, nm_r (by rw [hc]) ⟨hi, nm_r (by rw [hc]) ⟨hi, nm_r (by rw [hc]) (xo_short (a := 2) (b := 0) (c := s) (d := c) hz h)⟩⟩⟩
theorem yo_shut {s : Nat} {x : Int32} {post : SY → Prop} (hs : s < 8)
    (h : post (yf_down, yf_heads, yf_paid, yf_payload, yf_wants, yf_name, yf_first, yf_counts, yf_enters, yf_most, yf_many, yf_sent, yf_last, yf_nodes, yf_values, yf_skipped, yf_pos, yf_there, yf_number, yf_at, ya_kind, ya_repeated, upd ya_how s 2, upd ya_code s x, ya_coming, ya_going, ya_type, ya_headers, ya_header, upd ya_queued s 0, ya_otherEnded, ya_ended, ya_finishing, ya_queue, ya_prefix, ya_length, ya_got, ya_high, ya_whole, ya_has, ya_bytes, ya_frame, ya_payloads, ya_table, ya_out, ya_nodeType, ya_valueNode, ya_valueNumber, ya_value, ya_from, ya_limit, ya_inside, ya_sizes)) :
    wpY_shut post (yf_down, yf_heads, yf_paid, yf_payload, yf_wants, yf_name, yf_first, yf_counts, yf_enters, yf_most, yf_many, yf_sent, yf_last, yf_nodes, yf_values, yf_skipped, yf_pos, yf_there, yf_number, yf_at, ya_kind, ya_repeated, ya_how, ya_code, ya_coming, ya_going, ya_type, ya_headers, ya_header, ya_queued, ya_otherEnded, ya_ended, ya_finishing, ya_queue, ya_prefix, ya_length, ya_got, ya_high, ya_whole, ya_has, ya_bytes, ya_frame, ya_payloads, ya_table, ya_out, ya_nodeType, ya_valueNode, ya_valueNumber, ya_value, ya_from, ya_limit, ya_inside, ya_sizes) (nI s) x := by
  unfold wpY_shut
  have hc : (nI s).toNatClampNeg = s := nI_clamp (by omega)
  have hi : vp_in (nI s) 8 := vp_in_nI hs (by omega)
  exact ⟨hi, nm_r (by rw [hc]) ⟨hi, nm_r (by rw [hc]) ⟨hi, nm_r (by rw [hc]) h⟩⟩⟩
theorem yo_errC {c : Nat} {post : SY → Prop} (hz : z.2 ≤ 1200)
    (h : post (1, yf_heads, yf_paid, yf_payload, yf_wants, yf_name, yf_first, yf_counts, yf_enters, yf_most, yf_many, nI (ou_L z [1, 5, 0, 0, c]).2, yf_last, yf_nodes, yf_values, yf_skipped, yf_pos, yf_there, yf_number, yf_at, ya_kind, ya_repeated, ya_how, upd ya_code 0 (nI c), ya_coming, ya_going, ya_type, ya_headers, ya_header, ya_queued, ya_otherEnded, ya_ended, ya_finishing, ya_queue, ya_prefix, ya_length, ya_got, ya_high, ya_whole, ya_has, ya_bytes, ya_frame, ya_payloads, ya_table, an_g (ou_L z [1, 5, 0, 0, c]).1, ya_nodeType, ya_valueNode, ya_valueNumber, ya_value, ya_from, ya_limit, ya_inside, ya_sizes)) :
    wpY_error post (yf_down, yf_heads, yf_paid, yf_payload, yf_wants, yf_name, yf_first, yf_counts, yf_enters, yf_most, yf_many, nI z.2, yf_last, yf_nodes, yf_values, yf_skipped, yf_pos, yf_there, yf_number, yf_at, ya_kind, ya_repeated, ya_how, ya_code, ya_coming, ya_going, ya_type, ya_headers, ya_header, ya_queued, ya_otherEnded, ya_ended, ya_finishing, ya_queue, ya_prefix, ya_length, ya_got, ya_high, ya_whole, ya_has, ya_bytes, ya_frame, ya_payloads, ya_table, an_g z.1, ya_nodeType, ya_valueNode, ya_valueNumber, ya_value, ya_from, ya_limit, ya_inside, ya_sizes) 0 (nI c) := by
  unfold wpY_error
  refine br_t rfl (nm_e ?_)
  unfold wY_error_25
  refine br_t rfl ?_
  unfold wY_error_36
  refine yo_frame (a := 1) (b := 5) (c := 0) (d := 0) hz ?_
  exact yo_put (an_b1 _) (ou_L_le [1, 5, 0, 0] hz) h
theorem yo_errS {s c : Nat} {post : SY → Prop} (h0 : 0 < s) (hs : s < 8) (hz : z.2 ≤ 1200)
    (h : post (yf_down, yf_heads, yf_paid, yf_payload, yf_wants, yf_name, yf_first, yf_counts, yf_enters, yf_most, yf_many, nI (ou_L z [1, 2, 0, s, c]).2, yf_last, yf_nodes, yf_values, yf_skipped, yf_pos, yf_there, yf_number, yf_at, ya_kind, ya_repeated, upd ya_how s 2, upd ya_code s (nI c), ya_coming, ya_going, ya_type, ya_headers, ya_header, upd ya_queued s 0, ya_otherEnded, ya_ended, ya_finishing, ya_queue, ya_prefix, ya_length, ya_got, ya_high, ya_whole, ya_has, ya_bytes, ya_frame, ya_payloads, ya_table, an_g (ou_L z [1, 2, 0, s, c]).1, ya_nodeType, ya_valueNode, ya_valueNumber, ya_value, ya_from, ya_limit, ya_inside, ya_sizes)) :
    wpY_error post (yf_down, yf_heads, yf_paid, yf_payload, yf_wants, yf_name, yf_first, yf_counts, yf_enters, yf_most, yf_many, nI z.2, yf_last, yf_nodes, yf_values, yf_skipped, yf_pos, yf_there, yf_number, yf_at, ya_kind, ya_repeated, ya_how, ya_code, ya_coming, ya_going, ya_type, ya_headers, ya_header, ya_queued, ya_otherEnded, ya_ended, ya_finishing, ya_queue, ya_prefix, ya_length, ya_got, ya_high, ya_whole, ya_has, ya_bytes, ya_frame, ya_payloads, ya_table, an_g z.1, ya_nodeType, ya_valueNode, ya_valueNumber, ya_value, ya_from, ya_limit, ya_inside, ya_sizes) (nI s) (nI c) := by
  unfold wpY_error
  have hn : ¬ nI s = 0 := by
    intro e
    have := (nI_eq (a := s) (b := 0) (by omega) (by omega)).mp e
    omega
  refine br_f hn (yo_shut hs ?_)
  unfold wY_error_25
  refine br_f hn ?_
  unfold wY_error_36
  refine yo_frame (a := 1) (b := 2) (c := 0) (d := s) hz ?_
  exact yo_put (an_b1 _) (ou_L_le [1, 2, 0, s] hz) h
end
end
section
/-! H: the relation -/
section
/-- of the streams -/
def cr_S (life th ot we fi co : Nat → Int32) (wi wo ql : Nat → Nat) : Prop :=
  life 0 = 0 ∧ ∀ s, s < 8 → (life s = 0 ∨ life s = 1 ∨ life s = 2) ∧ (th s = 0 ∨ th s = 1) ∧ (we s = 0 ∨ we s = 1) ∧ (fi s = 0 ∨ fi s = 1) ∧
    wi s ≤ 255 ∧ wo s ≤ 255 ∧ ql s ≤ 500 ∧ (life s ≠ 2 → ot s = th s) ∧ (life s ≠ 2 → 0 < s → co s = 0) ∧ (we s = 1 → fi s = 1 ∧ ql s = 0)
/-- a stream that may send -/
def cr_may (life we fi : Nat → Int32) (wo ql : Nat → Nat) (s : Nat) : Prop :=
  life s = 1 ∧ we s = 0 ∧ ((0 < ql s ∧ 0 < wo s ∧ 0 < wo 0) ∨ (ql s = 0 ∧ fi s = 1))
def cr_Q (life we fi : Nat → Int32) (wo ql : Nat → Nat) : Prop := ∀ s, 1 ≤ s → s < 8 → ¬ cr_may life we fi wo ql s
/-- of the table -/
def cr_T (en ta : Nat → Int32) (m M : Nat) : Prop :=
  m ≤ M ∧ M ≤ 16 ∧ ∀ j, j < m → en j = ta j ∧ ∃ e, e < 65536 ∧ en j = nI e
/-- of the fields -/
def cr_K (kinds rep : Nat → Int32) (K : Nat → Nat) (R : Nat → Bool) : Prop :=
  (∀ j, K j ≤ 8) ∧ (∀ j, j < 64 → kinds j = nI (K j) + (-1)) ∧ (∀ j, j < 64 → rep j = if R j = true then 1 else 0)
/-- of the frame that comes -/
def cr_F (life fr pl pls : Nat → Int32) (fAt n so fl st h p : Nat) (counts wants first : Int32) : Prop :=
  n < 256 ∧ so < 256 ∧ fl < 256 ∧ st < 256 ∧ fr 0 = nI n ∧ fr 1 = nI so ∧ fr 2 = nI fl ∧ fr 3 = nI st ∧
  ((h < 4 ∧ fAt = h) ∨ (h = 4 ∧ fAt = 4 + p ∧ p < n ∧ n ≤ 63 ∧ (so ≤ 5 → st ≤ 7) ∧
    (so = 0 → 1 ≤ st ∧ life st ≠ 0 ∧ (counts = 1 ∨ (counts = 0 ∧ life st = 2))) ∧ (1 ≤ so → so ≤ 4 → counts = 1) ∧ (5 ≤ so → counts = 0) ∧
    (so = 1 → 1 ≤ st ∧ wants = 0 ∧ first = -1 ∧ ∀ i, i < p → ∃ b, b < 256 ∧ pl i = nI b ∧ pls i = nI b) ∧
    (2 ≤ so → so ≤ 4 → n = 1) ∧ (so = 2 → 1 ≤ st) ∧ (so = 2 ∨ so = 3 → 0 < st → life st ≠ 0) ∧ (so = 4 → st = 0)))
/-- the reading of a message begins -/
def cr_0 (ty L : Nat) : pm_C := (0, 0, 0, 0, 0, (fun _ => L), (fun _ => 0), (1, (fun _ => ty), 0, (fun _ => 0), (fun _ => 0), (fun _ => 0), (fun _ => 0)))
/-- what the component keeps of a message -/
def cr_XD (K : Nat → Nat) (s : Nat) (nc nt vc vo va : Nat → Int32) (D : pm_D) : Prop :=
  nc s = nI (pm_nn D) ∧ vc s = nI (pm_nv D) ∧ (∀ i, i < pm_nn D → nt (16 * s + i) = nI (pm_nt D i)) ∧
  (∀ j, j < pm_nv D → vo (48 * s + j) = nI (16 * pm_vn D j + pm_vm D j) ∧ va (48 * s + j) = if pm_kk K D j = 4 then nI (256 * pm_fr D j) + pm_va D j else pm_va D j)
def cr_done (K : Nat → Nat) (R : Nat → Bool) (s ty L : Nat) (B : Nat → Nat) (nc nt vc vo va sk : Nat → Int32) : Prop :=
  ∃ dep c, pm_Rd B K R L (cr_0 ty L) (0, c) ∧ pm_CI K R L dep c ∧ cr_XD K s nc nt vc vo va (pm_d c) ∧ sk s = nI (pm_sk c)
/-- where a reading stands that isn't at its end -/
def cr_ph (K : Nat → Nat) (R : Nat → Bool) (t : Nat) (c : pm_C) (h f q d w : Nat) : Prop :=
  t < pm_end c ∧ f ≤ 15 ∧
  ((h = 0 ∧ t = pm_pos c + d ∧ d < 10 ∧ pm_row c = 0) ∨
   (h = 1 ∧ t = q + d ∧ d < 10 ∧ pm_row c = 0 ∧ pm_pos c < q ∧ (f ≠ 0 → K (pm_fj c f) ≠ 0 ∧ (K (pm_fj c f) ≤ 3 → R (pm_fj c f) = true))) ∨
   (h = 2 ∧ t = q + d ∧ d < 10 ∧ pm_pos c ≤ q ∧ (f ≠ 0 → 1 ≤ K (pm_fj c f) ∧ K (pm_fj c f) ≤ 2) ∧ (pm_row c ≠ 0 → f = pm_fld c)) ∨
   (h = 3 ∧ t = q + d ∧ d < w ∧ w ≤ 8 ∧ pm_pos c ≤ q ∧ (f ≠ 0 → w = 4 ∧ K (pm_fj c f) = 3) ∧ (pm_row c ≠ 0 → f = pm_fld c)) ∨
   (h = 4 ∧ q ≤ t ∧ t < q + w ∧ q + w ≤ pm_lim c (pm_at c) ∧ pm_row c = 0 ∧ pm_pos c < q ∧ (f ≠ 0 → K (pm_fj c f) = 4 ∧ pm_pl R (pm_d c) (pm_nd c) f ≠ 48)))
def cr_sum (B : Nat → Nat) (c : pm_C) (h q d : Nat) : Int32 :=
  if h = 0 then pm_vs B (pm_pos c) d else if h = 3 then pm_fs B q d else pm_vs B q d
def cr_D (R : Nat → Bool) (c : pm_C) (h f q w : Nat) : pm_D := if h = 4 ∧ f ≠ 0 then pm_kp R (pm_d c) (pm_nd c) f (nI w) q else pm_d c
def cr_reg (s t : Nat) (B : Nat → Nat) (c : pm_C) (h f q d w : Nat) (rd cn ce : Nat → Int32) : Prop :=
  rd (11 * s + 2) = nI t ∧ rd (11 * s + 3) = nI h ∧ (h < 4 → rd (11 * s + 4) = cr_sum B c h q d ∧ rd (11 * s + 5) = nI d) ∧
  (h = 3 → rd (11 * s + 6) = nI w) ∧ (h = 4 → rd (11 * s + 6) = nI (q + w - t)) ∧
  (1 ≤ h → rd (11 * s + 7) = nI (if f = 0 then 0 else pm_fj c f)) ∧ rd (11 * s + 8) = nI (pm_row c) ∧ (pm_row c = 0 → rd (11 * s + 9) = nI (pm_pos c)) ∧
  rd (11 * s + 10) = nI (pm_at c) ∧ (∀ i, i ≤ pm_at c → cn (4 * s + i) = nI (pm_ins c i) ∧ ce (4 * s + i) = nI (pm_lim c i))
/-- whatever the reference reads from here on, it reads from the start -/
def cr_from (K : Nat → Nat) (R : Nat → Bool) (ty L t : Nat) (B : Nat → Nat) (g : (Nat → Nat) → Nat → Nat × pm_C) : Prop :=
  ∀ T B', t ≤ T → (∀ i, i < t → B' i = B i) → ∀ r, pm_Rp B' K R T (g B' T) r → pm_Rd B' K R T (cr_0 ty L) r
def cr_inc (K : Nat → Nat) (R : Nat → Bool) (s ty L t : Nat) (B : Nat → Nat) (nc nt vc vo va sk rd cn ce : Nat → Int32) : Prop :=
  ∃ dep c h f q d w, t < L ∧ pm_CI K R L dep c ∧ cr_ph K R t c h f q d w ∧ cr_reg s t B c h f q d w rd cn ce ∧
    cr_XD K s nc nt vc vo va (cr_D R c h f q w) ∧ sk s = nI (pm_sk c) ∧ cr_from K R ty L t B (fun B' T => pm_go B' K R T c h f q d w)
/-- the bytes of one stream -/
def cr_by (tx : Nat → Nat) (s : Nat) : Nat → Nat := fun i => if i < 200 then tx (200 * s + i) else 0
/-- of the message of one stream -/
def cr_m (k : Nat) (K : Nat → Nat) (R : Nat → Bool) (s : Nat) (tx : Nat → Nat) (life mc nc nt vc vo va sk rd cn ce ty le go hi ha pr : Nat → Int32) : Prop :=
  ∃ p m y, p ≤ 3 ∧ pr s = nI p ∧ rd (11 * s) = nI p ∧ m ≤ k ∧ mc s = nI m ∧ y < 4 ∧
    (ha s = if m ≠ 0 ∧ p < 3 then 1 else 0) ∧ (life s = 0 → p = 0 ∧ m = 0) ∧ (p = 2 → ∃ x, x < 256 ∧ hi s = nI x ∧ rd (11 * s + 1) = nI (256 * x)) ∧
    (life s = 1 ∨ ha s = 1 → ty s = nI y ∧ nt (16 * s) = nI y) ∧
    (ha s = 1 → ∃ L, L ≤ 200 ∧ le s = nI L ∧ go s = nI L ∧ cr_done K R s y L (cr_by tx s) nc nt vc vo va sk) ∧
    (p = 3 → life s = 1 → ∃ L t, L ≤ 200 ∧ le s = nI L ∧ go s = nI t ∧ cr_inc K R s y L t (cr_by tx s) nc nt vc vo va sk rd cn ce)
def cr_M (k : Nat) (K : Nat → Nat) (R : Nat → Bool) (tx : Nat → Nat) (life mc nc nt vc vo va sk rd cn ce ty le go hi ha pr : Nat → Int32) : Prop :=
  ∀ s, 1 ≤ s → s < 8 → cr_m k K R s tx life mc nc nt vc vo va sk rd cn ce ty le go hi ha pr
/-- bytes -/
def cr_B (f : Nat → Nat) : Prop := ∀ j, f j < 256
abbrev cr_A : Type := Nat → Int32
abbrev cr_G : Type := ((Nat → Nat) × (Nat → Bool) × ((Nat → Nat) × Nat)) × (Nat × Nat × Nat × Nat × Nat × Nat × Nat × Nat × Nat × Nat) ×
  ((Nat → Nat) × (Nat → Nat) × (Nat → Nat) × (Nat → Nat) × (Nat → Nat) × (Nat → Nat)) ×
  (Int32 × Int32 × Int32 × Int32 × Int32 × Int32 × Int32 × Int32 × Int32 × Int32 × Int32 × Int32 × Int32 × Int32 × Int32) ×
  (cr_A × cr_A × cr_A × cr_A × cr_A × cr_A × cr_A × cr_A × cr_A × cr_A × cr_A) × (cr_A × cr_A × cr_A × cr_A × cr_A × cr_A × cr_A × cr_A × cr_A × cr_A × cr_A) ×
  (cr_A × cr_A × cr_A × cr_A × cr_A × cr_A × cr_A × cr_A × cr_A) × (cr_A × cr_A × cr_A × cr_A × cr_A × cr_A × cr_A × cr_A × cr_A)
def cr_x : cr_G → SX
  | ((K, R, z), (fAt, n, so, fl, st, h, p, m, M, l), (wi, wo, ql, hc, Q, tx), (f_down, f_typeSeen, yf_payload, yf_wants, yf_name, yf_first, yf_counts, yf_enters, yf_nodes, yf_values, yf_skipped, yf_pos, yf_there, yf_number, yf_at), (a_payload, a_life, a_theyEnded, a_weEnded, a_finishing, a_codes, a_headers, a_entries, a_kinds, a_repeats, a_messageCount), (a_nodeCount, a_nodeTypes, a_valueCount, a_valueOwners, a_values, a_skippedCount, a_reader, a_chainNode, a_chainEnd, a_nodeSize, a_nodePlace), (ya_type, ya_otherEnded, ya_prefix, ya_length, ya_got, ya_high, ya_has, ya_frame, ya_payloads), (ya_table, ya_nodeType, ya_valueNode, ya_valueNumber, ya_value, ya_from, ya_limit, ya_inside, ya_sizes)) => (nI fAt, nI n, nI so, nI fl, nI st, f_down, nI m, nI M, f_typeSeen, nI l, nI z.2, a_payload, a_life, a_theyEnded, a_weEnded, a_finishing, a_codes, an_f wi, an_f wo, a_headers, an_f hc, a_entries, a_kinds, a_repeats, a_messageCount, an_f tx, a_nodeCount, a_nodeTypes, a_valueCount, a_valueOwners, a_values, a_skippedCount, a_reader, a_chainNode, a_chainEnd, an_f Q, an_f ql, an_f z.1, a_nodeSize, a_nodePlace)
def cr_y : cr_G → SY
  | ((K, R, z), (fAt, n, so, fl, st, h, p, m, M, l), (wi, wo, ql, hc, Q, tx), (f_down, f_typeSeen, yf_payload, yf_wants, yf_name, yf_first, yf_counts, yf_enters, yf_nodes, yf_values, yf_skipped, yf_pos, yf_there, yf_number, yf_at), (a_payload, a_life, a_theyEnded, a_weEnded, a_finishing, a_codes, a_headers, a_entries, a_kinds, a_repeats, a_messageCount), (a_nodeCount, a_nodeTypes, a_valueCount, a_valueOwners, a_values, a_skippedCount, a_reader, a_chainNode, a_chainEnd, a_nodeSize, a_nodePlace), (ya_type, ya_otherEnded, ya_prefix, ya_length, ya_got, ya_high, ya_has, ya_frame, ya_payloads), (ya_table, ya_nodeType, ya_valueNode, ya_valueNumber, ya_value, ya_from, ya_limit, ya_inside, ya_sizes)) => (f_down, nI h, nI p, yf_payload, yf_wants, yf_name, yf_first, yf_counts, yf_enters, nI M, nI m, nI z.2, nI (if l = 0 then 7 else l), yf_nodes, yf_values, yf_skipped, yf_pos, yf_there, yf_number, yf_at, a_kinds, a_repeats, a_life, a_codes, an_f wi, an_f wo, ya_type, an_f hc, a_headers, an_f ql, ya_otherEnded, a_weEnded, a_finishing, an_g Q, ya_prefix, ya_length, ya_got, ya_high, a_messageCount, ya_has, an_g tx, ya_frame, ya_payloads, ya_table, an_g z.1, ya_nodeType, ya_valueNode, ya_valueNumber, ya_value, ya_from, ya_limit, ya_inside, ya_sizes)
def cr_C (k : Nat) : cr_G → Prop
  | ((K, R, z), (fAt, n, so, fl, st, h, p, m, M, l), (wi, wo, ql, hc, Q, tx), (f_down, f_typeSeen, yf_payload, yf_wants, yf_name, yf_first, yf_counts, yf_enters, yf_nodes, yf_values, yf_skipped, yf_pos, yf_there, yf_number, yf_at), (a_payload, a_life, a_theyEnded, a_weEnded, a_finishing, a_codes, a_headers, a_entries, a_kinds, a_repeats, a_messageCount), (a_nodeCount, a_nodeTypes, a_valueCount, a_valueOwners, a_values, a_skippedCount, a_reader, a_chainNode, a_chainEnd, a_nodeSize, a_nodePlace), (ya_type, ya_otherEnded, ya_prefix, ya_length, ya_got, ya_high, ya_has, ya_frame, ya_payloads), (ya_table, ya_nodeType, ya_valueNode, ya_valueNumber, ya_value, ya_from, ya_limit, ya_inside, ya_sizes)) =>
    (f_down = 0 ∨ f_down = 1) ∧ l ≤ 7 ∧ (∀ s, s < 8 → hc s ≤ 8) ∧ ou_I z ∧ cr_B Q ∧ cr_B tx ∧
    cr_S a_life a_theyEnded ya_otherEnded a_weEnded a_finishing a_codes wi wo ql ∧ (f_down = 0 → cr_Q a_life a_weEnded a_finishing wo ql) ∧
    cr_T a_entries ya_table m M ∧ cr_K a_kinds a_repeats K R ∧
    (f_down = 0 → cr_F a_life ya_frame a_payload ya_payloads fAt n so fl st h p yf_counts yf_wants yf_first) ∧
    cr_M k K R tx a_life a_messageCount a_nodeCount a_nodeTypes a_valueCount a_valueOwners a_values a_skippedCount a_reader a_chainNode a_chainEnd ya_type ya_length ya_got ya_high ya_has ya_prefix
def i_Rel (k : Nat) (u : SX) (v : SY) : Prop := ∃ g : cr_G, u = cr_x g ∧ v = cr_y g ∧ cr_C k g
end
end
section
/-! I: calls that only look -/
section
variable {f_frameAt f_frameLength f_frameSort f_frameFlags f_frameStream f_down f_entryCount f_most f_typeSeen f_lastSender f_sentLength : Int32} {a_payload a_life a_theyEnded a_weEnded a_finishing a_codes a_windowIn a_windowOut a_headers a_headerCount a_entries a_kinds a_repeats a_messageCount a_text a_nodeCount a_nodeTypes a_valueCount a_valueOwners a_values a_skippedCount a_reader a_chainNode a_chainEnd a_queue a_queueLength a_sent a_nodeSize a_nodePlace : Nat → Int32} {yf_down yf_heads yf_paid yf_payload yf_wants yf_name yf_first yf_counts yf_enters yf_most yf_many yf_sent yf_last yf_nodes yf_values yf_skipped yf_pos yf_there yf_number yf_at : Int32} {ya_kind ya_repeated ya_how ya_code ya_coming ya_going ya_type ya_headers ya_header ya_queued ya_otherEnded ya_ended ya_finishing ya_queue ya_prefix ya_length ya_got ya_high ya_whole ya_has ya_bytes ya_frame ya_payloads ya_table ya_out ya_nodeType ya_valueNode ya_valueNumber ya_value ya_from ya_limit ya_inside ya_sizes : Nat → Int32}
theorem lk_c (x : Int32) : (x < 0 ∧ x < 1 ∧ ¬ 7 < x ∧ ¬ x = 0) ∨ (¬ x < 0 ∧ ¬ x < 1 ∧ ¬ x ≤ 7 ∧ 7 < x ∧ ¬ x = 0) ∨ ∃ s, s < 8 ∧ x = nI s := by
  rcases pk_ix x (n := 8) (by omega) with h | h | ⟨s, hs, rfl⟩
  · left
    refine ⟨h, ?_, ?_, ?_⟩
    · rw [Int32.lt_iff_toInt_lt] at h ⊢
      have h0 : (0 : Int32).toInt = 0 := by decide
      have h1 : (1 : Int32).toInt = 1 := by decide
      omega
    · intro g
      rw [Int32.lt_iff_toInt_lt] at h g
      have h0 : (0 : Int32).toInt = 0 := by decide
      have h1 : (7 : Int32).toInt = 7 := by decide
      omega
    · intro g; subst g; exact absurd h (by decide)
  · right; left
    have h8 : (nI 8).toInt = 8 := by decide
    have h0 : (0 : Int32).toInt = 0 := by decide
    have h1 : (1 : Int32).toInt = 1 := by decide
    have h7 : (7 : Int32).toInt = 7 := by decide
    rw [Int32.le_iff_toInt_le] at h
    refine ⟨?_, ?_, ?_, ?_, ?_⟩
    · rw [Int32.lt_iff_toInt_lt]; omega
    · rw [Int32.lt_iff_toInt_lt]; omega
    · rw [Int32.le_iff_toInt_le]; omega
    · rw [Int32.lt_iff_toInt_lt]; omega
    · intro g; subst g; omega
  · right; right; exact ⟨s, hs, rfl⟩
theorem lk_s : ∀ s, s < 8 → ¬ nI s < 0 ∧ nI s ≤ 7 ∧ ¬ 7 < nI s ∧ (1 ≤ s → ¬ nI s < 1 ∧ ¬ nI s = 0) ∧ (nI s).toNatClampNeg = s := by
  decide +kernel
theorem yn_in {post : Int32 → Prop} {x a b : Int32} (h1 : ¬ x < a) (h2 : x ≤ b) (h : post 0) : wpY_no post x a b := br_f h1 (br_t h2 h)
theorem yn_lo {post : Int32 → Prop} {x a b : Int32} (h1 : x < a) (h : post 1) : wpY_no post x a b := br_t h1 h
theorem yn_hi {post : Int32 → Prop} {x a b : Int32} (h1 : ¬ x < a) (h2 : ¬ x ≤ b) (h : post 1) : wpY_no post x a b := br_f h1 (br_f h2 h)
theorem xs_t {post : Int32 → Prop} {s : Nat} (h1 : 1 ≤ s) (h2 : s < 8) (h : post 1) : wpX_isStream post (f_frameAt, f_frameLength, f_frameSort, f_frameFlags, f_frameStream, f_down, f_entryCount, f_most, f_typeSeen, f_lastSender, f_sentLength, a_payload, a_life, a_theyEnded, a_weEnded, a_finishing, a_codes, a_windowIn, a_windowOut, a_headers, a_headerCount, a_entries, a_kinds, a_repeats, a_messageCount, a_text, a_nodeCount, a_nodeTypes, a_valueCount, a_valueOwners, a_values, a_skippedCount, a_reader, a_chainNode, a_chainEnd, a_queue, a_queueLength, a_sent, a_nodeSize, a_nodePlace) (nI s) :=
  br_f ((lk_s s h2).2.2.2.1 h1).1 (br_f (lk_s s h2).2.2.1 h)
theorem xs_f {post : Int32 → Prop} {x : Int32} (hx : x < 1 ∨ (¬ x < 1 ∧ 7 < x)) (h : post 0) : wpX_isStream post (f_frameAt, f_frameLength, f_frameSort, f_frameFlags, f_frameStream, f_down, f_entryCount, f_most, f_typeSeen, f_lastSender, f_sentLength, a_payload, a_life, a_theyEnded, a_weEnded, a_finishing, a_codes, a_windowIn, a_windowOut, a_headers, a_headerCount, a_entries, a_kinds, a_repeats, a_messageCount, a_text, a_nodeCount, a_nodeTypes, a_valueCount, a_valueOwners, a_values, a_skippedCount, a_reader, a_chainNode, a_chainEnd, a_queue, a_queueLength, a_sent, a_nodeSize, a_nodePlace) x := by
  rcases hx with g | ⟨g1, g2⟩
  · exact br_t g h
  · exact br_f g1 (br_t g2 h)

theorem cr_m_k {k k' : Nat} (hk : k ≤ k') {K : Nat → Nat} {R : Nat → Bool} {s : Nat} {tx : Nat → Nat} {life mc nc nt vc vo va sk rd cn ce ty le go hi ha pr : Nat → Int32}
    (h : cr_m k K R s tx life mc nc nt vc vo va sk rd cn ce ty le go hi ha pr) : cr_m k' K R s tx life mc nc nt vc vo va sk rd cn ce ty le go hi ha pr := by
  obtain ⟨p, m, y, h1, h2, h3, h4, h5⟩ := h
  exact ⟨p, m, y, h1, h2, h3, Nat.le_trans h4 hk, h5⟩
theorem i_up {k : Nat} {u : SX} {v : SY} (h : i_Rel k u v) : i_Rel (k + 6) u v := by
  obtain ⟨⟨⟨K, R, z⟩, ⟨fAt, n, so, fl, st, h, p, m, M, l⟩, ⟨wi, wo, ql, hc, Q, tx⟩, ⟨f_down, f_typeSeen, yf_payload, yf_wants, yf_name, yf_first, yf_counts, yf_enters, yf_nodes, yf_values, yf_skipped, yf_pos, yf_there, yf_number, yf_at⟩, ⟨a_payload, a_life, a_theyEnded, a_weEnded, a_finishing, a_codes, a_headers, a_entries, a_kinds, a_repeats, a_messageCount⟩, ⟨a_nodeCount, a_nodeTypes, a_valueCount, a_valueOwners, a_values, a_skippedCount, a_reader, a_chainNode, a_chainEnd, a_nodeSize, a_nodePlace⟩, ⟨ya_type, ya_otherEnded, ya_prefix, ya_length, ya_got, ya_high, ya_has, ya_frame, ya_payloads⟩, ⟨ya_table, ya_nodeType, ya_valueNode, ya_valueNumber, ya_value, ya_from, ya_limit, ya_inside, ya_sizes⟩⟩, rfl, rfl, hD, hl, hH, hO, hQ, hX, hS, hq, hT, hK, hF, hM⟩ := h
  exact ⟨((K, R, z), (fAt, n, so, fl, st, h, p, m, M, l), (wi, wo, ql, hc, Q, tx), (f_down, f_typeSeen, yf_payload, yf_wants, yf_name, yf_first, yf_counts, yf_enters, yf_nodes, yf_values, yf_skipped, yf_pos, yf_there, yf_number, yf_at), (a_payload, a_life, a_theyEnded, a_weEnded, a_finishing, a_codes, a_headers, a_entries, a_kinds, a_repeats, a_messageCount), (a_nodeCount, a_nodeTypes, a_valueCount, a_valueOwners, a_values, a_skippedCount, a_reader, a_chainNode, a_chainEnd, a_nodeSize, a_nodePlace), (ya_type, ya_otherEnded, ya_prefix, ya_length, ya_got, ya_high, ya_has, ya_frame, ya_payloads), (ya_table, ya_nodeType, ya_valueNode, ya_valueNumber, ya_value, ya_from, ya_limit, ya_inside, ya_sizes)), rfl, rfl, hD, hl, hH, hO, hQ, hX, hS, hq, hT, hK, hF, fun s h1 h2 => cr_m_k (by omega) (hM s h1 h2)⟩
end
end
section
/-! I2: calls that only look -/
section
variable {f_frameAt f_frameLength f_frameSort f_frameFlags f_frameStream f_down f_entryCount f_most f_typeSeen f_lastSender f_sentLength : Int32} {a_payload a_life a_theyEnded a_weEnded a_finishing a_codes a_windowIn a_windowOut a_headers a_headerCount a_entries a_kinds a_repeats a_messageCount a_text a_nodeCount a_nodeTypes a_valueCount a_valueOwners a_values a_skippedCount a_reader a_chainNode a_chainEnd a_queue a_queueLength a_sent a_nodeSize a_nodePlace : Nat → Int32} {yf_down yf_heads yf_paid yf_payload yf_wants yf_name yf_first yf_counts yf_enters yf_most yf_many yf_sent yf_last yf_nodes yf_values yf_skipped yf_pos yf_there yf_number yf_at : Int32} {ya_kind ya_repeated ya_how ya_code ya_coming ya_going ya_type ya_headers ya_header ya_queued ya_otherEnded ya_ended ya_finishing ya_queue ya_prefix ya_length ya_got ya_high ya_whole ya_has ya_bytes ya_frame ya_payloads ya_table ya_out ya_nodeType ya_valueNode ya_valueNumber ya_value ya_from ya_limit ya_inside ya_sizes : Nat → Int32}
theorem lk_in {s : Nat} (h : s < 8) : vp_in (nI s) 8 := vp_in_nI h (by omega)
theorem i_vc_state {k : Nat} {u : SX} {v : SY} (I : i_Rel k u v) (hk : k + 6 ≤ 3072) (v1 : Int32) : wpX_state (fun r => wpY_state (fun r' => r' = r ∧ i_Rel (k + 6) u v) v v1) u v1 := by
  have J := i_up I
  generalize i_Rel (k + 6) u v = P at J ⊢
  obtain ⟨⟨⟨K, R, z⟩, ⟨fAt, n, so, fl, st, h, p, m, M, l⟩, ⟨wi, wo, ql, hc, Q, tx⟩, ⟨f_down, f_typeSeen, yf_payload, yf_wants, yf_name, yf_first, yf_counts, yf_enters, yf_nodes, yf_values, yf_skipped, yf_pos, yf_there, yf_number, yf_at⟩, ⟨a_payload, a_life, a_theyEnded, a_weEnded, a_finishing, a_codes, a_headers, a_entries, a_kinds, a_repeats, a_messageCount⟩, ⟨a_nodeCount, a_nodeTypes, a_valueCount, a_valueOwners, a_values, a_skippedCount, a_reader, a_chainNode, a_chainEnd, a_nodeSize, a_nodePlace⟩, ⟨ya_type, ya_otherEnded, ya_prefix, ya_length, ya_got, ya_high, ya_has, ya_frame, ya_payloads⟩, ⟨ya_table, ya_nodeType, ya_valueNode, ya_valueNumber, ya_value, ya_from, ya_limit, ya_inside, ya_sizes⟩⟩, rfl, rfl, hD, hl, hH, hO, hQ, hX, hS, hq, hT, hK, hF, hM⟩ := I
  dsimp only [cr_x, cr_y]
  unfold wpX_state wpY_state wpX_isStream wpY_no
  dsimp only
  rcases lk_c v1 with ⟨h1, h2, h3, h4⟩ | ⟨h1, h2, h3, h4, h5⟩ | ⟨s, hs, rfl⟩
  · simp [h1, h2, h4, J]
  · simp [h1, h2, h3, h4, h5, J]
  · obtain ⟨g1, g2, g3, g4, g5⟩ := lk_s s hs
    obtain ⟨s1, s2, s3, s4, s5, s6, s7, s8, s9, s10⟩ := hS.2 s hs
    rw [g5]
    have hin := lk_in hs
    by_cases h0 : s = 0
    · subst h0
      rcases hD with d | d <;> simp [d, J, nI_0]
    · obtain ⟨g6, g7⟩ := g4 (by omega)
      rcases s1 with e | e | e
      · simp [g1, g2, g3, g6, g7, hin, e, J]
      · rw [s8 (by rw [e]; decide)]
        rcases s2 with t | t <;> rcases s3 with w | w <;> simp [g1, g2, g3, g6, g7, hin, e, t, w, J]
      · simp [g1, g2, g3, g6, g7, hin, e, J]
end
end
section
/-! I3: calls that only look -/
section
variable {f_frameAt f_frameLength f_frameSort f_frameFlags f_frameStream f_down f_entryCount f_most f_typeSeen f_lastSender f_sentLength : Int32} {a_payload a_life a_theyEnded a_weEnded a_finishing a_codes a_windowIn a_windowOut a_headers a_headerCount a_entries a_kinds a_repeats a_messageCount a_text a_nodeCount a_nodeTypes a_valueCount a_valueOwners a_values a_skippedCount a_reader a_chainNode a_chainEnd a_queue a_queueLength a_sent a_nodeSize a_nodePlace : Nat → Int32} {yf_down yf_heads yf_paid yf_payload yf_wants yf_name yf_first yf_counts yf_enters yf_most yf_many yf_sent yf_last yf_nodes yf_values yf_skipped yf_pos yf_there yf_number yf_at : Int32} {ya_kind ya_repeated ya_how ya_code ya_coming ya_going ya_type ya_headers ya_header ya_queued ya_otherEnded ya_ended ya_finishing ya_queue ya_prefix ya_length ya_got ya_high ya_whole ya_has ya_bytes ya_frame ya_payloads ya_table ya_out ya_nodeType ya_valueNode ya_valueNumber ya_value ya_from ya_limit ya_inside ya_sizes : Nat → Int32}
theorem i_vc_code {k : Nat} {u : SX} {v : SY} (I : i_Rel k u v) (hk : k + 6 ≤ 3072) (v1 : Int32) : wpX_code (fun r => wpY_code (fun r' => r' = r ∧ i_Rel (k + 6) u v) v v1) u v1 := by
  have J := i_up I
  generalize i_Rel (k + 6) u v = P at J ⊢
  obtain ⟨⟨⟨K, R, z⟩, ⟨fAt, n, so, fl, st, h, p, m, M, l⟩, ⟨wi, wo, ql, hc, Q, tx⟩, ⟨f_down, f_typeSeen, yf_payload, yf_wants, yf_name, yf_first, yf_counts, yf_enters, yf_nodes, yf_values, yf_skipped, yf_pos, yf_there, yf_number, yf_at⟩, ⟨a_payload, a_life, a_theyEnded, a_weEnded, a_finishing, a_codes, a_headers, a_entries, a_kinds, a_repeats, a_messageCount⟩, ⟨a_nodeCount, a_nodeTypes, a_valueCount, a_valueOwners, a_values, a_skippedCount, a_reader, a_chainNode, a_chainEnd, a_nodeSize, a_nodePlace⟩, ⟨ya_type, ya_otherEnded, ya_prefix, ya_length, ya_got, ya_high, ya_has, ya_frame, ya_payloads⟩, ⟨ya_table, ya_nodeType, ya_valueNode, ya_valueNumber, ya_value, ya_from, ya_limit, ya_inside, ya_sizes⟩⟩, rfl, rfl, hD, hl, hH, hO, hQ, hX, hS, hq, hT, hK, hF, hM⟩ := I
  dsimp only [cr_x, cr_y]
  unfold wpX_code wpY_code wpX_isStream wpY_no
  dsimp only
  rcases lk_c v1 with ⟨h1, h2, h3, h4⟩ | ⟨h1, h2, h3, h4, h5⟩ | ⟨s, hs, rfl⟩
  · simp [h1, h2, h4, J]
  · simp [h1, h2, h3, h4, h5, J]
  · obtain ⟨g1, g2, g3, g4, g5⟩ := lk_s s hs
    have hin := lk_in hs
    by_cases h0 : s = 0
    · subst h0
      simp [J, nI_0, (show vp_in (0 : Int32) 8 from hin)]
    · obtain ⟨g6, g7⟩ := g4 (by omega)
      simp [g1, g2, g3, g6, g7, hin, J]
theorem i_vc_window {k : Nat} {u : SX} {v : SY} (I : i_Rel k u v) (hk : k + 6 ≤ 3072) (v1 : Int32) (v2 : Int32) : wpX_window (fun r => wpY_window (fun r' => r' = r ∧ i_Rel (k + 6) u v) v v1 (lw_bz v2)) u v1 (lw_bz v2) := by
  have J := i_up I
  generalize i_Rel (k + 6) u v = P at J ⊢
  obtain ⟨⟨⟨K, R, z⟩, ⟨fAt, n, so, fl, st, h, p, m, M, l⟩, ⟨wi, wo, ql, hc, Q, tx⟩, ⟨f_down, f_typeSeen, yf_payload, yf_wants, yf_name, yf_first, yf_counts, yf_enters, yf_nodes, yf_values, yf_skipped, yf_pos, yf_there, yf_number, yf_at⟩, ⟨a_payload, a_life, a_theyEnded, a_weEnded, a_finishing, a_codes, a_headers, a_entries, a_kinds, a_repeats, a_messageCount⟩, ⟨a_nodeCount, a_nodeTypes, a_valueCount, a_valueOwners, a_values, a_skippedCount, a_reader, a_chainNode, a_chainEnd, a_nodeSize, a_nodePlace⟩, ⟨ya_type, ya_otherEnded, ya_prefix, ya_length, ya_got, ya_high, ya_has, ya_frame, ya_payloads⟩, ⟨ya_table, ya_nodeType, ya_valueNode, ya_valueNumber, ya_value, ya_from, ya_limit, ya_inside, ya_sizes⟩⟩, rfl, rfl, hD, hl, hH, hO, hQ, hX, hS, hq, hT, hK, hF, hM⟩ := I
  dsimp only [cr_x, cr_y]
  generalize lw_bz v2 = x
  unfold wpX_window wpY_window wpX_isStream wpY_no
  dsimp only
  unfold wX_window_14
  rcases lk_c v1 with ⟨h1, h2, h3, h4⟩ | ⟨h1, h2, h3, h4, h5⟩ | ⟨s, hs, rfl⟩
  · simp [h1, h2, h4, J]
  · simp [h1, h2, h3, h4, h5, J]
  · obtain ⟨g1, g2, g3, g4, g5⟩ := lk_s s hs
    have hin := lk_in hs
    by_cases hx : x = 0
    · by_cases h0 : s = 0
      · subst h0
        simp [J, nI_0, (show vp_in (0 : Int32) 8 from hin), hx]
      · obtain ⟨g6, g7⟩ := g4 (by omega)
        simp [g1, g2, g3, g6, g7, hin, J, hx]
    · by_cases h0 : s = 0
      · subst h0
        simp [J, nI_0, (show vp_in (0 : Int32) 8 from hin), hx]
      · obtain ⟨g6, g7⟩ := g4 (by omega)
        simp [g1, g2, g3, g6, g7, hin, J, hx]
theorem i_vc_messages {k : Nat} {u : SX} {v : SY} (I : i_Rel k u v) (hk : k + 6 ≤ 3072) (v1 : Int32) : wpX_messages (fun r => wpY_messages (fun r' => r' = r ∧ i_Rel (k + 6) u v) v v1) u v1 := by
  have J := i_up I
  generalize i_Rel (k + 6) u v = P at J ⊢
  obtain ⟨⟨⟨K, R, z⟩, ⟨fAt, n, so, fl, st, h, p, m, M, l⟩, ⟨wi, wo, ql, hc, Q, tx⟩, ⟨f_down, f_typeSeen, yf_payload, yf_wants, yf_name, yf_first, yf_counts, yf_enters, yf_nodes, yf_values, yf_skipped, yf_pos, yf_there, yf_number, yf_at⟩, ⟨a_payload, a_life, a_theyEnded, a_weEnded, a_finishing, a_codes, a_headers, a_entries, a_kinds, a_repeats, a_messageCount⟩, ⟨a_nodeCount, a_nodeTypes, a_valueCount, a_valueOwners, a_values, a_skippedCount, a_reader, a_chainNode, a_chainEnd, a_nodeSize, a_nodePlace⟩, ⟨ya_type, ya_otherEnded, ya_prefix, ya_length, ya_got, ya_high, ya_has, ya_frame, ya_payloads⟩, ⟨ya_table, ya_nodeType, ya_valueNode, ya_valueNumber, ya_value, ya_from, ya_limit, ya_inside, ya_sizes⟩⟩, rfl, rfl, hD, hl, hH, hO, hQ, hX, hS, hq, hT, hK, hF, hM⟩ := I
  dsimp only [cr_x, cr_y]
  unfold wpX_messages wpY_messages wpX_isStream wpY_no
  dsimp only
  rcases lk_c v1 with ⟨h1, h2, h3, h4⟩ | ⟨h1, h2, h3, h4, h5⟩ | ⟨s, hs, rfl⟩
  · simp [h1, h2, h4, J]
  · simp [h1, h2, h3, h4, h5, J]
  · obtain ⟨g1, g2, g3, g4, g5⟩ := lk_s s hs
    have hin := lk_in hs
    by_cases h0 : s = 0
    · subst h0
      simp [J, nI_0]
    · obtain ⟨g6, g7⟩ := g4 (by omega)
      simp [g1, g2, g3, g6, g7, hin, J]
/-- an index against a count -/
theorem lk_ix {x : Int32} (m : Nat) (hm : m < 2 ^ 30) : (x < 0) ∨ (¬ x < 0 ∧ nI m ≤ x ∧ ¬ x ≤ nI m - 1) ∨ ∃ j, j < m ∧ x = nI j ∧ ¬ x < 0 ∧ ¬ nI m ≤ x ∧ x ≤ nI m - 1 := by
  rcases pk_ix x (n := m) (by omega) with h | h | ⟨j, hj, rfl⟩
  · exact Or.inl h
  · right; left
    obtain ⟨e, he, rfl⟩ : ∃ e, e < 2 ^ 31 ∧ x = nI e := nI_of (by
      intro g
      have : nI m < 0 := Int32.lt_of_le_of_lt h g
      exact absurd this (nI_pos (by omega)))
    refine ⟨nI_pos he, h, ?_⟩
    rw [nI_leI (by omega) he] at h
    intro g
    cases m with
    | zero =>
      have e1 : nI 0 - 1 = (-1 : Int32) := by decide
      rw [e1] at g
      exact absurd (Int32.lt_of_le_of_lt g (show (-1 : Int32) < 0 by decide)) (nI_pos he)
    | succ m =>
      rw [nI_pred, nI_leI he (by omega)] at g
      omega
  · right; right
    refine ⟨j, hj, rfl, nI_pos (by omega), ?_, ?_⟩
    · rw [nI_leI (by omega) (by omega)]; omega
    · obtain ⟨m', rfl⟩ : ∃ m', m = m' + 1 := ⟨m - 1, by omega⟩
      rw [nI_pred, nI_leI (by omega) (by omega)]; omega
theorem i_vc_header {k : Nat} {u : SX} {v : SY} (I : i_Rel k u v) (hk : k + 6 ≤ 3072) (v1 : Int32) (v2 : Int32) : wpX_header (fun r => wpY_header (fun r' => r' = r ∧ i_Rel (k + 6) u v) v v1 v2) u v1 v2 := by
  have J := i_up I
  generalize i_Rel (k + 6) u v = P at J ⊢
  obtain ⟨⟨⟨K, R, z⟩, ⟨fAt, n, so, fl, st, h, p, m, M, l⟩, ⟨wi, wo, ql, hc, Q, tx⟩, ⟨f_down, f_typeSeen, yf_payload, yf_wants, yf_name, yf_first, yf_counts, yf_enters, yf_nodes, yf_values, yf_skipped, yf_pos, yf_there, yf_number, yf_at⟩, ⟨a_payload, a_life, a_theyEnded, a_weEnded, a_finishing, a_codes, a_headers, a_entries, a_kinds, a_repeats, a_messageCount⟩, ⟨a_nodeCount, a_nodeTypes, a_valueCount, a_valueOwners, a_values, a_skippedCount, a_reader, a_chainNode, a_chainEnd, a_nodeSize, a_nodePlace⟩, ⟨ya_type, ya_otherEnded, ya_prefix, ya_length, ya_got, ya_high, ya_has, ya_frame, ya_payloads⟩, ⟨ya_table, ya_nodeType, ya_valueNode, ya_valueNumber, ya_value, ya_from, ya_limit, ya_inside, ya_sizes⟩⟩, rfl, rfl, hD, hl, hH, hO, hQ, hX, hS, hq, hT, hK, hF, hM⟩ := I
  dsimp only [cr_x, cr_y]
  unfold wpX_header wpY_header wpX_isStream wpY_no
  dsimp only
  rcases lk_c v1 with ⟨h1, h2, h3, h4⟩ | ⟨h1, h2, h3, h4, h5⟩ | ⟨s, hs, rfl⟩
  · simp [h1, h2, h4, J]
  · simp [h1, h2, h3, h4, h5, J]
  · obtain ⟨g1, g2, g3, g4, g5⟩ := lk_s s hs
    have hin := lk_in hs
    have hh := hH s hs
    by_cases h0 : s = 0
    · subst h0
      simp [J, nI_0]
    · obtain ⟨g6, g7⟩ := g4 (by omega)
      rw [g5, an_fa]
      rcases lk_ix (x := v2) (hc s) (by omega) with a | ⟨a, b, c⟩ | ⟨j, hj, rfl, a, b, c⟩
      · simp [g1, g2, g3, g6, g7, hin, J, a]
      · simp [g1, g2, g3, g6, g7, hin, J, a, b, c]
      · have e1 : nI s * 8 + nI j = nI (8 * s + j) := by
          rw [show (8 : Int32) = nI 8 from rfl, pk_mul, nI_add, Nat.mul_comm]
        have e2 : 8 * nI s + nI j = nI (8 * s + j) := by
          rw [show (8 : Int32) = nI 8 from rfl, pk_mul, nI_add]
        have e3 : vp_in (nI (8 * s + j)) 64 := vp_in_nI (by omega) (by omega)
        simp [g1, g2, g3, g6, g7, hin, J, a, b, c, e1, e2, e3]
theorem i_vc_table {k : Nat} {u : SX} {v : SY} (I : i_Rel k u v) (hk : k + 6 ≤ 3072) (v1 : Int32) : wpX_table (fun r => wpY_table (fun r' => r' = r ∧ i_Rel (k + 6) u v) v v1) u v1 := by
  have J := i_up I
  generalize i_Rel (k + 6) u v = P at J ⊢
  obtain ⟨⟨⟨K, R, z⟩, ⟨fAt, n, so, fl, st, h, p, m, M, l⟩, ⟨wi, wo, ql, hc, Q, tx⟩, ⟨f_down, f_typeSeen, yf_payload, yf_wants, yf_name, yf_first, yf_counts, yf_enters, yf_nodes, yf_values, yf_skipped, yf_pos, yf_there, yf_number, yf_at⟩, ⟨a_payload, a_life, a_theyEnded, a_weEnded, a_finishing, a_codes, a_headers, a_entries, a_kinds, a_repeats, a_messageCount⟩, ⟨a_nodeCount, a_nodeTypes, a_valueCount, a_valueOwners, a_values, a_skippedCount, a_reader, a_chainNode, a_chainEnd, a_nodeSize, a_nodePlace⟩, ⟨ya_type, ya_otherEnded, ya_prefix, ya_length, ya_got, ya_high, ya_has, ya_frame, ya_payloads⟩, ⟨ya_table, ya_nodeType, ya_valueNode, ya_valueNumber, ya_value, ya_from, ya_limit, ya_inside, ya_sizes⟩⟩, rfl, rfl, hD, hl, hH, hO, hQ, hX, hS, hq, hT, hK, hF, hM⟩ := I
  dsimp only [cr_x, cr_y]
  unfold wpX_table wpY_table wpY_no
  dsimp only
  obtain ⟨t1, t2, t3⟩ := hT
  by_cases hv : v1 = -1
  · simp [hv, J]
  · rcases lk_ix (x := v1) m (by omega) with a | ⟨a, b, c⟩ | ⟨j, hj, rfl, a, b, c⟩
    · simp [hv, J, a]
    · simp [hv, J, a, b, c]
    · have e3 : vp_in (nI j) 16 := vp_in_nI (by omega) (by omega)
      have e4 : vp_in (nI j) 17 := vp_in_nI (by omega) (by omega)
      have e5 : (nI j).toNatClampNeg = j := nI_clamp (by omega)
      simp [hv, J, a, b, c, e3, e4, e5, (t3 j hj).1]
theorem i_vc_out {k : Nat} {u : SX} {v : SY} (I : i_Rel k u v) (hk : k + 6 ≤ 3072) (v1 : Int32) : wpX_out (fun r => wpY_out (fun r' => r' = r ∧ i_Rel (k + 6) u v) v v1) u v1 := by
  have J := i_up I
  generalize i_Rel (k + 6) u v = P at J ⊢
  obtain ⟨⟨⟨K, R, z⟩, ⟨fAt, n, so, fl, st, h, p, m, M, l⟩, ⟨wi, wo, ql, hc, Q, tx⟩, ⟨f_down, f_typeSeen, yf_payload, yf_wants, yf_name, yf_first, yf_counts, yf_enters, yf_nodes, yf_values, yf_skipped, yf_pos, yf_there, yf_number, yf_at⟩, ⟨a_payload, a_life, a_theyEnded, a_weEnded, a_finishing, a_codes, a_headers, a_entries, a_kinds, a_repeats, a_messageCount⟩, ⟨a_nodeCount, a_nodeTypes, a_valueCount, a_valueOwners, a_values, a_skippedCount, a_reader, a_chainNode, a_chainEnd, a_nodeSize, a_nodePlace⟩, ⟨ya_type, ya_otherEnded, ya_prefix, ya_length, ya_got, ya_high, ya_has, ya_frame, ya_payloads⟩, ⟨ya_table, ya_nodeType, ya_valueNode, ya_valueNumber, ya_value, ya_from, ya_limit, ya_inside, ya_sizes⟩⟩, rfl, rfl, hD, hl, hH, hO, hQ, hX, hS, hq, hT, hK, hF, hM⟩ := I
  dsimp only [cr_x, cr_y]
  unfold wpX_out wpY_out wpY_no
  dsimp only
  obtain ⟨t1, t2⟩ := hO
  by_cases hv : v1 = -1
  · simp [hv, J]
  · rcases lk_ix (x := v1) z.2 (by omega) with a | ⟨a, b, c⟩ | ⟨j, hj, rfl, a, b, c⟩
    · simp [hv, J, a]
    · simp [hv, J, a, b, c]
    · have e3 : vp_in (nI j) 1200 := vp_in_nI (by omega) (by omega)
      have e5 : (nI j).toNatClampNeg = j := nI_clamp (by omega)
      simp [hv, J, a, b, c, e3, e5, an_fa, an_ga, an_255 _ (t2 j)]
theorem i_vc_drain {k : Nat} {u : SX} {v : SY} (I : i_Rel k u v) (hk : k + 6 ≤ 3072) : wpX_drain (fun r u' => wpY_drain (fun r' v' => r' = r ∧ i_Rel (k + 6) u' v') v) u := by
  have J := i_up I
  obtain ⟨⟨⟨K, R, z⟩, ⟨fAt, n, so, fl, st, h, p, m, M, l⟩, ⟨wi, wo, ql, hc, Q, tx⟩, ⟨f_down, f_typeSeen, yf_payload, yf_wants, yf_name, yf_first, yf_counts, yf_enters, yf_nodes, yf_values, yf_skipped, yf_pos, yf_there, yf_number, yf_at⟩, ⟨a_payload, a_life, a_theyEnded, a_weEnded, a_finishing, a_codes, a_headers, a_entries, a_kinds, a_repeats, a_messageCount⟩, ⟨a_nodeCount, a_nodeTypes, a_valueCount, a_valueOwners, a_values, a_skippedCount, a_reader, a_chainNode, a_chainEnd, a_nodeSize, a_nodePlace⟩, ⟨ya_type, ya_otherEnded, ya_prefix, ya_length, ya_got, ya_high, ya_has, ya_frame, ya_payloads⟩, ⟨ya_table, ya_nodeType, ya_valueNode, ya_valueNumber, ya_value, ya_from, ya_limit, ya_inside, ya_sizes⟩⟩, rfl, rfl, hD, hl, hH, hO, hQ, hX, hS, hq, hT, hK, hF, hM⟩ := J
  dsimp only [cr_x, cr_y]
  unfold wpX_drain wpY_drain
  exact ⟨rfl, ((K, R, (z.1, 0)), (fAt, n, so, fl, st, h, p, m, M, l), (wi, wo, ql, hc, Q, tx), (f_down, f_typeSeen, yf_payload, yf_wants, yf_name, yf_first, yf_counts, yf_enters, yf_nodes, yf_values, yf_skipped, yf_pos, yf_there, yf_number, yf_at), (a_payload, a_life, a_theyEnded, a_weEnded, a_finishing, a_codes, a_headers, a_entries, a_kinds, a_repeats, a_messageCount), (a_nodeCount, a_nodeTypes, a_valueCount, a_valueOwners, a_values, a_skippedCount, a_reader, a_chainNode, a_chainEnd, a_nodeSize, a_nodePlace), (ya_type, ya_otherEnded, ya_prefix, ya_length, ya_got, ya_high, ya_has, ya_frame, ya_payloads), (ya_table, ya_nodeType, ya_valueNode, ya_valueNumber, ya_value, ya_from, ya_limit, ya_inside, ya_sizes)), rfl, rfl, hD, hl, hH, ⟨Nat.zero_le _, hO.2⟩, hQ, hX, hS, hq, hT, hK, hF, hM⟩
end
end
section
/-! J: how the reference reads: numbers, skips, places -/
section
variable {yf_down yf_heads yf_paid yf_payload yf_wants yf_name yf_first yf_counts yf_enters yf_most yf_many yf_sent yf_last yf_nodes yf_values yf_skipped yf_pos yf_there yf_number yf_at : Int32} {ya_kind ya_repeated ya_how ya_code ya_coming ya_going ya_type ya_headers ya_header ya_queued ya_otherEnded ya_ended ya_finishing ya_queue ya_prefix ya_length ya_got ya_high ya_whole ya_has ya_bytes ya_frame ya_payloads ya_table ya_out ya_nodeType ya_valueNode ya_valueNumber ya_value ya_from ya_limit ya_inside ya_sizes : Nat → Int32} {s q e T : Nat} {tx B : Nat → Nat}
def yr_c (c : Nat) : Int32 := if c = 9 then -1 else nI c
theorem yr_ix (s i : Nat) : 200 * nI s + nI i = nI (200 * s + i) := by
  rw [show (200 : Int32) = nI 200 from rfl, pk_mul, nI_add]
/-- the bytes of one stream -/
def yr_B (tx : Nat → Nat) (s : Nat) (B : Nat → Nat) : Prop := cr_B tx ∧ (∀ i, B i < 256) ∧ ∀ i, i < 200 → B i = tx (200 * s + i)
theorem yr_by {i : Nat} (hx : yr_B tx s B) (hs : s < 8) (hi : i < 200) : vp_in (200 * nI s + nI i) 1600 ∧ (an_g tx (200 * nI s + nI i).toNatClampNeg) &&& 255 = nI (B i) := by
  rw [yr_ix]
  refine ⟨vp_in_nI (by omega) (by omega), ?_⟩
  rw [nI_clamp (by omega), an_ga, an_255 _ (hx.1 _), hx.2.2 i hi]
theorem yr_var7 (hx : yr_B tx s B) (hs : s < 8) (hT : T ≤ 200) (he : e ≤ 200) {post : Int32 → SY → Prop} : ∀ f k, k + f = 10 → q + k ≤ T →
    (∀ c k', pm_vr B q e T f k = (c, k') → post (yr_c c) (yf_down, yf_heads, yf_paid, yf_payload, yf_wants, yf_name, yf_first, yf_counts, yf_enters, yf_most, yf_many, yf_sent, yf_last, yf_nodes, yf_values, yf_skipped, nI (q + k'), nI T, pm_vs B q k', yf_at, ya_kind, ya_repeated, ya_how, ya_code, ya_coming, ya_going, ya_type, ya_headers, ya_header, ya_queued, ya_otherEnded, ya_ended, ya_finishing, ya_queue, ya_prefix, ya_length, ya_got, ya_high, ya_whole, ya_has, an_g tx, ya_frame, ya_payloads, ya_table, ya_out, ya_nodeType, ya_valueNode, ya_valueNumber, ya_value, ya_from, ya_limit, ya_inside, ya_sizes)) →
    wY_varint_7 post (nI s) (nI e) yf_down yf_heads yf_paid yf_payload yf_wants yf_name yf_first yf_counts yf_enters yf_most yf_many yf_sent yf_last yf_nodes yf_values yf_skipped (nI T) yf_at ya_kind ya_repeated ya_how ya_code ya_coming ya_going ya_type ya_headers ya_header ya_queued ya_otherEnded ya_ended ya_finishing ya_queue ya_prefix ya_length ya_got ya_high ya_whole ya_has (an_g tx) ya_frame ya_payloads ya_table ya_out ya_nodeType ya_valueNode ya_valueNumber ya_value ya_from ya_limit ya_inside ya_sizes (f + 1) (nI k) (nI (q + k)) (pm_vs B q k)
  | 0, k, hk, hq, H => by
    have : k = 10 := by omega
    subst this
    rw [wY_varint_7]
    exact br_t (by decide) (H 3 10 rfl)
  | f + 1, k, hk, hq, H => by
    rw [wY_varint_7]
    refine pk_le 10 k (fun g => absurd g (by omega)) (fun g => ?_)
    refine pk_eq (q + k) e (fun g1 => H 4 k (by rw [pm_vr, if_pos g1])) (fun g1 => ?_)
    refine pk_eq (q + k) T (fun g2 => H 9 k (by rw [pm_vr, if_neg g1, if_pos g2])) (fun g2 => ?_)
    obtain ⟨b1, b2⟩ := yr_by (i := q + k) hx hs (by omega)
    have hb := hx.2.1 (q + k)
    refine nm_r (nI_1 _) ⟨b1, nm_r b2 ?_⟩
    have hv : ∀ (fn : Int32), fn = pm_vs B q (k + 1) →
        wY_varint_88 post (wY_varint_7 post (nI s) (nI e) yf_down yf_heads yf_paid yf_payload yf_wants yf_name yf_first yf_counts yf_enters yf_most yf_many yf_sent yf_last yf_nodes yf_values yf_skipped (nI T) yf_at ya_kind ya_repeated ya_how ya_code ya_coming ya_going ya_type ya_headers ya_header ya_queued ya_otherEnded ya_ended ya_finishing ya_queue ya_prefix ya_length ya_got ya_high ya_whole ya_has (an_g tx) ya_frame ya_payloads ya_table ya_out ya_nodeType ya_valueNode ya_valueNumber ya_value ya_from ya_limit ya_inside ya_sizes (f + 1)) (nI s) (nI e) (nI k) (nI (B (q + k)))
          yf_down yf_heads yf_paid yf_payload yf_wants yf_name yf_first yf_counts yf_enters yf_most yf_many yf_sent yf_last yf_nodes yf_values yf_skipped (nI (q + k + 1)) (nI T) (fn) yf_at ya_kind ya_repeated ya_how ya_code ya_coming ya_going ya_type ya_headers ya_header ya_queued ya_otherEnded ya_ended ya_finishing ya_queue ya_prefix ya_length ya_got ya_high ya_whole ya_has (an_g tx) ya_frame ya_payloads ya_table ya_out ya_nodeType ya_valueNode ya_valueNumber ya_value ya_from ya_limit ya_inside ya_sizes := by
      intro fn hfn
      subst hfn
      unfold wY_varint_88
      refine pk_le 128 (B (q + k)) (fun g3 => ?_) (fun g3 => ?_)
      · refine nm_r (nI_1 _) ?_
        exact yr_var7 hx hs hT he f (k + 1) (by omega) (by omega) (fun c k' h => H c k' (by
          rw [pm_vr, if_neg g1, if_neg g2, if_neg (by show ¬ B (q + k) < 128; omega)]; exact h))
      · exact H 0 (k + 1) (by
          rw [pm_vr, if_neg g1, if_neg g2, if_pos (show B (q + k) < 128 from g3)])
    refine pk_le 5 k (fun g3 => hv _ ?_) (fun g3 => nm_r ?_ (hv _ rfl))
    · rw [pm_vs, if_neg (by omega)]
    · rw [pm_vs, if_pos g3]
theorem yr_var (hx : yr_B tx s B) (hs : s < 8) (hT : T ≤ 200) (he : e ≤ 200) (hq : q ≤ T) {post : Int32 → SY → Prop}
    (H : ∀ c k', pm_vr B q e T 10 0 = (c, k') → post (yr_c c) (yf_down, yf_heads, yf_paid, yf_payload, yf_wants, yf_name, yf_first, yf_counts, yf_enters, yf_most, yf_many, yf_sent, yf_last, yf_nodes, yf_values, yf_skipped, nI (q + k'), nI T, pm_vs B q k', yf_at, ya_kind, ya_repeated, ya_how, ya_code, ya_coming, ya_going, ya_type, ya_headers, ya_header, ya_queued, ya_otherEnded, ya_ended, ya_finishing, ya_queue, ya_prefix, ya_length, ya_got, ya_high, ya_whole, ya_has, an_g tx, ya_frame, ya_payloads, ya_table, ya_out, ya_nodeType, ya_valueNode, ya_valueNumber, ya_value, ya_from, ya_limit, ya_inside, ya_sizes)) :
    wpY_varint post (yf_down, yf_heads, yf_paid, yf_payload, yf_wants, yf_name, yf_first, yf_counts, yf_enters, yf_most, yf_many, yf_sent, yf_last, yf_nodes, yf_values, yf_skipped, nI q, nI T, yf_number, yf_at, ya_kind, ya_repeated, ya_how, ya_code, ya_coming, ya_going, ya_type, ya_headers, ya_header, ya_queued, ya_otherEnded, ya_ended, ya_finishing, ya_queue, ya_prefix, ya_length, ya_got, ya_high, ya_whole, ya_has, an_g tx, ya_frame, ya_payloads, ya_table, ya_out, ya_nodeType, ya_valueNode, ya_valueNumber, ya_value, ya_from, ya_limit, ya_inside, ya_sizes) (nI s) (nI e) := by
  unfold wpY_varint
  exact ⟨11, yr_var7 hx hs hT he 10 0 rfl hq H⟩
theorem yr_skip {n : Nat} (he : e ≤ 200) (hT : T ≤ 200) (hq : q ≤ T) (hqe : q ≤ e) (hn : n < 2 ^ 31) {post : Int32 → SY → Prop}
    (H1 : e < q + n → T < e → post (-1) (yf_down, yf_heads, yf_paid, yf_payload, yf_wants, yf_name, yf_first, yf_counts, yf_enters, yf_most, yf_many, yf_sent, yf_last, yf_nodes, yf_values, yf_skipped, nI q, nI T, yf_number, yf_at, ya_kind, ya_repeated, ya_how, ya_code, ya_coming, ya_going, ya_type, ya_headers, ya_header, ya_queued, ya_otherEnded, ya_ended, ya_finishing, ya_queue, ya_prefix, ya_length, ya_got, ya_high, ya_whole, ya_has, ya_bytes, ya_frame, ya_payloads, ya_table, ya_out, ya_nodeType, ya_valueNode, ya_valueNumber, ya_value, ya_from, ya_limit, ya_inside, ya_sizes)) (H2 : e < q + n → e ≤ T → post 4 (yf_down, yf_heads, yf_paid, yf_payload, yf_wants, yf_name, yf_first, yf_counts, yf_enters, yf_most, yf_many, yf_sent, yf_last, yf_nodes, yf_values, yf_skipped, nI q, nI T, yf_number, yf_at, ya_kind, ya_repeated, ya_how, ya_code, ya_coming, ya_going, ya_type, ya_headers, ya_header, ya_queued, ya_otherEnded, ya_ended, ya_finishing, ya_queue, ya_prefix, ya_length, ya_got, ya_high, ya_whole, ya_has, ya_bytes, ya_frame, ya_payloads, ya_table, ya_out, ya_nodeType, ya_valueNode, ya_valueNumber, ya_value, ya_from, ya_limit, ya_inside, ya_sizes))
    (H3 : q + n ≤ e → T < q + n → post (-1) (yf_down, yf_heads, yf_paid, yf_payload, yf_wants, yf_name, yf_first, yf_counts, yf_enters, yf_most, yf_many, yf_sent, yf_last, yf_nodes, yf_values, yf_skipped, nI q, nI T, yf_number, yf_at, ya_kind, ya_repeated, ya_how, ya_code, ya_coming, ya_going, ya_type, ya_headers, ya_header, ya_queued, ya_otherEnded, ya_ended, ya_finishing, ya_queue, ya_prefix, ya_length, ya_got, ya_high, ya_whole, ya_has, ya_bytes, ya_frame, ya_payloads, ya_table, ya_out, ya_nodeType, ya_valueNode, ya_valueNumber, ya_value, ya_from, ya_limit, ya_inside, ya_sizes)) (H4 : q + n ≤ e → q + n ≤ T → post 0 (yf_down, yf_heads, yf_paid, yf_payload, yf_wants, yf_name, yf_first, yf_counts, yf_enters, yf_most, yf_many, yf_sent, yf_last, yf_nodes, yf_values, yf_skipped, nI (q + n), nI T, yf_number, yf_at, ya_kind, ya_repeated, ya_how, ya_code, ya_coming, ya_going, ya_type, ya_headers, ya_header, ya_queued, ya_otherEnded, ya_ended, ya_finishing, ya_queue, ya_prefix, ya_length, ya_got, ya_high, ya_whole, ya_has, ya_bytes, ya_frame, ya_payloads, ya_table, ya_out, ya_nodeType, ya_valueNode, ya_valueNumber, ya_value, ya_from, ya_limit, ya_inside, ya_sizes)) :
    wpY_skip post (yf_down, yf_heads, yf_paid, yf_payload, yf_wants, yf_name, yf_first, yf_counts, yf_enters, yf_most, yf_many, yf_sent, yf_last, yf_nodes, yf_values, yf_skipped, nI q, nI T, yf_number, yf_at, ya_kind, ya_repeated, ya_how, ya_code, ya_coming, ya_going, ya_type, ya_headers, ya_header, ya_queued, ya_otherEnded, ya_ended, ya_finishing, ya_queue, ya_prefix, ya_length, ya_got, ya_high, ya_whole, ya_has, ya_bytes, ya_frame, ya_payloads, ya_table, ya_out, ya_nodeType, ya_valueNode, ya_valueNumber, ya_value, ya_from, ya_limit, ya_inside, ya_sizes) (nI n) (nI e) := by
  unfold wpY_skip
  refine pk_le n (e - q) (fun g => ?_) (fun g => ?_) rfl (pk_sub hqe)
  · refine pk_le n (T - q) (fun g2 => ?_) (fun g2 => ?_) rfl (pk_sub hq)
    · exact nm_r (nI_add _ _) (H4 (by omega) (by omega))
    · exact H3 (by omega) (by omega)
  · refine pk_lt T e (fun g2 => ?_) (fun g2 => ?_)
    · exact H1 (by omega) g2
    · exact H2 (by omega) g2

/-- the reference's arrays, as far as a reading has filled them -/
def yr_D (D : pm_D) (nt vn vm va fr : Nat → Int32) : Prop :=
  (∀ i, i < pm_nn D → nt i = nI (pm_nt D i)) ∧ (∀ j, j < pm_nv D → vn j = nI (pm_vn D j) ∧ vm j = nI (pm_vm D j) ∧ va j = pm_va D j ∧ fr j = nI (pm_fr D j))
theorem yr_find2 {D : pm_D} {a n : Nat} (hD : yr_D D ya_nodeType ya_valueNode ya_valueNumber ya_value ya_from) (hv : pm_nv D ≤ 48)
    (hb : ∀ j, j < pm_nv D → pm_vn D j < 2 ^ 31 ∧ pm_vm D j < 2 ^ 31) (ha : a < 2 ^ 31) (hn : n < 2 ^ 31) {post : Int32 → Prop} : ∀ f i, i + f = pm_nv D →
    (post (if pm_fi (pm_vn D) (pm_vm D) a n f i < pm_nv D then nI (pm_fi (pm_vn D) (pm_vm D) a n f i) else -1)) →
    wY_find_2 post (nI a) (nI n) yf_down yf_heads yf_paid yf_payload yf_wants yf_name yf_first yf_counts yf_enters yf_most yf_many yf_sent yf_last yf_nodes (nI (pm_nv D)) yf_skipped yf_pos yf_there yf_number yf_at ya_kind ya_repeated ya_how ya_code ya_coming ya_going ya_type ya_headers ya_header ya_queued ya_otherEnded ya_ended ya_finishing ya_queue ya_prefix ya_length ya_got ya_high ya_whole ya_has ya_bytes ya_frame ya_payloads ya_table ya_out ya_nodeType ya_valueNode ya_valueNumber ya_value ya_from ya_limit ya_inside ya_sizes (f + 1) (nI i)
  | 0, i, hi, H => by
    rw [wY_find_2]
    rw [pm_fi, if_neg (by omega)] at H
    exact pk_le (pm_nv D) i (fun _ => H) (fun g => absurd g (by omega))
  | f + 1, i, hi, H => by
    rw [wY_find_2]
    refine pk_le (pm_nv D) i (fun g => absurd g (by omega)) (fun g => ⟨vp_in_nI (by omega) (by omega), ?_⟩)
    obtain ⟨e1, e2, _, _⟩ := hD.2 i g
    obtain ⟨b1, b2⟩ := hb i g
    rw [nI_clamp (by omega), e1, e2]
    rw [pm_fi] at H
    refine pk_eq (pm_vn D i) a (fun g1 => ⟨vp_in_nI (by omega) (by omega), ?_⟩) (fun g1 => ?_)
    · refine pk_eq (pm_vm D i) n (fun g2 => ?_) (fun g2 => ?_)
      · rw [if_pos (show pm_vn D i = a ∧ pm_vm D i = n from ⟨g1, g2⟩), if_pos g] at H; exact H
      · rw [if_neg (show ¬ (pm_vn D i = a ∧ pm_vm D i = n) from fun y => g2 y.2)] at H
        exact nm_r (nI_1 _) (yr_find2 hD hv hb ha hn f (i + 1) (by omega) H)
    · rw [if_neg (show ¬ (pm_vn D i = a ∧ pm_vm D i = n) from fun y => g1 y.1)] at H
      exact nm_r (nI_1 _) (yr_find2 hD hv hb ha hn f (i + 1) (by omega) H)
theorem yr_find {D : pm_D} {a n : Nat} (hD : yr_D D ya_nodeType ya_valueNode ya_valueNumber ya_value ya_from) (hv : pm_nv D ≤ 48)
    (hb : ∀ j, j < pm_nv D → pm_vn D j < 2 ^ 31 ∧ pm_vm D j < 2 ^ 31) (ha : a < 2 ^ 31) (hn : n < 2 ^ 31) {post : Int32 → Prop}
    (H : post (if pm_ix D a n < pm_nv D then nI (pm_ix D a n) else -1)) : wpY_find post (yf_down, yf_heads, yf_paid, yf_payload, yf_wants, yf_name, yf_first, yf_counts, yf_enters, yf_most, yf_many, yf_sent, yf_last, yf_nodes, nI (pm_nv D), yf_skipped, yf_pos, yf_there, yf_number, yf_at, ya_kind, ya_repeated, ya_how, ya_code, ya_coming, ya_going, ya_type, ya_headers, ya_header, ya_queued, ya_otherEnded, ya_ended, ya_finishing, ya_queue, ya_prefix, ya_length, ya_got, ya_high, ya_whole, ya_has, ya_bytes, ya_frame, ya_payloads, ya_table, ya_out, ya_nodeType, ya_valueNode, ya_valueNumber, ya_value, ya_from, ya_limit, ya_inside, ya_sizes) (nI a) (nI n) := by
  unfold wpY_find
  exact ⟨pm_nv D + 1, yr_find2 hD hv hb ha hn (pm_nv D) 0 (by omega) H⟩
end
section
variable {yf_down yf_heads yf_paid yf_payload yf_wants yf_name yf_first yf_counts yf_enters yf_most yf_many yf_sent yf_last yf_nodes yf_values yf_skipped yf_pos yf_there yf_number yf_at : Int32} {ya_kind ya_repeated ya_how ya_code ya_coming ya_going ya_type ya_headers ya_header ya_queued ya_otherEnded ya_ended ya_finishing ya_queue ya_prefix ya_length ya_got ya_high ya_whole ya_has ya_bytes ya_frame ya_payloads ya_table ya_out ya_nodeType ya_valueNode ya_valueNumber ya_value ya_from ya_limit ya_inside ya_sizes : Nat → Int32} {s q e T : Nat} {tx B : Nat → Nat} {K : Nat → Nat} {R : Nat → Bool} {L : Nat} {dep : Nat → Nat}
theorem yr_D_kp {D : pm_D} {a n st : Nat} {v : Int32} (h : yr_D D ya_nodeType ya_valueNode ya_valueNumber ya_value ya_from) :
    yr_D (pm_kp R D a n v st) ya_nodeType (upd ya_valueNode (pm_pl R D a n) (nI a)) (upd ya_valueNumber (pm_pl R D a n) (nI n)) (upd ya_value (pm_pl R D a n) v) (upd ya_from (pm_pl R D a n) (nI st)) := by
  have hle := pm_pl_le (R := R) (D := D) a n
  refine ⟨h.1, fun j hj => ?_⟩
  simp only [pm_kp_nn, pm_kp_nt, pm_kp_nv, pm_kp_vn, pm_kp_vm, pm_kp_fr, pm_kp_va] at hj ⊢
  generalize pm_pl R D a n = k at hj hle ⊢
  by_cases g : j = k
  · subst g
    simp only [pm_upd_eq, pm_us, if_pos]
    exact ⟨trivial, trivial, trivial, trivial⟩
  · have := h.2 j (by split at hj <;> omega)
    simp only [pm_upd_eq, if_neg g, pm_un g]
    exact this
/-- bounds of what a reading keeps -/
theorem yr_DB {D : pm_D} (I : pm_DI K L dep D) : ∀ j, j < pm_nv D → pm_vn D j < 2 ^ 31 ∧ pm_vm D j < 2 ^ 31 := by
  intro j hj
  obtain ⟨v1, v2, v3, _⟩ := I.2.2.2.2.2.1 j hj
  have := I.2.1
  exact ⟨by omega, by omega⟩
theorem yr_keep {D : pm_D} {b a n st : Nat} {v : Int32} (I : pm_DI K L dep D) (hD : yr_D D ya_nodeType ya_valueNode ya_valueNumber ya_value ya_from) (hK : cr_K ya_kind ya_repeated K R)
    (hb : b < 5) (ha : ya_inside b = nI a) (ha' : a < pm_nn D) (hn : 1 ≤ n) (hn' : n ≤ 15) {post : Int32 → SY → Prop}
    (H5 : pm_pl R D a n = 48 → post 5 (yf_down, yf_heads, yf_paid, yf_payload, yf_wants, yf_name, yf_first, yf_counts, yf_enters, yf_most, yf_many, yf_sent, yf_last, yf_nodes, nI (pm_nv D), yf_skipped, yf_pos, yf_there, yf_number, nI b, ya_kind, ya_repeated, ya_how, ya_code, ya_coming, ya_going, ya_type, ya_headers, ya_header, ya_queued, ya_otherEnded, ya_ended, ya_finishing, ya_queue, ya_prefix, ya_length, ya_got, ya_high, ya_whole, ya_has, ya_bytes, ya_frame, ya_payloads, ya_table, ya_out, ya_nodeType, ya_valueNode, ya_valueNumber, ya_value, ya_from, ya_limit, ya_inside, ya_sizes))
    (H0 : pm_pl R D a n ≠ 48 → post 0 (yf_down, yf_heads, yf_paid, yf_payload, yf_wants, yf_name, yf_first, yf_counts, yf_enters, yf_most, yf_many, yf_sent, yf_last, yf_nodes, nI (pm_nv (pm_kp R D a n v st)), yf_skipped, yf_pos, yf_there, yf_number, nI b, ya_kind, ya_repeated, ya_how, ya_code, ya_coming, ya_going, ya_type, ya_headers, ya_header, ya_queued, ya_otherEnded, ya_ended, ya_finishing, ya_queue, ya_prefix, ya_length, ya_got, ya_high, ya_whole, ya_has, ya_bytes, ya_frame, ya_payloads, ya_table, ya_out, ya_nodeType, upd ya_valueNode (pm_pl R D a n) (nI a), upd ya_valueNumber (pm_pl R D a n) (nI n), upd ya_value (pm_pl R D a n) v, upd ya_from (pm_pl R D a n) (nI st), ya_limit, ya_inside, ya_sizes)) :
    wpY_keep post (yf_down, yf_heads, yf_paid, yf_payload, yf_wants, yf_name, yf_first, yf_counts, yf_enters, yf_most, yf_many, yf_sent, yf_last, yf_nodes, nI (pm_nv D), yf_skipped, yf_pos, yf_there, yf_number, nI b, ya_kind, ya_repeated, ya_how, ya_code, ya_coming, ya_going, ya_type, ya_headers, ya_header, ya_queued, ya_otherEnded, ya_ended, ya_finishing, ya_queue, ya_prefix, ya_length, ya_got, ya_high, ya_whole, ya_has, ya_bytes, ya_frame, ya_payloads, ya_table, ya_out, ya_nodeType, ya_valueNode, ya_valueNumber, ya_value, ya_from, ya_limit, ya_inside, ya_sizes) (nI n) v (nI st) := by
  unfold wpY_keep
  have hnv := I.2.2.1
  have hnn := I.2.1
  have hty := (I.2.2.2.2.1 a ha').1
  have hle := pm_pl_le (R := R) (D := D) a n
  have ej : 16 * nI (pm_nt D a) + nI n = nI (16 * pm_nt D a + n) := by
    rw [show (16 : Int32) = nI 16 from rfl, pk_mul, nI_add]
  have hR := hK.2.2 (16 * pm_nt D a + n) (by omega)
  have h81 : ∀ (zz : Int32), pm_pl R D a n < 48 → zz = nI (pm_pl R D a n) → wY_keep_81 post (nI n) v (nI st) (nI a) zz yf_down yf_heads yf_paid yf_payload yf_wants yf_name yf_first yf_counts yf_enters yf_most yf_many yf_sent yf_last yf_nodes (nI (pm_nv (pm_kp R D a n v st))) yf_skipped yf_pos yf_there yf_number (nI b) ya_kind ya_repeated ya_how ya_code ya_coming ya_going ya_type ya_headers ya_header ya_queued ya_otherEnded ya_ended ya_finishing ya_queue ya_prefix ya_length ya_got ya_high ya_whole ya_has ya_bytes ya_frame ya_payloads ya_table ya_out ya_nodeType ya_valueNode ya_valueNumber ya_value ya_from ya_limit ya_inside ya_sizes := by
    intro zz h48 hz
    subst hz
    unfold wY_keep_81
    have hi : vp_in (nI (pm_pl R D a n)) 48 := vp_in_nI h48 (by omega)
    have hc : (nI (pm_pl R D a n)).toNatClampNeg = pm_pl R D a n := nI_clamp (by omega)
    rw [hc]
    exact ⟨hi, nm_e ⟨hi, nm_e ⟨hi, nm_e ⟨hi, nm_e (H0 (by omega))⟩⟩⟩⟩
  have h60 : pm_pl R D a n = pm_nv D → pm_nv D ≠ 48 → wY_keep_60 post (nI n) v (nI st) (nI a) (-1) yf_down yf_heads yf_paid yf_payload yf_wants yf_name yf_first yf_counts yf_enters yf_most yf_many yf_sent yf_last yf_nodes (nI (pm_nv D)) yf_skipped yf_pos yf_there yf_number (nI b) ya_kind ya_repeated ya_how ya_code ya_coming ya_going ya_type ya_headers ya_header ya_queued ya_otherEnded ya_ended ya_finishing ya_queue ya_prefix ya_length ya_got ya_high ya_whole ya_has ya_bytes ya_frame ya_payloads ya_table ya_out ya_nodeType ya_valueNode ya_valueNumber ya_value ya_from ya_limit ya_inside ya_sizes := by
    intro h1 h2
    unfold wY_keep_60
    refine br_f (by decide) (nm_r (e' := nI (pm_nv (pm_kp R D a n v st))) ?_ (h81 _ (by omega) (by rw [h1])))
    rw [nI_1]
    simp only [pm_kp_nn, pm_kp_nt, pm_kp_nv, pm_kp_vn, pm_kp_vm, pm_kp_fr, pm_kp_va]
    rw [if_pos h1]
  have h42 : pm_pl R D a n = pm_nv D → wY_keep_42 post (nI n) v (nI st) (nI a) (-1) yf_down yf_heads yf_paid yf_payload yf_wants yf_name yf_first yf_counts yf_enters yf_most yf_many yf_sent yf_last yf_nodes (nI (pm_nv D)) yf_skipped yf_pos yf_there yf_number (nI b) ya_kind ya_repeated ya_how ya_code ya_coming ya_going ya_type ya_headers ya_header ya_queued ya_otherEnded ya_ended ya_finishing ya_queue ya_prefix ya_length ya_got ya_high ya_whole ya_has ya_bytes ya_frame ya_payloads ya_table ya_out ya_nodeType ya_valueNode ya_valueNumber ya_value ya_from ya_limit ya_inside ya_sizes := by
    intro h1
    unfold wY_keep_42
    refine br_f (by decide) (pk_eq (pm_nv D) 48 (fun g => H5 (by omega)) (fun g => h60 h1 g))
  refine ⟨vp_in_nI hb (by omega), nm_r (by rw [nI_clamp (by omega), ha]) ⟨vp_in_nI (by omega) (by omega), ?_⟩⟩
  rw [nI_clamp (by omega), hD.1 a ha', ej, nI_clamp (by omega), hR]
  refine ⟨vp_in_nI (by omega) (by omega), ?_⟩
  by_cases hr : R (16 * pm_nt D a + n) = true
  · rw [if_pos hr]
    refine br_f (by decide) (h42 ?_)
    unfold pm_pl; rw [if_pos hr]
  · rw [if_neg hr]
    refine br_t rfl (yr_find hD hnv (yr_DB I) (by omega) (by omega) ?_)
    have epl : pm_pl R D a n = pm_ix D a n := by
      unfold pm_pl; rw [if_neg hr]
    rw [epl] at h81 h60 h42 hle
    by_cases g : pm_ix D a n < pm_nv D
    · rw [if_pos g]
      have h0 : (0 : Int32) ≤ nI (pm_ix D a n) := nI_pos' (by omega)
      unfold wY_keep_42
      refine br_t h0 ?_
      unfold wY_keep_60
      refine br_t h0 ?_
      have := h81 _ (by omega) rfl
      have e2 : pm_nv (pm_kp R D a n v st) = pm_nv D := by
        simp only [pm_kp_nn, pm_kp_nt, pm_kp_nv, pm_kp_vn, pm_kp_vm, pm_kp_fr, pm_kp_va]
        rw [epl, if_neg (by omega)]
      rw [e2] at this
      exact this
    · rw [if_neg g]
      exact h42 (by omega)
end
end
section
/-! K: how the reference reads an element -/
section
/-- nodes, values, skipped, pos, number, at, and the arrays of a reading -/
abbrev yr_Z : Type := Int32 × Int32 × Int32 × Int32 × Int32 × Int32 × (Nat → Int32) × (Nat → Int32) × (Nat → Int32) × (Nat → Int32) × (Nat → Int32) × (Nat → Int32) × (Nat → Int32)
def yr_ok (c : pm_C) (q : Nat) (z : yr_Z) : Prop :=
  z.1 = nI (pm_nn (pm_d c)) ∧ z.2.1 = nI (pm_nv (pm_d c)) ∧ z.2.2.1 = nI (pm_sk c) ∧ z.2.2.2.1 = nI q ∧ z.2.2.2.2.2.1 = nI (pm_at c) ∧
  yr_D (pm_d c) z.2.2.2.2.2.2.1 z.2.2.2.2.2.2.2.1 z.2.2.2.2.2.2.2.2.1 z.2.2.2.2.2.2.2.2.2.1 z.2.2.2.2.2.2.2.2.2.2.1 ∧
  (∀ i, i ≤ pm_at c → z.2.2.2.2.2.2.2.2.2.2.2.1 i = nI (pm_lim c i) ∧ z.2.2.2.2.2.2.2.2.2.2.2.2 i = nI (pm_ins c i))
theorem yr_bt {x i : Nat} (hx : x < 256) (hi : 8 ≤ i) : bt (nI x) i = false := by
  unfold bt
  show (BitVec.ofNat 32 x).getLsbD i = false
  rw [BitVec.getLsbD_ofNat, Nat.testBit_lt_two_pow (Nat.lt_of_lt_of_le hx (by have := Nat.pow_le_pow_right (show 0 < 2 by omega) hi; omega))]
  simp
theorem yr_fs {B : Nat → Nat} {q : Nat} (hB : ∀ i, B i < 256) :
    ((((((((0 : Int32) <<< ((8 : Int32) &&& 31)) ||| nI (B (q + 3))) <<< ((8 : Int32) &&& 31)) ||| nI (B (q + 2))) <<< ((8 : Int32) &&& 31)) ||| nI (B (q + 1))) <<< ((8 : Int32) &&& 31)) ||| nI (B (q + 0)) = pm_fs B q 4 := by
  have e : pm_fs B q 4 = (((0 ||| (nI (B (q + 0)) <<< (nI 0 &&& 31))) ||| (nI (B (q + 1)) <<< (nI 8 &&& 31))) ||| (nI (B (q + 2)) <<< (nI 16 &&& 31))) ||| (nI (B (q + 3)) <<< (nI 24 &&& 31)) := rfl
  rw [e]
  apply b_ext
  intro i hi
  have h0 : ∀ j, 8 ≤ j → bt (nI (B (q + 0))) j = false := fun j hj => yr_bt (hB _) hj
  have h1 : ∀ j, 8 ≤ j → bt (nI (B (q + 1))) j = false := fun j hj => yr_bt (hB _) hj
  have h2 : ∀ j, 8 ≤ j → bt (nI (B (q + 2))) j = false := fun j hj => yr_bt (hB _) hj
  have h3 : ∀ j, 8 ≤ j → bt (nI (B (q + 3))) j = false := fun j hj => yr_bt (hB _) hj
  generalize nI (B (q + 0)) = b0 at *
  generalize nI (B (q + 1)) = b1 at *
  generalize nI (B (q + 2)) = b2 at *
  generalize nI (B (q + 3)) = b3 at *
  rw [b_or, b_or, b_or, b_or, b_or, b_shl 24 (by omega) _ hi, b_shl 16 (by omega) _ hi, b_shl 8 (by omega) _ hi, b_shl 0 (by omega) _ hi, b_shl8 _ hi]
  rw [b_or, b_0, b_shl8 _ (show i - 8 < 32 by omega), b_or, b_shl8 _ (show i - 8 - 8 < 32 by omega), b_or, b_shl8 _ (show i - 8 - 8 - 8 < 32 by omega), b_0]
  have d : ∀ (p : Prop) [Decidable p], p → decide p = true := fun p _ h => by simp [h]
  have f : ∀ (p : Prop) [Decidable p], ¬ p → decide p = false := fun p _ h => by simp [h]
  by_cases g1 : i < 8
  · rw [f (8 ≤ i) (by omega), f (16 ≤ i) (by omega), f (24 ≤ i) (by omega), d (0 ≤ i) (by omega)]; simp
  by_cases g2 : i < 16
  · rw [d (8 ≤ i) (by omega), f (16 ≤ i) (by omega), f (24 ≤ i) (by omega), d (0 ≤ i) (by omega), f (8 ≤ i - 8) (by omega), h0 i (by omega), h0 (i - 0) (by omega)]; simp
  by_cases g3 : i < 24
  · rw [d (8 ≤ i) (by omega), d (16 ≤ i) (by omega), f (24 ≤ i) (by omega), d (0 ≤ i) (by omega), d (8 ≤ i - 8) (by omega), f (8 ≤ i - 8 - 8) (by omega), h0 i (by omega), h0 (i - 0) (by omega), h1 (i - 8) (by omega)]
    simp [show i - 8 - 8 = i - 16 by omega]
  · rw [d (8 ≤ i) (by omega), d (16 ≤ i) (by omega), d (24 ≤ i) (by omega), d (0 ≤ i) (by omega), d (8 ≤ i - 8) (by omega), d (8 ≤ i - 8 - 8) (by omega), h0 i (by omega), h0 (i - 0) (by omega), h1 (i - 8) (by omega), h2 (i - 8 - 8) (by omega), h2 (i - 16) (by omega)]
    simp [show i - 8 - 8 - 8 = i - 24 by omega]
theorem yr_k : ∀ k, k ≤ 8 → (nI k + (-1) = 2 ↔ k = 3) ∧ (nI k + (-1) = 1 ↔ k = 2) ∧ (nI k + (-1) < 0 ↔ k = 0) ∧ (3 ≤ nI k + (-1) ↔ 4 ≤ k) ∧ (nI k + (-1) ≤ 3 ↔ k ≤ 4) ∧ (nI k + (-1) = 3 ↔ k = 4) ∧ (4 < k → nI k + (-1) - 4 = nI (k - 5)) := by
  decide +kernel

theorem yr_ne : ∀ x, x ≤ 9 → x ≠ 0 → ¬ yr_c x = 0 := by
  unfold yr_c
  decide +kernel
theorem pm_vr_lt {B : Nat → Nat} {p e T : Nat} : ∀ f k, (pm_vr B p e T f k).1 ≤ 9
  | 0, k => by show 3 ≤ 9; omega
  | f + 1, k => by
    rw [pm_vr]
    split
    · show 4 ≤ 9; omega
    split
    · show 9 ≤ 9; omega
    split
    · show 0 ≤ 9; omega
    · exact pm_vr_lt f (k + 1)
variable {yf_down yf_heads yf_paid yf_payload yf_wants yf_name yf_first yf_counts yf_enters yf_most yf_many yf_sent yf_last yf_nodes yf_values yf_skipped yf_pos yf_there yf_number yf_at : Int32} {ya_kind ya_repeated ya_how ya_code ya_coming ya_going ya_type ya_headers ya_header ya_queued ya_otherEnded ya_ended ya_finishing ya_queue ya_prefix ya_length ya_got ya_high ya_whole ya_has ya_bytes ya_frame ya_payloads ya_table ya_out ya_nodeType ya_valueNode ya_valueNumber ya_value ya_from ya_limit ya_inside ya_sizes : Nat → Int32} {s q e T : Nat} {tx B : Nat → Nat} {K : Nat → Nat} {R : Nat → Bool} {L : Nat} {dep : Nat → Nat} {c : pm_C} {z : yr_Z}
theorem pm_end_le (I : pm_CI K R L dep c) : pm_end c ≤ L := by
  have h := pm_lim_le I (pm_at c) (Nat.le_refl _)
  unfold pm_end
  split
  · exact h
  · rename_i g
    exact Nat.le_trans (I.2.2.2.2.2.2.2 g).1 h
/-- a value is kept, at the end of an element -/
theorem yr_kept {n p : Nat} {g : Nat × pm_C} {v : Int32} {st : Nat} {x5 : Int32} {a1 a2 a3 a4 a5 a6 a7 : Nat → Int32} (I : pm_CI K R L dep c) (hK : cr_K ya_kind ya_repeated K R)
    (rD : yr_D (pm_d c) a1 a2 a3 a4 a5) (rA : ∀ i, i ≤ pm_at c → a6 i = nI (pm_lim c i) ∧ a7 i = nI (pm_ins c i))
    (hn : 1 ≤ n) (hn' : n ≤ 15) (hg : g = pm_fin R c n p v st) {post : Int32 → SY → Prop}
    (H0 : ∀ c' (z' : yr_Z), g = (0, c') → yr_ok c' (pm_pos c') z' → post 0 (yf_down, yf_heads, yf_paid, yf_payload, yf_wants, yf_name, yf_first, yf_counts, yf_enters, yf_most, yf_many, yf_sent, yf_last, z'.1, z'.2.1, z'.2.2.1, z'.2.2.2.1, nI T, z'.2.2.2.2.1, z'.2.2.2.2.2.1, ya_kind, ya_repeated, ya_how, ya_code, ya_coming, ya_going, ya_type, ya_headers, ya_header, ya_queued, ya_otherEnded, ya_ended, ya_finishing, ya_queue, ya_prefix, ya_length, ya_got, ya_high, ya_whole, ya_has, an_g tx, ya_frame, ya_payloads, ya_table, ya_out, z'.2.2.2.2.2.2.1, z'.2.2.2.2.2.2.2.1, z'.2.2.2.2.2.2.2.2.1, z'.2.2.2.2.2.2.2.2.2.1, z'.2.2.2.2.2.2.2.2.2.2.1, z'.2.2.2.2.2.2.2.2.2.2.2.1, z'.2.2.2.2.2.2.2.2.2.2.2.2, ya_sizes)) (HE : ∀ x (z' : yr_Z), g.1 = x → x ≠ 0 → post (yr_c x) (yf_down, yf_heads, yf_paid, yf_payload, yf_wants, yf_name, yf_first, yf_counts, yf_enters, yf_most, yf_many, yf_sent, yf_last, z'.1, z'.2.1, z'.2.2.1, z'.2.2.2.1, nI T, z'.2.2.2.2.1, z'.2.2.2.2.2.1, ya_kind, ya_repeated, ya_how, ya_code, ya_coming, ya_going, ya_type, ya_headers, ya_header, ya_queued, ya_otherEnded, ya_ended, ya_finishing, ya_queue, ya_prefix, ya_length, ya_got, ya_high, ya_whole, ya_has, an_g tx, ya_frame, ya_payloads, ya_table, ya_out, z'.2.2.2.2.2.2.1, z'.2.2.2.2.2.2.2.1, z'.2.2.2.2.2.2.2.2.1, z'.2.2.2.2.2.2.2.2.2.1, z'.2.2.2.2.2.2.2.2.2.2.1, z'.2.2.2.2.2.2.2.2.2.2.2.1, z'.2.2.2.2.2.2.2.2.2.2.2.2, ya_sizes)) :
    wpY_keep post (yf_down, yf_heads, yf_paid, yf_payload, yf_wants, yf_name, yf_first, yf_counts, yf_enters, yf_most, yf_many, yf_sent, yf_last, nI (pm_nn (pm_d c)), nI (pm_nv (pm_d c)), nI (pm_sk c), nI p, nI T, x5, nI (pm_at c), ya_kind, ya_repeated, ya_how, ya_code, ya_coming, ya_going, ya_type, ya_headers, ya_header, ya_queued, ya_otherEnded, ya_ended, ya_finishing, ya_queue, ya_prefix, ya_length, ya_got, ya_high, ya_whole, ya_has, an_g tx, ya_frame, ya_payloads, ya_table, ya_out, a1, a2, a3, a4, a5, a6, a7, ya_sizes) (nI n) v (nI st) := by
  have h3 := I.2.1
  have hin := I.2.2.2.2.1 (pm_at c) (Nat.le_refl _)
  unfold pm_fin at hg
  rw [if_neg (by omega)] at hg
  refine yr_keep I.1 rD hK (by omega) (rA _ (Nat.le_refl _)).2 hin.1 hn hn' (fun h48 => ?_) (fun h48 => ?_)
  · have hg5 : g = (5, c) := by
      rw [hg]; exact if_pos h48
    exact HE 5 (nI (pm_nn (pm_d c)), nI (pm_nv (pm_d c)), nI (pm_sk c), nI p, x5, nI (pm_at c), a1, a2, a3, a4, a5, a6, a7) (by rw [hg5]) (by omega)
  · have hg0 : g = (0, (p, pm_at c, pm_row c, pm_fld c, pm_sk c, pm_lim c, pm_ins c, pm_kp R (pm_d c) (pm_nd c) n v st)) := by
      rw [hg]; exact if_neg h48
    exact H0 _ (nI (pm_nn (pm_d c)), nI (pm_nv (pm_kp R (pm_d c) (pm_nd c) n v st)), nI (pm_sk c), nI p, x5, nI (pm_at c), a1,
      upd a2 (pm_pl R (pm_d c) (pm_nd c) n) (nI (pm_nd c)), upd a3 (pm_pl R (pm_d c) (pm_nd c) n) (nI n), upd a4 (pm_pl R (pm_d c) (pm_nd c) n) v, upd a5 (pm_pl R (pm_d c) (pm_nd c) n) (nI st), a6, a7) hg0
      ⟨rfl, rfl, rfl, rfl, rfl, yr_D_kp rD, rA⟩
theorem yr_single {n k : Nat} {g : Nat × pm_C} (hz : yr_ok c q z) (I : pm_CI K R L dep c) (hL : L ≤ 200) (hK : cr_K ya_kind ya_repeated K R) (hx : yr_B tx s B) (hs : s < 8) (hT : T ≤ 200)
    (hq : q ≤ T) (hqe : q ≤ e) (he : e = pm_end c) (hn : 1 ≤ n) (hn' : n ≤ 15) (hk : K (pm_fj c n) = k) (hk1 : 1 ≤ k) (hk3 : k ≤ 3)
    (hg : g = if k = 3 then pm_goF B R T c n q 4 else pm_goV B K R T c n q 0) {post : Int32 → SY → Prop}
    (H0 : ∀ c' (z' : yr_Z), g = (0, c') → yr_ok c' (pm_pos c') z' → post 0 (yf_down, yf_heads, yf_paid, yf_payload, yf_wants, yf_name, yf_first, yf_counts, yf_enters, yf_most, yf_many, yf_sent, yf_last, z'.1, z'.2.1, z'.2.2.1, z'.2.2.2.1, nI T, z'.2.2.2.2.1, z'.2.2.2.2.2.1, ya_kind, ya_repeated, ya_how, ya_code, ya_coming, ya_going, ya_type, ya_headers, ya_header, ya_queued, ya_otherEnded, ya_ended, ya_finishing, ya_queue, ya_prefix, ya_length, ya_got, ya_high, ya_whole, ya_has, an_g tx, ya_frame, ya_payloads, ya_table, ya_out, z'.2.2.2.2.2.2.1, z'.2.2.2.2.2.2.2.1, z'.2.2.2.2.2.2.2.2.1, z'.2.2.2.2.2.2.2.2.2.1, z'.2.2.2.2.2.2.2.2.2.2.1, z'.2.2.2.2.2.2.2.2.2.2.2.1, z'.2.2.2.2.2.2.2.2.2.2.2.2, ya_sizes)) (HE : ∀ x (z' : yr_Z), g.1 = x → x ≠ 0 → post (yr_c x) (yf_down, yf_heads, yf_paid, yf_payload, yf_wants, yf_name, yf_first, yf_counts, yf_enters, yf_most, yf_many, yf_sent, yf_last, z'.1, z'.2.1, z'.2.2.1, z'.2.2.2.1, nI T, z'.2.2.2.2.1, z'.2.2.2.2.2.1, ya_kind, ya_repeated, ya_how, ya_code, ya_coming, ya_going, ya_type, ya_headers, ya_header, ya_queued, ya_otherEnded, ya_ended, ya_finishing, ya_queue, ya_prefix, ya_length, ya_got, ya_high, ya_whole, ya_has, an_g tx, ya_frame, ya_payloads, ya_table, ya_out, z'.2.2.2.2.2.2.1, z'.2.2.2.2.2.2.2.1, z'.2.2.2.2.2.2.2.2.1, z'.2.2.2.2.2.2.2.2.2.1, z'.2.2.2.2.2.2.2.2.2.2.1, z'.2.2.2.2.2.2.2.2.2.2.2.1, z'.2.2.2.2.2.2.2.2.2.2.2.2, ya_sizes)) :
    wpY_single post (yf_down, yf_heads, yf_paid, yf_payload, yf_wants, yf_name, yf_first, yf_counts, yf_enters, yf_most, yf_many, yf_sent, yf_last, z.1, z.2.1, z.2.2.1, z.2.2.2.1, nI T, z.2.2.2.2.1, z.2.2.2.2.2.1, ya_kind, ya_repeated, ya_how, ya_code, ya_coming, ya_going, ya_type, ya_headers, ya_header, ya_queued, ya_otherEnded, ya_ended, ya_finishing, ya_queue, ya_prefix, ya_length, ya_got, ya_high, ya_whole, ya_has, an_g tx, ya_frame, ya_payloads, ya_table, ya_out, z.2.2.2.2.2.2.1, z.2.2.2.2.2.2.2.1, z.2.2.2.2.2.2.2.2.1, z.2.2.2.2.2.2.2.2.2.1, z.2.2.2.2.2.2.2.2.2.2.1, z.2.2.2.2.2.2.2.2.2.2.2.1, z.2.2.2.2.2.2.2.2.2.2.2.2, ya_sizes) (nI s) (nI k + (-1)) (nI n) (nI e) := by
  obtain ⟨z1, z2, z3, z4, z5, z6, a1, a2, a3, a4, a5, a6, a7⟩ := z
  dsimp only [yr_ok] at hz
  obtain ⟨rfl, rfl, rfl, rfl, rfl, rD, rA⟩ := hz
  have hkk := yr_k k (by omega)
  have he2 := pm_end_le I
  unfold wpY_single
  by_cases h3 : k = 3
  · rw [if_pos h3] at hg
    refine br_t (hkk.1.mpr h3) ?_
    refine yr_skip (n := 4) (by omega) hT hq hqe (by omega) (fun g1 g2 => ?_) (fun g1 g2 => ?_) (fun g1 g2 => ?_) (fun g1 g2 => ?_)
    · have hg9 : g = (9, c) := by rw [hg]; exact pm_goF_9 (by omega) (by omega)
      exact br_f (by decide) (HE 9 (nI (pm_nn (pm_d c)), nI (pm_nv (pm_d c)), nI (pm_sk c), nI q, z5, nI (pm_at c), a1, a2, a3, a4, a5, a6, a7) (by rw [hg9]) (by omega))
    · have hg4 : g = (4, c) := by rw [hg]; exact pm_goF_e (by omega) (by omega)
      exact br_f (by decide) (HE 4 (nI (pm_nn (pm_d c)), nI (pm_nv (pm_d c)), nI (pm_sk c), nI q, z5, nI (pm_at c), a1, a2, a3, a4, a5, a6, a7) (by rw [hg4]) (by omega))
    · have hg9 : g = (9, c) := by rw [hg]; exact pm_goF_9 (by omega) (by omega)
      exact br_f (by decide) (HE 9 (nI (pm_nn (pm_d c)), nI (pm_nv (pm_d c)), nI (pm_sk c), nI q, z5, nI (pm_at c), a1, a2, a3, a4, a5, a6, a7) (by rw [hg9]) (by omega))
    · rw [pm_goF_d (by omega) (by omega)] at hg
      refine br_t rfl (br_f (fun y => by have := hkk.2.1.mp y; omega) ?_)
      unfold wY_single_65
      refine br_t (hkk.1.mpr h3) ⟨5, ?_⟩
      have hix : ∀ i, i < 4 → 200 * nI s + nI q + nI i = 200 * nI s + nI (q + i) := by
        intro i _
        rw [Int32.add_assoc, nI_add]
      have hb : ∀ i, i < 4 → vp_in (200 * nI s + nI q + nI i) 1600 ∧ (an_g tx (200 * nI s + nI q + nI i).toNatClampNeg) &&& 255 = nI (B (q + i)) := by
        intro i hi
        rw [hix i hi]
        exact yr_by hx hs (by omega)
      rw [wY_single_76]
      refine br_f (by decide) ⟨(hb 3 (by omega)).1, nm_r (by rw [show (3 : Int32) = nI 3 from rfl, (hb 3 (by omega)).2]) (nm_r (e' := nI 2) (by decide) ?_)⟩
      rw [wY_single_76]
      refine br_f (by decide) ⟨(hb 2 (by omega)).1, nm_r (by rw [(hb 2 (by omega)).2]) (nm_r (e' := nI 1) (by decide) ?_)⟩
      rw [wY_single_76]
      refine br_f (by decide) ⟨(hb 1 (by omega)).1, nm_r (by rw [(hb 1 (by omega)).2]) (nm_r (e' := nI 0) (by decide) ?_)⟩
      rw [wY_single_76]
      refine br_f (by decide) ⟨(hb 0 (by omega)).1, nm_r (e' := pm_fs B q 4) (by rw [(hb 0 (by omega)).2]; exact yr_fs hx.2.1) (nm_r (e' := -1) (by decide) ?_)⟩
      rw [wY_single_76]
      refine br_t (by decide) ?_
      unfold wY_single_115
      exact yr_kept (st := 0) I hK rD rA hn hn' hg H0 HE
  · rw [if_neg h3] at hg
    refine br_f (fun y => h3 (hkk.1.mp y)) ?_
    refine yr_var hx hs hT (by omega) hq (fun cc k' hv => ?_)
    unfold pm_goV at hg
    rw [← he, show 10 - 0 = 10 from rfl, hv] at hg
    dsimp only at hg
    by_cases hc : cc = 0
    · subst hc
      rw [if_pos rfl] at hg
      refine br_t rfl ?_
      refine br_c (fun y => nm_e ?_) (fun y => ?_)
      · unfold wY_single_65
        refine br_f (fun y => h3 (hkk.1.mp y)) ?_
        unfold wY_single_115
        have hk2 := hkk.2.1.mp y
        unfold pm_val at hg
        rw [hk, if_pos hk2] at hg
        exact yr_kept (st := 0) I hK rD rA hn hn' hg H0 HE
      · unfold wY_single_65
        refine br_f (fun y => h3 (hkk.1.mp y)) ?_
        unfold wY_single_115
        unfold pm_val at hg
        rw [hk, if_neg (fun z => y (hkk.2.1.mpr z))] at hg
        exact yr_kept (st := 0) I hK rD rA hn hn' hg H0 HE
    · rw [if_neg hc] at hg
      refine br_f ?_ (HE cc (nI (pm_nn (pm_d c)), nI (pm_nv (pm_d c)), nI (pm_sk c), nI (q + k'), _, nI (pm_at c), a1, a2, a3, a4, a5, a6, a7) (by rw [hg]) hc)
      exact yr_ne cc (by have := pm_vr_lt (B := B) (p := q) (e := e) (T := T) 10 0; rw [hv] at this; exact this) hc
theorem pm_fin_r {f p st : Nat} {v : Int32} : pm_row (pm_fin R c f p v st).2 = pm_row c := by
  unfold pm_fin
  split
  · rfl
  split
  · rfl
  · rfl
theorem pm_goV_r {B : Nat → Nat} {f d : Nat} : pm_row (pm_goV B K R T c f q d).2 = pm_row c := by
  unfold pm_goV
  split
  · exact pm_fin_r
  · rfl
theorem pm_goF_r {B : Nat → Nat} {f w : Nat} : pm_row (pm_goF B R T c f q w).2 = pm_row c := by
  unfold pm_goF
  split
  · split <;> rfl
  split
  · rfl
  · exact pm_fin_r
theorem yr_nI (x : Int32) : x = nI x.toBitVec.toNat := by
  obtain ⟨n, hn, rfl⟩ := wb_of32 x
  rw [pk_tn hn]
theorem yr_u3 (x : Int32) : (x.toUInt32 >>> ((3 : Int32).toUInt32 &&& Int32.toUInt32 31)).toInt32 = nI (x.toBitVec.toNat / 8) := by
  obtain ⟨n, hn, rfl⟩ := wb_of32 x
  rw [pk_tn hn, pk_ushrN hn 3 3 (by decide)]
theorem pm_c9_fin {f p st : Nat} {v : Int32} : (pm_fin R c f p v st).1 ≤ 9 := by
  unfold pm_fin
  split
  · show 0 ≤ 9; omega
  split
  · show 5 ≤ 9; omega
  · show 0 ≤ 9; omega
theorem pm_c9_V {B : Nat → Nat} {f d : Nat} : (pm_goV B K R T c f q d).1 ≤ 9 := by
  unfold pm_goV
  split
  · exact pm_c9_fin
  · exact pm_vr_lt _ _
theorem pm_c9_F {B : Nat → Nat} {f w : Nat} : (pm_goF B R T c f q w).1 ≤ 9 := by
  unfold pm_goF
  split
  · split
    · show 4 ≤ 9; omega
    · show 9 ≤ 9; omega
  split
  · show 9 ≤ 9; omega
  · exact pm_c9_fin
theorem pm_c9_S {B : Nat → Nat} : (pm_goS B K R T c).1 ≤ 9 := by
  unfold pm_goS
  split
  · exact pm_c9_F
  · exact pm_c9_V
/-- a row of singles -/
theorem yr_packed {r : Nat × pm_C} (hL : L ≤ 200) (hK : cr_K ya_kind ya_repeated K R) (hx : yr_B tx s B) (hs : s < 8) (hT : T ≤ 200) {post : Int32 → SY → Prop} {kk n e : Nat} : ∀ m c (z : yr_Z),
    pm_rd B K R T m c = some r → pm_row c = e → e ≠ 0 → pm_fld c = n → K (pm_fj c n) = kk → pm_CI K R L dep c → yr_ok c (pm_pos c) z → pm_pos c ≤ T →
    (∀ m' c' (z' : yr_Z), m' < m → pm_rd B K R T m' c' = some r → pm_row c' = 0 → pm_CI K R L dep c' → pm_pos c' ≤ T → yr_ok c' (pm_pos c') z' → post 0 (yf_down, yf_heads, yf_paid, yf_payload, yf_wants, yf_name, yf_first, yf_counts, yf_enters, yf_most, yf_many, yf_sent, yf_last, z'.1, z'.2.1, z'.2.2.1, z'.2.2.2.1, nI T, z'.2.2.2.2.1, z'.2.2.2.2.2.1, ya_kind, ya_repeated, ya_how, ya_code, ya_coming, ya_going, ya_type, ya_headers, ya_header, ya_queued, ya_otherEnded, ya_ended, ya_finishing, ya_queue, ya_prefix, ya_length, ya_got, ya_high, ya_whole, ya_has, an_g tx, ya_frame, ya_payloads, ya_table, ya_out, z'.2.2.2.2.2.2.1, z'.2.2.2.2.2.2.2.1, z'.2.2.2.2.2.2.2.2.1, z'.2.2.2.2.2.2.2.2.2.1, z'.2.2.2.2.2.2.2.2.2.2.1, z'.2.2.2.2.2.2.2.2.2.2.2.1, z'.2.2.2.2.2.2.2.2.2.2.2.2, ya_sizes)) →
    (∀ (z' : yr_Z), r.1 ≠ 0 → post (yr_c r.1) (yf_down, yf_heads, yf_paid, yf_payload, yf_wants, yf_name, yf_first, yf_counts, yf_enters, yf_most, yf_many, yf_sent, yf_last, z'.1, z'.2.1, z'.2.2.1, z'.2.2.2.1, nI T, z'.2.2.2.2.1, z'.2.2.2.2.2.1, ya_kind, ya_repeated, ya_how, ya_code, ya_coming, ya_going, ya_type, ya_headers, ya_header, ya_queued, ya_otherEnded, ya_ended, ya_finishing, ya_queue, ya_prefix, ya_length, ya_got, ya_high, ya_whole, ya_has, an_g tx, ya_frame, ya_payloads, ya_table, ya_out, z'.2.2.2.2.2.2.1, z'.2.2.2.2.2.2.2.1, z'.2.2.2.2.2.2.2.2.1, z'.2.2.2.2.2.2.2.2.2.1, z'.2.2.2.2.2.2.2.2.2.2.1, z'.2.2.2.2.2.2.2.2.2.2.2.1, z'.2.2.2.2.2.2.2.2.2.2.2.2, ya_sizes)) →
    wY_packed_3 post (nI s) (nI kk + (-1)) (nI n) (nI e) (m + 1) 0 yf_down yf_heads yf_paid yf_payload yf_wants yf_name yf_first yf_counts yf_enters yf_most yf_many yf_sent yf_last (z.1) (z.2.1) (z.2.2.1) (z.2.2.2.1) (nI T) (z.2.2.2.2.1) (z.2.2.2.2.2.1) ya_kind ya_repeated ya_how ya_code ya_coming ya_going ya_type ya_headers ya_header ya_queued ya_otherEnded ya_ended ya_finishing ya_queue ya_prefix ya_length ya_got ya_high ya_whole ya_has (an_g tx) ya_frame ya_payloads ya_table ya_out (z.2.2.2.2.2.2.1) (z.2.2.2.2.2.2.2.1) (z.2.2.2.2.2.2.2.2.1) (z.2.2.2.2.2.2.2.2.2.1) (z.2.2.2.2.2.2.2.2.2.2.1) (z.2.2.2.2.2.2.2.2.2.2.2.1) (z.2.2.2.2.2.2.2.2.2.2.2.2) ya_sizes
  | 0, c, z, hrd, _, _, _, _, _, _, _, _, _ => absurd hrd (by simp [pm_rd])
  | m + 1, c, z, hrd, hrow, he0, hfl, hkk, I, hz, hpT, H0, HE => by
    have hr0 : pm_row c ≠ 0 := by omega
    obtain ⟨k1, k2, k3, k4, k5, k6⟩ := I.2.2.2.2.2.2.2 hr0
    have hend : pm_end c = pm_row c := by unfold pm_end; exact if_neg hr0
    have hpe := I.2.2.2.2.2.2.1
    have hel := pm_end_le I
    rw [pm_rd, if_pos hr0] at hrd
    rw [hfl] at k2 k3 k4 k5 k6
    rw [wY_packed_3]
    refine br_t rfl ?_
    have hz4 : z.2.2.2.1 = nI (pm_pos c) := hz.2.2.2.1
    rw [hz4]
    refine pk_le e (pm_pos c) (fun g => ?_) (fun g => ?_)
    · rw [if_pos (by omega)] at hrd
      rw [← hz4]
      exact H0 m (pm_row0 c) z (by omega) hrd rfl (pm_CI_row0 I hr0 (by omega)) hpT hz
    · rw [if_neg (by omega)] at hrd
      rw [← hz4]
      refine yr_single (g := pm_goS B K R T c) hz I hL hK hx hs hT hpT (by omega) (by omega) k2 k3 hkk (by omega) (by omega) ?_ (fun c' z' hg hz' => ?_) (fun x z' hg hx0 => ?_)
      · unfold pm_goS
        rw [hfl, hkk]
      · rw [hg] at hrd
        rw [if_pos rfl] at hrd
        obtain ⟨q1, q2, q3, q4, q5, q6, q7, q8, q9, q10⟩ := pm_goS_I I hr0 (by omega) hpT hg
        refine yr_packed hL hK hx hs hT m c' z' hrd (by omega) he0 (by omega) ?_ q1 hz' q3 (fun m' c'' z'' h1 => H0 m' c'' z'' (by omega)) HE
        rw [← hkk]
        unfold pm_fj pm_nd
        rw [q10, q9, q5]
      · rw [if_neg (by rw [hg]; exact hx0)] at hrd
        have hr : pm_goS B K R T c = r := Option.some.inj hrd
        rw [wY_packed_3]
        have h9 : x ≤ 9 := by
          rw [← hg]; exact pm_c9_S
        refine br_f (yr_ne x h9 hx0) ?_
        have hxr : r.1 = x := by rw [← hr]; exact hg
        rw [← hxr]
        exact HE z' (by rw [hxr]; exact hx0)
end
end
section
/-! L: how the reference reads: rows of bytes, parts, elements, the whole -/
section
variable {yf_down yf_heads yf_paid yf_payload yf_wants yf_name yf_first yf_counts yf_enters yf_most yf_many yf_sent yf_last yf_nodes yf_values yf_skipped yf_pos yf_there yf_number yf_at : Int32} {ya_kind ya_repeated ya_how ya_code ya_coming ya_going ya_type ya_headers ya_header ya_queued ya_otherEnded ya_ended ya_finishing ya_queue ya_prefix ya_length ya_got ya_high ya_whole ya_has ya_bytes ya_frame ya_payloads ya_table ya_out ya_nodeType ya_valueNode ya_valueNumber ya_value ya_from ya_limit ya_inside ya_sizes : Nat → Int32} {s q e T : Nat} {tx B : Nat → Nat} {K : Nat → Nat} {R : Nat → Bool} {L : Nat} {dep : Nat → Nat} {c : pm_C} {z : yr_Z} {a1 a2 a3 a4 a5 a6 a7 : Nat → Int32}
theorem yr_row {n len : Nat} {g : Nat × pm_C} (rD : yr_D (pm_d c) a1 a2 a3 a4 a5) (rA : ∀ i, i ≤ pm_at c → a6 i = nI (pm_lim c i) ∧ a7 i = nI (pm_ins c i)) (I : pm_CI K R L dep c) (hL : L ≤ 200) (hK : cr_K ya_kind ya_repeated K R) (hT : T ≤ 200)
    (hq : q ≤ T) (he : e = pm_lim c (pm_at c)) (hql : q + len ≤ e) (hn : 1 ≤ n) (hn' : n ≤ 15) (hk : K (pm_fj c n) = 4)
    (hg : g = pm_body K R T c n q len) {post : Int32 → SY → Prop}
    (H0 : ∀ c' (z' : yr_Z), g = (0, c') → yr_ok c' (pm_pos c') z' → post 0 (yf_down, yf_heads, yf_paid, yf_payload, yf_wants, yf_name, yf_first, yf_counts, yf_enters, yf_most, yf_many, yf_sent, yf_last, z'.1, z'.2.1, z'.2.2.1, z'.2.2.2.1, nI T, z'.2.2.2.2.1, z'.2.2.2.2.2.1, ya_kind, ya_repeated, ya_how, ya_code, ya_coming, ya_going, ya_type, ya_headers, ya_header, ya_queued, ya_otherEnded, ya_ended, ya_finishing, ya_queue, ya_prefix, ya_length, ya_got, ya_high, ya_whole, ya_has, an_g tx, ya_frame, ya_payloads, ya_table, ya_out, z'.2.2.2.2.2.2.1, z'.2.2.2.2.2.2.2.1, z'.2.2.2.2.2.2.2.2.1, z'.2.2.2.2.2.2.2.2.2.1, z'.2.2.2.2.2.2.2.2.2.2.1, z'.2.2.2.2.2.2.2.2.2.2.2.1, z'.2.2.2.2.2.2.2.2.2.2.2.2, ya_sizes)) (HE : ∀ x (z' : yr_Z), g.1 = x → x ≠ 0 → post (yr_c x) (yf_down, yf_heads, yf_paid, yf_payload, yf_wants, yf_name, yf_first, yf_counts, yf_enters, yf_most, yf_many, yf_sent, yf_last, z'.1, z'.2.1, z'.2.2.1, z'.2.2.2.1, nI T, z'.2.2.2.2.1, z'.2.2.2.2.2.1, ya_kind, ya_repeated, ya_how, ya_code, ya_coming, ya_going, ya_type, ya_headers, ya_header, ya_queued, ya_otherEnded, ya_ended, ya_finishing, ya_queue, ya_prefix, ya_length, ya_got, ya_high, ya_whole, ya_has, an_g tx, ya_frame, ya_payloads, ya_table, ya_out, z'.2.2.2.2.2.2.1, z'.2.2.2.2.2.2.2.1, z'.2.2.2.2.2.2.2.2.1, z'.2.2.2.2.2.2.2.2.2.1, z'.2.2.2.2.2.2.2.2.2.2.1, z'.2.2.2.2.2.2.2.2.2.2.2.1, z'.2.2.2.2.2.2.2.2.2.2.2.2, ya_sizes)) :
    wpY_row post (yf_down, yf_heads, yf_paid, yf_payload, yf_wants, yf_name, yf_first, yf_counts, yf_enters, yf_most, yf_many, yf_sent, yf_last, nI (pm_nn (pm_d c)), nI (pm_nv (pm_d c)), nI (pm_sk c), nI q, nI T, (nI len), nI (pm_at c), ya_kind, ya_repeated, ya_how, ya_code, ya_coming, ya_going, ya_type, ya_headers, ya_header, ya_queued, ya_otherEnded, ya_ended, ya_finishing, ya_queue, ya_prefix, ya_length, ya_got, ya_high, ya_whole, ya_has, an_g tx, ya_frame, ya_payloads, ya_table, ya_out, a1, a2, a3, a4, a5, a6, a7, ya_sizes) (nI n) (nI e) := by
  have h3 := I.2.1
  have hin := I.2.2.2.2.1 (pm_at c) (Nat.le_refl _)
  have hnv := I.1.2.2.1
  have hnn := I.1.2.1
  have hty := (I.1.2.2.2.2.1 _ hin.1).1
  have hl := pm_lim_le I (pm_at c) (Nat.le_refl _)
  have hle := pm_pl_le (R := R) (D := pm_d c) (pm_nd c) n
  have ej : 16 * nI (pm_nt (pm_d c) (pm_nd c)) + nI n = nI (pm_fj c n) := by
    rw [show (16 : Int32) = nI 16 from rfl, pk_mul, nI_add]; rfl
  have hj : pm_fj c n < 64 := by
    show 16 * pm_nt (pm_d c) (pm_ins c (pm_at c)) + n < 64; omega
  have hR := hK.2.2 (pm_fj c n) hj
  unfold pm_body at hg
  rw [if_neg (by omega), if_pos hk] at hg
  have h75 : pm_pl R (pm_d c) (pm_nd c) n ≠ 48 → wY_row_75 post (nI n) (nI e) (nI len) (nI q) yf_down yf_heads yf_paid yf_payload yf_wants yf_name yf_first yf_counts yf_enters yf_most yf_many yf_sent yf_last (nI (pm_nn (pm_d c))) (nI (pm_nv (pm_d c))) (nI (pm_sk c)) (nI q) (nI T) ((nI len)) (nI (pm_at c)) ya_kind ya_repeated ya_how ya_code ya_coming ya_going ya_type ya_headers ya_header ya_queued ya_otherEnded ya_ended ya_finishing ya_queue ya_prefix ya_length ya_got ya_high ya_whole ya_has (an_g tx) ya_frame ya_payloads ya_table ya_out (a1) (a2) (a3) (a4) (a5) (a6) (a7) ya_sizes := by
    intro h48
    rw [if_neg h48] at hg
    unfold wY_row_75
    refine yr_skip (n := len) (by omega) hT hq (by omega) (by omega) (fun g1 _ => absurd g1 (by omega)) (fun g1 _ => absurd g1 (by omega)) (fun g1 g2 => ?_) (fun g1 g2 => ?_)
    · rw [if_pos g2] at hg
      exact br_f (by decide) (HE 9 (nI (pm_nn (pm_d c)), nI (pm_nv (pm_d c)), nI (pm_sk c), nI q, nI len, nI (pm_at c), a1, a2, a3, a4, a5, a6, a7) (by rw [hg]) (by omega))
    · rw [if_neg (by omega)] at hg
      exact br_t rfl (yr_kept I hK rD rA hn hn' hg H0 HE)
  have h57 : pm_pl R (pm_d c) (pm_nd c) n = pm_nv (pm_d c) → wY_row_52 post (nI n) (nI e) (nI len) (nI q) yf_down yf_heads yf_paid yf_payload yf_wants yf_name yf_first yf_counts yf_enters yf_most yf_many yf_sent yf_last (nI (pm_nn (pm_d c))) (nI (pm_nv (pm_d c))) (nI (pm_sk c)) (nI q) (nI T) ((nI len)) (nI (pm_at c)) ya_kind ya_repeated ya_how ya_code ya_coming ya_going ya_type ya_headers ya_header ya_queued ya_otherEnded ya_ended ya_finishing ya_queue ya_prefix ya_length ya_got ya_high ya_whole ya_has (an_g tx) ya_frame ya_payloads ya_table ya_out (a1) (a2) (a3) (a4) (a5) (a6) (a7) ya_sizes := by
    intro hp
    unfold wY_row_52 wY_row_57
    refine br_f (by decide) (pk_eq (pm_nv (pm_d c)) 48 (fun g1 => ?_) (fun g1 => h75 (by omega)))
    rw [if_pos (by omega)] at hg
    exact HE 5 (nI (pm_nn (pm_d c)), nI (pm_nv (pm_d c)), nI (pm_sk c), nI q, nI len, nI (pm_at c), a1, a2, a3, a4, a5, a6, a7) (by rw [hg]) (by omega)
  unfold wpY_row
  refine ⟨vp_in_nI (by omega) (by omega), nm_r (by rw [nI_clamp (by omega), (rA _ (Nat.le_refl _)).2]) ⟨vp_in_nI (by omega) (by omega), ?_⟩⟩
  rw [nI_clamp (by omega), rD.1 _ hin.1, show pm_ins c (pm_at c) = pm_nd c from rfl, ej, nI_clamp (by omega), hR]
  refine ⟨vp_in_nI hj (by omega), ?_⟩
  by_cases hr : R (pm_fj c n) = true
  · rw [if_pos hr]
    refine br_f (by decide) (h57 ?_)
    unfold pm_pl; exact if_pos hr
  · rw [if_neg hr]
    have epl : pm_pl R (pm_d c) (pm_nd c) n = pm_ix (pm_d c) (pm_nd c) n := by
      unfold pm_pl; exact if_neg hr
    refine br_t rfl (yr_find rD hnv (yr_DB I.1) (by have : pm_nd c < 16 := by show pm_ins c (pm_at c) < 16; omega
                                                    omega) (by omega) ?_)
    rw [epl] at h57 h75 hle
    by_cases g1 : pm_ix (pm_d c) (pm_nd c) n < pm_nv (pm_d c)
    · rw [if_pos g1]
      refine br_t (nI_pos' (by omega)) ?_
      unfold wY_row_57
      exact br_t rfl (h75 (by omega))
    · rw [if_neg g1]
      exact br_f (by decide) (h57 (by omega))
theorem yr_part {n t len : Nat} {x5 : Int32} {g : Nat × pm_C} (rD : yr_D (pm_d c) a1 a2 a3 a4 a5) (rA : ∀ i, i ≤ pm_at c → a6 i = nI (pm_lim c i) ∧ a7 i = nI (pm_ins c i)) (I : pm_CI K R L dep c) (hK : cr_K ya_kind ya_repeated K R)
    (hn : 1 ≤ n) (hn' : n ≤ 15) (hk : 4 < K (pm_fj c n)) (hg : g = pm_part R c n t q len) {post : Int32 → SY → Prop}
    (H0 : ∀ c' (z' : yr_Z), g = (0, c') → yr_ok c' (pm_pos c') z' → post 0 (yf_down, yf_heads, yf_paid, yf_payload, yf_wants, yf_name, yf_first, yf_counts, yf_enters, yf_most, yf_many, yf_sent, yf_last, z'.1, z'.2.1, z'.2.2.1, z'.2.2.2.1, nI T, z'.2.2.2.2.1, z'.2.2.2.2.2.1, ya_kind, ya_repeated, ya_how, ya_code, ya_coming, ya_going, ya_type, ya_headers, ya_header, ya_queued, ya_otherEnded, ya_ended, ya_finishing, ya_queue, ya_prefix, ya_length, ya_got, ya_high, ya_whole, ya_has, an_g tx, ya_frame, ya_payloads, ya_table, ya_out, z'.2.2.2.2.2.2.1, z'.2.2.2.2.2.2.2.1, z'.2.2.2.2.2.2.2.2.1, z'.2.2.2.2.2.2.2.2.2.1, z'.2.2.2.2.2.2.2.2.2.2.1, z'.2.2.2.2.2.2.2.2.2.2.2.1, z'.2.2.2.2.2.2.2.2.2.2.2.2, ya_sizes)) (HE : ∀ x (z' : yr_Z), g.1 = x → x ≠ 0 → post (yr_c x) (yf_down, yf_heads, yf_paid, yf_payload, yf_wants, yf_name, yf_first, yf_counts, yf_enters, yf_most, yf_many, yf_sent, yf_last, z'.1, z'.2.1, z'.2.2.1, z'.2.2.2.1, nI T, z'.2.2.2.2.1, z'.2.2.2.2.2.1, ya_kind, ya_repeated, ya_how, ya_code, ya_coming, ya_going, ya_type, ya_headers, ya_header, ya_queued, ya_otherEnded, ya_ended, ya_finishing, ya_queue, ya_prefix, ya_length, ya_got, ya_high, ya_whole, ya_has, an_g tx, ya_frame, ya_payloads, ya_table, ya_out, z'.2.2.2.2.2.2.1, z'.2.2.2.2.2.2.2.1, z'.2.2.2.2.2.2.2.2.1, z'.2.2.2.2.2.2.2.2.2.1, z'.2.2.2.2.2.2.2.2.2.2.1, z'.2.2.2.2.2.2.2.2.2.2.2.1, z'.2.2.2.2.2.2.2.2.2.2.2.2, ya_sizes)) :
    wpY_part post (yf_down, yf_heads, yf_paid, yf_payload, yf_wants, yf_name, yf_first, yf_counts, yf_enters, yf_most, yf_many, yf_sent, yf_last, nI (pm_nn (pm_d c)), nI (pm_nv (pm_d c)), nI (pm_sk c), nI q, nI T, x5, nI (pm_at c), ya_kind, ya_repeated, ya_how, ya_code, ya_coming, ya_going, ya_type, ya_headers, ya_header, ya_queued, ya_otherEnded, ya_ended, ya_finishing, ya_queue, ya_prefix, ya_length, ya_got, ya_high, ya_whole, ya_has, an_g tx, ya_frame, ya_payloads, ya_table, ya_out, a1, a2, a3, a4, a5, a6, a7, ya_sizes) (nI n) (nI t) (nI (q + len)) := by
  have h3 := I.2.1
  have hin := I.2.2.2.2.1 (pm_at c) (Nat.le_refl _)
  have hnv := I.1.2.2.1
  have hnn := I.1.2.1
  have hty := (I.1.2.2.2.2.1 _ hin.1).1
  have hle := pm_pl_le (R := R) (D := pm_d c) (pm_nd c) n
  have hnd : pm_nd c < pm_nn (pm_d c) := hin.1
  have ej : 16 * nI (pm_nt (pm_d c) (pm_nd c)) + nI n = nI (pm_fj c n) := by
    rw [show (16 : Int32) = nI 16 from rfl, pk_mul, nI_add]; rfl
  have hj : pm_fj c n < 64 := by
    show 16 * pm_nt (pm_d c) (pm_ins c (pm_at c)) + n < 64; omega
  have hR := hK.2.2 (pm_fj c n) hj
  unfold pm_part at hg
  have hnew : pm_pl R (pm_d c) (pm_nd c) n = pm_nv (pm_d c) → wY_part_42 post (nI n) (nI t) (nI (q + len)) (-1) yf_down yf_heads yf_paid yf_payload yf_wants yf_name yf_first yf_counts yf_enters yf_most yf_many yf_sent yf_last (nI (pm_nn (pm_d c))) (nI (pm_nv (pm_d c))) (nI (pm_sk c)) (nI q) (nI T) (x5) (nI (pm_at c)) ya_kind ya_repeated ya_how ya_code ya_coming ya_going ya_type ya_headers ya_header ya_queued ya_otherEnded ya_ended ya_finishing ya_queue ya_prefix ya_length ya_got ya_high ya_whole ya_has (an_g tx) ya_frame ya_payloads ya_table ya_out (a1) (a2) (a3) (a4) (a5) (a6) (a7) ya_sizes := by
    intro hp
    rw [if_neg (by omega)] at hg
    unfold wY_part_42
    refine br_f (by decide) (pk_eq (pm_nn (pm_d c)) 16 (fun g1 => ?_) (fun g1 => ?_))
    · rw [if_pos (Or.inl g1)] at hg
      exact HE 5 (nI (pm_nn (pm_d c)), nI (pm_nv (pm_d c)), nI (pm_sk c), nI q, x5, nI (pm_at c), a1, a2, a3, a4, a5, a6, a7) (by rw [hg]) (by omega)
    refine pk_eq (pm_nv (pm_d c)) 48 (fun g2 => ?_) (fun g2 => ?_)
    · rw [if_pos (Or.inr (Or.inl g2))] at hg
      exact HE 5 (nI (pm_nn (pm_d c)), nI (pm_nv (pm_d c)), nI (pm_sk c), nI q, x5, nI (pm_at c), a1, a2, a3, a4, a5, a6, a7) (by rw [hg]) (by omega)
    refine pk_eq (pm_at c) 3 (fun g3 => ?_) (fun g3 => ?_)
    · rw [if_pos (Or.inr (Or.inr g3))] at hg
      exact HE 5 (nI (pm_nn (pm_d c)), nI (pm_nv (pm_d c)), nI (pm_sk c), nI q, x5, nI (pm_at c), a1, a2, a3, a4, a5, a6, a7) (by rw [hg]) (by omega)
    rw [if_neg (fun y => by omega)] at hg
    refine ⟨vp_in_nI (by omega) (by omega), nm_r (by rw [nI_clamp (by omega)]) (nm_r (nI_1 _) ?_)⟩
    have rD' : yr_D (pm_d c) (upd a1 (pm_nn (pm_d c)) (nI t)) a2 a3 a4 a5 := by
      refine ⟨fun i hi => ?_, rD.2⟩
      rw [pm_upd_eq, if_neg (by omega)]
      exact rD.1 i hi
    refine yr_keep (st := 0) I.1 rD' hK (by omega) (rA _ (Nat.le_refl _)).2 hin.1 hn hn' (fun h48 => ?_) (fun h48 => ?_)
    · exact absurd h48 (by show pm_pl R (pm_d c) (pm_nd c) n ≠ 48; omega)
    · unfold wY_part_105
      refine nm_r (nI_1 _) ⟨vp_in_nI (by omega) (by omega), nm_r (by rw [nI_clamp (by omega)]) (br_f (by decide) ⟨vp_in_nI (by omega) (by omega), nm_r (by rw [nI_clamp (by omega), nI_pred]) ?_⟩)⟩
      refine H0 _ (nI (pm_nn (pm_d c) + 1), nI (pm_nv (pm_kp R (pm_d c) (pm_nd c) n (nI (pm_nn (pm_d c))) 0)), nI (pm_sk c), nI q, x5, nI (pm_at c + 1), upd a1 (pm_nn (pm_d c)) (nI t),
        upd a2 (pm_pl R (pm_d c) (pm_nd c) n) (nI (pm_nd c)), upd a3 (pm_pl R (pm_d c) (pm_nd c) n) (nI n), upd a4 (pm_pl R (pm_d c) (pm_nd c) n) (nI (pm_nn (pm_d c))), upd a5 (pm_pl R (pm_d c) (pm_nd c) n) (nI 0),
        upd a6 (pm_at c + 1) (nI (q + len)), upd a7 (pm_at c + 1) (nI (pm_nn (pm_d c)))) hg ⟨rfl, rfl, rfl, rfl, rfl, ?_, ?_⟩
      · have hk := yr_D_kp (R := R) (D := pm_d c) (a := pm_nd c) (n := n) (st := 0) (v := nI (pm_nn (pm_d c))) rD'
        refine ⟨fun i hi => ?_, hk.2⟩
        have hi : i < pm_nn (pm_d c) + 1 := hi
        show upd a1 (pm_nn (pm_d c)) (nI t) i = nI (pm_u (pm_nt (pm_d c)) (pm_nn (pm_d c)) t i)
        by_cases g4 : i = pm_nn (pm_d c)
        · rw [pm_upd_eq, if_pos g4, g4, pm_us]
        · rw [pm_upd_eq, if_neg g4, pm_un g4]
          exact rD.1 i (by omega)
      · intro i hi
        have hi : i ≤ pm_at c + 1 := hi
        show upd a6 (pm_at c + 1) (nI (q + len)) i = nI (pm_u (pm_lim c) (pm_at c + 1) (q + len) i) ∧ upd a7 (pm_at c + 1) (nI (pm_nn (pm_d c))) i = nI (pm_u (pm_ins c) (pm_at c + 1) (pm_nn (pm_d c)) i)
        by_cases g4 : i = pm_at c + 1
        · rw [pm_upd_eq, if_pos g4, pm_upd_eq, if_pos g4, g4, pm_us, pm_us]; exact ⟨rfl, rfl⟩
        · rw [pm_upd_eq, if_neg g4, pm_upd_eq, if_neg g4, pm_un g4, pm_un g4]
          exact rA i (by omega)
  unfold wpY_part
  refine ⟨vp_in_nI (by omega) (by omega), nm_r (by rw [nI_clamp (by omega), (rA _ (Nat.le_refl _)).2]) ⟨vp_in_nI (by omega) (by omega), ?_⟩⟩
  rw [nI_clamp (by omega), rD.1 _ hin.1, show pm_ins c (pm_at c) = pm_nd c from rfl, ej, nI_clamp (by omega), hR]
  refine ⟨vp_in_nI hj (by omega), ?_⟩
  by_cases hr : R (pm_fj c n) = true
  · rw [if_pos hr]
    refine br_f (by decide) (hnew ?_)
    unfold pm_pl; exact if_pos hr
  · rw [if_neg hr]
    have epl : pm_pl R (pm_d c) (pm_nd c) n = pm_ix (pm_d c) (pm_nd c) n := by
      unfold pm_pl; exact if_neg hr
    refine br_t rfl (yr_find rD hnv (yr_DB I.1) (by omega) (by omega) ?_)
    by_cases g1 : pm_ix (pm_d c) (pm_nd c) n < pm_nv (pm_d c)
    · rw [if_pos g1]
      have hlt : pm_pl R (pm_d c) (pm_nd c) n < pm_nv (pm_d c) := by omega
      obtain ⟨_, p2, p3⟩ := pm_pl_lt hlt
      have hkk : pm_kk K (pm_d c) (pm_pl R (pm_d c) (pm_nd c) n) = K (pm_fj c n) := by
        simp only [pm_kk]; rw [p2, p3]; rfl
      obtain ⟨m, w1, w2, w3, w4⟩ := (I.1.2.2.2.2.2.1 _ hlt).2.2.2.2.2 (by rw [hkk]; exact hk)
      have hm : (pm_va (pm_d c) (pm_pl R (pm_d c) (pm_nd c) n)).toNatClampNeg = m := by
        rw [w1, nI_clamp (by omega)]
      rw [if_pos hlt, hm] at hg
      have hva := (rD.2 _ hlt).2.2.1
      rw [epl] at hva w1
      have h0 : (0 : Int32) ≤ nI (pm_ix (pm_d c) (pm_nd c) n) := nI_pos' (by omega)
      unfold wY_part_42
      refine br_t h0 ?_
      unfold wY_part_105
      refine nm_r (nI_1 _) ⟨vp_in_nI (by omega) (by omega), nm_r (by rw [nI_clamp (by omega)]) (br_t h0 ⟨vp_in_nI (by omega) (by omega), vp_in_nI (by omega) (by omega), nm_r (by rw [nI_clamp (by omega), nI_clamp (by omega), hva, w1]) ?_⟩)⟩
      refine H0 _ (nI (pm_nn (pm_d c)), nI (pm_nv (pm_d c)), nI (pm_sk c), nI q, x5, nI (pm_at c + 1), a1, a2, a3, a4, a5,
        upd a6 (pm_at c + 1) (nI (q + len)), upd a7 (pm_at c + 1) (nI m)) hg ⟨rfl, rfl, rfl, rfl, rfl, rD, ?_⟩
      intro i hi
      have hi : i ≤ pm_at c + 1 := hi
      show upd a6 (pm_at c + 1) (nI (q + len)) i = nI (pm_u (pm_lim c) (pm_at c + 1) (q + len) i) ∧ upd a7 (pm_at c + 1) (nI m) i = nI (pm_u (pm_ins c) (pm_at c + 1) m i)
      by_cases g4 : i = pm_at c + 1
      · rw [pm_upd_eq, if_pos g4, pm_upd_eq, if_pos g4, g4, pm_us, pm_us]; exact ⟨rfl, rfl⟩
      · rw [pm_upd_eq, if_neg g4, pm_upd_eq, if_neg g4, pm_un g4, pm_un g4]
        exact rA i (by omega)
    · rw [if_neg g1]
      exact hnew (by omega)
end
section
variable {yf_down yf_heads yf_paid yf_payload yf_wants yf_name yf_first yf_counts yf_enters yf_most yf_many yf_sent yf_last yf_nodes yf_values yf_skipped yf_pos yf_there yf_number yf_at : Int32} {ya_kind ya_repeated ya_how ya_code ya_coming ya_going ya_type ya_headers ya_header ya_queued ya_otherEnded ya_ended ya_finishing ya_queue ya_prefix ya_length ya_got ya_high ya_whole ya_has ya_bytes ya_frame ya_payloads ya_table ya_out ya_nodeType ya_valueNode ya_valueNumber ya_value ya_from ya_limit ya_inside ya_sizes : Nat → Int32} {s q e T : Nat} {tx B : Nat → Nat} {K : Nat → Nat} {R : Nat → Bool} {L : Nat} {dep : Nat → Nat} {c : pm_C} {z : yr_Z} {a1 a2 a3 a4 a5 a6 a7 : Nat → Int32}
/-- what is left behind a tag that is no plain single -/
theorem yr_175 {r g : Nat × pm_C} {m n w : Nat} {x5 x7 x9 : Int32} {kk : Nat} (rD : yr_D (pm_d c) a1 a2 a3 a4 a5) (rA : ∀ i, i ≤ pm_at c → a6 i = nI (pm_lim c i) ∧ a7 i = nI (pm_ins c i))
    (I : pm_CI K R L dep c) (hr : pm_row c = 0) (hL : L ≤ 200) (hK : cr_K ya_kind ya_repeated K R) (hx : yr_B tx s B) (hs : s < 8) (hT : T ≤ 200)
    (h0 : pm_pos c < q) (hq : q ≤ pm_lim c (pm_at c)) (hqT : q ≤ T) (hn : 1 ≤ n)
    (hkk : kk = if 15 < n then 0 else K (pm_fj c n)) (hx7 : n ≤ 15 → x7 = nI (pm_fj c n)) (hx9 : x9 = if 1 ≤ kk ∧ kk ≤ 3 then 1 else 0)
    (hw : w = 0 ∨ w = 1 ∨ w = 2 ∨ w = 5) (hpl : ¬ (1 ≤ kk ∧ kk ≤ 3 ∧ w = if kk = 3 then 5 else 0))
    (hg : g = if w = 0 then pm_goV B K R T c 0 q 0 else if w = 2 then pm_goL B K R T c (pm_fl K R c n 2) q 0 else pm_goF B R T c 0 q (if w = 1 then 8 else 4))
    (hI : ∀ c', g = (0, c') → ∃ dep', pm_CI K R L dep' c' ∧ pm_pos c' ≤ T)
    (hrd0 : ∀ c', g = (0, c') → pm_rd B K R T m c' = some r) (hrdE : g.1 ≠ 0 → r = g) {post : Int32 → SY → Prop}
    (H0 : ∀ dep' m' c' (z' : yr_Z), m' ≤ m → pm_rd B K R T m' c' = some r → pm_row c' = 0 → pm_CI K R L dep' c' → pm_pos c' ≤ T → yr_ok c' (pm_pos c') z' → post 0 (yf_down, yf_heads, yf_paid, yf_payload, yf_wants, yf_name, yf_first, yf_counts, yf_enters, yf_most, yf_many, yf_sent, yf_last, z'.1, z'.2.1, z'.2.2.1, z'.2.2.2.1, nI T, z'.2.2.2.2.1, z'.2.2.2.2.2.1, ya_kind, ya_repeated, ya_how, ya_code, ya_coming, ya_going, ya_type, ya_headers, ya_header, ya_queued, ya_otherEnded, ya_ended, ya_finishing, ya_queue, ya_prefix, ya_length, ya_got, ya_high, ya_whole, ya_has, an_g tx, ya_frame, ya_payloads, ya_table, ya_out, z'.2.2.2.2.2.2.1, z'.2.2.2.2.2.2.2.1, z'.2.2.2.2.2.2.2.2.1, z'.2.2.2.2.2.2.2.2.2.1, z'.2.2.2.2.2.2.2.2.2.2.1, z'.2.2.2.2.2.2.2.2.2.2.2.1, z'.2.2.2.2.2.2.2.2.2.2.2.2, ya_sizes))
    (HE : ∀ (z' : yr_Z), r.1 ≠ 0 → post (yr_c r.1) (yf_down, yf_heads, yf_paid, yf_payload, yf_wants, yf_name, yf_first, yf_counts, yf_enters, yf_most, yf_many, yf_sent, yf_last, z'.1, z'.2.1, z'.2.2.1, z'.2.2.2.1, nI T, z'.2.2.2.2.1, z'.2.2.2.2.2.1, ya_kind, ya_repeated, ya_how, ya_code, ya_coming, ya_going, ya_type, ya_headers, ya_header, ya_queued, ya_otherEnded, ya_ended, ya_finishing, ya_queue, ya_prefix, ya_length, ya_got, ya_high, ya_whole, ya_has, an_g tx, ya_frame, ya_payloads, ya_table, ya_out, z'.2.2.2.2.2.2.1, z'.2.2.2.2.2.2.2.1, z'.2.2.2.2.2.2.2.2.1, z'.2.2.2.2.2.2.2.2.2.1, z'.2.2.2.2.2.2.2.2.2.2.1, z'.2.2.2.2.2.2.2.2.2.2.2.1, z'.2.2.2.2.2.2.2.2.2.2.2.2, ya_sizes)) :
    wY_element_175 post (nI s) (nI (pm_pos c)) (nI (pm_lim c (pm_at c))) (nI w) (nI n) x7 (nI kk + (-1)) x9 0 yf_down yf_heads yf_paid yf_payload yf_wants yf_name yf_first yf_counts yf_enters yf_most yf_many yf_sent yf_last (nI (pm_nn (pm_d c))) (nI (pm_nv (pm_d c))) (nI (pm_sk c)) (nI q) (nI T) (x5) (nI (pm_at c)) ya_kind ya_repeated ya_how ya_code ya_coming ya_going ya_type ya_headers ya_header ya_queued ya_otherEnded ya_ended ya_finishing ya_queue ya_prefix ya_length ya_got ya_high ya_whole ya_has (an_g tx) ya_frame ya_payloads ya_table ya_out (a1) (a2) (a3) (a4) (a5) (a6) (a7) ya_sizes := by
  have he : pm_end c = pm_lim c (pm_at c) := by unfold pm_end; exact if_pos hr
  have hl := pm_lim_le I (pm_at c) (Nat.le_refl _)
  have hk8 : kk ≤ 8 := by
    rw [hkk]; split
    · omega
    · exact hK.1 _
  have yk := yr_k kk hk8
  have F0 : ∀ c' (z' : yr_Z), g = (0, c') → pm_row c' = 0 → yr_ok c' (pm_pos c') z' → post 0 (yf_down, yf_heads, yf_paid, yf_payload, yf_wants, yf_name, yf_first, yf_counts, yf_enters, yf_most, yf_many, yf_sent, yf_last, z'.1, z'.2.1, z'.2.2.1, z'.2.2.2.1, nI T, z'.2.2.2.2.1, z'.2.2.2.2.2.1, ya_kind, ya_repeated, ya_how, ya_code, ya_coming, ya_going, ya_type, ya_headers, ya_header, ya_queued, ya_otherEnded, ya_ended, ya_finishing, ya_queue, ya_prefix, ya_length, ya_got, ya_high, ya_whole, ya_has, an_g tx, ya_frame, ya_payloads, ya_table, ya_out, z'.2.2.2.2.2.2.1, z'.2.2.2.2.2.2.2.1, z'.2.2.2.2.2.2.2.2.1, z'.2.2.2.2.2.2.2.2.2.1, z'.2.2.2.2.2.2.2.2.2.2.1, z'.2.2.2.2.2.2.2.2.2.2.2.1, z'.2.2.2.2.2.2.2.2.2.2.2.2, ya_sizes) := by
    intro c' z' h1 h2 h3
    obtain ⟨dep', i1, i2⟩ := hI c' h1
    exact H0 dep' m c' z' (Nat.le_refl _) (hrd0 c' h1) h2 i1 i2 h3
  have FE : ∀ x (z' : yr_Z), g.1 = x → x ≠ 0 → post (yr_c x) (yf_down, yf_heads, yf_paid, yf_payload, yf_wants, yf_name, yf_first, yf_counts, yf_enters, yf_most, yf_many, yf_sent, yf_last, z'.1, z'.2.1, z'.2.2.1, z'.2.2.2.1, nI T, z'.2.2.2.2.1, z'.2.2.2.2.2.1, ya_kind, ya_repeated, ya_how, ya_code, ya_coming, ya_going, ya_type, ya_headers, ya_header, ya_queued, ya_otherEnded, ya_ended, ya_finishing, ya_queue, ya_prefix, ya_length, ya_got, ya_high, ya_whole, ya_has, an_g tx, ya_frame, ya_payloads, ya_table, ya_out, z'.2.2.2.2.2.2.1, z'.2.2.2.2.2.2.2.1, z'.2.2.2.2.2.2.2.2.1, z'.2.2.2.2.2.2.2.2.2.1, z'.2.2.2.2.2.2.2.2.2.2.1, z'.2.2.2.2.2.2.2.2.2.2.2.1, z'.2.2.2.2.2.2.2.2.2.2.2.2, ya_sizes) := by
    intro x z' h1 h2
    have hr : r = g := hrdE (by rw [h1]; exact h2)
    have := HE z' (by rw [hr, h1]; exact h2)
    rw [hr, h1] at this
    exact this
  unfold wY_element_175
  refine br_t rfl ?_
  have h360 : ∀ p x, p ≤ pm_end c → pm_pos c ≤ p → g = pm_fin R c 0 p 0 0 → wY_element_360 post (nI (pm_pos c)) 0 yf_down yf_heads yf_paid yf_payload yf_wants yf_name yf_first yf_counts yf_enters yf_most yf_many yf_sent yf_last (nI (pm_nn (pm_d c))) (nI (pm_nv (pm_d c))) (nI (pm_sk c)) (nI p) (nI T) (x) (nI (pm_at c)) ya_kind ya_repeated ya_how ya_code ya_coming ya_going ya_type ya_headers ya_header ya_queued ya_otherEnded ya_ended ya_finishing ya_queue ya_prefix ya_length ya_got ya_high ya_whole ya_has (an_g tx) ya_frame ya_payloads ya_table ya_out (a1) (a2) (a3) (a4) (a5) (a6) (a7) ya_sizes := by
    intro p x _ hp hgf
    unfold wY_element_360
    refine br_t rfl (nm_r (by rw [pk_sub hp, nI_add]) ?_)
    unfold pm_fin at hgf
    rw [if_pos rfl] at hgf
    exact F0 _ (nI (pm_nn (pm_d c)), nI (pm_nv (pm_d c)), nI (pm_sk c + (p - pm_pos c)), nI p, x, nI (pm_at c), a1, a2, a3, a4, a5, a6, a7) hgf hr ⟨rfl, rfl, rfl, rfl, rfl, rD, rA⟩
  have h360e : ∀ x p y, x ≤ 9 → x ≠ 0 → g.1 = x → wY_element_360 post (nI (pm_pos c)) (yr_c x) yf_down yf_heads yf_paid yf_payload yf_wants yf_name yf_first yf_counts yf_enters yf_most yf_many yf_sent yf_last (nI (pm_nn (pm_d c))) (nI (pm_nv (pm_d c))) (nI (pm_sk c)) (nI p) (nI T) (y) (nI (pm_at c)) ya_kind ya_repeated ya_how ya_code ya_coming ya_going ya_type ya_headers ya_header ya_queued ya_otherEnded ya_ended ya_finishing ya_queue ya_prefix ya_length ya_got ya_high ya_whole ya_has (an_g tx) ya_frame ya_payloads ya_table ya_out (a1) (a2) (a3) (a4) (a5) (a6) (a7) ya_sizes := by
    intro x p y h9 hx0 hgx
    unfold wY_element_360
    exact br_f (yr_ne x h9 hx0) (FE x (nI (pm_nn (pm_d c)), nI (pm_nv (pm_d c)), nI (pm_sk c), nI p, y, nI (pm_at c), a1, a2, a3, a4, a5, a6, a7) hgx hx0)
  have hskip : ∀ v, g = pm_goF B R T c 0 q v → v = 8 ∨ v = 4 → wY_element_354 post (nI (pm_pos c)) (nI (pm_lim c (pm_at c))) (nI v) yf_down yf_heads yf_paid yf_payload yf_wants yf_name yf_first yf_counts yf_enters yf_most yf_many yf_sent yf_last (nI (pm_nn (pm_d c))) (nI (pm_nv (pm_d c))) (nI (pm_sk c)) (nI q) (nI T) (x5) (nI (pm_at c)) ya_kind ya_repeated ya_how ya_code ya_coming ya_going ya_type ya_headers ya_header ya_queued ya_otherEnded ya_ended ya_finishing ya_queue ya_prefix ya_length ya_got ya_high ya_whole ya_has (an_g tx) ya_frame ya_payloads ya_table ya_out (a1) (a2) (a3) (a4) (a5) (a6) (a7) ya_sizes := by
    intro v hv hv8
    unfold wY_element_354
    refine yr_skip (n := v) (by omega) hT hqT (by omega) (by omega) (fun g1 g2 => ?_) (fun g1 g2 => ?_) (fun g1 g2 => ?_) (fun g1 g2 => ?_)
    · exact h360e 9 q x5 (by omega) (by omega) (by rw [hv, pm_goF_9 (by omega) (by omega)])
    · exact h360e 4 q x5 (by omega) (by omega) (by rw [hv, pm_goF_e (by omega) (by omega)])
    · exact h360e 9 q x5 (by omega) (by omega) (by rw [hv, pm_goF_9 (by omega) (by omega)])
    · rw [pm_goF_d (by omega) (by omega)] at hv
      exact h360 (q + v) x5 (by omega) (by omega) (by rw [hv]; unfold pm_fin; rw [if_pos rfl, if_pos rfl])
  rcases hw with hw | hw | hw | hw
  · subst hw
    rw [if_pos rfl] at hg
    refine br_f (by decide) (br_t rfl (yr_var hx hs hT (by omega) hqT (fun cc k' hv => ?_)))
    unfold pm_goV at hg
    rw [he, show 10 - 0 = 10 from rfl, hv] at hg
    dsimp only at hg
    have hc9 : cc ≤ 9 := by
      have := pm_vr_lt (B := B) (p := q) (e := pm_lim c (pm_at c)) (T := T) 10 0
      rw [hv] at this; exact this
    by_cases hc : cc = 0
    · subst hc
      rw [if_pos rfl] at hg
      have := pm_vr_ok _ _ (by omega) (by omega) hv
      exact h360 (q + k') _ (by omega) (by omega) (by rw [hg]; unfold pm_fin; rw [if_pos rfl, if_pos rfl])
    · rw [if_neg hc] at hg
      exact h360e cc _ _ hc9 hc (by rw [hg])
  · subst hw
    rw [if_neg (by decide), if_neg (by decide), if_pos rfl] at hg
    exact br_f (by decide) (br_f (by decide) (br_t rfl (hskip 8 hg (Or.inl rfl))))
  · subst hw
    rw [if_neg (by decide), if_pos rfl] at hg
    refine br_t rfl (yr_var hx hs hT (by omega) hqT (fun cc k' hv => ?_))
    unfold pm_goL at hg
    rw [show 10 - 0 = 10 from rfl, hv] at hg
    dsimp only at hg
    have hc9 : cc ≤ 9 := by
      have := pm_vr_lt (B := B) (p := q) (e := pm_lim c (pm_at c)) (T := T) 10 0
      rw [hv] at this; exact this
    by_cases hc : cc = 0
    · subst hc
      rw [if_pos rfl] at hg
      have hv' := pm_vr_ok _ _ (by omega) (by omega) hv
      refine br_t rfl ?_
      generalize pm_vs B q k' = x at hg ⊢
      unfold pm_len at hg
      refine br_c (fun hneg => ?_) (fun hneg => ?_)
      · rw [if_pos (Or.inl hneg)] at hg
        exact FE 4 (nI (pm_nn (pm_d c)), nI (pm_nv (pm_d c)), nI (pm_sk c), nI (q + k'), x, nI (pm_at c), a1, a2, a3, a4, a5, a6, a7) (by rw [hg]) (by omega)
      obtain ⟨len, hlen, rfl⟩ := nI_of hneg
      rw [nI_clamp hlen] at hg
      refine pk_le len (pm_lim c (pm_at c) - (q + k')) (fun g1 => ?_) (fun g1 => ?_) rfl (pk_sub (by omega))
      · rw [if_neg (by
          intro y; rcases y with y | y
          · exact hneg y
          · omega)] at hg
        have e2 : nI (q + k') + nI len = nI (q + k' + len) := nI_add _ _
        have h311 : pm_fl K R c n 2 = 0 → wY_element_311 post (nI (pm_pos c)) (nI (pm_lim c (pm_at c))) yf_down yf_heads yf_paid yf_payload yf_wants yf_name yf_first yf_counts yf_enters yf_most yf_many yf_sent yf_last (nI (pm_nn (pm_d c))) (nI (pm_nv (pm_d c))) (nI (pm_sk c)) (nI (q + k')) (nI T) ((nI len)) (nI (pm_at c)) ya_kind ya_repeated ya_how ya_code ya_coming ya_going ya_type ya_headers ya_header ya_queued ya_otherEnded ya_ended ya_finishing ya_queue ya_prefix ya_length ya_got ya_high ya_whole ya_has (an_g tx) ya_frame ya_payloads ya_table ya_out (a1) (a2) (a3) (a4) (a5) (a6) (a7) ya_sizes := by
          intro hf
          rw [hf] at hg
          unfold pm_body at hg
          rw [if_pos rfl] at hg
          unfold wY_element_311
          refine yr_skip (n := len) (by omega) hT (by omega) (by omega) (by omega) (fun g2 _ => absurd g2 (by omega)) (fun g2 _ => absurd g2 (by omega)) (fun g2 g3 => ?_) (fun g2 g3 => ?_)
          · rw [if_pos g3] at hg
            exact h360e 9 _ _ (by omega) (by omega) (by rw [hg])
          · rw [if_neg (by omega)] at hg
            exact h360 _ _ (by omega) (by omega) hg
        have hf0 : ∀ (y : n ≤ 15), kk = K (pm_fj c n) := by
          intro y; rw [hkk, if_neg (by omega)]
        refine br_c (fun h83 => ?_) (fun h83 => ?_)
        · refine br_c (fun h8 => ?_) (fun h8 => ?_)
          · have hk4 := yk.2.2.2.2.2.1.mp h8
            have hn15 : n ≤ 15 := by
              rcases Nat.lt_or_ge 15 n with y | y
              · rw [hkk, if_pos y] at hk4; omega
              · exact y
            have hkn := hf0 hn15
            have hf : pm_fl K R c n 2 = n := by
              unfold pm_fl
              rw [if_neg (by omega), if_neg (by omega), if_pos (Or.inl (by rw [← hkn, hk4]; decide))]
            rw [hf] at hg
            exact yr_row rD rA I hL hK hT (by omega) rfl (by omega) hn hn15 (by omega) hg (fun c' z' g2 g3 => F0 c' z' g2 (by
              have : pm_row (pm_body K R T c n (q + k') len).2 = 0 := by
                unfold pm_body
                rw [if_neg (by omega), if_pos (by omega)]
                split
                · exact hr
                split
                · exact hr
                · rw [pm_fin_r]; exact hr
              rw [← hg, g2] at this
              exact this) g3) FE
          · have hk4 : kk ≠ 4 := fun y => h8 (yk.2.2.2.2.2.1.mpr y)
            have hk4' : kk ≤ 4 := yk.2.2.2.2.1.mp h83
            by_cases hsc : 1 ≤ kk ∧ kk ≤ 3
            · rw [if_pos hsc] at hx9
              have hn15 : n ≤ 15 := by
                rcases Nat.lt_or_ge 15 n with y | y
                · rw [hkk, if_pos y] at hsc; omega
                · exact y
              have hkn := hf0 hn15
              have hin := I.2.2.2.2.1 (pm_at c) (Nat.le_refl _)
              have hty := (I.1.2.2.2.2.1 _ hin.1).1
              have hj : pm_fj c n < 64 := by
                show 16 * pm_nt (pm_d c) (pm_ins c (pm_at c)) + n < 64; omega
              rw [hx9, hx7 hn15, nI_clamp (by omega), hK.2.2 _ hj]
              refine br_f (by decide) ⟨vp_in_nI hj (by omega), ?_⟩
              by_cases hR : R (pm_fj c n) = true
              · rw [if_pos hR]
                have hf : pm_fl K R c n 2 = n := by
                  unfold pm_fl
                  rw [if_neg (by omega), if_neg (by omega), if_pos (Or.inr ⟨rfl, hR⟩)]
                rw [hf] at hg
                unfold pm_body at hg
                rw [if_neg (by omega), if_neg (by omega), if_neg (by omega)] at hg
                refine br_f (by decide) ?_
                rw [e2]
                unfold wpY_packed
                obtain ⟨dep', i1, i2⟩ := hI _ hg
                refine ⟨m + 1, yr_packed (dep := dep') hL hK hx hs hT m (q + k', pm_at c, q + k' + len, n, pm_sk c, pm_lim c, pm_ins c, pm_d c) (nI (pm_nn (pm_d c)), nI (pm_nv (pm_d c)), nI (pm_sk c), nI (q + k'), nI len, nI (pm_at c), a1, a2, a3, a4, a5, a6, a7)
                  (hrd0 _ hg) rfl (by omega) rfl (hf0 hn15).symm i1 ⟨rfl, rfl, rfl, rfl, rfl, rD, rA⟩ i2 (fun m' c' z' h1 h2 h3 h4 h5 h6 => H0 dep' m' c' z' (by omega) h2 h3 h4 h5 h6) HE⟩
              · rw [if_neg hR]
                exact br_t rfl (h311 (by
                  unfold pm_fl
                  rw [if_neg (by omega), if_neg (by omega), if_neg (by
                    intro y
                    rcases y with y | y
                    · rw [← hkn] at y
                      unfold pm_w at y
                      split at y
                      · omega
                      · split at y <;> omega
                    · exact hR y.2)]))
            · rw [if_neg hsc] at hx9
              rw [hx9]
              have hk0 : kk = 0 := by omega
              refine br_t rfl (h311 ?_)
              unfold pm_fl
              split
              · rfl
              · rename_i y
                rw [hkk, if_neg y] at hk0
                rw [if_pos hk0]
        · have hk5 : 4 < kk := by
            rcases Nat.lt_or_ge 4 kk with y | y
            · exact y
            · exact absurd (yk.2.2.2.2.1.mpr y) h83
          have hn15 : n ≤ 15 := by
            rcases Nat.lt_or_ge 15 n with y | y
            · rw [hkk, if_pos y] at hk5; omega
            · exact y
          have hkn := hf0 hn15
          have hf : pm_fl K R c n 2 = n := by
            unfold pm_fl
            rw [if_neg (by omega), if_neg (by omega), if_pos (Or.inl (by
              rw [← hkn]; unfold pm_w
              rw [if_neg (by omega), if_neg (by omega)]))]
          rw [hf] at hg
          unfold pm_body at hg
          rw [if_neg (by omega), if_neg (by omega), if_pos (by omega), ← hkn] at hg
          rw [yk.2.2.2.2.2.2 hk5, e2]
          exact yr_part rD rA I hK hn hn15 (by omega) hg (fun c' z' g2 g3 => F0 c' z' g2 (by
            have : pm_row (pm_part R c n (kk - 5) (q + k') len).2 = 0 ∨ (pm_part R c n (kk - 5) (q + k') len).1 ≠ 0 := by
              unfold pm_part
              split
              · left; rfl
              split
              · right; show (5 : Nat) ≠ 0; omega
              · left; rfl
            rw [← hg, g2] at this
            rcases this with y | y
            · exact y
            · exact absurd rfl y) g3) FE
      · rw [if_pos (Or.inr (by omega))] at hg
        exact FE 4 (nI (pm_nn (pm_d c)), nI (pm_nv (pm_d c)), nI (pm_sk c), nI (q + k'), nI len, nI (pm_at c), a1, a2, a3, a4, a5, a6, a7) (by rw [hg]) (by omega)
    · rw [if_neg hc] at hg
      exact br_f (yr_ne cc hc9 hc) (FE cc (nI (pm_nn (pm_d c)), nI (pm_nv (pm_d c)), nI (pm_sk c), nI (q + k'), _, nI (pm_at c), a1, a2, a3, a4, a5, a6, a7) (by rw [hg]) hc)
  · subst hw
    rw [if_neg (by decide), if_neg (by decide), if_neg (by decide)] at hg
    exact br_f (by decide) (br_f (by decide) (br_f (by decide) (hskip 4 hg (Or.inr rfl))))
end
end
section
/-! M: how the reference reads an element and the whole -/
section
variable {yf_down yf_heads yf_paid yf_payload yf_wants yf_name yf_first yf_counts yf_enters yf_most yf_many yf_sent yf_last yf_nodes yf_values yf_skipped yf_pos yf_there yf_number yf_at : Int32} {ya_kind ya_repeated ya_how ya_code ya_coming ya_going ya_type ya_headers ya_header ya_queued ya_otherEnded ya_ended ya_finishing ya_queue ya_prefix ya_length ya_got ya_high ya_whole ya_has ya_bytes ya_frame ya_payloads ya_table ya_out ya_nodeType ya_valueNode ya_valueNumber ya_value ya_from ya_limit ya_inside ya_sizes : Nat → Int32} {s q e T : Nat} {tx B : Nat → Nat} {K : Nat → Nat} {R : Nat → Bool} {L : Nat} {dep : Nat → Nat} {c : pm_C} {z : yr_Z} {a1 a2 a3 a4 a5 a6 a7 : Nat → Int32}
theorem yr_elem {r g : Nat × pm_C} {m : Nat} (hz : yr_ok c (pm_pos c) z) (I : pm_CI K R L dep c) (hr : pm_row c = 0) (hL : L ≤ 200) (hK : cr_K ya_kind ya_repeated K R) (hx : yr_B tx s B) (hs : s < 8) (hT : T ≤ 200)
    (hp : pm_pos c ≤ T) (hg : g = pm_goT B K R T c 0)
    (hrd0 : ∀ c', g = (0, c') → pm_rd B K R T m c' = some r) (hrdE : g.1 ≠ 0 → r = g) {post : Int32 → SY → Prop}
    (H0 : ∀ dep' m' c' (z' : yr_Z), m' ≤ m → pm_rd B K R T m' c' = some r → pm_row c' = 0 → pm_CI K R L dep' c' → pm_pos c' ≤ T → yr_ok c' (pm_pos c') z' → post 0 (yf_down, yf_heads, yf_paid, yf_payload, yf_wants, yf_name, yf_first, yf_counts, yf_enters, yf_most, yf_many, yf_sent, yf_last, z'.1, z'.2.1, z'.2.2.1, z'.2.2.2.1, nI T, z'.2.2.2.2.1, z'.2.2.2.2.2.1, ya_kind, ya_repeated, ya_how, ya_code, ya_coming, ya_going, ya_type, ya_headers, ya_header, ya_queued, ya_otherEnded, ya_ended, ya_finishing, ya_queue, ya_prefix, ya_length, ya_got, ya_high, ya_whole, ya_has, an_g tx, ya_frame, ya_payloads, ya_table, ya_out, z'.2.2.2.2.2.2.1, z'.2.2.2.2.2.2.2.1, z'.2.2.2.2.2.2.2.2.1, z'.2.2.2.2.2.2.2.2.2.1, z'.2.2.2.2.2.2.2.2.2.2.1, z'.2.2.2.2.2.2.2.2.2.2.2.1, z'.2.2.2.2.2.2.2.2.2.2.2.2, ya_sizes))
    (HE : ∀ (z' : yr_Z), r.1 ≠ 0 → post (yr_c r.1) (yf_down, yf_heads, yf_paid, yf_payload, yf_wants, yf_name, yf_first, yf_counts, yf_enters, yf_most, yf_many, yf_sent, yf_last, z'.1, z'.2.1, z'.2.2.1, z'.2.2.2.1, nI T, z'.2.2.2.2.1, z'.2.2.2.2.2.1, ya_kind, ya_repeated, ya_how, ya_code, ya_coming, ya_going, ya_type, ya_headers, ya_header, ya_queued, ya_otherEnded, ya_ended, ya_finishing, ya_queue, ya_prefix, ya_length, ya_got, ya_high, ya_whole, ya_has, an_g tx, ya_frame, ya_payloads, ya_table, ya_out, z'.2.2.2.2.2.2.1, z'.2.2.2.2.2.2.2.1, z'.2.2.2.2.2.2.2.2.1, z'.2.2.2.2.2.2.2.2.2.1, z'.2.2.2.2.2.2.2.2.2.2.1, z'.2.2.2.2.2.2.2.2.2.2.2.1, z'.2.2.2.2.2.2.2.2.2.2.2.2, ya_sizes)) :
    wpY_element post (yf_down, yf_heads, yf_paid, yf_payload, yf_wants, yf_name, yf_first, yf_counts, yf_enters, yf_most, yf_many, yf_sent, yf_last, z.1, z.2.1, z.2.2.1, z.2.2.2.1, nI T, z.2.2.2.2.1, z.2.2.2.2.2.1, ya_kind, ya_repeated, ya_how, ya_code, ya_coming, ya_going, ya_type, ya_headers, ya_header, ya_queued, ya_otherEnded, ya_ended, ya_finishing, ya_queue, ya_prefix, ya_length, ya_got, ya_high, ya_whole, ya_has, an_g tx, ya_frame, ya_payloads, ya_table, ya_out, z.2.2.2.2.2.2.1, z.2.2.2.2.2.2.2.1, z.2.2.2.2.2.2.2.2.1, z.2.2.2.2.2.2.2.2.2.1, z.2.2.2.2.2.2.2.2.2.2.1, z.2.2.2.2.2.2.2.2.2.2.2.1, z.2.2.2.2.2.2.2.2.2.2.2.2, ya_sizes) (nI s) := by
  obtain ⟨z1, z2, z3, z4, z5, z6, a1, a2, a3, a4, a5, a6, a7⟩ := z
  dsimp only [yr_ok] at hz
  obtain ⟨rfl, rfl, rfl, rfl, rfl, rD, rA⟩ := hz
  have he : pm_end c = pm_lim c (pm_at c) := by unfold pm_end; exact if_pos hr
  have hpe := I.2.2.2.2.2.2.1
  have hl := pm_lim_le I (pm_at c) (Nat.le_refl _)
  have h3 := I.2.1
  have hin := I.2.2.2.2.1 (pm_at c) (Nat.le_refl _)
  have hty := (I.1.2.2.2.2.1 _ hin.1).1
  have hnn := I.1.2.1
  have hI : ∀ c', g = (0, c') → ∃ dep', pm_CI K R L dep' c' ∧ pm_pos c' ≤ T := by
    intro c' h
    obtain ⟨dep', i1, i2, i3⟩ := pm_goT_I I hr hK.1 hp hL (hg.symm.trans h)
    exact ⟨dep', i1, i3⟩
  have F0 : ∀ c' (z' : yr_Z), g = (0, c') → pm_row c' = 0 → yr_ok c' (pm_pos c') z' → post 0 (yf_down, yf_heads, yf_paid, yf_payload, yf_wants, yf_name, yf_first, yf_counts, yf_enters, yf_most, yf_many, yf_sent, yf_last, z'.1, z'.2.1, z'.2.2.1, z'.2.2.2.1, nI T, z'.2.2.2.2.1, z'.2.2.2.2.2.1, ya_kind, ya_repeated, ya_how, ya_code, ya_coming, ya_going, ya_type, ya_headers, ya_header, ya_queued, ya_otherEnded, ya_ended, ya_finishing, ya_queue, ya_prefix, ya_length, ya_got, ya_high, ya_whole, ya_has, an_g tx, ya_frame, ya_payloads, ya_table, ya_out, z'.2.2.2.2.2.2.1, z'.2.2.2.2.2.2.2.1, z'.2.2.2.2.2.2.2.2.1, z'.2.2.2.2.2.2.2.2.2.1, z'.2.2.2.2.2.2.2.2.2.2.1, z'.2.2.2.2.2.2.2.2.2.2.2.1, z'.2.2.2.2.2.2.2.2.2.2.2.2, ya_sizes) := by
    intro c' z' h1 h2 h3
    obtain ⟨dep', i1, i2⟩ := hI c' h1
    exact H0 dep' m c' z' (Nat.le_refl _) (hrd0 c' h1) h2 i1 i2 h3
  have FE : ∀ x (z' : yr_Z), g.1 = x → x ≠ 0 → post (yr_c x) (yf_down, yf_heads, yf_paid, yf_payload, yf_wants, yf_name, yf_first, yf_counts, yf_enters, yf_most, yf_many, yf_sent, yf_last, z'.1, z'.2.1, z'.2.2.1, z'.2.2.2.1, nI T, z'.2.2.2.2.1, z'.2.2.2.2.2.1, ya_kind, ya_repeated, ya_how, ya_code, ya_coming, ya_going, ya_type, ya_headers, ya_header, ya_queued, ya_otherEnded, ya_ended, ya_finishing, ya_queue, ya_prefix, ya_length, ya_got, ya_high, ya_whole, ya_has, an_g tx, ya_frame, ya_payloads, ya_table, ya_out, z'.2.2.2.2.2.2.1, z'.2.2.2.2.2.2.2.1, z'.2.2.2.2.2.2.2.2.1, z'.2.2.2.2.2.2.2.2.2.1, z'.2.2.2.2.2.2.2.2.2.2.1, z'.2.2.2.2.2.2.2.2.2.2.2.1, z'.2.2.2.2.2.2.2.2.2.2.2.2, ya_sizes) := by
    intro x z' h1 h2
    have hr : r = g := hrdE (by rw [h1]; exact h2)
    have := HE z' (by rw [hr, h1]; exact h2)
    rw [hr, h1] at this
    exact this
  unfold wpY_element
  dsimp only
  refine ⟨vp_in_nI (by omega) (by omega), nm_r (by rw [nI_clamp (by omega), (rA _ (Nat.le_refl _)).1]) (yr_var hx hs hT (by omega) hp (fun cc k' hv => ?_))⟩
  have hc9 : cc ≤ 9 := by
    have := pm_vr_lt (B := B) (p := pm_pos c) (e := pm_lim c (pm_at c)) (T := T) 10 0
    rw [hv] at this; exact this
  unfold pm_goT at hg
  rw [show 10 - 0 = 10 from rfl, hv] at hg
  dsimp only at hg
  by_cases hc : cc = 0
  · subst hc
    rw [if_pos rfl] at hg
    have hv' := pm_vr_ok _ _ (by omega) (by omega) hv
    generalize pm_vs B (pm_pos c) k' = x at hg ⊢
    refine br_t rfl (nm_r (pk_and x 3 (by decide)) (nm_r (yr_u3 x) ?_))
    have hX : x.toBitVec.toNat < 2 ^ 32 := x.toBitVec.isLt
    generalize x.toBitVec.toNat = X at hg hX ⊢
    have h175 : ∀ kk x7 x9 w, X / 8 ≠ 0 → (kk = if 15 < X / 8 then 0 else K (pm_fj c (X / 8))) → (X / 8 ≤ 15 → x7 = nI (pm_fj c (X / 8))) → (x9 = if 1 ≤ kk ∧ kk ≤ 3 then (1 : Int32) else 0) →
        w = X % 8 → (w = 0 ∨ w = 1 ∨ w = 2 ∨ w = 5) → ¬ (1 ≤ kk ∧ kk ≤ 3 ∧ w = if kk = 3 then 5 else 0) →
        wY_element_175 post (nI s) (nI (pm_pos c)) (nI (pm_lim c (pm_at c))) (nI w) (nI (X / 8)) x7 (nI kk + (-1)) x9 0 yf_down yf_heads yf_paid yf_payload yf_wants yf_name yf_first yf_counts yf_enters yf_most yf_many yf_sent yf_last (nI (pm_nn (pm_d c))) (nI (pm_nv (pm_d c))) (nI (pm_sk c)) (nI (pm_pos c + k')) (nI T) (x) (nI (pm_at c)) ya_kind ya_repeated ya_how ya_code ya_coming ya_going ya_type ya_headers ya_header ya_queued ya_otherEnded ya_ended ya_finishing ya_queue ya_prefix ya_length ya_got ya_high ya_whole ya_has (an_g tx) ya_frame ya_payloads ya_table ya_out (a1) (a2) (a3) (a4) (a5) (a6) (a7) ya_sizes := by
      intro kk x7 x9 w hn hkk hx7 hx9 hw hw4 hpl
      refine yr_175 rD rA I hr hL hK hx hs hT (by omega) (by omega) (by omega) (by omega) hkk hx7 hx9 hw4 hpl ?_ hI hrd0 hrdE H0 HE
      have hk8 := hK.1 (pm_fj c (X / 8))
      obtain ⟨w0, w5, w2⟩ := pm_w_0 _ hk8
      rw [hg]
      unfold pm_dis
      rw [if_neg hn, ← hw]
      rcases hw4 with y | y | y | y
      · subst y
        rw [if_pos rfl, if_pos rfl]
        have : pm_fl K R c (X / 8) 0 = 0 := by
          unfold pm_fl
          split
          · rfl
          rename_i y1
          rw [if_neg y1] at hkk
          split
          · rfl
          rename_i y2
          rw [if_neg]
          intro y3
          rcases y3 with y3 | y3
          · have := w0.mp y3.symm
            exact hpl ⟨by omega, by omega, by rw [if_neg (by omega)]⟩
          · exact absurd y3.1 (by decide)
        rw [this]
      · subst y
        rw [if_neg (by decide), if_neg (by decide), if_neg (by decide), if_pos rfl, if_neg (by decide), if_neg (by decide), if_pos rfl]
      · subst y
        rw [if_neg (by decide), if_pos rfl, if_neg (by decide), if_pos rfl]
      · subst y
        rw [if_neg (by decide), if_neg (by decide), if_pos rfl, if_neg (by decide), if_neg (by decide), if_neg (by decide)]
        have : pm_fl K R c (X / 8) 5 = 0 := by
          unfold pm_fl
          split
          · rfl
          rename_i y1
          rw [if_neg y1] at hkk
          split
          · rfl
          rename_i y2
          rw [if_neg]
          intro y3
          rcases y3 with y3 | y3
          · have := w5.mp y3.symm
            exact hpl ⟨by omega, by omega, by rw [if_pos (by omega)]⟩
          · exact absurd y3.1 (by decide)
        rw [this]
    have hsing : ∀ kk x7 x9 w, X / 8 ≠ 0 → X / 8 ≤ 15 → kk = K (pm_fj c (X / 8)) → w = X % 8 → (1 ≤ kk ∧ kk ≤ 3 ∧ w = if kk = 3 then 5 else 0) →
        wY_element_175 post (nI s) (nI (pm_pos c)) (nI (pm_lim c (pm_at c))) (nI w) (nI (X / 8)) x7 (nI kk + (-1)) x9 1 yf_down yf_heads yf_paid yf_payload yf_wants yf_name yf_first yf_counts yf_enters yf_most yf_many yf_sent yf_last (nI (pm_nn (pm_d c))) (nI (pm_nv (pm_d c))) (nI (pm_sk c)) (nI (pm_pos c + k')) (nI T) (x) (nI (pm_at c)) ya_kind ya_repeated ya_how ya_code ya_coming ya_going ya_type ya_headers ya_header ya_queued ya_otherEnded ya_ended ya_finishing ya_queue ya_prefix ya_length ya_got ya_high ya_whole ya_has (an_g tx) ya_frame ya_payloads ya_table ya_out (a1) (a2) (a3) (a4) (a5) (a6) (a7) ya_sizes := by
      intro kk x7 x9 w hn hn15 hkk hw hpl
      obtain ⟨p1, p2, p3⟩ := hpl
      unfold wY_element_175
      refine br_f (by decide) ?_
      refine yr_single (z := (nI (pm_nn (pm_d c)), nI (pm_nv (pm_d c)), nI (pm_sk c), nI (pm_pos c + k'), x, nI (pm_at c), a1, a2, a3, a4, a5, a6, a7)) (g := g) ⟨rfl, rfl, rfl, rfl, rfl, rD, rA⟩ I hL hK hx hs hT (by omega) (by omega) he.symm (by omega) hn15 hkk.symm p1 p2 ?_ (fun c' z' h1 h2 => F0 c' z' h1 ?_ h2) FE
      · rw [hg]
        unfold pm_dis
        rw [if_neg hn, ← hw]
        by_cases y : kk = 3
        · rw [if_pos y] at p3
          rw [p3, if_neg (by decide), if_neg (by decide), if_pos rfl, if_pos y]
          have : pm_fl K R c (X / 8) 5 = X / 8 := by
            unfold pm_fl
            rw [if_neg (by omega), if_neg (by omega), if_pos (Or.inl (by rw [← hkk, y]; decide))]
          rw [this]
        · rw [if_neg y] at p3
          rw [p3, if_pos rfl, if_neg y]
          have : pm_fl K R c (X / 8) 0 = X / 8 := by
            unfold pm_fl
            rw [if_neg (by omega), if_neg (by omega), if_pos (Or.inl (by
              rw [← hkk]; exact ((pm_w_0 kk (by omega)).1.mpr (by omega)).symm))]
          rw [this]
      · have hrow : pm_row (pm_dis B K R T c (pm_pos c + k') X).2 = 0 := by
          unfold pm_dis
          rw [if_neg hn, ← hw]
          by_cases y : kk = 3
          · rw [if_pos y] at p3
            rw [p3, if_neg (by decide), if_neg (by decide), if_pos rfl, pm_goF_r]; exact hr
          · rw [if_neg y] at p3
            rw [p3, if_pos rfl, pm_goV_r]; exact hr
        rw [← hg, h1] at hrow
        exact hrow
    have h129 : ∀ kk x7 w, X / 8 ≠ 0 → (kk = if 15 < X / 8 then 0 else K (pm_fj c (X / 8))) → (X / 8 ≤ 15 → x7 = nI (pm_fj c (X / 8))) → w = X % 8 → (w = 0 ∨ w = 1 ∨ w = 2 ∨ w = 5) →
        wY_element_129 post (nI s) (nI (pm_pos c)) (nI (pm_lim c (pm_at c))) (nI w) (nI (X / 8)) x7 (nI kk + (-1)) yf_down yf_heads yf_paid yf_payload yf_wants yf_name yf_first yf_counts yf_enters yf_most yf_many yf_sent yf_last (nI (pm_nn (pm_d c))) (nI (pm_nv (pm_d c))) (nI (pm_sk c)) (nI (pm_pos c + k')) (nI T) (x) (nI (pm_at c)) ya_kind ya_repeated ya_how ya_code ya_coming ya_going ya_type ya_headers ya_header ya_queued ya_otherEnded ya_ended ya_finishing ya_queue ya_prefix ya_length ya_got ya_high ya_whole ya_has (an_g tx) ya_frame ya_payloads ya_table ya_out (a1) (a2) (a3) (a4) (a5) (a6) (a7) ya_sizes := by
      intro kk x7 w hn hkk hx7 hw hw4
      have hk8 : kk ≤ 8 := by
        rw [hkk]; split
        · omega
        · exact hK.1 _
      have yk := yr_k kk hk8
      have h146 : ¬ (1 ≤ kk ∧ kk ≤ 3) → wY_element_146 post (nI s) (nI (pm_pos c)) (nI (pm_lim c (pm_at c))) (nI w) (nI (X / 8)) x7 (nI kk + (-1)) yf_down yf_heads yf_paid yf_payload yf_wants yf_name yf_first yf_counts yf_enters yf_most yf_many yf_sent yf_last (nI (pm_nn (pm_d c))) (nI (pm_nv (pm_d c))) (nI (pm_sk c)) (nI (pm_pos c + k')) (nI T) (x) (nI (pm_at c)) ya_kind ya_repeated ya_how ya_code ya_coming ya_going ya_type ya_headers ya_header ya_queued ya_otherEnded ya_ended ya_finishing ya_queue ya_prefix ya_length ya_got ya_high ya_whole ya_has (an_g tx) ya_frame ya_payloads ya_table ya_out (a1) (a2) (a3) (a4) (a5) (a6) (a7) ya_sizes := by
        intro y
        unfold wY_element_146 wY_element_147
        refine br_t rfl ?_
        unfold wY_element_174
        exact h175 kk x7 0 w hn hkk hx7 (by rw [if_neg y]) hw hw4 (fun y' => y ⟨y'.1, y'.2.1⟩)
      unfold wY_element_129
      refine br_c (fun y => h146 (by have := yk.2.2.1.mp y; omega)) (fun y => br_c (fun y2 => h146 (by have := yk.2.2.2.1.mp y2; omega)) (fun y2 => ?_))
      have hk1 : 1 ≤ kk := by
        rcases Nat.eq_zero_or_pos kk with y3 | y3
        · exact absurd (yk.2.2.1.mpr y3) y
        · exact y3
      have hk3 : kk ≤ 3 := by
        rcases Nat.lt_or_ge kk 4 with y3 | y3
        · omega
        · exact absurd (yk.2.2.2.1.mpr y3) y2
      have hn15 : X / 8 ≤ 15 := by
        rcases Nat.lt_or_ge 15 (X / 8) with y3 | y3
        · rw [if_pos y3] at hkk; omega
        · exact y3
      have hkn : kk = K (pm_fj c (X / 8)) := by rw [hkk, if_neg (by omega)]
      unfold wY_element_147
      refine br_f (by decide) (br_c (fun y3 => ?_) (fun y3 => ?_))
      · have y4 := yk.1.mp y3
        unfold wY_element_167
        refine pk_eq w 5 (fun y5 => hsing kk x7 1 w hn hn15 hkn hw ⟨hk1, hk3, by rw [if_pos y4]; exact y5⟩) (fun y5 => ?_) rfl rfl (by omega) (by omega)
        unfold wY_element_174
        exact h175 kk x7 1 w hn hkk hx7 (by rw [if_pos ⟨hk1, hk3⟩]) hw hw4 (fun y' => y5 (by have := y'.2.2; rw [if_pos y4] at this; exact this))
      · have y4 : kk ≠ 3 := fun y5 => y3 (yk.1.mpr y5)
        unfold wY_element_167
        refine pk_eq w 0 (fun y5 => hsing kk x7 1 w hn hn15 hkn hw ⟨hk1, hk3, by rw [if_neg y4]; exact y5⟩) (fun y5 => ?_) rfl rfl (by omega) (by omega)
        unfold wY_element_174
        exact h175 kk x7 1 w hn hkk hx7 (by rw [if_pos ⟨hk1, hk3⟩]) hw hw4 (fun y' => y5 (by have := y'.2.2; rw [if_neg y4] at this; exact this))
    have h71 : ∀ w, w = X % 8 → (w = 0 ∨ w = 1 ∨ w = 2 ∨ w = 5) → wY_element_71 post (nI s) (nI (pm_pos c)) (nI (pm_lim c (pm_at c))) (nI w) (nI (X / 8)) yf_down yf_heads yf_paid yf_payload yf_wants yf_name yf_first yf_counts yf_enters yf_most yf_many yf_sent yf_last (nI (pm_nn (pm_d c))) (nI (pm_nv (pm_d c))) (nI (pm_sk c)) (nI (pm_pos c + k')) (nI T) (x) (nI (pm_at c)) ya_kind ya_repeated ya_how ya_code ya_coming ya_going ya_type ya_headers ya_header ya_queued ya_otherEnded ya_ended ya_finishing ya_queue ya_prefix ya_length ya_got ya_high ya_whole ya_has (an_g tx) ya_frame ya_payloads ya_table ya_out (a1) (a2) (a3) (a4) (a5) (a6) (a7) ya_sizes := by
      intro w hw hw4
      unfold wY_element_71
      refine pk_eq (X / 8) 0 (fun y => ?_) (fun y => ?_) rfl rfl (by omega) (by omega)
      · refine FE 2 (nI (pm_nn (pm_d c)), nI (pm_nv (pm_d c)), nI (pm_sk c), nI (pm_pos c + k'), x, nI (pm_at c), a1, a2, a3, a4, a5, a6, a7) ?_ (by omega)
        rw [hg]; unfold pm_dis; rw [if_pos y]
      refine pk_le (X / 8) 15 (fun y2 => ?_) (fun y2 => ?_) rfl rfl (by omega) (by omega)
      · have hj : pm_fj c (X / 8) < 64 := by
          show 16 * pm_nt (pm_d c) (pm_ins c (pm_at c)) + X / 8 < 64; omega
        have ej : 16 * nI (pm_nt (pm_d c) (pm_ins c (pm_at c))) + nI (X / 8) = nI (pm_fj c (X / 8)) := by
          rw [show (16 : Int32) = nI 16 from rfl, pk_mul, nI_add]; rfl
        rw [nI_clamp (show pm_at c < 2 ^ 31 by omega), (rA _ (Nat.le_refl _)).2, nI_clamp (show pm_ins c (pm_at c) < 2 ^ 31 by omega), rD.1 _ hin.1, ej]
        refine ⟨vp_in_nI (by omega) (by omega), vp_in_nI (by omega) (by omega), ?_⟩
        unfold wY_element_109
        refine pk_le (X / 8) 15 (fun _ => ?_) (fun y3 => absurd y3 (by omega)) rfl rfl (by omega) (by omega)
        rw [nI_clamp (by omega), hK.2.1 _ hj]
        exact ⟨vp_in_nI hj (by omega), h129 _ _ w y (by rw [if_neg (by omega)]) (fun _ => rfl) hw hw4⟩
      · unfold wY_element_109
        refine pk_le (X / 8) 15 (fun y3 => absurd y3 (by omega)) (fun _ => ?_) rfl rfl (by omega) (by omega)
        exact h129 0 _ w y (by rw [if_pos y2]) (fun y3 => absurd y3 (by omega)) hw hw4
    refine pk_eq (X % 2 ^ 3) 0 (fun y => h71 _ rfl (by omega)) (fun y0 => ?_) rfl rfl (by omega) (by omega)
    refine pk_eq (X % 2 ^ 3) 1 (fun y => h71 _ rfl (by omega)) (fun y1 => ?_) rfl rfl (by omega) (by omega)
    refine pk_eq (X % 2 ^ 3) 2 (fun y => h71 _ rfl (by omega)) (fun y2 => ?_) rfl rfl (by omega) (by omega)
    refine pk_eq (X % 2 ^ 3) 5 (fun y => h71 _ rfl (by omega)) (fun y5 => ?_) rfl rfl (by omega) (by omega)
    refine FE 2 (nI (pm_nn (pm_d c)), nI (pm_nv (pm_d c)), nI (pm_sk c), nI (pm_pos c + k'), x, nI (pm_at c), a1, a2, a3, a4, a5, a6, a7) ?_ (by omega)
    rw [hg]; unfold pm_dis
    split
    · rfl
    · first | rfl | (rw [if_neg (by omega), if_neg (by omega), if_neg (by omega), if_neg (by omega)])
  · rw [if_neg hc] at hg
    exact br_f (yr_ne cc hc9 hc) (FE cc (nI (pm_nn (pm_d c)), nI (pm_nv (pm_d c)), nI (pm_sk c), nI (pm_pos c + k'), _, nI (pm_at c), a1, a2, a3, a4, a5, a6, a7) (by rw [hg]) hc)
theorem yr_pop {post : Int32 → SY → Prop} {J : Int32 → Int32 → Int32 → Int32 → Int32 → Int32 → Int32 → Int32 → Int32 → Int32 → Int32 → Int32 → Int32 → Int32 → Int32 → Int32 → Int32 → Int32 → Int32 → Int32 → Int32 → (Nat → Int32) → (Nat → Int32) → (Nat → Int32) → (Nat → Int32) → (Nat → Int32) → (Nat → Int32) → (Nat → Int32) → (Nat → Int32) → (Nat → Int32) → (Nat → Int32) → (Nat → Int32) → (Nat → Int32) → (Nat → Int32) → (Nat → Int32) → (Nat → Int32) → (Nat → Int32) → (Nat → Int32) → (Nat → Int32) → (Nat → Int32) → (Nat → Int32) → (Nat → Int32) → (Nat → Int32) → (Nat → Int32) → (Nat → Int32) → (Nat → Int32) → (Nat → Int32) → (Nat → Int32) → (Nat → Int32) → (Nat → Int32) → (Nat → Int32) → (Nat → Int32) → (Nat → Int32) → (Nat → Int32) → Prop} {p : Nat} {lim : Nat → Nat} (hp : p < 2 ^ 31) (hl : ∀ i, lim i < 2 ^ 31) : ∀ a, a ≤ 3 → (∀ i, i ≤ a → ya_limit i = nI (lim i)) →
    wY_read_108 post J (nI s) yf_down yf_heads yf_paid yf_payload yf_wants yf_name yf_first yf_counts yf_enters yf_most yf_many yf_sent yf_last yf_nodes yf_values yf_skipped (nI p) yf_there yf_number (nI (pm_pop lim p a)) ya_kind ya_repeated ya_how ya_code ya_coming ya_going ya_type ya_headers ya_header ya_queued ya_otherEnded ya_ended ya_finishing ya_queue ya_prefix ya_length ya_got ya_high ya_whole ya_has ya_bytes ya_frame ya_payloads ya_table ya_out ya_nodeType ya_valueNode ya_valueNumber ya_value ya_from ya_limit ya_inside ya_sizes →
    wY_read_72 post J (nI s) yf_down yf_heads yf_paid yf_payload yf_wants yf_name yf_first yf_counts yf_enters yf_most yf_many yf_sent yf_last yf_nodes yf_values yf_skipped (nI p) yf_there yf_number ya_kind ya_repeated ya_how ya_code ya_coming ya_going ya_type ya_headers ya_header ya_queued ya_otherEnded ya_ended ya_finishing ya_queue ya_prefix ya_length ya_got ya_high ya_whole ya_has ya_bytes ya_frame ya_payloads ya_table ya_out ya_nodeType ya_valueNode ya_valueNumber ya_value ya_from ya_limit ya_inside ya_sizes (a + 1) (nI a)
  | 0, _, _, H => by
    rw [wY_read_72]
    exact br_t (by decide) H
  | a + 1, ha, hli, H => by
    rw [wY_read_72]
    refine pk_le (a + 1) 0 (fun y => absurd y (by omega)) (fun _ => ⟨vp_in_nI (by omega) (by omega), ?_⟩)
    rw [nI_clamp (by omega), hli (a + 1) (Nat.le_refl _)]
    rw [pm_pop] at H
    have := hl (a + 1)
    refine pk_eq p (lim (a + 1)) (fun y => ?_) (fun y => ?_) rfl rfl hp this
    · rw [if_pos y] at H
      exact nm_r (nI_pred a) (yr_pop hp hl a (by omega) (fun i hi => hli i (by omega)) H)
    · rw [if_neg y] at H
      exact H
end
section
variable {yf_down yf_heads yf_paid yf_payload yf_wants yf_name yf_first yf_counts yf_enters yf_most yf_many yf_sent yf_last yf_nodes yf_values yf_skipped yf_pos yf_there yf_number yf_at : Int32} {ya_kind ya_repeated ya_how ya_code ya_coming ya_going ya_type ya_headers ya_header ya_queued ya_otherEnded ya_ended ya_finishing ya_queue ya_prefix ya_length ya_got ya_high ya_whole ya_has ya_bytes ya_frame ya_payloads ya_table ya_out ya_nodeType ya_valueNode ya_valueNumber ya_value ya_from ya_limit ya_inside ya_sizes : Nat → Int32} {s q e T : Nat} {tx B : Nat → Nat} {K : Nat → Nat} {R : Nat → Bool} {L : Nat} {dep : Nat → Nat} {c : pm_C} {z : yr_Z} {a1 a2 a3 a4 a5 a6 a7 : Nat → Int32}
/-- what a reading answers -/
def yr_a (x : Nat) : Int32 := if x = 9 then 0 else nI x
theorem yr_a9 : ∀ x, x ≤ 9 → x ≠ 0 → ¬ yr_c x = 0 ∧ ((x = 9 → ¬ (0 : Int32) ≤ yr_c x) ∧ (x ≠ 9 → (0 : Int32) ≤ yr_c x ∧ yr_c x = nI x)) := by
  unfold yr_c
  decide +kernel
theorem pm_c9_part {f t q len : Nat} : (pm_part R c f t q len).1 ≤ 9 := by
  unfold pm_part
  split
  · show 0 ≤ 9; omega
  split
  · show 5 ≤ 9; omega
  · show 0 ≤ 9; omega
theorem pm_c9_body {f q len : Nat} : (pm_body K R T c f q len).1 ≤ 9 := by
  unfold pm_body
  split
  · split
    · show 9 ≤ 9; omega
    · exact pm_c9_fin
  split
  · split
    · show 5 ≤ 9; omega
    split
    · show 9 ≤ 9; omega
    · exact pm_c9_fin
  split
  · exact pm_c9_part
  · show 0 ≤ 9; omega
theorem pm_c9_L {B : Nat → Nat} {f d : Nat} : (pm_goL B K R T c f q d).1 ≤ 9 := by
  unfold pm_goL
  split
  · unfold pm_len
    split
    · show 4 ≤ 9; omega
    · exact pm_c9_body
  · exact pm_vr_lt _ _
theorem pm_c9_T {B : Nat → Nat} {d : Nat} : (pm_goT B K R T c d).1 ≤ 9 := by
  unfold pm_goT
  split
  · unfold pm_dis
    split
    · show 2 ≤ 9; omega
    split
    · exact pm_c9_V
    split
    · exact pm_c9_L
    split
    · exact pm_c9_F
    split
    · exact pm_c9_F
    · show 2 ≤ 9; omega
  · exact pm_vr_lt _ _
theorem pm_rd_9 {B : Nat → Nat} {r : Nat × pm_C} : ∀ n c, pm_rd B K R T n c = some r → r.1 ≤ 9
  | 0, c, h => by simp [pm_rd] at h
  | n + 1, c, h => by
    rw [pm_rd] at h
    split at h
    · split at h
      · exact pm_rd_9 n _ h
      split at h
      · exact pm_rd_9 n _ h
      · rw [← Option.some.inj h]; exact pm_c9_S
    split at h
    · rw [← Option.some.inj h]; show 0 ≤ 9; omega
    split at h
    · exact pm_rd_9 n _ h
    · rw [← Option.some.inj h]; exact pm_c9_T
theorem yr_loop {r : Nat × pm_C} (hL : L ≤ 200) (hK : cr_K ya_kind ya_repeated K R) (hx : yr_B tx s B) (hs : s < 8) (hT : T ≤ 200) {post : Int32 → SY → Prop}
    (H0 : ∀ c' (z' : yr_Z), r = (0, c') → yr_ok c' (pm_pos c') z' → post 0 (yf_down, yf_heads, yf_paid, yf_payload, yf_wants, yf_name, yf_first, yf_counts, yf_enters, yf_most, yf_many, yf_sent, yf_last, z'.1, z'.2.1, z'.2.2.1, z'.2.2.2.1, nI T, z'.2.2.2.2.1, z'.2.2.2.2.2.1, ya_kind, ya_repeated, ya_how, ya_code, ya_coming, ya_going, ya_type, ya_headers, ya_header, ya_queued, ya_otherEnded, ya_ended, ya_finishing, ya_queue, ya_prefix, ya_length, ya_got, ya_high, ya_whole, ya_has, an_g tx, ya_frame, ya_payloads, ya_table, ya_out, z'.2.2.2.2.2.2.1, z'.2.2.2.2.2.2.2.1, z'.2.2.2.2.2.2.2.2.1, z'.2.2.2.2.2.2.2.2.2.1, z'.2.2.2.2.2.2.2.2.2.2.1, z'.2.2.2.2.2.2.2.2.2.2.2.1, z'.2.2.2.2.2.2.2.2.2.2.2.2, ya_sizes)) (HE : ∀ (z' : yr_Z), r.1 ≠ 0 → post (yr_a r.1) (yf_down, yf_heads, yf_paid, yf_payload, yf_wants, yf_name, yf_first, yf_counts, yf_enters, yf_most, yf_many, yf_sent, yf_last, z'.1, z'.2.1, z'.2.2.1, z'.2.2.2.1, nI T, z'.2.2.2.2.1, z'.2.2.2.2.2.1, ya_kind, ya_repeated, ya_how, ya_code, ya_coming, ya_going, ya_type, ya_headers, ya_header, ya_queued, ya_otherEnded, ya_ended, ya_finishing, ya_queue, ya_prefix, ya_length, ya_got, ya_high, ya_whole, ya_has, an_g tx, ya_frame, ya_payloads, ya_table, ya_out, z'.2.2.2.2.2.2.1, z'.2.2.2.2.2.2.2.1, z'.2.2.2.2.2.2.2.2.1, z'.2.2.2.2.2.2.2.2.2.1, z'.2.2.2.2.2.2.2.2.2.2.1, z'.2.2.2.2.2.2.2.2.2.2.2.1, z'.2.2.2.2.2.2.2.2.2.2.2.2, ya_sizes)) : ∀ N m n dep c (z : yr_Z), m ≤ N → m < n →
    pm_rd B K R T m c = some r → pm_row c = 0 → pm_CI K R L dep c → pm_pos c ≤ T → yr_ok c (pm_pos c) z →
    wY_read_68 post (nI s) n 0 yf_down yf_heads yf_paid yf_payload yf_wants yf_name yf_first yf_counts yf_enters yf_most yf_many yf_sent yf_last (z.1) (z.2.1) (z.2.2.1) (z.2.2.2.1) (nI T) (z.2.2.2.2.1) (z.2.2.2.2.2.1) ya_kind ya_repeated ya_how ya_code ya_coming ya_going ya_type ya_headers ya_header ya_queued ya_otherEnded ya_ended ya_finishing ya_queue ya_prefix ya_length ya_got ya_high ya_whole ya_has (an_g tx) ya_frame ya_payloads ya_table ya_out (z.2.2.2.2.2.2.1) (z.2.2.2.2.2.2.2.1) (z.2.2.2.2.2.2.2.2.1) (z.2.2.2.2.2.2.2.2.2.1) (z.2.2.2.2.2.2.2.2.2.2.1) (z.2.2.2.2.2.2.2.2.2.2.2.1) (z.2.2.2.2.2.2.2.2.2.2.2.2) ya_sizes
  | 0, m, n, dep, c, z, h1, _, hrd, _, _, _, _ => by
    have : m = 0 := by omega
    subst this
    simp [pm_rd] at hrd
  | N + 1, m, n, dep, c, z, h1, h2, hrd, hr, I, hp, hz => by
    obtain ⟨m, rfl⟩ : ∃ m', m = m' + 1 := ⟨m - 1, by cases m with
      | zero => simp [pm_rd] at hrd
      | succ m => omega⟩
    obtain ⟨n, rfl⟩ : ∃ n', n = n' + 1 := ⟨n - 1, by omega⟩
    obtain ⟨z1, z2, z3, z4, z5, z6, a1, a2, a3, a4, a5, a6, a7⟩ := z
    dsimp only [yr_ok] at hz
    obtain ⟨rfl, rfl, rfl, rfl, rfl, rD, rA⟩ := hz
    have hr9 := pm_rd_9 _ _ hrd
    have I' := pm_CI_pop I hr
    have hpop := pm_pop_s (lim := pm_lim c) (p := pm_pos c) (pm_at c)
    have h3 := I.2.1
    have hl0 := I.2.2.2.1
    have hz' : yr_ok (pm_popC c) (pm_pos (pm_popC c)) (nI (pm_nn (pm_d c)), nI (pm_nv (pm_d c)), nI (pm_sk c), nI (pm_pos c), z5, nI (pm_pop (pm_lim c) (pm_pos c) (pm_at c)), a1, a2, a3, a4, a5, a6, a7) :=
      ⟨rfl, rfl, rfl, rfl, rfl, rD, fun i hi => rA i (Nat.le_trans hi hpop.1)⟩
    rw [wY_read_68]
    refine br_t rfl ⟨pm_at c + 1, ?_⟩
    have hll : ∀ i, (if i ≤ pm_at c then pm_lim c i else 0) < 2 ^ 31 := by
      intro i
      split
      · rename_i y
        have := pm_lim_le I i y
        omega
      · omega
    have epop : ∀ a, a ≤ pm_at c → pm_pop (fun i => if i ≤ pm_at c then pm_lim c i else 0) (pm_pos c) a = pm_pop (pm_lim c) (pm_pos c) a := by
      intro a
      induction a with
      | zero => intro _; rfl
      | succ a ih =>
        intro ha
        rw [pm_pop, pm_pop, if_pos ha, ih (by omega)]
    refine yr_pop (lim := fun i => if i ≤ pm_at c then pm_lim c i else 0) (by omega) hll (pm_at c) h3 (fun i hi => by rw [if_pos hi]; exact (rA i hi).1) ?_
    rw [epop _ (Nat.le_refl _)]
    unfold wY_read_108
    dsimp only
    rw [(rA 0 (by omega)).1]
    rw [pm_rd, if_neg (fun y => y hr)] at hrd
    have hll0 := pm_lim_le I 0 (by omega)
    refine pk_eq (pm_pos c) (pm_lim c 0) (fun y => ?_) (fun y => ?_)
    · rw [if_pos y] at hrd
      exact H0 (pm_popC c) _ (Option.some.inj hrd).symm hz'
    · rw [if_neg y] at hrd
      refine yr_elem (m := m) (r := r) (c := pm_popC c) (g := pm_goT B K R T (pm_popC c) 0) hz' I' hr hL hK hx hs hT hp rfl (fun c' h => ?_) (fun h => ?_) (fun dep' m' c' z' h4 h5 h6 h7 h8 h9 => ?_) (fun z' h4 => ?_)
      · rw [h, if_pos rfl] at hrd
        exact hrd
      · rw [if_neg h] at hrd
        exact (Option.some.inj hrd).symm
      · exact yr_loop hL hK hx hs hT H0 HE N m' n dep' c' z' (by omega) (by omega) h5 h6 h7 h8 h9
      · obtain ⟨n, rfl⟩ : ∃ n', n = n' + 1 := ⟨n - 1, by omega⟩
        obtain ⟨e1, e2, e3⟩ := yr_a9 r.1 hr9 h4
        have hfin := HE z' h4
        unfold yr_a at hfin
        rw [wY_read_68]
        refine br_f e1 ?_
        by_cases h9 : r.1 = 9
        · rw [if_pos h9] at hfin
          exact br_f (e2 h9) hfin
        · rw [if_neg h9] at hfin
          rw [(e3 h9).2]
          exact br_t (by rw [← (e3 h9).2]; exact (e3 h9).1) hfin
theorem cr_0_I {y : Nat} (hy : y < 4) : pm_CI K R L (fun _ => 0) (cr_0 y L) := by
  refine ⟨⟨Nat.le_refl _, by show 1 ≤ 16; omega, Nat.zero_le _, rfl, fun i _ => ⟨hy, Nat.zero_le _⟩, fun j hj => absurd hj (Nat.not_lt_zero _), fun i j _ hj => absurd hj (Nat.not_lt_zero _), fun m h1 h2 => absurd h2 (by show ¬ m < 1; omega)⟩,
    Nat.zero_le _, rfl, rfl, fun i hi => ⟨by show 0 < 1; omega, by show 0 = i; have : i ≤ 0 := hi; omega⟩, fun i hi => absurd hi (Nat.not_lt_zero _), Nat.zero_le _, fun h => absurd rfl h⟩
theorem yr_read {r : Nat × pm_C} {y : Nat} (hy : y < 4) (hL : L ≤ 200) (hK : cr_K ya_kind ya_repeated K R) (hx : yr_B tx s B) (hs : s < 8) (hT : T ≤ 200)
    (hty : ya_type s = nI y) (hle : ya_length s = nI L) (hgo : ya_got s = nI T) (hrd : pm_Rd B K R T (cr_0 y L) r) {post : Int32 → SY → Prop}
    (H0 : ∀ c' (z' : yr_Z), r = (0, c') → yr_ok c' (pm_pos c') z' → post 0 (yf_down, yf_heads, yf_paid, yf_payload, yf_wants, yf_name, yf_first, yf_counts, yf_enters, yf_most, yf_many, yf_sent, yf_last, z'.1, z'.2.1, z'.2.2.1, z'.2.2.2.1, nI T, z'.2.2.2.2.1, z'.2.2.2.2.2.1, ya_kind, ya_repeated, ya_how, ya_code, ya_coming, ya_going, ya_type, ya_headers, ya_header, ya_queued, ya_otherEnded, ya_ended, ya_finishing, ya_queue, ya_prefix, ya_length, ya_got, ya_high, ya_whole, ya_has, an_g tx, ya_frame, ya_payloads, ya_table, ya_out, z'.2.2.2.2.2.2.1, z'.2.2.2.2.2.2.2.1, z'.2.2.2.2.2.2.2.2.1, z'.2.2.2.2.2.2.2.2.2.1, z'.2.2.2.2.2.2.2.2.2.2.1, z'.2.2.2.2.2.2.2.2.2.2.2.1, z'.2.2.2.2.2.2.2.2.2.2.2.2, ya_sizes)) (HE : ∀ (z' : yr_Z), r.1 ≠ 0 → post (yr_a r.1) (yf_down, yf_heads, yf_paid, yf_payload, yf_wants, yf_name, yf_first, yf_counts, yf_enters, yf_most, yf_many, yf_sent, yf_last, z'.1, z'.2.1, z'.2.2.1, z'.2.2.2.1, nI T, z'.2.2.2.2.1, z'.2.2.2.2.2.1, ya_kind, ya_repeated, ya_how, ya_code, ya_coming, ya_going, ya_type, ya_headers, ya_header, ya_queued, ya_otherEnded, ya_ended, ya_finishing, ya_queue, ya_prefix, ya_length, ya_got, ya_high, ya_whole, ya_has, an_g tx, ya_frame, ya_payloads, ya_table, ya_out, z'.2.2.2.2.2.2.1, z'.2.2.2.2.2.2.2.1, z'.2.2.2.2.2.2.2.2.1, z'.2.2.2.2.2.2.2.2.2.1, z'.2.2.2.2.2.2.2.2.2.2.1, z'.2.2.2.2.2.2.2.2.2.2.2.1, z'.2.2.2.2.2.2.2.2.2.2.2.2, ya_sizes)) :
    wpY_read post (yf_down, yf_heads, yf_paid, yf_payload, yf_wants, yf_name, yf_first, yf_counts, yf_enters, yf_most, yf_many, yf_sent, yf_last, yf_nodes, yf_values, yf_skipped, yf_pos, yf_there, yf_number, yf_at, ya_kind, ya_repeated, ya_how, ya_code, ya_coming, ya_going, ya_type, ya_headers, ya_header, ya_queued, ya_otherEnded, ya_ended, ya_finishing, ya_queue, ya_prefix, ya_length, ya_got, ya_high, ya_whole, ya_has, an_g tx, ya_frame, ya_payloads, ya_table, ya_out, ya_nodeType, ya_valueNode, ya_valueNumber, ya_value, ya_from, ya_limit, ya_inside, ya_sizes) (nI s) := by
  obtain ⟨m, hm⟩ := hrd
  have hi : vp_in (nI s) 8 := vp_in_nI hs (by omega)
  unfold wpY_read
  dsimp only
  rw [nI_clamp (by omega), hty, hle, hgo]
  refine ⟨hi, nm_e ⟨hi, nm_e ⟨hi, nm_e (nm_e ⟨m + 1, ?_⟩)⟩⟩⟩
  refine yr_loop hL hK hx hs hT H0 HE m m (m + 1) (fun _ => 0) (cr_0 y L) (1, 0, 0, 0, yf_number, 0, upd ya_nodeType 0 (nI y), ya_valueNode, ya_valueNumber, ya_value, ya_from, upd ya_limit 0 (nI L), upd ya_inside 0 0) (Nat.le_refl _) (by omega) hm rfl (cr_0_I hy) (Nat.zero_le _) ?_
  refine ⟨rfl, rfl, rfl, rfl, rfl, ⟨fun i hi => ?_, fun j hj => absurd hj (Nat.not_lt_zero _)⟩, fun i hi => ?_⟩
  · have : i = 0 := by
      have : i < 1 := hi
      omega
    subst this; rfl
  · have : i = 0 := by
      have : i ≤ 0 := hi
      omega
    subst this; exact ⟨rfl, rfl⟩
end
end
section
/-! N: how the component reads: its small steps -/
section
theorem xr_ix {s k : Nat} (hs : s < 8) (hk : k < 11) : nI s * 11 = nI (11 * s) ∧ vp_in (nI (11 * s) + nI k) 88 ∧ (nI (11 * s) + nI k).toNatClampNeg = 11 * s + k := by
  refine ⟨?_, ?_, ?_⟩
  · rw [show (11 : Int32) = nI 11 from rfl, pk_mul, Nat.mul_comm]
  · rw [nI_add]; exact vp_in_nI (by omega) (by omega)
  · rw [nI_add, nI_clamp (by omega)]
theorem xr_c4 {s a : Nat} (hs : s < 8) (ha : a ≤ 3) : vp_in (nI s * 4 + nI a) 32 ∧ (nI s * 4 + nI a).toNatClampNeg = 4 * s + a := by
  have e : nI s * 4 + nI a = nI (4 * s + a) := by
    rw [show (4 : Int32) = nI 4 from rfl, pk_mul, nI_add, Nat.mul_comm]
  rw [e]
  exact ⟨vp_in_nI (by omega) (by omega), nI_clamp (by omega)⟩
theorem xr_c48 {s a : Nat} (hs : s < 8) (ha : a < 48) : nI s * 48 + nI a = nI (48 * s + a) ∧ vp_in (nI (48 * s + a)) 384 ∧ (nI (48 * s + a)).toNatClampNeg = 48 * s + a := by
  refine ⟨?_, vp_in_nI (by omega) (by omega), nI_clamp (by omega)⟩
  rw [show (48 : Int32) = nI 48 from rfl, pk_mul, nI_add, Nat.mul_comm]
theorem xr_c16 {s a : Nat} (hs : s < 8) (ha : a < 16) : vp_in (nI s * 16 + nI a) 128 ∧ (nI s * 16 + nI a).toNatClampNeg = 16 * s + a := by
  have e : nI s * 16 + nI a = nI (16 * s + a) := by
    rw [show (16 : Int32) = nI 16 from rfl, pk_mul, nI_add, Nat.mul_comm]
  rw [e]
  exact ⟨vp_in_nI (by omega) (by omega), nI_clamp (by omega)⟩
theorem xr_c8 {s : Nat} (hs : s < 8) : vp_in (nI s) 8 ∧ (nI s).toNatClampNeg = s := ⟨vp_in_nI hs (by omega), nI_clamp (by omega)⟩
/-- a register -/
theorem xr_u {f : Nat → Int32} {s i j : Nat} {x : Int32} : upd f (11 * s + i) x (11 * s + j) = if j = i then x else f (11 * s + j) := by
  rw [pm_upd_eq]
  by_cases h : j = i
  · rw [if_pos h, if_pos (by omega)]
  · rw [if_neg h, if_neg (by omega)]
theorem xr_o {f : Nat → Int32} {s i j : Nat} {x : Int32} (hi : i < 11) (hj : j < 11 * s ∨ 11 * s + 11 ≤ j) : upd f (11 * s + i) x j = f j := by
  rw [pm_upd_eq, if_neg (by omega)]

def xr_bE (s : Nat) (f : Nat → Int32) : Nat → Int32 := upd (upd (upd (upd (upd f (11 * s + 3) 0) (11 * s + 4) 0) (11 * s + 5) 0) (11 * s + 8) 0) (11 * s + 9) (f (11 * s + 2))
theorem xr_bE_o {s j : Nat} {f : Nat → Int32} (hj : j < 11 * s ∨ 11 * s + 11 ≤ j) : xr_bE s f j = f j := by
  unfold xr_bE
  rw [xr_o (by omega) hj, xr_o (by omega) hj, xr_o (by omega) hj, xr_o (by omega) hj, xr_o (by omega) hj]
theorem xr_bE_k (s : Nat) (f : Nat → Int32) (j : Nat) : xr_bE s f (11 * s + j) = if j = 9 then f (11 * s + 2) else if j = 8 ∨ j = 5 ∨ j = 4 ∨ j = 3 then 0 else f (11 * s + j) := by
  unfold xr_bE
  rw [xr_u, xr_u, xr_u, xr_u, xr_u]
  by_cases h9 : j = 9
  · rw [if_pos h9, if_pos h9]
  · rw [if_neg h9, if_neg h9]
    by_cases h : j = 8 ∨ j = 5 ∨ j = 4 ∨ j = 3
    · rw [if_pos h]
      rcases h with h | h | h | h <;> subst h <;> rfl
    · rw [if_neg h, if_neg (fun y => h (Or.inl y)), if_neg (fun y => h (Or.inr (Or.inl y))), if_neg (fun y => h (Or.inr (Or.inr (Or.inl y)))), if_neg (fun y => h (Or.inr (Or.inr (Or.inr y))))]
def xr_bN (s : Nat) (h : Int32) (f : Nat → Int32) : Nat → Int32 := upd (upd (upd f (11 * s + 3) h) (11 * s + 4) 0) (11 * s + 5) 0
theorem xr_bN_o {s j : Nat} {h : Int32} {f : Nat → Int32} (hj : j < 11 * s ∨ 11 * s + 11 ≤ j) : xr_bN s h f j = f j := by
  unfold xr_bN
  rw [xr_o (by omega) hj, xr_o (by omega) hj, xr_o (by omega) hj]
theorem xr_bN_k (s : Nat) (h : Int32) (f : Nat → Int32) (j : Nat) : xr_bN s h f (11 * s + j) = if j = 5 ∨ j = 4 then 0 else if j = 3 then h else f (11 * s + j) := by
  unfold xr_bN
  rw [xr_u, xr_u, xr_u]
  by_cases h1 : j = 5
  · rw [if_pos h1, if_pos (Or.inl h1)]
  by_cases h2 : j = 4
  · rw [if_neg h1, if_pos h2, if_pos (Or.inr h2)]
  · rw [if_neg h1, if_neg h2, if_neg (show ¬ (j = 5 ∨ j = 4) from fun y => y.elim h1 h2)]

variable {f_frameAt f_frameLength f_frameSort f_frameFlags f_frameStream f_down f_entryCount f_most f_typeSeen f_lastSender f_sentLength : Int32} {a_payload a_life a_theyEnded a_weEnded a_finishing a_codes a_windowIn a_windowOut a_headers a_headerCount a_entries a_kinds a_repeats a_messageCount a_text a_nodeCount a_nodeTypes a_valueCount a_valueOwners a_values a_skippedCount a_reader a_chainNode a_chainEnd a_queue a_queueLength a_sent a_nodeSize a_nodePlace : Nat → Int32} {s : Nat}
theorem xw_bE {post : SX → Prop} (hs : s < 8) (h : post (f_frameAt, f_frameLength, f_frameSort, f_frameFlags, f_frameStream, f_down, f_entryCount, f_most, f_typeSeen, f_lastSender, f_sentLength, a_payload, a_life, a_theyEnded, a_weEnded, a_finishing, a_codes, a_windowIn, a_windowOut, a_headers, a_headerCount, a_entries, a_kinds, a_repeats, a_messageCount, a_text, a_nodeCount, a_nodeTypes, a_valueCount, a_valueOwners, a_values, a_skippedCount, xr_bE s a_reader, a_chainNode, a_chainEnd, a_queue, a_queueLength, a_sent, a_nodeSize, a_nodePlace)) : wpX_beginElement post (f_frameAt, f_frameLength, f_frameSort, f_frameFlags, f_frameStream, f_down, f_entryCount, f_most, f_typeSeen, f_lastSender, f_sentLength, a_payload, a_life, a_theyEnded, a_weEnded, a_finishing, a_codes, a_windowIn, a_windowOut, a_headers, a_headerCount, a_entries, a_kinds, a_repeats, a_messageCount, a_text, a_nodeCount, a_nodeTypes, a_valueCount, a_valueOwners, a_values, a_skippedCount, a_reader, a_chainNode, a_chainEnd, a_queue, a_queueLength, a_sent, a_nodeSize, a_nodePlace) (nI s) := by
  unfold wpX_beginElement
  have i2 := xr_ix (s := s) (k := 2) hs (by omega)
  have i3 := xr_ix (s := s) (k := 3) hs (by omega)
  have i4 := xr_ix (s := s) (k := 4) hs (by omega)
  have i5 := xr_ix (s := s) (k := 5) hs (by omega)
  have i8 := xr_ix (s := s) (k := 8) hs (by omega)
  have i9 := xr_ix (s := s) (k := 9) hs (by omega)
  refine nm_r i2.1 ⟨i3.2.1, nm_r (congrArg (fun k => upd a_reader k 0) i3.2.2) ⟨i4.2.1, nm_r (congrArg (fun k => upd _ k 0) i4.2.2) ⟨i5.2.1, nm_r (congrArg (fun k => upd _ k 0) i5.2.2) ⟨i8.2.1, nm_r (congrArg (fun k => upd _ k 0) i8.2.2) ⟨i2.2.1, i9.2.1, nm_r ?_ h⟩⟩⟩⟩⟩
  refine (congrArg (fun k => upd _ k _) i9.2.2).trans ?_
  refine (congrArg (fun x => upd _ (11 * s + 9) x) (congrArg _ i2.2.2)).trans ?_
  unfold xr_bE
  rw [xr_u, xr_u, xr_u, xr_u]
  rfl
theorem xw_bN {post : SX → Prop} {x : Int32} (hs : s < 8) (h : post (f_frameAt, f_frameLength, f_frameSort, f_frameFlags, f_frameStream, f_down, f_entryCount, f_most, f_typeSeen, f_lastSender, f_sentLength, a_payload, a_life, a_theyEnded, a_weEnded, a_finishing, a_codes, a_windowIn, a_windowOut, a_headers, a_headerCount, a_entries, a_kinds, a_repeats, a_messageCount, a_text, a_nodeCount, a_nodeTypes, a_valueCount, a_valueOwners, a_values, a_skippedCount, xr_bN s x a_reader, a_chainNode, a_chainEnd, a_queue, a_queueLength, a_sent, a_nodeSize, a_nodePlace)) : wpX_beginNumber post (f_frameAt, f_frameLength, f_frameSort, f_frameFlags, f_frameStream, f_down, f_entryCount, f_most, f_typeSeen, f_lastSender, f_sentLength, a_payload, a_life, a_theyEnded, a_weEnded, a_finishing, a_codes, a_windowIn, a_windowOut, a_headers, a_headerCount, a_entries, a_kinds, a_repeats, a_messageCount, a_text, a_nodeCount, a_nodeTypes, a_valueCount, a_valueOwners, a_values, a_skippedCount, a_reader, a_chainNode, a_chainEnd, a_queue, a_queueLength, a_sent, a_nodeSize, a_nodePlace) (nI s) x := by
  unfold wpX_beginNumber
  have i3 := xr_ix (s := s) (k := 3) hs (by omega)
  have i4 := xr_ix (s := s) (k := 4) hs (by omega)
  have i5 := xr_ix (s := s) (k := 5) hs (by omega)
  exact nm_r i3.1 ⟨i3.2.1, nm_r (congrArg (fun k => upd a_reader k x) i3.2.2) ⟨i4.2.1, nm_r (congrArg (fun k => upd _ k 0) i4.2.2) ⟨i5.2.1, nm_r (congrArg (fun k => upd _ k 0) i5.2.2) h⟩⟩⟩
/-- the end of an element -/
theorem xw_eE {post : SX → Prop} {f t p : Nat} (hs : s < 8) (hf : a_reader (11 * s + 7) = nI f) (hf' : f < 64) (ht : a_reader (11 * s + 2) = nI t) (hp : f = 0 → a_reader (11 * s + 9) = nI p ∧ p ≤ t)
    (h : post (f_frameAt, f_frameLength, f_frameSort, f_frameFlags, f_frameStream, f_down, f_entryCount, f_most, f_typeSeen, f_lastSender, f_sentLength, a_payload, a_life, a_theyEnded, a_weEnded, a_finishing, a_codes, a_windowIn, a_windowOut, a_headers, a_headerCount, a_entries, a_kinds, a_repeats, a_messageCount, a_text, a_nodeCount, a_nodeTypes, a_valueCount, a_valueOwners, a_values, if f = 0 then upd a_skippedCount s (a_skippedCount s + nI (t - p)) else a_skippedCount, xr_bE s a_reader, a_chainNode, a_chainEnd, a_queue, a_queueLength, a_sent, a_nodeSize, a_nodePlace)) : wpX_endElement post (f_frameAt, f_frameLength, f_frameSort, f_frameFlags, f_frameStream, f_down, f_entryCount, f_most, f_typeSeen, f_lastSender, f_sentLength, a_payload, a_life, a_theyEnded, a_weEnded, a_finishing, a_codes, a_windowIn, a_windowOut, a_headers, a_headerCount, a_entries, a_kinds, a_repeats, a_messageCount, a_text, a_nodeCount, a_nodeTypes, a_valueCount, a_valueOwners, a_values, a_skippedCount, a_reader, a_chainNode, a_chainEnd, a_queue, a_queueLength, a_sent, a_nodeSize, a_nodePlace) (nI s) := by
  unfold wpX_endElement
  have i2 := xr_ix (s := s) (k := 2) hs (by omega)
  have i7 := xr_ix (s := s) (k := 7) hs (by omega)
  have i9 := xr_ix (s := s) (k := 9) hs (by omega)
  have e7 : a_reader (nI (11 * s) + 7).toNatClampNeg = nI f := (congrArg a_reader i7.2.2).trans hf
  refine nm_r i2.1 ⟨i7.2.1, ?_⟩
  rw [e7]
  refine pk_eq f 0 (fun g => ?_) (fun g => ?_)
  · rw [if_pos g] at h
    obtain ⟨p1, p2⟩ := hp g
    have e2 : a_reader (nI (11 * s) + 2).toNatClampNeg = nI t := (congrArg a_reader i2.2.2).trans ht
    have e9 : a_reader (nI (11 * s) + 9).toNatClampNeg = nI p := (congrArg a_reader i9.2.2).trans p1
    refine ⟨(xr_c8 hs).1, i2.2.1, i9.2.1, (xr_c8 hs).1, nm_r (by rw [(xr_c8 hs).2, e2, e9, pk_sub p2]) ?_⟩
    unfold wX_endElement_44
    exact xw_bE hs h
  · rw [if_neg g] at h
    unfold wX_endElement_44
    exact xw_bE hs h
def xr_aD (s : Nat) (x : Int32) (d : Nat) (f : Nat → Int32) : Nat → Int32 := upd (upd f (11 * s + 4) x) (11 * s + 5) (nI (d + 1))
theorem xr_aD_o {s j d : Nat} {x : Int32} {f : Nat → Int32} (hj : j < 11 * s ∨ 11 * s + 11 ≤ j) : xr_aD s x d f j = f j := by
  unfold xr_aD
  rw [xr_o (by omega) hj, xr_o (by omega) hj]
theorem xr_aD_k (s : Nat) (x : Int32) (d : Nat) (f : Nat → Int32) (j : Nat) : xr_aD s x d f (11 * s + j) = if j = 5 then nI (d + 1) else if j = 4 then x else f (11 * s + j) := by
  unfold xr_aD
  rw [xr_u, xr_u]
/-- a digit: its place is below 32 bits, or it counts no more -/
theorem xw_aD {post : SX → Prop} {x y : Int32} {d b w : Nat} (hs : s < 8) (h5 : a_reader (11 * s + 5) = nI d) (hd : d < 10) (hb : b ≤ 8) (h4 : a_reader (11 * s + 4) = x)
    (hy : y = if b * d < 32 then x ||| (nI w <<< ((nI b * nI d) &&& 31)) else x) (h : post (f_frameAt, f_frameLength, f_frameSort, f_frameFlags, f_frameStream, f_down, f_entryCount, f_most, f_typeSeen, f_lastSender, f_sentLength, a_payload, a_life, a_theyEnded, a_weEnded, a_finishing, a_codes, a_windowIn, a_windowOut, a_headers, a_headerCount, a_entries, a_kinds, a_repeats, a_messageCount, a_text, a_nodeCount, a_nodeTypes, a_valueCount, a_valueOwners, a_values, a_skippedCount, xr_aD s y d a_reader, a_chainNode, a_chainEnd, a_queue, a_queueLength, a_sent, a_nodeSize, a_nodePlace)) : wpX_addDigit post (f_frameAt, f_frameLength, f_frameSort, f_frameFlags, f_frameStream, f_down, f_entryCount, f_most, f_typeSeen, f_lastSender, f_sentLength, a_payload, a_life, a_theyEnded, a_weEnded, a_finishing, a_codes, a_windowIn, a_windowOut, a_headers, a_headerCount, a_entries, a_kinds, a_repeats, a_messageCount, a_text, a_nodeCount, a_nodeTypes, a_valueCount, a_valueOwners, a_values, a_skippedCount, a_reader, a_chainNode, a_chainEnd, a_queue, a_queueLength, a_sent, a_nodeSize, a_nodePlace) (nI s) (nI w) (nI b) := by
  unfold wpX_addDigit
  have i4 := xr_ix (s := s) (k := 4) hs (by omega)
  have i5 := xr_ix (s := s) (k := 5) hs (by omega)
  have e4 : a_reader (nI (11 * s) + 4).toNatClampNeg = x := (congrArg a_reader i4.2.2).trans h4
  have e5 : a_reader (nI (11 * s) + 5).toNatClampNeg = nI d := (congrArg a_reader i5.2.2).trans h5
  have c4 : (nI (11 * s) + 4).toNatClampNeg = 11 * s + 4 := i4.2.2
  have c5 : (nI (11 * s) + 5).toNatClampNeg = 11 * s + 5 := i5.2.2
  have hm : nI b * nI d = nI (b * d) := pk_mul b d
  have hbd : b * d < 2 ^ 31 := Nat.lt_of_le_of_lt (Nat.mul_le_mul hb (Nat.le_of_lt hd)) (by omega)
  refine nm_r i4.1 ⟨i5.2.1, nm_r (congrArg _ e5) ?_⟩
  refine pk_le 32 (b * d) (fun g => ?_) (fun g => ?_) rfl hm (by omega) hbd
  · rw [if_neg (by omega)] at hy
    unfold wX_addDigit_42
    refine ⟨i5.2.1, i5.2.1, nm_r ?_ h⟩
    rw [c5, h5, nI_1]
    unfold xr_aD
    have : upd a_reader (11 * s + 4) y = a_reader := by
      funext j
      rw [pm_upd_eq]
      split
      · rename_i g2; rw [hy, ← h4, g2]
      · rfl
    rw [this]
  · rw [if_pos g] at hy
    refine ⟨i4.2.1, i4.2.1, nm_r (e' := upd a_reader (11 * s + 4) y) (by rw [c4, h4, hy]) ?_⟩
    unfold wX_addDigit_42
    refine ⟨i5.2.1, i5.2.1, nm_r ?_ h⟩
    rw [c5, xr_u, if_neg (by omega), h5, nI_1]
    rfl
end
end
section
/-! O: how the component keeps values -/
section
variable {f_frameAt f_frameLength f_frameSort f_frameFlags f_frameStream f_down f_entryCount f_most f_typeSeen f_lastSender f_sentLength : Int32} {a_payload a_life a_theyEnded a_weEnded a_finishing a_codes a_windowIn a_windowOut a_headers a_headerCount a_entries a_kinds a_repeats a_messageCount a_text a_nodeCount a_nodeTypes a_valueCount a_valueOwners a_values a_skippedCount a_reader a_chainNode a_chainEnd a_queue a_queueLength a_sent a_nodeSize a_nodePlace : Nat → Int32} {s : Nat} {K : Nat → Nat} {R : Nat → Bool} {L : Nat} {dep : Nat → Nat} {c : pm_C} {D : pm_D}
/-- owner of a value -/
theorem xr_own {a n b m : Nat} (hn : n ≤ 15) (hm : m ≤ 15) : 16 * a + n = 16 * b + m ↔ (a = b ∧ n = m) := by
  constructor
  · intro h; exact ⟨by omega, by omega⟩
  · rintro ⟨rfl, rfl⟩; rfl
theorem xr_mod {a t n : Nat} (ht : t < 4) (hn : n ≤ 15) : nI a * 16 + (nI (16 * t + n) - nI (16 * t + n) / 16 * 16) = nI (16 * a + n) := by
  have e : nI (16 * t + n) - nI (16 * t + n) / 16 * 16 = nI ((16 * t + n) % 16) := pk_rem (d := 16) (by omega) (by omega) (by omega)
  rw [e, show (16 : Int32) = nI 16 from rfl, pk_mul, nI_add]
  exact congrArg nI (by omega)
theorem xw_pt57 {a n : Nat} (hs : s < 8) (hD : cr_XD K s a_nodeCount a_nodeTypes a_valueCount a_valueOwners a_values D) (hv : pm_nv D ≤ 48) (hn : n ≤ 15) (ha : a < 16)
    (hb : ∀ j, j < pm_nv D → pm_vn D j < 16 ∧ pm_vm D j ≤ 15) {post : Int32 → Prop} : ∀ f i, i + f = pm_nv D →
    post (if pm_fi (pm_vn D) (pm_vm D) a n f i < pm_nv D then nI (48 * s + pm_fi (pm_vn D) (pm_vm D) a n f i) else -1) →
    wX_placeTaken_57 post (nI s) (nI (16 * a + n)) f_frameAt f_frameLength f_frameSort f_frameFlags f_frameStream f_down f_entryCount f_most f_typeSeen f_lastSender f_sentLength a_payload a_life a_theyEnded a_weEnded a_finishing a_codes a_windowIn a_windowOut a_headers a_headerCount a_entries a_kinds a_repeats a_messageCount a_text a_nodeCount a_nodeTypes a_valueCount a_valueOwners a_values a_skippedCount a_reader a_chainNode a_chainEnd a_queue a_queueLength a_sent a_nodeSize a_nodePlace (f + 1) (nI i)
  | 0, i, hi, H => by
    rw [wX_placeTaken_57]
    rw [pm_fi, if_neg (by omega)] at H
    refine ⟨(xr_c8 hs).1, ?_⟩
    rw [(xr_c8 hs).2, hD.2.1]
    exact pk_le (pm_nv D) i (fun _ => H) (fun g => absurd g (by omega))
  | f + 1, i, hi, H => by
    rw [wX_placeTaken_57]
    refine ⟨(xr_c8 hs).1, ?_⟩
    rw [(xr_c8 hs).2, hD.2.1]
    refine pk_le (pm_nv D) i (fun g => absurd g (by omega)) (fun g => ?_)
    obtain ⟨c1, c2, c3⟩ := xr_c48 (s := s) (a := i) hs (by omega)
    rw [c1, c3, (hD.2.2.2 i g).1]
    refine ⟨c2, ?_⟩
    obtain ⟨b1, b2⟩ := hb i g
    rw [pm_fi] at H
    refine pk_eq (16 * pm_vn D i + pm_vm D i) (16 * a + n) (fun y => ?_) (fun y => ?_)
    · rw [if_pos (show pm_vn D i = a ∧ pm_vm D i = n from (xr_own b2 hn).mp y), if_pos g] at H
      exact H
    · rw [if_neg (show ¬ (pm_vn D i = a ∧ pm_vm D i = n) from fun y2 => y ((xr_own b2 hn).mpr y2))] at H
      exact nm_r (nI_1 _) (xw_pt57 hs hD hv hn ha hb f (i + 1) (by omega) H)
theorem xr_DB (I : pm_DI K L dep D) : ∀ j, j < pm_nv D → pm_vn D j < 16 ∧ pm_vm D j ≤ 15 := by
  intro j hj
  obtain ⟨v1, v2, v3, _⟩ := I.2.2.2.2.2.1 j hj
  have := I.2.1
  exact ⟨by omega, by omega⟩
/-- where the field at hand, number n in node a of type t, has its value -/
theorem xw_pt {a n b : Nat} (hs : s < 8) (I : pm_DI K L dep D) (hK : cr_K a_kinds a_repeats K R) (hD : cr_XD K s a_nodeCount a_nodeTypes a_valueCount a_valueOwners a_values D) (ha : a < pm_nn D) (hn : 1 ≤ n) (hn' : n ≤ 15) (hb : b ≤ 3)
    (h7 : a_reader (11 * s + 7) = nI (16 * pm_nt D a + n)) (h10 : a_reader (11 * s + 10) = nI b) (hcn : a_chainNode (4 * s + b) = nI a) {post : Int32 → Prop}
    (H : post (if pm_pl R D a n < pm_nv D then nI (48 * s + pm_pl R D a n) else -1)) : wpX_placeTaken post (f_frameAt, f_frameLength, f_frameSort, f_frameFlags, f_frameStream, f_down, f_entryCount, f_most, f_typeSeen, f_lastSender, f_sentLength, a_payload, a_life, a_theyEnded, a_weEnded, a_finishing, a_codes, a_windowIn, a_windowOut, a_headers, a_headerCount, a_entries, a_kinds, a_repeats, a_messageCount, a_text, a_nodeCount, a_nodeTypes, a_valueCount, a_valueOwners, a_values, a_skippedCount, a_reader, a_chainNode, a_chainEnd, a_queue, a_queueLength, a_sent, a_nodeSize, a_nodePlace) (nI s) := by
  have i7 := xr_ix (s := s) (k := 7) hs (by omega)
  have i10 := xr_ix (s := s) (k := 10) hs (by omega)
  have hnn := I.2.1
  have hty := (I.2.2.2.2.1 a ha).1
  have hj : 16 * pm_nt D a + n < 64 := by omega
  have e7 : a_reader (nI (11 * s) + 7).toNatClampNeg = nI (16 * pm_nt D a + n) := (congrArg a_reader i7.2.2).trans h7
  have e10 : a_reader (nI (11 * s) + 10).toNatClampNeg = nI b := (congrArg a_reader i10.2.2).trans h10
  unfold wpX_placeTaken
  rw [i7.1]
  refine ⟨i7.2.1, nm_r e7 ⟨vp_in_nI hj (by omega), ?_⟩⟩
  rw [nI_clamp (by omega), hK.2.2 _ hj]
  by_cases hr : R (16 * pm_nt D a + n) = true
  · rw [if_pos hr]
    have : pm_pl R D a n = pm_nv D := by unfold pm_pl; exact if_pos hr
    rw [if_neg (by omega)] at H
    exact br_f (by decide) H
  · rw [if_neg hr]
    have : pm_pl R D a n = pm_ix D a n := by unfold pm_pl; exact if_neg hr
    rw [this] at H
    refine br_t rfl ⟨i10.2.1, ?_⟩
    rw [e10]
    obtain ⟨c1, c2⟩ := xr_c4 (s := s) (a := b) hs hb
    rw [c2, hcn]
    exact ⟨c1, by decide, nm_r (xr_mod hty hn') ⟨pm_nv D + 1, xw_pt57 hs hD I.2.2.1 hn' (by omega) (xr_DB I) (pm_nv D) 0 (by omega) H⟩⟩
/-- outside the places of one stream -/
def xr_O (w s : Nat) (f f' : Nat → Int32) : Prop := ∀ j, j < w * s ∨ w * s + w ≤ j → f' j = f j
theorem xr_O_u {w s i : Nat} {f : Nat → Int32} {x : Int32} (hi : i < w) : xr_O w s f (upd f (w * s + i) x) := by
  intro j hj
  rw [pm_upd_eq, if_neg (by omega)]
theorem xr_O_1 {s : Nat} {f : Nat → Int32} {x : Int32} : xr_O 1 s f (upd f s x) := by
  intro j hj
  rw [pm_upd_eq, if_neg (by omega)]
theorem xr_O_r {w s : Nat} {f : Nat → Int32} : xr_O w s f f := fun _ _ => rfl
theorem xr_O_t {w s : Nat} {f f' f'' : Nat → Int32} (h : xr_O w s f f') (h' : xr_O w s f' f'') : xr_O w s f f'' := fun j hj => (h' j hj).trans (h j hj)
/-- a value more -/
theorem xr_XD_add {a n st : Nat} {v xv : Int32} (hpl : pm_pl R D a n = pm_nv D) (hv : pm_nv D < 48) (hs : s < 8)
    (hD : cr_XD K s a_nodeCount a_nodeTypes a_valueCount a_valueOwners a_values D) (hxv : xv = if K (16 * pm_nt D a + n) = 4 then nI (256 * st) + v else v) :
    cr_XD K s a_nodeCount a_nodeTypes (upd a_valueCount s (nI (pm_nv D + 1))) (upd a_valueOwners (48 * s + pm_nv D) (nI (16 * a + n))) (upd a_values (48 * s + pm_nv D) xv) (pm_kp R D a n v st) := by
  obtain ⟨d1, d2, d3, d4⟩ := hD
  refine ⟨d1, ?_, d3, fun j hj => ?_⟩
  · simp only [pm_kp_nn, pm_kp_nt, pm_kp_nv, pm_kp_vn, pm_kp_vm, pm_kp_fr, pm_kp_va, hpl, pm_upd_eq, if_pos]
  · simp only [pm_kp_nn, pm_kp_nt, pm_kp_nv, pm_kp_vn, pm_kp_vm, pm_kp_fr, pm_kp_va, hpl, if_pos] at hj
    have hj : j < pm_nv D + 1 := hj
    by_cases g : j = pm_nv D
    · subst g
      simp only [pm_kk, pm_kp_nn, pm_kp_nt, pm_kp_nv, pm_kp_vn, pm_kp_vm, pm_kp_fr, pm_kp_va, hpl, pm_us, pm_upd_eq, if_pos]
      exact ⟨trivial, hxv⟩
    · have := d4 j (by omega)
      simp only [pm_kk, pm_kp_nn, pm_kp_nt, pm_kp_nv, pm_kp_vn, pm_kp_vm, pm_kp_fr, pm_kp_va, hpl, pm_un g, pm_upd_eq, if_neg g, if_neg (show 48 * s + j ≠ 48 * s + pm_nv D by omega)]
      exact this
/-- a value in the place of another -/
theorem xr_XD_set {a n st : Nat} {v xv : Int32} (hpl : pm_pl R D a n < pm_nv D)
    (hD : cr_XD K s a_nodeCount a_nodeTypes a_valueCount a_valueOwners a_values D) (hxv : xv = if K (16 * pm_nt D a + n) = 4 then nI (256 * st) + v else v) :
    cr_XD K s a_nodeCount a_nodeTypes a_valueCount a_valueOwners (upd a_values (48 * s + pm_pl R D a n) xv) (pm_kp R D a n v st) := by
  obtain ⟨d1, d2, d3, d4⟩ := hD
  obtain ⟨p1, p2, p3⟩ := pm_pl_lt hpl
  refine ⟨d1, ?_, d3, fun j hj => ?_⟩
  · simp only [pm_kp_nn, pm_kp_nt, pm_kp_nv, pm_kp_vn, pm_kp_vm, pm_kp_fr, pm_kp_va, if_neg (show pm_pl R D a n ≠ pm_nv D by omega)]
    exact d2
  · simp only [pm_kp_nn, pm_kp_nt, pm_kp_nv, pm_kp_vn, pm_kp_vm, pm_kp_fr, pm_kp_va, if_neg (show pm_pl R D a n ≠ pm_nv D by omega)] at hj
    have hj : j < pm_nv D := hj
    have hd := d4 j hj
    generalize hk : pm_pl R D a n = k at *
    by_cases g : j = k
    · subst g
      simp only [pm_kk, pm_kp_nn, pm_kp_nt, pm_kp_nv, pm_kp_vn, pm_kp_vm, pm_kp_fr, pm_kp_va, hk, pm_us, pm_upd_eq, if_pos]
      rw [p2, p3] at hd
      exact ⟨hd.1, hxv⟩
    · simp only [pm_kk, pm_kp_nn, pm_kp_nt, pm_kp_nv, pm_kp_vn, pm_kp_vm, pm_kp_fr, pm_kp_va, hk, pm_un g, pm_upd_eq, if_neg g, if_neg (show 48 * s + j ≠ 48 * s + k by omega)]
      exact hd
theorem xw_add {a n b : Nat} {xv : Int32} (hs : s < 8) (I : pm_DI K L dep D) (hD : cr_XD K s a_nodeCount a_nodeTypes a_valueCount a_valueOwners a_values D) (ha : a < pm_nn D) (hn' : n ≤ 15) (hb : b ≤ 3)
    (h7 : a_reader (11 * s + 7) = nI (16 * pm_nt D a + n)) (h10 : a_reader (11 * s + 10) = nI b) (hcn : a_chainNode (4 * s + b) = nI a) (hv : pm_nv D < 48) {post : SX → Prop}
    (H : post (f_frameAt, f_frameLength, f_frameSort, f_frameFlags, f_frameStream, f_down, f_entryCount, f_most, f_typeSeen, f_lastSender, f_sentLength, a_payload, a_life, a_theyEnded, a_weEnded, a_finishing, a_codes, a_windowIn, a_windowOut, a_headers, a_headerCount, a_entries, a_kinds, a_repeats, a_messageCount, a_text, a_nodeCount, a_nodeTypes, upd a_valueCount s (nI (pm_nv D + 1)), upd a_valueOwners (48 * s + pm_nv D) (nI (16 * a + n)), upd a_values (48 * s + pm_nv D) xv, a_skippedCount, a_reader, a_chainNode, a_chainEnd, a_queue, a_queueLength, a_sent, a_nodeSize, a_nodePlace)) :
    wpX_addValue post (f_frameAt, f_frameLength, f_frameSort, f_frameFlags, f_frameStream, f_down, f_entryCount, f_most, f_typeSeen, f_lastSender, f_sentLength, a_payload, a_life, a_theyEnded, a_weEnded, a_finishing, a_codes, a_windowIn, a_windowOut, a_headers, a_headerCount, a_entries, a_kinds, a_repeats, a_messageCount, a_text, a_nodeCount, a_nodeTypes, a_valueCount, a_valueOwners, a_values, a_skippedCount, a_reader, a_chainNode, a_chainEnd, a_queue, a_queueLength, a_sent, a_nodeSize, a_nodePlace) (nI s) xv := by
  have i7 := xr_ix (s := s) (k := 7) hs (by omega)
  have i10 := xr_ix (s := s) (k := 10) hs (by omega)
  have hnn := I.2.1
  have hty := (I.2.2.2.2.1 a ha).1
  have e7 : a_reader (nI (11 * s) + 7).toNatClampNeg = nI (16 * pm_nt D a + n) := (congrArg a_reader i7.2.2).trans h7
  have e10 : a_reader (nI (11 * s) + 10).toNatClampNeg = nI b := (congrArg a_reader i10.2.2).trans h10
  obtain ⟨c1, c2, c3⟩ := xr_c48 (s := s) (a := pm_nv D) hs hv
  obtain ⟨c4, c5⟩ := xr_c4 (s := s) (a := b) hs hb
  obtain ⟨g1, g2⟩ := xr_c8 hs
  unfold wpX_addValue
  refine nm_r i7.1 ⟨g1, nm_r (by rw [g2, hD.2.1, c1]) ⟨i10.2.1, ?_⟩⟩
  rw [e10, e7, c5, hcn, c3, g2, hD.2.1]
  exact ⟨c4, i7.2.1, by decide, c2, nm_r (by rw [xr_mod hty hn']) ⟨c2, nm_e ⟨g1, g1, nm_r (by rw [nI_1]) H⟩⟩⟩
/-- a value is kept, or there are too many -/
theorem xw_keep {a n b st : Nat} {v xv : Int32} (hs : s < 8) (I : pm_DI K L dep D) (hK : cr_K a_kinds a_repeats K R) (hD : cr_XD K s a_nodeCount a_nodeTypes a_valueCount a_valueOwners a_values D) (ha : a < pm_nn D) (hn : 1 ≤ n) (hn' : n ≤ 15) (hb : b ≤ 3)
    (h7 : a_reader (11 * s + 7) = nI (16 * pm_nt D a + n)) (h10 : a_reader (11 * s + 10) = nI b) (hcn : a_chainNode (4 * s + b) = nI a)
    (hxv : xv = if K (16 * pm_nt D a + n) = 4 then nI (256 * st) + v else v) {post : Int32 → SX → Prop}
    (H5 : pm_pl R D a n = 48 → post 15 (f_frameAt, f_frameLength, f_frameSort, f_frameFlags, f_frameStream, f_down, f_entryCount, f_most, f_typeSeen, f_lastSender, f_sentLength, a_payload, a_life, a_theyEnded, a_weEnded, a_finishing, a_codes, a_windowIn, a_windowOut, a_headers, a_headerCount, a_entries, a_kinds, a_repeats, a_messageCount, a_text, a_nodeCount, a_nodeTypes, a_valueCount, a_valueOwners, a_values, a_skippedCount, a_reader, a_chainNode, a_chainEnd, a_queue, a_queueLength, a_sent, a_nodeSize, a_nodePlace))
    (H0 : ∀ vc vo va, pm_pl R D a n ≠ 48 → cr_XD K s a_nodeCount a_nodeTypes vc vo va (pm_kp R D a n v st) → xr_O 1 s a_valueCount vc → xr_O 48 s a_valueOwners vo → xr_O 48 s a_values va → post 0 (f_frameAt, f_frameLength, f_frameSort, f_frameFlags, f_frameStream, f_down, f_entryCount, f_most, f_typeSeen, f_lastSender, f_sentLength, a_payload, a_life, a_theyEnded, a_weEnded, a_finishing, a_codes, a_windowIn, a_windowOut, a_headers, a_headerCount, a_entries, a_kinds, a_repeats, a_messageCount, a_text, a_nodeCount, a_nodeTypes, vc, vo, va, a_skippedCount, a_reader, a_chainNode, a_chainEnd, a_queue, a_queueLength, a_sent, a_nodeSize, a_nodePlace)) :
    wpX_keepValue post (f_frameAt, f_frameLength, f_frameSort, f_frameFlags, f_frameStream, f_down, f_entryCount, f_most, f_typeSeen, f_lastSender, f_sentLength, a_payload, a_life, a_theyEnded, a_weEnded, a_finishing, a_codes, a_windowIn, a_windowOut, a_headers, a_headerCount, a_entries, a_kinds, a_repeats, a_messageCount, a_text, a_nodeCount, a_nodeTypes, a_valueCount, a_valueOwners, a_values, a_skippedCount, a_reader, a_chainNode, a_chainEnd, a_queue, a_queueLength, a_sent, a_nodeSize, a_nodePlace) (nI s) xv := by
  have hnv := I.2.2.1
  have hle := pm_pl_le (R := R) (D := D) a n
  obtain ⟨g1, g2⟩ := xr_c8 hs
  unfold wpX_keepValue
  refine xw_pt hs I hK hD ha hn hn' hb h7 h10 hcn ?_
  by_cases g : pm_pl R D a n < pm_nv D
  · rw [if_pos g]
    refine br_f (nI_pos (by omega)) ?_
    obtain ⟨c1, c2, c3⟩ := xr_c48 (s := s) (a := pm_pl R D a n) hs (by omega)
    rw [c3]
    exact ⟨c2, nm_e (H0 _ _ _ (by omega) (xr_XD_set g hD hxv) xr_O_r xr_O_r (xr_O_u (by omega)))⟩
  · rw [if_neg g]
    refine br_t (by decide) ⟨g1, ?_⟩
    rw [g2, hD.2.1]
    refine pk_eq (pm_nv D) 48 (fun y => H5 (by omega)) (fun y => ?_)
    exact xw_add hs I hD ha hn' hb h7 h10 hcn (by omega) (H0 _ _ _ (by omega) (xr_XD_add (by omega) (by omega) hs hD hxv) xr_O_1 (xr_O_u (by omega)) (xr_O_u (by omega)))
end
end
section
/-! P: ends that are closed -/
section
variable {f_frameAt f_frameLength f_frameSort f_frameFlags f_frameStream f_down f_entryCount f_most f_typeSeen f_lastSender f_sentLength : Int32} {a_payload a_life a_theyEnded a_weEnded a_finishing a_codes a_windowIn a_windowOut a_headers a_headerCount a_entries a_kinds a_repeats a_messageCount a_text a_nodeCount a_nodeTypes a_valueCount a_valueOwners a_values a_skippedCount a_reader a_chainNode a_chainEnd a_queue a_queueLength a_sent a_nodeSize a_nodePlace : Nat → Int32} {s : Nat} {K : Nat → Nat} {R : Nat → Bool} {L : Nat} {dep : Nat → Nat} {c : pm_C} {D : pm_D}
theorem xr_uu {f : Nat → Int32} {k : Nat} {x y : Int32} : upd (upd f k x) k y = upd f k y := by
  funext j
  rw [pm_upd_eq, pm_upd_eq, pm_upd_eq]
  split <;> rfl
theorem xr_ui {f : Nat → Int32} {k : Nat} {x : Int32} (h : f k = x) : upd f k x = f := by
  funext j
  rw [pm_upd_eq]
  split
  · rename_i g; rw [g, h]
  · rfl
/-- one turn of the loop over the chain -/
theorem xw_clS {t e a k n : Nat} {x3 x5 : Int32} (hs : s < 8) (ht : t ≤ 200) {post : Int32 → SX → Prop} (ha : a ≤ 3) (hk : k < 4)
    (h2 : a_reader (11 * s + 2) = nI t) (h3 : a_reader (11 * s + 3) = x3) (h5 : a_reader (11 * s + 5) = x5) (h10 : a_reader (11 * s + 10) = nI a) (he : a_chainEnd (4 * s + a) = nI e) (he' : e ≤ 200)
    (H0 : t < e → post 0 (f_frameAt, f_frameLength, f_frameSort, f_frameFlags, f_frameStream, f_down, f_entryCount, f_most, f_typeSeen, f_lastSender, f_sentLength, a_payload, a_life, a_theyEnded, a_weEnded, a_finishing, a_codes, a_windowIn, a_windowOut, a_headers, a_headerCount, a_entries, a_kinds, a_repeats, a_messageCount, a_text, a_nodeCount, a_nodeTypes, a_valueCount, a_valueOwners, a_values, a_skippedCount, a_reader, a_chainNode, a_chainEnd, a_queue, a_queueLength, a_sent, a_nodeSize, a_nodePlace))
    (H14 : e ≤ t → ¬ (x3 = 0 ∧ x5 = 0) → post 14 (f_frameAt, f_frameLength, f_frameSort, f_frameFlags, f_frameStream, f_down, f_entryCount, f_most, f_typeSeen, f_lastSender, f_sentLength, a_payload, a_life, a_theyEnded, a_weEnded, a_finishing, a_codes, a_windowIn, a_windowOut, a_headers, a_headerCount, a_entries, a_kinds, a_repeats, a_messageCount, a_text, a_nodeCount, a_nodeTypes, a_valueCount, a_valueOwners, a_values, a_skippedCount, a_reader, a_chainNode, a_chainEnd, a_queue, a_queueLength, a_sent, a_nodeSize, a_nodePlace))
    (H1 : e ≤ t → x3 = 0 → x5 = 0 → a = 0 → post 0 (f_frameAt, f_frameLength, f_frameSort, f_frameFlags, f_frameStream, f_down, f_entryCount, f_most, f_typeSeen, f_lastSender, f_sentLength, a_payload, a_life, a_theyEnded, a_weEnded, a_finishing, a_codes, a_windowIn, a_windowOut, a_headers, a_headerCount, a_entries, a_kinds, a_repeats, upd a_messageCount s (a_messageCount s + 1), a_text, a_nodeCount, a_nodeTypes, a_valueCount, a_valueOwners, a_values, a_skippedCount, upd a_reader (11 * s) 0, a_chainNode, a_chainEnd, a_queue, a_queueLength, a_sent, a_nodeSize, a_nodePlace))
    (H2 : ∀ b, e ≤ t → x3 = 0 → x5 = 0 → a = b + 1 → wX_closeEnds_58 post (nI s) (nI (11 * s)) f_frameAt f_frameLength f_frameSort f_frameFlags f_frameStream f_down f_entryCount f_most f_typeSeen f_lastSender f_sentLength n (nI (k + 1)) a_payload a_life a_theyEnded a_weEnded a_finishing a_codes a_windowIn a_windowOut a_headers a_headerCount a_entries a_kinds a_repeats a_messageCount a_text a_nodeCount a_nodeTypes a_valueCount a_valueOwners a_values a_skippedCount (upd a_reader (11 * s + 10) (nI b)) a_chainNode a_chainEnd a_queue a_queueLength a_sent a_nodeSize a_nodePlace) :
    wX_closeEnds_58 post (nI s) (nI (11 * s)) f_frameAt f_frameLength f_frameSort f_frameFlags f_frameStream f_down f_entryCount f_most f_typeSeen f_lastSender f_sentLength (n + 1) (nI k) a_payload a_life a_theyEnded a_weEnded a_finishing a_codes a_windowIn a_windowOut a_headers a_headerCount a_entries a_kinds a_repeats a_messageCount a_text a_nodeCount a_nodeTypes a_valueCount a_valueOwners a_values a_skippedCount a_reader a_chainNode a_chainEnd a_queue a_queueLength a_sent a_nodeSize a_nodePlace := by
  have i0 := xr_ix (s := s) (k := 0) hs (by omega)
  have i2 := xr_ix (s := s) (k := 2) hs (by omega)
  have i3 := xr_ix (s := s) (k := 3) hs (by omega)
  have i5 := xr_ix (s := s) (k := 5) hs (by omega)
  have i10 := xr_ix (s := s) (k := 10) hs (by omega)
  have e2 : a_reader (nI (11 * s) + 2).toNatClampNeg = nI t := (congrArg a_reader i2.2.2).trans h2
  have e3 : a_reader (nI (11 * s) + 3).toNatClampNeg = x3 := (congrArg a_reader i3.2.2).trans h3
  have e5 : a_reader (nI (11 * s) + 5).toNatClampNeg = x5 := (congrArg a_reader i5.2.2).trans h5
  have e10 : a_reader (nI (11 * s) + 10).toNatClampNeg = nI a := (congrArg a_reader i10.2.2).trans h10
  obtain ⟨c4, c5⟩ := xr_c4 (s := s) (a := a) hs ha
  obtain ⟨g1, g2⟩ := xr_c8 hs
  rw [wX_closeEnds_58]
  refine pk_le 4 k (fun y => absurd y (by omega)) (fun y => ⟨i2.2.1, i10.2.1, ?_⟩)
  rw [e10, e2, e3, e5, c5, he]
  refine ⟨c4, ?_⟩
  refine pk_le e t (fun y => ⟨i3.2.1, ?_⟩) (fun y => H0 y)
  refine br_c (fun z3 => ⟨i5.2.1, br_c (fun z5 => ⟨i10.2.1, ?_⟩) (fun z5 => H14 y (fun w => z5 w.2))⟩) (fun z3 => H14 y (fun w => z3 w.1))
  refine pk_eq a 0 (fun z => ?_) (fun z => ?_)
  · refine ⟨g1, g1, nm_r (by rw [g2]) ⟨i0.2.1, nm_r ?_ (H1 y z3 z5 z)⟩⟩
    exact congrArg (fun j => upd a_reader j 0) i0.2.2
  · obtain ⟨b, rfl⟩ : ∃ b, a = b + 1 := ⟨a - 1, by omega⟩
    refine ⟨i10.2.1, i10.2.1, nm_r (e' := upd a_reader (11 * s + 10) (nI b)) ?_ (nm_r (nI_1 _) (H2 b y z3 z5 rfl))⟩
    rw [nI_pred]
    exact congrArg (fun j => upd a_reader j (nI b)) i10.2.2
/-- an element has come to its end: the parts that end with it -/
theorem xw_clE {t : Nat} {lim : Nat → Nat} (hs : s < 8) (ht : t ≤ 200) (hl0 : lim 0 ≤ 200) {post : Int32 → SX → Prop} (a : Nat) : ∀ (a_reader : Nat → Int32) (k : Nat), k + a ≤ 3 →
    a_reader (11 * s + 2) = nI t → a_reader (11 * s + 3) = 0 → a_reader (11 * s + 5) = 0 → a_reader (11 * s + 10) = nI a →
    (∀ i, i ≤ a → a_chainEnd (4 * s + i) = nI (lim i) ∧ lim i ≤ lim 0 ∧ (i < a → lim (i + 1) ≤ lim i)) → t ≤ lim a →
    (t ≠ lim 0 → post 0 (f_frameAt, f_frameLength, f_frameSort, f_frameFlags, f_frameStream, f_down, f_entryCount, f_most, f_typeSeen, f_lastSender, f_sentLength, a_payload, a_life, a_theyEnded, a_weEnded, a_finishing, a_codes, a_windowIn, a_windowOut, a_headers, a_headerCount, a_entries, a_kinds, a_repeats, a_messageCount, a_text, a_nodeCount, a_nodeTypes, a_valueCount, a_valueOwners, a_values, a_skippedCount, upd a_reader (11 * s + 10) (nI (pm_pop lim t a)), a_chainNode, a_chainEnd, a_queue, a_queueLength, a_sent, a_nodeSize, a_nodePlace)) →
    (t = lim 0 → post 0 (f_frameAt, f_frameLength, f_frameSort, f_frameFlags, f_frameStream, f_down, f_entryCount, f_most, f_typeSeen, f_lastSender, f_sentLength, a_payload, a_life, a_theyEnded, a_weEnded, a_finishing, a_codes, a_windowIn, a_windowOut, a_headers, a_headerCount, a_entries, a_kinds, a_repeats, upd a_messageCount s (a_messageCount s + 1), a_text, a_nodeCount, a_nodeTypes, a_valueCount, a_valueOwners, a_values, a_skippedCount, upd (upd a_reader (11 * s + 10) (nI 0)) (11 * s) 0, a_chainNode, a_chainEnd, a_queue, a_queueLength, a_sent, a_nodeSize, a_nodePlace)) →
    wX_closeEnds_58 post (nI s) (nI (11 * s)) f_frameAt f_frameLength f_frameSort f_frameFlags f_frameStream f_down f_entryCount f_most f_typeSeen f_lastSender f_sentLength (a + 1) (nI k) a_payload a_life a_theyEnded a_weEnded a_finishing a_codes a_windowIn a_windowOut a_headers a_headerCount a_entries a_kinds a_repeats a_messageCount a_text a_nodeCount a_nodeTypes a_valueCount a_valueOwners a_values a_skippedCount a_reader a_chainNode a_chainEnd a_queue a_queueLength a_sent a_nodeSize a_nodePlace := by
  induction a with
  | zero =>
    intro a_reader k hk h2 h3 h5 h10 hl hta H1 H2
    refine xw_clS hs ht (by omega) (by omega) h2 h3 h5 h10 (hl 0 (Nat.le_refl _)).1 hl0 (fun y => ?_) (fun _ y => absurd ⟨rfl, rfl⟩ y) (fun y _ _ _ => ?_) (fun b _ _ _ y => absurd y (by omega))
    · have := H1 (by omega)
      rw [show pm_pop lim t 0 = 0 from rfl, xr_ui h10] at this
      exact this
    · have := H2 (by omega)
      rw [xr_ui h10] at this
      exact this
  | succ a ih =>
    intro a_reader k hk h2 h3 h5 h10 hl hta H1 H2
    have hla := hl (a + 1) (Nat.le_refl _)
    have hlb := hl a (by omega)
    refine xw_clS hs ht (by omega) (by omega) h2 h3 h5 h10 hla.1 (by omega) (fun y => ?_) (fun _ y => absurd ⟨rfl, rfl⟩ y) (fun y _ _ z => absurd z (by omega)) (fun b y _ _ z => ?_)
    · have := H1 (by omega)
      rw [pm_pop, if_neg (by omega), xr_ui h10] at this
      exact this
    · have hb : b = a := by omega
      subst hb
      refine ih (upd a_reader (11 * s + 10) (nI b)) (k + 1) (by omega) (by rw [xr_u, if_neg (by omega)]; exact h2) (by rw [xr_u, if_neg (by omega)]; exact h3) (by rw [xr_u, if_neg (by omega)]; exact h5) (by rw [xr_u, if_pos rfl]) (fun i hi => ⟨(hl i (by omega)).1, (hl i (by omega)).2.1, fun w => (hl i (by omega)).2.2 (by omega)⟩) ?_ (fun w => ?_) (fun w => ?_)
      · have := hlb.2.2 (by omega)
        omega
      · have := H1 w
        rw [pm_pop, if_pos (by omega)] at this
        rw [xr_uu]; exact this
      · rw [xr_uu]; exact H2 w
end
end
section
/-! Q: tags and numbers -/
section
theorem xr_k2 : ∀ k, k ≤ 8 → (nI k + (-1) = -1 ↔ k = 0) ∧ (nI k + (-1) = 0 ↔ k = 1) ∧ (nI k + (-1) = 1 ↔ k = 2) ∧ (nI k + (-1) = 2 ↔ k = 3) ∧ (nI k + (-1) = 3 ↔ k = 4) ∧ (nI k + (-1) < 4 ↔ k ≤ 4) ∧ (4 < k → nI k + (-1) - 4 = nI (k - 5)) := by
  decide +kernel
variable {f_frameAt f_frameLength f_frameSort f_frameFlags f_frameStream f_down f_entryCount f_most f_typeSeen f_lastSender f_sentLength : Int32} {a_payload a_life a_theyEnded a_weEnded a_finishing a_codes a_windowIn a_windowOut a_headers a_headerCount a_entries a_kinds a_repeats a_messageCount a_text a_nodeCount a_nodeTypes a_valueCount a_valueOwners a_values a_skippedCount a_reader a_chainNode a_chainEnd a_queue a_queueLength a_sent a_nodeSize a_nodePlace : Nat → Int32} {s : Nat} {K : Nat → Nat} {R : Nat → Bool} {L : Nat} {dep : Nat → Nat} {c : pm_C} {D : pm_D}
theorem xw_fo {a q : Nat} {post : Int32 → Prop} (hs : s < 8) (hD : cr_XD K s a_nodeCount a_nodeTypes a_valueCount a_valueOwners a_values D) (ha : a < pm_nn D) (ha' : a < 16)
    (H : post (nI (16 * pm_nt D a + q))) : wpX_fieldOf post (f_frameAt, f_frameLength, f_frameSort, f_frameFlags, f_frameStream, f_down, f_entryCount, f_most, f_typeSeen, f_lastSender, f_sentLength, a_payload, a_life, a_theyEnded, a_weEnded, a_finishing, a_codes, a_windowIn, a_windowOut, a_headers, a_headerCount, a_entries, a_kinds, a_repeats, a_messageCount, a_text, a_nodeCount, a_nodeTypes, a_valueCount, a_valueOwners, a_values, a_skippedCount, a_reader, a_chainNode, a_chainEnd, a_queue, a_queueLength, a_sent, a_nodeSize, a_nodePlace) (nI s) (nI a) (nI q) := by
  unfold wpX_fieldOf
  obtain ⟨c1, c2⟩ := xr_c16 (s := s) (a := a) hs ha'
  have e : nI (pm_nt D a) * 16 + nI q = nI (16 * pm_nt D a + q) := by
    rw [show (16 : Int32) = nI 16 from rfl, pk_mul, nI_add, Nat.mul_comm]
  dsimp only
  rw [c2, hD.2.2.1 a ha, e]
  exact ⟨c1, H⟩
theorem xw_wire {k : Nat} {post : Int32 → Prop} (hk : k ≤ 8) (hk0 : k ≠ 0) (H : post (nI (pm_w k))) : wpX_wireOf post (f_frameAt, f_frameLength, f_frameSort, f_frameFlags, f_frameStream, f_down, f_entryCount, f_most, f_typeSeen, f_lastSender, f_sentLength, a_payload, a_life, a_theyEnded, a_weEnded, a_finishing, a_codes, a_windowIn, a_windowOut, a_headers, a_headerCount, a_entries, a_kinds, a_repeats, a_messageCount, a_text, a_nodeCount, a_nodeTypes, a_valueCount, a_valueOwners, a_values, a_skippedCount, a_reader, a_chainNode, a_chainEnd, a_queue, a_queueLength, a_sent, a_nodeSize, a_nodePlace) (nI k + (-1)) := by
  have yk := xr_k2 k hk
  unfold wpX_wireOf
  unfold pm_w at H
  refine br_c (fun y => ?_) (fun y => br_c (fun y2 => ?_) (fun y2 => br_c (fun y3 => ?_) (fun y3 => ?_)))
  · have := yk.2.1.mp y
    rw [if_pos (by omega)] at H; exact H
  · have := yk.2.2.1.mp y2
    rw [if_pos (by omega)] at H; exact H
  · have := yk.2.2.2.1.mp y3
    rw [if_neg (by omega), if_pos this] at H; exact H
  · have h1 : k ≠ 1 := fun w => y (yk.2.1.mpr w)
    have h2 : k ≠ 2 := fun w => y2 (yk.2.2.1.mpr w)
    have h3 : k ≠ 3 := fun w => y3 (yk.2.2.2.1.mpr w)
    rw [if_neg (by omega), if_neg h3] at H; exact H
theorem xw_known {n w : Nat} {post : Int32 → Prop} (hs : s < 8) (I : pm_CI K R L dep c) (hK : cr_K a_kinds a_repeats K R) (hD : cr_XD K s a_nodeCount a_nodeTypes a_valueCount a_valueOwners a_values (pm_d c)) (hn1 : 1 ≤ n) (hn : n < 2 ^ 30) (hw : w < 8)
    (h10 : a_reader (11 * s + 10) = nI (pm_at c)) (hcn : a_chainNode (4 * s + pm_at c) = nI (pm_nd c))
    (H : post (nI (if pm_fl K R c n w = 0 then 0 else pm_fj c (pm_fl K R c n w)))) : wpX_knownField post (f_frameAt, f_frameLength, f_frameSort, f_frameFlags, f_frameStream, f_down, f_entryCount, f_most, f_typeSeen, f_lastSender, f_sentLength, a_payload, a_life, a_theyEnded, a_weEnded, a_finishing, a_codes, a_windowIn, a_windowOut, a_headers, a_headerCount, a_entries, a_kinds, a_repeats, a_messageCount, a_text, a_nodeCount, a_nodeTypes, a_valueCount, a_valueOwners, a_values, a_skippedCount, a_reader, a_chainNode, a_chainEnd, a_queue, a_queueLength, a_sent, a_nodeSize, a_nodePlace) (nI s) (nI n) (nI w) := by
  have h3 := I.2.1
  have hin := I.2.2.2.2.1 (pm_at c) (Nat.le_refl _)
  have hnd : pm_nd c < pm_nn (pm_d c) := hin.1
  have hnn := I.1.2.1
  have hty := (I.1.2.2.2.2.1 _ hnd).1
  have i10 := xr_ix (s := s) (k := 10) hs (by omega)
  have e10 : a_reader (nI (11 * s) + 10).toNatClampNeg = nI (pm_at c) := (congrArg a_reader i10.2.2).trans h10
  obtain ⟨c4, c5⟩ := xr_c4 (s := s) (a := pm_at c) hs h3
  unfold wpX_knownField
  dsimp only
  refine pk_lt n 16 (fun g => ?_) (fun g => ?_) rfl rfl (by omega) (by omega)
  · rw [i10.1, e10, c5, hcn]
    refine ⟨i10.2.1, c4, nm_e (xw_fo hs hD hnd (by omega) ?_)⟩
    have hj : pm_fj c n < 64 := by
      show 16 * pm_nt (pm_d c) (pm_nd c) + n < 64; omega
    have efj : 16 * pm_nt (pm_d c) (pm_nd c) + n = pm_fj c n := rfl
    rw [efj]
    refine ⟨vp_in_nI hj (by omega), nm_r (by rw [nI_clamp (by omega), hK.2.1 _ hj]) ?_⟩
    have hk8 := hK.1 (pm_fj c n)
    have yk := xr_k2 (K (pm_fj c n)) hk8
    unfold pm_fl at H
    rw [if_neg (show ¬ 15 < n by omega)] at H
    refine br_c (fun w0 => ?_) (fun w0 => ?_)
    · rw [if_pos (yk.1.mp w0), if_pos rfl] at H; exact H
    · have hk0 : K (pm_fj c n) ≠ 0 := fun y => w0 (yk.1.mpr y)
      rw [if_neg hk0] at H
      have hwk : pm_w (K (pm_fj c n)) < 8 := by
        unfold pm_w; split
        · omega
        · split <;> omega
      have h83 : (w = pm_w (K (pm_fj c n)) ∨ (w = 2 ∧ R (pm_fj c n) = true)) → wX_knownField_83 post (nI (pm_fj c n)) f_frameAt f_frameLength f_frameSort f_frameFlags f_frameStream f_down f_entryCount f_most f_typeSeen f_lastSender f_sentLength a_payload a_life a_theyEnded a_weEnded a_finishing a_codes a_windowIn a_windowOut a_headers a_headerCount a_entries a_kinds a_repeats a_messageCount a_text a_nodeCount a_nodeTypes a_valueCount a_valueOwners a_values a_skippedCount a_reader a_chainNode a_chainEnd a_queue a_queueLength a_sent a_nodeSize a_nodePlace := by
        intro y
        unfold wX_knownField_83 wX_knownField_88
        rw [if_pos y, if_neg (show ¬ n = 0 by omega)] at H
        exact br_f (by decide) H
      have h87 : ¬ (w = pm_w (K (pm_fj c n)) ∨ (w = 2 ∧ R (pm_fj c n) = true)) → wX_knownField_87 post (nI (pm_fj c n)) f_frameAt f_frameLength f_frameSort f_frameFlags f_frameStream f_down f_entryCount f_most f_typeSeen f_lastSender f_sentLength a_payload a_life a_theyEnded a_weEnded a_finishing a_codes a_windowIn a_windowOut a_headers a_headerCount a_entries a_kinds a_repeats a_messageCount a_text a_nodeCount a_nodeTypes a_valueCount a_valueOwners a_values a_skippedCount a_reader a_chainNode a_chainEnd a_queue a_queueLength a_sent a_nodeSize a_nodePlace := by
        intro y
        unfold wX_knownField_87 wX_knownField_88
        rw [if_neg y, if_pos rfl] at H
        exact br_t rfl H
      refine xw_wire hk8 hk0 ?_
      refine pk_eq w (pm_w (K (pm_fj c n))) (fun y => h83 (Or.inl y)) (fun y => ?_)
      refine pk_eq w 2 (fun y2 => ⟨vp_in_nI hj (by omega), ?_⟩) (fun y2 => h87 (fun z => z.elim y (fun z => y2 z.1)))
      rw [nI_clamp (by omega), hK.2.2 _ hj]
      by_cases hr : R (pm_fj c n) = true
      · rw [if_pos hr]
        exact br_f (by decide) (h83 (Or.inr ⟨y2, hr⟩))
      · rw [if_neg hr]
        exact br_t rfl (h87 (fun z => z.elim y (fun z => hr z.2)))
  · unfold pm_fl at H
    rw [if_pos (show 15 < n by omega), if_pos rfl] at H
    exact H
/-- behind a tag: phase, what is left, field -/
def xr_tg (s : Nat) (h : Int32) (l : Option Int32) (f : Nat) (rd : Nat → Int32) : Nat → Int32 :=
  upd (match l with | none => xr_bN s h rd | some x => upd (xr_bN s h rd) (11 * s + 6) x) (11 * s + 7) (nI f)
theorem xw_tag {x : Int32} {post : Int32 → SX → Prop} (hs : s < 8) (I : pm_CI K R L dep c) (hK : cr_K a_kinds a_repeats K R) (hD : cr_XD K s a_nodeCount a_nodeTypes a_valueCount a_valueOwners a_values (pm_d c))
    (h4 : a_reader (11 * s + 4) = x) (h10 : a_reader (11 * s + 10) = nI (pm_at c)) (hcn : a_chainNode (4 * s + pm_at c) = nI (pm_nd c))
    (H2 : x.toBitVec.toNat / 8 = 0 ∨ (x.toBitVec.toNat % 8 ≠ 0 ∧ x.toBitVec.toNat % 8 ≠ 1 ∧ x.toBitVec.toNat % 8 ≠ 2 ∧ x.toBitVec.toNat % 8 ≠ 5) → post 12 (f_frameAt, f_frameLength, f_frameSort, f_frameFlags, f_frameStream, f_down, f_entryCount, f_most, f_typeSeen, f_lastSender, f_sentLength, a_payload, a_life, a_theyEnded, a_weEnded, a_finishing, a_codes, a_windowIn, a_windowOut, a_headers, a_headerCount, a_entries, a_kinds, a_repeats, a_messageCount, a_text, a_nodeCount, a_nodeTypes, a_valueCount, a_valueOwners, a_values, a_skippedCount, a_reader, a_chainNode, a_chainEnd, a_queue, a_queueLength, a_sent, a_nodeSize, a_nodePlace))
    (HV : ∀ f, x.toBitVec.toNat / 8 ≠ 0 → x.toBitVec.toNat % 8 = 0 → f = pm_fl K R c (x.toBitVec.toNat / 8) 0 → post 0 (f_frameAt, f_frameLength, f_frameSort, f_frameFlags, f_frameStream, f_down, f_entryCount, f_most, f_typeSeen, f_lastSender, f_sentLength, a_payload, a_life, a_theyEnded, a_weEnded, a_finishing, a_codes, a_windowIn, a_windowOut, a_headers, a_headerCount, a_entries, a_kinds, a_repeats, a_messageCount, a_text, a_nodeCount, a_nodeTypes, a_valueCount, a_valueOwners, a_values, a_skippedCount, xr_tg s 2 none (if f = 0 then 0 else pm_fj c f) a_reader, a_chainNode, a_chainEnd, a_queue, a_queueLength, a_sent, a_nodeSize, a_nodePlace))
    (H8 : ∀ f, x.toBitVec.toNat / 8 ≠ 0 → x.toBitVec.toNat % 8 = 1 → f = pm_fl K R c (x.toBitVec.toNat / 8) 1 → post 0 (f_frameAt, f_frameLength, f_frameSort, f_frameFlags, f_frameStream, f_down, f_entryCount, f_most, f_typeSeen, f_lastSender, f_sentLength, a_payload, a_life, a_theyEnded, a_weEnded, a_finishing, a_codes, a_windowIn, a_windowOut, a_headers, a_headerCount, a_entries, a_kinds, a_repeats, a_messageCount, a_text, a_nodeCount, a_nodeTypes, a_valueCount, a_valueOwners, a_values, a_skippedCount, xr_tg s 3 (some 8) (if f = 0 then 0 else pm_fj c f) a_reader, a_chainNode, a_chainEnd, a_queue, a_queueLength, a_sent, a_nodeSize, a_nodePlace))
    (HL : ∀ f, x.toBitVec.toNat / 8 ≠ 0 → x.toBitVec.toNat % 8 = 2 → f = pm_fl K R c (x.toBitVec.toNat / 8) 2 → post 0 (f_frameAt, f_frameLength, f_frameSort, f_frameFlags, f_frameStream, f_down, f_entryCount, f_most, f_typeSeen, f_lastSender, f_sentLength, a_payload, a_life, a_theyEnded, a_weEnded, a_finishing, a_codes, a_windowIn, a_windowOut, a_headers, a_headerCount, a_entries, a_kinds, a_repeats, a_messageCount, a_text, a_nodeCount, a_nodeTypes, a_valueCount, a_valueOwners, a_values, a_skippedCount, xr_tg s 1 none (if f = 0 then 0 else pm_fj c f) a_reader, a_chainNode, a_chainEnd, a_queue, a_queueLength, a_sent, a_nodeSize, a_nodePlace))
    (H5 : ∀ f, x.toBitVec.toNat / 8 ≠ 0 → x.toBitVec.toNat % 8 = 5 → f = pm_fl K R c (x.toBitVec.toNat / 8) 5 → post 0 (f_frameAt, f_frameLength, f_frameSort, f_frameFlags, f_frameStream, f_down, f_entryCount, f_most, f_typeSeen, f_lastSender, f_sentLength, a_payload, a_life, a_theyEnded, a_weEnded, a_finishing, a_codes, a_windowIn, a_windowOut, a_headers, a_headerCount, a_entries, a_kinds, a_repeats, a_messageCount, a_text, a_nodeCount, a_nodeTypes, a_valueCount, a_valueOwners, a_values, a_skippedCount, xr_tg s 3 (some 4) (if f = 0 then 0 else pm_fj c f) a_reader, a_chainNode, a_chainEnd, a_queue, a_queueLength, a_sent, a_nodeSize, a_nodePlace)) :
    wpX_endTag post (f_frameAt, f_frameLength, f_frameSort, f_frameFlags, f_frameStream, f_down, f_entryCount, f_most, f_typeSeen, f_lastSender, f_sentLength, a_payload, a_life, a_theyEnded, a_weEnded, a_finishing, a_codes, a_windowIn, a_windowOut, a_headers, a_headerCount, a_entries, a_kinds, a_repeats, a_messageCount, a_text, a_nodeCount, a_nodeTypes, a_valueCount, a_valueOwners, a_values, a_skippedCount, a_reader, a_chainNode, a_chainEnd, a_queue, a_queueLength, a_sent, a_nodeSize, a_nodePlace) (nI s) := by
  have i4 := xr_ix (s := s) (k := 4) hs (by omega)
  have i6 := xr_ix (s := s) (k := 6) hs (by omega)
  have i7 := xr_ix (s := s) (k := 7) hs (by omega)
  have e4 : a_reader (nI (11 * s) + 4).toNatClampNeg = x := (congrArg a_reader i4.2.2).trans h4
  have hX : x.toBitVec.toNat < 2 ^ 32 := x.toBitVec.isLt
  have e3 : x &&& 7 = nI (x.toBitVec.toNat % 2 ^ 3) := pk_and x 3 (by decide)
  have eu := yr_u3 x
  unfold wpX_endTag
  dsimp only
  refine nm_r i4.1 ⟨i4.2.1, nm_r (by rw [e4, e3]) ⟨i4.2.1, nm_r (by rw [e4, eu]) ?_⟩⟩
  generalize x.toBitVec.toNat = X at *
  have k136 : ∀ (rd : Nat → Int32) w, w = X % 8 → X / 8 ≠ 0 → rd (11 * s + 10) = nI (pm_at c) → (∀ f, f = pm_fl K R c (X / 8) w → post 0 (f_frameAt, f_frameLength, f_frameSort, f_frameFlags, f_frameStream, f_down, f_entryCount, f_most, f_typeSeen, f_lastSender, f_sentLength, a_payload, a_life, a_theyEnded, a_weEnded, a_finishing, a_codes, a_windowIn, a_windowOut, a_headers, a_headerCount, a_entries, a_kinds, a_repeats, a_messageCount, a_text, a_nodeCount, a_nodeTypes, a_valueCount, a_valueOwners, a_values, a_skippedCount, upd rd (11 * s + 7) (nI (if f = 0 then 0 else pm_fj c f)), a_chainNode, a_chainEnd, a_queue, a_queueLength, a_sent, a_nodeSize, a_nodePlace)) →
      wX_endTag_136 post (nI s) (nI (11 * s)) (nI w) (nI (X / 8)) f_frameAt f_frameLength f_frameSort f_frameFlags f_frameStream f_down f_entryCount f_most f_typeSeen f_lastSender f_sentLength a_payload a_life a_theyEnded a_weEnded a_finishing a_codes a_windowIn a_windowOut a_headers a_headerCount a_entries a_kinds a_repeats a_messageCount a_text a_nodeCount a_nodeTypes a_valueCount a_valueOwners a_values a_skippedCount (rd) a_chainNode a_chainEnd a_queue a_queueLength a_sent a_nodeSize a_nodePlace := by
    intro rd w hw hn hr10 H
    unfold wX_endTag_136
    refine xw_known (a_reader := rd) hs I hK hD (by omega) (by omega) (by omega) hr10 hcn ⟨i7.2.1, nm_r ?_ (H _ rfl)⟩
    exact congrArg (fun j => upd rd j _) i7.2.2
  refine pk_eq (X / 8) 0 (fun y => H2 (Or.inl y)) (fun y => ?_) rfl rfl (by omega) (by omega)
  refine br_f (nI_pos (by omega)) ?_
  refine pk_lt 5 (X % 2 ^ 3) (fun y1 => H2 (Or.inr ⟨by omega, by omega, by omega, by omega⟩)) (fun y1 => ?_) rfl rfl (by omega) (by omega)
  refine pk_eq (X % 2 ^ 3) 0 (fun w => ?_) (fun w0 => ?_) rfl rfl (by omega) (by omega)
  · rw [w]
    exact xw_bN (x := 2) hs (k136 (xr_bN s 2 a_reader) 0 (by omega) y (by rw [xr_bN_k, if_neg (by omega), if_neg (by omega)]; exact h10) (fun f hf => HV f y (by omega) hf))
  refine pk_eq (X % 2 ^ 3) 1 (fun w => ?_) (fun w1 => ?_) rfl rfl (by omega) (by omega)
  · rw [w]
    refine xw_bN (x := 3) hs ⟨i6.2.1, nm_r (e' := upd (xr_bN s 3 a_reader) (11 * s + 6) 8) (congrArg (fun j => upd (xr_bN s 3 a_reader) j 8) i6.2.2) ?_⟩
    exact k136 _ 1 (by omega) y (by rw [xr_u, if_neg (by omega), xr_bN_k, if_neg (by omega), if_neg (by omega)]; exact h10) (fun f hf => H8 f y (by omega) hf)
  refine pk_eq (X % 2 ^ 3) 2 (fun w => ?_) (fun w2 => ?_) rfl rfl (by omega) (by omega)
  · rw [w]
    exact xw_bN (x := 1) hs (k136 (xr_bN s 1 a_reader) 2 (by omega) y (by rw [xr_bN_k, if_neg (by omega), if_neg (by omega)]; exact h10) (fun f hf => HL f y (by omega) hf))
  refine pk_eq (X % 2 ^ 3) 3 (fun w => H2 (Or.inr ⟨by omega, by omega, by omega, by omega⟩)) (fun w3 => ?_) rfl rfl (by omega) (by omega)
  refine pk_eq (X % 2 ^ 3) 4 (fun w => H2 (Or.inr ⟨by omega, by omega, by omega, by omega⟩)) (fun w4 => ?_) rfl rfl (by omega) (by omega)
  refine pk_eq (X % 2 ^ 3) 5 (fun w => ?_) (fun w5 => True.intro) rfl rfl (by omega) (by omega)
  rw [w]
  refine xw_bN (x := 3) hs ⟨i6.2.1, nm_r (e' := upd (xr_bN s 3 a_reader) (11 * s + 6) 4) (congrArg (fun j => upd (xr_bN s 3 a_reader) j 4) i6.2.2) ?_⟩
  exact k136 _ 5 (by omega) y (by rw [xr_u, if_neg (by omega), xr_bN_k, if_neg (by omega), if_neg (by omega)]; exact h10) (fun f hf => H5 f y (by omega) hf)
end
end
section
/-! R: numbers that end -/
section
variable {f_frameAt f_frameLength f_frameSort f_frameFlags f_frameStream f_down f_entryCount f_most f_typeSeen f_lastSender f_sentLength : Int32} {a_payload a_life a_theyEnded a_weEnded a_finishing a_codes a_windowIn a_windowOut a_headers a_headerCount a_entries a_kinds a_repeats a_messageCount a_text a_nodeCount a_nodeTypes a_valueCount a_valueOwners a_values a_skippedCount a_reader a_chainNode a_chainEnd a_queue a_queueLength a_sent a_nodeSize a_nodePlace : Nat → Int32} {s : Nat} {K : Nat → Nat} {R : Nat → Bool} {L : Nat} {dep : Nat → Nat} {c : pm_C}
theorem xw_num {f t : Nat} {x : Int32} {post : Int32 → SX → Prop} (hs : s < 8) (I : pm_CI K R L dep c) (hK : cr_K a_kinds a_repeats K R) (hD : cr_XD K s a_nodeCount a_nodeTypes a_valueCount a_valueOwners a_values (pm_d c)) (hL : L ≤ 200)
    (h2 : a_reader (11 * s + 2) = nI t) (h4 : a_reader (11 * s + 4) = x) (h7 : a_reader (11 * s + 7) = nI (if f = 0 then 0 else pm_fj c f)) (h8 : a_reader (11 * s + 8) = nI (pm_row c))
    (h9 : f = 0 → pm_row c = 0 ∧ a_reader (11 * s + 9) = nI (pm_pos c) ∧ pm_pos c ≤ t) (h10 : a_reader (11 * s + 10) = nI (pm_at c)) (hcn : a_chainNode (4 * s + pm_at c) = nI (pm_nd c))
    (hf : f ≠ 0 → f ≤ 15 ∧ 1 ≤ K (pm_fj c f) ∧ K (pm_fj c f) ≤ 3)
    (H0 : f = 0 → post 0 (f_frameAt, f_frameLength, f_frameSort, f_frameFlags, f_frameStream, f_down, f_entryCount, f_most, f_typeSeen, f_lastSender, f_sentLength, a_payload, a_life, a_theyEnded, a_weEnded, a_finishing, a_codes, a_windowIn, a_windowOut, a_headers, a_headerCount, a_entries, a_kinds, a_repeats, a_messageCount, a_text, a_nodeCount, a_nodeTypes, a_valueCount, a_valueOwners, a_values, upd a_skippedCount s (a_skippedCount s + nI (t - pm_pos c)), xr_bE s a_reader, a_chainNode, a_chainEnd, a_queue, a_queueLength, a_sent, a_nodeSize, a_nodePlace))
    (H5 : f ≠ 0 → pm_pl R (pm_d c) (pm_nd c) f = 48 → post 15 (f_frameAt, f_frameLength, f_frameSort, f_frameFlags, f_frameStream, f_down, f_entryCount, f_most, f_typeSeen, f_lastSender, f_sentLength, a_payload, a_life, a_theyEnded, a_weEnded, a_finishing, a_codes, a_windowIn, a_windowOut, a_headers, a_headerCount, a_entries, a_kinds, a_repeats, a_messageCount, a_text, a_nodeCount, a_nodeTypes, a_valueCount, a_valueOwners, a_values, a_skippedCount, if pm_row c = 0 then xr_bE s a_reader else xr_bN s (a_reader (11 * s + 3)) a_reader, a_chainNode, a_chainEnd, a_queue, a_queueLength, a_sent, a_nodeSize, a_nodePlace))
    (H1 : ∀ vc vo va, f ≠ 0 → pm_pl R (pm_d c) (pm_nd c) f ≠ 48 → cr_XD K s a_nodeCount a_nodeTypes vc vo va (pm_kp R (pm_d c) (pm_nd c) f (pm_val K (pm_fj c f) x) 0) → xr_O 1 s a_valueCount vc → xr_O 48 s a_valueOwners vo → xr_O 48 s a_values va →
      post 0 (f_frameAt, f_frameLength, f_frameSort, f_frameFlags, f_frameStream, f_down, f_entryCount, f_most, f_typeSeen, f_lastSender, f_sentLength, a_payload, a_life, a_theyEnded, a_weEnded, a_finishing, a_codes, a_windowIn, a_windowOut, a_headers, a_headerCount, a_entries, a_kinds, a_repeats, a_messageCount, a_text, a_nodeCount, a_nodeTypes, vc, vo, va, a_skippedCount, if pm_row c = 0 then xr_bE s a_reader else xr_bN s (a_reader (11 * s + 3)) a_reader, a_chainNode, a_chainEnd, a_queue, a_queueLength, a_sent, a_nodeSize, a_nodePlace)) :
    wpX_endNumber post (f_frameAt, f_frameLength, f_frameSort, f_frameFlags, f_frameStream, f_down, f_entryCount, f_most, f_typeSeen, f_lastSender, f_sentLength, a_payload, a_life, a_theyEnded, a_weEnded, a_finishing, a_codes, a_windowIn, a_windowOut, a_headers, a_headerCount, a_entries, a_kinds, a_repeats, a_messageCount, a_text, a_nodeCount, a_nodeTypes, a_valueCount, a_valueOwners, a_values, a_skippedCount, a_reader, a_chainNode, a_chainEnd, a_queue, a_queueLength, a_sent, a_nodeSize, a_nodePlace) (nI s) := by
  have h3 := I.2.1
  have hin := I.2.2.2.2.1 (pm_at c) (Nat.le_refl _)
  have hnd : pm_nd c < pm_nn (pm_d c) := hin.1
  have hnn := I.1.2.1
  have hty := (I.1.2.2.2.2.1 _ hnd).1
  have hrow : pm_row c ≤ 200 := by
    have h1 := pm_lim_le I (pm_at c) (Nat.le_refl _)
    by_cases y : pm_row c = 0
    · omega
    · have := (I.2.2.2.2.2.2.2 y).1
      omega
  have i3 := xr_ix (s := s) (k := 3) hs (by omega)
  have i4 := xr_ix (s := s) (k := 4) hs (by omega)
  have i7 := xr_ix (s := s) (k := 7) hs (by omega)
  have i8 := xr_ix (s := s) (k := 8) hs (by omega)
  have e3 : a_reader (nI (11 * s) + 3).toNatClampNeg = a_reader (11 * s + 3) := congrArg a_reader i3.2.2
  have e4 : a_reader (nI (11 * s) + 4).toNatClampNeg = x := (congrArg a_reader i4.2.2).trans h4
  have e7 : a_reader (nI (11 * s) + 7).toNatClampNeg = nI (if f = 0 then 0 else pm_fj c f) := (congrArg a_reader i7.2.2).trans h7
  have e8 : a_reader (nI (11 * s) + 8).toNatClampNeg = nI (pm_row c) := (congrArg a_reader i8.2.2).trans h8
  have hj : f ≠ 0 → 1 ≤ pm_fj c f ∧ pm_fj c f < 64 := by
    intro y
    have := (hf y).1
    show 1 ≤ 16 * pm_nt (pm_d c) (pm_nd c) + f ∧ 16 * pm_nt (pm_d c) (pm_nd c) + f < 64
    omega
  -- the end, with what was kept
  have h78 : ∀ (vc vo va : Nat → Int32) (y : Int32), f ≠ 0 → post y (f_frameAt, f_frameLength, f_frameSort, f_frameFlags, f_frameStream, f_down, f_entryCount, f_most, f_typeSeen, f_lastSender, f_sentLength, a_payload, a_life, a_theyEnded, a_weEnded, a_finishing, a_codes, a_windowIn, a_windowOut, a_headers, a_headerCount, a_entries, a_kinds, a_repeats, a_messageCount, a_text, a_nodeCount, a_nodeTypes, vc, vo, va, a_skippedCount, if pm_row c = 0 then xr_bE s a_reader else xr_bN s (a_reader (11 * s + 3)) a_reader, a_chainNode, a_chainEnd, a_queue, a_queueLength, a_sent, a_nodeSize, a_nodePlace) →
      wX_endNumber_78 post (nI s) (nI (11 * s)) y f_frameAt f_frameLength f_frameSort f_frameFlags f_frameStream f_down f_entryCount f_most f_typeSeen f_lastSender f_sentLength a_payload a_life a_theyEnded a_weEnded a_finishing a_codes a_windowIn a_windowOut a_headers a_headerCount a_entries a_kinds a_repeats a_messageCount a_text a_nodeCount a_nodeTypes (vc) (vo) (va) a_skippedCount a_reader a_chainNode a_chainEnd a_queue a_queueLength a_sent a_nodeSize a_nodePlace := by
    intro vc vo va y hf0 H
    unfold wX_endNumber_78
    rw [e8, e3]
    refine ⟨i8.2.1, pk_eq (pm_row c) 0 (fun w => ?_) (fun w => ⟨i3.2.1, ?_⟩)⟩
    · rw [if_pos w] at H
      have := xw_eE (a_valueCount := vc) (a_valueOwners := vo) (a_values := va) (f := pm_fj c f) (t := t) (p := 0) (post := fun u => match u with | (f_frameAt, f_frameLength, f_frameSort, f_frameFlags, f_frameStream, f_down, f_entryCount, f_most, f_typeSeen, f_lastSender, f_sentLength, a_payload, a_life, a_theyEnded, a_weEnded, a_finishing, a_codes, a_windowIn, a_windowOut, a_headers, a_headerCount, a_entries, a_kinds, a_repeats, a_messageCount, a_text, a_nodeCount, a_nodeTypes, a_valueCount, a_valueOwners, a_values, a_skippedCount, a_reader, a_chainNode, a_chainEnd, a_queue, a_queueLength, a_sent, a_nodeSize, a_nodePlace) => post y (f_frameAt, f_frameLength, f_frameSort, f_frameFlags, f_frameStream, f_down, f_entryCount, f_most, f_typeSeen, f_lastSender, f_sentLength, a_payload, a_life, a_theyEnded, a_weEnded, a_finishing, a_codes, a_windowIn, a_windowOut, a_headers, a_headerCount, a_entries, a_kinds, a_repeats, a_messageCount, a_text, a_nodeCount, a_nodeTypes, a_valueCount, a_valueOwners, a_values, a_skippedCount, a_reader, a_chainNode, a_chainEnd, a_queue, a_queueLength, a_sent, a_nodeSize, a_nodePlace)) hs (by rw [h7, if_neg hf0]) (hj hf0).2 h2 (fun z => absurd z (by have := (hj hf0).1; omega)) (by
        rw [if_neg (show ¬ pm_fj c f = 0 by have := (hj hf0).1; omega)]; exact H)
      exact this
    · rw [if_neg w] at H
      exact xw_bN hs H
  unfold wpX_endNumber
  dsimp only
  refine nm_r i4.1 ⟨i4.2.1, nm_r e4 ⟨i7.2.1, ?_⟩⟩
  rw [e7]
  by_cases hf0 : f = 0
  · rw [if_pos hf0]
    refine br_t rfl ?_
    obtain ⟨r0, r9, rp⟩ := h9 hf0
    unfold wX_endNumber_78
    rw [e8, r0]
    refine ⟨i8.2.1, br_t rfl ?_⟩
    refine xw_eE (f := 0) (t := t) (p := pm_pos c) hs (by rw [h7, if_pos hf0]) (by omega) h2 (fun _ => ⟨r9, rp⟩) ?_
    rw [if_pos rfl]
    exact H0 hf0
  · rw [if_neg hf0]
    obtain ⟨j1, j2⟩ := hj hf0
    obtain ⟨f1, f2, f3⟩ := hf hf0
    refine br_f (fun y => ?_) ⟨i7.2.1, vp_in_nI j2 (by omega), ?_⟩
    · have := (nI_eq (a := pm_fj c f) (b := 0) (by omega) (by omega)).mp y
      omega
    rw [nI_clamp (by omega), hK.2.1 _ j2]
    have yk := xr_k2 _ (hK.1 (pm_fj c f))
    have hkeep : ∀ xv, xv = pm_val K (pm_fj c f) x → wX_endNumber_73 post (nI s) (nI (11 * s)) xv (nI s) f_frameAt f_frameLength f_frameSort f_frameFlags f_frameStream f_down f_entryCount f_most f_typeSeen f_lastSender f_sentLength a_payload a_life a_theyEnded a_weEnded a_finishing a_codes a_windowIn a_windowOut a_headers a_headerCount a_entries a_kinds a_repeats a_messageCount a_text a_nodeCount a_nodeTypes a_valueCount a_valueOwners a_values a_skippedCount a_reader a_chainNode a_chainEnd a_queue a_queueLength a_sent a_nodeSize a_nodePlace := by
      intro xv hxv
      unfold wX_endNumber_73
      refine xw_keep (a := pm_nd c) (n := f) (b := pm_at c) (st := 0) (v := xv) hs I.1 hK hD hnd (by omega) f1 h3 (by rw [h7, if_neg hf0]; rfl) h10 hcn (by rw [if_neg (by show K (pm_fj c f) ≠ 4; omega)]) (fun h48 => ?_) (fun vc vo va h48 g1 g2 g3 g4 => ?_)
      · exact h78 a_valueCount a_valueOwners a_values 15 hf0 (H5 hf0 h48)
      · rw [hxv] at g1
        exact h78 vc vo va 0 hf0 (H1 vc vo va hf0 h48 g1 g2 g3 g4)
    refine br_c (fun w => ?_) (fun w => ?_)
    · unfold wX_endNumber_52
      refine br_f (by decide) (hkeep _ ?_)
      unfold pm_val
      rw [if_pos (yk.2.2.1.mp w)]
      rfl
    · unfold wX_endNumber_52
      refine br_t rfl (hkeep _ ?_)
      unfold pm_val
      rw [if_neg (fun z => w (yk.2.2.1.mpr z))]
end
end
section
/-! S1: parts that begin -/
section
variable {f_frameAt f_frameLength f_frameSort f_frameFlags f_frameStream f_down f_entryCount f_most f_typeSeen f_lastSender f_sentLength : Int32} {a_payload a_life a_theyEnded a_weEnded a_finishing a_codes a_windowIn a_windowOut a_headers a_headerCount a_entries a_kinds a_repeats a_messageCount a_text a_nodeCount a_nodeTypes a_valueCount a_valueOwners a_values a_skippedCount a_reader a_chainNode a_chainEnd a_queue a_queueLength a_sent a_nodeSize a_nodePlace : Nat → Int32} {s : Nat} {K : Nat → Nat} {R : Nat → Bool} {L : Nat} {dep : Nat → Nat} {c : pm_C}
theorem xr_c4u {s a i : Nat} {f : Nat → Int32} {x : Int32} : upd f (4 * s + a) x (4 * s + i) = if i = a then x else f (4 * s + i) := by
  rw [pm_upd_eq]
  by_cases h : i = a
  · rw [if_pos h, if_pos (by omega)]
  · rw [if_neg h, if_neg (by omega)]
/-- a part begins: the chain is longer -/
theorem xw_p105 {t len m : Nat} {post : Int32 → SX → Prop} (hs : s < 8) (h3 : pm_at c + 1 ≤ 3) (h2 : a_reader (11 * s + 2) = nI t) (h10 : a_reader (11 * s + 10) = nI (pm_at c))
    (H : post 0 (f_frameAt, f_frameLength, f_frameSort, f_frameFlags, f_frameStream, f_down, f_entryCount, f_most, f_typeSeen, f_lastSender, f_sentLength, a_payload, a_life, a_theyEnded, a_weEnded, a_finishing, a_codes, a_windowIn, a_windowOut, a_headers, a_headerCount, a_entries, a_kinds, a_repeats, a_messageCount, a_text, a_nodeCount, a_nodeTypes, a_valueCount, a_valueOwners, a_values, a_skippedCount, xr_bE s (upd a_reader (11 * s + 10) (nI (pm_at c + 1))), upd a_chainNode (4 * s + (pm_at c + 1)) (nI m), upd a_chainEnd (4 * s + (pm_at c + 1)) (nI (t + len)), a_queue, a_queueLength, a_sent, a_nodeSize, a_nodePlace)) :
    wX_beginPart_105 post (nI s) (nI len) (nI (11 * s)) (nI m) f_frameAt f_frameLength f_frameSort f_frameFlags f_frameStream f_down f_entryCount f_most f_typeSeen f_lastSender f_sentLength a_payload a_life a_theyEnded a_weEnded a_finishing a_codes a_windowIn a_windowOut a_headers a_headerCount a_entries a_kinds a_repeats a_messageCount a_text a_nodeCount a_nodeTypes a_valueCount a_valueOwners a_values a_skippedCount a_reader a_chainNode a_chainEnd a_queue a_queueLength a_sent a_nodeSize a_nodePlace := by
  have i2 := xr_ix (s := s) (k := 2) hs (by omega)
  have i10 := xr_ix (s := s) (k := 10) hs (by omega)
  have c10 : (nI (11 * s) + 10).toNatClampNeg = 11 * s + 10 := i10.2.2
  have c2 : (nI (11 * s) + 2).toNatClampNeg = 11 * s + 2 := i2.2.2
  obtain ⟨c4, c5⟩ := xr_c4 (s := s) (a := pm_at c + 1) hs h3
  unfold wX_beginPart_105
  refine ⟨i10.2.1, i10.2.1, nm_r (e' := upd a_reader (11 * s + 10) (nI (pm_at c + 1))) (by rw [c10, h10, nI_1]) ⟨i10.2.1, ?_⟩⟩
  rw [c10, c2, xr_u, if_pos rfl, xr_u, if_neg (show ¬ 2 = 10 by omega), h2, c5, nI_add]
  exact ⟨c4, nm_e ⟨i10.2.1, i2.2.1, c4, nm_e (xw_bE hs H)⟩⟩
theorem xw_part {t f ty len : Nat} {post : Int32 → SX → Prop} (hs : s < 8) (I : pm_CI K R L dep c) (hK : cr_K a_kinds a_repeats K R) (hD : cr_XD K s a_nodeCount a_nodeTypes a_valueCount a_valueOwners a_values (pm_d c))
    (h2 : a_reader (11 * s + 2) = nI t) (h7 : a_reader (11 * s + 7) = nI (pm_fj c f)) (h10 : a_reader (11 * s + 10) = nI (pm_at c))
    (hch : ∀ i, i ≤ pm_at c → a_chainNode (4 * s + i) = nI (pm_ins c i) ∧ a_chainEnd (4 * s + i) = nI (pm_lim c i))
    (f1 : 1 ≤ f) (f2 : f ≤ 15) (hk : 4 < K (pm_fj c f))
    (H5 : pm_part R c f ty t len = (5, c) → post 15 (f_frameAt, f_frameLength, f_frameSort, f_frameFlags, f_frameStream, f_down, f_entryCount, f_most, f_typeSeen, f_lastSender, f_sentLength, a_payload, a_life, a_theyEnded, a_weEnded, a_finishing, a_codes, a_windowIn, a_windowOut, a_headers, a_headerCount, a_entries, a_kinds, a_repeats, a_messageCount, a_text, a_nodeCount, a_nodeTypes, a_valueCount, a_valueOwners, a_values, a_skippedCount, a_reader, a_chainNode, a_chainEnd, a_queue, a_queueLength, a_sent, a_nodeSize, a_nodePlace))
    (H0 : ∀ c' nc nt vc vo va cn ce, pm_part R c f ty t len = (0, c') → pm_at c' = pm_at c + 1 → pm_row c' = 0 → pm_pos c' = t → pm_sk c' = pm_sk c → cr_XD K s nc nt vc vo va (pm_d c') → xr_O 1 s a_nodeCount nc → xr_O 16 s a_nodeTypes nt → xr_O 1 s a_valueCount vc → xr_O 48 s a_valueOwners vo → xr_O 48 s a_values va → xr_O 4 s a_chainNode cn → xr_O 4 s a_chainEnd ce → nt (16 * s) = a_nodeTypes (16 * s) →
      (∀ i, i ≤ pm_at c' → cn (4 * s + i) = nI (pm_ins c' i) ∧ ce (4 * s + i) = nI (pm_lim c' i)) →
      post 0 (f_frameAt, f_frameLength, f_frameSort, f_frameFlags, f_frameStream, f_down, f_entryCount, f_most, f_typeSeen, f_lastSender, f_sentLength, a_payload, a_life, a_theyEnded, a_weEnded, a_finishing, a_codes, a_windowIn, a_windowOut, a_headers, a_headerCount, a_entries, a_kinds, a_repeats, a_messageCount, a_text, nc, nt, vc, vo, va, a_skippedCount, xr_bE s (upd a_reader (11 * s + 10) (nI (pm_at c'))), cn, ce, a_queue, a_queueLength, a_sent, a_nodeSize, a_nodePlace)) :
    wpX_beginPart post (f_frameAt, f_frameLength, f_frameSort, f_frameFlags, f_frameStream, f_down, f_entryCount, f_most, f_typeSeen, f_lastSender, f_sentLength, a_payload, a_life, a_theyEnded, a_weEnded, a_finishing, a_codes, a_windowIn, a_windowOut, a_headers, a_headerCount, a_entries, a_kinds, a_repeats, a_messageCount, a_text, a_nodeCount, a_nodeTypes, a_valueCount, a_valueOwners, a_values, a_skippedCount, a_reader, a_chainNode, a_chainEnd, a_queue, a_queueLength, a_sent, a_nodeSize, a_nodePlace) (nI s) (nI ty) (nI len) := by
  have h3 := I.2.1
  have hin := I.2.2.2.2.1 (pm_at c) (Nat.le_refl _)
  have hnd : pm_nd c < pm_nn (pm_d c) := hin.1
  have hnn := I.1.2.1
  have hnn1 := I.1.1
  have hnv := I.1.2.2.1
  have hle := pm_pl_le (R := R) (D := pm_d c) (pm_nd c) f
  have i10 := xr_ix (s := s) (k := 10) hs (by omega)
  have c10 : (nI (11 * s) + 10).toNatClampNeg = 11 * s + 10 := i10.2.2
  obtain ⟨g1, g2⟩ := xr_c8 hs
  have hcn := (hch _ (Nat.le_refl _)).1
  unfold wpX_beginPart
  dsimp only
  refine nm_r i10.1 (xw_pt (a := pm_nd c) (n := f) (b := pm_at c) hs I.1 hK hD hnd f1 f2 h3 h7 h10 hcn ⟨g1, nm_r (by rw [g2, hD.1]) ?_⟩)
  have hchain : ∀ mm, pm_at c + 1 ≤ 3 → (∀ i, i ≤ pm_at c + 1 → upd a_chainNode (4 * s + (pm_at c + 1)) (nI mm) (4 * s + i) = nI (pm_u (pm_ins c) (pm_at c + 1) mm i) ∧ upd a_chainEnd (4 * s + (pm_at c + 1)) (nI (t + len)) (4 * s + i) = nI (pm_u (pm_lim c) (pm_at c + 1) (t + len) i)) := by
    intro mm _ i hi
    rw [xr_c4u, xr_c4u]
    by_cases y : i = pm_at c + 1
    · rw [if_pos y, if_pos y, y, pm_us, pm_us]; exact ⟨rfl, rfl⟩
    · rw [if_neg y, if_neg y, pm_un y, pm_un y]; exact hch i (by omega)
  unfold pm_part at H5 H0
  by_cases g : pm_pl R (pm_d c) (pm_nd c) f < pm_nv (pm_d c)
  · rw [if_pos g]
    obtain ⟨_, p2, p3⟩ := pm_pl_lt g
    have hkk : pm_kk K (pm_d c) (pm_pl R (pm_d c) (pm_nd c) f) = K (pm_fj c f) := by
      simp only [pm_kk]; rw [p2, p3]; rfl
    obtain ⟨mm, w1, w2, w3, w4⟩ := (I.1.2.2.2.2.2.1 _ g).2.2.2.2.2 (by rw [hkk]; exact hk)
    have hdep := (I.1.2.2.2.2.1 mm w3).2
    rw [p2, show dep (pm_nd c) = pm_at c from hin.2] at w4
    have hv := (hD.2.2.2 _ g).2
    rw [hkk, if_neg (by omega), w1] at hv
    obtain ⟨c1, c2, c3⟩ := xr_c48 (s := s) (a := pm_pl R (pm_d c) (pm_nd c) f) hs (by omega)
    have hm : (pm_va (pm_d c) (pm_pl R (pm_d c) (pm_nd c) f)).toNatClampNeg = mm := by
      rw [w1, nI_clamp (by omega)]
    rw [if_pos g] at H0
    refine br_f (nI_pos (by omega)) ⟨c2, nm_r (by rw [c3, hv]) ?_⟩
    refine xw_p105 hs (by omega) h2 h10 ?_
    have := H0 _ a_nodeCount a_nodeTypes a_valueCount a_valueOwners a_values (upd a_chainNode (4 * s + (pm_at c + 1)) (nI mm)) (upd a_chainEnd (4 * s + (pm_at c + 1)) (nI (t + len))) rfl rfl rfl rfl rfl hD xr_O_r xr_O_r xr_O_r xr_O_r xr_O_r (xr_O_u (by omega)) (xr_O_u (by omega)) rfl (by rw [hm]; exact hchain mm (by omega))
    exact this
  · rw [if_neg g]
    have hpl : pm_pl R (pm_d c) (pm_nd c) f = pm_nv (pm_d c) := by omega
    rw [if_neg g] at H0 H5
    refine br_t (by decide) (pk_eq (pm_nn (pm_d c)) 16 (fun y => ?_) (fun y1 => ⟨g1, ?_⟩))
    · rw [if_pos (Or.inl y)] at H5; exact H5 rfl
    rw [g2, hD.2.1]
    refine pk_eq (pm_nv (pm_d c)) 48 (fun y => ?_) (fun y2 => ⟨i10.2.1, ?_⟩)
    · rw [if_pos (Or.inr (Or.inl y))] at H5; exact H5 rfl
    rw [c10, h10, nI_1]
    refine pk_eq (pm_at c + 1) 4 (fun y => ?_) (fun y3 => ?_)
    · rw [if_pos (Or.inr (Or.inr (by omega)))] at H5; exact H5 rfl
    rw [if_neg (by omega)] at H0
    refine xw_add hs I.1 hD hnd f2 h3 h7 h10 hcn (by omega) ?_
    obtain ⟨c1, c2⟩ := xr_c16 (s := s) (a := pm_nn (pm_d c)) hs (by omega)
    dsimp only
    rw [c2, hD.1, nI_1]
    refine ⟨c1, nm_e ⟨g1, g1, nm_e ?_⟩⟩
    refine xw_p105 hs (by omega) h2 h10 ?_
    have hX := xr_XD_add (R := R) (K := K) (D := pm_d c) (a := pm_nd c) (n := f) (st := 0) (v := nI (pm_nn (pm_d c))) (xv := nI (pm_nn (pm_d c))) hpl (by omega) hs hD (by rw [if_neg (by show K (pm_fj c f) ≠ 4; omega)])
    refine H0 _ (upd a_nodeCount s (nI (pm_nn (pm_d c) + 1))) (upd a_nodeTypes (16 * s + pm_nn (pm_d c)) (nI ty)) (upd a_valueCount s (nI (pm_nv (pm_d c) + 1))) (upd a_valueOwners (48 * s + pm_nv (pm_d c)) (nI (16 * pm_nd c + f))) (upd a_values (48 * s + pm_nv (pm_d c)) (nI (pm_nn (pm_d c)))) _ _ rfl rfl rfl rfl rfl ?_ xr_O_1 (xr_O_u (by omega)) xr_O_1 (xr_O_u (by omega)) (xr_O_u (by omega)) (xr_O_u (by omega)) (xr_O_u (by omega)) ?_ (hchain _ (by omega))
    · obtain ⟨x1, x2, x3, x4⟩ := hX
      refine ⟨?_, x2, fun i hi => ?_, fun j hj => ?_⟩
      · rw [pm_upd_eq, if_pos rfl]; rfl
      · have hi : i < pm_nn (pm_d c) + 1 := hi
        show upd a_nodeTypes (16 * s + pm_nn (pm_d c)) (nI ty) (16 * s + i) = nI (pm_u (pm_nt (pm_d c)) (pm_nn (pm_d c)) ty i)
        by_cases z : i = pm_nn (pm_d c)
        · rw [z, pm_us, pm_upd_eq, if_pos rfl]
        · rw [pm_un z, pm_upd_eq, if_neg (by omega)]
          exact hD.2.2.1 i (by omega)
      · have hj' : j < pm_nv (pm_kp R (pm_d c) (pm_nd c) f (nI (pm_nn (pm_d c))) 0) := hj
        have hx4 := x4 j hj'
        have hvn : pm_vn (pm_kp R (pm_d c) (pm_nd c) f (nI (pm_nn (pm_d c))) 0) j ≠ pm_nn (pm_d c) := by
          rw [pm_kp_vn, pm_u_eq]
          split
          · omega
          · rename_i z
            rw [pm_kp_nv, if_pos hpl] at hj'
            have := (I.1.2.2.2.2.2.1 j (by omega)).1
            omega
        have hkk : pm_kk K (pm_nn (pm_d c) + 1, pm_u (pm_nt (pm_d c)) (pm_nn (pm_d c)) ty, (pm_kp R (pm_d c) (pm_nd c) f (nI (pm_nn (pm_d c))) 0).2.2) j = pm_kk K (pm_kp R (pm_d c) (pm_nd c) f (nI (pm_nn (pm_d c))) 0) j := by
          show K (16 * pm_u (pm_nt (pm_d c)) (pm_nn (pm_d c)) ty (pm_vn (pm_kp R (pm_d c) (pm_nd c) f (nI (pm_nn (pm_d c))) 0) j) + _) = K (16 * pm_nt (pm_d c) (pm_vn (pm_kp R (pm_d c) (pm_nd c) f (nI (pm_nn (pm_d c))) 0) j) + _)
          rw [pm_un hvn]
          rfl
        rw [← hkk] at hx4
        exact hx4
    · rw [pm_upd_eq, if_neg (by omega)]
end
end
section
/-! S2: lengths that end -/
section
variable {f_frameAt f_frameLength f_frameSort f_frameFlags f_frameStream f_down f_entryCount f_most f_typeSeen f_lastSender f_sentLength : Int32} {a_payload a_life a_theyEnded a_weEnded a_finishing a_codes a_windowIn a_windowOut a_headers a_headerCount a_entries a_kinds a_repeats a_messageCount a_text a_nodeCount a_nodeTypes a_valueCount a_valueOwners a_values a_skippedCount a_reader a_chainNode a_chainEnd a_queue a_queueLength a_sent a_nodeSize a_nodePlace : Nat → Int32} {s : Nat} {K : Nat → Nat} {R : Nat → Bool} {L : Nat} {dep : Nat → Nat} {c : pm_C}
/-- a body is to come -/
def xr_bd (s : Nat) (x : Int32) (rd : Nat → Int32) : Nat → Int32 := upd (upd rd (11 * s + 3) 4) (11 * s + 6) x
/-- a row is to come -/
def xr_rw (s : Nat) (h : Int32) (e : Int32) (rd : Nat → Int32) : Nat → Int32 := upd (upd (xr_bN s h rd) (11 * s + 6) 4) (11 * s + 8) e
theorem xw_len {f t : Nat} {x : Int32} {post : Int32 → SX → Prop} (hs : s < 8) (I : pm_CI K R L dep c) (hK : cr_K a_kinds a_repeats K R) (hD : cr_XD K s a_nodeCount a_nodeTypes a_valueCount a_valueOwners a_values (pm_d c)) (hL : L ≤ 200)
    (hr : pm_row c = 0) (h2 : a_reader (11 * s + 2) = nI t) (h4 : a_reader (11 * s + 4) = x) (h7 : a_reader (11 * s + 7) = nI (if f = 0 then 0 else pm_fj c f))
    (h9 : a_reader (11 * s + 9) = nI (pm_pos c)) (hpt : pm_pos c ≤ t) (htl : t ≤ pm_lim c (pm_at c)) (h10 : a_reader (11 * s + 10) = nI (pm_at c))
    (hch : ∀ i, i ≤ pm_at c → a_chainNode (4 * s + i) = nI (pm_ins c i) ∧ a_chainEnd (4 * s + i) = nI (pm_lim c i))
    (hf : f ≠ 0 → f ≤ 15 ∧ K (pm_fj c f) ≠ 0)
    (H4 : x < 0 ∨ pm_lim c (pm_at c) < t + x.toNatClampNeg → post 14 (f_frameAt, f_frameLength, f_frameSort, f_frameFlags, f_frameStream, f_down, f_entryCount, f_most, f_typeSeen, f_lastSender, f_sentLength, a_payload, a_life, a_theyEnded, a_weEnded, a_finishing, a_codes, a_windowIn, a_windowOut, a_headers, a_headerCount, a_entries, a_kinds, a_repeats, a_messageCount, a_text, a_nodeCount, a_nodeTypes, a_valueCount, a_valueOwners, a_values, a_skippedCount, a_reader, a_chainNode, a_chainEnd, a_queue, a_queueLength, a_sent, a_nodeSize, a_nodePlace))
    (HS0 : f = 0 → x = 0 → post 0 (f_frameAt, f_frameLength, f_frameSort, f_frameFlags, f_frameStream, f_down, f_entryCount, f_most, f_typeSeen, f_lastSender, f_sentLength, a_payload, a_life, a_theyEnded, a_weEnded, a_finishing, a_codes, a_windowIn, a_windowOut, a_headers, a_headerCount, a_entries, a_kinds, a_repeats, a_messageCount, a_text, a_nodeCount, a_nodeTypes, a_valueCount, a_valueOwners, a_values, upd a_skippedCount s (a_skippedCount s + nI (t - pm_pos c)), xr_bE s (xr_bd s 0 a_reader), a_chainNode, a_chainEnd, a_queue, a_queueLength, a_sent, a_nodeSize, a_nodePlace))
    (HS1 : ∀ len, f = 0 → x = nI len → 1 ≤ len → t + len ≤ pm_lim c (pm_at c) → post 0 (f_frameAt, f_frameLength, f_frameSort, f_frameFlags, f_frameStream, f_down, f_entryCount, f_most, f_typeSeen, f_lastSender, f_sentLength, a_payload, a_life, a_theyEnded, a_weEnded, a_finishing, a_codes, a_windowIn, a_windowOut, a_headers, a_headerCount, a_entries, a_kinds, a_repeats, a_messageCount, a_text, a_nodeCount, a_nodeTypes, a_valueCount, a_valueOwners, a_values, a_skippedCount, xr_bd s (nI len) a_reader, a_chainNode, a_chainEnd, a_queue, a_queueLength, a_sent, a_nodeSize, a_nodePlace))
    (HB5 : ∀ len rd, f ≠ 0 → K (pm_fj c f) = 4 → pm_pl R (pm_d c) (pm_nd c) f = 48 → x = nI len → t + len ≤ pm_lim c (pm_at c) → rd (11 * s) = a_reader (11 * s) → xr_O 11 s a_reader rd → post 15 (f_frameAt, f_frameLength, f_frameSort, f_frameFlags, f_frameStream, f_down, f_entryCount, f_most, f_typeSeen, f_lastSender, f_sentLength, a_payload, a_life, a_theyEnded, a_weEnded, a_finishing, a_codes, a_windowIn, a_windowOut, a_headers, a_headerCount, a_entries, a_kinds, a_repeats, a_messageCount, a_text, a_nodeCount, a_nodeTypes, a_valueCount, a_valueOwners, a_values, a_skippedCount, rd, a_chainNode, a_chainEnd, a_queue, a_queueLength, a_sent, a_nodeSize, a_nodePlace))
    (HB0 : ∀ vc vo va, f ≠ 0 → K (pm_fj c f) = 4 → pm_pl R (pm_d c) (pm_nd c) f ≠ 48 → x = 0 → cr_XD K s a_nodeCount a_nodeTypes vc vo va (pm_kp R (pm_d c) (pm_nd c) f (nI 0) t) → xr_O 1 s a_valueCount vc → xr_O 48 s a_valueOwners vo → xr_O 48 s a_values va → post 0 (f_frameAt, f_frameLength, f_frameSort, f_frameFlags, f_frameStream, f_down, f_entryCount, f_most, f_typeSeen, f_lastSender, f_sentLength, a_payload, a_life, a_theyEnded, a_weEnded, a_finishing, a_codes, a_windowIn, a_windowOut, a_headers, a_headerCount, a_entries, a_kinds, a_repeats, a_messageCount, a_text, a_nodeCount, a_nodeTypes, vc, vo, va, a_skippedCount, xr_bE s (xr_bd s 0 a_reader), a_chainNode, a_chainEnd, a_queue, a_queueLength, a_sent, a_nodeSize, a_nodePlace))
    (HB1 : ∀ len vc vo va, f ≠ 0 → K (pm_fj c f) = 4 → pm_pl R (pm_d c) (pm_nd c) f ≠ 48 → x = nI len → 1 ≤ len → t + len ≤ pm_lim c (pm_at c) → cr_XD K s a_nodeCount a_nodeTypes vc vo va (pm_kp R (pm_d c) (pm_nd c) f (nI len) t) → xr_O 1 s a_valueCount vc → xr_O 48 s a_valueOwners vo → xr_O 48 s a_values va → post 0 (f_frameAt, f_frameLength, f_frameSort, f_frameFlags, f_frameStream, f_down, f_entryCount, f_most, f_typeSeen, f_lastSender, f_sentLength, a_payload, a_life, a_theyEnded, a_weEnded, a_finishing, a_codes, a_windowIn, a_windowOut, a_headers, a_headerCount, a_entries, a_kinds, a_repeats, a_messageCount, a_text, a_nodeCount, a_nodeTypes, vc, vo, va, a_skippedCount, xr_bd s (nI len) a_reader, a_chainNode, a_chainEnd, a_queue, a_queueLength, a_sent, a_nodeSize, a_nodePlace))
    (HP : ∀ len, f ≠ 0 → 4 < K (pm_fj c f) → x = nI len → t + len ≤ pm_lim c (pm_at c) → wpX_beginPart post (f_frameAt, f_frameLength, f_frameSort, f_frameFlags, f_frameStream, f_down, f_entryCount, f_most, f_typeSeen, f_lastSender, f_sentLength, a_payload, a_life, a_theyEnded, a_weEnded, a_finishing, a_codes, a_windowIn, a_windowOut, a_headers, a_headerCount, a_entries, a_kinds, a_repeats, a_messageCount, a_text, a_nodeCount, a_nodeTypes, a_valueCount, a_valueOwners, a_values, a_skippedCount, a_reader, a_chainNode, a_chainEnd, a_queue, a_queueLength, a_sent, a_nodeSize, a_nodePlace) (nI s) (nI (K (pm_fj c f) - 5)) (nI len))
    (HR0 : f ≠ 0 → K (pm_fj c f) ≤ 3 → x = 0 → post 0 (f_frameAt, f_frameLength, f_frameSort, f_frameFlags, f_frameStream, f_down, f_entryCount, f_most, f_typeSeen, f_lastSender, f_sentLength, a_payload, a_life, a_theyEnded, a_weEnded, a_finishing, a_codes, a_windowIn, a_windowOut, a_headers, a_headerCount, a_entries, a_kinds, a_repeats, a_messageCount, a_text, a_nodeCount, a_nodeTypes, a_valueCount, a_valueOwners, a_values, a_skippedCount, xr_bE s (xr_rw s (if K (pm_fj c f) = 3 then 3 else 2) (nI t) a_reader), a_chainNode, a_chainEnd, a_queue, a_queueLength, a_sent, a_nodeSize, a_nodePlace))
    (HR1 : ∀ len, f ≠ 0 → K (pm_fj c f) ≤ 3 → x = nI len → 1 ≤ len → t + len ≤ pm_lim c (pm_at c) → post 0 (f_frameAt, f_frameLength, f_frameSort, f_frameFlags, f_frameStream, f_down, f_entryCount, f_most, f_typeSeen, f_lastSender, f_sentLength, a_payload, a_life, a_theyEnded, a_weEnded, a_finishing, a_codes, a_windowIn, a_windowOut, a_headers, a_headerCount, a_entries, a_kinds, a_repeats, a_messageCount, a_text, a_nodeCount, a_nodeTypes, a_valueCount, a_valueOwners, a_values, a_skippedCount, xr_rw s (if K (pm_fj c f) = 3 then 3 else 2) (nI (t + len)) a_reader, a_chainNode, a_chainEnd, a_queue, a_queueLength, a_sent, a_nodeSize, a_nodePlace)) :
    wpX_endLength post (f_frameAt, f_frameLength, f_frameSort, f_frameFlags, f_frameStream, f_down, f_entryCount, f_most, f_typeSeen, f_lastSender, f_sentLength, a_payload, a_life, a_theyEnded, a_weEnded, a_finishing, a_codes, a_windowIn, a_windowOut, a_headers, a_headerCount, a_entries, a_kinds, a_repeats, a_messageCount, a_text, a_nodeCount, a_nodeTypes, a_valueCount, a_valueOwners, a_values, a_skippedCount, a_reader, a_chainNode, a_chainEnd, a_queue, a_queueLength, a_sent, a_nodeSize, a_nodePlace) (nI s) := by
  have h3 := I.2.1
  have hin := I.2.2.2.2.1 (pm_at c) (Nat.le_refl _)
  have hnd : pm_nd c < pm_nn (pm_d c) := hin.1
  have hnn := I.1.2.1
  have hty := (I.1.2.2.2.2.1 _ hnd).1
  have hll := pm_lim_le I (pm_at c) (Nat.le_refl _)
  have i2 := xr_ix (s := s) (k := 2) hs (by omega)
  have i3 := xr_ix (s := s) (k := 3) hs (by omega)
  have i4 := xr_ix (s := s) (k := 4) hs (by omega)
  have i6 := xr_ix (s := s) (k := 6) hs (by omega)
  have i7 := xr_ix (s := s) (k := 7) hs (by omega)
  have i8 := xr_ix (s := s) (k := 8) hs (by omega)
  have i10 := xr_ix (s := s) (k := 10) hs (by omega)
  have e2 : a_reader (nI (11 * s) + 2).toNatClampNeg = nI t := (congrArg a_reader i2.2.2).trans h2
  have e4 : a_reader (nI (11 * s) + 4).toNatClampNeg = x := (congrArg a_reader i4.2.2).trans h4
  have e7 : a_reader (nI (11 * s) + 7).toNatClampNeg = nI (if f = 0 then 0 else pm_fj c f) := (congrArg a_reader i7.2.2).trans h7
  have e10 : a_reader (nI (11 * s) + 10).toNatClampNeg = nI (pm_at c) := (congrArg a_reader i10.2.2).trans h10
  obtain ⟨c4, c5⟩ := xr_c4 (s := s) (a := pm_at c) hs h3
  have hj : f ≠ 0 → 1 ≤ pm_fj c f ∧ pm_fj c f < 64 := by
    intro y
    have := (hf y).1
    show 1 ≤ 16 * pm_nt (pm_d c) (pm_nd c) + f ∧ 16 * pm_nt (pm_d c) (pm_nd c) + f < 64
    omega
  have hbd : ∀ (y : Int32) k, xr_bd s y a_reader (11 * s + k) = if k = 6 then y else if k = 3 then 4 else a_reader (11 * s + k) := by
    intro y k
    unfold xr_bd
    rw [xr_u, xr_u]
  unfold wpX_endLength
  dsimp only
  refine nm_r i4.1 ⟨i4.2.1, nm_r e4 ⟨i2.2.1, nm_r e2 ?_⟩⟩
  refine br_c (fun y => H4 (Or.inl y)) (fun y => ⟨i10.2.1, ?_⟩)
  obtain ⟨len, hlen, rfl⟩ := nI_of y
  rw [nI_clamp hlen] at H4
  rw [e10, c5, (hch _ (Nat.le_refl _)).2, e7]
  refine ⟨c4, pk_le len (pm_lim c (pm_at c) - t) (fun g => ⟨i7.2.1, ?_⟩) (fun g => H4 (Or.inr (by omega))) rfl (pk_sub htl)⟩
  -- a body
  have h117 : ∀ (z0 : Int32), wX_endLength_178 post (nI s) (nI len) (nI t) z0 f_frameAt f_frameLength f_frameSort f_frameFlags f_frameStream f_down f_entryCount f_most f_typeSeen f_lastSender f_sentLength a_payload a_life a_theyEnded a_weEnded a_finishing a_codes a_windowIn a_windowOut a_headers a_headerCount a_entries a_kinds a_repeats a_messageCount a_text a_nodeCount a_nodeTypes a_valueCount a_valueOwners a_values a_skippedCount (xr_bd s (nI len) a_reader) a_chainNode a_chainEnd a_queue a_queueLength a_sent a_nodeSize a_nodePlace → wX_endLength_117 post (nI s) (nI (11 * s)) (nI len) (nI t) z0 f_frameAt f_frameLength f_frameSort f_frameFlags f_frameStream f_down f_entryCount f_most f_typeSeen f_lastSender f_sentLength a_payload a_life a_theyEnded a_weEnded a_finishing a_codes a_windowIn a_windowOut a_headers a_headerCount a_entries a_kinds a_repeats a_messageCount a_text a_nodeCount a_nodeTypes a_valueCount a_valueOwners a_values a_skippedCount a_reader a_chainNode a_chainEnd a_queue a_queueLength a_sent a_nodeSize a_nodePlace := by
    intro z0 H
    unfold wX_endLength_117
    refine ⟨i3.2.1, nm_e ⟨i6.2.1, nm_r ?_ H⟩⟩
    unfold xr_bd
    exact (congrArg (fun j => upd _ j (nI len)) i6.2.2).trans (congrArg (fun g => upd g (11 * s + 6) (nI len)) (congrArg (fun j => upd a_reader j 4) i3.2.2))
  by_cases hf0 : f = 0
  · rw [if_pos hf0]
    refine br_t rfl ?_
    unfold wX_endLength_86
    refine br_t (by decide) (br_t rfl (h117 _ ?_))
    unfold wX_endLength_178
    refine br_f (by decide) ?_
    unfold wX_endLength_201
    refine br_t rfl (pk_eq len 0 (fun y0 => ?_) (fun y0 => HS1 len hf0 rfl (by omega) (by omega)))
    subst y0
    refine xw_eE (f := 0) (t := t) (p := pm_pos c) hs (by rw [hbd, if_neg (by omega), if_neg (by omega), h7, if_pos hf0]) (by omega) (by rw [hbd, if_neg (by omega), if_neg (by omega)]; exact h2) (fun _ => ⟨by rw [hbd, if_neg (by omega), if_neg (by omega)]; exact h9, hpt⟩) ?_
    rw [if_pos rfl]
    exact HS0 hf0 rfl
  · rw [if_neg hf0]
    obtain ⟨j1, j2⟩ := hj hf0
    obtain ⟨f1, f2⟩ := hf hf0
    refine br_f (fun y => ?_) ⟨i7.2.1, vp_in_nI j2 (by omega), ?_⟩
    · have := (nI_eq (a := pm_fj c f) (b := 0) (by omega) (by omega)).mp y
      omega
    rw [nI_clamp (show pm_fj c f < 2 ^ 31 by omega), hK.2.1 _ j2]
    have hk8 := hK.1 (pm_fj c f)
    have yk := xr_k2 _ hk8
    unfold wX_endLength_86
    refine br_c (fun y4 => ?_) (fun y4 => ?_)
    · have hk4 := yk.2.2.2.2.2.1.mp y4
      refine br_f (fun w => f2 (yk.1.mp w)) (br_c (fun y3 => ?_) (fun y3 => ?_))
      · -- bytes
        have hk := yk.2.2.2.2.1.mp y3
        refine h117 _ ?_
        unfold wX_endLength_178
        refine br_t y3 ?_
        have hxv : nI t * 256 + nI len = nI (256 * t) + nI len := by
          rw [show (256 : Int32) = nI 256 from rfl, pk_mul, Nat.mul_comm]
        refine xw_keep (a_reader := xr_bd s (nI len) a_reader) (a := pm_nd c) (n := f) (b := pm_at c) (st := t) (v := nI len) hs I.1 hK hD hnd (by omega) f1 h3 (by rw [hbd, if_neg (by omega), if_neg (by omega), h7, if_neg hf0]; rfl) (by rw [hbd, if_neg (by omega), if_neg (by omega)]; exact h10) (hch _ (Nat.le_refl _)).1 (by rw [if_pos (show K (16 * pm_nt (pm_d c) (pm_nd c) + f) = 4 from hk), hxv]) (fun h48 => ?_) (fun vc vo va h48 g1 g2 g3 g4 => ?_)
        · unfold wX_endLength_201
          refine br_f (by decide) (HB5 len _ hf0 hk h48 rfl (by omega) ?_ ?_)
          · have := hbd (nI len) 0
            rw [if_neg (by omega), if_neg (by omega)] at this
            exact this
          · intro j hj'
            unfold xr_bd
            rw [xr_o (by omega) hj', xr_o (by omega) hj']
        · unfold wX_endLength_201
          refine br_t rfl (pk_eq len 0 (fun y0 => ?_) (fun y0 => HB1 len vc vo va hf0 hk h48 rfl (by omega) (by omega) g1 g2 g3 g4))
          subst y0
          refine xw_eE (f := pm_fj c f) (t := t) (p := 0) hs (by rw [hbd, if_neg (by omega), if_neg (by omega), h7, if_neg hf0]) j2 (by rw [hbd, if_neg (by omega), if_neg (by omega)]; exact h2) (fun z => absurd z (by omega)) ?_
          rw [if_neg (by omega)]
          exact HB0 vc vo va hf0 hk h48 rfl g1 g2 g3 g4
      · have hk3 : K (pm_fj c f) ≤ 3 := by
          have : K (pm_fj c f) ≠ 4 := fun w => y3 (yk.2.2.2.2.1.mpr w)
          omega
        have h152 : ∀ h' : Int32, h' = (if K (pm_fj c f) = 3 then 3 else 2) → wX_endLength_152 post (nI s) (nI (11 * s)) (nI len) (nI t) (nI (K (pm_fj c f)) + (-1)) h' (nI s) f_frameAt f_frameLength f_frameSort f_frameFlags f_frameStream f_down f_entryCount f_most f_typeSeen f_lastSender f_sentLength a_payload a_life a_theyEnded a_weEnded a_finishing a_codes a_windowIn a_windowOut a_headers a_headerCount a_entries a_kinds a_repeats a_messageCount a_text a_nodeCount a_nodeTypes a_valueCount a_valueOwners a_values a_skippedCount a_reader a_chainNode a_chainEnd a_queue a_queueLength a_sent a_nodeSize a_nodePlace := by
          intro h' hh
          unfold wX_endLength_152
          refine xw_bN hs ⟨i6.2.1, nm_r (e' := upd (xr_bN s h' a_reader) (11 * s + 6) 4) (congrArg (fun j => upd (xr_bN s h' a_reader) j 4) i6.2.2) ⟨i8.2.1, nm_r (e' := xr_rw s h' (nI (t + len)) a_reader) ?_ ?_⟩⟩
          · rw [nI_add]
            exact congrArg (fun j => upd (upd (xr_bN s h' a_reader) (11 * s + 6) 4) j (nI (t + len))) i8.2.2
          · have hrw : ∀ k, k ≠ 8 → k ≠ 6 → k ≠ 5 → k ≠ 4 → k ≠ 3 → xr_rw s h' (nI (t + len)) a_reader (11 * s + k) = a_reader (11 * s + k) := by
              intro k n8 n6 n5 n4 n3
              unfold xr_rw
              rw [xr_u, if_neg n8, xr_u, if_neg n6, xr_bN_k, if_neg (fun w => w.elim n5 n4), if_neg n3]
            unfold wX_endLength_178
            refine br_f y3 ?_
            unfold wX_endLength_201
            refine br_t rfl (pk_eq len 0 (fun y0 => ?_) (fun y0 => ?_))
            · subst y0
              refine xw_eE (f := pm_fj c f) (t := t) (p := 0) hs (by rw [hrw 7 (by omega) (by omega) (by omega) (by omega) (by omega), h7, if_neg hf0]) j2 (by rw [hrw 2 (by omega) (by omega) (by omega) (by omega) (by omega)]; exact h2) (fun z => absurd z (by omega)) ?_
              rw [if_neg (by omega), hh]
              exact HR0 hf0 hk3 rfl
            · rw [hh]
              exact HR1 len hf0 hk3 rfl (by omega) (by omega)
        refine br_c (fun w => h152 3 ?_) (fun w => h152 2 ?_)
        · rw [if_pos (yk.2.2.2.1.mp w)]
        · rw [if_neg (fun z => w (yk.2.2.2.1.mpr z))]
    · have hk5 : 4 < K (pm_fj c f) := by
        rcases Nat.lt_or_ge 4 (K (pm_fj c f)) with w | w
        · exact w
        · exact absurd (yk.2.2.2.2.2.1.mpr w) y4
      rw [yk.2.2.2.2.2.2 hk5]
      exact HP len hf0 hk5 rfl (by omega)
end
end
section
/-! S3: what closeEnds does -/
section
variable {f_frameAt f_frameLength f_frameSort f_frameFlags f_frameStream f_down f_entryCount f_most f_typeSeen f_lastSender f_sentLength : Int32} {a_payload a_life a_theyEnded a_weEnded a_finishing a_codes a_windowIn a_windowOut a_headers a_headerCount a_entries a_kinds a_repeats a_messageCount a_text a_nodeCount a_nodeTypes a_valueCount a_valueOwners a_values a_skippedCount a_reader a_chainNode a_chainEnd a_queue a_queueLength a_sent a_nodeSize a_nodePlace : Nat → Int32} {s t : Nat} {K : Nat → Nat} {R : Nat → Bool} {L : Nat} {dep : Nat → Nat} {c : pm_C}
theorem xw_mid {x3 x5 : Int32} {post : Int32 → SX → Prop} (hs : s < 8) (I : pm_CI K R L dep c) (hL : L ≤ 200)
    (h2 : a_reader (11 * s + 2) = nI t) (h3 : a_reader (11 * s + 3) = x3) (h5 : a_reader (11 * s + 5) = x5) (hne : ¬ (x3 = 0 ∧ x5 = 0)) (h8 : a_reader (11 * s + 8) = nI (pm_row c)) (h10 : a_reader (11 * s + 10) = nI (pm_at c))
    (hce : a_chainEnd (4 * s + pm_at c) = nI (pm_lim c (pm_at c))) (hr5 : pm_row c ≠ 0 → x5 ≠ 0) (ht : t ≤ pm_end c)
    (H0 : t < pm_end c → post 0 (f_frameAt, f_frameLength, f_frameSort, f_frameFlags, f_frameStream, f_down, f_entryCount, f_most, f_typeSeen, f_lastSender, f_sentLength, a_payload, a_life, a_theyEnded, a_weEnded, a_finishing, a_codes, a_windowIn, a_windowOut, a_headers, a_headerCount, a_entries, a_kinds, a_repeats, a_messageCount, a_text, a_nodeCount, a_nodeTypes, a_valueCount, a_valueOwners, a_values, a_skippedCount, a_reader, a_chainNode, a_chainEnd, a_queue, a_queueLength, a_sent, a_nodeSize, a_nodePlace)) (H14 : t = pm_end c → post 14 (f_frameAt, f_frameLength, f_frameSort, f_frameFlags, f_frameStream, f_down, f_entryCount, f_most, f_typeSeen, f_lastSender, f_sentLength, a_payload, a_life, a_theyEnded, a_weEnded, a_finishing, a_codes, a_windowIn, a_windowOut, a_headers, a_headerCount, a_entries, a_kinds, a_repeats, a_messageCount, a_text, a_nodeCount, a_nodeTypes, a_valueCount, a_valueOwners, a_values, a_skippedCount, a_reader, a_chainNode, a_chainEnd, a_queue, a_queueLength, a_sent, a_nodeSize, a_nodePlace)) : wpX_closeEnds post (f_frameAt, f_frameLength, f_frameSort, f_frameFlags, f_frameStream, f_down, f_entryCount, f_most, f_typeSeen, f_lastSender, f_sentLength, a_payload, a_life, a_theyEnded, a_weEnded, a_finishing, a_codes, a_windowIn, a_windowOut, a_headers, a_headerCount, a_entries, a_kinds, a_repeats, a_messageCount, a_text, a_nodeCount, a_nodeTypes, a_valueCount, a_valueOwners, a_values, a_skippedCount, a_reader, a_chainNode, a_chainEnd, a_queue, a_queueLength, a_sent, a_nodeSize, a_nodePlace) (nI s) := by
  have h3' := I.2.1
  have hll := pm_lim_le I (pm_at c) (Nat.le_refl _)
  have hel := pm_end_le I
  have i2 := xr_ix (s := s) (k := 2) hs (by omega)
  have i5 := xr_ix (s := s) (k := 5) hs (by omega)
  have i8 := xr_ix (s := s) (k := 8) hs (by omega)
  have e2 : a_reader (nI (11 * s) + 2).toNatClampNeg = nI t := (congrArg a_reader i2.2.2).trans h2
  have e5 : a_reader (nI (11 * s) + 5).toNatClampNeg = x5 := (congrArg a_reader i5.2.2).trans h5
  have e8 : a_reader (nI (11 * s) + 8).toNatClampNeg = nI (pm_row c) := (congrArg a_reader i8.2.2).trans h8
  unfold wpX_closeEnds
  dsimp only
  refine nm_r i2.1 ⟨i8.2.1, ?_⟩
  rw [e8, e2, e5]
  by_cases hr : pm_row c = 0
  · have he : pm_end c = pm_lim c (pm_at c) := by unfold pm_end; exact if_pos hr
    rw [hr]
    refine br_t rfl ⟨1, ?_⟩
    exact xw_clS (k := 0) (n := 0) hs (by omega) h3' (by omega) h2 h3 h5 h10 hce (by omega) (fun y => H0 (by omega)) (fun y _ => H14 (by omega)) (fun _ y1 y2 _ => absurd ⟨y1, y2⟩ hne) (fun b _ y1 y2 _ => absurd ⟨y1, y2⟩ hne)
  · have he : pm_end c = pm_row c := by unfold pm_end; exact if_neg hr
    have hrl := (I.2.2.2.2.2.2.2 hr).1
    refine br_f (fun y => ?_) ⟨i2.2.1, i8.2.1, ?_⟩
    · have := (nI_eq (a := pm_row c) (b := 0) (by omega) (by omega)).mp y
      omega
    refine pk_eq t (pm_row c) (fun y => ⟨i5.2.1, br_f (hr5 hr) (H14 (by omega))⟩) (fun y => ⟨1, ?_⟩)
    exact xw_clS (k := 0) (n := 0) hs (by omega) h3' (by omega) h2 h3 h5 h10 hce (by omega) (fun y => H0 (by omega)) (fun y2 _ => absurd y2 (by omega)) (fun _ y1 y2 _ => absurd ⟨y1, y2⟩ hne) (fun b _ y1 y2 _ => absurd ⟨y1, y2⟩ hne)
/-- behind an element -/
theorem xw_cle {post : Int32 → SX → Prop} (hs : s < 8) (I : pm_CI K R L dep c) (hL : L ≤ 200) (hr : pm_row c = 0) (hp : pm_pos c = t)
    (h2 : a_reader (11 * s + 2) = nI t) (h3 : a_reader (11 * s + 3) = 0) (h5 : a_reader (11 * s + 5) = 0) (h10 : a_reader (11 * s + 10) = nI (pm_at c))
    (hch : ∀ i, i ≤ pm_at c → a_chainEnd (4 * s + i) = nI (pm_lim c i))
    (H1 : t ≠ L → post 0 (f_frameAt, f_frameLength, f_frameSort, f_frameFlags, f_frameStream, f_down, f_entryCount, f_most, f_typeSeen, f_lastSender, f_sentLength, a_payload, a_life, a_theyEnded, a_weEnded, a_finishing, a_codes, a_windowIn, a_windowOut, a_headers, a_headerCount, a_entries, a_kinds, a_repeats, a_messageCount, a_text, a_nodeCount, a_nodeTypes, a_valueCount, a_valueOwners, a_values, a_skippedCount, upd a_reader (11 * s + 10) (nI (pm_pop (pm_lim c) t (pm_at c))), a_chainNode, a_chainEnd, a_queue, a_queueLength, a_sent, a_nodeSize, a_nodePlace))
    (H2 : t = L → post 0 (f_frameAt, f_frameLength, f_frameSort, f_frameFlags, f_frameStream, f_down, f_entryCount, f_most, f_typeSeen, f_lastSender, f_sentLength, a_payload, a_life, a_theyEnded, a_weEnded, a_finishing, a_codes, a_windowIn, a_windowOut, a_headers, a_headerCount, a_entries, a_kinds, a_repeats, upd a_messageCount s (a_messageCount s + 1), a_text, a_nodeCount, a_nodeTypes, a_valueCount, a_valueOwners, a_values, a_skippedCount, upd (upd a_reader (11 * s + 10) (nI 0)) (11 * s) 0, a_chainNode, a_chainEnd, a_queue, a_queueLength, a_sent, a_nodeSize, a_nodePlace)) :
    ∃ n, wX_closeEnds_58 post (nI s) (nI (11 * s)) f_frameAt f_frameLength f_frameSort f_frameFlags f_frameStream f_down f_entryCount f_most f_typeSeen f_lastSender f_sentLength n (nI 0) a_payload a_life a_theyEnded a_weEnded a_finishing a_codes a_windowIn a_windowOut a_headers a_headerCount a_entries a_kinds a_repeats a_messageCount a_text a_nodeCount a_nodeTypes a_valueCount a_valueOwners a_values a_skippedCount a_reader a_chainNode a_chainEnd a_queue a_queueLength a_sent a_nodeSize a_nodePlace := by
  have h3' := I.2.1
  have hl0 := I.2.2.2.1
  have hpe := I.2.2.2.2.2.2.1
  have he : pm_end c = pm_lim c (pm_at c) := by unfold pm_end; exact if_pos hr
  have hle := pm_lim_le I
  have hll := hle (pm_at c) (Nat.le_refl _)
  rw [← hl0] at H1 H2
  refine ⟨pm_at c + 1, xw_clE hs (by omega) (by omega) (pm_at c) a_reader 0 (by omega) h2 h3 h5 h10 (fun i hi => ⟨hch i hi, ?_, fun y => I.2.2.2.2.2.1 i y⟩) (by omega) H1 H2⟩
  rw [hl0]; exact hle i hi
theorem xw_el {post : Int32 → SX → Prop} (hs : s < 8) (I : pm_CI K R L dep c) (hL : L ≤ 200) (hr : pm_row c = 0) (hp : pm_pos c = t)
    (h2 : a_reader (11 * s + 2) = nI t) (h3 : a_reader (11 * s + 3) = 0) (h5 : a_reader (11 * s + 5) = 0) (h8 : a_reader (11 * s + 8) = 0) (h10 : a_reader (11 * s + 10) = nI (pm_at c))
    (hch : ∀ i, i ≤ pm_at c → a_chainEnd (4 * s + i) = nI (pm_lim c i))
    (H1 : t ≠ L → post 0 (f_frameAt, f_frameLength, f_frameSort, f_frameFlags, f_frameStream, f_down, f_entryCount, f_most, f_typeSeen, f_lastSender, f_sentLength, a_payload, a_life, a_theyEnded, a_weEnded, a_finishing, a_codes, a_windowIn, a_windowOut, a_headers, a_headerCount, a_entries, a_kinds, a_repeats, a_messageCount, a_text, a_nodeCount, a_nodeTypes, a_valueCount, a_valueOwners, a_values, a_skippedCount, upd a_reader (11 * s + 10) (nI (pm_pop (pm_lim c) t (pm_at c))), a_chainNode, a_chainEnd, a_queue, a_queueLength, a_sent, a_nodeSize, a_nodePlace))
    (H2 : t = L → post 0 (f_frameAt, f_frameLength, f_frameSort, f_frameFlags, f_frameStream, f_down, f_entryCount, f_most, f_typeSeen, f_lastSender, f_sentLength, a_payload, a_life, a_theyEnded, a_weEnded, a_finishing, a_codes, a_windowIn, a_windowOut, a_headers, a_headerCount, a_entries, a_kinds, a_repeats, upd a_messageCount s (a_messageCount s + 1), a_text, a_nodeCount, a_nodeTypes, a_valueCount, a_valueOwners, a_values, a_skippedCount, upd (upd a_reader (11 * s + 10) (nI 0)) (11 * s) 0, a_chainNode, a_chainEnd, a_queue, a_queueLength, a_sent, a_nodeSize, a_nodePlace)) :
    wpX_closeEnds post (f_frameAt, f_frameLength, f_frameSort, f_frameFlags, f_frameStream, f_down, f_entryCount, f_most, f_typeSeen, f_lastSender, f_sentLength, a_payload, a_life, a_theyEnded, a_weEnded, a_finishing, a_codes, a_windowIn, a_windowOut, a_headers, a_headerCount, a_entries, a_kinds, a_repeats, a_messageCount, a_text, a_nodeCount, a_nodeTypes, a_valueCount, a_valueOwners, a_values, a_skippedCount, a_reader, a_chainNode, a_chainEnd, a_queue, a_queueLength, a_sent, a_nodeSize, a_nodePlace) (nI s) := by
  have i8 := xr_ix (s := s) (k := 8) hs (by omega)
  have e8 : a_reader (nI (11 * s) + 8).toNatClampNeg = 0 := (congrArg a_reader i8.2.2).trans h8
  unfold wpX_closeEnds
  dsimp only
  refine nm_r i8.1 ⟨i8.2.1, ?_⟩
  rw [e8]
  exact br_t rfl (xw_cle hs I hL hr hp h2 h3 h5 h10 hch H1 H2)
/-- behind a single of a row -/
theorem xw_rw {f : Nat} {x3 : Int32} {post : Int32 → SX → Prop} (hs : s < 8) (I : pm_CI K R L dep c) (hL : L ≤ 200) (hr : pm_row c ≠ 0) (hp : pm_pos c = t)
    (h2 : a_reader (11 * s + 2) = nI t) (h3 : a_reader (11 * s + 3) = x3) (hx3 : x3 ≠ 0) (h5 : a_reader (11 * s + 5) = 0) (h7 : a_reader (11 * s + 7) = nI f) (hf : 1 ≤ f) (hf' : f < 64) (h8 : a_reader (11 * s + 8) = nI (pm_row c)) (h10 : a_reader (11 * s + 10) = nI (pm_at c))
    (hch : ∀ i, i ≤ pm_at c → a_chainEnd (4 * s + i) = nI (pm_lim c i))
    (H0 : t < pm_row c → post 0 (f_frameAt, f_frameLength, f_frameSort, f_frameFlags, f_frameStream, f_down, f_entryCount, f_most, f_typeSeen, f_lastSender, f_sentLength, a_payload, a_life, a_theyEnded, a_weEnded, a_finishing, a_codes, a_windowIn, a_windowOut, a_headers, a_headerCount, a_entries, a_kinds, a_repeats, a_messageCount, a_text, a_nodeCount, a_nodeTypes, a_valueCount, a_valueOwners, a_values, a_skippedCount, a_reader, a_chainNode, a_chainEnd, a_queue, a_queueLength, a_sent, a_nodeSize, a_nodePlace))
    (H1 : t = pm_row c → t ≠ L → post 0 (f_frameAt, f_frameLength, f_frameSort, f_frameFlags, f_frameStream, f_down, f_entryCount, f_most, f_typeSeen, f_lastSender, f_sentLength, a_payload, a_life, a_theyEnded, a_weEnded, a_finishing, a_codes, a_windowIn, a_windowOut, a_headers, a_headerCount, a_entries, a_kinds, a_repeats, a_messageCount, a_text, a_nodeCount, a_nodeTypes, a_valueCount, a_valueOwners, a_values, a_skippedCount, upd (xr_bE s a_reader) (11 * s + 10) (nI (pm_pop (pm_lim c) t (pm_at c))), a_chainNode, a_chainEnd, a_queue, a_queueLength, a_sent, a_nodeSize, a_nodePlace))
    (H2 : t = pm_row c → t = L → post 0 (f_frameAt, f_frameLength, f_frameSort, f_frameFlags, f_frameStream, f_down, f_entryCount, f_most, f_typeSeen, f_lastSender, f_sentLength, a_payload, a_life, a_theyEnded, a_weEnded, a_finishing, a_codes, a_windowIn, a_windowOut, a_headers, a_headerCount, a_entries, a_kinds, a_repeats, upd a_messageCount s (a_messageCount s + 1), a_text, a_nodeCount, a_nodeTypes, a_valueCount, a_valueOwners, a_values, a_skippedCount, upd (upd (xr_bE s a_reader) (11 * s + 10) (nI 0)) (11 * s) 0, a_chainNode, a_chainEnd, a_queue, a_queueLength, a_sent, a_nodeSize, a_nodePlace)) :
    wpX_closeEnds post (f_frameAt, f_frameLength, f_frameSort, f_frameFlags, f_frameStream, f_down, f_entryCount, f_most, f_typeSeen, f_lastSender, f_sentLength, a_payload, a_life, a_theyEnded, a_weEnded, a_finishing, a_codes, a_windowIn, a_windowOut, a_headers, a_headerCount, a_entries, a_kinds, a_repeats, a_messageCount, a_text, a_nodeCount, a_nodeTypes, a_valueCount, a_valueOwners, a_values, a_skippedCount, a_reader, a_chainNode, a_chainEnd, a_queue, a_queueLength, a_sent, a_nodeSize, a_nodePlace) (nI s) := by
  have h3' := I.2.1
  have hll := pm_lim_le I (pm_at c) (Nat.le_refl _)
  have he : pm_end c = pm_row c := by unfold pm_end; exact if_neg hr
  have hpe := I.2.2.2.2.2.2.1
  have hrl := (I.2.2.2.2.2.2.2 hr).1
  have i2 := xr_ix (s := s) (k := 2) hs (by omega)
  have i5 := xr_ix (s := s) (k := 5) hs (by omega)
  have i8 := xr_ix (s := s) (k := 8) hs (by omega)
  have e2 : a_reader (nI (11 * s) + 2).toNatClampNeg = nI t := (congrArg a_reader i2.2.2).trans h2
  have e5 : a_reader (nI (11 * s) + 5).toNatClampNeg = 0 := (congrArg a_reader i5.2.2).trans h5
  have e8 : a_reader (nI (11 * s) + 8).toNatClampNeg = nI (pm_row c) := (congrArg a_reader i8.2.2).trans h8
  unfold wpX_closeEnds
  dsimp only
  refine nm_r i2.1 ⟨i8.2.1, ?_⟩
  rw [e8, e2, e5]
  refine br_f (fun y => ?_) ⟨i2.2.1, i8.2.1, ?_⟩
  · have := (nI_eq (a := pm_row c) (b := 0) (by omega) (by omega)).mp y
    omega
  refine pk_eq t (pm_row c) (fun y => ⟨i5.2.1, br_t rfl ?_⟩) (fun y => ⟨1, ?_⟩)
  · refine xw_eE (f := f) (t := t) (p := 0) hs h7 hf' h2 (fun z => absurd z (by omega)) ?_
    rw [if_neg (by omega)]
    refine xw_cle (a_reader := xr_bE s a_reader) (c := pm_row0 c) hs (pm_CI_row0 I hr (by omega)) hL rfl hp ?_ ?_ ?_ ?_ hch (H1 y) (H2 y)
    · rw [xr_bE_k, if_neg (by omega), if_neg (by omega)]; exact h2
    · rw [xr_bE_k, if_neg (by omega), if_pos (by omega)]
    · rw [xr_bE_k, if_neg (by omega), if_pos (by omega)]
    · rw [xr_bE_k, if_neg (by omega), if_neg (by omega)]; exact h10
  · exact xw_clS (k := 0) (n := 0) hs (by omega) h3' (by omega) h2 h3 h5 h10 (hch _ (Nat.le_refl _)) (by omega) (fun y => H0 (by omega)) (fun y2 _ => absurd y2 (by omega)) (fun _ y1 _ _ => absurd y1 hx3) (fun b _ y1 _ _ => absurd y1 hx3)
end
end
section
/-! S4: what a byte leads to -/
section
/-- outside the stream nothing changes -/
def xr_fr (s : Nat) (mc nc nt vc vo va sk rd cn ce mc' nc' nt' vc' vo' va' sk' rd' cn' ce' : Nat → Int32) : Prop :=
  xr_O 1 s mc mc' ∧ xr_O 1 s nc nc' ∧ xr_O 16 s nt nt' ∧ xr_O 1 s vc vc' ∧ xr_O 48 s vo vo' ∧ xr_O 48 s va va' ∧ xr_O 1 s sk sk' ∧ xr_O 11 s rd rd' ∧ xr_O 4 s cn cn' ∧ xr_O 4 s ce ce' ∧ nt' (16 * s) = nt (16 * s)
/-- a byte more: an error, on the way, or whole -/
def xr_sp (K : Nat → Nat) (R : Nat → Bool) (s y L t : Nat) (B : Nat → Nat) (mc rd : Nat → Int32) (code : Nat) (mc' nc' nt' vc' vo' va' sk' rd' cn' ce' : Nat → Int32) : Prop :=
  (code ≠ 0 ∧ code ≤ 5 ∧ mc' = mc ∧ rd' (11 * s) = rd (11 * s) ∧ ∃ r, pm_Rd B K R t (cr_0 y L) r ∧ r.1 = code) ∨
  (code = 0 ∧ mc' = mc ∧ rd' (11 * s) = rd (11 * s) ∧ cr_inc K R s y L t B nc' nt' vc' vo' va' sk' rd' cn' ce' ∧ ∃ r, pm_Rd B K R t (cr_0 y L) r ∧ r.1 = 9) ∨
  (code = 0 ∧ t = L ∧ mc' = upd mc s (mc s + 1) ∧ rd' (11 * s) = 0 ∧ cr_done K R s y L B nc' nt' vc' vo' va' sk')
variable {B : Nat → Nat} {K : Nat → Nat} {R : Nat → Bool} {L t y : Nat} {dep : Nat → Nat} {c : pm_C} {h f q d w : Nat}
theorem pm_go_9 (hp : cr_ph K R t c h f q d w) : pm_go B K R t c h f q d w = (9, c) := by
  obtain ⟨p1, p2, p3⟩ := hp
  unfold pm_go
  rcases p3 with ⟨e, a1, a2, a3⟩ | ⟨e, a1, a2, a3, a4, a5⟩ | ⟨e, a1, a2, a3, a4, a5⟩ | ⟨e, a1, a2, a3, a4, a5, a6⟩ | ⟨e, a1, a2, a3, a4, a5, a6⟩
  · have he : pm_end c = pm_lim c (pm_at c) := by unfold pm_end; exact if_pos a3
    rw [if_pos e]
    exact pm_goT_9 a2 (by omega) (by omega)
  · have he : pm_end c = pm_lim c (pm_at c) := by unfold pm_end; exact if_pos a3
    rw [if_neg (by omega), if_pos e]
    exact pm_goL_9 a2 (by omega) (by omega)
  · rw [if_neg (by omega), if_neg (by omega), if_pos e]
    exact pm_goV_9 a2 (by omega) (by omega)
  · rw [if_neg (by omega), if_neg (by omega), if_neg (by omega), if_pos e]
    exact pm_goF_9 (by omega) p1
  · rw [if_neg (by omega), if_neg (by omega), if_neg (by omega), if_neg (by omega)]
    unfold pm_body
    by_cases f0 : f = 0
    · rw [if_pos f0, if_pos a2]
    · rw [if_neg f0, if_pos (a6 f0).1, if_neg (a6 f0).2, if_pos a2]
/-- what comes to the reference's end here -/
theorem cr_at {g : (Nat → Nat) → Nat → Nat × pm_C} {x : Nat} (H : cr_from K R y L t B g) (hg : g B t = (x, c)) (hx : x ≠ 0) : ∃ r, pm_Rd B K R t (cr_0 y L) r ∧ r.1 = x :=
  ⟨(x, c), H t B (Nat.le_refl _) (fun _ _ => rfl) _ (by rw [hg]; exact Or.inr ⟨hx, rfl⟩), rfl⟩
/-- one byte on -/
theorem cr_on {B1 : Nat → Nat} {g g1 : (Nat → Nat) → Nat → Nat × pm_C} (H : cr_from K R y L t B g) (hB : ∀ i, i < t → B1 i = B i)
    (hg : ∀ T B', t + 1 ≤ T → (∀ i, i < t + 1 → B' i = B1 i) → ∀ r, pm_Rp B' K R T (g1 B' T) r → pm_Rp B' K R T (g B' T) r) : cr_from K R y L (t + 1) B1 g1 := by
  intro T B' hT hB' r hr
  exact H T B' (by omega) (fun i hi => (hB' i (by omega)).trans (hB i hi)) r (hg T B' hT hB' r hr)
variable {f_frameAt f_frameLength f_frameSort f_frameFlags f_frameStream f_down f_entryCount f_most f_typeSeen f_lastSender f_sentLength : Int32} {a_payload a_life a_theyEnded a_weEnded a_finishing a_codes a_windowIn a_windowOut a_headers a_headerCount a_entries a_kinds a_repeats a_messageCount a_text a_nodeCount a_nodeTypes a_valueCount a_valueOwners a_values a_skippedCount a_reader a_chainNode a_chainEnd a_queue a_queueLength a_sent a_nodeSize a_nodePlace : Nat → Int32} {s : Nat} {mc0 rd0 : Nat → Int32}
/-- within an element -/
theorem xt_mid {post : Int32 → SX → Prop} (hs : s < 8) (hL : L ≤ 200) (I : pm_CI K R L dep c) (htL : t ≤ L)
    (hph : t < pm_end c → cr_ph K R t c h f q d w) (hte : t ≤ pm_end c) (h4 : t = pm_end c → pm_go B K R t c h f q d w = (4, c))
    (hne : h ≠ 0 ∨ d ≠ 0) (hh : h ≤ 4) (hd : d ≤ 10) (hrd : pm_row c ≠ 0 → h < 4 ∧ d ≠ 0)
    (hreg : cr_reg s t B c h f q d w a_reader a_chainNode a_chainEnd) (hXD : cr_XD K s a_nodeCount a_nodeTypes a_valueCount a_valueOwners a_values (cr_D R c h f q w)) (hsk : a_skippedCount s = nI (pm_sk c))
    (hfrom : cr_from K R y L t B (fun B' T => pm_go B' K R T c h f q d w)) (hmc : a_messageCount = mc0) (hr0 : a_reader (11 * s) = rd0 (11 * s))
    (H : ∀ code, xr_sp K R s y L t B mc0 rd0 code a_messageCount a_nodeCount a_nodeTypes a_valueCount a_valueOwners a_values a_skippedCount a_reader a_chainNode a_chainEnd → post (if code = 0 then 0 else nI (10 + code)) (f_frameAt, f_frameLength, f_frameSort, f_frameFlags, f_frameStream, f_down, f_entryCount, f_most, f_typeSeen, f_lastSender, f_sentLength, a_payload, a_life, a_theyEnded, a_weEnded, a_finishing, a_codes, a_windowIn, a_windowOut, a_headers, a_headerCount, a_entries, a_kinds, a_repeats, a_messageCount, a_text, a_nodeCount, a_nodeTypes, a_valueCount, a_valueOwners, a_values, a_skippedCount, a_reader, a_chainNode, a_chainEnd, a_queue, a_queueLength, a_sent, a_nodeSize, a_nodePlace)) :
    wX_readByte_212 post (nI s) 0 f_frameAt f_frameLength f_frameSort f_frameFlags f_frameStream f_down f_entryCount f_most f_typeSeen f_lastSender f_sentLength a_payload a_life a_theyEnded a_weEnded a_finishing a_codes a_windowIn a_windowOut a_headers a_headerCount a_entries a_kinds a_repeats a_messageCount a_text a_nodeCount a_nodeTypes a_valueCount a_valueOwners a_values a_skippedCount a_reader a_chainNode a_chainEnd a_queue a_queueLength a_sent a_nodeSize a_nodePlace := by
  obtain ⟨r2, r3, r45, r63, r64, r7, r8, r9, r10, rch⟩ := hreg
  unfold wX_readByte_212
  refine br_t rfl ?_
  refine xw_mid (x3 := nI h) (x5 := a_reader (11 * s + 5)) hs I hL r2 r3 rfl (fun z => ?_) r8 r10 (rch _ (Nat.le_refl _)).2 (fun z1 z2 => ?_) hte (fun z => ?_) (fun z => ?_)
  · have e3 := (nI_eq (a := h) (b := 0) (by omega) (by omega)).mp z.1
    have := (r45 (by omega)).2
    rw [this] at z
    have e5 := (nI_eq (a := d) (b := 0) (by omega) (by omega)).mp z.2
    omega
  · obtain ⟨y1, y2⟩ := hrd z1
    rw [(r45 y1).2] at z2
    have e5 := (nI_eq (a := d) (b := 0) (by omega) (by omega)).mp z2
    omega
  · have hp := hph z
    refine H 0 (Or.inr (Or.inl ⟨rfl, hmc, hr0, ?_, cr_at hfrom (pm_go_9 hp) (by omega)⟩))
    have hel := pm_end_le I
    exact ⟨dep, c, h, f, q, d, w, by omega, I, hp, ⟨r2, r3, r45, r63, r64, r7, r8, r9, r10, rch⟩, hXD, hsk, hfrom⟩
  · exact H 4 (Or.inl ⟨by omega, by omega, hmc, hr0, cr_at hfrom (h4 z) (by omega)⟩)
end
end
section
/-! S5: behind an element -/
section
variable {B : Nat → Nat} {K : Nat → Nat} {R : Nat → Bool} {L t y : Nat} {dep : Nat → Nat} {c : pm_C} {s : Nat} {mc rd0 nc nt vc vo va sk rd cn ce : Nat → Int32}
/-- the registers at an element's beginning -/
def xr_fresh (s t : Nat) (c : pm_C) (rd cn ce : Nat → Int32) : Prop :=
  rd (11 * s + 2) = nI t ∧ rd (11 * s + 3) = 0 ∧ rd (11 * s + 4) = 0 ∧ rd (11 * s + 5) = 0 ∧ rd (11 * s + 8) = 0 ∧ rd (11 * s + 9) = nI t ∧ rd (11 * s + 10) = nI (pm_at c) ∧
  (∀ i, i ≤ pm_at c → cn (4 * s + i) = nI (pm_ins c i) ∧ ce (4 * s + i) = nI (pm_lim c i))
theorem xt_f1 (I : pm_CI K R L dep c) (hr : pm_row c = 0) (hp : pm_pos c = t) (hF : xr_fresh s t c rd cn ce) (hXD : cr_XD K s nc nt vc vo va (pm_d c)) (hsk : sk s = nI (pm_sk c))
    (hfrom : cr_from K R y L t B (fun _ _ => (0, c))) (hr0 : rd (11 * s) = rd0 (11 * s)) (htL : t ≠ L) :
    xr_sp K R s y L t B mc rd0 0 mc nc nt vc vo va sk (upd rd (11 * s + 10) (nI (pm_pop (pm_lim c) t (pm_at c)))) cn ce := by
  obtain ⟨r2, r3, r4, r5, r8, r9, r10, rch⟩ := hF
  have hl0 := I.2.2.2.1
  have hne : pm_pos c ≠ pm_lim c 0 := by omega
  have I' := pm_CI_pop I hr
  have hlt := pm_pop_lt I hr hne
  have he : pm_end (pm_popC c) = pm_lim (pm_popC c) (pm_at (pm_popC c)) := by unfold pm_end; exact if_pos hr
  have hpp : pm_pos (pm_popC c) = t := hp
  have hel := pm_end_le I'
  have hpop := pm_pop_s (lim := pm_lim c) (p := pm_pos c) (pm_at c)
  have hph : cr_ph K R t (pm_popC c) 0 0 0 0 0 := ⟨by omega, by omega, Or.inl ⟨rfl, by omega, by omega, hr⟩⟩
  have hfr : cr_from K R y L t B (fun B' T => pm_go B' K R T (pm_popC c) 0 0 0 0 0) := by
    intro T B' hT hB' r hr'
    dsimp only at hr'
    unfold pm_go at hr'
    rw [if_pos rfl] at hr'
    have hw : pm_Rd B' K R T c r := pm_rd_T hr hne hr'
    exact hfrom T B' hT hB' r (Or.inl ⟨rfl, hw⟩)
  refine Or.inr (Or.inl ⟨rfl, rfl, ?_, ⟨dep, pm_popC c, 0, 0, 0, 0, 0, by omega, I', hph, ⟨?_, ?_, ?_, ?_, ?_, ?_, ?_, ?_, ?_, ?_⟩, ?_, hsk, hfr⟩, cr_at hfr (pm_go_9 hph) (by omega)⟩)
  · have := xr_u (f := rd) (s := s) (i := 10) (j := 0) (x := nI (pm_pop (pm_lim c) t (pm_at c)))
    rw [if_neg (by omega)] at this
    exact this.trans hr0
  · rw [xr_u, if_neg (by omega)]; exact r2
  · rw [xr_u, if_neg (by omega)]; exact r3
  · intro _
    rw [xr_u, if_neg (by omega), xr_u, if_neg (by omega)]
    exact ⟨r4, r5⟩
  · intro z; omega
  · intro z; omega
  · intro z; omega
  · rw [xr_u, if_neg (by omega), r8, show pm_row (pm_popC c) = 0 from hr]; rfl
  · intro _
    rw [xr_u, if_neg (by omega), r9, hpp]
  · rw [xr_u, if_pos rfl, ← hp]; rfl
  · intro i hi
    exact rch i (Nat.le_trans hi hpop.1)
  · unfold cr_D
    rw [if_neg (by omega)]
    exact hXD
theorem xt_f2 (I : pm_CI K R L dep c) (hr : pm_row c = 0) (hp : pm_pos c = t) (hXD : cr_XD K s nc nt vc vo va (pm_d c)) (hsk : sk s = nI (pm_sk c))
    (hfrom : cr_from K R y L t B (fun _ _ => (0, c))) (htL : t = L) :
    xr_sp K R s y L t B mc rd0 0 (upd mc s (mc s + 1)) nc nt vc vo va sk (upd (upd rd (11 * s + 10) (nI 0)) (11 * s) 0) cn ce := by
  have hl0 := I.2.2.2.1
  refine Or.inr (Or.inr ⟨rfl, htL, rfl, ?_, dep, pm_popC c, ?_, pm_CI_pop I hr, hXD, hsk⟩)
  · rw [pm_upd_eq, if_pos rfl]
  · have hE : pm_Rd B K R t c (0, pm_popC c) := pm_rd_E hr (by omega)
    have := hfrom t B (Nat.le_refl _) (fun _ _ => rfl) (0, pm_popC c) (Or.inl ⟨rfl, hE⟩)
    rw [htL] at this
    exact this
variable {f_frameAt f_frameLength f_frameSort f_frameFlags f_frameStream f_down f_entryCount f_most f_typeSeen f_lastSender f_sentLength : Int32} {a_payload a_life a_theyEnded a_weEnded a_finishing a_codes a_windowIn a_windowOut a_headers a_headerCount a_entries a_kinds a_repeats a_messageCount a_text a_nodeCount a_nodeTypes a_valueCount a_valueOwners a_values a_skippedCount a_reader a_chainNode a_chainEnd a_queue a_queueLength a_sent a_nodeSize a_nodePlace : Nat → Int32} {mc0 : Nat → Int32}
theorem xt_el {post : Int32 → SX → Prop} (hs : s < 8) (hL : L ≤ 200) (I : pm_CI K R L dep c) (hr : pm_row c = 0) (hp : pm_pos c = t) (hF : xr_fresh s t c a_reader a_chainNode a_chainEnd)
    (hXD : cr_XD K s a_nodeCount a_nodeTypes a_valueCount a_valueOwners a_values (pm_d c)) (hsk : a_skippedCount s = nI (pm_sk c)) (hfrom : cr_from K R y L t B (fun _ _ => (0, c))) (hmc : a_messageCount = mc0) (hr0 : a_reader (11 * s) = rd0 (11 * s))
    (H : ∀ mc' rd', xr_sp K R s y L t B mc0 rd0 0 mc' a_nodeCount a_nodeTypes a_valueCount a_valueOwners a_values a_skippedCount rd' a_chainNode a_chainEnd → xr_O 1 s a_messageCount mc' → xr_O 11 s a_reader rd' → post 0 (f_frameAt, f_frameLength, f_frameSort, f_frameFlags, f_frameStream, f_down, f_entryCount, f_most, f_typeSeen, f_lastSender, f_sentLength, a_payload, a_life, a_theyEnded, a_weEnded, a_finishing, a_codes, a_windowIn, a_windowOut, a_headers, a_headerCount, a_entries, a_kinds, a_repeats, mc', a_text, a_nodeCount, a_nodeTypes, a_valueCount, a_valueOwners, a_values, a_skippedCount, rd', a_chainNode, a_chainEnd, a_queue, a_queueLength, a_sent, a_nodeSize, a_nodePlace)) :
    wX_readByte_212 post (nI s) 0 f_frameAt f_frameLength f_frameSort f_frameFlags f_frameStream f_down f_entryCount f_most f_typeSeen f_lastSender f_sentLength a_payload a_life a_theyEnded a_weEnded a_finishing a_codes a_windowIn a_windowOut a_headers a_headerCount a_entries a_kinds a_repeats a_messageCount a_text a_nodeCount a_nodeTypes a_valueCount a_valueOwners a_values a_skippedCount a_reader a_chainNode a_chainEnd a_queue a_queueLength a_sent a_nodeSize a_nodePlace := by
  have hF' := hF
  obtain ⟨r2, r3, r4, r5, r8, r9, r10, rch⟩ := hF
  subst hmc
  unfold wX_readByte_212
  refine br_t rfl (xw_el hs I hL hr hp r2 r3 r5 r8 r10 (fun i hi => (rch i hi).2) (fun z => ?_) (fun z => ?_))
  · exact H _ _ (xt_f1 I hr hp hF' hXD hsk hfrom hr0 z) xr_O_r (xr_O_u (by omega))
  · exact H _ _ (xt_f2 I hr hp hXD hsk hfrom z) xr_O_1 (xr_O_t (xr_O_u (by omega)) (xr_O_u (i := 0) (by omega)))
theorem xt_row {post : Int32 → SX → Prop} (hs : s < 8) (hL : L ≤ 200) (I : pm_CI K R L dep c) (hr : pm_row c ≠ 0) (hp : pm_pos c = t)
    (r2 : a_reader (11 * s + 2) = nI t) (r3 : a_reader (11 * s + 3) = nI (if K (pm_fj c (pm_fld c)) = 3 then 3 else 2)) (r4 : a_reader (11 * s + 4) = 0) (r5 : a_reader (11 * s + 5) = 0) (r6 : K (pm_fj c (pm_fld c)) = 3 → a_reader (11 * s + 6) = nI 4)
    (r7 : a_reader (11 * s + 7) = nI (pm_fj c (pm_fld c))) (r8 : a_reader (11 * s + 8) = nI (pm_row c)) (r10 : a_reader (11 * s + 10) = nI (pm_at c))
    (rch : ∀ i, i ≤ pm_at c → a_chainNode (4 * s + i) = nI (pm_ins c i) ∧ a_chainEnd (4 * s + i) = nI (pm_lim c i))
    (hXD : cr_XD K s a_nodeCount a_nodeTypes a_valueCount a_valueOwners a_values (pm_d c)) (hsk : a_skippedCount s = nI (pm_sk c)) (hfrom : cr_from K R y L t B (fun _ _ => (0, c))) (hmc : a_messageCount = mc0) (hr0 : a_reader (11 * s) = rd0 (11 * s))
    (H : ∀ mc' rd', xr_sp K R s y L t B mc0 rd0 0 mc' a_nodeCount a_nodeTypes a_valueCount a_valueOwners a_values a_skippedCount rd' a_chainNode a_chainEnd → xr_O 1 s a_messageCount mc' → xr_O 11 s a_reader rd' → post 0 (f_frameAt, f_frameLength, f_frameSort, f_frameFlags, f_frameStream, f_down, f_entryCount, f_most, f_typeSeen, f_lastSender, f_sentLength, a_payload, a_life, a_theyEnded, a_weEnded, a_finishing, a_codes, a_windowIn, a_windowOut, a_headers, a_headerCount, a_entries, a_kinds, a_repeats, mc', a_text, a_nodeCount, a_nodeTypes, a_valueCount, a_valueOwners, a_values, a_skippedCount, rd', a_chainNode, a_chainEnd, a_queue, a_queueLength, a_sent, a_nodeSize, a_nodePlace)) :
    wX_readByte_212 post (nI s) 0 f_frameAt f_frameLength f_frameSort f_frameFlags f_frameStream f_down f_entryCount f_most f_typeSeen f_lastSender f_sentLength a_payload a_life a_theyEnded a_weEnded a_finishing a_codes a_windowIn a_windowOut a_headers a_headerCount a_entries a_kinds a_repeats a_messageCount a_text a_nodeCount a_nodeTypes a_valueCount a_valueOwners a_values a_skippedCount a_reader a_chainNode a_chainEnd a_queue a_queueLength a_sent a_nodeSize a_nodePlace := by
  obtain ⟨k1, k2, k3, k4, k5, k6⟩ := I.2.2.2.2.2.2.2 hr
  have hin := I.2.2.2.2.1 (pm_at c) (Nat.le_refl _)
  have hty := (I.1.2.2.2.2.1 _ hin.1).1
  have hend : pm_end c = pm_row c := by unfold pm_end; exact if_neg hr
  have hpe := I.2.2.2.2.2.2.1
  have hel := pm_end_le I
  have hj : 1 ≤ pm_fj c (pm_fld c) ∧ pm_fj c (pm_fld c) < 64 := by
    show 1 ≤ 16 * pm_nt (pm_d c) (pm_ins c (pm_at c)) + pm_fld c ∧ 16 * pm_nt (pm_d c) (pm_ins c (pm_at c)) + pm_fld c < 64
    omega
  subst hmc
  have hx3 : nI (if K (pm_fj c (pm_fld c)) = 3 then 3 else 2) ≠ 0 := by
    split <;> decide
  have bEF : xr_fresh s t (pm_row0 c) (xr_bE s a_reader) a_chainNode a_chainEnd := by
    refine ⟨?_, ?_, ?_, ?_, ?_, ?_, ?_, rch⟩
    · rw [xr_bE_k, if_neg (by omega), if_neg (by omega)]; exact r2
    · rw [xr_bE_k, if_neg (by omega), if_pos (by omega)]
    · rw [xr_bE_k, if_neg (by omega), if_pos (by omega)]
    · rw [xr_bE_k, if_neg (by omega), if_pos (by omega)]
    · rw [xr_bE_k, if_neg (by omega), if_pos (by omega)]
    · rw [xr_bE_k, if_pos rfl]; exact r2
    · rw [xr_bE_k, if_neg (by omega), if_neg (by omega)]; exact r10
  have bE0 : xr_bE s a_reader (11 * s) = rd0 (11 * s) := by
    have := xr_bE_k s a_reader 0
    rw [if_neg (by omega), if_neg (by omega)] at this
    exact this.trans hr0
  have bEO : xr_O 11 s a_reader (xr_bE s a_reader) := fun j hj => xr_bE_o hj
  have hfrom0 : t = pm_row c → cr_from K R y L t B (fun _ _ => (0, pm_row0 c)) := by
    intro z T B' hT hB' r hr'
    have hw : pm_Rd B' K R T (pm_row0 c) r := by
      rcases hr' with ⟨_, w⟩ | ⟨w, _⟩
      · exact w
      · exact absurd rfl w
    have hw2 : pm_Rd B' K R T c r := pm_rd_row hr (by omega) hw
    exact hfrom T B' hT hB' r (Or.inl ⟨rfl, hw2⟩)
  unfold wX_readByte_212
  refine br_t rfl (xw_rw (f := pm_fj c (pm_fld c)) hs I hL hr hp r2 r3 hx3 r5 r7 hj.1 hj.2 r8 r10 (fun i hi => (rch i hi).2) (fun z => ?_) (fun z z2 => ?_) (fun z z2 => ?_))
  · -- the next single
    have hph : cr_ph K R t c (if K (pm_fj c (pm_fld c)) = 3 then 3 else 2) (pm_fld c) t 0 4 := by
      refine ⟨by omega, k3, ?_⟩
      by_cases w : K (pm_fj c (pm_fld c)) = 3
      · rw [if_pos w]
        exact Or.inr (Or.inr (Or.inr (Or.inl ⟨rfl, by omega, by omega, by omega, by omega, fun _ => ⟨rfl, w⟩, fun _ => rfl⟩)))
      · rw [if_neg w]
        exact Or.inr (Or.inr (Or.inl ⟨rfl, by omega, by omega, by omega, fun _ => ⟨k4, by omega⟩, fun _ => rfl⟩))
    have hfr : cr_from K R y L t B (fun B' T => pm_go B' K R T c (if K (pm_fj c (pm_fld c)) = 3 then 3 else 2) (pm_fld c) t 0 4) := by
      intro T B' hT hB' r hr'
      dsimp only at hr'
      have hw : pm_Rp B' K R T (pm_goS B' K R T c) r := by
        unfold pm_goS
        unfold pm_go at hr'
        rw [hp]
        by_cases w : K (pm_fj c (pm_fld c)) = 3
        · rw [if_pos w] at hr' ⊢
          rw [if_neg (by omega), if_neg (by omega), if_neg (by omega), if_pos rfl] at hr'
          exact hr'
        · rw [if_neg w] at hr' ⊢
          rw [if_neg (by omega), if_neg (by omega), if_pos rfl] at hr'
          exact hr'
      have hw2 : pm_Rd B' K R T c r := pm_rd_S hr (by omega) hw
      exact hfrom T B' hT hB' r (Or.inl ⟨rfl, hw2⟩)
    refine H a_messageCount a_reader (Or.inr (Or.inl ⟨rfl, rfl, hr0, ⟨dep, c, _, _, _, _, _, by omega, I, hph, ⟨r2, r3, ?_, ?_, ?_, ?_, r8, fun w => absurd w hr, r10, rch⟩, ?_, hsk, hfr⟩, cr_at hfr (pm_go_9 hph) (by omega)⟩)) xr_O_r xr_O_r
    · intro _
      refine ⟨?_, r5⟩
      rw [r4]
      unfold cr_sum
      by_cases w : K (pm_fj c (pm_fld c)) = 3
      · rw [if_pos w]; rfl
      · rw [if_neg w]; rfl
    · intro w
      by_cases w2 : K (pm_fj c (pm_fld c)) = 3
      · exact r6 w2
      · rw [if_neg w2] at w; omega
    · intro w
      split at w <;> omega
    · intro _
      rw [r7, if_neg (by omega)]
    · unfold cr_D
      rw [if_neg (fun w => by have := w.1; split at this <;> omega)]
      exact hXD
  · exact H _ _ (xt_f1 (c := pm_row0 c) (pm_CI_row0 I hr (by omega)) rfl hp bEF hXD hsk (hfrom0 z) bE0 z2) xr_O_r (xr_O_t bEO (xr_O_u (by omega)))
  · exact H _ _ (xt_f2 (c := pm_row0 c) (pm_CI_row0 I hr (by omega)) rfl hp hXD hsk (hfrom0 z) z2) xr_O_1 (xr_O_t bEO (xr_O_t (xr_O_u (by omega)) (xr_O_u (i := 0) (by omega))))
end
end
section
/-! S6: a byte of a body -/
section
variable {f_frameAt f_frameLength f_frameSort f_frameFlags f_frameStream f_down f_entryCount f_most f_typeSeen f_lastSender f_sentLength : Int32} {a_payload a_life a_theyEnded a_weEnded a_finishing a_codes a_windowIn a_windowOut a_headers a_headerCount a_entries a_kinds a_repeats a_messageCount a_text a_nodeCount a_nodeTypes a_valueCount a_valueOwners a_values a_skippedCount a_reader a_chainNode a_chainEnd a_queue a_queueLength a_sent a_nodeSize a_nodePlace : Nat → Int32} {B B1 : Nat → Nat} {K : Nat → Nat} {R : Nat → Bool} {L t y : Nat} {dep : Nat → Nat} {c : pm_C} {s h f q d w : Nat} {mc0 rd0 nc0 nt0 vc0 vo0 va0 sk0 cn0 ce0 : Nat → Int32}
/-- behind fin: the element is through -/
theorem xb_fin {v : Int32} {st : Nat} {c' : pm_C} (I : pm_CI K R L dep c) (hp : t ≤ pm_end c) (hf : pm_fok K L c f v st) (h : pm_fin R c f t v st = (0, c')) (hsk : sk0 s = nI (pm_sk c)) (hpt : pm_pos c ≤ t) :
    pm_CI K R L dep c' ∧ pm_pos c' = t ∧ pm_at c' = pm_at c ∧ pm_row c' = pm_row c ∧ pm_fld c' = pm_fld c ∧ pm_lim c' = pm_lim c ∧ pm_ins c' = pm_ins c ∧ pm_nt (pm_d c') = pm_nt (pm_d c) ∧
    (f = 0 → pm_d c' = pm_d c ∧ upd sk0 s (sk0 s + nI (t - pm_pos c)) s = nI (pm_sk c')) ∧ (f ≠ 0 → pm_d c' = pm_kp R (pm_d c) (pm_nd c) f v st ∧ sk0 s = nI (pm_sk c')) := by
  obtain ⟨i1, i2, i3, i4, i5, i6, i7, i8⟩ := pm_fin_I I hp hf h
  refine ⟨i1, i2, i3, i4, i5, i6, i7, i8, fun z => ?_, fun z => ?_⟩
  · unfold pm_fin at h
    rw [if_pos z] at h
    have e : _ = c' := congrArg Prod.snd h
    subst e
    refine ⟨rfl, ?_⟩
    rw [pm_upd_eq, if_pos rfl, hsk, nI_add]
  · unfold pm_fin at h
    rw [if_neg z] at h
    split at h
    · have : (5 : Nat) = 0 := congrArg Prod.fst h
      omega
    · have e : _ = c' := congrArg Prod.snd h
      subst e
      exact ⟨rfl, hsk⟩
/-- the registers of a cursor with the same chain -/
theorem xb_fresh {c' : pm_C} {rd cn ce : Nat → Int32} (ha : pm_at c' = pm_at c) (hl : pm_lim c' = pm_lim c) (hi : pm_ins c' = pm_ins c) (r2 : rd (11 * s + 2) = nI t) (r10 : rd (11 * s + 10) = nI (pm_at c))
    (rch : ∀ i, i ≤ pm_at c → cn (4 * s + i) = nI (pm_ins c i) ∧ ce (4 * s + i) = nI (pm_lim c i)) : xr_fresh s t c' (xr_bE s rd) cn ce := by
  refine ⟨?_, ?_, ?_, ?_, ?_, ?_, ?_, ?_⟩
  · rw [xr_bE_k, if_neg (by omega), if_neg (by omega)]; exact r2
  · rw [xr_bE_k, if_neg (by omega), if_pos (by omega)]
  · rw [xr_bE_k, if_neg (by omega), if_pos (by omega)]
  · rw [xr_bE_k, if_neg (by omega), if_pos (by omega)]
  · rw [xr_bE_k, if_neg (by omega), if_pos (by omega)]
  · rw [xr_bE_k, if_pos rfl]; exact r2
  · rw [xr_bE_k, if_neg (by omega), if_neg (by omega), ha]; exact r10
  · rw [ha, hl, hi]; exact rch
theorem xb_0 (f : Nat → Int32) (s : Nat) : xr_bE s f (11 * s) = f (11 * s) := by
  have := xr_bE_k s f 0
  rw [if_neg (by omega), if_neg (by omega)] at this
  exact this
theorem xb_u0 {f : Nat → Int32} {s i : Nat} {x : Int32} (hi : i ≠ 0) : upd f (11 * s + i) x (11 * s) = f (11 * s) := by
  rw [pm_upd_eq, if_neg (by omega)]
theorem xb_body {rd2 : Nat → Int32} {post : Int32 → SX → Prop} (hs : s < 8) (hL : L ≤ 200) (htL : t < L) (I : pm_CI K R L dep c) (hph : cr_ph K R t c 4 f q d w)
    (r2 : rd2 (11 * s + 2) = nI (t + 1)) (r3 : rd2 (11 * s + 3) = nI 4) (r6 : rd2 (11 * s + 6) = nI (q + w - (t + 1))) (r7 : rd2 (11 * s + 7) = nI (if f = 0 then 0 else pm_fj c f)) (r8 : rd2 (11 * s + 8) = nI (pm_row c)) (r9 : rd2 (11 * s + 9) = nI (pm_pos c)) (r10 : rd2 (11 * s + 10) = nI (pm_at c))
    (r0 : rd2 (11 * s) = rd0 (11 * s)) (rO : xr_O 11 s rd0 rd2) (rch : ∀ i, i ≤ pm_at c → a_chainNode (4 * s + i) = nI (pm_ins c i) ∧ a_chainEnd (4 * s + i) = nI (pm_lim c i))
    (hXD : cr_XD K s a_nodeCount a_nodeTypes a_valueCount a_valueOwners a_values (cr_D R c 4 f q w)) (hsk : a_skippedCount s = nI (pm_sk c))
    (hfrom : cr_from K R y L t B (fun B' T => pm_go B' K R T c 4 f q d w)) (hB : ∀ i, i < t → B1 i = B i)
    (H : ∀ code mc' nc' nt' vc' vo' va' sk' rd' cn' ce', xr_fr s a_messageCount a_nodeCount a_nodeTypes a_valueCount a_valueOwners a_values a_skippedCount rd0 a_chainNode a_chainEnd mc' nc' nt' vc' vo' va' sk' rd' cn' ce' →
      xr_sp K R s y L (t + 1) B1 a_messageCount rd0 code mc' nc' nt' vc' vo' va' sk' rd' cn' ce' →
      post (if code = 0 then 0 else nI (10 + code)) (f_frameAt, f_frameLength, f_frameSort, f_frameFlags, f_frameStream, f_down, f_entryCount, f_most, f_typeSeen, f_lastSender, f_sentLength, a_payload, a_life, a_theyEnded, a_weEnded, a_finishing, a_codes, a_windowIn, a_windowOut, a_headers, a_headerCount, a_entries, a_kinds, a_repeats, mc', a_text, nc', nt', vc', vo', va', sk', rd', cn', ce', a_queue, a_queueLength, a_sent, a_nodeSize, a_nodePlace)) :
    (t + 1 = q + w → wpX_endElement (fun u => match u with | (f_frameAt, f_frameLength, f_frameSort, f_frameFlags, f_frameStream, f_down, f_entryCount, f_most, f_typeSeen, f_lastSender, f_sentLength, a_payload, a_life, a_theyEnded, a_weEnded, a_finishing, a_codes, a_windowIn, a_windowOut, a_headers, a_headerCount, a_entries, a_kinds, a_repeats, a_messageCount, a_text, a_nodeCount, a_nodeTypes, a_valueCount, a_valueOwners, a_values, a_skippedCount, a_reader, a_chainNode, a_chainEnd, a_queue, a_queueLength, a_sent, a_nodeSize, a_nodePlace) => wX_readByte_212 post (nI s) 0 f_frameAt f_frameLength f_frameSort f_frameFlags f_frameStream f_down f_entryCount f_most f_typeSeen f_lastSender f_sentLength a_payload a_life a_theyEnded a_weEnded a_finishing a_codes a_windowIn a_windowOut a_headers a_headerCount a_entries a_kinds a_repeats a_messageCount a_text a_nodeCount a_nodeTypes a_valueCount a_valueOwners a_values a_skippedCount a_reader a_chainNode a_chainEnd a_queue a_queueLength a_sent a_nodeSize a_nodePlace) (f_frameAt, f_frameLength, f_frameSort, f_frameFlags, f_frameStream, f_down, f_entryCount, f_most, f_typeSeen, f_lastSender, f_sentLength, a_payload, a_life, a_theyEnded, a_weEnded, a_finishing, a_codes, a_windowIn, a_windowOut, a_headers, a_headerCount, a_entries, a_kinds, a_repeats, a_messageCount, a_text, a_nodeCount, a_nodeTypes, a_valueCount, a_valueOwners, a_values, a_skippedCount, rd2, a_chainNode, a_chainEnd, a_queue, a_queueLength, a_sent, a_nodeSize, a_nodePlace) (nI s)) ∧
    (t + 1 ≠ q + w → wX_readByte_212 post (nI s) 0 f_frameAt f_frameLength f_frameSort f_frameFlags f_frameStream f_down f_entryCount f_most f_typeSeen f_lastSender f_sentLength a_payload a_life a_theyEnded a_weEnded a_finishing a_codes a_windowIn a_windowOut a_headers a_headerCount a_entries a_kinds a_repeats a_messageCount a_text a_nodeCount a_nodeTypes a_valueCount a_valueOwners a_values a_skippedCount (rd2) a_chainNode a_chainEnd a_queue a_queueLength a_sent a_nodeSize a_nodePlace) := by
  have hph' := hph
  obtain ⟨p1, p2, p3⟩ := hph
  have p3 : q ≤ t ∧ t < q + w ∧ q + w ≤ pm_lim c (pm_at c) ∧ pm_row c = 0 ∧ pm_pos c < q ∧ (f ≠ 0 → K (pm_fj c f) = 4 ∧ pm_pl R (pm_d c) (pm_nd c) f ≠ 48) := by
    rcases p3 with ⟨e, _⟩ | ⟨e, _⟩ | ⟨e, _⟩ | ⟨e, _⟩ | ⟨e, a⟩
    · omega
    · omega
    · omega
    · omega
    · exact a
  obtain ⟨a1, a2, a3, a4, a5, a6⟩ := p3
  have he : pm_end c = pm_lim c (pm_at c) := by unfold pm_end; exact if_pos a4
  have hll := pm_lim_le I (pm_at c) (Nat.le_refl _)
  have hin := I.2.2.2.2.1 (pm_at c) (Nat.le_refl _)
  have hty := (I.1.2.2.2.2.1 _ hin.1).1
  have hj : (if f = 0 then 0 else pm_fj c f) < 64 := by
    split
    · omega
    · show 16 * pm_nt (pm_d c) (pm_ins c (pm_at c)) + f < 64; omega
  constructor
  · intro z
    refine xw_eE (f := if f = 0 then 0 else pm_fj c f) (t := t + 1) (p := pm_pos c) hs r7 hj r2 (fun _ => ⟨r9, by omega⟩) ?_
    have hiff : ((if f = 0 then 0 else pm_fj c f) = 0) ↔ f = 0 := by
      split
      · simp [*]
      · rename_i g
        constructor
        · intro g2
          have : 16 * pm_nt (pm_d c) (pm_ins c (pm_at c)) + f = 0 := g2
          omega
        · intro g2; exact absurd g2 g
    have hfok : pm_fok K L c f (nI w) q := by
      by_cases g : f = 0
      · exact Or.inl g
      · exact Or.inr ⟨by omega, p2, by rw [(a6 g).1]; omega, by rw [(a6 g).1]; omega, fun _ => ⟨w, rfl, by omega⟩⟩
    obtain ⟨c', hc'⟩ : ∃ c', pm_fin R c f (t + 1) (nI w) q = (0, c') := by
      unfold pm_fin
      by_cases g : f = 0
      · rw [if_pos g]; exact ⟨_, rfl⟩
      · rw [if_neg g, if_neg (a6 g).2]; exact ⟨_, rfl⟩
    obtain ⟨i1, i2, i3, i4, i5, i6, i7, i8, i9, i10⟩ := xb_fin (sk0 := a_skippedCount) (s := s) I (by omega) hfok hc' hsk (by omega)
    have hfr : cr_from K R y L (t + 1) B1 (fun _ _ => (0, c')) := by
      refine cr_on hfrom hB (fun T B' hT hB' r hr' => ?_)
      have e : pm_go B' K R T c 4 f q d w = (0, c') := by
        unfold pm_go pm_body
        rw [if_neg (by omega), if_neg (by omega), if_neg (by omega), if_neg (by omega)]
        by_cases g : f = 0
        · rw [if_pos g, if_neg (by omega), ← hc', ← z, g]
          unfold pm_fin
          rw [if_pos rfl, if_pos rfl]
        · rw [if_neg g, if_pos (a6 g).1, if_neg (a6 g).2, if_neg (by omega), ← z]
          exact hc'
      show pm_Rp B' K R T (pm_go B' K R T c 4 f q d w) r
      rw [e]; exact hr'
    have hF := xb_fresh (t := t + 1) (rd := rd2) (cn := a_chainNode) (ce := a_chainEnd) (s := s) (c := c) (c' := c') i3 i6 i7 r2 r10 rch
    have bEO : xr_O 11 s rd0 (xr_bE s rd2) := xr_O_t rO (fun j hj => xr_bE_o hj)
    by_cases g : f = 0
    · rw [if_pos (hiff.mpr g)]
      obtain ⟨k1, k2⟩ := i9 g
      refine xt_el (c := c') (mc0 := a_messageCount) (rd0 := rd0) hs hL i1 (by omega) i2 hF ?_ k2 hfr rfl (by rw [xb_0]; exact r0) (fun mc' rd' s1 s2 s3 => ?_)
      · rw [k1]; unfold cr_D at hXD; rw [if_neg (fun z => z.2 g)] at hXD; exact hXD
      · have := H 0 mc' a_nodeCount a_nodeTypes a_valueCount a_valueOwners a_values _ rd' a_chainNode a_chainEnd ⟨s2, xr_O_r, xr_O_r, xr_O_r, xr_O_r, xr_O_r, xr_O_1, xr_O_t bEO s3, xr_O_r, xr_O_r, rfl⟩ s1
        exact this
    · rw [if_neg (fun z => g (hiff.mp z))]
      obtain ⟨k1, k2⟩ := i10 g
      refine xt_el (c := c') (mc0 := a_messageCount) (rd0 := rd0) hs hL i1 (by omega) i2 hF ?_ k2 hfr rfl (by rw [xb_0]; exact r0) (fun mc' rd' s1 s2 s3 => ?_)
      · rw [k1]; unfold cr_D at hXD; rw [if_pos ⟨rfl, g⟩] at hXD; exact hXD
      · have := H 0 mc' a_nodeCount a_nodeTypes a_valueCount a_valueOwners a_values a_skippedCount rd' a_chainNode a_chainEnd ⟨s2, xr_O_r, xr_O_r, xr_O_r, xr_O_r, xr_O_r, xr_O_r, xr_O_t bEO s3, xr_O_r, xr_O_r, rfl⟩ s1
        exact this
  · intro z
    refine xt_mid (B := B1) (y := y) (dep := dep) (c := c) (h := 4) (f := f) (q := q) (d := 0) (w := w) (mc0 := a_messageCount) (rd0 := rd0) hs hL I (by omega) (fun _ => ⟨by omega, p2, Or.inr (Or.inr (Or.inr (Or.inr ⟨rfl, by omega, by omega, a3, a4, a5, a6⟩)))⟩) (by omega) (fun z2 => absurd z2 (by omega)) (Or.inl (by omega)) (by omega) (by omega) (fun z2 => absurd a4 z2) ⟨r2, r3, fun z2 => absurd z2 (by omega), fun z2 => absurd z2 (by omega), fun _ => r6, fun _ => r7, r8, fun _ => r9, r10, rch⟩ hXD hsk ?_ rfl r0 (fun code s1 => ?_)
    · refine cr_on hfrom hB (fun T B' hT hB' r hr' => ?_)
      have e : pm_go B' K R T c 4 f q d w = pm_go B' K R T c 4 f q 0 w := by
        rfl
      show pm_Rp B' K R T (pm_go B' K R T c 4 f q d w) r
      rw [e]; exact hr'
    · exact H code a_messageCount a_nodeCount a_nodeTypes a_valueCount a_valueOwners a_values a_skippedCount rd2 a_chainNode a_chainEnd ⟨xr_O_r, xr_O_r, xr_O_r, xr_O_r, xr_O_r, xr_O_r, xr_O_r, rO, xr_O_r, xr_O_r, rfl⟩ s1
end
end
section
/-! S7: a byte with which a number ends -/
section
variable {f_frameAt f_frameLength f_frameSort f_frameFlags f_frameStream f_down f_entryCount f_most f_typeSeen f_lastSender f_sentLength : Int32} {a_payload a_life a_theyEnded a_weEnded a_finishing a_codes a_windowIn a_windowOut a_headers a_headerCount a_entries a_kinds a_repeats a_messageCount a_text a_nodeCount a_nodeTypes a_valueCount a_valueOwners a_values a_skippedCount a_reader a_chainNode a_chainEnd a_queue a_queueLength a_sent a_nodeSize a_nodePlace : Nat → Int32} {B B1 : Nat → Nat} {K : Nat → Nat} {R : Nat → Bool} {L t y : Nat} {dep : Nat → Nat} {c : pm_C} {s h f : Nat} {rd0 : Nat → Int32}
theorem xb_num {x : Int32} {rd2 : Nat → Int32} {g : (Nat → Nat) → Nat → Nat × pm_C} {post : Int32 → SX → Prop} (hs : s < 8) (hL : L ≤ 200) (I : pm_CI K R L dep c) (hK : cr_K a_kinds a_repeats K R)
    (hf : f ≠ 0 → f ≤ 15 ∧ 1 ≤ K (pm_fj c f) ∧ K (pm_fj c f) ≤ 3) (hrow : pm_row c ≠ 0 → f = pm_fld c ∧ h = if K (pm_fj c f) = 3 then 3 else 2)
    (r2 : rd2 (11 * s + 2) = nI (t + 1)) (r3 : rd2 (11 * s + 3) = nI h) (r4 : rd2 (11 * s + 4) = x) (r6 : f ≠ 0 → K (pm_fj c f) = 3 → rd2 (11 * s + 6) = nI 4) (r7 : rd2 (11 * s + 7) = nI (if f = 0 then 0 else pm_fj c f)) (r8 : rd2 (11 * s + 8) = nI (pm_row c)) (r9 : pm_row c = 0 → rd2 (11 * s + 9) = nI (pm_pos c)) (r10 : rd2 (11 * s + 10) = nI (pm_at c))
    (r0 : rd2 (11 * s) = rd0 (11 * s)) (rO : xr_O 11 s rd0 rd2) (rch : ∀ i, i ≤ pm_at c → a_chainNode (4 * s + i) = nI (pm_ins c i) ∧ a_chainEnd (4 * s + i) = nI (pm_lim c i))
    (hXD : cr_XD K s a_nodeCount a_nodeTypes a_valueCount a_valueOwners a_values (pm_d c)) (hsk : a_skippedCount s = nI (pm_sk c)) (hpt : pm_pos c ≤ t) (hte : t + 1 ≤ pm_end c)
    (hfrom : cr_from K R y L t B g) (hB : ∀ i, i < t → B1 i = B i) (hg : ∀ T B', t + 1 ≤ T → (∀ i, i < t + 1 → B' i = B1 i) → g B' T = pm_fin R c f (t + 1) (pm_val K (pm_fj c f) x) 0)
    (H : ∀ code mc' nc' nt' vc' vo' va' sk' rd' cn' ce', xr_fr s a_messageCount a_nodeCount a_nodeTypes a_valueCount a_valueOwners a_values a_skippedCount rd0 a_chainNode a_chainEnd mc' nc' nt' vc' vo' va' sk' rd' cn' ce' →
      xr_sp K R s y L (t + 1) B1 a_messageCount rd0 code mc' nc' nt' vc' vo' va' sk' rd' cn' ce' →
      post (if code = 0 then 0 else nI (10 + code)) (f_frameAt, f_frameLength, f_frameSort, f_frameFlags, f_frameStream, f_down, f_entryCount, f_most, f_typeSeen, f_lastSender, f_sentLength, a_payload, a_life, a_theyEnded, a_weEnded, a_finishing, a_codes, a_windowIn, a_windowOut, a_headers, a_headerCount, a_entries, a_kinds, a_repeats, mc', a_text, nc', nt', vc', vo', va', sk', rd', cn', ce', a_queue, a_queueLength, a_sent, a_nodeSize, a_nodePlace)) :
    wpX_endNumber (fun r u => match u with | (f_frameAt, f_frameLength, f_frameSort, f_frameFlags, f_frameStream, f_down, f_entryCount, f_most, f_typeSeen, f_lastSender, f_sentLength, a_payload, a_life, a_theyEnded, a_weEnded, a_finishing, a_codes, a_windowIn, a_windowOut, a_headers, a_headerCount, a_entries, a_kinds, a_repeats, a_messageCount, a_text, a_nodeCount, a_nodeTypes, a_valueCount, a_valueOwners, a_values, a_skippedCount, a_reader, a_chainNode, a_chainEnd, a_queue, a_queueLength, a_sent, a_nodeSize, a_nodePlace) => wX_readByte_212 post (nI s) r f_frameAt f_frameLength f_frameSort f_frameFlags f_frameStream f_down f_entryCount f_most f_typeSeen f_lastSender f_sentLength a_payload a_life a_theyEnded a_weEnded a_finishing a_codes a_windowIn a_windowOut a_headers a_headerCount a_entries a_kinds a_repeats a_messageCount a_text a_nodeCount a_nodeTypes a_valueCount a_valueOwners a_values a_skippedCount a_reader a_chainNode a_chainEnd a_queue a_queueLength a_sent a_nodeSize a_nodePlace) (f_frameAt, f_frameLength, f_frameSort, f_frameFlags, f_frameStream, f_down, f_entryCount, f_most, f_typeSeen, f_lastSender, f_sentLength, a_payload, a_life, a_theyEnded, a_weEnded, a_finishing, a_codes, a_windowIn, a_windowOut, a_headers, a_headerCount, a_entries, a_kinds, a_repeats, a_messageCount, a_text, a_nodeCount, a_nodeTypes, a_valueCount, a_valueOwners, a_values, a_skippedCount, rd2, a_chainNode, a_chainEnd, a_queue, a_queueLength, a_sent, a_nodeSize, a_nodePlace) (nI s) := by
  have hfok : pm_fok K L c f (pm_val K (pm_fj c f) x) 0 := by
    by_cases z : f = 0
    · exact Or.inl z
    · obtain ⟨f1, f2, f3⟩ := hf z
      exact Or.inr ⟨by omega, f1, by omega, by omega, fun z2 => by omega⟩
  have hcn := (rch _ (Nat.le_refl _)).1
  have bEO : xr_O 11 s rd0 (xr_bE s rd2) := xr_O_t rO (fun j hj => xr_bE_o hj)
  have bNO : xr_O 11 s rd0 (xr_bN s (rd2 (11 * s + 3)) rd2) := xr_O_t rO (fun j hj => xr_bN_o hj)
  have bN0 : xr_bN s (rd2 (11 * s + 3)) rd2 (11 * s) = rd0 (11 * s) := by
    have := xr_bN_k s (rd2 (11 * s + 3)) rd2 0
    rw [if_neg (by omega), if_neg (by omega)] at this
    exact this.trans r0
  have hfr : ∀ c', pm_fin R c f (t + 1) (pm_val K (pm_fj c f) x) 0 = (0, c') → cr_from K R y L (t + 1) B1 (fun _ _ => (0, c')) := by
    intro c' hc'
    refine cr_on hfrom hB (fun T B' hT hB' r hr' => ?_)
    rw [hg T B' hT hB', hc']; exact hr'
  refine xw_num (f := f) (t := t + 1) (x := x) hs I hK hXD hL r2 r4 r7 r8 (fun z => ?_) r10 hcn hf (fun z => ?_) (fun z z48 => ?_) (fun vc vo va z z48 g1 g2 g3 g4 => ?_)
  · have hr0 : pm_row c = 0 := by
      by_cases w : pm_row c = 0
      · exact w
      · have h1 := (hrow w).1
        have h2 := (I.2.2.2.2.2.2.2 w).2.1
        omega
    exact ⟨hr0, r9 hr0, by omega⟩
  · -- a skipped number
    have hr0 : pm_row c = 0 := by
      by_cases w : pm_row c = 0
      · exact w
      · have h1 := (hrow w).1
        have h2 := (I.2.2.2.2.2.2.2 w).2.1
        omega
    obtain ⟨c', hc'⟩ : ∃ c', pm_fin R c f (t + 1) (pm_val K (pm_fj c f) x) 0 = (0, c') := by
      unfold pm_fin
      rw [if_pos z]; exact ⟨_, rfl⟩
    obtain ⟨i1, i2, i3, i4, i5, i6, i7, i8, i9, i10⟩ := xb_fin (sk0 := a_skippedCount) (s := s) I hte hfok hc' hsk (by omega)
    obtain ⟨k1, k2⟩ := i9 z
    have hF := xb_fresh (t := t + 1) (rd := rd2) (cn := a_chainNode) (ce := a_chainEnd) (s := s) (c := c) (c' := c') i3 i6 i7 r2 r10 rch
    refine xt_el (c := c') (mc0 := a_messageCount) (rd0 := rd0) hs hL i1 (by omega) i2 hF (by rw [k1]; exact hXD) k2 (hfr c' hc') rfl (by rw [xb_0]; exact r0) (fun mc' rd' s1 s2 s3 => ?_)
    exact H 0 mc' a_nodeCount a_nodeTypes a_valueCount a_valueOwners a_values _ rd' a_chainNode a_chainEnd ⟨s2, xr_O_r, xr_O_r, xr_O_r, xr_O_r, xr_O_r, xr_O_1, xr_O_t bEO s3, xr_O_r, xr_O_r, rfl⟩ s1
  · -- too many
    have hc5 : pm_fin R c f (t + 1) (pm_val K (pm_fj c f) x) 0 = (5, c) := by
      unfold pm_fin
      rw [if_neg z, if_pos z48]
    unfold wX_readByte_212
    refine br_f (by decide) (H 5 a_messageCount a_nodeCount a_nodeTypes a_valueCount a_valueOwners a_values a_skippedCount _ a_chainNode a_chainEnd ⟨xr_O_r, xr_O_r, xr_O_r, xr_O_r, xr_O_r, xr_O_r, xr_O_r, ?_, xr_O_r, xr_O_r, rfl⟩ (Or.inl ⟨by omega, by omega, rfl, ?_, ?_⟩))
    · split
      · exact bEO
      · exact bNO
    · split
      · rw [xb_0]; exact r0
      · exact bN0
    · refine ⟨(5, c), hfrom (t + 1) B1 (by omega) hB _ ?_, rfl⟩
      rw [hg (t + 1) B1 (Nat.le_refl _) (fun _ _ => rfl), hc5]
      exact Or.inr ⟨show (5 : Nat) ≠ 0 by omega, rfl⟩
  · obtain ⟨c', hc'⟩ : ∃ c', pm_fin R c f (t + 1) (pm_val K (pm_fj c f) x) 0 = (0, c') := by
      unfold pm_fin
      rw [if_neg z, if_neg z48]; exact ⟨_, rfl⟩
    obtain ⟨i1, i2, i3, i4, i5, i6, i7, i8, i9, i10⟩ := xb_fin (sk0 := a_skippedCount) (s := s) I hte hfok hc' hsk (by omega)
    obtain ⟨k1, k2⟩ := i10 z
    by_cases hr : pm_row c = 0
    · rw [if_pos hr]
      have hF := xb_fresh (t := t + 1) (rd := rd2) (cn := a_chainNode) (ce := a_chainEnd) (s := s) (c := c) (c' := c') i3 i6 i7 r2 r10 rch
      refine xt_el (c := c') (mc0 := a_messageCount) (rd0 := rd0) hs hL i1 (by omega) i2 hF (by rw [k1]; exact g1) k2 (hfr c' hc') rfl (by rw [xb_0]; exact r0) (fun mc' rd' s1 s2 s3 => ?_)
      exact H 0 mc' a_nodeCount a_nodeTypes vc vo va a_skippedCount rd' a_chainNode a_chainEnd ⟨s2, xr_O_r, xr_O_r, g2, g3, g4, xr_O_r, xr_O_t bEO s3, xr_O_r, xr_O_r, rfl⟩ s1
    · rw [if_neg hr]
      obtain ⟨e1, e2⟩ := hrow hr
      have efj : pm_fj c' (pm_fld c') = pm_fj c f := by
        unfold pm_fj pm_nd
        rw [i8, i7, i3, i5, ← e1]
      have hk : ∀ j, j ≠ 5 → j ≠ 4 → j ≠ 3 → xr_bN s (rd2 (11 * s + 3)) rd2 (11 * s + j) = rd2 (11 * s + j) := by
        intro j n5 n4 n3
        rw [xr_bN_k, if_neg (fun w => w.elim n5 n4), if_neg n3]
      refine xt_row (c := c') (mc0 := a_messageCount) (rd0 := rd0) hs hL i1 (by omega) i2 (by rw [hk 2 (by omega) (by omega) (by omega)]; exact r2) ?_ ?_ ?_ (fun w => ?_) ?_ ?_ ?_ (by rw [i3, i6, i7]; exact rch) (by rw [k1]; exact g1) k2 (hfr c' hc') rfl bN0 (fun mc' rd' s1 s2 s3 => ?_)
      · rw [xr_bN_k, if_neg (by omega), if_pos rfl, r3, efj, e2]
      · rw [xr_bN_k, if_pos (Or.inr rfl)]
      · rw [xr_bN_k, if_pos (Or.inl rfl)]
      · rw [hk 6 (by omega) (by omega) (by omega)]
        rw [efj] at w; exact r6 z w
      · rw [hk 7 (by omega) (by omega) (by omega), r7, if_neg z, efj]
      · rw [hk 8 (by omega) (by omega) (by omega), r8, i4]
      · rw [hk 10 (by omega) (by omega) (by omega), r10, i3]
      · exact H 0 mc' a_nodeCount a_nodeTypes vc vo va a_skippedCount rd' a_chainNode a_chainEnd ⟨s2, xr_O_r, xr_O_r, g2, g3, g4, xr_O_r, xr_O_t bNO s3, xr_O_r, xr_O_r, rfl⟩ s1
end
end
section
/-! S8: a byte with which a tag ends -/
section
variable {f_frameAt f_frameLength f_frameSort f_frameFlags f_frameStream f_down f_entryCount f_most f_typeSeen f_lastSender f_sentLength : Int32} {a_payload a_life a_theyEnded a_weEnded a_finishing a_codes a_windowIn a_windowOut a_headers a_headerCount a_entries a_kinds a_repeats a_messageCount a_text a_nodeCount a_nodeTypes a_valueCount a_valueOwners a_values a_skippedCount a_reader a_chainNode a_chainEnd a_queue a_queueLength a_sent a_nodeSize a_nodePlace : Nat → Int32} {B B1 : Nat → Nat} {K : Nat → Nat} {R : Nat → Bool} {L t y : Nat} {dep : Nat → Nat} {c : pm_C} {s d : Nat} {rd0 : Nat → Int32}
theorem pm_fl_1 (hK : ∀ j, K j ≤ 8) (n : Nat) : pm_fl K R c n 1 = 0 := by
  rcases pm_fl_s (K := K) (R := R) (c := c) n 1 with z | ⟨z1, z2, z3, z4⟩
  · exact z
  · exfalso
    obtain ⟨w0, w5, w2⟩ := pm_w_0 _ (hK (pm_fj c n))
    rcases z4 with z4 | z4
    · unfold pm_w at z4
      split at z4
      · omega
      · split at z4 <;> omega
    · omega
theorem xr_tg_k (s : Nat) (h : Int32) (l : Option Int32) (f : Nat) (rd : Nat → Int32) (j : Nat) : xr_tg s h l f rd (11 * s + j) = if j = 7 then nI f else if j = 6 ∧ l ≠ none then (l.getD 0) else if j = 5 ∨ j = 4 then 0 else if j = 3 then h else rd (11 * s + j) := by
  unfold xr_tg
  rw [xr_u]
  by_cases h7 : j = 7
  · rw [if_pos h7, if_pos h7]
  · rw [if_neg h7, if_neg h7]
    cases l with
    | none =>
      rw [if_neg (fun z => z.2 rfl)]
      exact xr_bN_k s h rd j
    | some x =>
      show upd (xr_bN s h rd) (11 * s + 6) x (11 * s + j) = _
      rw [xr_u]
      by_cases h6 : j = 6
      · rw [if_pos h6, if_pos ⟨h6, by simp⟩]; rfl
      · rw [if_neg h6, if_neg (fun z => h6 z.1)]
        exact xr_bN_k s h rd j
theorem xr_tg_o {s j f : Nat} {h : Int32} {l : Option Int32} {rd : Nat → Int32} (hj : j < 11 * s ∨ 11 * s + 11 ≤ j) : xr_tg s h l f rd j = rd j := by
  unfold xr_tg
  rw [xr_o (by omega) hj]
  cases l with
  | none => exact xr_bN_o hj
  | some x =>
    show upd (xr_bN s h rd) (11 * s + 6) x j = _
    rw [xr_o (by omega) hj]; exact xr_bN_o hj
theorem xb_tag {x : Int32} {rd2 : Nat → Int32} {post : Int32 → SX → Prop} (hs : s < 8) (hL : L ≤ 200) (I : pm_CI K R L dep c) (hK : cr_K a_kinds a_repeats K R) (hr : pm_row c = 0) (htd : t = pm_pos c + d) (hte : t + 1 ≤ pm_end c) (hd : d < 10) (hb : B1 t < 128)
    (r2 : rd2 (11 * s + 2) = nI (t + 1)) (r4 : rd2 (11 * s + 4) = x) (hx : x = pm_vs B1 (pm_pos c) (d + 1)) (r8 : rd2 (11 * s + 8) = nI (pm_row c)) (r9 : rd2 (11 * s + 9) = nI (pm_pos c)) (r10 : rd2 (11 * s + 10) = nI (pm_at c))
    (r0 : rd2 (11 * s) = rd0 (11 * s)) (rO : xr_O 11 s rd0 rd2) (rch : ∀ i, i ≤ pm_at c → a_chainNode (4 * s + i) = nI (pm_ins c i) ∧ a_chainEnd (4 * s + i) = nI (pm_lim c i))
    (hXD : cr_XD K s a_nodeCount a_nodeTypes a_valueCount a_valueOwners a_values (pm_d c)) (hsk : a_skippedCount s = nI (pm_sk c))
    (hfrom : cr_from K R y L t B (fun B' T => pm_goT B' K R T c d)) (hB : ∀ i, i < t → B1 i = B i)
    (H : ∀ code mc' nc' nt' vc' vo' va' sk' rd' cn' ce', xr_fr s a_messageCount a_nodeCount a_nodeTypes a_valueCount a_valueOwners a_values a_skippedCount rd0 a_chainNode a_chainEnd mc' nc' nt' vc' vo' va' sk' rd' cn' ce' →
      xr_sp K R s y L (t + 1) B1 a_messageCount rd0 code mc' nc' nt' vc' vo' va' sk' rd' cn' ce' →
      post (if code = 0 then 0 else nI (10 + code)) (f_frameAt, f_frameLength, f_frameSort, f_frameFlags, f_frameStream, f_down, f_entryCount, f_most, f_typeSeen, f_lastSender, f_sentLength, a_payload, a_life, a_theyEnded, a_weEnded, a_finishing, a_codes, a_windowIn, a_windowOut, a_headers, a_headerCount, a_entries, a_kinds, a_repeats, mc', a_text, nc', nt', vc', vo', va', sk', rd', cn', ce', a_queue, a_queueLength, a_sent, a_nodeSize, a_nodePlace)) :
    wpX_endTag (fun r u => match u with | (f_frameAt, f_frameLength, f_frameSort, f_frameFlags, f_frameStream, f_down, f_entryCount, f_most, f_typeSeen, f_lastSender, f_sentLength, a_payload, a_life, a_theyEnded, a_weEnded, a_finishing, a_codes, a_windowIn, a_windowOut, a_headers, a_headerCount, a_entries, a_kinds, a_repeats, a_messageCount, a_text, a_nodeCount, a_nodeTypes, a_valueCount, a_valueOwners, a_values, a_skippedCount, a_reader, a_chainNode, a_chainEnd, a_queue, a_queueLength, a_sent, a_nodeSize, a_nodePlace) => wX_readByte_212 post (nI s) r f_frameAt f_frameLength f_frameSort f_frameFlags f_frameStream f_down f_entryCount f_most f_typeSeen f_lastSender f_sentLength a_payload a_life a_theyEnded a_weEnded a_finishing a_codes a_windowIn a_windowOut a_headers a_headerCount a_entries a_kinds a_repeats a_messageCount a_text a_nodeCount a_nodeTypes a_valueCount a_valueOwners a_values a_skippedCount a_reader a_chainNode a_chainEnd a_queue a_queueLength a_sent a_nodeSize a_nodePlace) (f_frameAt, f_frameLength, f_frameSort, f_frameFlags, f_frameStream, f_down, f_entryCount, f_most, f_typeSeen, f_lastSender, f_sentLength, a_payload, a_life, a_theyEnded, a_weEnded, a_finishing, a_codes, a_windowIn, a_windowOut, a_headers, a_headerCount, a_entries, a_kinds, a_repeats, a_messageCount, a_text, a_nodeCount, a_nodeTypes, a_valueCount, a_valueOwners, a_values, a_skippedCount, rd2, a_chainNode, a_chainEnd, a_queue, a_queueLength, a_sent, a_nodeSize, a_nodePlace) (nI s) := by
  have he : pm_end c = pm_lim c (pm_at c) := by unfold pm_end; exact if_pos hr
  have hel := pm_end_le I
  have hcn := (rch _ (Nat.le_refl _)).1
  have hdis : ∀ T B', t + 1 ≤ T → (∀ i, i < t + 1 → B' i = B1 i) → pm_goT B' K R T c d = pm_dis B' K R T c (t + 1) x.toBitVec.toNat := by
    intro T B' hT hB'
    have hbt : B' (pm_pos c + d) < 128 := by
      rw [hB' _ (by omega), ← htd]; exact hb
    rw [pm_goT_d hd (by omega) (by omega) hbt, hx]
    have e1 : pm_vs B' (pm_pos c) (d + 1) = pm_vs B1 (pm_pos c) (d + 1) := pm_vs_g _ (fun i hi => hB' _ (by omega))
    rw [e1, show pm_pos c + (d + 1) = t + 1 by omega]
  -- on to another phase
  have hmid : ∀ (h : Nat) (l : Option Int32) (f w : Nat), 1 ≤ h → h ≤ 3 → f ≤ 15 → (h = 3 → l = some (nI w) ∧ 0 < w ∧ w ≤ 8) →
      (∀ T B', t + 1 ≤ T → (∀ i, i < t + 1 → B' i = B1 i) → pm_goT B' K R T c d = pm_go B' K R T c h f (t + 1) 0 w) →
      (h = 1 → (f ≠ 0 → K (pm_fj c f) ≠ 0 ∧ (K (pm_fj c f) ≤ 3 → R (pm_fj c f) = true))) → (h = 2 → (f ≠ 0 → 1 ≤ K (pm_fj c f) ∧ K (pm_fj c f) ≤ 2)) → (h = 3 → (f ≠ 0 → w = 4 ∧ K (pm_fj c f) = 3)) →
      wX_readByte_212 post (nI s) 0 f_frameAt f_frameLength f_frameSort f_frameFlags f_frameStream f_down f_entryCount f_most f_typeSeen f_lastSender f_sentLength a_payload a_life a_theyEnded a_weEnded a_finishing a_codes a_windowIn a_windowOut a_headers a_headerCount a_entries a_kinds a_repeats a_messageCount a_text a_nodeCount a_nodeTypes a_valueCount a_valueOwners a_values a_skippedCount (xr_tg s (nI h) l (if f = 0 then 0 else pm_fj c f) rd2) a_chainNode a_chainEnd a_queue a_queueLength a_sent a_nodeSize a_nodePlace := by
    intro h l f w h1 h3 hf15 hl hgo c1 c2 c3
    have k := xr_tg_k s (nI h) l (if f = 0 then 0 else pm_fj c f) rd2
    refine xt_mid (B := B1) (y := y) (dep := dep) (c := c) (h := h) (f := f) (q := t + 1) (d := 0) (w := w) (mc0 := a_messageCount) (rd0 := rd0) hs hL I (by omega) (fun z => ⟨z, hf15, ?_⟩) hte (fun z => ?_) (Or.inl (by omega)) (by omega) (by omega) (fun z => absurd hr z) ⟨?_, ?_, ?_, ?_, ?_, ?_, ?_, ?_, ?_, rch⟩ ?_ hsk ?_ rfl ?_ (fun code s1 => ?_)
    · rcases (show h = 1 ∨ h = 2 ∨ h = 3 by omega) with e | e | e
      · exact Or.inr (Or.inl ⟨e, by omega, by omega, hr, by omega, c1 e⟩)
      · exact Or.inr (Or.inr (Or.inl ⟨e, by omega, by omega, by omega, c2 e, fun z2 => absurd hr z2⟩))
      · exact Or.inr (Or.inr (Or.inr (Or.inl ⟨e, by omega, (hl e).2.1, (hl e).2.2, by omega, c3 e, fun z2 => absurd hr z2⟩)))
    · unfold pm_go
      rcases (show h = 1 ∨ h = 2 ∨ h = 3 by omega) with e | e | e
      · rw [if_neg (by omega), if_pos e]; exact pm_goL_e (by omega) (by omega)
      · rw [if_neg (by omega), if_neg (by omega), if_pos e]; exact pm_goV_e (by omega) (by omega)
      · rw [if_neg (by omega), if_neg (by omega), if_neg (by omega), if_pos e]
        exact pm_goF_e (by have := (hl e).2.1; omega) (by omega)
    · rw [k, if_neg (by omega), if_neg (fun z => by omega), if_neg (by omega), if_neg (by omega)]; exact r2
    · rw [k, if_neg (by omega), if_neg (fun z => by omega), if_neg (by omega), if_pos rfl]
    · intro _
      rw [k, if_neg (by omega), if_neg (fun z => by omega), if_pos (by omega), k, if_neg (by omega), if_neg (fun z => by omega), if_pos (by omega)]
      refine ⟨?_, rfl⟩
      unfold cr_sum
      rw [if_neg (by omega)]
      split <;> rfl
    · intro e
      rw [k, if_neg (by omega), if_pos ⟨rfl, by rw [(hl e).1]; simp⟩, (hl e).1]; rfl
    · intro e; omega
    · intro _
      rw [k, if_pos rfl]
    · rw [k, if_neg (by omega), if_neg (fun z => by omega), if_neg (by omega), if_neg (by omega)]; exact r8
    · intro _
      rw [k, if_neg (by omega), if_neg (fun z => by omega), if_neg (by omega), if_neg (by omega)]; exact r9
    · rw [k, if_neg (by omega), if_neg (fun z => by omega), if_neg (by omega), if_neg (by omega)]; exact r10
    · unfold cr_D
      rw [if_neg (fun z => by omega)]
      exact hXD
    · refine cr_on hfrom hB (fun T B' hT hB' r hr' => ?_)
      show pm_Rp B' K R T (pm_goT B' K R T c d) r
      rw [hgo T B' hT hB']; exact hr'
    · refine (k 0).trans ?_
      rw [if_neg (show ¬ (0 : Nat) = 7 by omega), if_neg (show ¬ ((0 : Nat) = 6 ∧ l ≠ none) from fun z => absurd z.1 (by omega)), if_neg (show ¬ ((0 : Nat) = 5 ∨ (0 : Nat) = 4) by omega), if_neg (show ¬ (0 : Nat) = 3 by omega)]
      exact r0
    · exact H code a_messageCount a_nodeCount a_nodeTypes a_valueCount a_valueOwners a_values a_skippedCount _ a_chainNode a_chainEnd ⟨xr_O_r, xr_O_r, xr_O_r, xr_O_r, xr_O_r, xr_O_r, xr_O_r, xr_O_t rO (fun j hj => xr_tg_o hj), xr_O_r, xr_O_r, rfl⟩ s1
  have hfl := fun n w => pm_fl_s (K := K) (R := R) (c := c) n w
  refine xw_tag (x := x) hs I hK hXD r4 r10 hcn (fun z => ?_) (fun f z1 z2 z3 => ?_) (fun f z1 z2 z3 => ?_) (fun f z1 z2 z3 => ?_) (fun f z1 z2 z3 => ?_)
  · unfold wX_readByte_212
    refine br_f (by decide) (H 2 a_messageCount a_nodeCount a_nodeTypes a_valueCount a_valueOwners a_values a_skippedCount rd2 a_chainNode a_chainEnd ⟨xr_O_r, xr_O_r, xr_O_r, xr_O_r, xr_O_r, xr_O_r, xr_O_r, rO, xr_O_r, xr_O_r, rfl⟩ (Or.inl ⟨by omega, by omega, rfl, r0, (2, c), hfrom (t + 1) B1 (by omega) hB _ ?_, rfl⟩))
    have e : pm_goT B1 K R (t + 1) c d = (2, c) := by
      rw [hdis (t + 1) B1 (Nat.le_refl _) (fun _ _ => rfl)]
      unfold pm_dis
      rcases z with z | ⟨z1, z2, z3, z4⟩
      · rw [if_pos z]
      · by_cases w : x.toBitVec.toNat / 8 = 0
        · rw [if_pos w]
        · rw [if_neg w, if_neg z1, if_neg z3, if_neg z4, if_neg z2]
    show pm_Rp B1 K R (t + 1) (pm_goT B1 K R (t + 1) c d) (2, c)
    rw [e]
    exact Or.inr ⟨show (2 : Nat) ≠ 0 by omega, rfl⟩
  · refine hmid 2 none f 0 (by omega) (by omega) ?_ (fun e => by omega) (fun T B' hT hB' => ?_) (fun e => by omega) (fun _ g => ?_) (fun e => by omega)
    · rw [z3]; rcases hfl (x.toBitVec.toNat / 8) 0 with e | ⟨e1, e2, _⟩ <;> omega
    · rw [hdis T B' hT hB']; unfold pm_dis; rw [if_neg z1, if_pos z2, ← z3]; rfl
    · rcases hfl (x.toBitVec.toNat / 8) 0 with e | ⟨e1, e2, e3, e4⟩
      · omega
      · rw [z3, e1]
        have : K (pm_fj c (x.toBitVec.toNat / 8)) < 3 := by
          rcases e4 with e4 | e4
          · exact (pm_w_0 _ (hK.1 _)).1.mp e4.symm
          · exact absurd e4.1 (by decide)
        omega
  · have hf0 : f = 0 := by rw [z3]; exact pm_fl_1 hK.1 _
    refine hmid 3 (some 8) f 8 (by omega) (by omega) (by omega) (fun _ => ⟨rfl, by omega, by omega⟩) (fun T B' hT hB' => ?_) (fun e => by omega) (fun e => by omega) (fun _ g => absurd hf0 g)
    rw [hdis T B' hT hB']; unfold pm_dis; rw [if_neg z1, if_neg (by omega), if_neg (by omega), if_neg (by omega), if_pos z2, hf0]; rfl
  · refine hmid 1 none f 0 (by omega) (by omega) ?_ (fun e => by omega) (fun T B' hT hB' => ?_) (fun _ g => ?_) (fun e => by omega) (fun e => by omega)
    · rw [z3]; rcases hfl (x.toBitVec.toNat / 8) 2 with e | ⟨e1, e2, _⟩ <;> omega
    · rw [hdis T B' hT hB']; unfold pm_dis; rw [if_neg z1, if_neg (by omega), if_pos z2, ← z3]; rfl
    · rcases hfl (x.toBitVec.toNat / 8) 2 with e | ⟨e1, e2, e3, e4⟩
      · omega
      · rw [z3, e1]
        refine ⟨e3, fun g3 => ?_⟩
        rcases e4 with e4 | e4
        · have := (pm_w_0 _ (hK.1 _)).2.2.mp e4.symm
          omega
        · exact e4.2
  · refine hmid 3 (some 4) f 4 (by omega) (by omega) ?_ (fun _ => ⟨rfl, by omega, by omega⟩) (fun T B' hT hB' => ?_) (fun e => by omega) (fun e => by omega) (fun _ g => ?_)
    · rw [z3]; rcases hfl (x.toBitVec.toNat / 8) 5 with e | ⟨e1, e2, _⟩ <;> omega
    · rw [hdis T B' hT hB']; unfold pm_dis; rw [if_neg z1, if_neg (by omega), if_neg (by omega), if_pos z2, ← z3]; rfl
    · rcases hfl (x.toBitVec.toNat / 8) 5 with e | ⟨e1, e2, e3, e4⟩
      · omega
      · rw [z3, e1]
        refine ⟨rfl, ?_⟩
        rcases e4 with e4 | e4
        · exact (pm_w_0 _ (hK.1 _)).2.1.mp e4.symm
        · exact absurd e4.1 (by decide)
end
end
section
/-! S9: a byte with which a length ends -/
section
variable {f_frameAt f_frameLength f_frameSort f_frameFlags f_frameStream f_down f_entryCount f_most f_typeSeen f_lastSender f_sentLength : Int32} {a_payload a_life a_theyEnded a_weEnded a_finishing a_codes a_windowIn a_windowOut a_headers a_headerCount a_entries a_kinds a_repeats a_messageCount a_text a_nodeCount a_nodeTypes a_valueCount a_valueOwners a_values a_skippedCount a_reader a_chainNode a_chainEnd a_queue a_queueLength a_sent a_nodeSize a_nodePlace : Nat → Int32} {B B1 : Nat → Nat} {K : Nat → Nat} {R : Nat → Bool} {L t y : Nat} {dep : Nat → Nat} {c : pm_C} {s f : Nat} {rd0 : Nat → Int32}
theorem xr_bd_k (s : Nat) (x : Int32) (rd : Nat → Int32) (k : Nat) : xr_bd s x rd (11 * s + k) = if k = 6 then x else if k = 3 then 4 else rd (11 * s + k) := by
  unfold xr_bd
  rw [xr_u, xr_u]
theorem xr_rw_k (s : Nat) (h e : Int32) (rd : Nat → Int32) (k : Nat) : xr_rw s h e rd (11 * s + k) = if k = 8 then e else if k = 6 then 4 else if k = 5 ∨ k = 4 then 0 else if k = 3 then h else rd (11 * s + k) := by
  unfold xr_rw
  rw [xr_u, xr_u, xr_bN_k]
theorem xb_len {x : Int32} {rd2 : Nat → Int32} {g : (Nat → Nat) → Nat → Nat × pm_C} {post : Int32 → SX → Prop} (hs : s < 8) (hL : L ≤ 200) (I : pm_CI K R L dep c) (hK : cr_K a_kinds a_repeats K R) (hr : pm_row c = 0) (hpt : pm_pos c ≤ t) (hte : t + 1 ≤ pm_end c)
    (hf15 : f ≤ 15) (hf : f ≠ 0 → K (pm_fj c f) ≠ 0 ∧ (K (pm_fj c f) ≤ 3 → R (pm_fj c f) = true))
    (r2 : rd2 (11 * s + 2) = nI (t + 1)) (r4 : rd2 (11 * s + 4) = x) (r7 : rd2 (11 * s + 7) = nI (if f = 0 then 0 else pm_fj c f)) (r8 : rd2 (11 * s + 8) = nI (pm_row c)) (r9 : rd2 (11 * s + 9) = nI (pm_pos c)) (r10 : rd2 (11 * s + 10) = nI (pm_at c))
    (r0 : rd2 (11 * s) = rd0 (11 * s)) (rO : xr_O 11 s rd0 rd2) (rch : ∀ i, i ≤ pm_at c → a_chainNode (4 * s + i) = nI (pm_ins c i) ∧ a_chainEnd (4 * s + i) = nI (pm_lim c i))
    (hXD : cr_XD K s a_nodeCount a_nodeTypes a_valueCount a_valueOwners a_values (pm_d c)) (hsk : a_skippedCount s = nI (pm_sk c))
    (hfrom : cr_from K R y L t B g) (hB : ∀ i, i < t → B1 i = B i) (hg : ∀ T B', t + 1 ≤ T → (∀ i, i < t + 1 → B' i = B1 i) → g B' T = pm_len K R T c f (t + 1) x)
    (H : ∀ code mc' nc' nt' vc' vo' va' sk' rd' cn' ce', xr_fr s a_messageCount a_nodeCount a_nodeTypes a_valueCount a_valueOwners a_values a_skippedCount rd0 a_chainNode a_chainEnd mc' nc' nt' vc' vo' va' sk' rd' cn' ce' →
      xr_sp K R s y L (t + 1) B1 a_messageCount rd0 code mc' nc' nt' vc' vo' va' sk' rd' cn' ce' →
      post (if code = 0 then 0 else nI (10 + code)) (f_frameAt, f_frameLength, f_frameSort, f_frameFlags, f_frameStream, f_down, f_entryCount, f_most, f_typeSeen, f_lastSender, f_sentLength, a_payload, a_life, a_theyEnded, a_weEnded, a_finishing, a_codes, a_windowIn, a_windowOut, a_headers, a_headerCount, a_entries, a_kinds, a_repeats, mc', a_text, nc', nt', vc', vo', va', sk', rd', cn', ce', a_queue, a_queueLength, a_sent, a_nodeSize, a_nodePlace)) :
    wpX_endLength (fun r u => match u with | (f_frameAt, f_frameLength, f_frameSort, f_frameFlags, f_frameStream, f_down, f_entryCount, f_most, f_typeSeen, f_lastSender, f_sentLength, a_payload, a_life, a_theyEnded, a_weEnded, a_finishing, a_codes, a_windowIn, a_windowOut, a_headers, a_headerCount, a_entries, a_kinds, a_repeats, a_messageCount, a_text, a_nodeCount, a_nodeTypes, a_valueCount, a_valueOwners, a_values, a_skippedCount, a_reader, a_chainNode, a_chainEnd, a_queue, a_queueLength, a_sent, a_nodeSize, a_nodePlace) => wX_readByte_212 post (nI s) r f_frameAt f_frameLength f_frameSort f_frameFlags f_frameStream f_down f_entryCount f_most f_typeSeen f_lastSender f_sentLength a_payload a_life a_theyEnded a_weEnded a_finishing a_codes a_windowIn a_windowOut a_headers a_headerCount a_entries a_kinds a_repeats a_messageCount a_text a_nodeCount a_nodeTypes a_valueCount a_valueOwners a_values a_skippedCount a_reader a_chainNode a_chainEnd a_queue a_queueLength a_sent a_nodeSize a_nodePlace) (f_frameAt, f_frameLength, f_frameSort, f_frameFlags, f_frameStream, f_down, f_entryCount, f_most, f_typeSeen, f_lastSender, f_sentLength, a_payload, a_life, a_theyEnded, a_weEnded, a_finishing, a_codes, a_windowIn, a_windowOut, a_headers, a_headerCount, a_entries, a_kinds, a_repeats, a_messageCount, a_text, a_nodeCount, a_nodeTypes, a_valueCount, a_valueOwners, a_values, a_skippedCount, rd2, a_chainNode, a_chainEnd, a_queue, a_queueLength, a_sent, a_nodeSize, a_nodePlace) (nI s) := by
  have he : pm_end c = pm_lim c (pm_at c) := by unfold pm_end; exact if_pos hr
  have hel := pm_end_le I
  have hin := I.2.2.2.2.1 (pm_at c) (Nat.le_refl _)
  have hty := (I.1.2.2.2.2.1 _ hin.1).1
  have bdO : ∀ z, xr_O 11 s rd0 (xr_bd s z rd2) := by
    intro z
    refine xr_O_t rO (fun j hj => ?_)
    unfold xr_bd
    rw [xr_o (by omega) hj, xr_o (by omega) hj]
  have bd0 : ∀ z, xr_bd s z rd2 (11 * s) = rd0 (11 * s) := by
    intro z
    refine (xr_bd_k s z rd2 0).trans ?_
    rw [if_neg (by omega), if_neg (by omega)]; exact r0
  have bEO : ∀ rd', xr_O 11 s rd0 rd' → xr_O 11 s rd0 (xr_bE s rd') := fun rd' h => xr_O_t h (fun j hj => xr_bE_o hj)
  -- errors
  have herr : ∀ (x' : Nat) rd', x' ≠ 0 → x' ≤ 5 → (∀ T B', t + 1 ≤ T → (∀ i, i < t + 1 → B' i = B1 i) → g B' T = (x', c)) → rd' (11 * s) = rd0 (11 * s) → xr_O 11 s rd0 rd' → wX_readByte_212 post (nI s) (nI (10 + x')) f_frameAt f_frameLength f_frameSort f_frameFlags f_frameStream f_down f_entryCount f_most f_typeSeen f_lastSender f_sentLength a_payload a_life a_theyEnded a_weEnded a_finishing a_codes a_windowIn a_windowOut a_headers a_headerCount a_entries a_kinds a_repeats a_messageCount a_text a_nodeCount a_nodeTypes a_valueCount a_valueOwners a_values a_skippedCount (rd') a_chainNode a_chainEnd a_queue a_queueLength a_sent a_nodeSize a_nodePlace := by
    intro x' rd' h1 h5 hgx hr0 hrO
    unfold wX_readByte_212
    refine br_f (fun z => ?_) ?_
    · have := (nI_eq (a := 10 + x') (b := 0) (by omega) (by omega)).mp z
      omega
    have := H x' a_messageCount a_nodeCount a_nodeTypes a_valueCount a_valueOwners a_values a_skippedCount rd' a_chainNode a_chainEnd ⟨xr_O_r, xr_O_r, xr_O_r, xr_O_r, xr_O_r, xr_O_r, xr_O_r, hrO, xr_O_r, xr_O_r, rfl⟩ (Or.inl ⟨h1, h5, rfl, hr0, (x', c), hfrom (t + 1) B1 (by omega) hB _ (by rw [hgx (t + 1) B1 (Nat.le_refl _) (fun _ _ => rfl)]; exact Or.inr ⟨h1, rfl⟩), rfl⟩)
    rw [if_neg h1] at this
    exact this
  have hlenE : ∀ len, x = nI len → t + 1 + len ≤ pm_lim c (pm_at c) → ∀ T, pm_len K R T c f (t + 1) x = pm_body K R T c f (t + 1) len := by
    intro len e hle T
    unfold pm_len
    rw [e, nI_clamp (by omega), if_neg (fun z => z.elim (fun z => nI_pos (by omega) z) (fun z => by omega))]
  have hfr0 : ∀ c', (∀ T B', t + 1 ≤ T → (∀ i, i < t + 1 → B' i = B1 i) → g B' T = (0, c')) → cr_from K R y L (t + 1) B1 (fun _ _ => (0, c')) := by
    intro c' h
    refine cr_on hfrom hB (fun T B' hT hB' r hr' => ?_)
    rw [h T B' hT hB']; exact hr'
  -- a body to come
  have hmid : ∀ len vc vo va, x = nI len → 1 ≤ len → t + 1 + len ≤ pm_lim c (pm_at c) → (f ≠ 0 → K (pm_fj c f) = 4 ∧ pm_pl R (pm_d c) (pm_nd c) f ≠ 48) → cr_XD K s a_nodeCount a_nodeTypes vc vo va (cr_D R c 4 f (t + 1) len) → xr_O 1 s a_valueCount vc → xr_O 48 s a_valueOwners vo → xr_O 48 s a_values va →
      wX_readByte_212 post (nI s) 0 f_frameAt f_frameLength f_frameSort f_frameFlags f_frameStream f_down f_entryCount f_most f_typeSeen f_lastSender f_sentLength a_payload a_life a_theyEnded a_weEnded a_finishing a_codes a_windowIn a_windowOut a_headers a_headerCount a_entries a_kinds a_repeats a_messageCount a_text a_nodeCount a_nodeTypes (vc) (vo) (va) a_skippedCount (xr_bd s (nI len) rd2) a_chainNode a_chainEnd a_queue a_queueLength a_sent a_nodeSize a_nodePlace := by
    intro len vc vo va e h1 hle hf4 hX o1 o2 o3
    have k := xr_bd_k s (nI len) rd2
    refine xt_mid (B := B1) (y := y) (dep := dep) (c := c) (h := 4) (f := f) (q := t + 1) (d := 0) (w := len) (mc0 := a_messageCount) (rd0 := rd0) hs hL I (by omega) (fun z => ⟨z, hf15, Or.inr (Or.inr (Or.inr (Or.inr ⟨rfl, by omega, by omega, hle, hr, by omega, hf4⟩)))⟩) hte (fun z => absurd z (by omega)) (Or.inl (by omega)) (by omega) (by omega) (fun z => absurd hr z) ⟨?_, ?_, fun z => absurd z (by omega), fun z => absurd z (by omega), ?_, ?_, ?_, ?_, ?_, rch⟩ hX hsk ?_ rfl (bd0 _) (fun code s1 => ?_)
    · rw [k, if_neg (by omega), if_neg (by omega)]; exact r2
    · rw [k, if_neg (by omega), if_pos rfl]; rfl
    · intro _
      rw [k, if_pos rfl]
      exact congrArg nI (by omega)
    · intro _
      rw [k, if_neg (by omega), if_neg (by omega)]; exact r7
    · rw [k, if_neg (by omega), if_neg (by omega)]; exact r8
    · intro _
      rw [k, if_neg (by omega), if_neg (by omega)]; exact r9
    · rw [k, if_neg (by omega), if_neg (by omega)]; exact r10
    · refine cr_on hfrom hB (fun T B' hT hB' r hr' => ?_)
      rw [hg T B' hT hB', hlenE len e hle T]
      exact hr'
    · exact H code a_messageCount a_nodeCount a_nodeTypes vc vo va a_skippedCount _ a_chainNode a_chainEnd ⟨xr_O_r, xr_O_r, xr_O_r, o1, o2, o3, xr_O_r, bdO _, xr_O_r, xr_O_r, rfl⟩ s1
  -- an element that is through
  have hel0 : ∀ c' rd' vc vo va sk', pm_CI K R L dep c' → pm_pos c' = t + 1 → pm_at c' = pm_at c → pm_row c' = 0 → pm_lim c' = pm_lim c → pm_ins c' = pm_ins c → cr_from K R y L (t + 1) B1 (fun _ _ => (0, c')) → cr_XD K s a_nodeCount a_nodeTypes vc vo va (pm_d c') → sk' s = nI (pm_sk c') →
      rd' (11 * s + 2) = nI (t + 1) → rd' (11 * s + 10) = nI (pm_at c) → rd' (11 * s) = rd0 (11 * s) → xr_O 11 s rd0 rd' → xr_O 1 s a_valueCount vc → xr_O 48 s a_valueOwners vo → xr_O 48 s a_values va → xr_O 1 s a_skippedCount sk' →
      wX_readByte_212 post (nI s) 0 f_frameAt f_frameLength f_frameSort f_frameFlags f_frameStream f_down f_entryCount f_most f_typeSeen f_lastSender f_sentLength a_payload a_life a_theyEnded a_weEnded a_finishing a_codes a_windowIn a_windowOut a_headers a_headerCount a_entries a_kinds a_repeats a_messageCount a_text a_nodeCount a_nodeTypes (vc) (vo) (va) (sk') (xr_bE s rd') a_chainNode a_chainEnd a_queue a_queueLength a_sent a_nodeSize a_nodePlace := by
    intro c' rd' vc vo va sk' i1 i2 i3 i4 i6 i7 hfr hX hs' q2 q10 q0 qO o1 o2 o3 o4
    have hF := xb_fresh (t := t + 1) (rd := rd') (cn := a_chainNode) (ce := a_chainEnd) (s := s) (c := c) (c' := c') i3 i6 i7 q2 q10 rch
    refine xt_el (c := c') (mc0 := a_messageCount) (rd0 := rd0) hs hL i1 i4 i2 hF hX hs' hfr rfl (by rw [xb_0]; exact q0) (fun mc' rd'' s1 s2 s3 => ?_)
    exact H 0 mc' a_nodeCount a_nodeTypes vc vo va sk' rd'' a_chainNode a_chainEnd ⟨s2, xr_O_r, xr_O_r, o1, o2, o3, o4, xr_O_t (bEO _ qO) s3, xr_O_r, xr_O_r, rfl⟩ s1
  have bd2 : ∀ z, xr_bd s z rd2 (11 * s + 2) = nI (t + 1) := fun z => by rw [xr_bd_k, if_neg (by omega), if_neg (by omega)]; exact r2
  have bd10 : ∀ z, xr_bd s z rd2 (11 * s + 10) = nI (pm_at c) := fun z => by rw [xr_bd_k, if_neg (by omega), if_neg (by omega)]; exact r10
  refine xw_len (f := f) (t := t + 1) (x := x) hs I hK hXD hL hr r2 r4 r7 r9 (by omega) (by omega) r10 rch (fun z => ⟨hf15, (hf z).1⟩) (fun z => ?_) (fun z zx => ?_) (fun len z zx z1 zl => ?_) (fun len rd' z zk z48 zx zl q0 qO => ?_) (fun vc vo va z zk z48 zx g1 g2 g3 g4 => ?_) (fun len vc vo va z zk z48 zx z1 zl g1 g2 g3 g4 => ?_) (fun len z zk zx zl => ?_) (fun z zk zx => ?_) (fun len z zk zx z1 zl => ?_)
  · refine herr 4 rd2 (by omega) (by omega) (fun T B' hT hB' => ?_) r0 rO
    rw [hg T B' hT hB']; unfold pm_len; rw [if_pos z]
  · -- nothing, skipped
    obtain ⟨c', hc'⟩ : ∃ c', pm_fin R c 0 (t + 1) 0 0 = (0, c') := by
      unfold pm_fin; rw [if_pos rfl]; exact ⟨_, rfl⟩
    obtain ⟨i1, i2, i3, i4, i5, i6, i7, i8, i9, i10⟩ := xb_fin (sk0 := a_skippedCount) (s := s) (f := 0) (st := 0) (v := 0) I hte (Or.inl rfl) hc' hsk (by omega)
    obtain ⟨k1, k2⟩ := i9 rfl
    refine hel0 c' (xr_bd s 0 rd2) a_valueCount a_valueOwners a_values _ i1 i2 i3 (by omega) i6 i7 (hfr0 c' (fun T B' hT hB' => ?_)) (by rw [k1]; exact hXD) k2 (bd2 _) (bd10 _) (bd0 _) (bdO _) xr_O_r xr_O_r xr_O_r xr_O_1
    rw [hg T B' hT hB', hlenE 0 zx (by omega) T]
    unfold pm_body
    rw [if_pos z, if_neg (by omega)]
    exact hc'
  · refine hmid len a_valueCount a_valueOwners a_values zx z1 zl (fun w => absurd z w) ?_ xr_O_r xr_O_r xr_O_r
    unfold cr_D; rw [if_neg (fun w => w.2 z)]; exact hXD
  · refine herr 5 rd' (by omega) (by omega) (fun T B' hT hB' => ?_) (q0.trans r0) (xr_O_t rO qO)
    rw [hg T B' hT hB', hlenE len zx zl T]
    unfold pm_body
    rw [if_neg z, if_pos zk, if_pos z48]
  · -- no bytes
    have hfok : pm_fok K L c f (nI 0) (t + 1) := Or.inr ⟨by omega, hf15, by omega, by omega, fun _ => ⟨0, rfl, by omega⟩⟩
    obtain ⟨c', hc'⟩ : ∃ c', pm_fin R c f (t + 1) (nI 0) (t + 1) = (0, c') := by
      unfold pm_fin; rw [if_neg z, if_neg z48]; exact ⟨_, rfl⟩
    obtain ⟨i1, i2, i3, i4, i5, i6, i7, i8, i9, i10⟩ := xb_fin (sk0 := a_skippedCount) (s := s) I hte hfok hc' hsk (by omega)
    obtain ⟨k1, k2⟩ := i10 z
    refine hel0 c' (xr_bd s 0 rd2) vc vo va a_skippedCount i1 i2 i3 (by omega) i6 i7 (hfr0 c' (fun T B' hT hB' => ?_)) (by rw [k1]; exact g1) k2 (bd2 _) (bd10 _) (bd0 _) (bdO _) g2 g3 g4 xr_O_r
    rw [hg T B' hT hB', hlenE 0 zx (by omega) T]
    unfold pm_body
    rw [if_neg z, if_pos zk, if_neg z48, if_neg (by omega)]
    exact hc'
  · refine hmid len vc vo va zx z1 zl (fun _ => ⟨zk, z48⟩) ?_ g2 g3 g4
    unfold cr_D; rw [if_pos ⟨rfl, z⟩]; exact g1
  · -- a part
    have hbody : ∀ T B', t + 1 ≤ T → (∀ i, i < t + 1 → B' i = B1 i) → g B' T = pm_part R c f (K (pm_fj c f) - 5) (t + 1) len := by
      intro T B' hT hB'
      rw [hg T B' hT hB', hlenE len zx zl T]
      unfold pm_body
      rw [if_neg z, if_neg (by omega), if_pos zk]
    refine xw_part (f := f) (ty := K (pm_fj c f) - 5) (t := t + 1) (len := len) hs I hK hXD r2 (by rw [r7, if_neg z]) r10 rch (by omega) hf15 zk (fun h5 => ?_) (fun c' nc nt vc vo va cn ce h0 e1 e2 e3 e4 g1 o1 o2 o3 o4 o5 o6 o7 o8 hch => ?_)
    · exact herr 5 rd2 (by omega) (by omega) (fun T B' hT hB' => by rw [hbody T B' hT hB', h5]) r0 rO
    · obtain ⟨dep', i1, _, _⟩ := pm_body_I (T := t + 1) (f := f) (q := t + 1) (len := len) (c' := c') I hr hK.1 (by omega) zl (Nat.le_refl _) hL (Or.inr ⟨by omega, hf15, (hf z).1, (hf z).2⟩) (by
        unfold pm_body
        rw [if_neg z, if_neg (by omega), if_pos zk]; exact h0)
      have uO : xr_O 11 s rd0 (upd rd2 (11 * s + 10) (nI (pm_at c'))) := xr_O_t rO (xr_O_u (by omega))
      have hF : xr_fresh s (t + 1) c' (xr_bE s (upd rd2 (11 * s + 10) (nI (pm_at c')))) cn ce :=
        xb_fresh (c := c') rfl rfl rfl (by rw [xr_u, if_neg (by omega)]; exact r2) (by rw [xr_u, if_pos rfl]) hch
      refine xt_el (c := c') (mc0 := a_messageCount) (rd0 := rd0) hs hL i1 e2 e3 hF g1 (by rw [e4]; exact hsk) (hfr0 c' (fun T B' hT hB' => by rw [hbody T B' hT hB', h0])) rfl (by rw [xb_0, xb_u0 (by omega)]; exact r0) (fun mc' rd'' s1 s2 s3 => ?_)
      exact H 0 mc' nc nt vc vo va a_skippedCount rd'' cn ce ⟨s2, o1, o2, o3, o4, o5, xr_O_r, xr_O_t (bEO _ uO) s3, o6, o7, o8⟩ s1
  · -- an empty row
    have hbody : ∀ T B', t + 1 ≤ T → (∀ i, i < t + 1 → B' i = B1 i) → g B' T = (0, (t + 1, pm_at c, t + 1 + 0, f, pm_sk c, pm_lim c, pm_ins c, pm_d c)) := by
      intro T B' hT hB'
      rw [hg T B' hT hB', hlenE 0 zx (by omega) T]
      unfold pm_body
      rw [if_neg z, if_neg (by omega), if_neg (by omega)]
    have hk1 := (hf z).1
    have I2 := pm_CI_row (q := t + 1) (len := 0) (f := f) I hr (by omega) (by omega) hf15 (by omega) zk ((hf z).2 zk) (by omega)
    have I3 := pm_CI_row0 I2 (by show t + 1 + 0 ≠ 0; omega) (by show t + 1 = t + 1 + 0; omega)
    have hfr : cr_from K R y L (t + 1) B1 (fun _ _ => (0, pm_row0 (t + 1, pm_at c, t + 1 + 0, f, pm_sk c, pm_lim c, pm_ins c, pm_d c))) := by
      intro T B' hT hB' r hr'
      have hw : pm_Rd B' K R T (pm_row0 (t + 1, pm_at c, t + 1 + 0, f, pm_sk c, pm_lim c, pm_ins c, pm_d c)) r := by
        rcases hr' with ⟨_, w⟩ | ⟨w, _⟩
        · exact w
        · exact absurd rfl w
      exact hfr0 _ hbody T B' hT hB' r (Or.inl ⟨rfl, pm_rd_row (by show t + 1 + 0 ≠ 0; omega) (by show t + 1 = t + 1 + 0; omega) hw⟩)
    refine hel0 _ (xr_rw s (if K (pm_fj c f) = 3 then 3 else 2) (nI (t + 1)) rd2) a_valueCount a_valueOwners a_values a_skippedCount I3 rfl rfl rfl rfl rfl hfr hXD hsk ?_ ?_ ?_ ?_ xr_O_r xr_O_r xr_O_r xr_O_r
    · rw [xr_rw_k, if_neg (by omega), if_neg (by omega), if_neg (by omega), if_neg (by omega)]; exact r2
    · rw [xr_rw_k, if_neg (by omega), if_neg (by omega), if_neg (by omega), if_neg (by omega)]; exact r10
    · refine (xr_rw_k s _ _ rd2 0).trans ?_
      rw [if_neg (by omega), if_neg (by omega), if_neg (by omega), if_neg (by omega)]; exact r0
    · refine xr_O_t rO (fun j hj => ?_)
      unfold xr_rw
      rw [xr_o (by omega) hj, xr_o (by omega) hj, xr_bN_o hj]
  · -- a row
    have hbody : ∀ T B', t + 1 ≤ T → (∀ i, i < t + 1 → B' i = B1 i) → g B' T = (0, (t + 1, pm_at c, t + 1 + len, f, pm_sk c, pm_lim c, pm_ins c, pm_d c)) := by
      intro T B' hT hB'
      rw [hg T B' hT hB', hlenE len zx zl T]
      unfold pm_body
      rw [if_neg z, if_neg (by omega), if_neg (by omega)]
    have hk1 := (hf z).1
    have I2 := pm_CI_row (q := t + 1) (len := len) (f := f) I hr zl (by omega) hf15 (by omega) zk ((hf z).2 zk) (by omega)
    have k := xr_rw_k s (if K (pm_fj c f) = 3 then 3 else 2) (nI (t + 1 + len)) rd2
    have qO : xr_O 11 s rd0 (xr_rw s (if K (pm_fj c f) = 3 then 3 else 2) (nI (t + 1 + len)) rd2) := by
      refine xr_O_t rO (fun j hj => ?_)
      unfold xr_rw
      rw [xr_o (by omega) hj, xr_o (by omega) hj, xr_bN_o hj]
    refine xt_row (c := (t + 1, pm_at c, t + 1 + len, f, pm_sk c, pm_lim c, pm_ins c, pm_d c)) (mc0 := a_messageCount) (rd0 := rd0) hs hL I2 (by show t + 1 + len ≠ 0; omega) rfl ?_ ?_ ?_ ?_ ?_ ?_ ?_ ?_ rch hXD hsk (hfr0 _ hbody) rfl ?_ (fun mc' rd'' s1 s2 s3 => ?_)
    · rw [k, if_neg (by omega), if_neg (by omega), if_neg (by omega), if_neg (by omega)]; exact r2
    · rw [k, if_neg (by omega), if_neg (by omega), if_neg (by omega), if_pos rfl]
      show (if K (pm_fj c f) = 3 then (3 : Int32) else 2) = nI (if K (pm_fj c f) = 3 then 3 else 2)
      split <;> rfl
    · rw [k, if_neg (by omega), if_neg (by omega), if_pos (by omega)]
    · rw [k, if_neg (by omega), if_neg (by omega), if_pos (by omega)]
    · intro _
      rw [k, if_neg (by omega), if_pos rfl]; rfl
    · rw [k, if_neg (by omega), if_neg (by omega), if_neg (by omega), if_neg (by omega), r7, if_neg z]; rfl
    · rw [k, if_pos rfl]
    · rw [k, if_neg (by omega), if_neg (by omega), if_neg (by omega), if_neg (by omega)]; exact r10
    · refine (k 0).trans ?_
      rw [if_neg (by omega), if_neg (by omega), if_neg (by omega), if_neg (by omega)]; exact r0
    · exact H 0 mc' a_nodeCount a_nodeTypes a_valueCount a_valueOwners a_values a_skippedCount rd'' a_chainNode a_chainEnd ⟨s2, xr_O_r, xr_O_r, xr_O_r, xr_O_r, xr_O_r, xr_O_r, xr_O_t qO s3, xr_O_r, xr_O_r, rfl⟩ s1
end
end
section
/-! S10: a byte of a message -/
section
variable {f_frameAt f_frameLength f_frameSort f_frameFlags f_frameStream f_down f_entryCount f_most f_typeSeen f_lastSender f_sentLength : Int32} {a_payload a_life a_theyEnded a_weEnded a_finishing a_codes a_windowIn a_windowOut a_headers a_headerCount a_entries a_kinds a_repeats a_messageCount a_text a_nodeCount a_nodeTypes a_valueCount a_valueOwners a_values a_skippedCount a_reader a_chainNode a_chainEnd a_queue a_queueLength a_sent a_nodeSize a_nodePlace : Nat → Int32} {B B1 : Nat → Nat} {K : Nat → Nat} {R : Nat → Bool} {L t y b s : Nat} {tx : Nat → Nat}
theorem xb_byte {post : Int32 → SX → Prop} (hs : s < 8) (hL : L ≤ 200) (hK : cr_K a_kinds a_repeats K R) (hb256 : b < 256) (hB : ∀ i, i < t → B1 i = B i) (hb1 : B1 t = b)
    (hinc : cr_inc K R s y L t B a_nodeCount a_nodeTypes a_valueCount a_valueOwners a_values a_skippedCount a_reader a_chainNode a_chainEnd)
    (H : ∀ code mc' nc' nt' vc' vo' va' sk' rd' cn' ce', xr_fr s a_messageCount a_nodeCount a_nodeTypes a_valueCount a_valueOwners a_values a_skippedCount a_reader a_chainNode a_chainEnd mc' nc' nt' vc' vo' va' sk' rd' cn' ce' →
      xr_sp K R s y L (t + 1) B1 a_messageCount a_reader code mc' nc' nt' vc' vo' va' sk' rd' cn' ce' →
      post (if code = 0 then 0 else nI (10 + code)) (f_frameAt, f_frameLength, f_frameSort, f_frameFlags, f_frameStream, f_down, f_entryCount, f_most, f_typeSeen, f_lastSender, f_sentLength, a_payload, a_life, a_theyEnded, a_weEnded, a_finishing, a_codes, a_windowIn, a_windowOut, a_headers, a_headerCount, a_entries, a_kinds, a_repeats, mc', an_f (pm_u tx (200 * s + t) b), nc', nt', vc', vo', va', sk', rd', cn', ce', a_queue, a_queueLength, a_sent, a_nodeSize, a_nodePlace)) :
    wpX_readByte post (f_frameAt, f_frameLength, f_frameSort, f_frameFlags, f_frameStream, f_down, f_entryCount, f_most, f_typeSeen, f_lastSender, f_sentLength, a_payload, a_life, a_theyEnded, a_weEnded, a_finishing, a_codes, a_windowIn, a_windowOut, a_headers, a_headerCount, a_entries, a_kinds, a_repeats, a_messageCount, an_f tx, a_nodeCount, a_nodeTypes, a_valueCount, a_valueOwners, a_values, a_skippedCount, a_reader, a_chainNode, a_chainEnd, a_queue, a_queueLength, a_sent, a_nodeSize, a_nodePlace) (nI s) (nI b) := by
  obtain ⟨dep, c, h, f, q, d, w, htL, I, hph, hreg, hXD, hsk, hfrom⟩ := hinc
  have hph' := hph
  obtain ⟨p1, p2, p3⟩ := hph
  have hreg' := hreg
  obtain ⟨r2, r3, r45, r63, r64, r7, r8, r9, r10, rch⟩ := hreg
  have hel := pm_end_le I
  have i2 := xr_ix (s := s) (k := 2) hs (by omega)
  have i3 := xr_ix (s := s) (k := 3) hs (by omega)
  have i5 := xr_ix (s := s) (k := 5) hs (by omega)
  have i6 := xr_ix (s := s) (k := 6) hs (by omega)
  have c2 : (nI (11 * s) + 2).toNatClampNeg = 11 * s + 2 := i2.2.2
  have c3 : (nI (11 * s) + 3).toNatClampNeg = 11 * s + 3 := i3.2.2
  have c5 : (nI (11 * s) + 5).toNatClampNeg = 11 * s + 5 := i5.2.2
  have c6 : (nI (11 * s) + 6).toNatClampNeg = 11 * s + 6 := i6.2.2
  have et : nI s * 200 + nI t = nI (200 * s + t) := by
    rw [show (200 : Int32) = nI 200 from rfl, pk_mul, nI_add, Nat.mul_comm]
  have hh : h ≤ 4 := by
    rcases p3 with ⟨e, _⟩ | ⟨e, _⟩ | ⟨e, _⟩ | ⟨e, _⟩ | ⟨e, _⟩ <;> omega
  have rd1k : ∀ k, upd a_reader (11 * s + 2) (nI (t + 1)) (11 * s + k) = if k = 2 then nI (t + 1) else a_reader (11 * s + k) := fun k => xr_u
  have rd1O : xr_O 11 s a_reader (upd a_reader (11 * s + 2) (nI (t + 1))) := xr_O_u (by omega)
  unfold wpX_readByte
  dsimp only
  refine nm_r i2.1 ⟨i2.2.1, ?_⟩
  rw [c2, r2, et]
  refine ⟨vp_in_nI (by omega) (by omega), nm_r (e' := an_f (pm_u tx (200 * s + t) b)) (by rw [nI_clamp (by omega), an_fu]) ⟨i2.2.1, i2.2.1, nm_r (e' := upd a_reader (11 * s + 2) (nI (t + 1))) (by rw [nI_1]) ⟨i3.2.1, nm_r (e' := nI h) (by rw [c3, rd1k, if_neg (by omega)]; exact r3) ?_⟩⟩⟩
  generalize hrd1 : upd a_reader (11 * s + 2) (nI (t + 1)) = rd1 at *
  refine pk_eq h 4 (fun e4 => ?_) (fun e4 => ?_)
  · -- a body
    subst e4
    have hq : t < q + w := by
      rcases p3 with ⟨e, _⟩ | ⟨e, _⟩ | ⟨e, _⟩ | ⟨e, _⟩ | ⟨e, a1, a2, _⟩ <;> omega
    have hr0 : pm_row c = 0 := by
      rcases p3 with ⟨e, _⟩ | ⟨e, _⟩ | ⟨e, _⟩ | ⟨e, _⟩ | ⟨e, a1, a2, a3, a4, _⟩
      · omega
      · omega
      · omega
      · omega
      · exact a4
    have e6 : rd1 (11 * s + 6) = nI (q + w - (t + 1) + 1) := by
      rw [rd1k, if_neg (by omega), r64 rfl]; exact congrArg nI (by omega)
    refine ⟨i6.2.1, i6.2.1, nm_r (e' := upd rd1 (11 * s + 6) (nI (q + w - (t + 1)))) (by rw [c6, e6, nI_pred]) ⟨i6.2.1, ?_⟩⟩
    rw [c6, xr_u, if_pos rfl]
    have kk : ∀ k, k ≠ 6 → k ≠ 2 → upd rd1 (11 * s + 6) (nI (q + w - (t + 1))) (11 * s + k) = a_reader (11 * s + k) := by
      intro k n6 n2
      rw [xr_u, if_neg n6, rd1k, if_neg n2]
    have hbody := xb_body (B := B) (B1 := B1) (y := y) (d := d) (rd0 := a_reader) (a_text := an_f (pm_u tx (200 * s + t) b)) (rd2 := upd rd1 (11 * s + 6) (nI (q + w - (t + 1)))) (post := post) hs hL htL I hph' (by rw [xr_u, if_neg (by omega), rd1k, if_pos rfl]) (by rw [kk 3 (by omega) (by omega)]; exact r3) (by rw [xr_u, if_pos rfl]) (by rw [kk 7 (by omega) (by omega)]; exact r7 (by omega)) (by rw [kk 8 (by omega) (by omega)]; exact r8) (by rw [kk 9 (by omega) (by omega)]; exact r9 hr0) (by rw [kk 10 (by omega) (by omega)]; exact r10)
      (by have := kk 0 (by omega) (by omega); exact this) (xr_O_t rd1O (xr_O_u (by omega))) rch hXD hsk hfrom hB H
    have hqw : q + w ≤ 200 := by
      have hll := pm_lim_le I (pm_at c) (Nat.le_refl _)
      rcases p3 with ⟨e, _⟩ | ⟨e, _⟩ | ⟨e, _⟩ | ⟨e, _⟩ | ⟨e, a1, a2, a3, _⟩
      · omega
      · omega
      · omega
      · omega
      · exact Nat.le_trans a3 (Nat.le_trans hll hL)
    refine pk_eq (q + w - (t + 1)) 0 (fun z => hbody.1 (by omega)) (fun z => hbody.2 (by omega))
  have r45' := r45 (by omega)
  have hXD0 : cr_XD K s a_nodeCount a_nodeTypes a_valueCount a_valueOwners a_values (pm_d c) := by
    unfold cr_D at hXD; rw [if_neg (fun z => e4 z.1)] at hXD; exact hXD
  -- a digit more, and nothing ends
  have hmid : ∀ x, cr_sum B1 c h q (d + 1) = x → d + 1 ≤ 10 → (t + 1 < pm_end c → cr_ph K R (t + 1) c h f q (d + 1) w) → (t + 1 = pm_end c → pm_go B1 K R (t + 1) c h f q (d + 1) w = (4, c)) →
      (∀ T B', t + 1 ≤ T → (∀ i, i < t + 1 → B' i = B1 i) → pm_go B' K R T c h f q d w = pm_go B' K R T c h f q (d + 1) w) →
      wX_readByte_212 post (nI s) 0 f_frameAt f_frameLength f_frameSort f_frameFlags f_frameStream f_down f_entryCount f_most f_typeSeen f_lastSender f_sentLength a_payload a_life a_theyEnded a_weEnded a_finishing a_codes a_windowIn a_windowOut a_headers a_headerCount a_entries a_kinds a_repeats a_messageCount (an_f (pm_u tx (200 * s + t) b)) a_nodeCount a_nodeTypes a_valueCount a_valueOwners a_values a_skippedCount (xr_aD s x d rd1) a_chainNode a_chainEnd a_queue a_queueLength a_sent a_nodeSize a_nodePlace := by
    intro x hx hd hp h4 hgo
    have k := xr_aD_k s x d rd1
    have kk : ∀ j, j ≠ 5 → j ≠ 4 → j ≠ 2 → xr_aD s x d rd1 (11 * s + j) = a_reader (11 * s + j) := by
      intro j n5 n4 n2
      rw [k, if_neg n5, if_neg n4, rd1k, if_neg n2]
    refine xt_mid (B := B1) (y := y) (dep := dep) (c := c) (h := h) (f := f) (q := q) (d := d + 1) (w := w) (mc0 := a_messageCount) (rd0 := a_reader) hs hL I (by omega) hp (by omega) h4 (Or.inr (by omega)) hh hd (fun _ => ⟨by omega, by omega⟩) ⟨?_, ?_, fun _ => ⟨?_, ?_⟩, fun e => ?_, fun e => absurd e e4, fun e => ?_, ?_, fun e => ?_, ?_, rch⟩ ?_ hsk ?_ rfl ?_ (fun code s1 => ?_)
    · rw [k, if_neg (by omega), if_neg (by omega), rd1k, if_pos rfl]
    · rw [kk 3 (by omega) (by omega) (by omega)]; exact r3
    · rw [k, if_neg (by omega), if_pos rfl]; exact hx.symm
    · rw [k, if_pos rfl]
    · rw [kk 6 (by omega) (by omega) (by omega)]; exact r63 e
    · rw [kk 7 (by omega) (by omega) (by omega)]; exact r7 e
    · rw [kk 8 (by omega) (by omega) (by omega)]; exact r8
    · rw [kk 9 (by omega) (by omega) (by omega)]; exact r9 e
    · rw [kk 10 (by omega) (by omega) (by omega)]; exact r10
    · exact hXD
    · refine cr_on hfrom hB (fun T B' hT hB' r hr' => ?_)
      show pm_Rp B' K R T (pm_go B' K R T c h f q d w) r
      rw [hgo T B' hT hB']; exact hr'
    · exact kk 0 (by omega) (by omega) (by omega)
    · exact H code a_messageCount a_nodeCount a_nodeTypes a_valueCount a_valueOwners a_values a_skippedCount _ a_chainNode a_chainEnd ⟨xr_O_r, xr_O_r, xr_O_r, xr_O_r, xr_O_r, xr_O_r, xr_O_r, xr_O_t rd1O (fun j hj => xr_aD_o hj), xr_O_r, xr_O_r, rfl⟩ s1
  have rd15 : rd1 (11 * s + 5) = nI d := by rw [rd1k, if_neg (by omega)]; exact r45'.2
  have rd14 : rd1 (11 * s + 4) = cr_sum B c h q d := by rw [rd1k, if_neg (by omega)]; exact r45'.1
  refine pk_eq h 3 (fun e3 => ?_) (fun e3 => ?_)
  · subst e3
    have hp3 : t = q + d ∧ d < w ∧ w ≤ 8 ∧ pm_pos c ≤ q ∧ (f ≠ 0 → w = 4 ∧ K (pm_fj c f) = 3) ∧ (pm_row c ≠ 0 → f = pm_fld c) := by
      rcases p3 with ⟨e, _⟩ | ⟨e, _⟩ | ⟨e, _⟩ | ⟨e, a⟩ | ⟨e, _⟩
      · omega
      · omega
      · omega
      · exact a
      · omega
    obtain ⟨t1, t2, t3, t4, t5, t6⟩ := hp3
    have esum : cr_sum B c 3 q d = pm_fs B1 q d := by
      unfold cr_sum
      rw [if_neg (by omega), if_pos rfl]
      exact (pm_fs_g d (fun i hi => hB _ (by omega))).symm
    refine xw_aD (b := 8) (w := b) (x := cr_sum B c 3 q d) (y := pm_fs B1 q (d + 1)) hs rd15 (by omega) (by omega) rd14 ?_ ?_
    · rw [esum, pm_fs]
      have hbb : B1 (q + d) = b := by rw [← t1]; exact hb1
      rw [hbb]
      by_cases z : d < 4
      · rw [if_pos z, if_pos (by omega)]; rfl
      · rw [if_neg z, if_neg (by omega)]
    have k := xr_aD_k s (pm_fs B1 q (d + 1)) d rd1
    have kk : ∀ j, j ≠ 5 → j ≠ 4 → j ≠ 2 → xr_aD s (pm_fs B1 q (d + 1)) d rd1 (11 * s + j) = a_reader (11 * s + j) := by
      intro j n5 n4 n2
      rw [k, if_neg n5, if_neg n4, rd1k, if_neg n2]
    dsimp only
    rw [c5, c6, k, if_pos rfl, kk 6 (by omega) (by omega) (by omega), r63 rfl]
    refine ⟨i5.2.1, i6.2.1, pk_eq (d + 1) w (fun z => ?_) (fun z => ?_)⟩
    · refine xb_num (B := B) (B1 := B1) (y := y) (h := 3) (f := f) (x := pm_fs B1 q (d + 1)) (rd0 := a_reader) (rd2 := xr_aD s (pm_fs B1 q (d + 1)) d rd1) (g := fun B' T => pm_go B' K R T c 3 f q d w) hs hL I hK (fun g => ⟨p2, by have := (t5 g).2; omega, by have := (t5 g).2; omega⟩) (fun g => ⟨t6 g, ?_⟩) ?_ ?_ ?_ (fun g0 _ => ?_) ?_ ?_ (fun g => ?_) ?_ ?_ (xr_O_t rd1O (fun j hj => xr_aD_o hj)) rch hXD0 hsk (by omega) (by omega) hfrom hB (fun T B' hT hB' => ?_) H
      · have hf0 : f ≠ 0 := by
          have h1 := t6 g
          have h2 := (I.2.2.2.2.2.2.2 g).2.1
          omega
        rw [if_pos (t5 hf0).2]
      · rw [k, if_neg (by omega), if_neg (by omega), rd1k, if_pos rfl]
      · rw [kk 3 (by omega) (by omega) (by omega)]; exact r3
      · rw [k, if_neg (by omega), if_pos rfl]
      · rw [kk 6 (by omega) (by omega) (by omega), r63 rfl]
        rw [(t5 g0).1]
      · rw [kk 7 (by omega) (by omega) (by omega)]; exact r7 (by omega)
      · rw [kk 8 (by omega) (by omega) (by omega)]; exact r8
      · rw [kk 9 (by omega) (by omega) (by omega)]; exact r9 g
      · rw [kk 10 (by omega) (by omega) (by omega)]; exact r10
      · exact kk 0 (by omega) (by omega) (by omega)
      · show pm_go B' K R T c 3 f q d w = _
        have e : pm_go B' K R T c 3 f q d w = pm_goF B' R T c f q w := rfl
        rw [e, pm_goF_d (by omega) (by omega), show q + w = t + 1 by omega]
        by_cases g0 : f = 0
        · unfold pm_fin; rw [if_pos g0, if_pos g0]
        · obtain ⟨w4, k3⟩ := t5 g0
          unfold pm_val
          rw [if_neg (by omega), show d + 1 = 4 by omega, pm_fs_g (B' := B') (B := B1) 4 (fun i hi => hB' _ (by omega))]
    · refine hmid _ ?_ (by omega) (fun g => ⟨g, p2, Or.inr (Or.inr (Or.inr (Or.inl ⟨rfl, by omega, by omega, t3, t4, t5, t6⟩)))⟩) (fun g => ?_) (fun T B' _ _ => rfl)
      · unfold cr_sum; rw [if_neg (by omega), if_pos rfl]
      · exact pm_goF_e (by omega) (by omega)
  · have hh2 : h ≤ 2 := by omega
    -- where the digits begin
    have hst : ∃ st, t = st + d ∧ d < 10 ∧ (h = 0 → st = pm_pos c) ∧ (h ≠ 0 → st = q) := by
      rcases p3 with ⟨e, a1, a2, _⟩ | ⟨e, a1, a2, _⟩ | ⟨e, a1, a2, _⟩ | ⟨e, _⟩ | ⟨e, _⟩
      · exact ⟨pm_pos c, a1, a2, fun _ => rfl, fun z => absurd e z⟩
      · exact ⟨q, a1, a2, fun z => by omega, fun _ => rfl⟩
      · exact ⟨q, a1, a2, fun z => by omega, fun _ => rfl⟩
      · omega
      · omega
    obtain ⟨st, t1, t2, t3, t4⟩ := hst
    have hsum : ∀ (BB : Nat → Nat) k, cr_sum BB c h q k = pm_vs BB st k := by
      intro BB k
      unfold cr_sum
      by_cases z : h = 0
      · rw [if_pos z, t3 z]
      · rw [if_neg z, if_neg e3, t4 z]
    have esum : cr_sum B c h q d = pm_vs B1 st d := by
      rw [hsum]
      exact (pm_vs_g d (fun i hi => hB _ (by omega))).symm
    have e127 : nI b &&& 127 = nI (b % 128) := pk_andN (by omega) 7 (by decide)
    rw [e127]
    refine xw_aD (b := 7) (w := b % 128) (x := cr_sum B c h q d) (y := pm_vs B1 st (d + 1)) hs rd15 t2 (by omega) rd14 ?_ ?_
    · rw [esum, pm_vs]
      have hbb : B1 (st + d) = b := by rw [← t1]; exact hb1
      rw [hbb, e127]
      by_cases z : d < 5
      · rw [if_pos z, if_pos (by omega)]; rfl
      · rw [if_neg z, if_neg (by omega)]
    have k := xr_aD_k s (pm_vs B1 st (d + 1)) d rd1
    have kk : ∀ j, j ≠ 5 → j ≠ 4 → j ≠ 2 → xr_aD s (pm_vs B1 st (d + 1)) d rd1 (11 * s + j) = a_reader (11 * s + j) := by
      intro j n5 n4 n2
      rw [k, if_neg n5, if_neg n4, rd1k, if_neg n2]
    have q2 : xr_aD s (pm_vs B1 st (d + 1)) d rd1 (11 * s + 2) = nI (t + 1) := by
      rw [k, if_neg (by omega), if_neg (by omega), rd1k, if_pos rfl]
    have q4 : xr_aD s (pm_vs B1 st (d + 1)) d rd1 (11 * s + 4) = pm_vs B1 st (d + 1) := by
      rw [k, if_neg (by omega), if_pos rfl]
    have q8 : xr_aD s (pm_vs B1 st (d + 1)) d rd1 (11 * s + 8) = nI (pm_row c) := by
      rw [kk 8 (by omega) (by omega) (by omega)]; exact r8
    have q10 : xr_aD s (pm_vs B1 st (d + 1)) d rd1 (11 * s + 10) = nI (pm_at c) := by
      rw [kk 10 (by omega) (by omega) (by omega)]; exact r10
    have q0 : xr_aD s (pm_vs B1 st (d + 1)) d rd1 (11 * s) = a_reader (11 * s) := kk 0 (by omega) (by omega) (by omega)
    have qO : xr_O 11 s a_reader (xr_aD s (pm_vs B1 st (d + 1)) d rd1) := xr_O_t rd1O (fun j hj => xr_aD_o hj)
    dsimp only
    refine pk_le b 127 (fun z => ?_) (fun z => ?_)
    · refine pk_eq h 0 (fun eh => ?_) (fun eh => ?_)
      · subst eh
        have hr0 : pm_row c = 0 := by
          rcases p3 with ⟨e, a1, a2, a3⟩ | ⟨e, _⟩ | ⟨e, _⟩ | ⟨e, _⟩ | ⟨e, _⟩
          · exact a3
          · omega
          · omega
          · omega
          · omega
        have est := t3 rfl
        exact xb_tag (B := B) (B1 := B1) (y := y) (d := d) (rd0 := a_reader) hs hL I hK hr0 (by omega) (by omega) t2 (by omega) q2 q4 (by rw [est]) q8 (by rw [kk 9 (by omega) (by omega) (by omega)]; exact r9 hr0) q10 q0 qO rch hXD0 hsk hfrom hB H
      · refine pk_eq h 1 (fun eh1 => ?_) (fun eh1 => ?_)
        · subst eh1
          have hp1 : pm_row c = 0 ∧ pm_pos c < q ∧ (f ≠ 0 → K (pm_fj c f) ≠ 0 ∧ (K (pm_fj c f) ≤ 3 → R (pm_fj c f) = true)) := by
            rcases p3 with ⟨e, _⟩ | ⟨e, a1, a2, a3, a4, a5⟩ | ⟨e, _⟩ | ⟨e, _⟩ | ⟨e, _⟩
            · omega
            · exact ⟨a3, a4, a5⟩
            · omega
            · omega
            · omega
          obtain ⟨hr0, h5, h6⟩ := hp1
          have est := t4 (by omega)
          have he : pm_end c = pm_lim c (pm_at c) := by unfold pm_end; exact if_pos hr0
          refine xb_len (B := B) (B1 := B1) (y := y) (f := f) (rd0 := a_reader) (g := fun B' T => pm_go B' K R T c 1 f q d w) hs hL I hK hr0 (by omega) (by omega) p2 h6 q2 q4 (by rw [kk 7 (by omega) (by omega) (by omega)]; exact r7 (by omega)) q8 (by rw [kk 9 (by omega) (by omega) (by omega)]; exact r9 hr0) q10 q0 qO rch hXD0 hsk hfrom hB (fun T B' hT hB' => ?_) H
          show pm_go B' K R T c 1 f q d w = _
          have e : pm_go B' K R T c 1 f q d w = pm_goL B' K R T c f q d := rfl
          have hbt : B' (q + d) < 128 := by
            rw [hB' _ (by omega), show q + d = t by omega, hb1]; omega
          rw [e, pm_goL_d t2 (by omega) (by omega) hbt, est, pm_vs_g (B' := B') (B := B1) (d + 1) (fun i hi => hB' _ (by omega)), show q + (d + 1) = t + 1 by omega]
        · have eh2 : h = 2 := by omega
          subst eh2
          have hp2 : pm_pos c ≤ q ∧ (f ≠ 0 → 1 ≤ K (pm_fj c f) ∧ K (pm_fj c f) ≤ 2) ∧ (pm_row c ≠ 0 → f = pm_fld c) := by
            rcases p3 with ⟨e, _⟩ | ⟨e, _⟩ | ⟨e, a1, a2, a3, a4, a5⟩ | ⟨e, _⟩ | ⟨e, _⟩
            · omega
            · omega
            · exact ⟨a3, a4, a5⟩
            · omega
            · omega
          obtain ⟨h4, h5, h6⟩ := hp2
          have est := t4 (by omega)
          refine xb_num (B := B) (B1 := B1) (y := y) (h := 2) (f := f) (rd0 := a_reader) (g := fun B' T => pm_go B' K R T c 2 f q d w) hs hL I hK (fun g => ⟨p2, (h5 g).1, by have := (h5 g).2; omega⟩) (fun g => ⟨h6 g, ?_⟩) q2 (by rw [kk 3 (by omega) (by omega) (by omega)]; exact r3) q4 (fun g g3 => ?_) (by rw [kk 7 (by omega) (by omega) (by omega)]; exact r7 (by omega)) q8 (fun g => by rw [kk 9 (by omega) (by omega) (by omega)]; exact r9 g) q10 q0 qO rch hXD0 hsk (by omega) (by omega) hfrom hB (fun T B' hT hB' => ?_) H
          · have hf0 : f ≠ 0 := by
              have h1 := h6 g
              have h2 := (I.2.2.2.2.2.2.2 g).2.1
              omega
            rw [if_neg (by have := (h5 hf0).2; omega)]
          · have := (h5 g).2
            omega
          · show pm_go B' K R T c 2 f q d w = _
            have e : pm_go B' K R T c 2 f q d w = pm_goV B' K R T c f q d := rfl
            have hbt : B' (q + d) < 128 := by
              rw [hB' _ (by omega), show q + d = t by omega, hb1]; omega
            rw [e, pm_goV_d t2 (by omega) (by omega) hbt, est, pm_vs_g (B' := B') (B := B1) (d + 1) (fun i hi => hB' _ (by omega)), show q + (d + 1) = t + 1 by omega]
    · -- a digit that goes on
      have hstep : ∀ T B', t + 1 ≤ T → (∀ i, i < t + 1 → B' i = B1 i) → pm_go B' K R T c h f q d w = pm_go B' K R T c h f q (d + 1) w := by
        intro T B' hT hB'
        have hbt : ¬ B' (st + d) < 128 := by
          rw [hB' _ (by omega), ← t1, hb1]; omega
        rcases (show h = 0 ∨ h = 1 ∨ h = 2 by omega) with e | e | e
        · subst e
          have hr0 : pm_row c = 0 := by
            rcases p3 with ⟨e, a1, a2, a3⟩ | ⟨e, _⟩ | ⟨e, _⟩ | ⟨e, _⟩ | ⟨e, _⟩
            · exact a3
            · omega
            · omega
            · omega
            · omega
          have he : pm_end c = pm_lim c (pm_at c) := by unfold pm_end; exact if_pos hr0
          have est := t3 rfl
          rw [est] at hbt
          exact pm_goT_c t2 (by omega) (by omega) hbt
        · subst e
          have hr0 : pm_row c = 0 := by
            rcases p3 with ⟨e, _⟩ | ⟨e, a1, a2, a3, _⟩ | ⟨e, _⟩ | ⟨e, _⟩ | ⟨e, _⟩
            · omega
            · exact a3
            · omega
            · omega
            · omega
          have he : pm_end c = pm_lim c (pm_at c) := by unfold pm_end; exact if_pos hr0
          have est := t4 (by omega)
          rw [est] at hbt
          exact pm_goL_c t2 (by omega) (by omega) hbt
        · subst e
          have est := t4 (by omega)
          rw [est] at hbt
          exact pm_goV_c t2 (by omega) (by omega) hbt
      rw [c5, k, if_pos rfl]
      refine ⟨i5.2.1, pk_eq (d + 1) 10 (fun z10 => ?_) (fun z10 => ?_)⟩
      · -- too long
        have h3e : ∀ T B', t + 1 ≤ T → (∀ i, i < t + 1 → B' i = B1 i) → pm_go B' K R T c h f q d w = (3, c) := by
          intro T B' hT hB'
          rw [hstep T B' hT hB', z10]
          rcases (show h = 0 ∨ h = 1 ∨ h = 2 by omega) with e | e | e
          · subst e; rfl
          · subst e; rfl
          · subst e; rfl
        unfold wX_readByte_169 wX_readByte_212
        refine br_f (by decide) (H 3 a_messageCount a_nodeCount a_nodeTypes a_valueCount a_valueOwners a_values a_skippedCount _ a_chainNode a_chainEnd ⟨xr_O_r, xr_O_r, xr_O_r, xr_O_r, xr_O_r, xr_O_r, xr_O_r, qO, xr_O_r, xr_O_r, rfl⟩ (Or.inl ⟨by omega, by omega, rfl, q0, (3, c), hfrom (t + 1) B1 (by omega) hB _ ?_, rfl⟩))
        show pm_Rp B1 K R (t + 1) (pm_go B1 K R (t + 1) c h f q d w) (3, c)
        rw [h3e (t + 1) B1 (Nat.le_refl _) (fun _ _ => rfl)]
        exact Or.inr ⟨show (3 : Nat) ≠ 0 by omega, rfl⟩
      · unfold wX_readByte_169
        refine hmid _ (hsum B1 (d + 1)) (by omega) (fun g => ⟨g, p2, ?_⟩) (fun g => ?_) hstep
        · rcases p3 with ⟨e, a1, a2, a3⟩ | ⟨e, a1, a2, a3, a4, a5⟩ | ⟨e, a1, a2, a3, a4, a5⟩ | ⟨e, _⟩ | ⟨e, _⟩
          · exact Or.inl ⟨e, by omega, by omega, a3⟩
          · exact Or.inr (Or.inl ⟨e, by omega, by omega, a3, a4, a5⟩)
          · exact Or.inr (Or.inr (Or.inl ⟨e, by omega, by omega, a3, a4, a5⟩))
          · omega
          · omega
        · rcases p3 with ⟨e, a1, a2, a3⟩ | ⟨e, a1, a2, a3, a4, a5⟩ | ⟨e, a1, a2, a3, a4, a5⟩ | ⟨e, _⟩ | ⟨e, _⟩
          · have he : pm_end c = pm_lim c (pm_at c) := by unfold pm_end; exact if_pos a3
            subst e; exact pm_goT_e (by omega) (by omega)
          · have he : pm_end c = pm_lim c (pm_at c) := by unfold pm_end; exact if_pos a3
            subst e; exact pm_goL_e (by omega) (by omega)
          · subst e; exact pm_goV_e (by omega) (by omega)
          · omega
          · omega
end
end
section
/-! S11: the bytes before a message -/
section
variable {f_frameAt f_frameLength f_frameSort f_frameFlags f_frameStream f_down f_entryCount f_most f_typeSeen f_lastSender f_sentLength : Int32} {a_payload a_life a_theyEnded a_weEnded a_finishing a_codes a_windowIn a_windowOut a_headers a_headerCount a_entries a_kinds a_repeats a_messageCount a_text a_nodeCount a_nodeTypes a_valueCount a_valueOwners a_values a_skippedCount a_reader a_chainNode a_chainEnd a_queue a_queueLength a_sent a_nodeSize a_nodePlace : Nat → Int32} {B : Nat → Nat} {K : Nat → Nat} {R : Nat → Bool} {L y b s x : Nat}
theorem cr_from0 : cr_from K R y L 0 B (fun _ _ => (0, cr_0 y L)) := by
  intro T B' _ _ r hr
  rcases hr with ⟨_, w⟩ | ⟨w, _⟩
  · exact w
  · exact absurd rfl w
theorem xp_1 {post : Int32 → SX → Prop} (hs : s < 8) (hb : b < 256) (h0 : a_reader (11 * s) = nI 0) (H7 : b ≠ 0 → post 7 (f_frameAt, f_frameLength, f_frameSort, f_frameFlags, f_frameStream, f_down, f_entryCount, f_most, f_typeSeen, f_lastSender, f_sentLength, a_payload, a_life, a_theyEnded, a_weEnded, a_finishing, a_codes, a_windowIn, a_windowOut, a_headers, a_headerCount, a_entries, a_kinds, a_repeats, a_messageCount, a_text, a_nodeCount, a_nodeTypes, a_valueCount, a_valueOwners, a_values, a_skippedCount, upd a_reader (11 * s) (nI 1), a_chainNode, a_chainEnd, a_queue, a_queueLength, a_sent, a_nodeSize, a_nodePlace)) (H0 : b = 0 → post 0 (f_frameAt, f_frameLength, f_frameSort, f_frameFlags, f_frameStream, f_down, f_entryCount, f_most, f_typeSeen, f_lastSender, f_sentLength, a_payload, a_life, a_theyEnded, a_weEnded, a_finishing, a_codes, a_windowIn, a_windowOut, a_headers, a_headerCount, a_entries, a_kinds, a_repeats, a_messageCount, a_text, a_nodeCount, a_nodeTypes, a_valueCount, a_valueOwners, a_values, a_skippedCount, upd a_reader (11 * s) (nI 1), a_chainNode, a_chainEnd, a_queue, a_queueLength, a_sent, a_nodeSize, a_nodePlace)) :
    wpX_readPrefix post (f_frameAt, f_frameLength, f_frameSort, f_frameFlags, f_frameStream, f_down, f_entryCount, f_most, f_typeSeen, f_lastSender, f_sentLength, a_payload, a_life, a_theyEnded, a_weEnded, a_finishing, a_codes, a_windowIn, a_windowOut, a_headers, a_headerCount, a_entries, a_kinds, a_repeats, a_messageCount, a_text, a_nodeCount, a_nodeTypes, a_valueCount, a_valueOwners, a_values, a_skippedCount, a_reader, a_chainNode, a_chainEnd, a_queue, a_queueLength, a_sent, a_nodeSize, a_nodePlace) (nI s) (nI b) := by
  have i0 := xr_ix (s := s) (k := 0) hs (by omega)
  have c0 : (nI (11 * s) + 0).toNatClampNeg = 11 * s := i0.2.2
  unfold wpX_readPrefix
  dsimp only
  refine nm_r i0.1 ⟨i0.2.1, i0.2.1, nm_r (e' := upd a_reader (11 * s) (nI 1)) (by rw [c0, h0]; rfl) ⟨i0.2.1, ?_⟩⟩
  rw [c0, pm_upd_eq, if_pos rfl]
  exact br_t rfl (pk_eq b 0 (fun z => H0 z) (fun z => H7 z))
theorem xp_2 {post : Int32 → SX → Prop} (hs : s < 8) (hb : b < 256) (h0 : a_reader (11 * s) = nI 1) (H0 : post 0 (f_frameAt, f_frameLength, f_frameSort, f_frameFlags, f_frameStream, f_down, f_entryCount, f_most, f_typeSeen, f_lastSender, f_sentLength, a_payload, a_life, a_theyEnded, a_weEnded, a_finishing, a_codes, a_windowIn, a_windowOut, a_headers, a_headerCount, a_entries, a_kinds, a_repeats, a_messageCount, a_text, a_nodeCount, a_nodeTypes, a_valueCount, a_valueOwners, a_values, a_skippedCount, upd (upd a_reader (11 * s) (nI 2)) (11 * s + 1) (nI (256 * b)), a_chainNode, a_chainEnd, a_queue, a_queueLength, a_sent, a_nodeSize, a_nodePlace)) :
    wpX_readPrefix post (f_frameAt, f_frameLength, f_frameSort, f_frameFlags, f_frameStream, f_down, f_entryCount, f_most, f_typeSeen, f_lastSender, f_sentLength, a_payload, a_life, a_theyEnded, a_weEnded, a_finishing, a_codes, a_windowIn, a_windowOut, a_headers, a_headerCount, a_entries, a_kinds, a_repeats, a_messageCount, a_text, a_nodeCount, a_nodeTypes, a_valueCount, a_valueOwners, a_values, a_skippedCount, a_reader, a_chainNode, a_chainEnd, a_queue, a_queueLength, a_sent, a_nodeSize, a_nodePlace) (nI s) (nI b) := by
  have i0 := xr_ix (s := s) (k := 0) hs (by omega)
  have i1 := xr_ix (s := s) (k := 1) hs (by omega)
  have c0 : (nI (11 * s) + 0).toNatClampNeg = 11 * s := i0.2.2
  have c1 : (nI (11 * s) + 1).toNatClampNeg = 11 * s + 1 := i1.2.2
  unfold wpX_readPrefix
  dsimp only
  refine nm_r i0.1 ⟨i0.2.1, i0.2.1, nm_r (e' := upd a_reader (11 * s) (nI 2)) (by rw [c0, h0]; rfl) ⟨i0.2.1, ?_⟩⟩
  rw [c0, pm_upd_eq, if_pos rfl]
  refine br_f (by decide) ⟨i0.2.1, br_t rfl ⟨i1.2.1, nm_r ?_ H0⟩⟩
  rw [c1, show (256 : Int32) = nI 256 from rfl, pk_mul, Nat.mul_comm b 256]
theorem xp_3 {post : Int32 → SX → Prop} (hs : s < 8) (hb : b < 256) (hx : x < 256) (hy : y < 4) (h0 : a_reader (11 * s) = nI 2) (h1 : a_reader (11 * s + 1) = nI (256 * x)) (hL : L = 256 * x + b) (hty : a_nodeTypes (16 * s) = nI y)
    (H8 : 200 < L → post 8 (f_frameAt, f_frameLength, f_frameSort, f_frameFlags, f_frameStream, f_down, f_entryCount, f_most, f_typeSeen, f_lastSender, f_sentLength, a_payload, a_life, a_theyEnded, a_weEnded, a_finishing, a_codes, a_windowIn, a_windowOut, a_headers, a_headerCount, a_entries, a_kinds, a_repeats, a_messageCount, a_text, a_nodeCount, a_nodeTypes, a_valueCount, a_valueOwners, a_values, a_skippedCount, upd (upd a_reader (11 * s) (nI 3)) (11 * s + 1) (nI L), a_chainNode, a_chainEnd, a_queue, a_queueLength, a_sent, a_nodeSize, a_nodePlace))
    (H0 : L ≤ 200 → ∀ mc' nc' vc' sk' rd' cn' ce', xr_O 1 s a_messageCount mc' → xr_O 1 s a_nodeCount nc' → xr_O 1 s a_valueCount vc' → xr_O 1 s a_skippedCount sk' → xr_O 11 s a_reader rd' → xr_O 4 s a_chainNode cn' → xr_O 4 s a_chainEnd ce' →
      xr_sp K R s y L 0 B a_messageCount (upd (upd a_reader (11 * s) (nI 3)) (11 * s + 1) (nI L)) 0 mc' nc' a_nodeTypes vc' a_valueOwners a_values sk' rd' cn' ce' →
      post 0 (f_frameAt, f_frameLength, f_frameSort, f_frameFlags, f_frameStream, f_down, f_entryCount, f_most, f_typeSeen, f_lastSender, f_sentLength, a_payload, a_life, a_theyEnded, a_weEnded, a_finishing, a_codes, a_windowIn, a_windowOut, a_headers, a_headerCount, a_entries, a_kinds, a_repeats, mc', a_text, nc', a_nodeTypes, vc', a_valueOwners, a_values, sk', rd', cn', ce', a_queue, a_queueLength, a_sent, a_nodeSize, a_nodePlace)) :
    wpX_readPrefix post (f_frameAt, f_frameLength, f_frameSort, f_frameFlags, f_frameStream, f_down, f_entryCount, f_most, f_typeSeen, f_lastSender, f_sentLength, a_payload, a_life, a_theyEnded, a_weEnded, a_finishing, a_codes, a_windowIn, a_windowOut, a_headers, a_headerCount, a_entries, a_kinds, a_repeats, a_messageCount, a_text, a_nodeCount, a_nodeTypes, a_valueCount, a_valueOwners, a_values, a_skippedCount, a_reader, a_chainNode, a_chainEnd, a_queue, a_queueLength, a_sent, a_nodeSize, a_nodePlace) (nI s) (nI b) := by
  have i0 := xr_ix (s := s) (k := 0) hs (by omega)
  have i1 := xr_ix (s := s) (k := 1) hs (by omega)
  have i2 := xr_ix (s := s) (k := 2) hs (by omega)
  have i10 := xr_ix (s := s) (k := 10) hs (by omega)
  have c0 : (nI (11 * s) + 0).toNatClampNeg = 11 * s := i0.2.2
  have c1 : (nI (11 * s) + 1).toNatClampNeg = 11 * s + 1 := i1.2.2
  have c2 : (nI (11 * s) + 2).toNatClampNeg = 11 * s + 2 := i2.2.2
  have c10 : (nI (11 * s) + 10).toNatClampNeg = 11 * s + 10 := i10.2.2
  obtain ⟨g1, g2⟩ := xr_c8 hs
  have c4 := xr_c4 (s := s) (a := 0) hs (by omega)
  have e4 : nI s * 4 = nI (4 * s) := by
    rw [show (4 : Int32) = nI 4 from rfl, pk_mul, Nat.mul_comm]
  have in4 : vp_in (nI (4 * s)) 32 := vp_in_nI (by omega) (by omega)
  have cl4 : (nI (4 * s)).toNatClampNeg = 4 * s := nI_clamp (by omega)
  have hu0 : ∀ (f : Nat → Int32) (v : Int32) k, k ≠ 0 → upd f (11 * s) v (11 * s + k) = f (11 * s + k) := by
    intro f v k hk
    rw [pm_upd_eq, if_neg (by omega)]
  unfold wpX_readPrefix
  dsimp only
  refine nm_r i0.1 ⟨i0.2.1, i0.2.1, nm_r (e' := upd a_reader (11 * s) (nI 3)) (by rw [c0, h0]; rfl) ⟨i0.2.1, ?_⟩⟩
  rw [c0, pm_upd_eq, if_pos rfl]
  refine br_f (by decide) ⟨i0.2.1, br_f (by decide) ⟨i1.2.1, i1.2.1, nm_r (e' := upd (upd a_reader (11 * s) (nI 3)) (11 * s + 1) (nI L)) (by rw [c1, hu0 _ _ 1 (by omega), h1, nI_add, hL]) ⟨i1.2.1, ?_⟩⟩⟩
  rw [c1, xr_u, if_pos rfl]
  generalize hrd : upd (upd a_reader (11 * s) (nI 3)) (11 * s + 1) (nI L) = rd1 at *
  have rd11 : rd1 (11 * s + 1) = nI L := by rw [← hrd, xr_u, if_pos rfl]
  have rdO : xr_O 11 s a_reader rd1 := by
    rw [← hrd]; exact xr_O_t (xr_O_u (i := 0) (by omega)) (xr_O_u (by omega))
  refine pk_le L 200 (fun z => ?_) (fun z => H8 z)
  unfold wpX_beginMessage
  refine nm_r i0.1 ⟨i2.2.1, nm_r (e' := upd rd1 (11 * s + 2) (nI 0)) (congrArg (fun j => upd rd1 j 0) c2) ⟨i10.2.1, nm_r (e' := upd (upd rd1 (11 * s + 2) (nI 0)) (11 * s + 10) (nI 0)) (congrArg (fun j => upd (upd rd1 (11 * s + 2) (nI 0)) j 0) c10) ?_⟩⟩
  rw [e4, cl4, c1, g2]
  refine ⟨in4, nm_e ⟨i1.2.1, in4, nm_r (e' := upd a_chainEnd (4 * s) (nI L)) (by rw [xr_u, if_neg (by omega), xr_u, if_neg (by omega), rd11]) ⟨g1, nm_e ⟨g1, nm_e ⟨g1, nm_e (xw_bE hs ?_)⟩⟩⟩⟩⟩
  have hrdk : ∀ k, k ≠ 9 → k ≠ 8 → k ≠ 5 → k ≠ 4 → k ≠ 3 → xr_bE s (upd (upd rd1 (11 * s + 2) (nI 0)) (11 * s + 10) (nI 0)) (11 * s + k) = if k = 10 then nI 0 else if k = 2 then nI 0 else rd1 (11 * s + k) := by
    intro k n9 n8 n5 n4 n3
    rw [xr_bE_k, if_neg n9, if_neg (fun w => w.elim n8 (fun w => w.elim n5 (fun w => w.elim n4 n3))), xr_u, xr_u]
  have hchE : ∀ i, i ≤ pm_at (cr_0 y L) → upd a_chainNode (4 * s) 0 (4 * s + i) = nI (pm_ins (cr_0 y L) i) ∧ upd a_chainEnd (4 * s) (nI L) (4 * s + i) = nI (pm_lim (cr_0 y L) i) := by
    intro i hi
    have : i = 0 := by
      have : i ≤ 0 := hi
      omega
    subst this
    exact ⟨by rw [pm_upd_eq, if_pos (show 4 * s + 0 = 4 * s by omega)]; rfl, by rw [pm_upd_eq, if_pos (show 4 * s + 0 = 4 * s by omega)]; rfl⟩
  have hF : xr_fresh s 0 (cr_0 y L) (xr_bE s (upd (upd rd1 (11 * s + 2) (nI 0)) (11 * s + 10) (nI 0))) (upd a_chainNode (4 * s) 0) (upd a_chainEnd (4 * s) (nI L)) := by
    refine xb_fresh (c := cr_0 y L) rfl rfl rfl ?_ ?_ hchE
    · rw [xr_u, if_neg (by omega), xr_u, if_pos rfl]
    · rw [xr_u, if_pos rfl]; rfl
  have hXD : cr_XD K s (upd a_nodeCount s 1) a_nodeTypes (upd a_valueCount s 0) a_valueOwners a_values (pm_d (cr_0 y L)) := by
    refine ⟨by rw [pm_upd_eq, if_pos rfl]; rfl, by rw [pm_upd_eq, if_pos rfl]; rfl, fun i hi => ?_, fun j hj => absurd hj (Nat.not_lt_zero _)⟩
    have : i = 0 := by
      have : i < 1 := hi
      omega
    subst this
    exact hty
  have hsk : upd a_skippedCount s 0 s = nI (pm_sk (cr_0 y L)) := by rw [pm_upd_eq, if_pos rfl]; rfl
  have r00 : xr_bE s (upd (upd rd1 (11 * s + 2) (nI 0)) (11 * s + 10) (nI 0)) (11 * s) = rd1 (11 * s) := by
    rw [xb_0, xb_u0 (by omega), xb_u0 (by omega)]
  have rOO : xr_O 11 s a_reader (xr_bE s (upd (upd rd1 (11 * s + 2) (nI 0)) (11 * s + 10) (nI 0))) := xr_O_t rdO (xr_O_t (xr_O_u (by omega)) (xr_O_t (xr_O_u (by omega)) (fun j hj => xr_bE_o hj)))
  have o4 : ∀ (f : Nat → Int32) (v : Int32), xr_O 4 s f (upd f (4 * s) v) := fun f v => xr_O_u (i := 0) (by omega)
  obtain ⟨f2, f3, f4, f5, f8, f9, f10, fch⟩ := hF
  dsimp only
  refine xw_el (K := K) (R := R) (L := L) (dep := fun _ => 0) (c := cr_0 y L) (t := 0) hs (cr_0_I hy) z rfl rfl f2 f3 f5 f8 f10 (fun i hi => (hchE i hi).2) (fun w => ?_) (fun w => ?_)
  · exact H0 z _ _ _ _ _ _ _ xr_O_r xr_O_1 xr_O_1 xr_O_1 (xr_O_t rOO (xr_O_u (by omega))) (o4 _ _) (o4 _ _) (xt_f1 (c := cr_0 y L) (cr_0_I hy) rfl rfl ⟨f2, f3, f4, f5, f8, f9, f10, fch⟩ hXD hsk cr_from0 r00 w)
  · exact H0 z _ _ _ _ _ _ _ xr_O_1 xr_O_1 xr_O_1 xr_O_1 (xr_O_t rOO (xr_O_t (xr_O_u (by omega)) (xr_O_u (i := 0) (by omega)))) (o4 _ _) (o4 _ _) (xt_f2 (c := cr_0 y L) (cr_0_I hy) rfl rfl hXD hsk cr_from0 w)
end
end
section
/-! S12: the other streams -/
section
variable {K : Nat → Nat} {R : Nat → Bool} {s s' k : Nat} {D : pm_D} {mc nc nt vc vo va sk rd cn ce mc' nc' nt' vc' vo' va' sk' rd' cn' ce' : Nat → Int32}
theorem xr_O1 {f f' : Nat → Int32} (h : xr_O 1 s f f') (hne : s' ≠ s) : f' s' = f s' := h s' (by omega)
theorem xr_O4 {f f' : Nat → Int32} (h : xr_O 4 s f f') (hne : s' ≠ s) {i : Nat} (hi : i < 4) : f' (4 * s' + i) = f (4 * s' + i) := h _ (by omega)
theorem xr_O11 {f f' : Nat → Int32} (h : xr_O 11 s f f') (hne : s' ≠ s) {i : Nat} (hi : i < 11) : f' (11 * s' + i) = f (11 * s' + i) := h _ (by omega)
theorem xr_O16 {f f' : Nat → Int32} (h : xr_O 16 s f f') (hne : s' ≠ s) {i : Nat} (hi : i < 16) : f' (16 * s' + i) = f (16 * s' + i) := h _ (by omega)
theorem xr_O48 {f f' : Nat → Int32} (h : xr_O 48 s f f') (hne : s' ≠ s) {i : Nat} (hi : i < 48) : f' (48 * s' + i) = f (48 * s' + i) := h _ (by omega)
theorem cr_XD_fr (hne : s' ≠ s) (hF : xr_fr s mc nc nt vc vo va sk rd cn ce mc' nc' nt' vc' vo' va' sk' rd' cn' ce') (hn : pm_nn D ≤ 16) (hv : pm_nv D ≤ 48) (h : cr_XD K s' nc nt vc vo va D) : cr_XD K s' nc' nt' vc' vo' va' D := by
  obtain ⟨f1, f2, f3, f4, f5, f6, f7, f8, f9, f10, f11⟩ := hF
  obtain ⟨x1, x2, x3, x4⟩ := h
  refine ⟨(xr_O1 f2 hne).trans x1, (xr_O1 f4 hne).trans x2, fun i hi => (xr_O16 f3 hne (by omega)).trans (x3 i hi), fun j hj => ⟨(xr_O48 f5 hne (by omega)).trans (x4 j hj).1, (xr_O48 f6 hne (by omega)).trans (x4 j hj).2⟩⟩
theorem cr_D_le {L t h f q d w : Nat} {dep : Nat → Nat} {c : pm_C} (I : pm_CI K R L dep c) (hp : cr_ph K R t c h f q d w) : pm_nn (cr_D R c h f q w) ≤ 16 ∧ pm_nv (cr_D R c h f q w) ≤ 48 := by
  have hnn := I.1.2.1
  have hnv := I.1.2.2.1
  unfold cr_D
  split
  · rename_i z
    refine ⟨hnn, ?_⟩
    rw [pm_kp_nv]
    have hle := pm_pl_le (R := R) (D := pm_d c) (pm_nd c) f
    have h48 : pm_pl R (pm_d c) (pm_nd c) f ≠ 48 := by
      rcases hp.2.2 with ⟨e, _⟩ | ⟨e, _⟩ | ⟨e, _⟩ | ⟨e, _⟩ | ⟨e, a1, a2, a3, a4, a5, a6⟩
      · omega
      · omega
      · omega
      · omega
      · exact (a6 z.2).2
    split <;> omega
  · exact ⟨hnn, hnv⟩
theorem cr_m_fr {tx tx' : Nat → Nat} {life life' ty ty' le go hi ha pr le' go' hi' ha' pr' : Nat → Int32} (hne : s' ≠ s)
    (hF : xr_fr s mc nc nt vc vo va sk rd cn ce mc' nc' nt' vc' vo' va' sk' rd' cn' ce') (htx : ∀ i, i < 200 → tx' (200 * s' + i) = tx (200 * s' + i))
    (h1 : le' s' = le s') (h2 : go' s' = go s') (h3 : hi' s' = hi s') (h4 : ha' s' = ha s') (h5 : pr' s' = pr s') (h6 : ty' s' = ty s') (h7 : life' s' = life s')
    (h : cr_m k K R s' tx life mc nc nt vc vo va sk rd cn ce ty le go hi ha pr) : cr_m k K R s' tx' life' mc' nc' nt' vc' vo' va' sk' rd' cn' ce' ty' le' go' hi' ha' pr' := by
  have hF' := hF
  obtain ⟨f1, f2, f3, f4, f5, f6, f7, f8, f9, f10, f11⟩ := hF
  have hby : cr_by tx' s' = cr_by tx s' := by
    funext i
    unfold cr_by
    split
    · rename_i z; exact htx i z
    · rfl
  have e11 : ∀ i, i < 11 → rd' (11 * s' + i) = rd (11 * s' + i) := fun i hi => xr_O11 f8 hne hi
  have e0 : rd' (11 * s') = rd (11 * s') := e11 0 (by omega)
  have e16 : nt' (16 * s') = nt (16 * s') := xr_O16 f3 hne (i := 0) (by omega)
  obtain ⟨p, m, y, g1, g2, g3, g4, g5, g6, g7, g8, g9, g10, g11, g12⟩ := h
  refine ⟨p, m, y, g1, h5.trans g2, e0.trans g3, g4, (xr_O1 f1 hne).trans g5, g6, h4.trans g7, by rw [h7]; exact g8, fun z => ?_, ?_, ?_, ?_⟩
  · obtain ⟨x, x1, x2, x3⟩ := g9 z
    exact ⟨x, x1, h3.trans x2, (e11 1 (by omega)).trans x3⟩
  · rw [h7, h4, h6, e16]; exact g10
  · rw [h4, h1, h2, hby]
    intro z
    obtain ⟨L, l1, l2, l3, dep, c, d1, d2, d3, d4⟩ := g11 z
    exact ⟨L, l1, l2, l3, dep, c, d1, d2, cr_XD_fr hne hF' d2.1.2.1 d2.1.2.2.1 d3, (xr_O1 f7 hne).trans d4⟩
  · rw [h7, h1, h2, hby]
    intro z z2
    obtain ⟨L, t, l1, l2, l3, dep, c, h, f, q, d, w, i1, i2, i3, i4, i5, i6, i7⟩ := g12 z z2
    obtain ⟨r2, r3, r45, r63, r64, r7, r8, r9, r10, rch⟩ := i4
    have hat := i2.2.1
    have hD := cr_D_le i2 i3
    refine ⟨L, t, l1, l2, l3, dep, c, h, f, q, d, w, i1, i2, i3, ⟨?_, ?_, ?_, ?_, ?_, ?_, ?_, ?_, ?_, fun i hi => ?_⟩, cr_XD_fr hne hF' hD.1 hD.2 i5, (xr_O1 f7 hne).trans i6, i7⟩
    · rw [e11 2 (by omega)]; exact r2
    · rw [e11 3 (by omega)]; exact r3
    · rw [e11 4 (by omega), e11 5 (by omega)]; exact r45
    · rw [e11 6 (by omega)]; exact r63
    · rw [e11 6 (by omega)]; exact r64
    · rw [e11 7 (by omega)]; exact r7
    · rw [e11 8 (by omega)]; exact r8
    · rw [e11 9 (by omega)]; exact r9
    · rw [e11 10 (by omega)]; exact r10
    · exact ⟨(xr_O4 f9 hne (by omega)).trans (rch i hi).1, (xr_O4 f10 hne (by omega)).trans (rch i hi).2⟩
end
end
section
/-! S: what is sent -/
section
def sd_n (ql wo : Nat → Nat) (s : Nat) : Nat :=
  if wo 0 < (if wo s < (if ql s < 16 then ql s else 16) then wo s else (if ql s < 16 then ql s else 16)) then wo 0 else (if wo s < (if ql s < 16 then ql s else 16) then wo s else (if ql s < 16 then ql s else 16))
theorem sd_n_le (ql wo : Nat → Nat) (s : Nat) : sd_n ql wo s ≤ ql s ∧ sd_n ql wo s ≤ 16 ∧ sd_n ql wo s ≤ wo s ∧ sd_n ql wo s ≤ wo 0 := by
  unfold sd_n
  split <;> split <;> split <;> omega
/-- whether it is the last -/
def sd_l (fi : Nat → Int32) (ql wo : Nat → Nat) (s : Nat) : Nat := if fi s = 0 then 0 else if sd_n ql wo s = ql s then 1 else 0
def sd_Q (Q : Nat → Nat) (s n k : Nat) : Nat → Nat := fun j => if 500 * s ≤ j ∧ j < 500 * s + (k - n) then Q (j + n) else Q j
theorem sd_Q_0 (Q : Nat → Nat) (s n : Nat) : sd_Q Q s n n = Q := by
  funext j
  unfold sd_Q
  rw [if_neg (by omega)]
theorem sd_Q_s {Q : Nat → Nat} {s n k : Nat} (h : n ≤ k) : pm_u (sd_Q Q s n k) (500 * s + k - n) (sd_Q Q s n k (500 * s + k)) = sd_Q Q s n (k + 1) := by
  funext j
  unfold pm_u sd_Q
  rw [if_neg (show ¬ (500 * s ≤ 500 * s + k ∧ 500 * s + k < 500 * s + (k - n)) by omega)]
  by_cases g : j = 500 * s + k - n
  · rw [if_pos g, if_pos (by omega)]
    exact congrArg Q (by omega)
  · rw [if_neg g]
    by_cases g2 : 500 * s ≤ j ∧ j < 500 * s + (k - n)
    · rw [if_pos g2, if_pos (by omega)]
    · rw [if_neg g2, if_neg (by omega)]
def sd_ql (ql : Nat → Nat) (s n : Nat) : Nat → Nat := pm_u ql s (ql s - n)
def sd_wo (wo : Nat → Nat) (s n : Nat) : Nat → Nat := pm_u (pm_u wo s (wo s - n)) 0 (pm_u wo s (wo s - n) 0 - n)
def sd_bs (Q : Nat → Nat) (s k : Nat) : List Nat := (List.range k).map (fun i => Q (500 * s + i))
theorem sd_bs_s (Q : Nat → Nat) (s k : Nat) : sd_bs Q s (k + 1) = sd_bs Q s k ++ [Q (500 * s + k)] := by
  unfold sd_bs
  rw [List.range_succ, List.map_append]; rfl
def sd_we (we : Nat → Int32) (s l : Nat) : Nat → Int32 := if l = 0 then we else upd we s 1
def sd_li (life th : Nat → Int32) (s l : Nat) : Nat → Int32 := if l = 0 ∨ th s = 0 then life else upd life s 2
variable {f_frameAt f_frameLength f_frameSort f_frameFlags f_frameStream f_down f_entryCount f_most f_typeSeen f_lastSender f_sentLength : Int32} {a_payload a_life a_theyEnded a_weEnded a_finishing a_codes a_windowIn a_windowOut a_headers a_headerCount a_entries a_kinds a_repeats a_messageCount a_text a_nodeCount a_nodeTypes a_valueCount a_valueOwners a_values a_skippedCount a_reader a_chainNode a_chainEnd a_queue a_queueLength a_sent a_nodeSize a_nodePlace : Nat → Int32} {yf_down yf_heads yf_paid yf_payload yf_wants yf_name yf_first yf_counts yf_enters yf_most yf_many yf_sent yf_last yf_nodes yf_values yf_skipped yf_pos yf_there yf_number yf_at : Int32} {ya_kind ya_repeated ya_how ya_code ya_coming ya_going ya_type ya_headers ya_header ya_queued ya_otherEnded ya_ended ya_finishing ya_queue ya_prefix ya_length ya_got ya_high ya_whole ya_has ya_bytes ya_frame ya_payloads ya_table ya_out ya_nodeType ya_valueNode ya_valueNumber ya_value ya_from ya_limit ya_inside ya_sizes : Nat → Int32} {s n l : Nat} {z : (Nat → Nat) × Nat} {Q ql wo : Nat → Nat}
theorem sd_i5 {k : Nat} (hs : s < 8) (hk : k < 500) : nI s * 500 + nI k = nI (500 * s + k) ∧ 500 * nI s + nI k = nI (500 * s + k) ∧ vp_in (nI (500 * s + k)) 4000 ∧ (nI (500 * s + k)).toNatClampNeg = 500 * s + k := by
  refine ⟨?_, ?_, vp_in_nI (by omega) (by omega), nI_clamp (by omega)⟩
  · rw [show (500 : Int32) = nI 500 from rfl, pk_mul, nI_add, Nat.mul_comm]
  · rw [show (500 : Int32) = nI 500 from rfl, pk_mul, nI_add]
theorem sd_wo_e (hs : 0 < s) (hn : n ≤ wo s) (hn0 : n ≤ wo 0) :
    upd (upd (an_f wo) s (an_f wo s - nI n)) 0 (upd (an_f wo) s (an_f wo s - nI n) 0 - nI n) = an_f (sd_wo wo s n) := by
  rw [an_fa, pk_sub hn, an_fu, an_fa]
  have e : pm_u wo s (wo s - n) 0 = wo 0 := pm_un (by omega)
  rw [e, pk_sub hn0]
  show upd (an_f (pm_u wo s (wo s - n))) 0 (nI (wo 0 - n)) = _
  rw [an_fu]
  unfold sd_wo
  rw [e]
theorem xo_sd153 (hs0 : 0 < s) (hs : s < 8) (hq : ql s ≤ 500) (hn : n ≤ ql s) (hw : n ≤ wo s) (hw0 : n ≤ wo 0) (hl : l ≤ 1) {post : SX → Prop}
    (H : post (f_frameAt, f_frameLength, f_frameSort, f_frameFlags, f_frameStream, f_down, f_entryCount, f_most, f_typeSeen, nI s, f_sentLength, a_payload, sd_li a_life a_theyEnded s l, a_theyEnded, sd_we a_weEnded s l, a_finishing, a_codes, a_windowIn, an_f (sd_wo wo s n), a_headers, a_headerCount, a_entries, a_kinds, a_repeats, a_messageCount, a_text, a_nodeCount, a_nodeTypes, a_valueCount, a_valueOwners, a_values, a_skippedCount, a_reader, a_chainNode, a_chainEnd, an_f (sd_Q Q s n (ql s)), an_f (sd_ql ql s n), a_sent, a_nodeSize, a_nodePlace)) : ∀ r k, k + r = ql s → n ≤ k →
    wX_sendData_153 post (nI s) (nI n) (nI l) f_frameAt f_frameLength f_frameSort f_frameFlags f_frameStream f_down f_entryCount f_most f_typeSeen f_lastSender f_sentLength (r + 1) (nI k) a_payload a_life a_theyEnded a_weEnded a_finishing a_codes a_windowIn (an_f wo) a_headers a_headerCount a_entries a_kinds a_repeats a_messageCount a_text a_nodeCount a_nodeTypes a_valueCount a_valueOwners a_values a_skippedCount a_reader a_chainNode a_chainEnd (an_f (sd_Q Q s n k)) (an_f ql) a_sent a_nodeSize a_nodePlace
  | 0, k, hk, hnk => by
    rw [wX_sendData_153]
    obtain ⟨g1, g2⟩ := xr_c8 hs
    rw [g2]
    have hk' : k = ql s := by omega
    subst hk'
    refine ⟨g1, ?_⟩
    refine pk_le (ql s) (ql s) (fun _ => ?_) (fun g => absurd g (by omega)) rfl rfl (by omega) (by omega)
    refine ⟨g1, g1, nm_r (by rw [an_fa, pk_sub hn, an_fu]) ⟨g1, g1, nm_e (nm_r (sd_wo_e hs0 hw hw0) ?_)⟩⟩
    refine pk_eq l 0 (fun g => ?_) (fun g => ?_)
    · unfold sd_li sd_we at H
      rw [if_pos (Or.inl g), if_pos g] at H
      exact H
    · refine ⟨g1, nm_r (e' := upd a_weEnded s 1) rfl ⟨g1, br_c (fun y => ?_) (fun y => ⟨g1, nm_e ?_⟩)⟩⟩
      · unfold sd_li sd_we at H
        rw [if_pos (Or.inr y), if_neg g] at H
        exact H
      · unfold sd_li sd_we at H
        rw [if_neg (fun w => by rcases w with w | w; exact g w; exact y w), if_neg g] at H
        exact H
  | r + 1, k, hk, hnk => by
    rw [wX_sendData_153]
    obtain ⟨g1, g2⟩ := xr_c8 hs
    rw [g2]
    obtain ⟨i1, i2, i3, i4⟩ := sd_i5 (s := s) (k := k) hs (by omega)
    obtain ⟨j1, j2, j3, j4⟩ := sd_i5 (s := s) (k := k - n) hs (by omega)
    refine ⟨g1, ?_⟩
    refine pk_le (ql s) k (fun g => absurd g (by omega)) (fun g => ?_) rfl rfl (by omega) (by omega)
    rw [i1]
    have e : nI (500 * s + k) - nI n = nI (500 * s + (k - n)) := by
      rw [pk_sub (by omega)]; exact congrArg nI (by omega)
    rw [e, i4, j4]
    refine ⟨i3, j3, nm_r (e' := an_f (sd_Q Q s n (k + 1))) ?_ (nm_r (nI_1 _) (xo_sd153 hs0 hs hq hn hw hw0 hl H r (k + 1) (by omega) (by omega)))⟩
    rw [an_fa, an_fu, ← sd_Q_s hnk]
    exact congrArg (fun i => an_f (pm_u (sd_Q Q s n k) i (sd_Q Q s n k (500 * s + k)))) (by omega)
theorem yo_sd133 (hs0 : 0 < s) (hs : s < 8) (hq : ql s ≤ 500) (hn : n ≤ ql s) (hw : n ≤ wo s) (hw0 : n ≤ wo 0) (hl : l ≤ 1)
    (hco : l = 1 → ya_otherEnded s ≠ 0 → ya_code s = 0 ∧ n = ql s) {post : SY → Prop}
    (H : post (yf_down, yf_heads, yf_paid, yf_payload, yf_wants, yf_name, yf_first, yf_counts, yf_enters, yf_most, yf_many, yf_sent, yf_last, yf_nodes, yf_values, yf_skipped, yf_pos, yf_there, yf_number, yf_at, ya_kind, ya_repeated, sd_li ya_how ya_otherEnded s l, ya_code, ya_coming, an_f (sd_wo wo s n), ya_type, ya_headers, ya_header, an_f (sd_ql ql s n), ya_otherEnded, sd_we ya_ended s l, ya_finishing, an_g (sd_Q Q s n (ql s)), ya_prefix, ya_length, ya_got, ya_high, ya_whole, ya_has, ya_bytes, ya_frame, ya_payloads, ya_table, ya_out, ya_nodeType, ya_valueNode, ya_valueNumber, ya_value, ya_from, ya_limit, ya_inside, ya_sizes)) : ∀ r k, k + r = ql s → n ≤ k →
    wY_send_133 post (nI s) (nI n) (nI l) yf_down yf_heads yf_paid yf_payload yf_wants yf_name yf_first yf_counts yf_enters yf_most yf_many yf_sent yf_last yf_nodes yf_values yf_skipped yf_pos yf_there yf_number yf_at (r + 1) (nI k) ya_kind ya_repeated ya_how ya_code ya_coming (an_f wo) ya_type ya_headers ya_header (an_f ql) ya_otherEnded ya_ended ya_finishing (an_g (sd_Q Q s n k)) ya_prefix ya_length ya_got ya_high ya_whole ya_has ya_bytes ya_frame ya_payloads ya_table ya_out ya_nodeType ya_valueNode ya_valueNumber ya_value ya_from ya_limit ya_inside ya_sizes
  | 0, k, hk, hnk => by
    rw [wY_send_133]
    obtain ⟨g1, g2⟩ := xr_c8 hs
    rw [g2]
    have hk' : k = ql s := by omega
    subst hk'
    refine ⟨g1, ?_⟩
    refine pk_le (ql s) (ql s) (fun _ => ?_) (fun g => absurd g (by omega)) rfl rfl (by omega) (by omega)
    refine ⟨g1, g1, nm_r (by rw [an_fa, pk_sub hn, an_fu]) ⟨g1, g1, nm_e (nm_r (sd_wo_e hs0 hw hw0) ?_)⟩⟩
    refine pk_eq l 0 (fun g => ?_) (fun g => ?_)
    · unfold sd_li sd_we at H
      rw [if_pos (Or.inl g), if_pos g] at H
      exact H
    · refine ⟨g1, nm_r (e' := upd ya_ended s 1) rfl ⟨g1, br_c (fun y => ?_) (fun y => ?_)⟩⟩
      · unfold sd_li sd_we at H
        rw [if_pos (Or.inr y), if_neg g] at H
        exact H
      · unfold sd_li sd_we at H
        rw [if_neg (fun w => by rcases w with w | w; exact g w; exact y w), if_neg g] at H
        obtain ⟨c1, c2⟩ := hco (by omega) y
        refine yo_shut hs ?_
        rw [xr_ui c1, xr_ui (show an_f (pm_u ql s (ql s - n)) s = 0 by rw [an_fa, pm_us, c2, Nat.sub_self]; rfl)]
        exact H
  | r + 1, k, hk, hnk => by
    rw [wY_send_133]
    obtain ⟨g1, g2⟩ := xr_c8 hs
    rw [g2]
    obtain ⟨i1, i2, i3, i4⟩ := sd_i5 (s := s) (k := k) hs (by omega)
    obtain ⟨j1, j2, j3, j4⟩ := sd_i5 (s := s) (k := k - n) hs (by omega)
    refine ⟨g1, ?_⟩
    refine pk_le (ql s) k (fun g => absurd g (by omega)) (fun g => ?_) rfl rfl (by omega) (by omega)
    rw [i2]
    have e : nI (500 * s + k) - nI n = nI (500 * s + (k - n)) := by
      rw [pk_sub (by omega)]; exact congrArg nI (by omega)
    rw [e, i4, j4]
    refine ⟨i3, j3, nm_r (e' := an_g (sd_Q Q s n (k + 1))) ?_ (nm_r (nI_1 _) (yo_sd133 hs0 hs hq hn hw hw0 hl hco H r (k + 1) (by omega) (by omega)))⟩
    rw [an_ga, an_b2, an_gu, ← sd_Q_s hnk]
    exact congrArg (fun i => an_g (pm_u (sd_Q Q s n k) i (sd_Q Q s n k (500 * s + k)))) (by omega)
end
section
variable {f_frameAt f_frameLength f_frameSort f_frameFlags f_frameStream f_down f_entryCount f_most f_typeSeen f_lastSender f_sentLength : Int32} {a_payload a_life a_theyEnded a_weEnded a_finishing a_codes a_windowIn a_windowOut a_headers a_headerCount a_entries a_kinds a_repeats a_messageCount a_text a_nodeCount a_nodeTypes a_valueCount a_valueOwners a_values a_skippedCount a_reader a_chainNode a_chainEnd a_queue a_queueLength a_sent a_nodeSize a_nodePlace : Nat → Int32} {yf_down yf_heads yf_paid yf_payload yf_wants yf_name yf_first yf_counts yf_enters yf_most yf_many yf_sent yf_last yf_nodes yf_values yf_skipped yf_pos yf_there yf_number yf_at : Int32} {ya_kind ya_repeated ya_how ya_code ya_coming ya_going ya_type ya_headers ya_header ya_queued ya_otherEnded ya_ended ya_finishing ya_queue ya_prefix ya_length ya_got ya_high ya_whole ya_has ya_bytes ya_frame ya_payloads ya_table ya_out ya_nodeType ya_valueNode ya_valueNumber ya_value ya_from ya_limit ya_inside ya_sizes : Nat → Int32} {s n l : Nat} {z : (Nat → Nat) × Nat} {Q ql wo : Nat → Nat}
theorem xo_sd121 (hs : s < 8) (hn : n ≤ 16) (hz : z.2 ≤ 1200) {post : SX → Prop}
    (H : ∃ m, wX_sendData_153 post (nI s) (nI n) (nI l) f_frameAt f_frameLength f_frameSort f_frameFlags f_frameStream f_down f_entryCount f_most f_typeSeen f_lastSender (nI (ou_L z (sd_bs Q s n)).2) m (nI n) a_payload a_life a_theyEnded a_weEnded a_finishing a_codes a_windowIn a_windowOut a_headers a_headerCount a_entries a_kinds a_repeats a_messageCount a_text a_nodeCount a_nodeTypes a_valueCount a_valueOwners a_values a_skippedCount a_reader a_chainNode a_chainEnd (an_f Q) a_queueLength (an_f (ou_L z (sd_bs Q s n)).1) a_nodeSize a_nodePlace) : ∀ r k, k + r = n →
    wX_sendData_121 post (nI s) (nI n) (nI l) (r + 1) (nI k) f_frameAt f_frameLength f_frameSort f_frameFlags f_frameStream f_down f_entryCount f_most f_typeSeen f_lastSender (nI (ou_L z (sd_bs Q s k)).2) a_payload a_life a_theyEnded a_weEnded a_finishing a_codes a_windowIn a_windowOut a_headers a_headerCount a_entries a_kinds a_repeats a_messageCount a_text a_nodeCount a_nodeTypes a_valueCount a_valueOwners a_values a_skippedCount a_reader a_chainNode a_chainEnd (an_f Q) a_queueLength (an_f (ou_L z (sd_bs Q s k)).1) a_nodeSize a_nodePlace
  | 0, k, hk => by
    have hk' : k = n := by omega
    subst hk'
    rw [wX_sendData_121]
    exact pk_le k k (fun _ => H) (fun g => absurd g (by omega))
  | r + 1, k, hk => by
    rw [wX_sendData_121]
    obtain ⟨i1, i2, i3, i4⟩ := sd_i5 (s := s) (k := k) hs (by omega)
    refine pk_le n k (fun g => absurd g (by omega)) (fun g => ?_)
    rw [i1, i4]
    refine ⟨i3, xo_put (b := Q (500 * s + k)) (ou_L_le _ hz) (nm_r (nI_1 _) ?_)⟩
    rw [← ou_L_1, ← ou_L_app, ← sd_bs_s]
    exact xo_sd121 hs hn hz H r (k + 1) (by omega)
theorem yo_sd101 (hs : s < 8) (hn : n ≤ 16) (hz : z.2 ≤ 1200) {post : SY → Prop}
    (H : ∃ m, wY_send_133 post (nI s) (nI n) (nI l) yf_down yf_heads yf_paid yf_payload yf_wants yf_name yf_first yf_counts yf_enters yf_most yf_many (nI (ou_L z (sd_bs Q s n)).2) yf_last yf_nodes yf_values yf_skipped yf_pos yf_there yf_number yf_at m (nI n) ya_kind ya_repeated ya_how ya_code ya_coming ya_going ya_type ya_headers ya_header ya_queued ya_otherEnded ya_ended ya_finishing (an_g Q) ya_prefix ya_length ya_got ya_high ya_whole ya_has ya_bytes ya_frame ya_payloads ya_table (an_g (ou_L z (sd_bs Q s n)).1) ya_nodeType ya_valueNode ya_valueNumber ya_value ya_from ya_limit ya_inside ya_sizes) : ∀ r k, k + r = n →
    wY_send_101 post (nI s) (nI n) (nI l) (r + 1) (nI k) yf_down yf_heads yf_paid yf_payload yf_wants yf_name yf_first yf_counts yf_enters yf_most yf_many (nI (ou_L z (sd_bs Q s k)).2) yf_last yf_nodes yf_values yf_skipped yf_pos yf_there yf_number yf_at ya_kind ya_repeated ya_how ya_code ya_coming ya_going ya_type ya_headers ya_header ya_queued ya_otherEnded ya_ended ya_finishing (an_g Q) ya_prefix ya_length ya_got ya_high ya_whole ya_has ya_bytes ya_frame ya_payloads ya_table (an_g (ou_L z (sd_bs Q s k)).1) ya_nodeType ya_valueNode ya_valueNumber ya_value ya_from ya_limit ya_inside ya_sizes
  | 0, k, hk => by
    have hk' : k = n := by omega
    subst hk'
    rw [wY_send_101]
    exact pk_le k k (fun _ => H) (fun g => absurd g (by omega))
  | r + 1, k, hk => by
    rw [wY_send_101]
    obtain ⟨i1, i2, i3, i4⟩ := sd_i5 (s := s) (k := k) hs (by omega)
    refine pk_le n k (fun g => absurd g (by omega)) (fun g => ?_)
    rw [i2, i4]
    refine ⟨i3, yo_put (b := Q (500 * s + k)) (an_bb _) (ou_L_le _ hz) (nm_r (nI_1 _) ?_)⟩
    rw [← ou_L_1, ← ou_L_app, ← sd_bs_s]
    exact yo_sd101 hs hn hz H r (k + 1) (by omega)
/-- the bytes of one frame of data -/
def sd_z (z : (Nat → Nat) × Nat) (Q : Nat → Nat) (s n l : Nat) : (Nat → Nat) × Nat := ou_L (ou_L z [n, 0, l, s]) (sd_bs Q s n)
theorem xo_sendData (hs0 : 0 < s) (hs : s < 8) (hq : ql s ≤ 500) (hw : wo s ≤ 255) (hw0 : wo 0 ≤ 255) (hz : z.2 ≤ 1200) {post : SX → Prop}
    (hn : n = sd_n ql wo s) (hl : l = sd_l a_finishing ql wo s)
    (H : post (f_frameAt, f_frameLength, f_frameSort, f_frameFlags, f_frameStream, f_down, f_entryCount, f_most, f_typeSeen, nI s, nI (sd_z z Q s n l).2, a_payload, sd_li a_life a_theyEnded s l, a_theyEnded, sd_we a_weEnded s l, a_finishing, a_codes, a_windowIn, an_f (sd_wo wo s n), a_headers, a_headerCount, a_entries, a_kinds, a_repeats, a_messageCount, a_text, a_nodeCount, a_nodeTypes, a_valueCount, a_valueOwners, a_values, a_skippedCount, a_reader, a_chainNode, a_chainEnd, an_f (sd_Q Q s n (ql s)), an_f (sd_ql ql s n), an_f (sd_z z Q s n l).1, a_nodeSize, a_nodePlace)) :
    wpX_sendData post (f_frameAt, f_frameLength, f_frameSort, f_frameFlags, f_frameStream, f_down, f_entryCount, f_most, f_typeSeen, f_lastSender, nI z.2, a_payload, a_life, a_theyEnded, a_weEnded, a_finishing, a_codes, a_windowIn, an_f wo, a_headers, a_headerCount, a_entries, a_kinds, a_repeats, a_messageCount, a_text, a_nodeCount, a_nodeTypes, a_valueCount, a_valueOwners, a_values, a_skippedCount, a_reader, a_chainNode, a_chainEnd, an_f Q, an_f ql, an_f z.1, a_nodeSize, a_nodePlace) (nI s) := by
  obtain ⟨g1, g2⟩ := xr_c8 hs
  obtain ⟨n1, n2, n3, n4⟩ := sd_n_le ql wo s
  have hl1 : l ≤ 1 := by
    rw [hl]; unfold sd_l
    split
    · omega
    · split <;> omega
  have h89 : wX_sendData_89 post (nI s) (nI n) (nI l) f_frameAt f_frameLength f_frameSort f_frameFlags f_frameStream f_down f_entryCount f_most f_typeSeen f_lastSender (nI z.2) a_payload a_life a_theyEnded a_weEnded a_finishing a_codes a_windowIn (an_f wo) a_headers a_headerCount a_entries a_kinds a_repeats a_messageCount a_text a_nodeCount a_nodeTypes a_valueCount a_valueOwners a_values a_skippedCount a_reader a_chainNode a_chainEnd (an_f Q) (an_f ql) (an_f z.1) a_nodeSize a_nodePlace := by
    have h110 : wX_sendData_110 post (nI s) (nI n) (nI l) (nI l) f_frameAt f_frameLength f_frameSort f_frameFlags f_frameStream f_down f_entryCount f_most f_typeSeen f_lastSender (nI (ou_1 (ou_1 z n) 0).2) a_payload a_life a_theyEnded a_weEnded a_finishing a_codes a_windowIn (an_f wo) a_headers a_headerCount a_entries a_kinds a_repeats a_messageCount a_text a_nodeCount a_nodeTypes a_valueCount a_valueOwners a_values a_skippedCount a_reader a_chainNode a_chainEnd (an_f Q) (an_f ql) (an_f (ou_1 (ou_1 z n) 0).1) a_nodeSize a_nodePlace := by
      unfold wX_sendData_110
      refine xo_put (ou_1_le (ou_1_le hz)) (xo_put (ou_1_le (ou_1_le (ou_1_le hz))) ?_)
      refine ⟨n + 1, xo_sd121 (z := ou_L z [n, 0, l, s]) hs (by omega) (ou_L_le _ hz) ?_ n 0 (by omega)⟩
      refine ⟨ql s - n + 1, ?_⟩
      have := xo_sd153 (f_lastSender := f_lastSender) (n := n) (l := l) (Q := Q) hs0 hs hq (by omega) (by omega) (by omega) hl1 H (ql s - n) n (by omega) (Nat.le_refl _)
      rw [sd_Q_0] at this
      exact this
    unfold wX_sendData_89
    refine xo_put hz (xo_put (b := 0) (ou_1_le hz) ?_)
    refine pk_eq l 0 (fun y => ?_) (fun y => ?_)
    · rw [y] at h110 ⊢; exact h110
    · have : l = 1 := by omega
      rw [this] at h110 ⊢; exact h110
  have h64 : wX_sendData_64 post (nI s) (nI n) f_frameAt f_frameLength f_frameSort f_frameFlags f_frameStream f_down f_entryCount f_most f_typeSeen f_lastSender (nI z.2) a_payload a_life a_theyEnded a_weEnded a_finishing a_codes a_windowIn (an_f wo) a_headers a_headerCount a_entries a_kinds a_repeats a_messageCount a_text a_nodeCount a_nodeTypes a_valueCount a_valueOwners a_values a_skippedCount a_reader a_chainNode a_chainEnd (an_f Q) (an_f ql) (an_f z.1) a_nodeSize a_nodePlace := by
    unfold wX_sendData_64
    rw [g2]
    refine ⟨g1, br_c (fun y => ?_) (fun y => ⟨g1, ?_⟩)⟩
    · unfold wX_sendData_88
      have : l = 0 := by rw [hl]; unfold sd_l; rw [if_pos y]
      rw [this] at h89; exact h89
    · refine pk_eq n (ql s) (fun w => ?_) (fun w => ?_)
      · have : l = 1 := by rw [hl]; unfold sd_l; rw [if_neg y, if_pos (by omega)]
        rw [this] at h89; exact h89
      · unfold wX_sendData_88
        have : l = 0 := by rw [hl]; unfold sd_l; rw [if_neg y, if_neg (by omega)]
        rw [this] at h89; exact h89
  have h43 : ∀ b, n = (if wo 0 < b then wo 0 else b) → b < 2 ^ 31 → wX_sendData_43 post (nI s) (nI b) f_frameAt f_frameLength f_frameSort f_frameFlags f_frameStream f_down f_entryCount f_most f_typeSeen f_lastSender (nI z.2) a_payload a_life a_theyEnded a_weEnded a_finishing a_codes a_windowIn (an_f wo) a_headers a_headerCount a_entries a_kinds a_repeats a_messageCount a_text a_nodeCount a_nodeTypes a_valueCount a_valueOwners a_values a_skippedCount a_reader a_chainNode a_chainEnd (an_f Q) (an_f ql) (an_f z.1) a_nodeSize a_nodePlace := by
    intro b hb hb31
    unfold wX_sendData_43
    refine pk_le b (wo 0) (fun y => ?_) (fun y => ?_) rfl rfl hb31 (by omega)
    · rw [if_neg (by omega)] at hb
      rw [← hb]; exact h64
    · rw [if_pos y] at hb
      rw [an_fa, ← hb]; exact h64
  have h22 : ∀ b, n = (if wo 0 < (if wo s < b then wo s else b) then wo 0 else (if wo s < b then wo s else b)) → b < 2 ^ 31 → wX_sendData_22 post (nI s) (nI b) f_frameAt f_frameLength f_frameSort f_frameFlags f_frameStream f_down f_entryCount f_most f_typeSeen f_lastSender (nI z.2) a_payload a_life a_theyEnded a_weEnded a_finishing a_codes a_windowIn (an_f wo) a_headers a_headerCount a_entries a_kinds a_repeats a_messageCount a_text a_nodeCount a_nodeTypes a_valueCount a_valueOwners a_values a_skippedCount a_reader a_chainNode a_chainEnd (an_f Q) (an_f ql) (an_f z.1) a_nodeSize a_nodePlace := by
    intro b hb hb31
    unfold wX_sendData_22
    rw [g2]
    refine ⟨g1, pk_le b (wo s) (fun y => ?_) (fun y => ⟨g1, ?_⟩) rfl rfl hb31 (by omega)⟩
    · rw [if_neg (show ¬ wo s < b by omega)] at hb
      exact h43 b hb hb31
    · rw [if_pos y] at hb
      exact h43 (wo s) hb (by omega)
  unfold wpX_sendData
  rw [g2]
  refine ⟨g1, pk_le 16 (ql s) (fun y => ?_) (fun y => ⟨g1, ?_⟩) rfl rfl (by omega) (by omega)⟩
  · refine h22 16 ?_ (by omega)
    rw [hn]; unfold sd_n
    rw [if_neg (show ¬ ql s < 16 by omega)]
  · refine h22 (ql s) ?_ (by omega)
    rw [hn]; unfold sd_n
    rw [if_pos y]
theorem yo_send (hs0 : 0 < s) (hs : s < 8) (hq : ql s ≤ 500) (hw : wo s ≤ 255) (hw0 : wo 0 ≤ 255) (hz : z.2 ≤ 1200) {post : SY → Prop}
    (hn : n = sd_n ql wo s) (hl : l = sd_l ya_finishing ql wo s) (hco : l = 1 → ya_otherEnded s ≠ 0 → ya_code s = 0 ∧ n = ql s)
    (H : post (yf_down, yf_heads, yf_paid, yf_payload, yf_wants, yf_name, yf_first, yf_counts, yf_enters, yf_most, yf_many, nI (sd_z z Q s n l).2, yf_last, yf_nodes, yf_values, yf_skipped, yf_pos, yf_there, yf_number, yf_at, ya_kind, ya_repeated, sd_li ya_how ya_otherEnded s l, ya_code, ya_coming, an_f (sd_wo wo s n), ya_type, ya_headers, ya_header, an_f (sd_ql ql s n), ya_otherEnded, sd_we ya_ended s l, ya_finishing, an_g (sd_Q Q s n (ql s)), ya_prefix, ya_length, ya_got, ya_high, ya_whole, ya_has, ya_bytes, ya_frame, ya_payloads, ya_table, an_g (sd_z z Q s n l).1, ya_nodeType, ya_valueNode, ya_valueNumber, ya_value, ya_from, ya_limit, ya_inside, ya_sizes)) :
    wpY_send post (yf_down, yf_heads, yf_paid, yf_payload, yf_wants, yf_name, yf_first, yf_counts, yf_enters, yf_most, yf_many, nI z.2, yf_last, yf_nodes, yf_values, yf_skipped, yf_pos, yf_there, yf_number, yf_at, ya_kind, ya_repeated, ya_how, ya_code, ya_coming, an_f wo, ya_type, ya_headers, ya_header, an_f ql, ya_otherEnded, ya_ended, ya_finishing, an_g Q, ya_prefix, ya_length, ya_got, ya_high, ya_whole, ya_has, ya_bytes, ya_frame, ya_payloads, ya_table, an_g z.1, ya_nodeType, ya_valueNode, ya_valueNumber, ya_value, ya_from, ya_limit, ya_inside, ya_sizes) (nI s) := by
  obtain ⟨g1, g2⟩ := xr_c8 hs
  obtain ⟨n1, n2, n3, n4⟩ := sd_n_le ql wo s
  have hl1 : l ≤ 1 := by
    rw [hl]; unfold sd_l
    split
    · omega
    · split <;> omega
  have h94 : wY_send_94 post (nI s) (nI n) (nI l) (nI l) (nI 0) (nI n) yf_down yf_heads yf_paid yf_payload yf_wants yf_name yf_first yf_counts yf_enters yf_most yf_many (nI z.2) yf_last yf_nodes yf_values yf_skipped yf_pos yf_there yf_number yf_at ya_kind ya_repeated ya_how ya_code ya_coming (an_f wo) ya_type ya_headers ya_header (an_f ql) ya_otherEnded ya_ended ya_finishing (an_g Q) ya_prefix ya_length ya_got ya_high ya_whole ya_has ya_bytes ya_frame ya_payloads ya_table (an_g z.1) ya_nodeType ya_valueNode ya_valueNumber ya_value ya_from ya_limit ya_inside ya_sizes := by
    unfold wY_send_94
    refine yo_frame hz ?_
    refine ⟨n + 1, yo_sd101 (z := ou_L z [n, 0, l, s]) hs (by omega) (ou_L_le _ hz) ?_ n 0 (by omega)⟩
    refine ⟨ql s - n + 1, ?_⟩
    have := yo_sd133 (n := n) (l := l) (Q := Q) hs0 hs hq (by omega) (by omega) (by omega) hl1 hco H (ql s - n) n (by omega) (Nat.le_refl _)
    rw [sd_Q_0] at this
    exact this
  have h81 : wY_send_81 post (nI s) (nI n) (nI l) yf_down yf_heads yf_paid yf_payload yf_wants yf_name yf_first yf_counts yf_enters yf_most yf_many (nI z.2) yf_last yf_nodes yf_values yf_skipped yf_pos yf_there yf_number yf_at ya_kind ya_repeated ya_how ya_code ya_coming (an_f wo) ya_type ya_headers ya_header (an_f ql) ya_otherEnded ya_ended ya_finishing (an_g Q) ya_prefix ya_length ya_got ya_high ya_whole ya_has ya_bytes ya_frame ya_payloads ya_table (an_g z.1) ya_nodeType ya_valueNode ya_valueNumber ya_value ya_from ya_limit ya_inside ya_sizes := by
    unfold wY_send_81
    refine pk_eq l 0 (fun y => ?_) (fun y => ?_)
    · rw [y] at h94 ⊢; exact h94
    · have : l = 1 := by omega
      rw [this] at h94 ⊢; exact h94
  have h57 : wY_send_57 post (nI s) (nI n) yf_down yf_heads yf_paid yf_payload yf_wants yf_name yf_first yf_counts yf_enters yf_most yf_many (nI z.2) yf_last yf_nodes yf_values yf_skipped yf_pos yf_there yf_number yf_at ya_kind ya_repeated ya_how ya_code ya_coming (an_f wo) ya_type ya_headers ya_header (an_f ql) ya_otherEnded ya_ended ya_finishing (an_g Q) ya_prefix ya_length ya_got ya_high ya_whole ya_has ya_bytes ya_frame ya_payloads ya_table (an_g z.1) ya_nodeType ya_valueNode ya_valueNumber ya_value ya_from ya_limit ya_inside ya_sizes := by
    unfold wY_send_57
    rw [g2]
    refine ⟨g1, br_c (fun y => ?_) (fun y => ⟨g1, ?_⟩)⟩
    · unfold wY_send_80
      have : l = 0 := by rw [hl]; unfold sd_l; rw [if_pos y]
      rw [this] at h81; exact h81
    · refine pk_eq n (ql s) (fun w => ?_) (fun w => ?_)
      · have : l = 1 := by rw [hl]; unfold sd_l; rw [if_neg y, if_pos (by omega)]
        rw [this] at h81; exact h81
      · unfold wY_send_80
        have : l = 0 := by rw [hl]; unfold sd_l; rw [if_neg y, if_neg (by omega)]
        rw [this] at h81; exact h81
  have h40 : ∀ b, n = (if wo 0 < b then wo 0 else b) → b < 2 ^ 31 → wY_send_40 post (nI s) (nI b) yf_down yf_heads yf_paid yf_payload yf_wants yf_name yf_first yf_counts yf_enters yf_most yf_many (nI z.2) yf_last yf_nodes yf_values yf_skipped yf_pos yf_there yf_number yf_at ya_kind ya_repeated ya_how ya_code ya_coming (an_f wo) ya_type ya_headers ya_header (an_f ql) ya_otherEnded ya_ended ya_finishing (an_g Q) ya_prefix ya_length ya_got ya_high ya_whole ya_has ya_bytes ya_frame ya_payloads ya_table (an_g z.1) ya_nodeType ya_valueNode ya_valueNumber ya_value ya_from ya_limit ya_inside ya_sizes := by
    intro b hb hb31
    unfold wY_send_40
    refine pk_le b (wo 0) (fun y => ?_) (fun y => nm_r (e' := nI n) ?_ h57) rfl rfl hb31 (by omega)
    · rw [if_neg (by omega)] at hb
      rw [← hb]; exact h57
    · rw [if_pos y] at hb
      rw [hb]; rfl
  have h22 : ∀ b, n = (if wo 0 < (if wo s < b then wo s else b) then wo 0 else (if wo s < b then wo s else b)) → b < 2 ^ 31 → wY_send_22 post (nI s) (nI b) yf_down yf_heads yf_paid yf_payload yf_wants yf_name yf_first yf_counts yf_enters yf_most yf_many (nI z.2) yf_last yf_nodes yf_values yf_skipped yf_pos yf_there yf_number yf_at ya_kind ya_repeated ya_how ya_code ya_coming (an_f wo) ya_type ya_headers ya_header (an_f ql) ya_otherEnded ya_ended ya_finishing (an_g Q) ya_prefix ya_length ya_got ya_high ya_whole ya_has ya_bytes ya_frame ya_payloads ya_table (an_g z.1) ya_nodeType ya_valueNode ya_valueNumber ya_value ya_from ya_limit ya_inside ya_sizes := by
    intro b hb hb31
    unfold wY_send_22
    rw [g2]
    refine ⟨g1, pk_le b (wo s) (fun y => ?_) (fun y => ⟨g1, nm_r (e' := nI (wo s)) rfl ?_⟩) rfl rfl hb31 (by omega)⟩
    · rw [if_neg (show ¬ wo s < b by omega)] at hb
      exact h40 b hb hb31
    · rw [if_pos y] at hb
      exact h40 (wo s) hb (by omega)
  unfold wpY_send
  rw [g2]
  refine ⟨g1, pk_le 16 (ql s) (fun y => ?_) (fun y => ⟨g1, ?_⟩) rfl rfl (by omega) (by omega)⟩
  · refine h22 16 ?_ (by omega)
    rw [hn]; unfold sd_n
    rw [if_neg (show ¬ ql s < 16 by omega)]
  · refine h22 (ql s) ?_ (by omega)
    rw [hn]; unfold sd_n
    rw [if_pos y]
end
end
section
/-! T: all that may be sent -/
section
def pu_c (g : Nat → Nat) : Nat → Nat
  | 0 => 0
  | m + 1 => pu_c g m + g (m + 1)
theorem pu_c_le {g g' : Nat → Nat} : ∀ m, (∀ i, 1 ≤ i → i ≤ m → g' i ≤ g i) → pu_c g' m ≤ pu_c g m
  | 0, _ => Nat.le_refl _
  | m + 1, h => by
    rw [pu_c, pu_c]
    have h1 := pu_c_le m (fun i h1 h2 => h i h1 (by omega))
    have h2 := h (m + 1) (by omega) (by omega)
    omega
theorem pu_c_lt {g g' : Nat → Nat} {s : Nat} : ∀ m, (∀ i, 1 ≤ i → i ≤ m → g' i ≤ g i) → 1 ≤ s → s ≤ m → g' s < g s → pu_c g' m < pu_c g m
  | 0, _, h1, h2, _ => by omega
  | m + 1, h, h1, h2, h3 => by
    rw [pu_c, pu_c]
    have a1 := pu_c_le m (fun i h1 h2 => h i h1 (by omega))
    have a2 := h (m + 1) (by omega) (by omega)
    by_cases y : s = m + 1
    · subst y; omega
    · have := pu_c_lt m (fun i h1 h2 => h i h1 (by omega)) h1 (by omega) h3
      omega
theorem pu_c_1 {g : Nat → Nat} (h : ∀ i, g i ≤ 1) : ∀ m, pu_c g m ≤ m
  | 0 => Nat.le_refl _
  | m + 1 => by
    rw [pu_c]
    have := pu_c_1 h m
    have := h (m + 1)
    omega
theorem pu_least (P : Nat → Prop) (h : ∃ k, P k) : ∃ k, P k ∧ ∀ j, j < k → ¬ P j := by
  obtain ⟨k, hk⟩ := h
  induction k using Nat.strongRecOn with
  | _ k ih =>
    by_cases g : ∃ j, j < k ∧ P j
    · obtain ⟨j, hj, hp⟩ := g
      exact ih j hj hp
    · exact ⟨k, hk, fun j hj hp => g ⟨j, hj, hp⟩⟩
/-- open and not ended -/
def pu_o (life we : Nat → Int32) (s : Nat) : Nat := if life s = 1 ∧ we s = 0 then 1 else 0
def pu_m (life we : Nat → Int32) (wo : Nat → Nat) : Nat := wo 0 + pu_c (pu_o life we) 7
theorem pu_m_le {life we : Nat → Int32} {wo : Nat → Nat} (h : wo 0 ≤ 255) : pu_m life we wo ≤ 262 := by
  have h1 : ∀ i, pu_o life we i ≤ 1 := by
    intro i; unfold pu_o; split <;> omega
  have h2 := pu_c_1 h1 7
  unfold pu_m
  omega
/-- a stream that sends comes nearer to the end -/
theorem pu_m_lt {life th ot we fi co : Nat → Int32} {wi wo ql : Nat → Nat} {s n l : Nat} (hS : cr_S life th ot we fi co wi wo ql) (h1 : 1 ≤ s) (h8 : s < 8) (hm : cr_may life we fi wo ql s)
    (hn : n = sd_n ql wo s) (hl : l = sd_l fi ql wo s) : pu_m (sd_li life th s l) (sd_we we s l) (sd_wo wo s n) < pu_m life we wo := by
  obtain ⟨m1, m2, m3⟩ := hm
  obtain ⟨n1, n2, n3, n4⟩ := sd_n_le ql wo s
  have e0 : sd_wo wo s n 0 = wo 0 - n := by
    unfold sd_wo
    rw [pm_us, pm_un (by omega)]
  have hle : ∀ i, 1 ≤ i → i ≤ 7 → pu_o (sd_li life th s l) (sd_we we s l) i ≤ pu_o life we i := by
    intro i _ _
    unfold pu_o
    by_cases y : i = s
    · subst y
      rw [if_pos (show life i = 1 ∧ we i = 0 from ⟨m1, m2⟩)]
      split <;> omega
    · have a : sd_li life th s l i = life i := by
        unfold sd_li; split
        · rfl
        · rw [pm_upd_eq, if_neg y]
      have b : sd_we we s l i = we i := by
        unfold sd_we; split
        · rfl
        · rw [pm_upd_eq, if_neg y]
      rw [a, b]; exact Nat.le_refl _
  unfold pu_m
  rw [e0]
  rcases m3 with ⟨q1, q2, q3⟩ | ⟨q1, q2⟩
  · have hp : 1 ≤ n := by
      rw [hn]; unfold sd_n
      split <;> split <;> split <;> omega
    have := pu_c_le 7 hle
    omega
  · have hn0 : n = 0 := by omega
    have hl1 : l = 1 := by
      rw [hl]; unfold sd_l
      rw [if_neg (by rw [q2]; decide), if_pos (by omega)]
    have ha : pu_o life we s = 1 := if_pos ⟨m1, m2⟩
    have hb : pu_o (sd_li life th s l) (sd_we we s l) s = 0 := by
      refine if_neg ?_
      rintro ⟨_, y⟩
      unfold sd_we at y
      rw [if_neg (by omega), pm_upd_eq, if_pos rfl] at y
      exact absurd y (by decide)
    have := pu_c_lt 7 hle h1 (by omega) (by rw [ha, hb]; omega)
    omega
theorem pu_S {life th ot we fi co : Nat → Int32} {wi wo ql : Nat → Nat} {s n l : Nat} (hS : cr_S life th ot we fi co wi wo ql) (h1 : 1 ≤ s) (h8 : s < 8) (hm : cr_may life we fi wo ql s)
    (hn : n = sd_n ql wo s) (hl : l = sd_l fi ql wo s) : cr_S (sd_li life th s l) th ot (sd_we we s l) fi co wi (sd_wo wo s n) (sd_ql ql s n) := by
  obtain ⟨m1, m2, m3⟩ := hm
  obtain ⟨n1, n2, n3, n4⟩ := sd_n_le ql wo s
  refine ⟨?_, fun i hi => ?_⟩
  · unfold sd_li
    split
    · exact hS.1
    · rw [pm_upd_eq, if_neg (by omega)]; exact hS.1
  · obtain ⟨s1, s2, s3, s4, s5, s6, s7, s8, s9, s10⟩ := hS.2 i hi
    have hwo : sd_wo wo s n i ≤ 255 := by
      unfold sd_wo
      by_cases y : i = 0
      · subst y; rw [pm_us, pm_un (by omega)]; omega
      · rw [pm_un y]
        by_cases y2 : i = s
        · subst y2; rw [pm_us]; omega
        · rw [pm_un y2]; exact s6
    have hql : sd_ql ql s n i ≤ 500 := by
      unfold sd_ql
      by_cases y2 : i = s
      · subst y2; rw [pm_us]; omega
      · rw [pm_un y2]; exact s7
    by_cases y : i = s
    · subst y
      have hl01 : l = 0 ∨ (l = 1 ∧ fi i = 1 ∧ n = ql i) := by
        rw [hl]; unfold sd_l
        split
        · left; rfl
        · rename_i y1
          split
          · rename_i y2
            right
            refine ⟨rfl, ?_, by omega⟩
            rcases s4 with y3 | y3
            · exact absurd y3 y1
            · exact y3
          · left; rfl
      rcases hl01 with y0 | ⟨y0, y1, y2⟩
      · have a : sd_li life th i l = life := by unfold sd_li; rw [if_pos (Or.inl y0)]
        have b : sd_we we i l = we := by unfold sd_we; rw [if_pos y0]
        rw [a, b]
        exact ⟨s1, s2, s3, s4, s5, hwo, hql, s8, s9, fun w => by rw [m2] at w; exact absurd w (by decide)⟩
      · have b : sd_we we i l i = 1 := by unfold sd_we; rw [if_neg (by omega), pm_upd_eq, if_pos rfl]
        have hql0 : sd_ql ql i n i = 0 := by unfold sd_ql; rw [pm_us]; omega
        have a : sd_li life th i l i = 1 ∨ sd_li life th i l i = 2 := by
          unfold sd_li
          split
          · left; exact m1
          · right; rw [pm_upd_eq, if_pos rfl]
        refine ⟨by rcases a with a | a; exact Or.inr (Or.inl a); exact Or.inr (Or.inr a), s2, Or.inr b, s4, s5, hwo, hql, fun w => ?_, fun w => ?_, fun _ => ⟨y1, hql0⟩⟩
        · exact s8 (by rw [m1]; decide)
        · exact s9 (by rw [m1]; decide)
    · have a : sd_li life th s l i = life i := by
        unfold sd_li; split
        · rfl
        · rw [pm_upd_eq, if_neg y]
      have b : sd_we we s l i = we i := by
        unfold sd_we; split
        · rfl
        · rw [pm_upd_eq, if_neg y]
      have d : sd_ql ql s n i = ql i := by
        unfold sd_ql; rw [pm_un y]
      rw [a, b, d]
      exact ⟨s1, s2, s3, s4, s5, hwo, s7, s8, s9, s10⟩

variable {f_frameAt f_frameLength f_frameSort f_frameFlags f_frameStream f_down f_entryCount f_most f_typeSeen f_lastSender f_sentLength : Int32} {a_payload a_life a_theyEnded a_weEnded a_finishing a_codes a_windowIn a_windowOut a_headers a_headerCount a_entries a_kinds a_repeats a_messageCount a_text a_nodeCount a_nodeTypes a_valueCount a_valueOwners a_values a_skippedCount a_reader a_chainNode a_chainEnd a_queue a_queueLength a_sent a_nodeSize a_nodePlace : Nat → Int32} {yf_down yf_heads yf_paid yf_payload yf_wants yf_name yf_first yf_counts yf_enters yf_most yf_many yf_sent yf_last yf_nodes yf_values yf_skipped yf_pos yf_there yf_number yf_at : Int32} {ya_kind ya_repeated ya_how ya_code ya_coming ya_going ya_type ya_headers ya_header ya_queued ya_otherEnded ya_ended ya_finishing ya_queue ya_prefix ya_length ya_got ya_high ya_whole ya_has ya_bytes ya_frame ya_payloads ya_table ya_out ya_nodeType ya_valueNode ya_valueNumber ya_value ya_from ya_limit ya_inside ya_sizes : Nat → Int32} {l : Nat} {z : (Nat → Nat) × Nat} {Q ql wo wi : Nat → Nat}
theorem xo_nx {n k : Nat} {post : Int32 → Prop} (hS : cr_S a_life a_theyEnded ya_otherEnded a_weEnded a_finishing a_codes wi wo ql) (hl : l ≤ 7) (hk : k ≤ 7)
    (H7 : k = 7 → post 0) (Hy : k < 7 → cr_may a_life a_weEnded a_finishing wo ql ((l + k) % 7 + 1) → post (nI ((l + k) % 7 + 1)))
    (Hn : k < 7 → ¬ cr_may a_life a_weEnded a_finishing wo ql ((l + k) % 7 + 1) → wX_nextSender_2 post f_frameAt f_frameLength f_frameSort f_frameFlags f_frameStream f_down f_entryCount f_most f_typeSeen (nI l) f_sentLength a_payload a_life a_theyEnded a_weEnded a_finishing a_codes a_windowIn (an_f wo) a_headers a_headerCount a_entries a_kinds a_repeats a_messageCount a_text a_nodeCount a_nodeTypes a_valueCount a_valueOwners a_values a_skippedCount a_reader a_chainNode a_chainEnd a_queue (an_f ql) a_sent a_nodeSize a_nodePlace n (nI (k + 1))) :
    wX_nextSender_2 post f_frameAt f_frameLength f_frameSort f_frameFlags f_frameStream f_down f_entryCount f_most f_typeSeen (nI l) f_sentLength a_payload a_life a_theyEnded a_weEnded a_finishing a_codes a_windowIn (an_f wo) a_headers a_headerCount a_entries a_kinds a_repeats a_messageCount a_text a_nodeCount a_nodeTypes a_valueCount a_valueOwners a_values a_skippedCount a_reader a_chainNode a_chainEnd a_queue (an_f ql) a_sent a_nodeSize a_nodePlace (n + 1) (nI k) := by
  rw [wX_nextSender_2]
  refine pk_le 7 k (fun y => H7 (by omega)) (fun y => ⟨by decide, ?_⟩)
  have e : nI l + nI k - (nI l + nI k) / 7 * 7 + 1 = nI ((l + k) % 7 + 1) := by
    rw [nI_add]
    have := pk_rem (a := l + k) (d := 7) (by omega) (by omega) (by omega)
    rw [show (7 : Int32) = nI 7 from rfl, this, nI_1]
  refine nm_r e ?_
  have Hy := Hy y
  have Hn := Hn y
  have hs8 : (l + k) % 7 + 1 < 8 := by omega
  generalize (l + k) % 7 + 1 = s at *
  obtain ⟨g1, g2⟩ := xr_c8 hs8
  obtain ⟨s1, s2, s3, s4, s5, s6, s7, s8, s9, s10⟩ := hS.2 s hs8
  have h00 := (hS.2 0 (by omega)).2.2.2.2.2.1
  rw [g2]
  refine ⟨g1, br_c (fun y1 => ⟨g1, br_c (fun y2 => ⟨g1, ?_⟩) (fun y2 => ?_)⟩) (fun y1 => ?_)⟩
  · refine pk_le (ql s) 0 (fun y3 => ⟨g1, ?_⟩) (fun y3 => ⟨g1, ?_⟩) rfl rfl (by omega) (by omega)
    · unfold wX_nextSender_80
      refine br_c (fun y4 => nm_r (nI_1 _) (Hn ?_)) (fun y4 => Hy ⟨y1, y2, Or.inr ⟨by omega, ?_⟩⟩)
      · rintro ⟨_, _, w⟩
        rcases w with ⟨w, _⟩ | ⟨_, w⟩
        · omega
        · rw [y4] at w; exact absurd w (by decide)
      · rcases s4 with w | w
        · exact absurd w y4
        · exact w
    · refine pk_le (wo s) 0 (fun y4 => ?_) (fun y4 => ?_) rfl rfl (by omega) (by omega)
      · unfold wX_nextSender_70 wX_nextSender_80
        refine br_t rfl (nm_r (nI_1 _) (Hn ?_))
        rintro ⟨_, _, w⟩
        rcases w with ⟨_, w, _⟩ | ⟨w, _⟩ <;> omega
      · refine pk_le (wo 0) 0 (fun y5 => ?_) (fun y5 => ?_) rfl rfl (by omega) (by omega)
        · unfold wX_nextSender_70 wX_nextSender_80
          refine br_t rfl (nm_r (nI_1 _) (Hn ?_))
          rintro ⟨_, _, w⟩
          rcases w with ⟨_, _, w⟩ | ⟨w, _⟩ <;> omega
        · unfold wX_nextSender_80
          exact br_f (by decide) (Hy ⟨y1, y2, Or.inl ⟨y3, y4, y5⟩⟩)
  · exact nm_r (nI_1 _) (Hn (fun w => y2 w.2.1))
  · exact nm_r (nI_1 _) (Hn (fun w => y1 w.1))
theorem yo_may {s : Nat} {post : Int32 → Prop} (hs8 : s < 8) (hS : cr_S ya_how a_theyEnded ya_otherEnded ya_ended ya_finishing ya_code wi wo ql)
    (Hy : cr_may ya_how ya_ended ya_finishing wo ql s → post 1) (Hn : ¬ cr_may ya_how ya_ended ya_finishing wo ql s → post 0) :
    wpY_may post (yf_down, yf_heads, yf_paid, yf_payload, yf_wants, yf_name, yf_first, yf_counts, yf_enters, yf_most, yf_many, yf_sent, yf_last, yf_nodes, yf_values, yf_skipped, yf_pos, yf_there, yf_number, yf_at, ya_kind, ya_repeated, ya_how, ya_code, ya_coming, an_f wo, ya_type, ya_headers, ya_header, an_f ql, ya_otherEnded, ya_ended, ya_finishing, ya_queue, ya_prefix, ya_length, ya_got, ya_high, ya_whole, ya_has, ya_bytes, ya_frame, ya_payloads, ya_table, ya_out, ya_nodeType, ya_valueNode, ya_valueNumber, ya_value, ya_from, ya_limit, ya_inside, ya_sizes) (nI s) := by
  obtain ⟨g1, g2⟩ := xr_c8 hs8
  obtain ⟨s1, s2, s3, s4, s5, s6, s7, s8, s9, s10⟩ := hS.2 s hs8
  have h00 := (hS.2 0 (by omega)).2.2.2.2.2.1
  unfold wpY_may
  rw [g2]
  refine ⟨g1, br_c (fun y1 => ⟨g1, br_c (fun y2 => ⟨g1, ?_⟩) (fun y2 => Hn (fun w => y2 w.2.1))⟩) (fun y1 => Hn (fun w => y1 w.1))⟩
  refine pk_le (ql s) 0 (fun y3 => ⟨g1, ?_⟩) (fun y3 => ⟨g1, ?_⟩) rfl rfl (by omega) (by omega)
  · rcases s4 with w | w
    · rw [w]
      refine ⟨by rfl, Hn ?_⟩
      rintro ⟨_, _, v⟩
      rcases v with ⟨v, _⟩ | ⟨_, v⟩
      · omega
      · rw [w] at v; exact absurd v (by decide)
    · rw [w]
      exact ⟨by rfl, Hy ⟨y1, y2, Or.inr ⟨by omega, w⟩⟩⟩
  · refine pk_le (wo s) 0 (fun y4 => Hn ?_) (fun y4 => ?_) rfl rfl (by omega) (by omega)
    · rintro ⟨_, _, w⟩
      rcases w with ⟨_, w, _⟩ | ⟨w, _⟩ <;> omega
    · refine pk_le (wo 0) 0 (fun y5 => Hn ?_) (fun y5 => Hy ⟨y1, y2, Or.inl ⟨y3, y4, y5⟩⟩) rfl rfl (by omega) (by omega)
      rintro ⟨_, _, w⟩
      rcases w with ⟨_, _, w⟩ | ⟨w, _⟩ <;> omega
theorem yo_pp {n i b s : Nat} {post : SY → Prop} (hi : i < 7) (hb : b ≤ 7) (hs : s = b % 7 + 1) (hS : cr_S ya_how a_theyEnded ya_otherEnded ya_ended ya_finishing ya_code wi wo ql)
    (Hy : cr_may ya_how ya_ended ya_finishing wo ql s → ∀ P : SY → Prop, (∀ (yf_down : Int32) (yf_heads : Int32) (yf_paid : Int32) (yf_payload : Int32) (yf_wants : Int32) (yf_name : Int32) (yf_first : Int32) (yf_counts : Int32) (yf_enters : Int32) (yf_most : Int32) (yf_many : Int32) (yf_sent : Int32) (yf_last : Int32) (yf_nodes : Int32) (yf_values : Int32) (yf_skipped : Int32) (yf_pos : Int32) (yf_there : Int32) (yf_number : Int32) (yf_at : Int32) (ya_kind : Nat → Int32) (ya_repeated : Nat → Int32) (ya_how : Nat → Int32) (ya_code : Nat → Int32) (ya_coming : Nat → Int32) (ya_going : Nat → Int32) (ya_type : Nat → Int32) (ya_headers : Nat → Int32) (ya_header : Nat → Int32) (ya_queued : Nat → Int32) (ya_otherEnded : Nat → Int32) (ya_ended : Nat → Int32) (ya_finishing : Nat → Int32) (ya_queue : Nat → Int32) (ya_prefix : Nat → Int32) (ya_length : Nat → Int32) (ya_got : Nat → Int32) (ya_high : Nat → Int32) (ya_whole : Nat → Int32) (ya_has : Nat → Int32) (ya_bytes : Nat → Int32) (ya_frame : Nat → Int32) (ya_payloads : Nat → Int32) (ya_table : Nat → Int32) (ya_out : Nat → Int32) (ya_nodeType : Nat → Int32) (ya_valueNode : Nat → Int32) (ya_valueNumber : Nat → Int32) (ya_value : Nat → Int32) (ya_from : Nat → Int32) (ya_limit : Nat → Int32) (ya_inside : Nat → Int32) (ya_sizes : Nat → Int32), P (yf_down, yf_heads, yf_paid, yf_payload, yf_wants, yf_name, yf_first, yf_counts, yf_enters, yf_most, yf_many, yf_sent, yf_last, yf_nodes, yf_values, yf_skipped, yf_pos, yf_there, yf_number, yf_at, ya_kind, ya_repeated, ya_how, ya_code, ya_coming, ya_going, ya_type, ya_headers, ya_header, ya_queued, ya_otherEnded, ya_ended, ya_finishing, ya_queue, ya_prefix, ya_length, ya_got, ya_high, ya_whole, ya_has, ya_bytes, ya_frame, ya_payloads, ya_table, ya_out, ya_nodeType, ya_valueNode, ya_valueNumber, ya_value, ya_from, ya_limit, ya_inside, ya_sizes) = wY_pump_2 post n 0 yf_down yf_heads yf_paid yf_payload yf_wants yf_name yf_first yf_counts yf_enters yf_most yf_many yf_sent yf_last yf_nodes yf_values yf_skipped yf_pos yf_there yf_number yf_at ya_kind ya_repeated ya_how ya_code ya_coming ya_going ya_type ya_headers ya_header ya_queued ya_otherEnded ya_ended ya_finishing ya_queue ya_prefix ya_length ya_got ya_high ya_whole ya_has ya_bytes ya_frame ya_payloads ya_table ya_out ya_nodeType ya_valueNode ya_valueNumber ya_value ya_from ya_limit ya_inside ya_sizes) → wpY_send P (0, yf_heads, yf_paid, yf_payload, yf_wants, yf_name, yf_first, yf_counts, yf_enters, yf_most, yf_many, yf_sent, nI s, yf_nodes, yf_values, yf_skipped, yf_pos, yf_there, yf_number, yf_at, ya_kind, ya_repeated, ya_how, ya_code, ya_coming, an_f wo, ya_type, ya_headers, ya_header, an_f ql, ya_otherEnded, ya_ended, ya_finishing, ya_queue, ya_prefix, ya_length, ya_got, ya_high, ya_whole, ya_has, ya_bytes, ya_frame, ya_payloads, ya_table, ya_out, ya_nodeType, ya_valueNode, ya_valueNumber, ya_value, ya_from, ya_limit, ya_inside, ya_sizes) (nI s))
    (Hn : ¬ cr_may ya_how ya_ended ya_finishing wo ql s → wY_pump_2 post n (nI (i + 1)) (0) yf_heads yf_paid yf_payload yf_wants yf_name yf_first yf_counts yf_enters yf_most yf_many yf_sent (nI s) yf_nodes yf_values yf_skipped yf_pos yf_there yf_number yf_at ya_kind ya_repeated ya_how ya_code ya_coming (an_f wo) ya_type ya_headers ya_header (an_f ql) ya_otherEnded ya_ended ya_finishing ya_queue ya_prefix ya_length ya_got ya_high ya_whole ya_has ya_bytes ya_frame ya_payloads ya_table ya_out ya_nodeType ya_valueNode ya_valueNumber ya_value ya_from ya_limit ya_inside ya_sizes) :
    wY_pump_2 post (n + 1) (nI i) (0) yf_heads yf_paid yf_payload yf_wants yf_name yf_first yf_counts yf_enters yf_most yf_many yf_sent (nI b) yf_nodes yf_values yf_skipped yf_pos yf_there yf_number yf_at ya_kind ya_repeated ya_how ya_code ya_coming (an_f wo) ya_type ya_headers ya_header (an_f ql) ya_otherEnded ya_ended ya_finishing ya_queue ya_prefix ya_length ya_got ya_high ya_whole ya_has ya_bytes ya_frame ya_payloads ya_table ya_out ya_nodeType ya_valueNode ya_valueNumber ya_value ya_from ya_limit ya_inside ya_sizes := by
  rw [wY_pump_2]
  refine pk_le 7 i (fun y => absurd y (by omega)) (fun y => br_t rfl ⟨by decide, ?_⟩)
  have e : nI b - nI b / 7 * 7 + 1 = nI s := by
    have := pk_rem (a := b) (d := 7) (by omega) (by omega) (by omega)
    rw [show (7 : Int32) = nI 7 from rfl, this, nI_1, hs]
  refine nm_r e (yo_may (by omega) hS (fun w => ?_) (fun w => ?_))
  · refine br_f (by decide) ?_
    unfold wY_pump_48
    refine br_f (by decide) (Hy w _ ?_)
    intros; rfl
  · refine br_t rfl ?_
    unfold wY_pump_48
    refine br_t rfl ?_
    rw [nI_1]
    exact Hn w
theorem xo_nxL {n j : Nat} {post : Int32 → Prop} (hS : cr_S a_life a_theyEnded ya_otherEnded a_weEnded a_finishing a_codes wi wo ql) (hl : l ≤ 7) (hj : j ≤ 7)
    (hno : ∀ i, i < j → ¬ cr_may a_life a_weEnded a_finishing wo ql ((l + i) % 7 + 1))
    (H : wX_nextSender_2 post f_frameAt f_frameLength f_frameSort f_frameFlags f_frameStream f_down f_entryCount f_most f_typeSeen (nI l) f_sentLength a_payload a_life a_theyEnded a_weEnded a_finishing a_codes a_windowIn (an_f wo) a_headers a_headerCount a_entries a_kinds a_repeats a_messageCount a_text a_nodeCount a_nodeTypes a_valueCount a_valueOwners a_values a_skippedCount a_reader a_chainNode a_chainEnd a_queue (an_f ql) a_sent a_nodeSize a_nodePlace n (nI j)) : ∀ r k, k + r = j →
    wX_nextSender_2 post f_frameAt f_frameLength f_frameSort f_frameFlags f_frameStream f_down f_entryCount f_most f_typeSeen (nI l) f_sentLength a_payload a_life a_theyEnded a_weEnded a_finishing a_codes a_windowIn (an_f wo) a_headers a_headerCount a_entries a_kinds a_repeats a_messageCount a_text a_nodeCount a_nodeTypes a_valueCount a_valueOwners a_values a_skippedCount a_reader a_chainNode a_chainEnd a_queue (an_f ql) a_sent a_nodeSize a_nodePlace (n + r) (nI k)
  | 0, k, hk => by
    have : k = j := by omega
    subst this; exact H
  | r + 1, k, hk => xo_nx hS hl (by omega) (fun y => absurd y (by omega)) (fun _ y => absurd y (hno k (by omega))) (fun _ _ => xo_nxL hS hl hj hno H r (k + 1) (by omega))
/-- where the reference looks -/
def pu_b (l i : Nat) : Nat := if i = 0 then (if l = 0 then 7 else l) else (l + i - 1) % 7 + 1
theorem pu_b_s {l i : Nat} : pu_b l (i + 1) = pu_b l i % 7 + 1 := by
  unfold pu_b
  rw [if_neg (by omega)]
  split
  · split <;> omega
  · omega
theorem pu_b_le {l i : Nat} (hl : l ≤ 7) : pu_b l i ≤ 7 := by
  unfold pu_b
  split
  · split <;> omega
  · omega
theorem yo_ppL {n j : Nat} {post : SY → Prop} (hS : cr_S ya_how a_theyEnded ya_otherEnded ya_ended ya_finishing ya_code wi wo ql) (hl : l ≤ 7) (hj : j ≤ 7)
    (hno : ∀ i, i < j → ¬ cr_may ya_how ya_ended ya_finishing wo ql ((l + i) % 7 + 1))
    (H : wY_pump_2 post n (nI j) (0) yf_heads yf_paid yf_payload yf_wants yf_name yf_first yf_counts yf_enters yf_most yf_many yf_sent (nI (pu_b l j)) yf_nodes yf_values yf_skipped yf_pos yf_there yf_number yf_at ya_kind ya_repeated ya_how ya_code ya_coming (an_f wo) ya_type ya_headers ya_header (an_f ql) ya_otherEnded ya_ended ya_finishing ya_queue ya_prefix ya_length ya_got ya_high ya_whole ya_has ya_bytes ya_frame ya_payloads ya_table ya_out ya_nodeType ya_valueNode ya_valueNumber ya_value ya_from ya_limit ya_inside ya_sizes) : ∀ r i, i + r = j →
    wY_pump_2 post (n + r) (nI i) (0) yf_heads yf_paid yf_payload yf_wants yf_name yf_first yf_counts yf_enters yf_most yf_many yf_sent (nI (pu_b l i)) yf_nodes yf_values yf_skipped yf_pos yf_there yf_number yf_at ya_kind ya_repeated ya_how ya_code ya_coming (an_f wo) ya_type ya_headers ya_header (an_f ql) ya_otherEnded ya_ended ya_finishing ya_queue ya_prefix ya_length ya_got ya_high ya_whole ya_has ya_bytes ya_frame ya_payloads ya_table ya_out ya_nodeType ya_valueNode ya_valueNumber ya_value ya_from ya_limit ya_inside ya_sizes
  | 0, i, hi => by
    have : i = j := by omega
    subst this; exact H
  | r + 1, i, hi => by
    have hb : pu_b l (i + 1) = (l + i) % 7 + 1 := by
      unfold pu_b; rw [if_neg (by omega)]; rfl
    refine yo_pp (by omega) (pu_b_le hl) pu_b_s hS (fun y => ?_) (fun _ => yo_ppL hS hl hj hno H r (i + 1) (by omega))
    rw [hb] at y
    exact absurd y (hno i (by omega))
/-- the loops of both sides, to one end -/
theorem pu_main : ∀ N (a_life a_weEnded : Nat → Int32) (wo ql Q : Nat → Nat) (z : (Nat → Nat) × Nat) (l : Nat),
    cr_S a_life a_theyEnded ya_otherEnded a_weEnded a_finishing a_codes wi wo ql → ou_I z → cr_B Q → l ≤ 7 → pu_m a_life a_weEnded wo ≤ N →
    ∃ (life' we' : Nat → Int32) (wo' ql' Q' : Nat → Nat) (z' : (Nat → Nat) × Nat) (l' : Nat),
      cr_S life' a_theyEnded ya_otherEnded we' a_finishing a_codes wi wo' ql' ∧ ou_I z' ∧ cr_B Q' ∧ l' ≤ 7 ∧ cr_Q life' we' a_finishing wo' ql' ∧ (∀ s, life' s = a_life s ∨ (a_life s = 1 ∧ life' s = 2)) ∧
      (∀ (post : SX → Prop) turn n, turn + N < 100000 → N < n → post (f_frameAt, f_frameLength, f_frameSort, f_frameFlags, f_frameStream, f_down, f_entryCount, f_most, f_typeSeen, nI l', nI z'.2, a_payload, life', a_theyEnded, we', a_finishing, a_codes, a_windowIn, an_f wo', a_headers, a_headerCount, a_entries, a_kinds, a_repeats, a_messageCount, a_text, a_nodeCount, a_nodeTypes, a_valueCount, a_valueOwners, a_values, a_skippedCount, a_reader, a_chainNode, a_chainEnd, an_f Q', an_f ql', an_f z'.1, a_nodeSize, a_nodePlace) →
        wX_sendQueues_2 post n (nI turn) f_frameAt f_frameLength f_frameSort f_frameFlags f_frameStream f_down f_entryCount f_most f_typeSeen (nI l) (nI z.2) a_payload a_life a_theyEnded a_weEnded a_finishing a_codes a_windowIn (an_f wo) a_headers a_headerCount a_entries a_kinds a_repeats a_messageCount a_text a_nodeCount a_nodeTypes a_valueCount a_valueOwners a_values a_skippedCount a_reader a_chainNode a_chainEnd (an_f Q) (an_f ql) (an_f z.1) a_nodeSize a_nodePlace) ∧
      (∀ (a : yr_Z) (t : Int32) (post : SY → Prop) n, 8 * N + 8 ≤ n → post (0, yf_heads, yf_paid, yf_payload, yf_wants, yf_name, yf_first, yf_counts, yf_enters, yf_most, yf_many, nI z'.2, nI (if l' = 0 then 7 else l'), a.1, a.2.1, a.2.2.1, a.2.2.2.1, t, a.2.2.2.2.1, a.2.2.2.2.2.1, ya_kind, ya_repeated, life', a_codes, ya_coming, an_f wo', ya_type, ya_headers, ya_header, an_f ql', ya_otherEnded, we', a_finishing, an_g Q', ya_prefix, ya_length, ya_got, ya_high, ya_whole, ya_has, ya_bytes, ya_frame, ya_payloads, ya_table, an_g z'.1, a.2.2.2.2.2.2.1, a.2.2.2.2.2.2.2.1, a.2.2.2.2.2.2.2.2.1, a.2.2.2.2.2.2.2.2.2.1, a.2.2.2.2.2.2.2.2.2.2.1, a.2.2.2.2.2.2.2.2.2.2.2.1, a.2.2.2.2.2.2.2.2.2.2.2.2, ya_sizes) →
        wY_pump_2 post n 0 (0) yf_heads yf_paid yf_payload yf_wants yf_name yf_first yf_counts yf_enters yf_most yf_many (nI z.2) (nI (if l = 0 then 7 else l)) (a.1) (a.2.1) (a.2.2.1) (a.2.2.2.1) (t) (a.2.2.2.2.1) (a.2.2.2.2.2.1) ya_kind ya_repeated (a_life) (a_codes) ya_coming (an_f wo) ya_type ya_headers ya_header (an_f ql) ya_otherEnded (a_weEnded) (a_finishing) (an_g Q) ya_prefix ya_length ya_got ya_high ya_whole ya_has ya_bytes ya_frame ya_payloads ya_table (an_g z.1) (a.2.2.2.2.2.2.1) (a.2.2.2.2.2.2.2.1) (a.2.2.2.2.2.2.2.2.1) (a.2.2.2.2.2.2.2.2.2.1) (a.2.2.2.2.2.2.2.2.2.2.1) (a.2.2.2.2.2.2.2.2.2.2.2.1) (a.2.2.2.2.2.2.2.2.2.2.2.2) ya_sizes) := by
  have hnone : ∀ N (a_life a_weEnded : Nat → Int32) (wo ql Q : Nat → Nat) (z : (Nat → Nat) × Nat) (l : Nat), cr_S a_life a_theyEnded ya_otherEnded a_weEnded a_finishing a_codes wi wo ql → ou_I z → cr_B Q → l ≤ 7 →
      (∀ j, j < 7 → ¬ cr_may a_life a_weEnded a_finishing wo ql ((l + j) % 7 + 1)) →
    ∃ (life' we' : Nat → Int32) (wo' ql' Q' : Nat → Nat) (z' : (Nat → Nat) × Nat) (l' : Nat),
      cr_S life' a_theyEnded ya_otherEnded we' a_finishing a_codes wi wo' ql' ∧ ou_I z' ∧ cr_B Q' ∧ l' ≤ 7 ∧ cr_Q life' we' a_finishing wo' ql' ∧ (∀ s, life' s = a_life s ∨ (a_life s = 1 ∧ life' s = 2)) ∧
      (∀ (post : SX → Prop) turn n, turn + N < 100000 → N < n → post (f_frameAt, f_frameLength, f_frameSort, f_frameFlags, f_frameStream, f_down, f_entryCount, f_most, f_typeSeen, nI l', nI z'.2, a_payload, life', a_theyEnded, we', a_finishing, a_codes, a_windowIn, an_f wo', a_headers, a_headerCount, a_entries, a_kinds, a_repeats, a_messageCount, a_text, a_nodeCount, a_nodeTypes, a_valueCount, a_valueOwners, a_values, a_skippedCount, a_reader, a_chainNode, a_chainEnd, an_f Q', an_f ql', an_f z'.1, a_nodeSize, a_nodePlace) →
        wX_sendQueues_2 post n (nI turn) f_frameAt f_frameLength f_frameSort f_frameFlags f_frameStream f_down f_entryCount f_most f_typeSeen (nI l) (nI z.2) a_payload a_life a_theyEnded a_weEnded a_finishing a_codes a_windowIn (an_f wo) a_headers a_headerCount a_entries a_kinds a_repeats a_messageCount a_text a_nodeCount a_nodeTypes a_valueCount a_valueOwners a_values a_skippedCount a_reader a_chainNode a_chainEnd (an_f Q) (an_f ql) (an_f z.1) a_nodeSize a_nodePlace) ∧
      (∀ (a : yr_Z) (t : Int32) (post : SY → Prop) n, 8 * N + 8 ≤ n → post (0, yf_heads, yf_paid, yf_payload, yf_wants, yf_name, yf_first, yf_counts, yf_enters, yf_most, yf_many, nI z'.2, nI (if l' = 0 then 7 else l'), a.1, a.2.1, a.2.2.1, a.2.2.2.1, t, a.2.2.2.2.1, a.2.2.2.2.2.1, ya_kind, ya_repeated, life', a_codes, ya_coming, an_f wo', ya_type, ya_headers, ya_header, an_f ql', ya_otherEnded, we', a_finishing, an_g Q', ya_prefix, ya_length, ya_got, ya_high, ya_whole, ya_has, ya_bytes, ya_frame, ya_payloads, ya_table, an_g z'.1, a.2.2.2.2.2.2.1, a.2.2.2.2.2.2.2.1, a.2.2.2.2.2.2.2.2.1, a.2.2.2.2.2.2.2.2.2.1, a.2.2.2.2.2.2.2.2.2.2.1, a.2.2.2.2.2.2.2.2.2.2.2.1, a.2.2.2.2.2.2.2.2.2.2.2.2, ya_sizes) →
        wY_pump_2 post n 0 (0) yf_heads yf_paid yf_payload yf_wants yf_name yf_first yf_counts yf_enters yf_most yf_many (nI z.2) (nI (if l = 0 then 7 else l)) (a.1) (a.2.1) (a.2.2.1) (a.2.2.2.1) (t) (a.2.2.2.2.1) (a.2.2.2.2.2.1) ya_kind ya_repeated (a_life) (a_codes) ya_coming (an_f wo) ya_type ya_headers ya_header (an_f ql) ya_otherEnded (a_weEnded) (a_finishing) (an_g Q) ya_prefix ya_length ya_got ya_high ya_whole ya_has ya_bytes ya_frame ya_payloads ya_table (an_g z.1) (a.2.2.2.2.2.2.1) (a.2.2.2.2.2.2.2.1) (a.2.2.2.2.2.2.2.2.1) (a.2.2.2.2.2.2.2.2.2.1) (a.2.2.2.2.2.2.2.2.2.2.1) (a.2.2.2.2.2.2.2.2.2.2.2.1) (a.2.2.2.2.2.2.2.2.2.2.2.2) ya_sizes) := by
    intro N a_life a_weEnded wo ql Q z l hS hO hQ hl hno
    refine ⟨a_life, a_weEnded, wo, ql, Q, z, l, hS, hO, hQ, hl, ?_, fun s => Or.inl rfl, ?_, ?_⟩
    · intro s h1 h8 hm
      have := hno ((s + 13 - l) % 7) (by omega)
      rw [show (l + (s + 13 - l) % 7) % 7 + 1 = s by omega] at this
      exact this hm
    · intro post turn n ht hn H
      obtain ⟨n, rfl⟩ : ∃ m, n = m + 1 := ⟨n - 1, by omega⟩
      rw [wX_sendQueues_2]
      refine pk_le 100000 turn (fun y => absurd y (by omega)) (fun _ => ?_)
      unfold wpX_nextSender
      refine ⟨1 + 7, xo_nxL hS hl (Nat.le_refl _) hno ?_ 7 0 rfl⟩
      rw [wX_nextSender_2]
      exact br_t (by decide) (br_t rfl H)
    · intro a t post n hn H
      obtain ⟨n, rfl⟩ : ∃ m, n = (m + 1) + 7 := ⟨n - 8, by omega⟩
      refine yo_ppL (n := n + 1) (j := 7) hS hl (Nat.le_refl _) hno ?_ 7 0 rfl
      rw [wY_pump_2]
      have e : pu_b l 7 = if l = 0 then 7 else l := by
        unfold pu_b
        rw [if_neg (by omega)]
        split <;> omega
      rw [e]
      exact br_t (by decide) H
  intro N
  induction N with
  | zero =>
    intro a_life a_weEnded wo ql Q z l hS hO hQ hl hm
    refine hnone 0 a_life a_weEnded wo ql Q z l hS hO hQ hl (fun j hj y => ?_)
    have := pu_m_lt hS (by omega) (by omega) y rfl rfl
    omega
  | succ N ih =>
    intro a_life a_weEnded wo ql Q z l hS hO hQ hl hm
    by_cases hex : ∃ j, j < 7 ∧ cr_may a_life a_weEnded a_finishing wo ql ((l + j) % 7 + 1)
    · obtain ⟨j, ⟨hj, hy⟩, hmin⟩ := pu_least _ hex
      have hno : ∀ i, i < j → ¬ cr_may a_life a_weEnded a_finishing wo ql ((l + i) % 7 + 1) := fun i hi y => hmin i hi ⟨by omega, y⟩
      have hs1 : 1 ≤ (l + j) % 7 + 1 := by omega
      have hs8 : (l + j) % 7 + 1 < 8 := by omega
      have hlt := pu_m_lt hS hs1 hs8 hy rfl rfl
      have hS' := pu_S hS hs1 hs8 hy rfl rfl
      obtain ⟨n1, n2, n3, n4⟩ := sd_n_le ql wo ((l + j) % 7 + 1)
      have hsl : sd_l a_finishing ql wo ((l + j) % 7 + 1) ≤ 1 := by
        unfold sd_l
        split
        · omega
        · split <;> omega
      generalize hs : (l + j) % 7 + 1 = s at *
      generalize hn : sd_n ql wo s = n at *
      generalize hll : sd_l a_finishing ql wo s = ll at *
      obtain ⟨s1, s2, s3, s4, s5, s6, s7, s8, s9, s10⟩ := hS.2 s hs8
      have h00 := (hS.2 0 (by omega)).2.2.2.2.2.1
      have hot : ya_otherEnded s = a_theyEnded s := s8 (by rw [hy.1]; decide)
      have hO' : ou_I (sd_z z Q s n ll) := by
        unfold sd_z
        refine ou_L_I (ou_L_I hO ?_) ?_
        · intro b hb
          simp only [List.mem_cons, List.not_mem_nil, or_false] at hb
          rcases hb with hb | hb | hb | hb <;> omega
        · intro b hb
          unfold sd_bs at hb
          obtain ⟨i, _, rfl⟩ := List.mem_map.mp hb
          exact hQ _
      have hQ' : cr_B (sd_Q Q s n (ql s)) := by
        intro i
        unfold sd_Q
        split
        · exact hQ _
        · exact hQ _
      obtain ⟨life', we', wo', ql', Q', z', l', r1, r2, r3, r4, r5, r6, r7, r8⟩ := ih _ _ _ _ _ _ s hS' hO' hQ' (by omega) (by omega)
      refine ⟨life', we', wo', ql', Q', z', l', r1, r2, r3, r4, r5, fun i => ?_, ?_, ?_⟩
      · have : sd_li a_life a_theyEnded s ll i = a_life i ∨ (a_life i = 1 ∧ sd_li a_life a_theyEnded s ll i = 2) := by
          unfold sd_li
          split
          · exact Or.inl rfl
          · by_cases y : i = s
            · subst y; right; exact ⟨hy.1, by rw [pm_upd_eq, if_pos rfl]⟩
            · left; rw [pm_upd_eq, if_neg y]
        rcases r6 i with y | ⟨y, y'⟩
        · rw [y]; exact this
        · rcases this with w | ⟨w, w'⟩
          · rw [w] at y; exact Or.inr ⟨y, y'⟩
          · rw [w'] at y; exact absurd y (by decide)
      · intro post turn m ht hmm H
        obtain ⟨m, rfl⟩ : ∃ m', m = m' + 1 := ⟨m - 1, by omega⟩
        rw [wX_sendQueues_2]
        refine pk_le 100000 turn (fun y => absurd y (by omega)) (fun _ => ?_)
        unfold wpX_nextSender
        refine ⟨1 + j, xo_nxL (n := 1) hS hl (by omega) hno ?_ j 0 (by omega)⟩
        refine xo_nx hS hl (by omega) (fun y => absurd y (by omega)) (fun _ _ => ?_) (fun _ y => absurd (by rw [hs]; exact hy) y)
        rw [hs]
        refine br_f (fun y => ?_) ?_
        · have := (nI_eq (a := s) (b := 0) (by omega) (by omega)).mp y
          omega
        · exact xo_sendData (by omega) hs8 s7 s6 h00 hO.1 hn.symm hll.symm (nm_r (nI_1 _) (r7 post (turn + 1) m (by omega) (by omega) H))
      · intro a t post m hmm H
        obtain ⟨m, rfl⟩ : ∃ m', m = (m' + 1) + j := ⟨m - j - 1, by omega⟩
        refine yo_ppL (n := m + 1) (j := j) hS hl (by omega) hno ?_ j 0 (by omega)
        have hb : pu_b l j % 7 + 1 = s := by
          rw [← pu_b_s]; unfold pu_b; rw [if_neg (by omega)]; exact hs
        refine yo_pp hj (pu_b_le hl) hb.symm hS (fun _ P hP => ?_) (fun y => absurd hy y)
        refine yo_send (by omega) hs8 s7 s6 h00 hO.1 hn.symm hll.symm (fun y1 y2 => ⟨s9 (by rw [hy.1]; decide) (by omega), ?_⟩) ?_
        · rw [← hll] at y1
          unfold sd_l at y1
          split at y1
          · omega
          · split at y1
            · rename_i w; rw [← hn]; exact w
            · omega
        · rw [hP]
          have e : sd_li a_life ya_otherEnded s ll = sd_li a_life a_theyEnded s ll := by
            unfold sd_li; rw [hot]
          rw [e]
          have := r8 a t post m (by omega) H
          rw [if_neg (by omega)] at this
          exact this
    · exact hnone (N + 1) a_life a_weEnded wo ql Q z l hS hO hQ hl (fun j hj y => hex ⟨j, hj, y⟩)
end
end
section
/-! U: calls that change little -/
section
variable {f_frameAt f_frameLength f_frameSort f_frameFlags f_frameStream f_down f_entryCount f_most f_typeSeen f_lastSender f_sentLength : Int32} {a_payload a_life a_theyEnded a_weEnded a_finishing a_codes a_windowIn a_windowOut a_headers a_headerCount a_entries a_kinds a_repeats a_messageCount a_text a_nodeCount a_nodeTypes a_valueCount a_valueOwners a_values a_skippedCount a_reader a_chainNode a_chainEnd a_queue a_queueLength a_sent a_nodeSize a_nodePlace : Nat → Int32} {yf_down yf_heads yf_paid yf_payload yf_wants yf_name yf_first yf_counts yf_enters yf_most yf_many yf_sent yf_last yf_nodes yf_values yf_skipped yf_pos yf_there yf_number yf_at : Int32} {ya_kind ya_repeated ya_how ya_code ya_coming ya_going ya_type ya_headers ya_header ya_queued ya_otherEnded ya_ended ya_finishing ya_queue ya_prefix ya_length ya_got ya_high ya_whole ya_has ya_bytes ya_frame ya_payloads ya_table ya_out ya_nodeType ya_valueNode ya_valueNumber ya_value ya_from ya_limit ya_inside ya_sizes : Nat → Int32}
theorem cr_m_life {k : Nat} {K : Nat → Nat} {R : Nat → Bool} {s : Nat} {tx : Nat → Nat} {life life' mc nc nt vc vo va sk rd cn ce ty le go hi ha pr : Nat → Int32}
    (h' : life' s = life s ∨ (life s ≠ 0 ∧ life' s = 2)) (h : cr_m k K R s tx life mc nc nt vc vo va sk rd cn ce ty le go hi ha pr) : cr_m k K R s tx life' mc nc nt vc vo va sk rd cn ce ty le go hi ha pr := by
  obtain ⟨p, m, y, h1, h2, h3, h4, h5, h6, h7, h8, h9, h10, h11, h12⟩ := h
  rcases h' with e | ⟨e1, e2⟩
  · exact ⟨p, m, y, h1, h2, h3, h4, h5, h6, h7, by rw [e]; exact h8, h9, by rw [e]; exact h10, h11, by rw [e]; exact h12⟩
  · refine ⟨p, m, y, h1, h2, h3, h4, h5, h6, h7, fun w => ?_, h9, fun w => ?_, h11, fun _ w => ?_⟩
    · rw [e2] at w; exact absurd w (by decide)
    · rcases w with w | w
      · rw [e2] at w; exact absurd w (by decide)
      · exact h10 (Or.inr w)
    · rw [e2] at w; exact absurd w (by decide)
theorem cr_F_life {life life' fr pl pls : Nat → Int32} {fAt n so fl st h p : Nat} {counts wants first : Int32} (h' : ∀ s, life' s = life s ∨ (life s ≠ 0 ∧ life' s = 2))
    (H : cr_F life fr pl pls fAt n so fl st h p counts wants first) : cr_F life' fr pl pls fAt n so fl st h p counts wants first := by
  obtain ⟨f1, f2, f3, f4, f5, f6, f7, f8, f9⟩ := H
  refine ⟨f1, f2, f3, f4, f5, f6, f7, f8, ?_⟩
  rcases f9 with f9 | ⟨g1, g2, g3, g4, g5, g6, g7, g8, g9, g10, g11, g12, g13⟩
  · exact Or.inl f9
  · have hne : life st ≠ 0 → life' st ≠ 0 := by
      intro w
      rcases h' st with e | ⟨_, e⟩
      · rw [e]; exact w
      · rw [e]; decide
    refine Or.inr ⟨g1, g2, g3, g4, g5, fun w => ?_, g7, g8, g9, g10, g11, fun w w' => hne (g12 w w'), g13⟩
    obtain ⟨a1, a2, a3⟩ := g6 w
    refine ⟨a1, hne a2, ?_⟩
    rcases a3 with a3 | ⟨a3, a4⟩
    · exact Or.inl a3
    · refine Or.inr ⟨a3, ?_⟩
      rcases h' st with e | ⟨_, e⟩
      · rw [e]; exact a4
      · exact e
/-- a stream is shut -/
theorem cr_S_shut {life th ot we fi co : Nat → Int32} {wi wo ql : Nat → Nat} {s : Nat} {x : Int32} (hs0 : 0 < s) (hS : cr_S life th ot we fi co wi wo ql) :
    cr_S (upd life s 2) th ot we fi (upd co s x) wi wo (pm_u ql s 0) := by
  refine ⟨by rw [pm_upd_eq, if_neg (by omega)]; exact hS.1, fun i hi => ?_⟩
  obtain ⟨s1, s2, s3, s4, s5, s6, s7, s8, s9, s10⟩ := hS.2 i hi
  by_cases y : i = s
  · subst y
    rw [pm_upd_eq, if_pos rfl, pm_us, pm_upd_eq, if_pos rfl]
    exact ⟨Or.inr (Or.inr rfl), s2, s3, s4, s5, s6, by omega, fun w => absurd rfl w, fun w => absurd rfl w, fun w => ⟨(s10 w).1, rfl⟩⟩
  · rw [pm_upd_eq, if_neg y, pm_un y, pm_upd_eq, if_neg y]
    exact ⟨s1, s2, s3, s4, s5, s6, s7, s8, s9, s10⟩
theorem cr_Q_shut {life we fi : Nat → Int32} {wo ql : Nat → Nat} {s : Nat} (h : cr_Q life we fi wo ql) : cr_Q (upd life s 2) we fi wo (pm_u ql s 0) := by
  intro i h1 h8 hm
  by_cases y : i = s
  · subst y
    have := hm.1
    rw [pm_upd_eq, if_pos rfl] at this
    exact absurd this (by decide)
  · refine h i h1 h8 ?_
    obtain ⟨a, b, c⟩ := hm
    rw [pm_upd_eq, if_neg y] at a
    rw [pm_un y] at c
    exact ⟨a, b, c⟩
theorem cr_l2 {life : Nat → Int32} {s : Nat} (h : life s ≠ 0) : ∀ i, upd life s 2 i = life i ∨ (life i ≠ 0 ∧ upd life s 2 i = 2) := by
  intro i
  by_cases y : i = s
  · subst y; right; exact ⟨h, by rw [pm_upd_eq, if_pos rfl]⟩
  · left; rw [pm_upd_eq, if_neg y]
theorem xs_open_t {post : Int32 → Prop} {s : Nat} (h1 : 1 ≤ s) (h8 : s < 8) (ho : a_life s = 1) (h : post 1) : wpX_isOpen post (f_frameAt, f_frameLength, f_frameSort, f_frameFlags, f_frameStream, f_down, f_entryCount, f_most, f_typeSeen, f_lastSender, f_sentLength, a_payload, a_life, a_theyEnded, a_weEnded, a_finishing, a_codes, a_windowIn, a_windowOut, a_headers, a_headerCount, a_entries, a_kinds, a_repeats, a_messageCount, a_text, a_nodeCount, a_nodeTypes, a_valueCount, a_valueOwners, a_values, a_skippedCount, a_reader, a_chainNode, a_chainEnd, a_queue, a_queueLength, a_sent, a_nodeSize, a_nodePlace) (nI s) := by
  obtain ⟨g1, g2, g3, g4, g5⟩ := lk_s s h8
  unfold wpX_isOpen
  rw [g5]
  exact br_f (g4 h1).1 (br_f g3 ⟨lk_in h8, br_t ho h⟩)
theorem xs_open_f {post : Int32 → Prop} {s : Nat} (h1 : 1 ≤ s) (h8 : s < 8) (ho : ¬ a_life s = 1) (h : post 0) : wpX_isOpen post (f_frameAt, f_frameLength, f_frameSort, f_frameFlags, f_frameStream, f_down, f_entryCount, f_most, f_typeSeen, f_lastSender, f_sentLength, a_payload, a_life, a_theyEnded, a_weEnded, a_finishing, a_codes, a_windowIn, a_windowOut, a_headers, a_headerCount, a_entries, a_kinds, a_repeats, a_messageCount, a_text, a_nodeCount, a_nodeTypes, a_valueCount, a_valueOwners, a_values, a_skippedCount, a_reader, a_chainNode, a_chainEnd, a_queue, a_queueLength, a_sent, a_nodeSize, a_nodePlace) (nI s) := by
  obtain ⟨g1, g2, g3, g4, g5⟩ := lk_s s h8
  unfold wpX_isOpen
  rw [g5]
  exact br_f (g4 h1).1 (br_f g3 ⟨lk_in h8, br_f ho h⟩)
theorem xs_open_n {post : Int32 → Prop} {x : Int32} (hx : x < 1 ∨ (¬ x < 1 ∧ 7 < x)) (h : post 0) : wpX_isOpen post (f_frameAt, f_frameLength, f_frameSort, f_frameFlags, f_frameStream, f_down, f_entryCount, f_most, f_typeSeen, f_lastSender, f_sentLength, a_payload, a_life, a_theyEnded, a_weEnded, a_finishing, a_codes, a_windowIn, a_windowOut, a_headers, a_headerCount, a_entries, a_kinds, a_repeats, a_messageCount, a_text, a_nodeCount, a_nodeTypes, a_valueCount, a_valueOwners, a_values, a_skippedCount, a_reader, a_chainNode, a_chainEnd, a_queue, a_queueLength, a_sent, a_nodeSize, a_nodePlace) x := by
  unfold wpX_isOpen
  rcases hx with g | ⟨g1, g2⟩
  · exact br_t g h
  · exact br_f g1 (br_t g2 h)
theorem ys_open_t {post : Int32 → Prop} {s : Nat} (h1 : 1 ≤ s) (h8 : s < 8) (ho : ya_how s = 1) (hd : yf_down = 0) (h : post 1) : wpY_isOpen post (yf_down, yf_heads, yf_paid, yf_payload, yf_wants, yf_name, yf_first, yf_counts, yf_enters, yf_most, yf_many, yf_sent, yf_last, yf_nodes, yf_values, yf_skipped, yf_pos, yf_there, yf_number, yf_at, ya_kind, ya_repeated, ya_how, ya_code, ya_coming, ya_going, ya_type, ya_headers, ya_header, ya_queued, ya_otherEnded, ya_ended, ya_finishing, ya_queue, ya_prefix, ya_length, ya_got, ya_high, ya_whole, ya_has, ya_bytes, ya_frame, ya_payloads, ya_table, ya_out, ya_nodeType, ya_valueNode, ya_valueNumber, ya_value, ya_from, ya_limit, ya_inside, ya_sizes) (nI s) := by
  obtain ⟨g1, g2, g3, g4, g5⟩ := lk_s s h8
  unfold wpY_isOpen
  rw [g5]
  exact yn_in (g4 h1).1 g2 (br_t rfl ⟨lk_in h8, br_t ho (br_t hd h)⟩)
theorem ys_open_f {post : Int32 → Prop} {s : Nat} (h1 : 1 ≤ s) (h8 : s < 8) (ho : ¬ ya_how s = 1 ∨ ¬ yf_down = 0) (h : post 0) : wpY_isOpen post (yf_down, yf_heads, yf_paid, yf_payload, yf_wants, yf_name, yf_first, yf_counts, yf_enters, yf_most, yf_many, yf_sent, yf_last, yf_nodes, yf_values, yf_skipped, yf_pos, yf_there, yf_number, yf_at, ya_kind, ya_repeated, ya_how, ya_code, ya_coming, ya_going, ya_type, ya_headers, ya_header, ya_queued, ya_otherEnded, ya_ended, ya_finishing, ya_queue, ya_prefix, ya_length, ya_got, ya_high, ya_whole, ya_has, ya_bytes, ya_frame, ya_payloads, ya_table, ya_out, ya_nodeType, ya_valueNode, ya_valueNumber, ya_value, ya_from, ya_limit, ya_inside, ya_sizes) (nI s) := by
  obtain ⟨g1, g2, g3, g4, g5⟩ := lk_s s h8
  unfold wpY_isOpen
  rw [g5]
  refine yn_in (g4 h1).1 g2 (br_t rfl ⟨lk_in h8, ?_⟩)
  by_cases y : ya_how s = 1
  · rcases ho with w | w
    · exact absurd y w
    · exact br_t y (br_f w h)
  · exact br_f y h
theorem ys_open_n {post : Int32 → Prop} {x : Int32} (hx : x < 1 ∨ (¬ x < 1 ∧ ¬ x ≤ 7)) (h : post 0) : wpY_isOpen post (yf_down, yf_heads, yf_paid, yf_payload, yf_wants, yf_name, yf_first, yf_counts, yf_enters, yf_most, yf_many, yf_sent, yf_last, yf_nodes, yf_values, yf_skipped, yf_pos, yf_there, yf_number, yf_at, ya_kind, ya_repeated, ya_how, ya_code, ya_coming, ya_going, ya_type, ya_headers, ya_header, ya_queued, ya_otherEnded, ya_ended, ya_finishing, ya_queue, ya_prefix, ya_length, ya_got, ya_high, ya_whole, ya_has, ya_bytes, ya_frame, ya_payloads, ya_table, ya_out, ya_nodeType, ya_valueNode, ya_valueNumber, ya_value, ya_from, ya_limit, ya_inside, ya_sizes) x := by
  unfold wpY_isOpen
  rcases hx with g | ⟨g1, g2⟩
  · exact yn_lo g (br_f (by decide) h)
  · exact yn_hi g1 g2 (br_f (by decide) h)
theorem yo_quiet {l : Nat} {wo ql wi : Nat → Nat} {post : SY → Prop} (hS : cr_S ya_how a_theyEnded ya_otherEnded ya_ended ya_finishing ya_code wi wo ql) (hl : l ≤ 7) (hq : cr_Q ya_how ya_ended ya_finishing wo ql)
    (H : post (0, yf_heads, yf_paid, yf_payload, yf_wants, yf_name, yf_first, yf_counts, yf_enters, yf_most, yf_many, yf_sent, nI (if l = 0 then 7 else l), yf_nodes, yf_values, yf_skipped, yf_pos, yf_there, yf_number, yf_at, ya_kind, ya_repeated, ya_how, ya_code, ya_coming, an_f wo, ya_type, ya_headers, ya_header, an_f ql, ya_otherEnded, ya_ended, ya_finishing, ya_queue, ya_prefix, ya_length, ya_got, ya_high, ya_whole, ya_has, ya_bytes, ya_frame, ya_payloads, ya_table, ya_out, ya_nodeType, ya_valueNode, ya_valueNumber, ya_value, ya_from, ya_limit, ya_inside, ya_sizes)) :
    wpY_pump post (0, yf_heads, yf_paid, yf_payload, yf_wants, yf_name, yf_first, yf_counts, yf_enters, yf_most, yf_many, yf_sent, nI (if l = 0 then 7 else l), yf_nodes, yf_values, yf_skipped, yf_pos, yf_there, yf_number, yf_at, ya_kind, ya_repeated, ya_how, ya_code, ya_coming, an_f wo, ya_type, ya_headers, ya_header, an_f ql, ya_otherEnded, ya_ended, ya_finishing, ya_queue, ya_prefix, ya_length, ya_got, ya_high, ya_whole, ya_has, ya_bytes, ya_frame, ya_payloads, ya_table, ya_out, ya_nodeType, ya_valueNode, ya_valueNumber, ya_value, ya_from, ya_limit, ya_inside, ya_sizes) := by
  unfold wpY_pump
  refine ⟨1 + 7, yo_ppL (n := 1) (j := 7) hS hl (Nat.le_refl _) (fun i _ => hq _ (by omega) (by omega)) ?_ 7 0 rfl⟩
  rw [wY_pump_2]
  have e : pu_b l 7 = if l = 0 then 7 else l := by
    unfold pu_b
    rw [if_neg (by omega)]
    split <;> omega
  rw [e]
  exact br_t (by decide) H
theorem i_vc_cancel {k : Nat} {u : SX} {v : SY} (I : i_Rel k u v) (hk : k + 6 ≤ 3072) (v1 : Int32) (v2 : Int32) : wpX_cancel (fun r u' => wpY_cancel (fun r' v' => r' = r ∧ i_Rel (k + 6) u' v') v v1 v2) u v1 v2 := by
  have J := i_up I
  obtain ⟨⟨⟨K, R, z⟩, ⟨fAt, n, so, fl, st, h, p, m, M, l⟩, ⟨wi, wo, ql, hc, Q, tx⟩, ⟨f_down, f_typeSeen, yf_payload, yf_wants, yf_name, yf_first, yf_counts, yf_enters, yf_nodes, yf_values, yf_skipped, yf_pos, yf_there, yf_number, yf_at⟩, ⟨a_payload, a_life, a_theyEnded, a_weEnded, a_finishing, a_codes, a_headers, a_entries, a_kinds, a_repeats, a_messageCount⟩, ⟨a_nodeCount, a_nodeTypes, a_valueCount, a_valueOwners, a_values, a_skippedCount, a_reader, a_chainNode, a_chainEnd, a_nodeSize, a_nodePlace⟩, ⟨ya_type, ya_otherEnded, ya_prefix, ya_length, ya_got, ya_high, ya_has, ya_frame, ya_payloads⟩, ⟨ya_table, ya_nodeType, ya_valueNode, ya_valueNumber, ya_value, ya_from, ya_limit, ya_inside, ya_sizes⟩⟩, rfl, rfl, hD, hl, hH, hO, hQ, hX, hS, hq, hT, hK, hF, hM⟩ := I
  dsimp only [cr_x, cr_y] at J ⊢
  have HN : (∀ s, s < 8 → v1 = nI s → 1 ≤ s → (¬ a_life s = 1 ∨ ¬ f_down = 0)) → wpY_cancel (fun r' v' => r' = 0 ∧ i_Rel (k + 6) (nI fAt, nI n, nI so, nI fl, nI st, f_down, nI m, nI M, f_typeSeen, nI l, nI z.2, a_payload, a_life, a_theyEnded, a_weEnded, a_finishing, a_codes, an_f wi, an_f wo, a_headers, an_f hc, a_entries, a_kinds, a_repeats, a_messageCount, an_f tx, a_nodeCount, a_nodeTypes, a_valueCount, a_valueOwners, a_values, a_skippedCount, a_reader, a_chainNode, a_chainEnd, an_f Q, an_f ql, an_f z.1, a_nodeSize, a_nodePlace) v') (f_down, nI h, nI p, yf_payload, yf_wants, yf_name, yf_first, yf_counts, yf_enters, nI M, nI m, nI z.2, nI (if l = 0 then 7 else l), yf_nodes, yf_values, yf_skipped, yf_pos, yf_there, yf_number, yf_at, a_kinds, a_repeats, a_life, a_codes, an_f wi, an_f wo, ya_type, an_f hc, a_headers, an_f ql, ya_otherEnded, a_weEnded, a_finishing, an_g Q, ya_prefix, ya_length, ya_got, ya_high, a_messageCount, ya_has, an_g tx, ya_frame, ya_payloads, ya_table, an_g z.1, ya_nodeType, ya_valueNode, ya_valueNumber, ya_value, ya_from, ya_limit, ya_inside, ya_sizes) v1 v2 := by
    intro hno
    unfold wpY_cancel
    rcases lk_c v1 with ⟨h1, h2, h3, h4⟩ | ⟨h1, h2, h3, h4, h5⟩ | ⟨s, hs, rfl⟩
    · exact ys_open_n (Or.inl h2) (br_t rfl ⟨rfl, J⟩)
    · exact ys_open_n (Or.inr ⟨h2, h3⟩) (br_t rfl ⟨rfl, J⟩)
    · by_cases h0 : s = 0
      · subst h0
        exact ys_open_n (Or.inl (by decide)) (br_t rfl ⟨rfl, J⟩)
      · exact ys_open_f (by omega) hs (hno s hs rfl (by omega)) (br_t rfl ⟨rfl, J⟩)
  unfold wpX_cancel
  refine br_c (fun hd => ?_) (fun hd => HN (fun s _ _ _ => Or.inr hd))
  rcases lk_c v1 with ⟨h1, h2, h3, h4⟩ | ⟨h1, h2, h3, h4, h5⟩ | ⟨s, hs, rfl⟩
  · exact xs_open_n (Or.inl h2) (br_t rfl (HN (fun s hs e _ => by
      rw [e] at h1; exact absurd h1 (lk_s s hs).1)))
  · exact xs_open_n (Or.inr ⟨h2, h4⟩) (br_t rfl (HN (fun s hs e _ => by
      rw [e] at h4; exact absurd h4 (lk_s s hs).2.2.1)))
  · by_cases h0 : s = 0
    · subst h0
      exact xs_open_n (Or.inl (by decide)) (br_t rfl (HN (fun s' hs' e h1' => by
        have := (nI_eq (a := 0) (b := s') (by omega) (by omega)).mp e
        omega)))
    · by_cases ho : a_life s = 1
      · have HN2 : ¬ (¬ v2 < 20 ∧ v2 ≤ 99) → wpY_cancel (fun r' v' => r' = 0 ∧ i_Rel (k + 6) (nI fAt, nI n, nI so, nI fl, nI st, f_down, nI m, nI M, f_typeSeen, nI l, nI z.2, a_payload, a_life, a_theyEnded, a_weEnded, a_finishing, a_codes, an_f wi, an_f wo, a_headers, an_f hc, a_entries, a_kinds, a_repeats, a_messageCount, an_f tx, a_nodeCount, a_nodeTypes, a_valueCount, a_valueOwners, a_values, a_skippedCount, a_reader, a_chainNode, a_chainEnd, an_f Q, an_f ql, an_f z.1, a_nodeSize, a_nodePlace) v') (f_down, nI h, nI p, yf_payload, yf_wants, yf_name, yf_first, yf_counts, yf_enters, nI M, nI m, nI z.2, nI (if l = 0 then 7 else l), yf_nodes, yf_values, yf_skipped, yf_pos, yf_there, yf_number, yf_at, a_kinds, a_repeats, a_life, a_codes, an_f wi, an_f wo, ya_type, an_f hc, a_headers, an_f ql, ya_otherEnded, a_weEnded, a_finishing, an_g Q, ya_prefix, ya_length, ya_got, ya_high, a_messageCount, ya_has, an_g tx, ya_frame, ya_payloads, ya_table, an_g z.1, ya_nodeType, ya_valueNode, ya_valueNumber, ya_value, ya_from, ya_limit, ya_inside, ya_sizes) (nI s) v2 := by
          intro hno
          unfold wpY_cancel
          refine ys_open_t (by omega) hs ho hd (br_f (by decide) ?_)
          by_cases y : v2 < 20
          · exact yn_lo y (br_f (by decide) ⟨rfl, J⟩)
          · exact yn_hi y (fun w => hno ⟨y, w⟩) (br_f (by decide) ⟨rfl, J⟩)
        refine xs_open_t (by omega) hs ho (br_f (by decide) (br_c (fun y => HN2 (fun w => w.1 y)) (fun y => br_c (fun y2 => ?_) (fun y2 => HN2 (fun w => y2 w.2)))))
        obtain ⟨c, hc99, rfl⟩ : ∃ c, c ≤ 99 ∧ v2 = nI c := nI_of2 (M := 99) (n := 99) (by decide) (fun w => y (Int32.lt_trans w (by decide))) y2
        refine xo_failS hs hO.1 ?_
        unfold wpY_cancel
        refine ys_open_t (by omega) hs ho hd (br_f (by decide) (yn_in y y2 (br_t rfl ?_)))
        refine yo_errS (by omega) hs hO.1 ?_
        have hS' := cr_S_shut (x := nI c) (show 0 < s by omega) hS
        have hq' := cr_Q_shut (s := s) (hq hd)
        have hl2 := cr_l2 (life := a_life) (s := s) (by rw [ho]; decide)
        subst hd
        have e0 : upd (an_f ql) s 0 = an_f (pm_u ql s 0) := an_fu ql s 0
        rw [e0]
        refine yo_quiet hS' hl hq' ⟨rfl, ((K, R, ou_L z [1, 2, 0, s, c]), (fAt, n, so, fl, st, h, p, m, M, l), (wi, wo, pm_u ql s 0, hc, Q, tx), (0, f_typeSeen, yf_payload, yf_wants, yf_name, yf_first, yf_counts, yf_enters, yf_nodes, yf_values, yf_skipped, yf_pos, yf_there, yf_number, yf_at), (a_payload, upd a_life s 2, a_theyEnded, a_weEnded, a_finishing, upd a_codes s (nI c), a_headers, a_entries, a_kinds, a_repeats, a_messageCount), (a_nodeCount, a_nodeTypes, a_valueCount, a_valueOwners, a_values, a_skippedCount, a_reader, a_chainNode, a_chainEnd, a_nodeSize, a_nodePlace), (ya_type, ya_otherEnded, ya_prefix, ya_length, ya_got, ya_high, ya_has, ya_frame, ya_payloads), (ya_table, ya_nodeType, ya_valueNode, ya_valueNumber, ya_value, ya_from, ya_limit, ya_inside, ya_sizes)), rfl, rfl, hD, hl, hH, ?_, hQ, hX, hS', fun _ => hq', hT, hK, fun w => cr_F_life hl2 (hF w), ?_⟩
        · refine ou_L_I hO (fun b hb => ?_)
          simp only [List.mem_cons, List.not_mem_nil, or_false] at hb
          rcases hb with hb | hb | hb | hb | hb <;> omega
        · exact fun s' h1' h8' => cr_m_k (by omega) (cr_m_life (hl2 s') (hM s' h1' h8'))
      · exact xs_open_f (by omega) hs ho (br_t rfl (HN (fun s' hs' e h1' => by
          have := (nI_eq (a := s) (b := s') (by omega) (by omega)).mp e
          subst this
          exact Or.inl ho)))
/-- both sides send what may be sent -/
theorem pu_all {wo ql Q wi : Nat → Nat} {z : (Nat → Nat) × Nat} {l : Nat} (hS : cr_S a_life a_theyEnded ya_otherEnded a_weEnded a_finishing a_codes wi wo ql) (hO : ou_I z) (hQ : cr_B Q) (hl : l ≤ 7) :
    ∃ (life' we' : Nat → Int32) (wo' ql' Q' : Nat → Nat) (z' : (Nat → Nat) × Nat) (l' : Nat),
      cr_S life' a_theyEnded ya_otherEnded we' a_finishing a_codes wi wo' ql' ∧ ou_I z' ∧ cr_B Q' ∧ l' ≤ 7 ∧ cr_Q life' we' a_finishing wo' ql' ∧ (∀ s, life' s = a_life s ∨ (a_life s ≠ 0 ∧ life' s = 2)) ∧
      (∀ (post : SX → Prop), post (f_frameAt, f_frameLength, f_frameSort, f_frameFlags, f_frameStream, f_down, f_entryCount, f_most, f_typeSeen, nI l', nI z'.2, a_payload, life', a_theyEnded, we', a_finishing, a_codes, a_windowIn, an_f wo', a_headers, a_headerCount, a_entries, a_kinds, a_repeats, a_messageCount, a_text, a_nodeCount, a_nodeTypes, a_valueCount, a_valueOwners, a_values, a_skippedCount, a_reader, a_chainNode, a_chainEnd, an_f Q', an_f ql', an_f z'.1, a_nodeSize, a_nodePlace) →
        wpX_sendQueues post (f_frameAt, f_frameLength, f_frameSort, f_frameFlags, f_frameStream, f_down, f_entryCount, f_most, f_typeSeen, nI l, nI z.2, a_payload, a_life, a_theyEnded, a_weEnded, a_finishing, a_codes, a_windowIn, an_f wo, a_headers, a_headerCount, a_entries, a_kinds, a_repeats, a_messageCount, a_text, a_nodeCount, a_nodeTypes, a_valueCount, a_valueOwners, a_values, a_skippedCount, a_reader, a_chainNode, a_chainEnd, an_f Q, an_f ql, an_f z.1, a_nodeSize, a_nodePlace)) ∧
      (∀ (a : yr_Z) (t : Int32) (post : SY → Prop), post (0, yf_heads, yf_paid, yf_payload, yf_wants, yf_name, yf_first, yf_counts, yf_enters, yf_most, yf_many, nI z'.2, nI (if l' = 0 then 7 else l'), a.1, a.2.1, a.2.2.1, a.2.2.2.1, t, a.2.2.2.2.1, a.2.2.2.2.2.1, ya_kind, ya_repeated, life', a_codes, ya_coming, an_f wo', ya_type, ya_headers, ya_header, an_f ql', ya_otherEnded, we', a_finishing, an_g Q', ya_prefix, ya_length, ya_got, ya_high, ya_whole, ya_has, ya_bytes, ya_frame, ya_payloads, ya_table, an_g z'.1, a.2.2.2.2.2.2.1, a.2.2.2.2.2.2.2.1, a.2.2.2.2.2.2.2.2.1, a.2.2.2.2.2.2.2.2.2.1, a.2.2.2.2.2.2.2.2.2.2.1, a.2.2.2.2.2.2.2.2.2.2.2.1, a.2.2.2.2.2.2.2.2.2.2.2.2, ya_sizes) →
        wpY_pump post (0, yf_heads, yf_paid, yf_payload, yf_wants, yf_name, yf_first, yf_counts, yf_enters, yf_most, yf_many, nI z.2, nI (if l = 0 then 7 else l), a.1, a.2.1, a.2.2.1, a.2.2.2.1, t, a.2.2.2.2.1, a.2.2.2.2.2.1, ya_kind, ya_repeated, a_life, a_codes, ya_coming, an_f wo, ya_type, ya_headers, ya_header, an_f ql, ya_otherEnded, a_weEnded, a_finishing, an_g Q, ya_prefix, ya_length, ya_got, ya_high, ya_whole, ya_has, ya_bytes, ya_frame, ya_payloads, ya_table, an_g z.1, a.2.2.2.2.2.2.1, a.2.2.2.2.2.2.2.1, a.2.2.2.2.2.2.2.2.1, a.2.2.2.2.2.2.2.2.2.1, a.2.2.2.2.2.2.2.2.2.2.1, a.2.2.2.2.2.2.2.2.2.2.2.1, a.2.2.2.2.2.2.2.2.2.2.2.2, ya_sizes)) := by
  have hm := pu_m_le (life := a_life) (we := a_weEnded) (hS.2 0 (by omega)).2.2.2.2.2.1
  obtain ⟨life', we', wo', ql', Q', z', l', r1, r2, r3, r4, r5, r6, r7, r8⟩ := pu_main 262 a_life a_weEnded wo ql Q z l hS hO hQ hl hm
  refine ⟨life', we', wo', ql', Q', z', l', r1, r2, r3, r4, r5, fun s => ?_, fun post H => ?_, fun a t post H => ?_⟩
  · rcases r6 s with y | ⟨y, y'⟩
    · exact Or.inl y
    · exact Or.inr ⟨by rw [y]; decide, y'⟩
  · unfold wpX_sendQueues
    exact ⟨263, r7 post 0 263 (by omega) (by omega) H⟩
  · unfold wpY_pump
    exact ⟨8 * 262 + 8, r8 a t post _ (Nat.le_refl _) H⟩
theorem pu_both {wo ql Q wi : Nat → Nat} {z : (Nat → Nat) × Nat} {l : Nat} (hS : cr_S a_life a_theyEnded ya_otherEnded a_weEnded a_finishing a_codes wi wo ql) (hO : ou_I z) (hQ : cr_B Q) (hl : l ≤ 7) :
    ∃ (life' we' : Nat → Int32) (wo' ql' Q' : Nat → Nat) (z' : (Nat → Nat) × Nat) (l' : Nat),
      cr_S life' a_theyEnded ya_otherEnded we' a_finishing a_codes wi wo' ql' ∧ ou_I z' ∧ cr_B Q' ∧ l' ≤ 7 ∧ cr_Q life' we' a_finishing wo' ql' ∧ (∀ s, life' s = a_life s ∨ (a_life s ≠ 0 ∧ life' s = 2)) ∧
      (∀ (post : SX → Prop), post (f_frameAt, f_frameLength, f_frameSort, f_frameFlags, f_frameStream, f_down, f_entryCount, f_most, f_typeSeen, nI l', nI z'.2, a_payload, life', a_theyEnded, we', a_finishing, a_codes, a_windowIn, an_f wo', a_headers, a_headerCount, a_entries, a_kinds, a_repeats, a_messageCount, a_text, a_nodeCount, a_nodeTypes, a_valueCount, a_valueOwners, a_values, a_skippedCount, a_reader, a_chainNode, a_chainEnd, an_f Q', an_f ql', an_f z'.1, a_nodeSize, a_nodePlace) →
        wpX_sendQueues post (f_frameAt, f_frameLength, f_frameSort, f_frameFlags, f_frameStream, f_down, f_entryCount, f_most, f_typeSeen, nI l, nI z.2, a_payload, a_life, a_theyEnded, a_weEnded, a_finishing, a_codes, a_windowIn, an_f wo, a_headers, a_headerCount, a_entries, a_kinds, a_repeats, a_messageCount, a_text, a_nodeCount, a_nodeTypes, a_valueCount, a_valueOwners, a_values, a_skippedCount, a_reader, a_chainNode, a_chainEnd, an_f Q, an_f ql, an_f z.1, a_nodeSize, a_nodePlace)) ∧
      (∀ (post : SY → Prop), post (0, yf_heads, yf_paid, yf_payload, yf_wants, yf_name, yf_first, yf_counts, yf_enters, yf_most, yf_many, nI z'.2, nI (if l' = 0 then 7 else l'), yf_nodes, yf_values, yf_skipped, yf_pos, yf_there, yf_number, yf_at, ya_kind, ya_repeated, life', a_codes, ya_coming, an_f wo', ya_type, ya_headers, ya_header, an_f ql', ya_otherEnded, we', a_finishing, an_g Q', ya_prefix, ya_length, ya_got, ya_high, ya_whole, ya_has, ya_bytes, ya_frame, ya_payloads, ya_table, an_g z'.1, ya_nodeType, ya_valueNode, ya_valueNumber, ya_value, ya_from, ya_limit, ya_inside, ya_sizes) →
        wpY_pump post (0, yf_heads, yf_paid, yf_payload, yf_wants, yf_name, yf_first, yf_counts, yf_enters, yf_most, yf_many, nI z.2, nI (if l = 0 then 7 else l), yf_nodes, yf_values, yf_skipped, yf_pos, yf_there, yf_number, yf_at, ya_kind, ya_repeated, a_life, a_codes, ya_coming, an_f wo, ya_type, ya_headers, ya_header, an_f ql, ya_otherEnded, a_weEnded, a_finishing, an_g Q, ya_prefix, ya_length, ya_got, ya_high, ya_whole, ya_has, ya_bytes, ya_frame, ya_payloads, ya_table, an_g z.1, ya_nodeType, ya_valueNode, ya_valueNumber, ya_value, ya_from, ya_limit, ya_inside, ya_sizes)) := by
  obtain ⟨life', we', wo', ql', Q', z', l', r1, r2, r3, r4, r5, r6, r7, r8⟩ := pu_all (a_life := a_life) (a_weEnded := a_weEnded) (Q := Q) (z := z) (l := l) hS hO hQ hl
  exact ⟨life', we', wo', ql', Q', z', l', r1, r2, r3, r4, r5, r6, r7, fun post H => r8 (yf_nodes, yf_values, yf_skipped, yf_pos, yf_number, yf_at, ya_nodeType, ya_valueNode, ya_valueNumber, ya_value, ya_from, ya_limit, ya_inside) yf_there post H⟩
theorem i_vc_finish {k : Nat} {u : SX} {v : SY} (I : i_Rel k u v) (hk : k + 6 ≤ 3072) (v1 : Int32) : wpX_finish (fun r u' => wpY_finish (fun r' v' => r' = r ∧ i_Rel (k + 6) u' v') v v1) u v1 := by
  have J := i_up I
  obtain ⟨⟨⟨K, R, z⟩, ⟨fAt, n, so, fl, st, h, p, m, M, l⟩, ⟨wi, wo, ql, hc, Q, tx⟩, ⟨f_down, f_typeSeen, yf_payload, yf_wants, yf_name, yf_first, yf_counts, yf_enters, yf_nodes, yf_values, yf_skipped, yf_pos, yf_there, yf_number, yf_at⟩, ⟨a_payload, a_life, a_theyEnded, a_weEnded, a_finishing, a_codes, a_headers, a_entries, a_kinds, a_repeats, a_messageCount⟩, ⟨a_nodeCount, a_nodeTypes, a_valueCount, a_valueOwners, a_values, a_skippedCount, a_reader, a_chainNode, a_chainEnd, a_nodeSize, a_nodePlace⟩, ⟨ya_type, ya_otherEnded, ya_prefix, ya_length, ya_got, ya_high, ya_has, ya_frame, ya_payloads⟩, ⟨ya_table, ya_nodeType, ya_valueNode, ya_valueNumber, ya_value, ya_from, ya_limit, ya_inside, ya_sizes⟩⟩, rfl, rfl, hD, hl, hH, hO, hQ, hX, hS, hq, hT, hK, hF, hM⟩ := I
  dsimp only [cr_x, cr_y] at J ⊢
  have HN : (∀ s, s < 8 → v1 = nI s → 1 ≤ s → (¬ a_life s = 1 ∨ ¬ f_down = 0)) → wpY_finish (fun r' v' => r' = 0 ∧ i_Rel (k + 6) (nI fAt, nI n, nI so, nI fl, nI st, f_down, nI m, nI M, f_typeSeen, nI l, nI z.2, a_payload, a_life, a_theyEnded, a_weEnded, a_finishing, a_codes, an_f wi, an_f wo, a_headers, an_f hc, a_entries, a_kinds, a_repeats, a_messageCount, an_f tx, a_nodeCount, a_nodeTypes, a_valueCount, a_valueOwners, a_values, a_skippedCount, a_reader, a_chainNode, a_chainEnd, an_f Q, an_f ql, an_f z.1, a_nodeSize, a_nodePlace) v') (f_down, nI h, nI p, yf_payload, yf_wants, yf_name, yf_first, yf_counts, yf_enters, nI M, nI m, nI z.2, nI (if l = 0 then 7 else l), yf_nodes, yf_values, yf_skipped, yf_pos, yf_there, yf_number, yf_at, a_kinds, a_repeats, a_life, a_codes, an_f wi, an_f wo, ya_type, an_f hc, a_headers, an_f ql, ya_otherEnded, a_weEnded, a_finishing, an_g Q, ya_prefix, ya_length, ya_got, ya_high, a_messageCount, ya_has, an_g tx, ya_frame, ya_payloads, ya_table, an_g z.1, ya_nodeType, ya_valueNode, ya_valueNumber, ya_value, ya_from, ya_limit, ya_inside, ya_sizes) v1 := by
    intro hno
    unfold wpY_finish
    rcases lk_c v1 with ⟨h1, h2, h3, h4⟩ | ⟨h1, h2, h3, h4, h5⟩ | ⟨s, hs, rfl⟩
    · exact ys_open_n (Or.inl h2) (br_t rfl ⟨rfl, J⟩)
    · exact ys_open_n (Or.inr ⟨h2, h3⟩) (br_t rfl ⟨rfl, J⟩)
    · by_cases h0 : s = 0
      · subst h0
        exact ys_open_n (Or.inl (by decide)) (br_t rfl ⟨rfl, J⟩)
      · exact ys_open_f (by omega) hs (hno s hs rfl (by omega)) (br_t rfl ⟨rfl, J⟩)
  unfold wpX_finish
  refine br_c (fun hd => ?_) (fun hd => HN (fun s _ _ _ => Or.inr hd))
  rcases lk_c v1 with ⟨h1, h2, h3, h4⟩ | ⟨h1, h2, h3, h4, h5⟩ | ⟨s, hs, rfl⟩
  · exact xs_open_n (Or.inl h2) (br_t rfl (HN (fun s hs e _ => by
      rw [e] at h1; exact absurd h1 (lk_s s hs).1)))
  · exact xs_open_n (Or.inr ⟨h2, h4⟩) (br_t rfl (HN (fun s hs e _ => by
      rw [e] at h4; exact absurd h4 (lk_s s hs).2.2.1)))
  · by_cases h0 : s = 0
    · subst h0
      exact xs_open_n (Or.inl (by decide)) (br_t rfl (HN (fun s' hs' e h1' => by
        have := (nI_eq (a := 0) (b := s') (by omega) (by omega)).mp e
        omega)))
    · by_cases ho : a_life s = 1
      · refine xs_open_t (by omega) hs ho (br_f (by decide) ?_)
        obtain ⟨g1, g2⟩ := xr_c8 hs
        rw [g2]
        by_cases hfi : a_finishing s = 0
        · refine ⟨g1, br_t hfi ⟨g1, nm_r (e' := upd a_finishing s 1) rfl ?_⟩⟩
          have hS' : cr_S a_life a_theyEnded ya_otherEnded a_weEnded (upd a_finishing s 1) a_codes wi wo ql := by
            refine ⟨hS.1, fun i hi => ?_⟩
            obtain ⟨s1, s2, s3, s4, s5, s6, s7, s8, s9, s10⟩ := hS.2 i hi
            by_cases y : i = s
            · subst y
              rw [pm_upd_eq, if_pos rfl]
              exact ⟨s1, s2, s3, Or.inr rfl, s5, s6, s7, s8, s9, fun w => ⟨rfl, (s10 w).2⟩⟩
            · rw [pm_upd_eq, if_neg y]
              exact ⟨s1, s2, s3, s4, s5, s6, s7, s8, s9, s10⟩
          subst hd
          obtain ⟨life', we', wo', ql', Q', z', l', r1, r2, r3, r4, r5, r6, r7, r8⟩ := pu_both (a_life := a_life) (a_weEnded := a_weEnded) (Q := Q) (z := z) (l := l) hS' hO hQ hl
          refine r7 _ ?_
          unfold wpY_finish
          refine ys_open_t (by omega) hs ho rfl (br_f (by decide) ?_)
          rw [g2]
          refine ⟨g1, br_t hfi ⟨g1, nm_r (e' := upd a_finishing s 1) rfl ?_⟩⟩
          refine r8 _ ⟨rfl, ((K, R, z'), (fAt, n, so, fl, st, h, p, m, M, l'), (wi, wo', ql', hc, Q', tx), (0, f_typeSeen, yf_payload, yf_wants, yf_name, yf_first, yf_counts, yf_enters, yf_nodes, yf_values, yf_skipped, yf_pos, yf_there, yf_number, yf_at), (a_payload, life', a_theyEnded, we', upd a_finishing s 1, a_codes, a_headers, a_entries, a_kinds, a_repeats, a_messageCount), (a_nodeCount, a_nodeTypes, a_valueCount, a_valueOwners, a_values, a_skippedCount, a_reader, a_chainNode, a_chainEnd, a_nodeSize, a_nodePlace), (ya_type, ya_otherEnded, ya_prefix, ya_length, ya_got, ya_high, ya_has, ya_frame, ya_payloads), (ya_table, ya_nodeType, ya_valueNode, ya_valueNumber, ya_value, ya_from, ya_limit, ya_inside, ya_sizes)), rfl, rfl, hD, r4, hH, r2, r3, hX, r1, fun _ => r5, hT, hK, fun w => cr_F_life r6 (hF w), ?_⟩
          exact fun s' h1' h8' => cr_m_k (by omega) (cr_m_life (r6 s') (hM s' h1' h8'))
        · refine ⟨g1, br_f hfi ?_⟩
          unfold wpY_finish
          refine ys_open_t (by omega) hs ho hd (br_f (by decide) ?_)
          rw [g2]
          exact ⟨g1, br_f hfi ⟨rfl, J⟩⟩
      · exact xs_open_f (by omega) hs ho (br_t rfl (HN (fun s' hs' e h1' => by
          have := (nI_eq (a := s) (b := s') (by omega) (by omega)).mp e
          subst this
          exact Or.inl ho)))
end
end
