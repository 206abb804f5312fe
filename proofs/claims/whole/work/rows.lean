section
/-! rows pasted from kit/rows -/
section
theorem pk_us {f : Nat → Int32} {k : Nat} {x : Int32} : upd f k x k = x := if_pos rfl
theorem pk_un {f : Nat → Int32} {k j : Nat} {x : Int32} (h : j ≠ k) : upd f k x j = f j := if_neg h
theorem pk_uLs {f : Nat → Int64} {k : Nat} {x : Int64} : vp_updL f k x k = x := if_pos rfl
theorem pk_uLn {f : Nat → Int64} {k j : Nat} {x : Int64} (h : j ≠ k) : vp_updL f k x j = f j := if_neg h
theorem pk_sub {a b : Nat} (h : b ≤ a) : nI a - nI b = nI (a - b) := by
  obtain ⟨c, rfl⟩ : ∃ c, a = c + b := ⟨a - b, by omega⟩
  rw [← nI_add, Int32.add_sub_cancel, Nat.add_sub_cancel]
theorem pk_m1 (n : Nat) : nI (n + 1) + (-1) = nI n := by
  rw [← nI_1, Int32.add_assoc, show (1 : Int32) + (-1) = 0 from rfl, Int32.add_zero]
theorem pk_mul (a b : Nat) : nI a * nI b = nI (a * b) := (Int32.ofNat_mul a b).symm
theorem pk_div {a d : Nat} (ha : a < 2 ^ 31) (h0 : 0 < d) (hd : d < 2 ^ 31) : nI a / nI d = nI (a / d) := by
  apply Int32.toInt_inj.mp
  rw [lg_idiv_nonneg (by rw [nI_toInt ha]; omega) (by rw [nI_toInt hd]; omega), nI_toInt ha, nI_toInt hd, nI_toInt (Nat.lt_of_le_of_lt (Nat.div_le_self a d) ha)]
  first | rfl | exact (Int.natCast_ediv _ _).symm
theorem pk_rem {a d : Nat} (ha : a < 2 ^ 31) (h0 : 0 < d) (hd : d < 2 ^ 31) : nI a - nI a / nI d * nI d = nI (a % d) := by
  rw [pk_div ha h0 hd, pk_mul, pk_sub (Nat.div_mul_le_self a d)]
  exact congrArg nI (by have := Nat.div_add_mod' a d; omega)
theorem pk_sub_toInt {a b : Nat} (ha : a < 2 ^ 30) (hb : b < 2 ^ 30) : (nI a - nI b).toInt = (a : Int) - b := by
  rw [Int32.toInt_sub, nI_toInt (by omega), nI_toInt (by omega)]
  exact Int.bmod_eq_of_le (by omega) (by omega)
theorem pk_sneg {a b : Nat} (hb : b < 2 ^ 30) (h : a < b) : nI a - nI b < 0 := by
  rw [Int32.lt_iff_toInt_lt, pk_sub_toInt (by omega) hb, show (0 : Int32).toInt = 0 from by decide]
  omega
theorem pk_ix (x : Int32) {n : Nat} (hn : n < 2 ^ 31) : x < 0 ∨ nI n ≤ x ∨ ∃ j : Nat, j < n ∧ x = nI j := by
  by_cases h : x < 0
  · exact Or.inl h
  · obtain ⟨j, hj, rfl⟩ := nI_of h
    by_cases h2 : j < n
    · exact Or.inr (Or.inr ⟨j, h2, rfl⟩)
    · exact Or.inr (Or.inl (nI_le (by omega) hj))
theorem pk_le {x y : Int32} {A B : Prop} (a b : Nat) (f : a ≤ b → A) (g : b < a → B) (hx : x = nI a := by rfl) (hy : y = nI b := by rfl) (ha : a < 2 ^ 31 := by omega) (hb : b < 2 ^ 31 := by omega) : (x ≤ y → A) ∧ (¬ x ≤ y → B) := by
  subst hx hy
  rw [nI_leI ha hb]
  exact ⟨f, fun z => g (by omega)⟩
theorem pk_lt {x y : Int32} {A B : Prop} (a b : Nat) (f : a < b → A) (g : b ≤ a → B) (hx : x = nI a := by rfl) (hy : y = nI b := by rfl) (ha : a < 2 ^ 31 := by omega) (hb : b < 2 ^ 31 := by omega) : (x < y → A) ∧ (¬ x < y → B) := by
  subst hx hy
  rw [nI_ltI ha hb]
  exact ⟨f, fun z => g (by omega)⟩
theorem pk_eq {x y : Int32} {A B : Prop} (a b : Nat) (f : a = b → A) (g : a ≠ b → B) (hx : x = nI a := by rfl) (hy : y = nI b := by rfl) (ha : a < 2 ^ 31 := by omega) (hb : b < 2 ^ 31 := by omega) : (x = y → A) ∧ (¬ x = y → B) := by
  subst hx hy
  rw [nI_eq ha hb]
  exact ⟨f, g⟩
theorem pk_in {x : Int32} (n N : Nat) (h : n < N) (hx : x = nI n := by rfl) (hN : N < 2 ^ 31 := by omega) : vp_in x N := by
  subst hx
  exact vp_in_nI h hN
theorem pk_cl {x : Int32} (n : Nat) (hx : x = nI n := by rfl) (h : n < 2 ^ 31 := by omega) : x.toNatClampNeg = n := by
  subst hx
  exact nI_clamp h
theorem pk_tn {n : Nat} (h : n < 2 ^ 32) : (nI n).toBitVec.toNat = n := Nat.mod_eq_of_lt h
theorem pk_and (x : Int32) {m : Int32} (k : Nat) (hm : m.toBitVec.toNat = 2 ^ k - 1) : x &&& m = nI (x.toBitVec.toNat % 2 ^ k) := by
  apply Int32.toBitVec_inj.mp
  apply BitVec.eq_of_toNat_eq
  rw [Int32.toBitVec_and, BitVec.toNat_and, hm, Nat.and_two_pow_sub_one_eq_mod]
  show _ = (BitVec.ofNat 32 _).toNat
  rw [BitVec.toNat_ofNat]
  exact (Nat.mod_eq_of_lt (Nat.lt_of_le_of_lt (Nat.mod_le _ _) x.toBitVec.isLt)).symm
theorem pk_andN {n : Nat} (h : n < 2 ^ 32) {m : Int32} (k : Nat) (hm : m.toBitVec.toNat = 2 ^ k - 1) : nI n &&& m = nI (n % 2 ^ k) := by
  rw [pk_and _ k hm, pk_tn h]
theorem pk_andE (x : Int32) {m : Int32} (k : Nat) (hm : m.toBitVec.toNat = 2 ^ k - 1) : ∃ j : Nat, j < 2 ^ k ∧ x &&& m = nI j := ⟨_, Nat.mod_lt _ (Nat.two_pow_pos k), pk_and x k hm⟩
theorem pk_andIn (x : Int32) {m : Int32} (k : Nat) (hm : m.toBitVec.toNat = 2 ^ k - 1) (hk : k ≤ 30) : vp_in (x &&& m) (2 ^ k) := by
  obtain ⟨j, hj, e⟩ := pk_andE x k hm
  rw [e]
  exact vp_in_nI hj (Nat.lt_of_le_of_lt (Nat.pow_le_pow_right (by decide) hk) (by decide))
theorem pk_shl (a s : Int32) (k : Nat) (hs : (s.toBitVec.smod 32).toNat = k) : (a <<< s).toBitVec.toNat = a.toBitVec.toNat * 2 ^ k % 2 ^ 32 := by
  show (a.toBitVec <<< (s.toBitVec.smod 32).toNat).toNat = _
  rw [hs, BitVec.toNat_shiftLeft, Nat.shiftLeft_eq]
theorem pk_shlN {n : Nat} (s : Int32) (k : Nat) (hs : (s.toBitVec.smod 32).toNat = k) (h : n * 2 ^ k < 2 ^ 32) : nI n <<< s = nI (n * 2 ^ k) := by
  apply Int32.toBitVec_inj.mp
  apply BitVec.eq_of_toNat_eq
  have hn : n < 2 ^ 32 := Nat.lt_of_le_of_lt (Nat.le_mul_of_pos_right n (Nat.two_pow_pos k)) h
  rw [pk_shl _ _ k hs, pk_tn hn, pk_tn h, Nat.mod_eq_of_lt h]
theorem pk_shr (a s : Int32) (k : Nat) (hs : (s.toBitVec.smod 32).toNat = k) : (a >>> s).toInt = a.toInt >>> k := by
  show (a.toBitVec.sshiftRight (s.toBitVec.smod 32).toNat).toInt = _
  rw [hs, BitVec.toInt_sshiftRight]
  rfl
theorem pk_shrN {n : Nat} (h : n < 2 ^ 31) (s : Int32) (k : Nat) (hs : (s.toBitVec.smod 32).toNat = k) : nI n >>> s = nI (n / 2 ^ k) := by
  apply Int32.toInt_inj.mp
  have h2 : n / 2 ^ k ≤ n := Nat.div_le_self _ _
  rw [pk_shr _ _ k hs, nI_toInt h, nI_toInt (by omega), Int.shiftRight_eq_div_pow]
  rfl
theorem pk_ushr (x s : Int32) (k : Nat) (hs : ((s.toUInt32 &&& Int32.toUInt32 31).toBitVec % 32).toNat = k) : (x.toUInt32 >>> (s.toUInt32 &&& Int32.toUInt32 31)).toInt32.toBitVec.toNat = x.toBitVec.toNat / 2 ^ k := by
  have e : (x.toUInt32 >>> (s.toUInt32 &&& Int32.toUInt32 31)).toInt32.toBitVec = x.toBitVec >>> k := by
    rw [← hs]
    exact UInt32.toBitVec_shiftRight _ _
  rw [e, BitVec.toNat_ushiftRight, Nat.shiftRight_eq_div_pow]
theorem pk_ushrN {n : Nat} (hn : n < 2 ^ 32) (s : Int32) (k : Nat) (hs : ((s.toUInt32 &&& Int32.toUInt32 31).toBitVec % 32).toNat = k) : ((nI n).toUInt32 >>> (s.toUInt32 &&& Int32.toUInt32 31)).toInt32 = nI (n / 2 ^ k) := by
  apply Int32.toBitVec_inj.mp
  apply BitVec.eq_of_toNat_eq
  rw [pk_ushr _ s k hs, pk_tn hn, pk_tn (Nat.lt_of_le_of_lt (Nat.div_le_self _ _) hn)]
theorem pk_nb (z : Int32) : narrow .byte (.int z.toInt8.toInt32) = .int z.toInt8.toInt32 := congrArg Value.int (by simp)
theorem pk_ns (z : Int32) : narrow .short (.int z.toInt16.toInt32) = .int z.toInt16.toInt32 := congrArg Value.int (by simp)
theorem pk_fb (r : Int32) : fits .byte (.int r.toInt8.toInt32) = true := by
  have ⟨a, b⟩ := lg_i2b_range r
  have h1 : (-128 : Int32).toInt = -128 := by decide
  have h2 : (127 : Int32).toInt = 127 := by decide
  simp only [fits, Bool.and_eq_true, decide_eq_true_eq, Int32.le_iff_toInt_le, h1, h2]
  omega
theorem pk_fs (r : Int32) : fits .short (.int r.toInt16.toInt32) = true := by
  have ⟨a, b⟩ := lg_i2s_range r
  have h1 : (-32768 : Int32).toInt = -32768 := by decide
  have h2 : (32767 : Int32).toInt = 32767 := by decide
  simp only [fits, Bool.and_eq_true, decide_eq_true_eq, Int32.le_iff_toInt_le, h1, h2]
  omega
theorem pk_charN {q : Nat} (hq : q < 65536) : narrow .char (.int (nI q)) = .int (nI q) ∧ fits .char (.int (nI q)) = true := by
  constructor
  · have e : (nI q).toUInt32.toUInt16.toUInt32.toInt32 = nI q := by
      apply Int32.toBitVec_inj.mp
      apply BitVec.eq_of_toNat_eq
      show (nI q).toUInt32.toUInt16.toUInt32.toNat = q % 2 ^ 32
      rw [UInt16.toNat_toUInt32, UInt32.toNat_toUInt16, show (nI q).toUInt32.toNat = q % 2 ^ 32 from rfl]
      omega
    exact congrArg Value.int e
  · have a : (0 : Int32) ≤ nI q := nI_pos' (by omega)
    have b : nI q ≤ 65535 := nI_le (b := 65535) (by omega) (by decide)
    show (decide ((0 : Int32) ≤ nI q) && decide (nI q ≤ 65535)) = true
    rw [decide_eq_true a, decide_eq_true b]
    rfl
theorem pk_char (x : Int32) : (x.toUInt32 % 65536).toInt32 = nI (x.toBitVec.toNat % 65536) := by
  apply Int32.toBitVec_inj.mp
  apply BitVec.eq_of_toNat_eq
  rw [pk_tn (by omega)]
  show (x.toUInt32 % 65536).toNat = _
  rw [UInt32.toNat_mod]
  rfl
theorem pk_nc (x : Int32) : narrow .char (.int (x.toUInt32 % 65536).toInt32) = .int (x.toUInt32 % 65536).toInt32 := by
  rw [pk_char]
  exact (pk_charN (Nat.mod_lt _ (by decide))).1
theorem pk_fc (x : Int32) : fits .char (.int (x.toUInt32 % 65536).toInt32) = true := by
  rw [pk_char]
  exact (pk_charN (Nat.mod_lt _ (by decide))).2
theorem pk_vb (z : Int32) : vp_nar .byte z.toInt8.toInt32 = z.toInt8.toInt32 := by rw [vp_nar_byte]; simp
theorem pk_vs (z : Int32) : vp_nar .short z.toInt16.toInt32 = z.toInt16.toInt32 := by rw [vp_nar_short]; simp
theorem pk_vc (z : Int32) : vp_nar .char (z.toUInt32 % 65536).toInt32 = (z.toUInt32 % 65536).toInt32 := Value.int.inj (pk_nc z)
theorem pk_lT {n : Nat} (h : n < 2 ^ 63) : (lN n).toInt = (n : Int) := lg_ofNat_toInt h
theorem pk_lLT {a b : Nat} (ha : a < 2 ^ 63) (hb : b < 2 ^ 63) : lN a < lN b ↔ a < b := by
  rw [Int64.lt_iff_toInt_lt, pk_lT ha, pk_lT hb]; omega
theorem pk_lLE {a b : Nat} (ha : a < 2 ^ 63) (hb : b < 2 ^ 63) : lN a ≤ lN b ↔ a ≤ b := by
  rw [Int64.le_iff_toInt_le, pk_lT ha, pk_lT hb]; omega
theorem pk_lEQ {a b : Nat} (ha : a < 2 ^ 63) (hb : b < 2 ^ 63) : lN a = lN b ↔ a = b := by
  rw [← Int64.toInt_inj, pk_lT ha, pk_lT hb]; omega
theorem pk_lOf {x : Int64} (h : ¬ x < 0) : ∃ k : Nat, k < 2 ^ 63 ∧ x = lN k := by
  rw [Int64.lt_iff_toInt_lt] at h
  have h0 : (0 : Int64).toInt = 0 := by decide
  have hx := Int64.toInt_lt x
  refine ⟨x.toInt.toNat, by omega, Int64.toInt_inj.mp ?_⟩
  rw [pk_lT (by omega)]
  omega
theorem pk_lDiv {a b : Nat} (ha : a < 2 ^ 63) (h0 : 0 < b) (hb : b < 2 ^ 63) : lN a / lN b = lN (a / b) := by
  apply Int64.toInt_inj.mp
  rw [lg_ldiv_nonneg (by rw [pk_lT ha]; omega) (by rw [pk_lT hb]; omega), pk_lT ha, pk_lT hb, pk_lT (Nat.lt_of_le_of_lt (Nat.div_le_self a b) ha)]
  rfl
theorem pk_lRem {a b : Nat} (ha : a < 2 ^ 63) (h0 : 0 < b) (hb : b < 2 ^ 63) : lN a - lN a / lN b * lN b = lN (a % b) := by
  rw [pk_lDiv ha h0 hb, lN_mul, lN_sub (Nat.div_mul_le_self a b)]
  exact congrArg lN (by have := Nat.div_add_mod' a b; omega)
theorem pk_loop {σ : Type} (W : Nat → Nat → σ → Prop) (I : Nat → σ → Prop) (e i0 : Nat) (s : σ) (hi : i0 ≤ e) (h0 : I i0 s) (hx : ∀ n s, I e s → W (n + 1) e s)
    (hs : ∀ n i s, i < e → I i s → (∀ s', I (i + 1) s' → W n (i + 1) s') → W (n + 1) i s) : ∃ n, W n i0 s :=
  ⟨e + 1, loop_i W I e hx hs (e + 1) i0 s hi (by omega) h0⟩
theorem pk_loopD {σ : Type} (W : Nat → Nat → σ → Prop) (I : Nat → σ → Prop) (hx : ∀ n s, I 0 s → W (n + 1) 0 s)
    (hs : ∀ n i s, I (i + 1) s → (∀ s', I i s' → W n i s') → W (n + 1) (i + 1) s) : ∀ (e : Nat) (s : σ), I e s → W (e + 1) e s := by
  intro e
  induction e with
  | zero => exact fun s h => hx 0 s h
  | succ e ih => exact fun s h => hs (e + 1) e s h (fun s' h' => ih s' h')
theorem lp1 {A1 : Type} (W : Nat → A1 → Prop) (I : A1 → Prop) (μ : A1 → Nat) (hs : ∀ (n : Nat) (a1 : A1), I a1 → (∀ (b1 : A1), I b1 → μ b1 < μ a1 → W n b1) → W (n + 1) a1) (a1 : A1) (h : I a1) : ∃ n, W n a1 :=
  loop_m (σ := A1) (fun n s => W n s) (fun s => I s) (fun s => μ s) (fun n s hI hk => hs n s hI (fun b1 h9 hm => hk b1 h9 hm)) a1 h
theorem lp2 {A1 A2 : Type} (W : Nat → A1 → A2 → Prop) (I : A1 → A2 → Prop) (μ : A1 → A2 → Nat) (hs : ∀ (n : Nat) (a1 : A1) (a2 : A2), I a1 a2 → (∀ (b1 : A1) (b2 : A2), I b1 b2 → μ b1 b2 < μ a1 a2 → W n b1 b2) → W (n + 1) a1 a2) (a1 : A1) (a2 : A2) (h : I a1 a2) : ∃ n, W n a1 a2 :=
  loop_m (σ := A1 × A2) (fun n s => W n s.1 s.2) (fun s => I s.1 s.2) (fun s => μ s.1 s.2) (fun n s hI hk => hs n s.1 s.2 hI (fun b1 b2 h9 hm => hk (b1, b2) h9 hm)) (a1, a2) h
theorem lp3 {A1 A2 A3 : Type} (W : Nat → A1 → A2 → A3 → Prop) (I : A1 → A2 → A3 → Prop) (μ : A1 → A2 → A3 → Nat) (hs : ∀ (n : Nat) (a1 : A1) (a2 : A2) (a3 : A3), I a1 a2 a3 → (∀ (b1 : A1) (b2 : A2) (b3 : A3), I b1 b2 b3 → μ b1 b2 b3 < μ a1 a2 a3 → W n b1 b2 b3) → W (n + 1) a1 a2 a3) (a1 : A1) (a2 : A2) (a3 : A3) (h : I a1 a2 a3) : ∃ n, W n a1 a2 a3 :=
  loop_m (σ := A1 × A2 × A3) (fun n s => W n s.1 s.2.1 s.2.2) (fun s => I s.1 s.2.1 s.2.2) (fun s => μ s.1 s.2.1 s.2.2) (fun n s hI hk => hs n s.1 s.2.1 s.2.2 hI (fun b1 b2 b3 h9 hm => hk (b1, b2, b3) h9 hm)) (a1, a2, a3) h
/-! ===== Int32 by its bits: bt x i ===== -/
def bt (x : Int32) (i : Nat) : Bool := x.toBitVec.getLsbD i
theorem b_ext {x y : Int32} (h : ∀ i, i < 32 → bt x i = bt y i) : x = y := Int32.toBitVec_inj.mp (BitVec.eq_of_getLsbD_eq (fun i hi => h i hi))
theorem b_or (x y : Int32) (i : Nat) : bt (x ||| y) i = (bt x i || bt y i) := by unfold bt; rw [Int32.toBitVec_or, BitVec.getLsbD_or]
theorem b_and (x y : Int32) (i : Nat) : bt (x &&& y) i = (bt x i && bt y i) := by unfold bt; rw [Int32.toBitVec_and, BitVec.getLsbD_and]
theorem b_xor (x y : Int32) (i : Nat) : bt (x ^^^ y) i = (bt x i ^^ bt y i) := by unfold bt; rw [Int32.toBitVec_xor, BitVec.getLsbD_xor]
theorem b_big {x : Int32} {i : Nat} (h : 32 ≤ i) : bt x i = false := BitVec.getLsbD_of_ge _ _ h
theorem b_255 (i : Nat) : bt 255 i = decide (i < 8) := by
  rcases Nat.lt_or_ge i 32 with h | h
  · exact (by decide +kernel : ∀ i, i < 32 → bt 255 i = decide (i < 8)) i h
  · rw [b_big h, decide_eq_false (by omega)]
theorem b_65535 (i : Nat) : bt 65535 i = decide (i < 16) := by
  rcases Nat.lt_or_ge i 32 with h | h
  · exact (by decide +kernel : ∀ i, i < 32 → bt 65535 i = decide (i < 16)) i h
  · rw [b_big h, decide_eq_false (by omega)]
theorem b_m1 : ∀ i, i < 32 → bt (-1) i = true := by decide +kernel
theorem b_0 (i : Nat) : bt 0 i = false := BitVec.getLsbD_zero
theorem s_l : ∀ n, n < 32 → ((nI n &&& 31).toBitVec.smod 32).toNat = n := by decide +kernel
theorem s_u : ∀ n, n < 32 → (((nI n).toUInt32 &&& Int32.toUInt32 31).toBitVec % 32).toNat = n := by decide +kernel
theorem b_shl (n : Nat) (hn : n < 32) (x : Int32) {i : Nat} (hi : i < 32) : bt (x <<< (nI n &&& 31)) i = (decide (n ≤ i) && bt x (i - n)) := by
  unfold bt
  rw [Int32.toBitVec_shiftLeft]
  show (x.toBitVec <<< ((nI n &&& 31).toBitVec.smod 32).toNat).getLsbD i = _
  rw [s_l n hn, BitVec.getLsbD_shiftLeft]
  rcases Nat.lt_or_ge i n with h | h
  · simp [h, Nat.not_le.mpr h]
  · simp [hi, h, Nat.not_lt.mpr h]
theorem b_ushr (n : Nat) (hn : n < 32) (x : Int32) (i : Nat) : bt ((x.toUInt32 >>> ((nI n).toUInt32 &&& Int32.toUInt32 31)).toInt32) i = bt x (n + i) := by
  show (x.toUInt32 >>> ((nI n).toUInt32 &&& Int32.toUInt32 31)).toBitVec.getLsbD i = x.toUInt32.toBitVec.getLsbD (n + i)
  rw [UInt32.toBitVec_shiftRight]
  show (x.toUInt32.toBitVec >>> (((nI n).toUInt32 &&& Int32.toUInt32 31).toBitVec % 32).toNat).getLsbD i = _
  rw [s_u n hn, BitVec.getLsbD_ushiftRight]
theorem b_sshr (n : Nat) (hn : n < 32) (x : Int32) {i : Nat} (hi : i < 32) : bt (x >>> (nI n &&& 31)) i = if n + i < 32 then bt x (n + i) else bt x 31 := by
  unfold bt
  rw [Int32.toBitVec_shiftRight]
  show (x.toBitVec.sshiftRight ((nI n &&& 31).toBitVec.smod 32).toNat).getLsbD i = _
  rw [s_l n hn, BitVec.getLsbD_sshiftRight, BitVec.msb_eq_getLsbD_last]
  simp [hi]
theorem b_shl8 (x : Int32) {i : Nat} (hi : i < 32) : bt (x <<< ((8 : Int32) &&& 31)) i = (decide (8 ≤ i) && bt x (i - 8)) := b_shl 8 (by omega) x hi
theorem b_shl16 (x : Int32) {i : Nat} (hi : i < 32) : bt (x <<< ((16 : Int32) &&& 31)) i = (decide (16 ≤ i) && bt x (i - 16)) := b_shl 16 (by omega) x hi
theorem b_shl24 (x : Int32) {i : Nat} (hi : i < 32) : bt (x <<< ((24 : Int32) &&& 31)) i = (decide (24 ≤ i) && bt x (i - 24)) := b_shl 24 (by omega) x hi
theorem b_sshr8 (x : Int32) {i : Nat} (hi : i < 32) : bt (x >>> ((8 : Int32) &&& 31)) i = if 8 + i < 32 then bt x (8 + i) else bt x 31 := b_sshr 8 (by omega) x hi
/-! ===== a byte read unsigned ===== -/
theorem bp_b (x : Int32) : x.toInt8.toInt32 &&& 255 = x &&& 255 := by
  apply Int32.toBitVec_inj.mp
  rw [Int32.toBitVec_and, Int32.toBitVec_and, Int8.toBitVec_toInt32, Int32.toBitVec_toInt8]
  apply BitVec.eq_of_getLsbD_eq
  intro i hi
  rw [BitVec.getLsbD_and, BitVec.getLsbD_and]
  have hm : ∀ i < 32, 8 ≤ i → (255 : Int32).toBitVec.getLsbD i = false := by decide
  rcases Nat.lt_or_ge i 8 with z | z
  · rw [BitVec.getLsbD_signExtend, BitVec.getLsbD_signExtend, if_pos z, if_pos hi]
    simp only [z, hi, decide_true, Bool.true_and]
  · rw [hm i hi z]; simp
/-! ===== lN n to 2^64: shifts, and, or, masks, one bit ===== -/
theorem wb_tb (n : Nat) : (lN n).toBitVec = BitVec.ofNat 64 n := rfl
theorem wb_inj {a b : Int64} (h : a.toBitVec = b.toBitVec) : a = b := Int64.toBitVec_inj.mp h
theorem wb_tn {n : Nat} (h : n < 2 ^ 64) : (lN n).toBitVec.toNat = n := by rw [wb_tb, BitVec.toNat_ofNat, Nat.mod_eq_of_lt h]
theorem wb_of (x : Int64) : ∃ n, n < 2 ^ 64 ∧ x = lN n := ⟨x.toBitVec.toNat, x.toBitVec.isLt, wb_inj (by rw [wb_tb]; simp)⟩
theorem wb_of32 (x : Int32) : ∃ n, n < 2 ^ 32 ∧ x = nI n := ⟨x.toBitVec.toNat, x.toBitVec.isLt, Int32.toBitVec_inj.mp (by show _ = BitVec.ofNat 32 _; simp)⟩
theorem wb_c : ∀ k, k < 64 → ((nI k).toInt64 &&& 63) = lN k := by decide +kernel
theorem wb_cu : ∀ k, k < 64 → ((nI k).toInt64.toUInt64 &&& Int64.toUInt64 63) = UInt64.ofNat k := by decide +kernel
theorem wb_sm : ∀ k, k < 64 → (BitVec.ofNat 64 k).smod 64 = BitVec.ofNat 64 k := by decide +kernel
theorem wb_pw {a b : Nat} (h : a ≤ b) : 2 ^ b = 2 ^ a * 2 ^ (b - a) := by rw [← Nat.pow_add]; congr 1; omega
theorem wb_lt2 {a b : Nat} (h : a < b) : 2 ^ a < 2 ^ b := Nat.pow_lt_pow_right (by decide) h
theorem wb_mod (n : Nat) : lN n = lN (n % 2 ^ 64) := wb_inj (by rw [wb_tb, wb_tb]; apply BitVec.eq_of_toNat_eq; rw [BitVec.toNat_ofNat, BitVec.toNat_ofNat, Nat.mod_mod])
theorem wb_shr {n k : Nat} (hn : n < 2 ^ 64) (hk : k < 64) : ((lN n).toUInt64 >>> ((nI k).toInt64.toUInt64 &&& Int64.toUInt64 63)).toInt64 = lN (n / 2 ^ k) := by
  rw [wb_cu k hk]
  apply wb_inj
  apply BitVec.eq_of_toNat_eq
  show ((lN n).toUInt64 >>> UInt64.ofNat k).toNat = (BitVec.ofNat 64 _).toNat
  have h1 : (UInt64.ofNat k).toNat = k := by
    show (BitVec.ofNat 64 k).toNat = k
    rw [BitVec.toNat_ofNat, Nat.mod_eq_of_lt (by omega)]
  have h2 : (lN n).toUInt64.toNat = n := wb_tn hn
  rw [UInt64.toNat_shiftRight, h1, h2, Nat.mod_eq_of_lt hk, Nat.shiftRight_eq_div_pow, BitVec.toNat_ofNat, Nat.mod_eq_of_lt (Nat.lt_of_le_of_lt (Nat.div_le_self _ _) hn)]
theorem wb_shl (n : Nat) {k : Nat} (hk : k < 64) : lN n <<< ((nI k).toInt64 &&& 63) = lN (n * 2 ^ k) := by
  rw [wb_c k hk]
  apply wb_inj
  rw [Int64.toBitVec_shiftLeft, wb_tb, wb_tb, wb_tb, wb_sm k hk]
  apply BitVec.eq_of_toNat_eq
  rw [BitVec.shiftLeft_eq', BitVec.toNat_shiftLeft, BitVec.toNat_ofNat, BitVec.toNat_ofNat, BitVec.toNat_ofNat, Nat.mod_eq_of_lt (show k < 2 ^ 64 by omega), Nat.shiftLeft_eq, Nat.mul_mod, Nat.mod_mod, ← Nat.mul_mod]
theorem wb_and {a b : Nat} (ha : a < 2 ^ 64) (hb : b < 2 ^ 64) : lN a &&& lN b = lN (a &&& b) := by
  apply wb_inj
  rw [Int64.toBitVec_and, wb_tb, wb_tb, wb_tb]
  apply BitVec.eq_of_toNat_eq
  rw [BitVec.toNat_and, BitVec.toNat_ofNat, BitVec.toNat_ofNat, BitVec.toNat_ofNat, Nat.mod_eq_of_lt ha, Nat.mod_eq_of_lt hb, Nat.mod_eq_of_lt (Nat.and_lt_two_pow _ hb)]
theorem wb_or {a b : Nat} (ha : a < 2 ^ 64) (hb : b < 2 ^ 64) : lN a ||| lN b = lN (a ||| b) := by
  apply wb_inj
  rw [Int64.toBitVec_or, wb_tb, wb_tb, wb_tb]
  apply BitVec.eq_of_toNat_eq
  rw [BitVec.toNat_or, BitVec.toNat_ofNat, BitVec.toNat_ofNat, BitVec.toNat_ofNat, Nat.mod_eq_of_lt ha, Nat.mod_eq_of_lt hb, Nat.mod_eq_of_lt (Nat.or_lt_two_pow ha hb)]
theorem wb_mask {n k : Nat} (hn : n < 2 ^ 64) (hk : k < 64) : lN n &&& lN (2 ^ k - 1) = lN (n % 2 ^ k) := by
  rw [wb_and hn (by have := wb_lt2 hk; omega), Nat.and_two_pow_sub_one_eq_mod]
theorem wb_a1 {n : Nat} (hn : n < 2 ^ 64) : lN n &&& 1 = lN (n % 2) := wb_mask (k := 1) hn (by decide)
theorem wb_bit {n k : Nat} (hn : n < 2 ^ 64) (hk : k < 64) : ((lN n).toUInt64 >>> ((nI k).toInt64.toUInt64 &&& Int64.toUInt64 63)).toInt64 &&& 1 = lN (n / 2 ^ k % 2) := by
  rw [wb_shr hn hk, wb_a1 (Nat.lt_of_le_of_lt (Nat.div_le_self _ _) hn)]
theorem wb_xor {q k : Nat} (hk : k < 63) (h : 2 ^ k ≤ q) (h2 : q < 2 ^ (k + 1)) : lN q ^^^ lN (2 ^ k) = lN (q - 2 ^ k) := by
  obtain ⟨r, rfl⟩ : ∃ r, q = 2 ^ k + r := ⟨q - 2 ^ k, by omega⟩
  have hr : r < 2 ^ k := by rw [Nat.pow_succ] at h2; omega
  have hx : (2 ^ k + r) ^^^ 2 ^ k = r := by
    apply Nat.eq_of_testBit_eq
    intro i
    rw [Nat.testBit_xor, Nat.testBit_two_pow]
    rcases Nat.lt_trichotomy i k with h | h | h
    · rw [Nat.testBit_two_pow_add_gt h]
      simp [show ¬ k = i by omega]
    · subst h
      rw [Nat.testBit_two_pow_add_eq]
      simp
    · have a1 : 2 ^ (k + 1) ≤ 2 ^ i := Nat.pow_le_pow_right (by decide) h
      rw [Nat.testBit_lt_two_pow (show 2 ^ k + r < 2 ^ i by omega), Nat.testBit_lt_two_pow (show r < 2 ^ i by omega)]
      simp [show ¬ k = i by omega]
  have b1 := wb_lt2 (show k + 1 < 64 by omega)
  have b2 := wb_lt2 (show k < 64 by omega)
  apply wb_inj
  rw [Int64.toBitVec_xor, wb_tb, wb_tb, wb_tb]
  apply BitVec.eq_of_toNat_eq
  rw [BitVec.toNat_xor, BitVec.toNat_ofNat, BitVec.toNat_ofNat, BitVec.toNat_ofNat, Nat.mod_eq_of_lt (by omega : 2 ^ k + r < 2 ^ 64), Nat.mod_eq_of_lt b2, hx, Nat.add_sub_cancel_left, Nat.mod_eq_of_lt (by omega)]

end
end
section
/-! A: the pure picture of a message that is read -/
section
abbrev pm_D : Type := Nat × (Nat → Nat) × Nat × (Nat → Nat) × (Nat → Nat) × (Nat → Nat) × (Nat → Int32)
def pm_nn (D : pm_D) : Nat := D.1
def pm_nt (D : pm_D) : Nat → Nat := D.2.1
def pm_nv (D : pm_D) : Nat := D.2.2.1
def pm_vn (D : pm_D) : Nat → Nat := D.2.2.2.1
def pm_vm (D : pm_D) : Nat → Nat := D.2.2.2.2.1
def pm_fr (D : pm_D) : Nat → Nat := D.2.2.2.2.2.1
def pm_va (D : pm_D) : Nat → Int32 := D.2.2.2.2.2.2
/-- the cursor: pos, at, row, fld, skipped, limits, insides, what is kept -/
abbrev pm_C : Type := Nat × Nat × Nat × Nat × Nat × (Nat → Nat) × (Nat → Nat) × pm_D
abbrev pm_pos (c : pm_C) : Nat := c.1
abbrev pm_at (c : pm_C) : Nat := c.2.1
abbrev pm_row (c : pm_C) : Nat := c.2.2.1
abbrev pm_fld (c : pm_C) : Nat := c.2.2.2.1
abbrev pm_sk (c : pm_C) : Nat := c.2.2.2.2.1
abbrev pm_lim (c : pm_C) : Nat → Nat := c.2.2.2.2.2.1
abbrev pm_ins (c : pm_C) : Nat → Nat := c.2.2.2.2.2.2.1
abbrev pm_d (c : pm_C) : pm_D := c.2.2.2.2.2.2.2
def pm_u (f : Nat → Nat) (k x : Nat) : Nat → Nat := fun j => if j = k then x else f j
theorem pm_us {f : Nat → Nat} {k x : Nat} : pm_u f k x k = x := if_pos rfl
theorem pm_un {f : Nat → Nat} {k x j : Nat} (h : j ≠ k) : pm_u f k x j = f j := if_neg h

def pm_fi (vn vm : Nat → Nat) (a n : Nat) : Nat → Nat → Nat
  | 0, i => i
  | c + 1, i => if vn i = a ∧ vm i = n then i else pm_fi vn vm a n c (i + 1)
def pm_ix (D : pm_D) (a n : Nat) : Nat := pm_fi (pm_vn D) (pm_vm D) a n (pm_nv D) 0
def pm_pl (R : Nat → Bool) (D : pm_D) (a n : Nat) : Nat := if R (16 * pm_nt D a + n) = true then pm_nv D else pm_ix D a n
def pm_kp (R : Nat → Bool) (D : pm_D) (a n : Nat) (v : Int32) (st : Nat) : pm_D :=
  (pm_nn D, pm_nt D, (if pm_pl R D a n = pm_nv D then pm_nv D + 1 else pm_nv D),
    pm_u (pm_vn D) (pm_pl R D a n) a, pm_u (pm_vm D) (pm_pl R D a n) n, pm_u (pm_fr D) (pm_pl R D a n) st, upd (pm_va D) (pm_pl R D a n) v)

theorem pm_kp_nn {R : Nat → Bool} {D : pm_D} {a n st : Nat} {v : Int32} : pm_nn (pm_kp R D a n v st) = pm_nn D := rfl
theorem pm_kp_nt {R : Nat → Bool} {D : pm_D} {a n st : Nat} {v : Int32} : pm_nt (pm_kp R D a n v st) = pm_nt D := rfl
theorem pm_kp_nv {R : Nat → Bool} {D : pm_D} {a n st : Nat} {v : Int32} : pm_nv (pm_kp R D a n v st) = if pm_pl R D a n = pm_nv D then pm_nv D + 1 else pm_nv D := rfl
theorem pm_kp_vn {R : Nat → Bool} {D : pm_D} {a n st : Nat} {v : Int32} : pm_vn (pm_kp R D a n v st) = pm_u (pm_vn D) (pm_pl R D a n) a := rfl
theorem pm_kp_vm {R : Nat → Bool} {D : pm_D} {a n st : Nat} {v : Int32} : pm_vm (pm_kp R D a n v st) = pm_u (pm_vm D) (pm_pl R D a n) n := rfl
theorem pm_kp_fr {R : Nat → Bool} {D : pm_D} {a n st : Nat} {v : Int32} : pm_fr (pm_kp R D a n v st) = pm_u (pm_fr D) (pm_pl R D a n) st := rfl
theorem pm_kp_va {R : Nat → Bool} {D : pm_D} {a n st : Nat} {v : Int32} : pm_va (pm_kp R D a n v st) = upd (pm_va D) (pm_pl R D a n) v := rfl

def pm_vr (B : Nat → Nat) (p e T : Nat) : Nat → Nat → Nat × Nat
  | 0, k => (3, k)
  | f + 1, k => if p + k = e then (4, k) else if p + k = T then (9, k) else if B (p + k) < 128 then (0, k + 1) else pm_vr B p e T f (k + 1)
def pm_vs (B : Nat → Nat) (p : Nat) : Nat → Int32
  | 0 => 0
  | d + 1 => if d < 5 then pm_vs B p d ||| ((nI (B (p + d)) &&& 127) <<< ((7 * nI d) &&& 31)) else pm_vs B p d
def pm_fs (B : Nat → Nat) (p : Nat) : Nat → Int32
  | 0 => 0
  | d + 1 => if d < 4 then pm_fs B p d ||| (nI (B (p + d)) <<< ((8 * nI d) &&& 31)) else pm_fs B p d
def pm_zz (x : Int32) : Int32 := (x.toUInt32 >>> ((1 : Int32).toUInt32 &&& Int32.toUInt32 31)).toInt32 ^^^ (-(x &&& 1))
def pm_val (K : Nat → Nat) (j : Nat) (x : Int32) : Int32 := if K j = 2 then pm_zz x else x
def pm_end (c : pm_C) : Nat := if pm_row c = 0 then pm_lim c (pm_at c) else pm_row c
def pm_nd (c : pm_C) : Nat := pm_ins c (pm_at c)
def pm_fj (c : pm_C) (f : Nat) : Nat := 16 * pm_nt (pm_d c) (pm_nd c) + f

def pm_fin (R : Nat → Bool) (c : pm_C) (f p : Nat) (v : Int32) (st : Nat) : Nat × pm_C :=
  if f = 0 then (0, (p, pm_at c, pm_row c, pm_fld c, pm_sk c + (p - pm_pos c), pm_lim c, pm_ins c, pm_d c))
  else if pm_pl R (pm_d c) (pm_nd c) f = 48 then (5, c)
  else (0, (p, pm_at c, pm_row c, pm_fld c, pm_sk c, pm_lim c, pm_ins c, pm_kp R (pm_d c) (pm_nd c) f v st))
def pm_goV (B : Nat → Nat) (K : Nat → Nat) (R : Nat → Bool) (T : Nat) (c : pm_C) (f q d : Nat) : Nat × pm_C :=
  if (pm_vr B q (pm_end c) T (10 - d) d).1 = 0 then
    pm_fin R c f (q + (pm_vr B q (pm_end c) T (10 - d) d).2) (pm_val K (pm_fj c f) (pm_vs B q (pm_vr B q (pm_end c) T (10 - d) d).2)) 0
  else ((pm_vr B q (pm_end c) T (10 - d) d).1, c)
def pm_goF (B : Nat → Nat) (R : Nat → Bool) (T : Nat) (c : pm_C) (f q w : Nat) : Nat × pm_C :=
  if pm_end c < q + w then (if pm_end c ≤ T then (4, c) else (9, c))
  else if T < q + w then (9, c) else pm_fin R c f (q + w) (pm_fs B q 4) 0
def pm_part (R : Nat → Bool) (c : pm_C) (f t q len : Nat) : Nat × pm_C :=
  if pm_pl R (pm_d c) (pm_nd c) f < pm_nv (pm_d c) then
    (0, (q, pm_at c + 1, 0, pm_fld c, pm_sk c, pm_u (pm_lim c) (pm_at c + 1) (q + len),
      pm_u (pm_ins c) (pm_at c + 1) (pm_va (pm_d c) (pm_pl R (pm_d c) (pm_nd c) f)).toNatClampNeg, pm_d c))
  else if pm_nn (pm_d c) = 16 ∨ pm_nv (pm_d c) = 48 ∨ pm_at c = 3 then (5, c)
  else (0, (q, pm_at c + 1, 0, pm_fld c, pm_sk c, pm_u (pm_lim c) (pm_at c + 1) (q + len),
      pm_u (pm_ins c) (pm_at c + 1) (pm_nn (pm_d c)),
      (pm_nn (pm_d c) + 1, pm_u (pm_nt (pm_d c)) (pm_nn (pm_d c)) t, (pm_kp R (pm_d c) (pm_nd c) f (nI (pm_nn (pm_d c))) 0).2.2)))
def pm_body (K : Nat → Nat) (R : Nat → Bool) (T : Nat) (c : pm_C) (f q len : Nat) : Nat × pm_C :=
  if f = 0 then (if T < q + len then (9, c) else pm_fin R c 0 (q + len) 0 0)
  else if K (pm_fj c f) = 4 then
    (if pm_pl R (pm_d c) (pm_nd c) f = 48 then (5, c) else if T < q + len then (9, c) else pm_fin R c f (q + len) (nI len) q)
  else if 4 < K (pm_fj c f) then pm_part R c f (K (pm_fj c f) - 5) q len
  else (0, (q, pm_at c, q + len, f, pm_sk c, pm_lim c, pm_ins c, pm_d c))
def pm_len (K : Nat → Nat) (R : Nat → Bool) (T : Nat) (c : pm_C) (f q : Nat) (x : Int32) : Nat × pm_C :=
  if x < 0 ∨ pm_lim c (pm_at c) < q + x.toNatClampNeg then (4, c) else pm_body K R T c f q x.toNatClampNeg
def pm_goL (B : Nat → Nat) (K : Nat → Nat) (R : Nat → Bool) (T : Nat) (c : pm_C) (f q d : Nat) : Nat × pm_C :=
  if (pm_vr B q (pm_lim c (pm_at c)) T (10 - d) d).1 = 0 then
    pm_len K R T c f (q + (pm_vr B q (pm_lim c (pm_at c)) T (10 - d) d).2) (pm_vs B q (pm_vr B q (pm_lim c (pm_at c)) T (10 - d) d).2)
  else ((pm_vr B q (pm_lim c (pm_at c)) T (10 - d) d).1, c)
def pm_w (k : Nat) : Nat := if k < 3 then 0 else if k = 3 then 5 else 2
/-- the number under which a tag's element is known, or 0 -/
def pm_fl (K : Nat → Nat) (R : Nat → Bool) (c : pm_C) (n w : Nat) : Nat :=
  if 15 < n then 0 else if K (pm_fj c n) = 0 then 0
  else if w = pm_w (K (pm_fj c n)) ∨ (w = 2 ∧ R (pm_fj c n) = true) then n else 0
def pm_dis (B : Nat → Nat) (K : Nat → Nat) (R : Nat → Bool) (T : Nat) (c : pm_C) (q X : Nat) : Nat × pm_C :=
  if X / 8 = 0 then (2, c)
  else if X % 8 = 0 then pm_goV B K R T c (pm_fl K R c (X / 8) 0) q 0
  else if X % 8 = 2 then pm_goL B K R T c (pm_fl K R c (X / 8) 2) q 0
  else if X % 8 = 5 then pm_goF B R T c (pm_fl K R c (X / 8) 5) q 4
  else if X % 8 = 1 then pm_goF B R T c 0 q 8
  else (2, c)
def pm_goT (B : Nat → Nat) (K : Nat → Nat) (R : Nat → Bool) (T : Nat) (c : pm_C) (d : Nat) : Nat × pm_C :=
  if (pm_vr B (pm_pos c) (pm_lim c (pm_at c)) T (10 - d) d).1 = 0 then
    pm_dis B K R T c (pm_pos c + (pm_vr B (pm_pos c) (pm_lim c (pm_at c)) T (10 - d) d).2) (pm_vs B (pm_pos c) (pm_vr B (pm_pos c) (pm_lim c (pm_at c)) T (10 - d) d).2).toBitVec.toNat
  else ((pm_vr B (pm_pos c) (pm_lim c (pm_at c)) T (10 - d) d).1, c)
/-- the single of a row: by the field's kind -/
def pm_goS (B : Nat → Nat) (K : Nat → Nat) (R : Nat → Bool) (T : Nat) (c : pm_C) : Nat × pm_C :=
  if K (pm_fj c (pm_fld c)) = 3 then pm_goF B R T c (pm_fld c) (pm_pos c) 4 else pm_goV B K R T c (pm_fld c) (pm_pos c) 0
def pm_pop (lim : Nat → Nat) (p : Nat) : Nat → Nat
  | 0 => 0
  | a + 1 => if p = lim (a + 1) then pm_pop lim p a else a + 1
def pm_popC (c : pm_C) : pm_C := (pm_pos c, pm_pop (pm_lim c) (pm_pos c) (pm_at c), pm_row c, pm_fld c, pm_sk c, pm_lim c, pm_ins c, pm_d c)
def pm_row0 (c : pm_C) : pm_C := (pm_pos c, pm_at c, 0, pm_fld c, pm_sk c, pm_lim c, pm_ins c, pm_d c)
def pm_rd (B : Nat → Nat) (K : Nat → Nat) (R : Nat → Bool) (T : Nat) : Nat → pm_C → Option (Nat × pm_C)
  | 0, _ => none
  | n + 1, c =>
    if pm_row c ≠ 0 then
      (if pm_pos c = pm_row c then pm_rd B K R T n (pm_row0 c)
       else if (pm_goS B K R T c).1 = 0 then pm_rd B K R T n (pm_goS B K R T c).2 else some (pm_goS B K R T c))
    else if pm_pos c = pm_lim c 0 then some (0, pm_popC c)
    else if (pm_goT B K R T (pm_popC c) 0).1 = 0 then pm_rd B K R T n (pm_goT B K R T (pm_popC c) 0).2
    else some (pm_goT B K R T (pm_popC c) 0)
def pm_Rd (B : Nat → Nat) (K : Nat → Nat) (R : Nat → Bool) (T : Nat) (c : pm_C) (r : Nat × pm_C) : Prop := ∃ n, pm_rd B K R T n c = some r
/-- what is left of an element: h 0 tag, 1 length, 2 varint, 3 fixed, 4 body -/
abbrev pm_P : Type := Nat × Nat × Nat × Nat × Nat
def pm_go (B : Nat → Nat) (K : Nat → Nat) (R : Nat → Bool) (T : Nat) (c : pm_C) (h f q d w : Nat) : Nat × pm_C :=
  if h = 0 then pm_goT B K R T c d else if h = 1 then pm_goL B K R T c f q d else if h = 2 then pm_goV B K R T c f q d
  else if h = 3 then pm_goF B R T c f q w else pm_body K R T c f q w
def pm_Rp (B : Nat → Nat) (K : Nat → Nat) (R : Nat → Bool) (T : Nat) (g : Nat × pm_C) (r : Nat × pm_C) : Prop :=
  (g.1 = 0 ∧ pm_Rd B K R T g.2 r) ∨ (g.1 ≠ 0 ∧ r = g)

/-! B: its steps -/
variable {B B' : Nat → Nat} {K : Nat → Nat} {R : Nat → Bool} {p e T d f q w : Nat} {c : pm_C} {r : Nat × pm_C}
theorem pm_vr_c (hd : d < 10) (h1 : p + d ≠ e) (h2 : p + d ≠ T) (h3 : ¬ B (p + d) < 128) :
    pm_vr B p e T (10 - d) d = pm_vr B p e T (10 - (d + 1)) (d + 1) := by
  obtain ⟨g, hg⟩ : ∃ g, 10 - d = g + 1 := ⟨9 - d, by omega⟩
  have hg2 : 10 - (d + 1) = g := by omega
  rw [hg, hg2, pm_vr, if_neg h1, if_neg h2, if_neg h3]
theorem pm_vr_d (hd : d < 10) (h1 : p + d ≠ e) (h2 : p + d ≠ T) (h3 : B (p + d) < 128) : pm_vr B p e T (10 - d) d = (0, d + 1) := by
  obtain ⟨g, hg⟩ : ∃ g, 10 - d = g + 1 := ⟨9 - d, by omega⟩
  rw [hg, pm_vr, if_neg h1, if_neg h2, if_pos h3]
theorem pm_vr_e (hd : d < 10) (h1 : p + d = e) : pm_vr B p e T (10 - d) d = (4, d) := by
  obtain ⟨g, hg⟩ : ∃ g, 10 - d = g + 1 := ⟨9 - d, by omega⟩
  rw [hg, pm_vr, if_pos h1]
theorem pm_vr_9 (hd : d < 10) (h1 : p + d ≠ e) (h2 : p + d = T) : pm_vr B p e T (10 - d) d = (9, d) := by
  obtain ⟨g, hg⟩ : ∃ g, 10 - d = g + 1 := ⟨9 - d, by omega⟩
  rw [hg, pm_vr, if_neg h1, if_pos h2]
theorem pm_vr_x (h1 : p + 9 ≠ e) (h2 : p + 9 ≠ T) (h3 : ¬ B (p + 9) < 128) : pm_vr B p e T (10 - 9) 9 = (3, 10) := by
  rw [pm_vr_c (by omega) h1 h2 h3]; rfl

theorem pm_goT_c (hd : d < 10) (h1 : pm_pos c + d ≠ pm_lim c (pm_at c)) (h2 : pm_pos c + d ≠ T) (h3 : ¬ B (pm_pos c + d) < 128) :
    pm_goT B K R T c d = pm_goT B K R T c (d + 1) := by
  unfold pm_goT; rw [pm_vr_c hd h1 h2 h3]
theorem pm_goT_d (hd : d < 10) (h1 : pm_pos c + d ≠ pm_lim c (pm_at c)) (h2 : pm_pos c + d ≠ T) (h3 : B (pm_pos c + d) < 128) :
    pm_goT B K R T c d = pm_dis B K R T c (pm_pos c + (d + 1)) (pm_vs B (pm_pos c) (d + 1)).toBitVec.toNat := by
  unfold pm_goT; rw [pm_vr_d hd h1 h2 h3]; rfl
theorem pm_goT_e (hd : d < 10) (h1 : pm_pos c + d = pm_lim c (pm_at c)) : pm_goT B K R T c d = (4, c) := by
  unfold pm_goT; rw [pm_vr_e hd h1]; rfl
theorem pm_goT_9 (hd : d < 10) (h1 : pm_pos c + d ≠ pm_lim c (pm_at c)) (h2 : pm_pos c + d = T) : pm_goT B K R T c d = (9, c) := by
  unfold pm_goT; rw [pm_vr_9 hd h1 h2]; rfl
theorem pm_goT_x (h1 : pm_pos c + 9 ≠ pm_lim c (pm_at c)) (h2 : pm_pos c + 9 ≠ T) (h3 : ¬ B (pm_pos c + 9) < 128) : pm_goT B K R T c 9 = (3, c) := by
  unfold pm_goT; rw [pm_vr_x h1 h2 h3]; rfl
theorem pm_goL_c (hd : d < 10) (h1 : q + d ≠ pm_lim c (pm_at c)) (h2 : q + d ≠ T) (h3 : ¬ B (q + d) < 128) :
    pm_goL B K R T c f q d = pm_goL B K R T c f q (d + 1) := by
  unfold pm_goL; rw [pm_vr_c hd h1 h2 h3]
theorem pm_goL_d (hd : d < 10) (h1 : q + d ≠ pm_lim c (pm_at c)) (h2 : q + d ≠ T) (h3 : B (q + d) < 128) :
    pm_goL B K R T c f q d = pm_len K R T c f (q + (d + 1)) (pm_vs B q (d + 1)) := by
  unfold pm_goL; rw [pm_vr_d hd h1 h2 h3]; rfl
theorem pm_goL_e (hd : d < 10) (h1 : q + d = pm_lim c (pm_at c)) : pm_goL B K R T c f q d = (4, c) := by
  unfold pm_goL; rw [pm_vr_e hd h1]; rfl
theorem pm_goL_9 (hd : d < 10) (h1 : q + d ≠ pm_lim c (pm_at c)) (h2 : q + d = T) : pm_goL B K R T c f q d = (9, c) := by
  unfold pm_goL; rw [pm_vr_9 hd h1 h2]; rfl
theorem pm_goL_x (h1 : q + 9 ≠ pm_lim c (pm_at c)) (h2 : q + 9 ≠ T) (h3 : ¬ B (q + 9) < 128) : pm_goL B K R T c f q 9 = (3, c) := by
  unfold pm_goL; rw [pm_vr_x h1 h2 h3]; rfl
theorem pm_goV_c (hd : d < 10) (h1 : q + d ≠ pm_end c) (h2 : q + d ≠ T) (h3 : ¬ B (q + d) < 128) :
    pm_goV B K R T c f q d = pm_goV B K R T c f q (d + 1) := by
  unfold pm_goV; rw [pm_vr_c hd h1 h2 h3]
theorem pm_goV_d (hd : d < 10) (h1 : q + d ≠ pm_end c) (h2 : q + d ≠ T) (h3 : B (q + d) < 128) :
    pm_goV B K R T c f q d = pm_fin R c f (q + (d + 1)) (pm_val K (pm_fj c f) (pm_vs B q (d + 1))) 0 := by
  unfold pm_goV; rw [pm_vr_d hd h1 h2 h3]; rfl
theorem pm_goV_e (hd : d < 10) (h1 : q + d = pm_end c) : pm_goV B K R T c f q d = (4, c) := by
  unfold pm_goV; rw [pm_vr_e hd h1]; rfl
theorem pm_goV_9 (hd : d < 10) (h1 : q + d ≠ pm_end c) (h2 : q + d = T) : pm_goV B K R T c f q d = (9, c) := by
  unfold pm_goV; rw [pm_vr_9 hd h1 h2]; rfl
theorem pm_goV_x (h1 : q + 9 ≠ pm_end c) (h2 : q + 9 ≠ T) (h3 : ¬ B (q + 9) < 128) : pm_goV B K R T c f q 9 = (3, c) := by
  unfold pm_goV; rw [pm_vr_x h1 h2 h3]; rfl
theorem pm_goF_e (h1 : pm_end c < q + w) (h2 : pm_end c ≤ T) : pm_goF B R T c f q w = (4, c) := by
  unfold pm_goF; rw [if_pos h1, if_pos h2]
theorem pm_goF_9 (h2 : T < q + w) (h3 : T < pm_end c) : pm_goF B R T c f q w = (9, c) := by
  unfold pm_goF
  by_cases h1 : pm_end c < q + w
  · rw [if_pos h1, if_neg (by omega)]
  · rw [if_neg h1, if_pos h2]
theorem pm_goF_d (h1 : q + w ≤ pm_end c) (h2 : q + w ≤ T) : pm_goF B R T c f q w = pm_fin R c f (q + w) (pm_fs B q 4) 0 := by
  unfold pm_goF; rw [if_neg (by omega), if_neg (by omega)]

theorem pm_vs_g : ∀ d, (∀ i, i < d → B' (p + i) = B (p + i)) → pm_vs B' p d = pm_vs B p d
  | 0, _ => rfl
  | d + 1, h => by
    unfold pm_vs
    rw [pm_vs_g d (fun i hi => h i (by omega)), h d (by omega)]
theorem pm_fs_g : ∀ d, (∀ i, i < d → B' (p + i) = B (p + i)) → pm_fs B' p d = pm_fs B p d
  | 0, _ => rfl
  | d + 1, h => by
    unfold pm_fs
    rw [pm_fs_g d (fun i hi => h i (by omega)), h d (by omega)]

theorem pm_rd_row (h : pm_row c ≠ 0) (h1 : pm_pos c = pm_row c) (H : pm_Rd B K R T (pm_row0 c) r) : pm_Rd B K R T c r := by
  obtain ⟨n, hn⟩ := H
  exact ⟨n + 1, by rw [pm_rd, if_pos h, if_pos h1, hn]⟩
theorem pm_rd_S (h : pm_row c ≠ 0) (h1 : pm_pos c ≠ pm_row c) (H : pm_Rp B K R T (pm_goS B K R T c) r) : pm_Rd B K R T c r := by
  rcases H with ⟨h0, n, hn⟩ | ⟨h0, hr⟩
  · exact ⟨n + 1, by rw [pm_rd, if_pos h, if_neg h1, if_pos h0, hn]⟩
  · exact ⟨1, by rw [pm_rd, if_pos h, if_neg h1, if_neg h0, hr]⟩
theorem pm_rd_T (h : pm_row c = 0) (h1 : pm_pos c ≠ pm_lim c 0) (H : pm_Rp B K R T (pm_goT B K R T (pm_popC c) 0) r) : pm_Rd B K R T c r := by
  rcases H with ⟨h0, n, hn⟩ | ⟨h0, hr⟩
  · exact ⟨n + 1, by rw [pm_rd, if_neg (fun z => z h), if_neg h1, if_pos h0, hn]⟩
  · exact ⟨1, by rw [pm_rd, if_neg (fun z => z h), if_neg h1, if_neg h0, hr]⟩
theorem pm_rd_E (h : pm_row c = 0) (h1 : pm_pos c = pm_lim c 0) : pm_Rd B K R T c (0, pm_popC c) :=
  ⟨1, by rw [pm_rd, if_neg (fun z => z h), if_pos h1]⟩
theorem pm_Rp_0 {g : Nat × pm_C} {c' : pm_C} (h : g = (0, c')) (H : pm_Rd B K R T c' r) : pm_Rp B K R T g r := by
  subst h; exact Or.inl ⟨rfl, H⟩
theorem pm_Rp_e {g : Nat × pm_C} {x : Nat} (h : g = (x, c)) (hx : x ≠ 0) : pm_Rp B K R T g (x, c) := by
  subst h; exact Or.inr ⟨hx, rfl⟩
end
end
section
/-! C: what holds of a message that is read -/
section
abbrev pm_kk (K : Nat → Nat) (D : pm_D) (j : Nat) : Nat := K (16 * pm_nt D (pm_vn D j) + pm_vm D j)
/-- of one value -/
def pm_VI (K : Nat → Nat) (L : Nat) (dep : Nat → Nat) (D : pm_D) (j : Nat) : Prop :=
  pm_vn D j < pm_nn D ∧ 1 ≤ pm_vm D j ∧ pm_vm D j ≤ 15 ∧ pm_kk K D j ≠ 0 ∧
  (pm_kk K D j = 4 → ∃ m, pm_va D j = nI m ∧ pm_fr D j + m ≤ L) ∧
  (4 < pm_kk K D j → ∃ m, pm_va D j = nI m ∧ pm_vn D j < m ∧ m < pm_nn D ∧ dep m = dep (pm_vn D j) + 1)
def pm_DI (K : Nat → Nat) (L : Nat) (dep : Nat → Nat) (D : pm_D) : Prop :=
  1 ≤ pm_nn D ∧ pm_nn D ≤ 16 ∧ pm_nv D ≤ 48 ∧ dep 0 = 0 ∧ (∀ i, i < pm_nn D → pm_nt D i < 4 ∧ dep i ≤ 3) ∧
  (∀ j, j < pm_nv D → pm_VI K L dep D j) ∧
  (∀ i j, i < j → j < pm_nv D → 4 < pm_kk K D i → 4 < pm_kk K D j → (pm_va D i).toNatClampNeg < (pm_va D j).toNatClampNeg) ∧
  (∀ m, 1 ≤ m → m < pm_nn D → ∃ j, j < pm_nv D ∧ 4 < pm_kk K D j ∧ pm_va D j = nI m)
def pm_CI (K : Nat → Nat) (R : Nat → Bool) (L : Nat) (dep : Nat → Nat) (c : pm_C) : Prop :=
  pm_DI K L dep (pm_d c) ∧ pm_at c ≤ 3 ∧ pm_ins c 0 = 0 ∧ pm_lim c 0 = L ∧
  (∀ i, i ≤ pm_at c → pm_ins c i < pm_nn (pm_d c) ∧ dep (pm_ins c i) = i) ∧
  (∀ i, i < pm_at c → pm_lim c (i + 1) ≤ pm_lim c i) ∧ pm_pos c ≤ pm_end c ∧
  (pm_row c ≠ 0 → pm_row c ≤ pm_lim c (pm_at c) ∧ 1 ≤ pm_fld c ∧ pm_fld c ≤ 15 ∧ 1 ≤ K (pm_fj c (pm_fld c)) ∧ K (pm_fj c (pm_fld c)) ≤ 3 ∧ R (pm_fj c (pm_fld c)) = true)

variable {K : Nat → Nat} {R : Nat → Bool} {L : Nat} {dep : Nat → Nat} {D : pm_D} {c : pm_C}
theorem pm_fi_s {vn vm : Nat → Nat} {a n : Nat} : ∀ (k i : Nat), i ≤ pm_fi vn vm a n k i ∧ pm_fi vn vm a n k i ≤ i + k ∧
    (pm_fi vn vm a n k i < i + k → vn (pm_fi vn vm a n k i) = a ∧ vm (pm_fi vn vm a n k i) = n) ∧
    (∀ j, i ≤ j → j < pm_fi vn vm a n k i → ¬ (vn j = a ∧ vm j = n))
  | 0, i => ⟨Nat.le_refl _, Nat.le_refl _, fun h => absurd h (by simp [pm_fi]), fun j h1 h2 => by simp only [pm_fi] at h2; omega⟩
  | k + 1, i => by
    rw [pm_fi]
    by_cases h : vn i = a ∧ vm i = n
    · rw [if_pos h]
      exact ⟨Nat.le_refl _, by omega, fun _ => h, fun j h1 h2 => by omega⟩
    · rw [if_neg h]
      obtain ⟨h1, h2, h3, h4⟩ := pm_fi_s (vn := vn) (vm := vm) (a := a) (n := n) k (i + 1)
      refine ⟨by omega, by omega, fun z => h3 (by omega), fun j hj1 hj2 => ?_⟩
      rcases Nat.lt_or_ge i j with g | g
      · exact h4 j g hj2
      · have : j = i := by omega
        subst this; exact h
theorem pm_pl_le (a n : Nat) : pm_pl R D a n ≤ pm_nv D := by
  unfold pm_pl
  split
  · exact Nat.le_refl _
  · have := (pm_fi_s (vn := pm_vn D) (vm := pm_vm D) (a := a) (n := n) (pm_nv D) 0).2.1
    unfold pm_ix; omega
theorem pm_pl_lt {a n : Nat} (h : pm_pl R D a n < pm_nv D) : R (16 * pm_nt D a + n) = false ∧ pm_vn D (pm_pl R D a n) = a ∧ pm_vm D (pm_pl R D a n) = n := by
  unfold pm_pl at h ⊢
  split at h
  · omega
  · rename_i g
    rw [if_neg g]
    refine ⟨by simpa using g, (pm_fi_s (vn := pm_vn D) (vm := pm_vm D) (a := a) (n := n) (pm_nv D) 0).2.2.1 ?_⟩
    unfold pm_ix at h; omega

theorem pm_u_eq (f : Nat → Nat) (k x j : Nat) : pm_u f k x j = if j = k then x else f j := rfl
theorem pm_upd_eq (f : Nat → Int32) (k : Nat) (x : Int32) (j : Nat) : upd f k x j = if j = k then x else f j := rfl

/-- a value that is kept (no part) -/
theorem pm_kp_I {a n st : Nat} {v : Int32} (I : pm_DI K L dep D) (ha : a < pm_nn D) (hn : 1 ≤ n) (hn' : n ≤ 15)
    (hk : K (16 * pm_nt D a + n) ≠ 0) (hk' : K (16 * pm_nt D a + n) ≤ 4) (h48 : pm_pl R D a n ≠ 48)
    (hv : K (16 * pm_nt D a + n) = 4 → ∃ m, v = nI m ∧ st + m ≤ L) : pm_DI K L dep (pm_kp R D a n v st) := by
  obtain ⟨i1, i2, i3, i4, i5, i6, i7, i8⟩ := I
  have hle := pm_pl_le (R := R) (D := D) a n
  have hlt := fun h => pm_pl_lt (R := R) (D := D) (a := a) (n := n) h
  generalize hk0 : pm_pl R D a n = k at hle hlt h48
  have e1 : ∀ j, j ≠ k → pm_kk K (pm_kp R D a n v st) j = pm_kk K D j := by
    intro j hj
    simp only [pm_kk, pm_kp_nn, pm_kp_nt, pm_kp_nv, pm_kp_vn, pm_kp_vm, pm_kp_fr, pm_kp_va, hk0, pm_un hj]
  have e2 : pm_kk K (pm_kp R D a n v st) k = K (16 * pm_nt D a + n) := by
    simp only [pm_kk, pm_kp_nn, pm_kp_nt, pm_kp_nv, pm_kp_vn, pm_kp_vm, pm_kp_fr, pm_kp_va, hk0, pm_us]
  have e3 : ∀ j, j < pm_nv (pm_kp R D a n v st) → j ≠ k → j < pm_nv D := by
    intro j hj hjk
    simp only [pm_kp_nn, pm_kp_nt, pm_kp_nv, pm_kp_vn, pm_kp_vm, pm_kp_fr, pm_kp_va, hk0] at hj
    split at hj <;> omega
  have e4 : ∀ j, j < pm_nv D → j < pm_nv (pm_kp R D a n v st) := by
    intro j hj
    simp only [pm_kp_nn, pm_kp_nt, pm_kp_nv, pm_kp_vn, pm_kp_vm, pm_kp_fr, pm_kp_va, hk0]
    split <;> omega
  have ek : k < pm_nv D → pm_kk K D k = K (16 * pm_nt D a + n) := by
    intro h
    simp only [pm_kk, (hlt h).2.1, (hlt h).2.2]
  have ev : ∀ j, j ≠ k → pm_va (pm_kp R D a n v st) j = pm_va D j := by
    intro j hj
    simp only [pm_kp_nn, pm_kp_nt, pm_kp_nv, pm_kp_vn, pm_kp_vm, pm_kp_fr, pm_kp_va, hk0, pm_upd_eq, if_neg hj]
  refine ⟨i1, i2, ?_, i4, i5, ?_, ?_, ?_⟩
  · simp only [pm_kp_nn, pm_kp_nt, pm_kp_nv, pm_kp_vn, pm_kp_vm, pm_kp_fr, pm_kp_va, hk0]
    split <;> omega
  · intro j hj
    by_cases hjk : j = k
    · subst hjk
      refine ⟨?_, ?_, ?_, ?_, ?_, ?_⟩
      · simp only [pm_kp_nn, pm_kp_nt, pm_kp_nv, pm_kp_vn, pm_kp_vm, pm_kp_fr, pm_kp_va, hk0, pm_us]; exact ha
      · simp only [pm_kp_nn, pm_kp_nt, pm_kp_nv, pm_kp_vn, pm_kp_vm, pm_kp_fr, pm_kp_va, hk0, pm_us]; exact hn
      · simp only [pm_kp_nn, pm_kp_nt, pm_kp_nv, pm_kp_vn, pm_kp_vm, pm_kp_fr, pm_kp_va, hk0, pm_us]; exact hn'
      · rw [e2]; exact hk
      · intro z
        rw [e2] at z
        obtain ⟨m, hm1, hm2⟩ := hv z
        exact ⟨m, by simp only [pm_kp_nn, pm_kp_nt, pm_kp_nv, pm_kp_vn, pm_kp_vm, pm_kp_fr, pm_kp_va, hk0, pm_upd_eq, if_pos]; exact hm1, by simp only [pm_kp_nn, pm_kp_nt, pm_kp_nv, pm_kp_vn, pm_kp_vm, pm_kp_fr, pm_kp_va, hk0, pm_us]; exact hm2⟩
      · intro z
        rw [e2] at z; omega
    · obtain ⟨v1, v2, v3, v4, v5, v6⟩ := i6 j (e3 j hj hjk)
      refine ⟨?_, ?_, ?_, ?_, ?_, ?_⟩
      · simp only [pm_kp_nn, pm_kp_nt, pm_kp_nv, pm_kp_vn, pm_kp_vm, pm_kp_fr, pm_kp_va, hk0, pm_un hjk]; exact v1
      · simp only [pm_kp_nn, pm_kp_nt, pm_kp_nv, pm_kp_vn, pm_kp_vm, pm_kp_fr, pm_kp_va, hk0, pm_un hjk]; exact v2
      · simp only [pm_kp_nn, pm_kp_nt, pm_kp_nv, pm_kp_vn, pm_kp_vm, pm_kp_fr, pm_kp_va, hk0, pm_un hjk]; exact v3
      · rw [e1 j hjk]; exact v4
      · rw [e1 j hjk, ev j hjk]
        simp only [pm_kp_nn, pm_kp_nt, pm_kp_nv, pm_kp_vn, pm_kp_vm, pm_kp_fr, pm_kp_va, hk0, pm_un hjk]; exact v5
      · rw [e1 j hjk, ev j hjk]
        simp only [pm_kp_nn, pm_kp_nt, pm_kp_nv, pm_kp_vn, pm_kp_vm, pm_kp_fr, pm_kp_va, hk0, pm_un hjk]; exact v6
  · intro i j hij hj hi hj'
    have h1 : i ≠ k := by
      intro z; subst z; rw [e2] at hi; omega
    have h2 : j ≠ k := by
      intro z; subst z; rw [e2] at hj'; omega
    rw [e1 i h1] at hi
    rw [e1 j h2] at hj'
    rw [ev i h1, ev j h2]
    exact i7 i j hij (e3 j hj h2) hi hj'
  · intro m hm hm'
    obtain ⟨j, hj, hj1, hj2⟩ := i8 m hm hm'
    have h1 : j ≠ k := by
      intro z; subst z; rw [ek hj] at hj1; omega
    exact ⟨j, e4 j hj, by rw [e1 j h1]; exact hj1, by rw [ev j h1]; exact hj2⟩

/-- a part that is new -/
theorem pm_pt_I {a n t : Nat} (I : pm_DI K L dep D) (ha : a < pm_nn D) (hn : 1 ≤ n) (hn' : n ≤ 15)
    (hk : 4 < K (16 * pm_nt D a + n)) (ht : t < 4) (h16 : pm_nn D ≠ 16) (h48 : pm_nv D ≠ 48) (hd : dep a < 3) :
    pm_DI K L (pm_u dep (pm_nn D) (dep a + 1)) (pm_nn D + 1, pm_u (pm_nt D) (pm_nn D) t, pm_nv D + 1, pm_u (pm_vn D) (pm_nv D) a, pm_u (pm_vm D) (pm_nv D) n, pm_u (pm_fr D) (pm_nv D) 0, upd (pm_va D) (pm_nv D) (nI (pm_nn D))) := by
  obtain ⟨i1, i2, i3, i4, i5, i6, i7, i8⟩ := I
  obtain ⟨nn, nt, nv, vn, vm, fr, va⟩ := D
  simp only [pm_nn, pm_nt, pm_nv, pm_vn, pm_vm, pm_fr, pm_va] at *
  have e1 : ∀ j, j < nv → pm_kk K (nn + 1, pm_u nt nn t, nv + 1, pm_u vn nv a, pm_u vm nv n, pm_u fr nv 0, upd va nv (nI nn)) j = pm_kk K (nn, nt, nv, vn, vm, fr, va) j := by
    intro j hj
    have := (i6 j hj).1
    simp only [pm_kk, pm_nt, pm_vn, pm_vm] at *
    rw [pm_un (show j ≠ nv by omega), pm_un (show j ≠ nv by omega), pm_un (show vn j ≠ nn by simp only [pm_nn, pm_vn] at this; omega)]
  have e2 : pm_kk K (nn + 1, pm_u nt nn t, nv + 1, pm_u vn nv a, pm_u vm nv n, pm_u fr nv 0, upd va nv (nI nn)) nv = K (16 * nt a + n) := by
    simp only [pm_kk, pm_nt, pm_vn, pm_vm]
    rw [pm_us, pm_us, pm_un (show a ≠ nn by omega)]
  have ev : ∀ j, j ≠ nv → upd va nv (nI nn) j = va j := by
    intro j hj
    rw [pm_upd_eq, if_neg hj]
  have ev2 : upd va nv (nI nn) nv = nI nn := by
    rw [pm_upd_eq, if_pos rfl]
  refine ⟨by simp only [pm_nn]; omega, by simp only [pm_nn]; omega, by simp only [pm_nv]; omega, ?_, ?_, ?_, ?_, ?_⟩
  · rw [pm_un (by omega)]; exact i4
  · intro i hi
    simp only [pm_nn, pm_nt] at *
    by_cases hin : i = nn
    · subst hin
      rw [pm_us, pm_us]
      exact ⟨ht, by omega⟩
    · rw [pm_un hin, pm_un hin]
      exact i5 i (by omega)
  · intro j hj
    simp only [pm_nv] at hj
    by_cases hjk : j = nv
    · subst hjk
      refine ⟨?_, ?_, ?_, ?_, ?_, ?_⟩
      · simp only [pm_nn, pm_vn, pm_us]; omega
      · simp only [pm_vm, pm_us]; exact hn
      · simp only [pm_vm, pm_us]; exact hn'
      · rw [e2]; omega
      · intro z
        rw [e2] at z; omega
      · intro _
        refine ⟨nn, ev2, ?_, ?_, ?_⟩
        · simp only [pm_vn, pm_us]; exact ha
        · simp only [pm_nn]; omega
        · simp only [pm_vn, pm_us]
          rw [pm_un (show a ≠ nn by omega)]
    · have hjl : j < nv := by omega
      obtain ⟨v1, v2, v3, v4, v5, v6⟩ := i6 j hjl
      simp only [pm_nn, pm_vn, pm_vm] at v1 v2 v3
      refine ⟨?_, ?_, ?_, ?_, ?_, ?_⟩
      · simp only [pm_nn, pm_vn, pm_un hjk]; omega
      · simp only [pm_vm, pm_un hjk]; exact v2
      · simp only [pm_vm, pm_un hjk]; exact v3
      · rw [e1 j hjl]; exact v4
      · rw [e1 j hjl]
        simp only [pm_va, pm_fr, ev j hjk, pm_un hjk]; exact v5
      · rw [e1 j hjl]
        intro z
        obtain ⟨m, w1, w2, w3, w4⟩ := v6 z
        simp only [pm_nn, pm_vn, pm_va] at w1 w2 w3 w4
        refine ⟨m, ?_, ?_, ?_, ?_⟩
        · simp only [pm_va, ev j hjk]; exact w1
        · simp only [pm_vn, pm_un hjk]; exact w2
        · simp only [pm_nn]; omega
        · simp only [pm_vn, pm_un hjk]
          rw [pm_un (show m ≠ nn by omega), pm_un (show vn j ≠ nn by omega)]
          exact w4
  · intro i j hij hj hi hj'
    simp only [pm_nv] at hj
    rw [e1 i (by omega)] at hi
    by_cases hjk : j = nv
    · subst hjk
      obtain ⟨m, w1, w2, w3, w4⟩ := (i6 i (by omega)).2.2.2.2.2 hi
      simp only [pm_va, pm_nn] at w1 w3 ⊢
      rw [ev2, ev i (by omega), w1, nI_clamp (by omega), nI_clamp (by omega)]
      exact w3
    · rw [e1 j (by omega)] at hj'
      simp only [pm_va]
      rw [ev i (by omega), ev j hjk]
      exact i7 i j hij (by omega) hi hj'
  · intro m hm hm'
    simp only [pm_nn] at hm'
    by_cases hmn : m = nn
    · subst hmn
      exact ⟨nv, by simp only [pm_nv]; omega, by rw [e2]; exact hk, ev2⟩
    · obtain ⟨j, hj, hj1, hj2⟩ := i8 m hm (by omega)
      exact ⟨j, by simp only [pm_nv]; omega, by rw [e1 j hj]; exact hj1, by simp only [pm_va]; rw [ev j (by omega)]; exact hj2⟩

variable {p q x len n t : Nat} {D' : pm_D}
theorem pm_CI_k (I : pm_CI K R L dep c) (I' : pm_DI K L dep D') (h1 : pm_nn D' = pm_nn (pm_d c)) (h2 : pm_nt D' = pm_nt (pm_d c)) (hp : p ≤ pm_end c) :
    pm_CI K R L dep (p, pm_at c, pm_row c, pm_fld c, x, pm_lim c, pm_ins c, D') := by
  obtain ⟨j1, j2, j3, j4, j5, j6, j7, j8⟩ := I
  refine ⟨I', j2, j3, j4, ?_, j6, ?_, ?_⟩
  · intro i hi
    have := j5 i hi
    simp only [pm_ins, pm_d] at *
    rw [h1]; exact this
  · exact hp
  · intro h
    have := j8 h
    simp only [pm_fj, pm_nd, pm_row, pm_fld, pm_lim, pm_at, pm_ins, pm_d] at *
    rw [h2]; exact this
theorem pm_CI_p (I : pm_CI K R L dep c) (hp : p ≤ pm_end c) :
    pm_CI K R L dep (p, pm_at c, pm_row c, pm_fld c, x, pm_lim c, pm_ins c, pm_d c) := pm_CI_k I I.1 rfl rfl hp
theorem pm_CI_kp {f st : Nat} {v : Int32} (I : pm_CI K R L dep c) (hp : p ≤ pm_end c) (hn : 1 ≤ f) (hn' : f ≤ 15)
    (hk : K (pm_fj c f) ≠ 0) (hk' : K (pm_fj c f) ≤ 4) (h48 : pm_pl R (pm_d c) (pm_nd c) f ≠ 48)
    (hv : K (pm_fj c f) = 4 → ∃ m, v = nI m ∧ st + m ≤ L) :
    pm_CI K R L dep (p, pm_at c, pm_row c, pm_fld c, x, pm_lim c, pm_ins c, pm_kp R (pm_d c) (pm_nd c) f v st) :=
  pm_CI_k I (pm_kp_I I.1 (I.2.2.2.2.1 _ (Nat.le_refl _)).1 hn hn' hk hk' h48 hv) rfl rfl hp
theorem pm_lim_le (I : pm_CI K R L dep c) : ∀ i, i ≤ pm_at c → pm_lim c i ≤ L
  | 0, _ => by rw [I.2.2.2.1]; exact Nat.le_refl _
  | i + 1, h => Nat.le_trans (I.2.2.2.2.2.1 i (by omega)) (pm_lim_le I i (by omega))
theorem pm_pop_s {lim : Nat → Nat} {p : Nat} : ∀ a, pm_pop lim p a ≤ a ∧ (pm_pop lim p a = 0 ∨ p ≠ lim (pm_pop lim p a)) ∧ (∀ i, pm_pop lim p a < i → i ≤ a → p = lim i)
  | 0 => ⟨Nat.le_refl _, Or.inl rfl, fun i h1 h2 => by simp only [pm_pop] at h1; omega⟩
  | a + 1 => by
    rw [pm_pop]
    by_cases h : p = lim (a + 1)
    · rw [if_pos h]
      obtain ⟨h1, h2, h3⟩ := pm_pop_s (lim := lim) (p := p) a
      refine ⟨by omega, h2, fun i hi hi' => ?_⟩
      by_cases g : i = a + 1
      · subst g; exact h
      · exact h3 i hi (by omega)
    · rw [if_neg h]
      exact ⟨Nat.le_refl _, Or.inr h, fun i h1 h2 => by omega⟩
theorem pm_CI_pop (I : pm_CI K R L dep c) (hr : pm_row c = 0) : pm_CI K R L dep (pm_popC c) := by
  obtain ⟨j1, j2, j3, j4, j5, j6, j7, j8⟩ := I
  obtain ⟨h1, h2, h3⟩ := pm_pop_s (lim := pm_lim c) (p := pm_pos c) (pm_at c)
  refine ⟨j1, Nat.le_trans h1 j2, j3, j4, fun i hi => j5 i (Nat.le_trans hi h1), fun i hi => j6 i (Nat.lt_of_lt_of_le hi h1), ?_, fun h => absurd hr h⟩
  have e : pm_end (pm_popC c) = pm_lim c (pm_pop (pm_lim c) (pm_pos c) (pm_at c)) := by
    unfold pm_end; exact if_pos hr
  have e' : pm_end c = pm_lim c (pm_at c) := by
    unfold pm_end; exact if_pos hr
  rw [e]
  show pm_pos c ≤ _
  rw [e'] at j7
  by_cases g : pm_pop (pm_lim c) (pm_pos c) (pm_at c) = pm_at c
  · rw [g]; exact j7
  · have := h3 (pm_pop (pm_lim c) (pm_pos c) (pm_at c) + 1) (by omega) (by omega)
    have := j6 (pm_pop (pm_lim c) (pm_pos c) (pm_at c)) (by omega)
    omega
/-- popped and not at the message's end: before the end of its part -/
theorem pm_pop_lt (I : pm_CI K R L dep c) (hr : pm_row c = 0) (h : pm_pos c ≠ pm_lim c 0) :
    pm_pos (pm_popC c) < pm_lim (pm_popC c) (pm_at (pm_popC c)) := by
  have I' := (pm_CI_pop I hr).2.2.2.2.2.2.1
  have e : pm_end (pm_popC c) = pm_lim c (pm_pop (pm_lim c) (pm_pos c) (pm_at c)) := by
    unfold pm_end; exact if_pos hr
  obtain ⟨h1, h2, h3⟩ := pm_pop_s (lim := pm_lim c) (p := pm_pos c) (pm_at c)
  rw [e] at I'
  have I2 : pm_pos c ≤ pm_lim c (pm_pop (pm_lim c) (pm_pos c) (pm_at c)) := I'
  show pm_pos c < pm_lim c (pm_pop (pm_lim c) (pm_pos c) (pm_at c))
  rcases h2 with h2 | h2
  · rw [h2] at I2 ⊢; omega
  · omega
theorem pm_CI_row0 (I : pm_CI K R L dep c) (hr : pm_row c ≠ 0) (h : pm_pos c = pm_row c) : pm_CI K R L dep (pm_row0 c) := by
  obtain ⟨j1, j2, j3, j4, j5, j6, j7, j8⟩ := I
  refine ⟨j1, j2, j3, j4, j5, j6, ?_, fun h => absurd rfl h⟩
  have := (j8 hr).1
  show pm_pos c ≤ pm_lim c (pm_at c)
  omega
theorem pm_CI_row {f : Nat} (I : pm_CI K R L dep c) (hr : pm_row c = 0) (hq : q + len ≤ pm_lim c (pm_at c)) (hn : 1 ≤ f) (hn' : f ≤ 15)
    (hk : 1 ≤ K (pm_fj c f)) (hk' : K (pm_fj c f) ≤ 3) (hR : R (pm_fj c f) = true) (h0 : 0 < q) :
    pm_CI K R L dep (q, pm_at c, q + len, f, pm_sk c, pm_lim c, pm_ins c, pm_d c) := by
  obtain ⟨j1, j2, j3, j4, j5, j6, j7, j8⟩ := I
  refine ⟨j1, j2, j3, j4, j5, j6, ?_, fun _ => ⟨hq, hn, hn', hk, hk', hR⟩⟩
  unfold pm_end
  show q ≤ if q + len = 0 then _ else q + len
  rw [if_neg (by omega)]; omega
theorem pm_CI_old {f m : Nat} (I : pm_CI K R L dep c) (hq : q + len ≤ pm_lim c (pm_at c))
    (hm : m < pm_nn (pm_d c)) (hd : dep m = pm_at c + 1) :
    pm_CI K R L dep (q, pm_at c + 1, 0, f, pm_sk c, pm_u (pm_lim c) (pm_at c + 1) (q + len), pm_u (pm_ins c) (pm_at c + 1) m, pm_d c) := by
  obtain ⟨j1, j2, j3, j4, j5, j6, j7, j8⟩ := I
  have h3 := (j1.2.2.2.2.1 m hm).2
  refine ⟨j1, by show pm_at c + 1 ≤ 3; omega, ?_, ?_, ?_, ?_, ?_, fun h => absurd rfl h⟩
  · show pm_u (pm_ins c) (pm_at c + 1) m 0 = 0
    rw [pm_un (by omega)]; exact j3
  · show pm_u (pm_lim c) (pm_at c + 1) (q + len) 0 = L
    rw [pm_un (by omega)]; exact j4
  · intro i hi
    have hi : i ≤ pm_at c + 1 := hi
    show pm_u (pm_ins c) (pm_at c + 1) m i < pm_nn (pm_d c) ∧ dep (pm_u (pm_ins c) (pm_at c + 1) m i) = i
    by_cases g : i = pm_at c + 1
    · subst g; rw [pm_us]; exact ⟨hm, hd⟩
    · rw [pm_un g]; exact j5 i (by omega)
  · intro i hi
    have hi : i < pm_at c + 1 := hi
    show pm_u (pm_lim c) (pm_at c + 1) (q + len) (i + 1) ≤ pm_u (pm_lim c) (pm_at c + 1) (q + len) i
    rw [pm_un (show i ≠ pm_at c + 1 by omega)]
    by_cases g : i = pm_at c
    · subst g; rw [pm_us]; exact hq
    · rw [pm_un (by omega)]; exact j6 i (by omega)
  · unfold pm_end
    show q ≤ if (0 : Nat) = 0 then pm_u (pm_lim c) (pm_at c + 1) (q + len) (pm_at c + 1) else _
    rw [if_pos rfl, pm_us]; omega
theorem pm_CI_new {f t : Nat} (I : pm_CI K R L dep c) (hq : q + len ≤ pm_lim c (pm_at c)) (hn : 1 ≤ n) (hn' : n ≤ 15)
    (hk : 4 < K (pm_fj c n)) (ht : t < 4) (h16 : pm_nn (pm_d c) ≠ 16) (h48 : pm_nv (pm_d c) ≠ 48) (h3 : pm_at c ≠ 3) :
    pm_CI K R L (pm_u dep (pm_nn (pm_d c)) (pm_at c + 1)) (q, pm_at c + 1, 0, f, pm_sk c, pm_u (pm_lim c) (pm_at c + 1) (q + len), pm_u (pm_ins c) (pm_at c + 1) (pm_nn (pm_d c)),
      (pm_nn (pm_d c) + 1, pm_u (pm_nt (pm_d c)) (pm_nn (pm_d c)) t, pm_nv (pm_d c) + 1, pm_u (pm_vn (pm_d c)) (pm_nv (pm_d c)) (pm_nd c), pm_u (pm_vm (pm_d c)) (pm_nv (pm_d c)) n, pm_u (pm_fr (pm_d c)) (pm_nv (pm_d c)) 0, upd (pm_va (pm_d c)) (pm_nv (pm_d c)) (nI (pm_nn (pm_d c))))) := by
  obtain ⟨j1, j2, j3, j4, j5, j6, j7, j8⟩ := I
  have ha := j5 (pm_at c) (Nat.le_refl _)
  have hdep : dep (pm_nd c) = pm_at c := ha.2
  have J := pm_pt_I (t := t) (n := n) (a := pm_nd c) j1 ha.1 hn hn' hk ht h16 h48 (by rw [hdep]; omega)
  rw [hdep] at J
  refine ⟨J, by show pm_at c + 1 ≤ 3; omega, ?_, ?_, ?_, ?_, ?_, fun h => absurd rfl h⟩
  · show pm_u (pm_ins c) (pm_at c + 1) (pm_nn (pm_d c)) 0 = 0
    rw [pm_un (by omega)]; exact j3
  · show pm_u (pm_lim c) (pm_at c + 1) (q + len) 0 = L
    rw [pm_un (by omega)]; exact j4
  · intro i hi
    have hi : i ≤ pm_at c + 1 := hi
    show pm_u (pm_ins c) (pm_at c + 1) (pm_nn (pm_d c)) i < pm_nn (pm_d c) + 1 ∧ pm_u dep (pm_nn (pm_d c)) (pm_at c + 1) (pm_u (pm_ins c) (pm_at c + 1) (pm_nn (pm_d c)) i) = i
    by_cases g : i = pm_at c + 1
    · subst g; rw [pm_us, pm_us]; exact ⟨by omega, rfl⟩
    · have := j5 i (by omega)
      rw [pm_un g, pm_un (show pm_ins c i ≠ pm_nn (pm_d c) by omega)]
      exact ⟨by omega, this.2⟩
  · intro i hi
    have hi : i < pm_at c + 1 := hi
    show pm_u (pm_lim c) (pm_at c + 1) (q + len) (i + 1) ≤ pm_u (pm_lim c) (pm_at c + 1) (q + len) i
    rw [pm_un (show i ≠ pm_at c + 1 by omega)]
    by_cases g : i = pm_at c
    · subst g; rw [pm_us]; exact hq
    · rw [pm_un (by omega)]; exact j6 i (by omega)
  · unfold pm_end
    show q ≤ if (0 : Nat) = 0 then pm_u (pm_lim c) (pm_at c + 1) (q + len) (pm_at c + 1) else _
    rw [if_pos rfl, pm_us]; omega
end
end
section
/-! C2: an element keeps what holds -/
section
variable {B : Nat → Nat} {K : Nat → Nat} {R : Nat → Bool} {L T p q e d w f n : Nat} {dep : Nat → Nat} {c c' : pm_C}
theorem pm_w_0 : ∀ k, k ≤ 8 → (pm_w k = 0 ↔ k < 3) ∧ (pm_w k = 5 ↔ k = 3) ∧ (pm_w k = 2 ↔ 3 < k) := by
  decide
theorem pm_vr_ok {k' : Nat} : ∀ f k, p + k ≤ e → p + k ≤ T → pm_vr B p e T f k = (0, k') → k < k' ∧ p + k' ≤ e ∧ p + k' ≤ T
  | 0, k, _, _, h => by
    have : (3 : Nat) = 0 := congrArg Prod.fst h
    omega
  | f + 1, k, h1, h2, h => by
    rw [pm_vr] at h
    split at h
    · have : (4 : Nat) = 0 := congrArg Prod.fst h
      omega
    split at h
    · have : (9 : Nat) = 0 := congrArg Prod.fst h
      omega
    split at h
    · have : k + 1 = k' := congrArg Prod.snd h
      omega
    · have := pm_vr_ok f (k + 1) (by omega) (by omega) h
      omega
/-- what a number must be for its field -/
def pm_fok (K : Nat → Nat) (L : Nat) (c : pm_C) (f : Nat) (v : Int32) (st : Nat) : Prop :=
  f = 0 ∨ (1 ≤ f ∧ f ≤ 15 ∧ K (pm_fj c f) ≠ 0 ∧ K (pm_fj c f) ≤ 4 ∧ (K (pm_fj c f) = 4 → ∃ m, v = nI m ∧ st + m ≤ L))
theorem pm_fin_I {v : Int32} {st : Nat} (I : pm_CI K R L dep c) (hp : p ≤ pm_end c) (hf : pm_fok K L c f v st) (h : pm_fin R c f p v st = (0, c')) :
    pm_CI K R L dep c' ∧ pm_pos c' = p ∧ pm_at c' = pm_at c ∧ pm_row c' = pm_row c ∧ pm_fld c' = pm_fld c ∧ pm_lim c' = pm_lim c ∧ pm_ins c' = pm_ins c ∧ pm_nt (pm_d c') = pm_nt (pm_d c) := by
  unfold pm_fin at h
  by_cases h0 : f = 0
  · rw [if_pos h0] at h
    have e : _ = c' := congrArg Prod.snd h
    subst e
    exact ⟨pm_CI_p I hp, rfl, rfl, rfl, rfl, rfl, rfl, rfl⟩
  · rw [if_neg h0] at h
    split at h
    · have : (5 : Nat) = 0 := congrArg Prod.fst h
      omega
    · rename_i h48
      have e : _ = c' := congrArg Prod.snd h
      subst e
      rcases hf with hf | ⟨f1, f2, f3, f4, f5⟩
      · exact absurd hf h0
      · exact ⟨pm_CI_kp I hp f1 f2 f3 f4 h48 f5, rfl, rfl, rfl, rfl, rfl, rfl, rfl⟩
theorem pm_goV_I (I : pm_CI K R L dep c) (hq : q ≤ pm_end c) (hqT : q ≤ T) (hf : ∀ v, pm_fok K L c f v 0) (h : pm_goV B K R T c f q 0 = (0, c')) :
    pm_CI K R L dep c' ∧ q < pm_pos c' ∧ pm_pos c' ≤ T ∧ pm_pos c' ≤ pm_end c ∧ pm_at c' = pm_at c ∧ pm_row c' = pm_row c ∧ pm_fld c' = pm_fld c ∧ pm_lim c' = pm_lim c ∧ pm_ins c' = pm_ins c ∧ pm_nt (pm_d c') = pm_nt (pm_d c) := by
  unfold pm_goV at h
  split at h
  · rename_i h0
    obtain ⟨k', hk⟩ : ∃ k', pm_vr B q (pm_end c) T (10 - 0) 0 = (0, k') := ⟨_, Prod.ext h0 rfl⟩
    have hv := pm_vr_ok _ _ (by omega) (by omega) hk
    rw [hk] at h
    obtain ⟨r1, r2, r3⟩ := pm_fin_I I (by show q + k' ≤ _; omega) (hf _) h
    refine ⟨r1, ?_, ?_, ?_, r3⟩ <;> rw [r2] <;> show _ <;> dsimp only <;> omega
  · rename_i h0
    exact absurd (congrArg Prod.fst h) h0
theorem pm_goF_I (I : pm_CI K R L dep c) (hw : 0 < w) (hf : ∀ v, pm_fok K L c f v 0) (h : pm_goF B R T c f q w = (0, c')) :
    pm_CI K R L dep c' ∧ q < pm_pos c' ∧ pm_pos c' ≤ T ∧ pm_pos c' ≤ pm_end c ∧ pm_at c' = pm_at c ∧ pm_row c' = pm_row c ∧ pm_fld c' = pm_fld c ∧ pm_lim c' = pm_lim c ∧ pm_ins c' = pm_ins c ∧ pm_nt (pm_d c') = pm_nt (pm_d c) := by
  unfold pm_goF at h
  split at h
  · split at h
    · have : (4 : Nat) = 0 := congrArg Prod.fst h
      omega
    · have : (9 : Nat) = 0 := congrArg Prod.fst h
      omega
  split at h
  · have : (9 : Nat) = 0 := congrArg Prod.fst h
    omega
  · obtain ⟨r1, r2, r3⟩ := pm_fin_I I (by omega) (hf _) h
    refine ⟨r1, ?_, ?_, ?_, r3⟩ <;> rw [r2] <;> omega
/-- a field of a row's kind -/
theorem pm_fok3 (h1 : 1 ≤ f) (h2 : f ≤ 15) (h3 : 1 ≤ K (pm_fj c f)) (h4 : K (pm_fj c f) ≤ 3) (v : Int32) (st : Nat) : pm_fok K L c f v st :=
  Or.inr ⟨h1, h2, by omega, by omega, fun z => by omega⟩
theorem pm_goS_I (I : pm_CI K R L dep c) (hr : pm_row c ≠ 0) (hp : pm_pos c ≤ pm_row c) (hpT : pm_pos c ≤ T) (h : pm_goS B K R T c = (0, c')) :
    pm_CI K R L dep c' ∧ pm_pos c < pm_pos c' ∧ pm_pos c' ≤ T ∧ pm_pos c' ≤ pm_row c ∧ pm_at c' = pm_at c ∧ pm_row c' = pm_row c ∧ pm_fld c' = pm_fld c ∧ pm_lim c' = pm_lim c ∧ pm_ins c' = pm_ins c ∧ pm_nt (pm_d c') = pm_nt (pm_d c) := by
  obtain ⟨k1, k2, k3, k4, k5, k6⟩ := I.2.2.2.2.2.2.2 hr
  have he : pm_end c = pm_row c := by unfold pm_end; exact if_neg hr
  unfold pm_goS at h
  split at h
  · have := pm_goF_I I (by omega) (pm_fok3 k2 k3 k4 k5 · 0) h
    rw [he] at this; exact this
  · have := pm_goV_I I (by omega) hpT (pm_fok3 k2 k3 k4 k5 · 0) h
    rw [he] at this; exact this
theorem pm_fl_s (n w : Nat) : pm_fl K R c n w = 0 ∨ (pm_fl K R c n w = n ∧ n ≤ 15 ∧ K (pm_fj c n) ≠ 0 ∧ (w = pm_w (K (pm_fj c n)) ∨ (w = 2 ∧ R (pm_fj c n) = true))) := by
  unfold pm_fl
  split
  · left; rfl
  split
  · left; rfl
  split
  · rename_i h1 h2 h3
    exact Or.inr ⟨rfl, by omega, h2, h3⟩
  · left; rfl
theorem pm_body_I {len : Nat} (I : pm_CI K R L dep c) (hr : pm_row c = 0) (hK : ∀ j, K j ≤ 8) (h0 : pm_pos c < q) (hq : q + len ≤ pm_lim c (pm_at c)) (hqT : q ≤ T) (hL : L ≤ 200)
    (hf : f = 0 ∨ (1 ≤ f ∧ f ≤ 15 ∧ K (pm_fj c f) ≠ 0 ∧ (K (pm_fj c f) ≤ 3 → R (pm_fj c f) = true))) (h : pm_body K R T c f q len = (0, c')) :
    ∃ dep', pm_CI K R L dep' c' ∧ pm_pos c < pm_pos c' ∧ pm_pos c' ≤ T := by
  have he : pm_end c = pm_lim c (pm_at c) := by unfold pm_end; exact if_pos hr
  have hl := pm_lim_le I (pm_at c) (Nat.le_refl _)
  unfold pm_body at h
  by_cases z0 : f = 0
  · rw [if_pos z0] at h
    split at h
    · have : (9 : Nat) = 0 := congrArg Prod.fst h
      omega
    · obtain ⟨r1, r2, r3⟩ := pm_fin_I I (by omega) (Or.inl rfl) h
      exact ⟨dep, r1, by omega, by omega⟩
  · rw [if_neg z0] at h
    rcases hf with hf | ⟨f1, f2, f3, f4⟩
    · exact absurd hf z0
    split at h
    · rename_i h4
      split at h
      · have : (5 : Nat) = 0 := congrArg Prod.fst h
        omega
      split at h
      · have : (9 : Nat) = 0 := congrArg Prod.fst h
        omega
      · obtain ⟨r1, r2, r3⟩ := pm_fin_I I (by omega) (Or.inr ⟨f1, f2, f3, by omega, fun _ => ⟨len, rfl, by omega⟩⟩) h
        exact ⟨dep, r1, by omega, by omega⟩
    split at h
    · rename_i h4 h5
      have h8 := hK (pm_fj c f)
      unfold pm_part at h
      split at h
      · rename_i hlt
        obtain ⟨_, p2, p3⟩ := pm_pl_lt hlt
        have hkk : pm_kk K (pm_d c) (pm_pl R (pm_d c) (pm_nd c) f) = K (pm_fj c f) := by
          simp only [pm_kk]; rw [p2, p3]; rfl
        obtain ⟨m, w1, w2, w3, w4⟩ := (I.1.2.2.2.2.2.1 _ hlt).2.2.2.2.2 (by rw [hkk]; exact h5)
        have e : _ = c' := congrArg Prod.snd h
        subst e
        have hdep := (I.2.2.2.2.1 (pm_at c) (Nat.le_refl _)).2
        rw [p2] at w4
        have hm : (pm_va (pm_d c) (pm_pl R (pm_d c) (pm_nd c) f)).toNatClampNeg = m := by
          rw [w1, nI_clamp (by have := I.1.2.1; omega)]
        rw [hm]
        exact ⟨dep, pm_CI_old I hq w3 (by rw [w4]; show dep (pm_ins c (pm_at c)) + 1 = _; rw [hdep]), h0, hqT⟩
      split at h
      · have : (5 : Nat) = 0 := congrArg Prod.fst h
        omega
      · rename_i hnl hm
        have hpl : pm_pl R (pm_d c) (pm_nd c) f = pm_nv (pm_d c) := by
          have := pm_pl_le (R := R) (D := pm_d c) (pm_nd c) f
          omega
        have e : _ = c' := congrArg Prod.snd h
        subst e
        have ek : (pm_kp R (pm_d c) (pm_nd c) f (nI (pm_nn (pm_d c))) 0).2.2 = (pm_nv (pm_d c) + 1, pm_u (pm_vn (pm_d c)) (pm_nv (pm_d c)) (pm_nd c), pm_u (pm_vm (pm_d c)) (pm_nv (pm_d c)) f, pm_u (pm_fr (pm_d c)) (pm_nv (pm_d c)) 0, upd (pm_va (pm_d c)) (pm_nv (pm_d c)) (nI (pm_nn (pm_d c)))) := by
          unfold pm_kp
          dsimp only
          rw [hpl, if_pos rfl]
        rw [ek]
        exact ⟨_, pm_CI_new I hq f1 f2 h5 (by omega) (fun z => hm (Or.inl z)) (fun z => hm (Or.inr (Or.inl z))) (fun z => hm (Or.inr (Or.inr z))), h0, hqT⟩
    · rename_i h4 h5
      have e : _ = c' := congrArg Prod.snd h
      subst e
      exact ⟨dep, pm_CI_row I hr hq f1 f2 (by omega) (by omega) (f4 (by omega)) (by omega), h0, hqT⟩
theorem pm_dis_I {X : Nat} (I : pm_CI K R L dep c) (hr : pm_row c = 0) (hK : ∀ j, K j ≤ 8) (h0 : pm_pos c < q) (hq : q ≤ pm_lim c (pm_at c)) (hqT : q ≤ T) (hL : L ≤ 200)
    (h : pm_dis B K R T c q X = (0, c')) : ∃ dep', pm_CI K R L dep' c' ∧ pm_pos c < pm_pos c' ∧ pm_pos c' ≤ T := by
  have he : pm_end c = pm_lim c (pm_at c) := by unfold pm_end; exact if_pos hr
  unfold pm_dis at h
  split at h
  · have : (2 : Nat) = 0 := congrArg Prod.fst h
    omega
  rename_i hn
  split at h
  · have hf : ∀ v, pm_fok K L c (pm_fl K R c (X / 8) 0) v 0 := by
      intro v
      rcases pm_fl_s (K := K) (R := R) (c := c) (X / 8) 0 with z | ⟨z1, z2, z3, z4⟩
      · exact Or.inl z
      · rw [z1]
        have hlt : K (pm_fj c (X / 8)) < 3 := by
          rcases z4 with z4 | z4
          · exact (pm_w_0 _ (hK _)).1.mp z4.symm
          · exact absurd z4.1 (by decide)
        exact Or.inr ⟨by omega, z2, z3, by omega, fun y => by omega⟩
    obtain ⟨r1, r2, r3, _⟩ := pm_goV_I I (by omega) hqT hf h
    exact ⟨dep, r1, by omega, r3⟩
  split at h
  · unfold pm_goL at h
    split at h
    · rename_i h2
      obtain ⟨k', hk⟩ : ∃ k', pm_vr B q (pm_lim c (pm_at c)) T (10 - 0) 0 = (0, k') := ⟨_, Prod.ext h2 rfl⟩
      have hv := pm_vr_ok _ _ (by omega) (by omega) hk
      rw [hk] at h
      unfold pm_len at h
      split at h
      · have : (4 : Nat) = 0 := congrArg Prod.fst h
        omega
      · rename_i hlen
        dsimp only at h hlen
        have hf : pm_fl K R c (X / 8) 2 = 0 ∨ (1 ≤ pm_fl K R c (X / 8) 2 ∧ pm_fl K R c (X / 8) 2 ≤ 15 ∧ K (pm_fj c (pm_fl K R c (X / 8) 2)) ≠ 0 ∧ (K (pm_fj c (pm_fl K R c (X / 8) 2)) ≤ 3 → R (pm_fj c (pm_fl K R c (X / 8) 2)) = true)) := by
          rcases pm_fl_s (K := K) (R := R) (c := c) (X / 8) 2 with z | ⟨z1, z2, z3, z4⟩
          · exact Or.inl z
          · rw [z1]
            refine Or.inr ⟨by omega, z2, z3, fun y => ?_⟩
            rcases z4 with z4 | z4
            · unfold pm_w at z4
              split at z4
              · omega
              · split at z4 <;> omega
            · exact z4.2
        obtain ⟨dep', r1, r2, r3⟩ := pm_body_I I hr hK (by omega) (by omega) (by omega) hL hf h
        exact ⟨dep', r1, r2, r3⟩
    · rename_i h2
      exact absurd (congrArg Prod.fst h) h2
  split at h
  · have hf : ∀ v, pm_fok K L c (pm_fl K R c (X / 8) 5) v 0 := by
      intro v
      rcases pm_fl_s (K := K) (R := R) (c := c) (X / 8) 5 with z | ⟨z1, z2, z3, z4⟩
      · exact Or.inl z
      · rw [z1]
        have hlt : K (pm_fj c (X / 8)) = 3 := by
          rcases z4 with z4 | z4
          · exact (pm_w_0 _ (hK _)).2.1.mp z4.symm
          · exact absurd z4.1 (by decide)
        exact Or.inr ⟨by omega, z2, z3, by omega, fun y => by omega⟩
    obtain ⟨r1, r2, r3, _⟩ := pm_goF_I I (by omega) hf h
    exact ⟨dep, r1, by omega, r3⟩
  split at h
  · obtain ⟨r1, r2, r3, _⟩ := pm_goF_I I (by omega) (fun v => Or.inl rfl) h
    exact ⟨dep, r1, by omega, r3⟩
  · have : (2 : Nat) = 0 := congrArg Prod.fst h
    omega
theorem pm_goT_I (I : pm_CI K R L dep c) (hr : pm_row c = 0) (hK : ∀ j, K j ≤ 8) (hp : pm_pos c ≤ T) (hL : L ≤ 200)
    (h : pm_goT B K R T c 0 = (0, c')) : ∃ dep', pm_CI K R L dep' c' ∧ pm_pos c < pm_pos c' ∧ pm_pos c' ≤ T := by
  have he : pm_end c = pm_lim c (pm_at c) := by unfold pm_end; exact if_pos hr
  have hpe := I.2.2.2.2.2.2.1
  unfold pm_goT at h
  split at h
  · rename_i h2
    obtain ⟨k', hk⟩ : ∃ k', pm_vr B (pm_pos c) (pm_lim c (pm_at c)) T (10 - 0) 0 = (0, k') := ⟨_, Prod.ext h2 rfl⟩
    have hv := pm_vr_ok _ _ (by omega) (by omega) hk
    rw [hk] at h
    exact pm_dis_I I hr hK (by dsimp only; omega) (by dsimp only; omega) (by dsimp only; omega) hL h
  · rename_i h2
    exact absurd (congrArg Prod.fst h) h2
end
end
section
/-! D: the sizes of a message that is written again -/
section
def sz_wd : Nat → Nat → Nat
  | 0, _ => 1
  | f + 1, x => if x / 128 = 0 then 1 else 1 + sz_wd f (x / 128)
def sz_w (x : Nat) : Nat := sz_wd 9 x
theorem sz_wd_le : ∀ f x, sz_wd f x ≤ f + 1 ∧ 1 ≤ sz_wd f x
  | 0, _ => ⟨Nat.le_refl _, Nat.le_refl _⟩
  | f + 1, x => by
    rw [sz_wd]
    have := sz_wd_le f (x / 128)
    split <;> omega
theorem sz_w_le (x : Nat) : sz_w x ≤ 10 ∧ 1 ≤ sz_w x := sz_wd_le 9 x
/-- an int as the 64 bits that its long has -/
def sz_ux (x : Int32) : Nat := if x < 0 then 2 ^ 64 - 2 ^ 32 + x.toBitVec.toNat else x.toBitVec.toNat
def sz_zg (x : Int32) : Int32 := (x <<< (1 &&& 31)) ^^^ (x >>> (31 &&& 31))
def sz_b (k : Nat) (x : Int32) (g : Nat → Nat) : Nat :=
  if k = 1 then sz_w (sz_ux x) else if k = 2 then sz_w (sz_zg x).toBitVec.toNat else if k = 3 then 4 else if k = 4 then x.toNatClampNeg else g x.toNatClampNeg
def sz_l (k : Nat) (x : Int32) (g : Nat → Nat) : Nat := sz_b k x g + if 3 < k then sz_w (sz_b k x g) else 0
def sz_sm (D : pm_D) (a n : Nat) (h : Nat → Nat) : Nat → Nat
  | 0 => 0
  | c + 1 => sz_sm D a n h c + if pm_vn D c = a ∧ pm_vm D c = n then h c else 0
def sz_j (D : pm_D) (a n : Nat) : Nat := 16 * pm_nt D a + n
/-- the bodies of a field, as a packed row has them -/
def sz_row (K : Nat → Nat) (D : pm_D) (g : Nat → Nat) (a n : Nat) : Nat := sz_sm D a n (fun j => sz_b (K (sz_j D a n)) (pm_va D j) g) (pm_nv D)
def sz_pk (K : Nat → Nat) (R : Nat → Bool) (D : pm_D) (a n : Nat) : Prop := K (sz_j D a n) < 4 ∧ R (sz_j D a n) = true
def sz_f (K : Nat → Nat) (R : Nat → Bool) (D : pm_D) (g : Nat → Nat) (a n : Nat) : Nat :=
  if K (sz_j D a n) < 4 ∧ R (sz_j D a n) = true then
    (if sz_row K D g a n = 0 then 0 else 1 + sz_w (sz_row K D g a n) + sz_row K D g a n)
  else sz_sm D a n (fun j => 1 + sz_l (K (sz_j D a n)) (pm_va D j) g) (pm_nv D)
def sz_ns (h : Nat → Nat) : Nat → Nat
  | 0 => 0
  | m + 1 => sz_ns h m + h (m + 1)
def sz_n (K : Nat → Nat) (R : Nat → Bool) (D : pm_D) (g : Nat → Nat) (a : Nat) : Nat := sz_ns (sz_f K R D g a) 15
def sz_r (K : Nat → Nat) (R : Nat → Bool) (D : pm_D) : Nat → Nat → Nat
  | 0, _ => 0
  | f + 1, a => sz_n K R D (sz_r K R D f) a
def sz_S (K : Nat → Nat) (R : Nat → Bool) (D : pm_D) (a : Nat) : Nat := sz_r K R D 4 a

variable {K : Nat → Nat} {R : Nat → Bool} {L : Nat} {dep : Nat → Nat} {D : pm_D} {a n : Nat} {g g' : Nat → Nat}
theorem sz_sm_g {h h' : Nat → Nat} : ∀ c, (∀ j, j < c → pm_vn D j = a → pm_vm D j = n → h j = h' j) → sz_sm D a n h c = sz_sm D a n h' c
  | 0, _ => rfl
  | c + 1, H => by
    rw [sz_sm, sz_sm, sz_sm_g c (fun j hj => H j (by omega))]
    by_cases z : pm_vn D c = a ∧ pm_vm D c = n
    · rw [if_pos z, if_pos z, H c (by omega) z.1 z.2]
    · rw [if_neg z, if_neg z]
theorem sz_ns_g {h h' : Nat → Nat} : ∀ m, (∀ i, 1 ≤ i → i ≤ m → h i = h' i) → sz_ns h m = sz_ns h' m
  | 0, _ => rfl
  | m + 1, H => by
    rw [sz_ns, sz_ns, sz_ns_g m (fun i h1 h2 => H i h1 (by omega)), H (m + 1) (by omega) (by omega)]
theorem sz_b_g {k : Nat} {x : Int32} (h : 4 < k → g x.toNatClampNeg = g' x.toNatClampNeg) : sz_b k x g = sz_b k x g' ∨ k = 0 := by
  unfold sz_b
  by_cases k1 : k = 1
  · left; rw [if_pos k1, if_pos k1]
  by_cases k2 : k = 2
  · left; rw [if_neg k1, if_pos k2, if_neg k1, if_pos k2]
  by_cases k3 : k = 3
  · left; rw [if_neg k1, if_neg k2, if_pos k3, if_neg k1, if_neg k2, if_pos k3]
  by_cases k4 : k = 4
  · left; rw [if_neg k1, if_neg k2, if_neg k3, if_pos k4, if_neg k1, if_neg k2, if_neg k3, if_pos k4]
  by_cases k0 : k = 0
  · right; exact k0
  · left; rw [if_neg k1, if_neg k2, if_neg k3, if_neg k4, if_neg k1, if_neg k2, if_neg k3, if_neg k4, h (by omega)]
/-- the size of a node depends on its parts alone -/
theorem sz_n_g (I : pm_DI K L dep D) (H : ∀ j, j < pm_nv D → pm_vn D j = a → 4 < pm_kk K D j → g (pm_va D j).toNatClampNeg = g' (pm_va D j).toNatClampNeg) :
    sz_n K R D g a = sz_n K R D g' a := by
  unfold sz_n
  apply sz_ns_g
  intro m hm hm'
  have hb : ∀ j, j < pm_nv D → pm_vn D j = a → pm_vm D j = m → sz_b (K (sz_j D a m)) (pm_va D j) g = sz_b (K (sz_j D a m)) (pm_va D j) g' := by
    intro j hj h1 h2
    have e : pm_kk K D j = K (sz_j D a m) := by
      unfold sz_j; simp only [pm_kk]; rw [h1, h2]
    rcases sz_b_g (k := K (sz_j D a m)) (x := pm_va D j) (fun z => H j hj h1 (by rw [e]; exact z)) with z | z
    · exact z
    · exact absurd (e.trans z) (I.2.2.2.2.2.1 j hj).2.2.2.1
  have h1 : sz_row K D g a m = sz_row K D g' a m := sz_sm_g _ hb
  have h2 : sz_sm D a m (fun j => 1 + sz_l (K (sz_j D a m)) (pm_va D j) g) (pm_nv D) = sz_sm D a m (fun j => 1 + sz_l (K (sz_j D a m)) (pm_va D j) g') (pm_nv D) := by
    apply sz_sm_g
    intro j hj z1 z2
    show 1 + sz_l _ _ _ = 1 + sz_l _ _ _
    unfold sz_l
    rw [hb j hj z1 z2]
  unfold sz_f
  rw [h1, h2]
theorem sz_r_s (I : pm_DI K L dep D) : ∀ f a, a < pm_nn D → 4 ≤ f + dep a → sz_r K R D f a = sz_r K R D (f + 1) a
  | 0, a, ha, h => by
    have := (I.2.2.2.2.1 a ha).2
    omega
  | f + 1, a, ha, h => by
    rw [sz_r, sz_r]
    apply sz_n_g I
    intro j hj h1 h2
    obtain ⟨m, w1, w2, w3, w4⟩ := (I.2.2.2.2.2.1 j hj).2.2.2.2.2 h2
    rw [w1, nI_clamp (by have := I.2.1; omega)]
    rw [h1] at w4
    exact sz_r_s I f m w3 (by omega)
theorem sz_S_e (I : pm_DI K L dep D) (ha : a < pm_nn D) : sz_S K R D a = sz_n K R D (sz_S K R D) a := by
  have h := sz_r_s (R := R) I 4 a ha (by omega)
  show sz_r K R D 4 a = _
  rw [h]; rfl

/-! bounds -/
def sz_C : Nat → Nat
  | 0 => 0
  | f + 1 => 48 * (200 + sz_C f + 11)
theorem sz_sm_le {h : Nat → Nat} {H : Nat} (hh : ∀ j, h j ≤ H) : ∀ c, sz_sm D a n h c ≤ c * H
  | 0 => by simp [sz_sm]
  | c + 1 => by
    rw [sz_sm, Nat.succ_mul]
    have h1 := sz_sm_le hh c
    have h2 := hh c
    split <;> omega
theorem sz_sm_mono {h h' : Nat → Nat} : ∀ c, (∀ j, j < c → pm_vn D j = a → pm_vm D j = n → h j ≤ h' j) → sz_sm D a n h c ≤ sz_sm D a n h' c
  | 0, _ => Nat.le_refl _
  | c + 1, H => by
    rw [sz_sm, sz_sm]
    have h1 := sz_sm_mono c (fun j hj => H j (by omega))
    by_cases z : pm_vn D c = a ∧ pm_vm D c = n
    · rw [if_pos z, if_pos z]
      have := H c (by omega) z.1 z.2
      omega
    · rw [if_neg z, if_neg z]; exact h1
theorem sz_sm_11 {h : Nat → Nat} {H : Nat} : ∀ c, (∀ j, j < c → pm_vn D j = a → pm_vm D j = n → h j ≤ H) → sz_sm D a n h c ≠ 0 →
    sz_sm D a n h c + 11 ≤ sz_sm D a n (fun _ => H + 11) c
  | 0, _, h0 => absurd rfl h0
  | c + 1, hh, h0 => by
    have hm := sz_sm_mono (D := D) (a := a) (n := n) (h := h) (h' := fun _ => H + 11) c (fun j hj z1 z2 => Nat.le_trans (hh j (by omega) z1 z2) (by omega))
    rw [sz_sm] at h0 ⊢
    rw [sz_sm]
    by_cases z : pm_vn D c = a ∧ pm_vm D c = n
    · rw [if_pos z] at h0 ⊢
      rw [if_pos z]
      have := hh c (by omega) z.1 z.2
      omega
    · rw [if_neg z] at h0 ⊢
      rw [if_neg z]
      have := sz_sm_11 c (fun j hj => hh j (by omega)) (by omega)
      omega
theorem sz_ns_add (h h' : Nat → Nat) : ∀ m, sz_ns (fun i => h i + h' i) m = sz_ns h m + sz_ns h' m
  | 0 => rfl
  | m + 1 => by
    rw [sz_ns, sz_ns, sz_ns, sz_ns_add h h' m]; omega
theorem sz_ns_one {P : Prop} [Decidable P] (x Q : Nat) : ∀ m, sz_ns (fun i => if P ∧ x = i then Q else 0) m ≤ if x ≤ m then Q else 0
  | 0 => Nat.zero_le _
  | m + 1 => by
    rw [sz_ns]
    have h := sz_ns_one (P := P) x Q m
    by_cases z : x = m + 1
    · rw [if_neg (by omega)] at h
      rw [if_pos (show x ≤ m + 1 by omega)]
      split <;> omega
    · rw [if_neg (show ¬ (P ∧ x = m + 1) from fun y => z y.2)]
      by_cases z2 : x ≤ m
      · rw [if_pos z2] at h
        rw [if_pos (show x ≤ m + 1 by omega)]; omega
      · rw [if_neg z2] at h
        omega
theorem sz_ns_sm (Q m : Nat) : ∀ c, sz_ns (fun i => sz_sm D a i (fun _ => Q) c) m ≤ c * Q
  | 0 => by
    have h : ∀ m, sz_ns (fun i => sz_sm D a i (fun _ => Q) 0) m = 0 := by
      intro m
      induction m with
      | zero => rfl
      | succ m ih => rw [sz_ns, ih]; rfl
    rw [h]; exact Nat.zero_le _
  | c + 1 => by
    have e : (fun i => sz_sm D a i (fun _ => Q) (c + 1)) = (fun i => sz_sm D a i (fun _ => Q) c + if pm_vn D c = a ∧ pm_vm D c = i then Q else 0) := rfl
    rw [e, sz_ns_add, Nat.succ_mul]
    have h1 := sz_ns_sm Q m c
    have h2 := sz_ns_one (P := pm_vn D c = a) (pm_vm D c) Q m
    have h3 : (if pm_vm D c ≤ m then Q else 0) ≤ Q := by split <;> omega
    omega
theorem sz_ns_mono {h h' : Nat → Nat} : ∀ m, (∀ i, 1 ≤ i → i ≤ m → h i ≤ h' i) → sz_ns h m ≤ sz_ns h' m
  | 0, _ => Nat.le_refl _
  | m + 1, H => by
    rw [sz_ns, sz_ns]
    have := sz_ns_mono m (fun i h1 h2 => H i h1 (by omega))
    have := H (m + 1) (by omega) (by omega)
    omega
theorem sz_f_le {H : Nat} (hb : ∀ j, j < pm_nv D → pm_vn D j = a → pm_vm D j = n → sz_b (K (sz_j D a n)) (pm_va D j) g ≤ H) :
    sz_f K R D g a n ≤ sz_sm D a n (fun _ => H + 11) (pm_nv D) := by
  unfold sz_f
  split
  · split
    · exact Nat.zero_le _
    · rename_i h0
      have h1 := sz_sm_11 (D := D) (a := a) (n := n) (H := H) (pm_nv D) hb h0
      have h2 := (sz_w_le (sz_row K D g a n)).1
      unfold sz_row at h2 ⊢
      omega
  · apply sz_sm_mono
    intro j hj z1 z2
    have h1 := hb j hj z1 z2
    show 1 + sz_l _ _ _ ≤ H + 11
    unfold sz_l
    have h2 := (sz_w_le (sz_b (K (sz_j D a n)) (pm_va D j) g)).1
    split <;> omega
theorem sz_n_le {H : Nat} (hb : ∀ j, j < pm_nv D → pm_vn D j = a → sz_b (pm_kk K D j) (pm_va D j) g ≤ H) : sz_n K R D g a ≤ pm_nv D * (H + 11) := by
  unfold sz_n
  refine Nat.le_trans (sz_ns_mono 15 (h' := fun i => sz_sm D a i (fun _ => H + 11) (pm_nv D)) (fun i _ _ => sz_f_le ?_)) (sz_ns_sm _ _ _)
  intro j hj z1 z2
  have e : K (sz_j D a i) = pm_kk K D j := by
    unfold sz_j; simp only [pm_kk]; rw [z1, z2]
  rw [e]; exact hb j hj z1
theorem sz_r_le (I : pm_DI K L dep D) (hL : L ≤ 200) : ∀ f a, sz_r K R D f a ≤ sz_C f
  | 0, _ => Nat.le_refl _
  | f + 1, a => by
    rw [sz_r, sz_C]
    have h := sz_n_le (K := K) (R := R) (D := D) (a := a) (g := sz_r K R D f) (H := 200 + sz_C f) (by
      intro j hj _
      obtain ⟨v1, v2, v3, v4, v5, v6⟩ := I.2.2.2.2.2.1 j hj
      unfold sz_b
      split
      · have := (sz_w_le (sz_ux (pm_va D j))).1; omega
      split
      · have := (sz_w_le (sz_zg (pm_va D j)).toBitVec.toNat).1; omega
      split
      · omega
      split
      · rename_i h4
        obtain ⟨m, w1, w2⟩ := v5 h4
        rw [w1, nI_clamp (by omega)]; omega
      · have := sz_r_le I hL f (pm_va D j).toNatClampNeg
        omega)
    refine Nat.le_trans h ?_
    exact Nat.mul_le_mul_right _ I.2.2.1
theorem sz_S_le (I : pm_DI K L dep D) (hL : L ≤ 200) (a : Nat) : sz_S K R D a ≤ 1121318160 + 2 ^ 28 := by
  have h := sz_r_le (R := R) I hL 4 a
  have e : sz_C 4 ≤ 1121318160 + 2 ^ 28 := by decide
  exact Nat.le_trans h e
end
end
section
/-! E: the bytes of a message that is written again -/
section
def ct_vd : Nat → Nat → List Nat
  | 0, x => [x]
  | f + 1, x => if x / 128 = 0 then [x] else (x % 128 + 128) :: ct_vd f (x / 128)
def ct_v (x : Nat) : List Nat := ct_vd 9 x
theorem ct_vd_len : ∀ f x, (ct_vd f x).length = sz_wd f x
  | 0, _ => rfl
  | f + 1, x => by
    rw [ct_vd, sz_wd]
    split
    · rfl
    · rw [List.length_cons, ct_vd_len f]; omega
theorem ct_v_len (x : Nat) : (ct_v x).length = sz_w x := ct_vd_len 9 x
def ct_4 (x : Nat) : List Nat := [x % 256, x / 256 % 256, x / 65536 % 256, x / 16777216 % 256]
def ct_b (B : Nat → Nat) (k : Nat) (x : Int32) (st : Nat) (g : Nat → List Nat) : List Nat :=
  if k = 1 then ct_v (sz_ux x) else if k = 2 then ct_v (sz_zg x).toBitVec.toNat else if k = 3 then ct_4 x.toBitVec.toNat
  else if k = 4 then (List.range x.toNatClampNeg).map (fun i => B (st + i)) else g x.toNatClampNeg
def ct_l (B : Nat → Nat) (k : Nat) (x : Int32) (st : Nat) (g : Nat → List Nat) : List Nat :=
  (if 3 < k then ct_v (ct_b B k x st g).length else []) ++ ct_b B k x st g
def ct_sm (D : pm_D) (a n : Nat) (h : Nat → List Nat) : Nat → List Nat
  | 0 => []
  | c + 1 => ct_sm D a n h c ++ if pm_vn D c = a ∧ pm_vm D c = n then h c else []
/-- the head of a packed row -/
def ct_hd (n W : Nat) : List Nat := (8 * n + 2) :: ct_v W
def ct_row (B : Nat → Nat) (K : Nat → Nat) (D : pm_D) (g : Nat → List Nat) (a n : Nat) (c : Nat) : List Nat :=
  ct_sm D a n (fun j => ct_b B (K (sz_j D a n)) (pm_va D j) (pm_fr D j) g) c
def ct_one (B : Nat → Nat) (K : Nat → Nat) (D : pm_D) (g : Nat → List Nat) (a n : Nat) (c : Nat) : List Nat :=
  ct_sm D a n (fun j => (8 * n + pm_w (K (sz_j D a n))) :: ct_l B (K (sz_j D a n)) (pm_va D j) (pm_fr D j) g) c
def ct_f (B : Nat → Nat) (K : Nat → Nat) (R : Nat → Bool) (D : pm_D) (g : Nat → List Nat) (a n : Nat) : List Nat :=
  if K (sz_j D a n) < 4 ∧ R (sz_j D a n) = true then
    (if (ct_row B K D g a n (pm_nv D)).length = 0 then [] else ct_hd n (ct_row B K D g a n (pm_nv D)).length) ++ ct_row B K D g a n (pm_nv D)
  else ct_one B K D g a n (pm_nv D)
def ct_ns (h : Nat → List Nat) : Nat → List Nat
  | 0 => []
  | m + 1 => ct_ns h m ++ h (m + 1)
def ct_n (B : Nat → Nat) (K : Nat → Nat) (R : Nat → Bool) (D : pm_D) (g : Nat → List Nat) (a : Nat) : List Nat := ct_ns (ct_f B K R D g a) 15
def ct_r (B : Nat → Nat) (K : Nat → Nat) (R : Nat → Bool) (D : pm_D) : Nat → Nat → List Nat
  | 0, _ => []
  | f + 1, a => ct_n B K R D (ct_r B K R D f) a
def ct_S (B : Nat → Nat) (K : Nat → Nat) (R : Nat → Bool) (D : pm_D) (a : Nat) : List Nat := ct_r B K R D 4 a

variable {B : Nat → Nat} {K : Nat → Nat} {R : Nat → Bool} {L : Nat} {dep : Nat → Nat} {D : pm_D} {a n : Nat} {g g' : Nat → List Nat}
theorem ct_b_len (k : Nat) (x : Int32) (st : Nat) : (ct_b B k x st g).length = sz_b k x (fun m => (g m).length) := by
  unfold ct_b sz_b
  split
  · rw [ct_v_len]
  split
  · rw [ct_v_len]
  split
  · rfl
  split
  · rw [List.length_map, List.length_range]
  · rfl
theorem ct_l_len (k : Nat) (x : Int32) (st : Nat) : (ct_l B k x st g).length = sz_l k x (fun m => (g m).length) := by
  unfold ct_l sz_l
  rw [List.length_append, ct_b_len]
  split
  · rw [ct_v_len]; omega
  · rw [List.length_nil]; omega
theorem ct_sm_len {h : Nat → List Nat} : ∀ c, (ct_sm D a n h c).length = sz_sm D a n (fun j => (h j).length) c
  | 0 => rfl
  | c + 1 => by
    rw [ct_sm, sz_sm, List.length_append, ct_sm_len c]
    split <;> rfl
theorem ct_row_len (c : Nat) : (ct_row B K D g a n c).length = sz_sm D a n (fun j => sz_b (K (sz_j D a n)) (pm_va D j) (fun m => (g m).length)) c := by
  unfold ct_row
  rw [ct_sm_len]
  exact sz_sm_g _ (fun j _ _ _ => ct_b_len _ _ _)
theorem ct_one_len (c : Nat) : (ct_one B K D g a n c).length = sz_sm D a n (fun j => 1 + sz_l (K (sz_j D a n)) (pm_va D j) (fun m => (g m).length)) c := by
  unfold ct_one
  rw [ct_sm_len]
  refine sz_sm_g _ (fun j _ _ _ => ?_)
  rw [List.length_cons, ct_l_len]; omega
theorem ct_f_len : (ct_f B K R D g a n).length = sz_f K R D (fun m => (g m).length) a n := by
  unfold ct_f sz_f sz_row
  rw [ct_row_len]
  split
  · rw [List.length_append, ct_row_len]
    split
    · rename_i h0
      rw [h0]; rfl
    · unfold ct_hd
      rw [List.length_cons, ct_v_len]; omega
  · rw [ct_one_len]
theorem ct_ns_len {h : Nat → List Nat} : ∀ m, (ct_ns h m).length = sz_ns (fun i => (h i).length) m
  | 0 => rfl
  | m + 1 => by
    rw [ct_ns, sz_ns, List.length_append, ct_ns_len m]
theorem ct_n_len : (ct_n B K R D g a).length = sz_n K R D (fun m => (g m).length) a := by
  unfold ct_n sz_n
  rw [ct_ns_len]
  exact sz_ns_g _ (fun i _ _ => ct_f_len)
theorem ct_r_len : ∀ f a, (ct_r B K R D f a).length = sz_r K R D f a
  | 0, _ => rfl
  | f + 1, a => by
    rw [ct_r, sz_r, ct_n_len]
    have : (fun m => (ct_r B K R D f m).length) = sz_r K R D f := by
      funext m; exact ct_r_len f m
    rw [this]
theorem ct_S_len (a : Nat) : (ct_S B K R D a).length = sz_S K R D a := ct_r_len 4 a
theorem ct_sm_g {h h' : Nat → List Nat} : ∀ c, (∀ j, j < c → pm_vn D j = a → pm_vm D j = n → h j = h' j) → ct_sm D a n h c = ct_sm D a n h' c
  | 0, _ => rfl
  | c + 1, H => by
    rw [ct_sm, ct_sm, ct_sm_g c (fun j hj => H j (by omega))]
    by_cases z : pm_vn D c = a ∧ pm_vm D c = n
    · rw [if_pos z, if_pos z, H c (by omega) z.1 z.2]
    · rw [if_neg z, if_neg z]
theorem ct_ns_g {h h' : Nat → List Nat} : ∀ m, (∀ i, 1 ≤ i → i ≤ m → h i = h' i) → ct_ns h m = ct_ns h' m
  | 0, _ => rfl
  | m + 1, H => by
    rw [ct_ns, ct_ns, ct_ns_g m (fun i h1 h2 => H i h1 (by omega)), H (m + 1) (by omega) (by omega)]
theorem ct_n_g (I : pm_DI K L dep D) (H : ∀ j, j < pm_nv D → pm_vn D j = a → 4 < pm_kk K D j → g (pm_va D j).toNatClampNeg = g' (pm_va D j).toNatClampNeg) :
    ct_n B K R D g a = ct_n B K R D g' a := by
  unfold ct_n
  apply ct_ns_g
  intro m hm hm'
  have hb : ∀ j, j < pm_nv D → pm_vn D j = a → pm_vm D j = m → ct_b B (K (sz_j D a m)) (pm_va D j) (pm_fr D j) g = ct_b B (K (sz_j D a m)) (pm_va D j) (pm_fr D j) g' := by
    intro j hj h1 h2
    have e : pm_kk K D j = K (sz_j D a m) := by
      unfold sz_j; simp only [pm_kk]; rw [h1, h2]
    have e0 : K (sz_j D a m) ≠ 0 := by
      rw [← e]; exact (I.2.2.2.2.2.1 j hj).2.2.2.1
    unfold ct_b
    split
    · rfl
    split
    · rfl
    split
    · rfl
    split
    · rfl
    · exact H j hj h1 (by rw [e]; omega)
  have h1 : ct_row B K D g a m (pm_nv D) = ct_row B K D g' a m (pm_nv D) := ct_sm_g _ hb
  have h2 : ct_one B K D g a m (pm_nv D) = ct_one B K D g' a m (pm_nv D) := by
    apply ct_sm_g
    intro j hj z1 z2
    show _ :: ct_l _ _ _ _ _ = _ :: ct_l _ _ _ _ _
    unfold ct_l
    rw [hb j hj z1 z2]
  unfold ct_f
  rw [h1, h2]
theorem ct_r_s (I : pm_DI K L dep D) : ∀ f a, a < pm_nn D → 4 ≤ f + dep a → ct_r B K R D f a = ct_r B K R D (f + 1) a
  | 0, a, ha, h => by
    have := (I.2.2.2.2.1 a ha).2
    omega
  | f + 1, a, ha, h => by
    rw [ct_r, ct_r]
    apply ct_n_g I
    intro j hj h1 h2
    obtain ⟨m, w1, w2, w3, w4⟩ := (I.2.2.2.2.2.1 j hj).2.2.2.2.2 h2
    rw [w1, nI_clamp (by have := I.2.1; omega)]
    rw [h1] at w4
    exact ct_r_s I f m w3 (by omega)
theorem ct_S_e (I : pm_DI K L dep D) (ha : a < pm_nn D) : ct_S B K R D a = ct_n B K R D (ct_S B K R D) a := by
  have h := ct_r_s (B := B) (R := R) I 4 a ha (by omega)
  show ct_r B K R D 4 a = _
  rw [h]; rfl

/-- a list stands at a place -/
def ct_at (G : Nat → Nat) (p : Nat) (l : List Nat) : Prop := ∀ i (h : i < l.length), G (p + i) = l[i]
theorem ct_at_nil {G : Nat → Nat} {p : Nat} : ct_at G p [] := fun i h => absurd h (by simp)
theorem ct_at_app {G : Nat → Nat} {p : Nat} {l l' : List Nat} : ct_at G p (l ++ l') ↔ ct_at G p l ∧ ct_at G (p + l.length) l' := by
  constructor
  · intro h
    refine ⟨fun i hi => ?_, fun i hi => ?_⟩
    · have := h i (by rw [List.length_append]; omega)
      rw [this, List.getElem_append_left hi]
    · have := h (l.length + i) (by rw [List.length_append]; omega)
      rw [Nat.add_assoc, this, List.getElem_append_right (by omega)]
      simp only [Nat.add_sub_cancel_left]
  · rintro ⟨h1, h2⟩ i hi
    by_cases g : i < l.length
    · rw [h1 i g, List.getElem_append_left g]
    · have := h2 (i - l.length) (by rw [List.length_append] at hi; omega)
      rw [show p + l.length + (i - l.length) = p + i by omega] at this
      rw [this, List.getElem_append_right (by omega)]
theorem ct_at_cons {G : Nat → Nat} {p x : Nat} {l : List Nat} : ct_at G p (x :: l) ↔ G p = x ∧ ct_at G (p + 1) l := by
  have h := ct_at_app (G := G) (p := p) (l := [x]) (l' := l)
  rw [show [x] ++ l = x :: l from rfl, show [x].length = 1 from rfl] at h
  rw [h]
  refine ⟨fun z => ⟨z.1 0 (by simp), z.2⟩, fun z => ⟨fun i hi => ?_, z.2⟩⟩
  have : i = 0 := by simp at hi; omega
  subst this; exact z.1
end
end
section
/-! F: arrays of naturals; what goes out -/
section
/-- an array that holds naturals -/
def an_f (f : Nat → Nat) : Nat → Int32 := fun j => nI (f j)
theorem an_fa (f : Nat → Nat) (j : Nat) : an_f f j = nI (f j) := rfl
theorem an_fu (f : Nat → Nat) (k x : Nat) : upd (an_f f) k (nI x) = an_f (pm_u f k x) := by
  funext j
  show (if j = k then nI x else nI (f j)) = nI (if j = k then x else f j)
  split <;> rfl
/-- a byte as the byte type has it -/
def an_b (x : Nat) : Int32 := (nI x).toInt8.toInt32
def an_g (f : Nat → Nat) : Nat → Int32 := fun j => an_b (f j)
theorem an_ga (f : Nat → Nat) (j : Nat) : an_g f j = an_b (f j) := rfl
theorem an_gu (f : Nat → Nat) (k x : Nat) : upd (an_g f) k (an_b x) = an_g (pm_u f k x) := by
  funext j
  show (if j = k then an_b x else an_b (f j)) = an_b (if j = k then x else f j)
  split <;> rfl
theorem an_255 : ∀ x, x < 256 → an_b x &&& 255 = nI x := by
  unfold an_b
  decide +kernel
def ou_1 (z : (Nat → Nat) × Nat) (b : Nat) : (Nat → Nat) × Nat := if z.2 < 1200 then (pm_u z.1 z.2 b, z.2 + 1) else z
def ou_L (z : (Nat → Nat) × Nat) : List Nat → (Nat → Nat) × Nat
  | [] => z
  | b :: l => ou_L (ou_1 z b) l
theorem ou_L_app (z : (Nat → Nat) × Nat) : ∀ l l', ou_L z (l ++ l') = ou_L (ou_L z l) l'
  | [], _ => rfl
  | b :: l, l' => by
    rw [List.cons_append, ou_L, ou_L, ou_L_app (ou_1 z b) l l']
theorem ou_L_1 (z : (Nat → Nat) × Nat) (b : Nat) : ou_L z [b] = ou_1 z b := rfl
/-- bytes, and at most 1200 of them -/
def ou_I (z : (Nat → Nat) × Nat) : Prop := z.2 ≤ 1200 ∧ ∀ j, z.1 j < 256
theorem ou_1_I {z : (Nat → Nat) × Nat} {b : Nat} (h : ou_I z) (hb : b < 256) : ou_I (ou_1 z b) := by
  unfold ou_1
  split
  · rename_i h1
    refine ⟨h1, fun j => ?_⟩
    show (if j = z.2 then b else z.1 j) < 256
    split
    · exact hb
    · exact h.2 j
  · exact h
theorem ou_L_I : ∀ {l : List Nat} {z : (Nat → Nat) × Nat}, ou_I z → (∀ b, b ∈ l → b < 256) → ou_I (ou_L z l)
  | [], _, h, _ => h
  | b :: l, z, h, hb => ou_L_I (l := l) (ou_1_I h (hb b (by simp))) (fun x hx => hb x (by simp [hx]))
end
end
section
/-! G: what is put out, and errors, on both sides -/
section
variable {f_frameAt f_frameLength f_frameSort f_frameFlags f_frameStream f_down f_entryCount f_most f_typeSeen f_lastSender f_sentLength : Int32} {a_payload a_life a_theyEnded a_weEnded a_finishing a_codes a_windowIn a_windowOut a_headers a_headerCount a_entries a_kinds a_repeats a_messageCount a_text a_nodeCount a_nodeTypes a_valueCount a_valueOwners a_values a_skippedCount a_reader a_chainNode a_chainEnd a_queue a_queueLength a_sent a_nodeSize a_nodePlace : Nat → Int32} {yf_down yf_heads yf_paid yf_payload yf_wants yf_name yf_first yf_counts yf_enters yf_most yf_many yf_sent yf_last yf_nodes yf_values yf_skipped yf_pos yf_there yf_number yf_at : Int32} {ya_kind ya_repeated ya_how ya_code ya_coming ya_going ya_type ya_headers ya_header ya_queued ya_otherEnded ya_ended ya_finishing ya_queue ya_prefix ya_length ya_got ya_high ya_whole ya_has ya_bytes ya_frame ya_payloads ya_table ya_out ya_nodeType ya_valueNode ya_valueNumber ya_value ya_from ya_limit ya_inside ya_sizes : Nat → Int32} {z : (Nat → Nat) × Nat}
theorem ou_1_le {b : Nat} (hz : z.2 ≤ 1200) : (ou_1 z b).2 ≤ 1200 := by
  unfold ou_1
  split
  · rename_i h; exact h
  · exact hz
theorem ou_L_le : ∀ (l : List Nat) {z : (Nat → Nat) × Nat}, z.2 ≤ 1200 → (ou_L z l).2 ≤ 1200
  | [], _, h => h
  | _ :: l, _, h => ou_L_le l (ou_1_le h)
theorem an_bb (q : Nat) : vp_nar .byte (an_b q).toInt8.toInt32 = an_b q := by
  unfold an_b
  rw [pk_vb, ← vp_nar_byte, pk_vb]
theorem an_b1 (q : Nat) : vp_nar .byte (nI q).toInt8.toInt32 = an_b q := pk_vb _
theorem an_b2 (q : Nat) : vp_nar .byte (an_b q) = an_b q := pk_vb _
theorem xo_put {b : Nat} {post : SX → Prop} (hz : z.2 ≤ 1200)
    (h : post (f_frameAt, f_frameLength, f_frameSort, f_frameFlags, f_frameStream, f_down, f_entryCount, f_most, f_typeSeen, f_lastSender, nI (ou_1 z b).2, a_payload, a_life, a_theyEnded, a_weEnded, a_finishing, a_codes, a_windowIn, a_windowOut, a_headers, a_headerCount, a_entries, a_kinds, a_repeats, a_messageCount, a_text, a_nodeCount, a_nodeTypes, a_valueCount, a_valueOwners, a_values, a_skippedCount, a_reader, a_chainNode, a_chainEnd, a_queue, a_queueLength, an_f (ou_1 z b).1, a_nodeSize, a_nodePlace)) :
    wpX_putOut post (f_frameAt, f_frameLength, f_frameSort, f_frameFlags, f_frameStream, f_down, f_entryCount, f_most, f_typeSeen, f_lastSender, nI z.2, a_payload, a_life, a_theyEnded, a_weEnded, a_finishing, a_codes, a_windowIn, a_windowOut, a_headers, a_headerCount, a_entries, a_kinds, a_repeats, a_messageCount, a_text, a_nodeCount, a_nodeTypes, a_valueCount, a_valueOwners, a_values, a_skippedCount, a_reader, a_chainNode, a_chainEnd, a_queue, a_queueLength, an_f z.1, a_nodeSize, a_nodePlace) (nI b) := by
  unfold wpX_putOut
  refine pk_le 1200 z.2 (fun g => ?_) (fun g => ?_)
  · unfold ou_1 at h
    rw [if_neg (by omega)] at h; exact h
  · unfold ou_1 at h
    rw [if_pos g] at h
    exact ⟨vp_in_nI g (by omega), nm_r (by rw [nI_clamp (by omega), an_fu]) (nm_r (nI_1 _) h)⟩
theorem yo_put {b : Nat} {x : Int32} {post : SY → Prop} (hx : vp_nar .byte x.toInt8.toInt32 = an_b b) (hz : z.2 ≤ 1200)
    (h : post (yf_down, yf_heads, yf_paid, yf_payload, yf_wants, yf_name, yf_first, yf_counts, yf_enters, yf_most, yf_many, nI (ou_1 z b).2, yf_last, yf_nodes, yf_values, yf_skipped, yf_pos, yf_there, yf_number, yf_at, ya_kind, ya_repeated, ya_how, ya_code, ya_coming, ya_going, ya_type, ya_headers, ya_header, ya_queued, ya_otherEnded, ya_ended, ya_finishing, ya_queue, ya_prefix, ya_length, ya_got, ya_high, ya_whole, ya_has, ya_bytes, ya_frame, ya_payloads, ya_table, an_g (ou_1 z b).1, ya_nodeType, ya_valueNode, ya_valueNumber, ya_value, ya_from, ya_limit, ya_inside, ya_sizes)) :
    wpY_put post (yf_down, yf_heads, yf_paid, yf_payload, yf_wants, yf_name, yf_first, yf_counts, yf_enters, yf_most, yf_many, nI z.2, yf_last, yf_nodes, yf_values, yf_skipped, yf_pos, yf_there, yf_number, yf_at, ya_kind, ya_repeated, ya_how, ya_code, ya_coming, ya_going, ya_type, ya_headers, ya_header, ya_queued, ya_otherEnded, ya_ended, ya_finishing, ya_queue, ya_prefix, ya_length, ya_got, ya_high, ya_whole, ya_has, ya_bytes, ya_frame, ya_payloads, ya_table, an_g z.1, ya_nodeType, ya_valueNode, ya_valueNumber, ya_value, ya_from, ya_limit, ya_inside, ya_sizes) x := by
  unfold wpY_put
  refine pk_le 1200 z.2 (fun g => ?_) (fun g => ?_)
  · unfold ou_1 at h
    rw [if_neg (by omega)] at h; exact h
  · unfold ou_1 at h
    rw [if_pos g] at h
    exact nm_r (nI_1 _) ⟨vp_in_nI g (by omega), nm_r (by rw [nI_clamp (by omega), hx, an_gu]) h⟩
theorem xo_short {a b c d : Nat} {post : SX → Prop} (hz : z.2 ≤ 1200)
    (h : post (f_frameAt, f_frameLength, f_frameSort, f_frameFlags, f_frameStream, f_down, f_entryCount, f_most, f_typeSeen, f_lastSender, nI (ou_L z [1, a, b, c, d]).2, a_payload, a_life, a_theyEnded, a_weEnded, a_finishing, a_codes, a_windowIn, a_windowOut, a_headers, a_headerCount, a_entries, a_kinds, a_repeats, a_messageCount, a_text, a_nodeCount, a_nodeTypes, a_valueCount, a_valueOwners, a_values, a_skippedCount, a_reader, a_chainNode, a_chainEnd, a_queue, a_queueLength, an_f (ou_L z [1, a, b, c, d]).1, a_nodeSize, a_nodePlace)) :
    wpX_sendShort post (f_frameAt, f_frameLength, f_frameSort, f_frameFlags, f_frameStream, f_down, f_entryCount, f_most, f_typeSeen, f_lastSender, nI z.2, a_payload, a_life, a_theyEnded, a_weEnded, a_finishing, a_codes, a_windowIn, a_windowOut, a_headers, a_headerCount, a_entries, a_kinds, a_repeats, a_messageCount, a_text, a_nodeCount, a_nodeTypes, a_valueCount, a_valueOwners, a_values, a_skippedCount, a_reader, a_chainNode, a_chainEnd, a_queue, a_queueLength, an_f z.1, a_nodeSize, a_nodePlace) (nI a) (nI b) (nI c) (nI d) := by
  unfold wpX_sendShort
  exact xo_put (b := 1) hz (xo_put (ou_1_le hz) (xo_put (ou_1_le (ou_1_le hz)) (xo_put (ou_1_le (ou_1_le (ou_1_le hz))) (xo_put (ou_1_le (ou_1_le (ou_1_le (ou_1_le hz)))) h))))
theorem yo_frame {a b c d : Nat} {post : SY → Prop} (hz : z.2 ≤ 1200)
    (h : post (yf_down, yf_heads, yf_paid, yf_payload, yf_wants, yf_name, yf_first, yf_counts, yf_enters, yf_most, yf_many, nI (ou_L z [a, b, c, d]).2, yf_last, yf_nodes, yf_values, yf_skipped, yf_pos, yf_there, yf_number, yf_at, ya_kind, ya_repeated, ya_how, ya_code, ya_coming, ya_going, ya_type, ya_headers, ya_header, ya_queued, ya_otherEnded, ya_ended, ya_finishing, ya_queue, ya_prefix, ya_length, ya_got, ya_high, ya_whole, ya_has, ya_bytes, ya_frame, ya_payloads, ya_table, an_g (ou_L z [a, b, c, d]).1, ya_nodeType, ya_valueNode, ya_valueNumber, ya_value, ya_from, ya_limit, ya_inside, ya_sizes)) :
    wpY_frame post (yf_down, yf_heads, yf_paid, yf_payload, yf_wants, yf_name, yf_first, yf_counts, yf_enters, yf_most, yf_many, nI z.2, yf_last, yf_nodes, yf_values, yf_skipped, yf_pos, yf_there, yf_number, yf_at, ya_kind, ya_repeated, ya_how, ya_code, ya_coming, ya_going, ya_type, ya_headers, ya_header, ya_queued, ya_otherEnded, ya_ended, ya_finishing, ya_queue, ya_prefix, ya_length, ya_got, ya_high, ya_whole, ya_has, ya_bytes, ya_frame, ya_payloads, ya_table, an_g z.1, ya_nodeType, ya_valueNode, ya_valueNumber, ya_value, ya_from, ya_limit, ya_inside, ya_sizes) (nI a) (nI b) (nI c) (nI d) := by
  unfold wpY_frame
  exact yo_put (an_b1 _) hz (yo_put (an_b1 _) (ou_1_le hz) (yo_put (an_b1 _) (ou_1_le (ou_1_le hz)) (yo_put (an_b1 _) (ou_1_le (ou_1_le (ou_1_le hz))) h)))
theorem xo_failC {c : Nat} {post : SX → Prop} (hz : z.2 ≤ 1200)
    (h : post (f_frameAt, f_frameLength, f_frameSort, f_frameFlags, f_frameStream, 1, f_entryCount, f_most, f_typeSeen, f_lastSender, nI (ou_L z [1, 5, 0, 0, c]).2, a_payload, a_life, a_theyEnded, a_weEnded, a_finishing, upd a_codes 0 (nI c), a_windowIn, a_windowOut, a_headers, a_headerCount, a_entries, a_kinds, a_repeats, a_messageCount, a_text, a_nodeCount, a_nodeTypes, a_valueCount, a_valueOwners, a_values, a_skippedCount, a_reader, a_chainNode, a_chainEnd, a_queue, a_queueLength, an_f (ou_L z [1, 5, 0, 0, c]).1, a_nodeSize, a_nodePlace)) :
    wpX_failConnection post (f_frameAt, f_frameLength, f_frameSort, f_frameFlags, f_frameStream, f_down, f_entryCount, f_most, f_typeSeen, f_lastSender, nI z.2, a_payload, a_life, a_theyEnded, a_weEnded, a_finishing, a_codes, a_windowIn, a_windowOut, a_headers, a_headerCount, a_entries, a_kinds, a_repeats, a_messageCount, a_text, a_nodeCount, a_nodeTypes, a_valueCount, a_valueOwners, a_values, a_skippedCount, a_reader, a_chainNode, a_chainEnd, a_queue, a_queueLength, an_f z.1, a_nodeSize, a_nodePlace) (nI c) := by
  unfold wpX_failConnection
  exact nm_e (xo_short (a := 5) (b := 0) (c := 0) (d := c) hz h)
theorem xo_failS {s c : Nat} {post : SX → Prop} (hs : s < 8) (hz : z.2 ≤ 1200)
    (h : post (f_frameAt, f_frameLength, f_frameSort, f_frameFlags, f_frameStream, f_down, f_entryCount, f_most, f_typeSeen, f_lastSender, nI (ou_L z [1, 2, 0, s, c]).2, a_payload, upd a_life s 2, a_theyEnded, a_weEnded, a_finishing, upd a_codes s (nI c), a_windowIn, a_windowOut, a_headers, a_headerCount, a_entries, a_kinds, a_repeats, a_messageCount, a_text, a_nodeCount, a_nodeTypes, a_valueCount, a_valueOwners, a_values, a_skippedCount, a_reader, a_chainNode, a_chainEnd, a_queue, upd a_queueLength s 0, an_f (ou_L z [1, 2, 0, s, c]).1, a_nodeSize, a_nodePlace)) :
    wpX_failStream post (f_frameAt, f_frameLength, f_frameSort, f_frameFlags, f_frameStream, f_down, f_entryCount, f_most, f_typeSeen, f_lastSender, nI z.2, a_payload, a_life, a_theyEnded, a_weEnded, a_finishing, a_codes, a_windowIn, a_windowOut, a_headers, a_headerCount, a_entries, a_kinds, a_repeats, a_messageCount, a_text, a_nodeCount, a_nodeTypes, a_valueCount, a_valueOwners, a_values, a_skippedCount, a_reader, a_chainNode, a_chainEnd, a_queue, a_queueLength, an_f z.1, a_nodeSize, a_nodePlace) (nI s) (nI c) := by
  unfold wpX_failStream
  have hc : (nI s).toNatClampNeg = s := nI_clamp (by omega)
  have hi : vp_in (nI s) 8 := vp_in_nI hs (by omega)
  exact ⟨hi, nm_r (by rw [hc]) ⟨hi, nm_r (by rw [hc]) ⟨hi, nm_r (by rw [hc]) (xo_short (a := 2) (b := 0) (c := s) (d := c) hz h)⟩⟩⟩
theorem yo_shut {s : Nat} {x : Int32} {post : SY → Prop} (hs : s < 8)
    (h : post (yf_down, yf_heads, yf_paid, yf_payload, yf_wants, yf_name, yf_first, yf_counts, yf_enters, yf_most, yf_many, yf_sent, yf_last, yf_nodes, yf_values, yf_skipped, yf_pos, yf_there, yf_number, yf_at, ya_kind, ya_repeated, upd ya_how s 2, upd ya_code s x, ya_coming, ya_going, ya_type, ya_headers, ya_header, upd ya_queued s 0, ya_otherEnded, ya_ended, ya_finishing, ya_queue, ya_prefix, ya_length, ya_got, ya_high, ya_whole, ya_has, ya_bytes, ya_frame, ya_payloads, ya_table, ya_out, ya_nodeType, ya_valueNode, ya_valueNumber, ya_value, ya_from, ya_limit, ya_inside, ya_sizes)) :
    wpY_shut post (yf_down, yf_heads, yf_paid, yf_payload, yf_wants, yf_name, yf_first, yf_counts, yf_enters, yf_most, yf_many, yf_sent, yf_last, yf_nodes, yf_values, yf_skipped, yf_pos, yf_there, yf_number, yf_at, ya_kind, ya_repeated, ya_how, ya_code, ya_coming, ya_going, ya_type, ya_headers, ya_header, ya_queued, ya_otherEnded, ya_ended, ya_finishing, ya_queue, ya_prefix, ya_length, ya_got, ya_high, ya_whole, ya_has, ya_bytes, ya_frame, ya_payloads, ya_table, ya_out, ya_nodeType, ya_valueNode, ya_valueNumber, ya_value, ya_from, ya_limit, ya_inside, ya_sizes) (nI s) x := by
  unfold wpY_shut
  have hc : (nI s).toNatClampNeg = s := nI_clamp (by omega)
  have hi : vp_in (nI s) 8 := vp_in_nI hs (by omega)
  exact ⟨hi, nm_r (by rw [hc]) ⟨hi, nm_r (by rw [hc]) ⟨hi, nm_r (by rw [hc]) h⟩⟩⟩
theorem yo_errC {c : Nat} {post : SY → Prop} (hz : z.2 ≤ 1200)
    (h : post (1, yf_heads, yf_paid, yf_payload, yf_wants, yf_name, yf_first, yf_counts, yf_enters, yf_most, yf_many, nI (ou_L z [1, 5, 0, 0, c]).2, yf_last, yf_nodes, yf_values, yf_skipped, yf_pos, yf_there, yf_number, yf_at, ya_kind, ya_repeated, ya_how, upd ya_code 0 (nI c), ya_coming, ya_going, ya_type, ya_headers, ya_header, ya_queued, ya_otherEnded, ya_ended, ya_finishing, ya_queue, ya_prefix, ya_length, ya_got, ya_high, ya_whole, ya_has, ya_bytes, ya_frame, ya_payloads, ya_table, an_g (ou_L z [1, 5, 0, 0, c]).1, ya_nodeType, ya_valueNode, ya_valueNumber, ya_value, ya_from, ya_limit, ya_inside, ya_sizes)) :
    wpY_error post (yf_down, yf_heads, yf_paid, yf_payload, yf_wants, yf_name, yf_first, yf_counts, yf_enters, yf_most, yf_many, nI z.2, yf_last, yf_nodes, yf_values, yf_skipped, yf_pos, yf_there, yf_number, yf_at, ya_kind, ya_repeated, ya_how, ya_code, ya_coming, ya_going, ya_type, ya_headers, ya_header, ya_queued, ya_otherEnded, ya_ended, ya_finishing, ya_queue, ya_prefix, ya_length, ya_got, ya_high, ya_whole, ya_has, ya_bytes, ya_frame, ya_payloads, ya_table, an_g z.1, ya_nodeType, ya_valueNode, ya_valueNumber, ya_value, ya_from, ya_limit, ya_inside, ya_sizes) 0 (nI c) := by
  unfold wpY_error
  refine br_t rfl (nm_e ?_)
  unfold wY_error_25
  refine br_t rfl ?_
  unfold wY_error_36
  refine yo_frame (a := 1) (b := 5) (c := 0) (d := 0) hz ?_
  exact yo_put (an_b1 _) (ou_L_le [1, 5, 0, 0] hz) h
theorem yo_errS {s c : Nat} {post : SY → Prop} (h0 : 0 < s) (hs : s < 8) (hz : z.2 ≤ 1200)
    (h : post (yf_down, yf_heads, yf_paid, yf_payload, yf_wants, yf_name, yf_first, yf_counts, yf_enters, yf_most, yf_many, nI (ou_L z [1, 2, 0, s, c]).2, yf_last, yf_nodes, yf_values, yf_skipped, yf_pos, yf_there, yf_number, yf_at, ya_kind, ya_repeated, upd ya_how s 2, upd ya_code s (nI c), ya_coming, ya_going, ya_type, ya_headers, ya_header, upd ya_queued s 0, ya_otherEnded, ya_ended, ya_finishing, ya_queue, ya_prefix, ya_length, ya_got, ya_high, ya_whole, ya_has, ya_bytes, ya_frame, ya_payloads, ya_table, an_g (ou_L z [1, 2, 0, s, c]).1, ya_nodeType, ya_valueNode, ya_valueNumber, ya_value, ya_from, ya_limit, ya_inside, ya_sizes)) :
    wpY_error post (yf_down, yf_heads, yf_paid, yf_payload, yf_wants, yf_name, yf_first, yf_counts, yf_enters, yf_most, yf_many, nI z.2, yf_last, yf_nodes, yf_values, yf_skipped, yf_pos, yf_there, yf_number, yf_at, ya_kind, ya_repeated, ya_how, ya_code, ya_coming, ya_going, ya_type, ya_headers, ya_header, ya_queued, ya_otherEnded, ya_ended, ya_finishing, ya_queue, ya_prefix, ya_length, ya_got, ya_high, ya_whole, ya_has, ya_bytes, ya_frame, ya_payloads, ya_table, an_g z.1, ya_nodeType, ya_valueNode, ya_valueNumber, ya_value, ya_from, ya_limit, ya_inside, ya_sizes) (nI s) (nI c) := by
  unfold wpY_error
  have hn : ¬ nI s = 0 := by
    intro e
    have := (nI_eq (a := s) (b := 0) (by omega) (by omega)).mp e
    omega
  refine br_f hn (yo_shut hs ?_)
  unfold wY_error_25
  refine br_f hn ?_
  unfold wY_error_36
  refine yo_frame (a := 1) (b := 2) (c := 0) (d := s) hz ?_
  exact yo_put (an_b1 _) (ou_L_le [1, 2, 0, s] hz) h
end
end
section
/-! H: the relation -/
section
/-- of the streams -/
def cr_S (life th ot we fi co : Nat → Int32) (wi wo ql : Nat → Nat) : Prop :=
  life 0 = 0 ∧ ∀ s, s < 8 → (life s = 0 ∨ life s = 1 ∨ life s = 2) ∧ (th s = 0 ∨ th s = 1) ∧ (we s = 0 ∨ we s = 1) ∧ (fi s = 0 ∨ fi s = 1) ∧
    wi s ≤ 255 ∧ wo s ≤ 255 ∧ ql s ≤ 500 ∧ (life s ≠ 2 → ot s = th s) ∧ (life s ≠ 2 → 0 < s → co s = 0) ∧ (we s = 1 → fi s = 1 ∧ ql s = 0)
/-- a stream that may send -/
def cr_may (life we fi : Nat → Int32) (wo ql : Nat → Nat) (s : Nat) : Prop :=
  life s = 1 ∧ we s = 0 ∧ ((0 < ql s ∧ 0 < wo s ∧ 0 < wo 0) ∨ (ql s = 0 ∧ fi s = 1))
def cr_Q (life we fi : Nat → Int32) (wo ql : Nat → Nat) : Prop := ∀ s, 1 ≤ s → s < 8 → ¬ cr_may life we fi wo ql s
/-- of the table -/
def cr_T (en ta : Nat → Int32) (m M : Nat) : Prop :=
  m ≤ M ∧ M ≤ 16 ∧ ∀ j, j < m → en j = ta j ∧ ∃ e, e < 65536 ∧ en j = nI e
/-- of the fields -/
def cr_K (kinds rep : Nat → Int32) (K : Nat → Nat) (R : Nat → Bool) : Prop :=
  (∀ j, K j ≤ 8) ∧ (∀ j, j < 64 → kinds j = nI (K j) + (-1)) ∧ (∀ j, j < 64 → rep j = if R j = true then 1 else 0)
/-- of the frame that comes -/
def cr_F (life fr pl pls : Nat → Int32) (fAt n so fl st h p : Nat) (counts wants first : Int32) : Prop :=
  n < 256 ∧ so < 256 ∧ fl < 256 ∧ st < 256 ∧ fr 0 = nI n ∧ fr 1 = nI so ∧ fr 2 = nI fl ∧ fr 3 = nI st ∧
  ((h < 4 ∧ fAt = h) ∨ (h = 4 ∧ fAt = 4 + p ∧ p < n ∧ n ≤ 63 ∧ (so ≤ 5 → st ≤ 7) ∧
    (so = 0 → 1 ≤ st ∧ life st ≠ 0 ∧ (counts = 1 ∨ (counts = 0 ∧ life st = 2))) ∧ (1 ≤ so → so ≤ 4 → counts = 1) ∧ (5 ≤ so → counts = 0) ∧
    (so = 1 → 1 ≤ st ∧ wants = 0 ∧ first = -1 ∧ ∀ i, i < p → ∃ b, b < 256 ∧ pl i = nI b ∧ pls i = nI b) ∧
    (2 ≤ so → so ≤ 4 → n = 1) ∧ (so = 2 → 1 ≤ st) ∧ (so = 2 ∨ so = 3 → 0 < st → life st ≠ 0) ∧ (so = 4 → st = 0)))
/-- the reading of a message begins -/
def cr_0 (ty L : Nat) : pm_C := (0, 0, 0, 0, 0, (fun _ => L), (fun _ => 0), (1, (fun _ => ty), 0, (fun _ => 0), (fun _ => 0), (fun _ => 0), (fun _ => 0)))
/-- what the component keeps of a message -/
def cr_XD (K : Nat → Nat) (s : Nat) (nc nt vc vo va : Nat → Int32) (D : pm_D) : Prop :=
  nc s = nI (pm_nn D) ∧ vc s = nI (pm_nv D) ∧ (∀ i, i < pm_nn D → nt (16 * s + i) = nI (pm_nt D i)) ∧
  (∀ j, j < pm_nv D → vo (48 * s + j) = nI (16 * pm_vn D j + pm_vm D j) ∧ va (48 * s + j) = if pm_kk K D j = 4 then nI (256 * pm_fr D j) + pm_va D j else pm_va D j)
def cr_done (K : Nat → Nat) (R : Nat → Bool) (s ty L : Nat) (B : Nat → Nat) (nc nt vc vo va sk : Nat → Int32) : Prop :=
  ∃ dep c, pm_Rd B K R L (cr_0 ty L) (0, c) ∧ pm_CI K R L dep c ∧ cr_XD K s nc nt vc vo va (pm_d c) ∧ sk s = nI (pm_sk c)
/-- where a reading stands that isn't at its end -/
def cr_ph (K : Nat → Nat) (R : Nat → Bool) (t : Nat) (c : pm_C) (h f q d w : Nat) : Prop :=
  t < pm_end c ∧ f ≤ 15 ∧
  ((h = 0 ∧ t = pm_pos c + d ∧ d < 10 ∧ pm_row c = 0) ∨
   (h = 1 ∧ t = q + d ∧ d < 10 ∧ pm_row c = 0 ∧ pm_pos c < q ∧ (f ≠ 0 → K (pm_fj c f) ≠ 0 ∧ (K (pm_fj c f) ≤ 3 → R (pm_fj c f) = true))) ∨
   (h = 2 ∧ t = q + d ∧ d < 10 ∧ pm_pos c ≤ q ∧ (f ≠ 0 → 1 ≤ K (pm_fj c f) ∧ K (pm_fj c f) ≤ 2) ∧ (pm_row c ≠ 0 → f = pm_fld c)) ∨
   (h = 3 ∧ t = q + d ∧ d < w ∧ w ≤ 8 ∧ pm_pos c ≤ q ∧ (f ≠ 0 → w = 4 ∧ K (pm_fj c f) = 3) ∧ (pm_row c ≠ 0 → f = pm_fld c)) ∨
   (h = 4 ∧ q ≤ t ∧ t < q + w ∧ q + w ≤ pm_lim c (pm_at c) ∧ pm_row c = 0 ∧ pm_pos c < q ∧ (f ≠ 0 → K (pm_fj c f) = 4 ∧ pm_pl R (pm_d c) (pm_nd c) f ≠ 48)))
def cr_sum (B : Nat → Nat) (c : pm_C) (h q d : Nat) : Int32 :=
  if h = 0 then pm_vs B (pm_pos c) d else if h = 3 then pm_fs B q d else pm_vs B q d
def cr_D (R : Nat → Bool) (c : pm_C) (h f q w : Nat) : pm_D := if h = 4 ∧ f ≠ 0 then pm_kp R (pm_d c) (pm_nd c) f (nI w) q else pm_d c
def cr_reg (s t : Nat) (B : Nat → Nat) (c : pm_C) (h f q d w : Nat) (rd cn ce : Nat → Int32) : Prop :=
  rd (11 * s + 2) = nI t ∧ rd (11 * s + 3) = nI h ∧ (h < 4 → rd (11 * s + 4) = cr_sum B c h q d ∧ rd (11 * s + 5) = nI d) ∧
  (h = 3 → rd (11 * s + 6) = nI w) ∧ (h = 4 → rd (11 * s + 6) = nI (q + w - t)) ∧
  (1 ≤ h → rd (11 * s + 7) = nI (if f = 0 then 0 else pm_fj c f)) ∧ rd (11 * s + 8) = nI (pm_row c) ∧ (pm_row c = 0 → rd (11 * s + 9) = nI (pm_pos c)) ∧
  rd (11 * s + 10) = nI (pm_at c) ∧ (∀ i, i ≤ pm_at c → cn (4 * s + i) = nI (pm_ins c i) ∧ ce (4 * s + i) = nI (pm_lim c i))
/-- whatever the reference reads from here on, it reads from the start -/
def cr_from (K : Nat → Nat) (R : Nat → Bool) (ty L t : Nat) (B : Nat → Nat) (g : (Nat → Nat) → Nat → Nat × pm_C) : Prop :=
  ∀ T B', t ≤ T → (∀ i, i < t → B' i = B i) → ∀ r, pm_Rp B' K R T (g B' T) r → pm_Rd B' K R T (cr_0 ty L) r
def cr_inc (K : Nat → Nat) (R : Nat → Bool) (s ty L t : Nat) (B : Nat → Nat) (nc nt vc vo va sk rd cn ce : Nat → Int32) : Prop :=
  ∃ dep c h f q d w, t < L ∧ pm_CI K R L dep c ∧ cr_ph K R t c h f q d w ∧ cr_reg s t B c h f q d w rd cn ce ∧
    cr_XD K s nc nt vc vo va (cr_D R c h f q w) ∧ sk s = nI (pm_sk c) ∧ cr_from K R ty L t B (fun B' T => pm_go B' K R T c h f q d w)
/-- the bytes of one stream -/
def cr_by (tx : Nat → Nat) (s : Nat) : Nat → Nat := fun i => if i < 200 then tx (200 * s + i) else 0
/-- of the message of one stream -/
def cr_m (k : Nat) (K : Nat → Nat) (R : Nat → Bool) (s : Nat) (tx : Nat → Nat) (life mc nc nt vc vo va sk rd cn ce ty le go hi ha pr : Nat → Int32) : Prop :=
  ∃ p m y, p ≤ 3 ∧ pr s = nI p ∧ rd (11 * s) = nI p ∧ m ≤ k ∧ mc s = nI m ∧ y < 4 ∧
    (ha s = if m ≠ 0 ∧ p < 3 then 1 else 0) ∧ (life s = 0 → p = 0 ∧ m = 0) ∧ (p = 2 → ∃ x, x < 256 ∧ hi s = nI x ∧ rd (11 * s + 1) = nI (256 * x)) ∧
    (life s = 1 ∨ ha s = 1 → ty s = nI y ∧ nt (16 * s) = nI y) ∧
    (ha s = 1 → ∃ L, L ≤ 200 ∧ le s = nI L ∧ go s = nI L ∧ cr_done K R s y L (cr_by tx s) nc nt vc vo va sk) ∧
    (p = 3 → life s = 1 → ∃ L t, L ≤ 200 ∧ le s = nI L ∧ go s = nI t ∧ cr_inc K R s y L t (cr_by tx s) nc nt vc vo va sk rd cn ce)
def cr_M (k : Nat) (K : Nat → Nat) (R : Nat → Bool) (tx : Nat → Nat) (life mc nc nt vc vo va sk rd cn ce ty le go hi ha pr : Nat → Int32) : Prop :=
  ∀ s, 1 ≤ s → s < 8 → cr_m k K R s tx life mc nc nt vc vo va sk rd cn ce ty le go hi ha pr
/-- bytes -/
def cr_B (f : Nat → Nat) : Prop := ∀ j, f j < 256
abbrev cr_A : Type := Nat → Int32
abbrev cr_G : Type := ((Nat → Nat) × (Nat → Bool) × ((Nat → Nat) × Nat)) × (Nat × Nat × Nat × Nat × Nat × Nat × Nat × Nat × Nat × Nat) ×
  ((Nat → Nat) × (Nat → Nat) × (Nat → Nat) × (Nat → Nat) × (Nat → Nat) × (Nat → Nat)) ×
  (Int32 × Int32 × Int32 × Int32 × Int32 × Int32 × Int32 × Int32 × Int32 × Int32 × Int32 × Int32 × Int32 × Int32 × Int32) ×
  (cr_A × cr_A × cr_A × cr_A × cr_A × cr_A × cr_A × cr_A × cr_A × cr_A × cr_A) × (cr_A × cr_A × cr_A × cr_A × cr_A × cr_A × cr_A × cr_A × cr_A × cr_A × cr_A) ×
  (cr_A × cr_A × cr_A × cr_A × cr_A × cr_A × cr_A × cr_A × cr_A) × (cr_A × cr_A × cr_A × cr_A × cr_A × cr_A × cr_A × cr_A × cr_A)
def cr_x : cr_G → SX
  | ((K, R, z), (fAt, n, so, fl, st, h, p, m, M, l), (wi, wo, ql, hc, Q, tx), (f_down, f_typeSeen, yf_payload, yf_wants, yf_name, yf_first, yf_counts, yf_enters, yf_nodes, yf_values, yf_skipped, yf_pos, yf_there, yf_number, yf_at), (a_payload, a_life, a_theyEnded, a_weEnded, a_finishing, a_codes, a_headers, a_entries, a_kinds, a_repeats, a_messageCount), (a_nodeCount, a_nodeTypes, a_valueCount, a_valueOwners, a_values, a_skippedCount, a_reader, a_chainNode, a_chainEnd, a_nodeSize, a_nodePlace), (ya_type, ya_otherEnded, ya_prefix, ya_length, ya_got, ya_high, ya_has, ya_frame, ya_payloads), (ya_table, ya_nodeType, ya_valueNode, ya_valueNumber, ya_value, ya_from, ya_limit, ya_inside, ya_sizes)) => (nI fAt, nI n, nI so, nI fl, nI st, f_down, nI m, nI M, f_typeSeen, nI l, nI z.2, a_payload, a_life, a_theyEnded, a_weEnded, a_finishing, a_codes, an_f wi, an_f wo, a_headers, an_f hc, a_entries, a_kinds, a_repeats, a_messageCount, an_f tx, a_nodeCount, a_nodeTypes, a_valueCount, a_valueOwners, a_values, a_skippedCount, a_reader, a_chainNode, a_chainEnd, an_f Q, an_f ql, an_f z.1, a_nodeSize, a_nodePlace)
def cr_y : cr_G → SY
  | ((K, R, z), (fAt, n, so, fl, st, h, p, m, M, l), (wi, wo, ql, hc, Q, tx), (f_down, f_typeSeen, yf_payload, yf_wants, yf_name, yf_first, yf_counts, yf_enters, yf_nodes, yf_values, yf_skipped, yf_pos, yf_there, yf_number, yf_at), (a_payload, a_life, a_theyEnded, a_weEnded, a_finishing, a_codes, a_headers, a_entries, a_kinds, a_repeats, a_messageCount), (a_nodeCount, a_nodeTypes, a_valueCount, a_valueOwners, a_values, a_skippedCount, a_reader, a_chainNode, a_chainEnd, a_nodeSize, a_nodePlace), (ya_type, ya_otherEnded, ya_prefix, ya_length, ya_got, ya_high, ya_has, ya_frame, ya_payloads), (ya_table, ya_nodeType, ya_valueNode, ya_valueNumber, ya_value, ya_from, ya_limit, ya_inside, ya_sizes)) => (f_down, nI h, nI p, yf_payload, yf_wants, yf_name, yf_first, yf_counts, yf_enters, nI M, nI m, nI z.2, nI (if l = 0 then 7 else l), yf_nodes, yf_values, yf_skipped, yf_pos, yf_there, yf_number, yf_at, a_kinds, a_repeats, a_life, a_codes, an_f wi, an_f wo, ya_type, an_f hc, a_headers, an_f ql, ya_otherEnded, a_weEnded, a_finishing, an_g Q, ya_prefix, ya_length, ya_got, ya_high, a_messageCount, ya_has, an_g tx, ya_frame, ya_payloads, ya_table, an_g z.1, ya_nodeType, ya_valueNode, ya_valueNumber, ya_value, ya_from, ya_limit, ya_inside, ya_sizes)
def cr_C (k : Nat) : cr_G → Prop
  | ((K, R, z), (fAt, n, so, fl, st, h, p, m, M, l), (wi, wo, ql, hc, Q, tx), (f_down, f_typeSeen, yf_payload, yf_wants, yf_name, yf_first, yf_counts, yf_enters, yf_nodes, yf_values, yf_skipped, yf_pos, yf_there, yf_number, yf_at), (a_payload, a_life, a_theyEnded, a_weEnded, a_finishing, a_codes, a_headers, a_entries, a_kinds, a_repeats, a_messageCount), (a_nodeCount, a_nodeTypes, a_valueCount, a_valueOwners, a_values, a_skippedCount, a_reader, a_chainNode, a_chainEnd, a_nodeSize, a_nodePlace), (ya_type, ya_otherEnded, ya_prefix, ya_length, ya_got, ya_high, ya_has, ya_frame, ya_payloads), (ya_table, ya_nodeType, ya_valueNode, ya_valueNumber, ya_value, ya_from, ya_limit, ya_inside, ya_sizes)) =>
    (f_down = 0 ∨ f_down = 1) ∧ l ≤ 7 ∧ (∀ s, s < 8 → hc s ≤ 8) ∧ ou_I z ∧ cr_B Q ∧ cr_B tx ∧
    cr_S a_life a_theyEnded ya_otherEnded a_weEnded a_finishing a_codes wi wo ql ∧ (f_down = 0 → cr_Q a_life a_weEnded a_finishing wo ql) ∧
    cr_T a_entries ya_table m M ∧ cr_K a_kinds a_repeats K R ∧
    (f_down = 0 → cr_F a_life ya_frame a_payload ya_payloads fAt n so fl st h p yf_counts yf_wants yf_first) ∧
    cr_M k K R tx a_life a_messageCount a_nodeCount a_nodeTypes a_valueCount a_valueOwners a_values a_skippedCount a_reader a_chainNode a_chainEnd ya_type ya_length ya_got ya_high ya_has ya_prefix
def i_Rel (k : Nat) (u : SX) (v : SY) : Prop := ∃ g : cr_G, u = cr_x g ∧ v = cr_y g ∧ cr_C k g
end
end
section
/-! I: calls that only look -/
section
variable {f_frameAt f_frameLength f_frameSort f_frameFlags f_frameStream f_down f_entryCount f_most f_typeSeen f_lastSender f_sentLength : Int32} {a_payload a_life a_theyEnded a_weEnded a_finishing a_codes a_windowIn a_windowOut a_headers a_headerCount a_entries a_kinds a_repeats a_messageCount a_text a_nodeCount a_nodeTypes a_valueCount a_valueOwners a_values a_skippedCount a_reader a_chainNode a_chainEnd a_queue a_queueLength a_sent a_nodeSize a_nodePlace : Nat → Int32} {yf_down yf_heads yf_paid yf_payload yf_wants yf_name yf_first yf_counts yf_enters yf_most yf_many yf_sent yf_last yf_nodes yf_values yf_skipped yf_pos yf_there yf_number yf_at : Int32} {ya_kind ya_repeated ya_how ya_code ya_coming ya_going ya_type ya_headers ya_header ya_queued ya_otherEnded ya_ended ya_finishing ya_queue ya_prefix ya_length ya_got ya_high ya_whole ya_has ya_bytes ya_frame ya_payloads ya_table ya_out ya_nodeType ya_valueNode ya_valueNumber ya_value ya_from ya_limit ya_inside ya_sizes : Nat → Int32}
theorem lk_c (x : Int32) : (x < 0 ∧ x < 1 ∧ ¬ 7 < x ∧ ¬ x = 0) ∨ (¬ x < 0 ∧ ¬ x < 1 ∧ ¬ x ≤ 7 ∧ 7 < x ∧ ¬ x = 0) ∨ ∃ s, s < 8 ∧ x = nI s := by
  rcases pk_ix x (n := 8) (by omega) with h | h | ⟨s, hs, rfl⟩
  · left
    refine ⟨h, ?_, ?_, ?_⟩
    · rw [Int32.lt_iff_toInt_lt] at h ⊢
      have h0 : (0 : Int32).toInt = 0 := by decide
      have h1 : (1 : Int32).toInt = 1 := by decide
      omega
    · intro g
      rw [Int32.lt_iff_toInt_lt] at h g
      have h0 : (0 : Int32).toInt = 0 := by decide
      have h1 : (7 : Int32).toInt = 7 := by decide
      omega
    · intro g; subst g; exact absurd h (by decide)
  · right; left
    have h8 : (nI 8).toInt = 8 := by decide
    have h0 : (0 : Int32).toInt = 0 := by decide
    have h1 : (1 : Int32).toInt = 1 := by decide
    have h7 : (7 : Int32).toInt = 7 := by decide
    rw [Int32.le_iff_toInt_le] at h
    refine ⟨?_, ?_, ?_, ?_, ?_⟩
    · rw [Int32.lt_iff_toInt_lt]; omega
    · rw [Int32.lt_iff_toInt_lt]; omega
    · rw [Int32.le_iff_toInt_le]; omega
    · rw [Int32.lt_iff_toInt_lt]; omega
    · intro g; subst g; omega
  · right; right; exact ⟨s, hs, rfl⟩
theorem lk_s : ∀ s, s < 8 → ¬ nI s < 0 ∧ nI s ≤ 7 ∧ ¬ 7 < nI s ∧ (1 ≤ s → ¬ nI s < 1 ∧ ¬ nI s = 0) ∧ (nI s).toNatClampNeg = s := by
  decide +kernel
theorem yn_in {post : Int32 → Prop} {x a b : Int32} (h1 : ¬ x < a) (h2 : x ≤ b) (h : post 0) : wpY_no post x a b := br_f h1 (br_t h2 h)
theorem yn_lo {post : Int32 → Prop} {x a b : Int32} (h1 : x < a) (h : post 1) : wpY_no post x a b := br_t h1 h
theorem yn_hi {post : Int32 → Prop} {x a b : Int32} (h1 : ¬ x < a) (h2 : ¬ x ≤ b) (h : post 1) : wpY_no post x a b := br_f h1 (br_f h2 h)
theorem xs_t {post : Int32 → Prop} {s : Nat} (h1 : 1 ≤ s) (h2 : s < 8) (h : post 1) : wpX_isStream post (f_frameAt, f_frameLength, f_frameSort, f_frameFlags, f_frameStream, f_down, f_entryCount, f_most, f_typeSeen, f_lastSender, f_sentLength, a_payload, a_life, a_theyEnded, a_weEnded, a_finishing, a_codes, a_windowIn, a_windowOut, a_headers, a_headerCount, a_entries, a_kinds, a_repeats, a_messageCount, a_text, a_nodeCount, a_nodeTypes, a_valueCount, a_valueOwners, a_values, a_skippedCount, a_reader, a_chainNode, a_chainEnd, a_queue, a_queueLength, a_sent, a_nodeSize, a_nodePlace) (nI s) :=
  br_f ((lk_s s h2).2.2.2.1 h1).1 (br_f (lk_s s h2).2.2.1 h)
theorem xs_f {post : Int32 → Prop} {x : Int32} (hx : x < 1 ∨ (¬ x < 1 ∧ 7 < x)) (h : post 0) : wpX_isStream post (f_frameAt, f_frameLength, f_frameSort, f_frameFlags, f_frameStream, f_down, f_entryCount, f_most, f_typeSeen, f_lastSender, f_sentLength, a_payload, a_life, a_theyEnded, a_weEnded, a_finishing, a_codes, a_windowIn, a_windowOut, a_headers, a_headerCount, a_entries, a_kinds, a_repeats, a_messageCount, a_text, a_nodeCount, a_nodeTypes, a_valueCount, a_valueOwners, a_values, a_skippedCount, a_reader, a_chainNode, a_chainEnd, a_queue, a_queueLength, a_sent, a_nodeSize, a_nodePlace) x := by
  rcases hx with g | ⟨g1, g2⟩
  · exact br_t g h
  · exact br_f g1 (br_t g2 h)

theorem cr_m_k {k k' : Nat} (hk : k ≤ k') {K : Nat → Nat} {R : Nat → Bool} {s : Nat} {tx : Nat → Nat} {life mc nc nt vc vo va sk rd cn ce ty le go hi ha pr : Nat → Int32}
    (h : cr_m k K R s tx life mc nc nt vc vo va sk rd cn ce ty le go hi ha pr) : cr_m k' K R s tx life mc nc nt vc vo va sk rd cn ce ty le go hi ha pr := by
  obtain ⟨p, m, y, h1, h2, h3, h4, h5⟩ := h
  exact ⟨p, m, y, h1, h2, h3, Nat.le_trans h4 hk, h5⟩
theorem i_up {k : Nat} {u : SX} {v : SY} (h : i_Rel k u v) : i_Rel (k + 6) u v := by
  obtain ⟨⟨⟨K, R, z⟩, ⟨fAt, n, so, fl, st, h, p, m, M, l⟩, ⟨wi, wo, ql, hc, Q, tx⟩, ⟨f_down, f_typeSeen, yf_payload, yf_wants, yf_name, yf_first, yf_counts, yf_enters, yf_nodes, yf_values, yf_skipped, yf_pos, yf_there, yf_number, yf_at⟩, ⟨a_payload, a_life, a_theyEnded, a_weEnded, a_finishing, a_codes, a_headers, a_entries, a_kinds, a_repeats, a_messageCount⟩, ⟨a_nodeCount, a_nodeTypes, a_valueCount, a_valueOwners, a_values, a_skippedCount, a_reader, a_chainNode, a_chainEnd, a_nodeSize, a_nodePlace⟩, ⟨ya_type, ya_otherEnded, ya_prefix, ya_length, ya_got, ya_high, ya_has, ya_frame, ya_payloads⟩, ⟨ya_table, ya_nodeType, ya_valueNode, ya_valueNumber, ya_value, ya_from, ya_limit, ya_inside, ya_sizes⟩⟩, rfl, rfl, hD, hl, hH, hO, hQ, hX, hS, hq, hT, hK, hF, hM⟩ := h
  exact ⟨((K, R, z), (fAt, n, so, fl, st, h, p, m, M, l), (wi, wo, ql, hc, Q, tx), (f_down, f_typeSeen, yf_payload, yf_wants, yf_name, yf_first, yf_counts, yf_enters, yf_nodes, yf_values, yf_skipped, yf_pos, yf_there, yf_number, yf_at), (a_payload, a_life, a_theyEnded, a_weEnded, a_finishing, a_codes, a_headers, a_entries, a_kinds, a_repeats, a_messageCount), (a_nodeCount, a_nodeTypes, a_valueCount, a_valueOwners, a_values, a_skippedCount, a_reader, a_chainNode, a_chainEnd, a_nodeSize, a_nodePlace), (ya_type, ya_otherEnded, ya_prefix, ya_length, ya_got, ya_high, ya_has, ya_frame, ya_payloads), (ya_table, ya_nodeType, ya_valueNode, ya_valueNumber, ya_value, ya_from, ya_limit, ya_inside, ya_sizes)), rfl, rfl, hD, hl, hH, hO, hQ, hX, hS, hq, hT, hK, hF, fun s h1 h2 => cr_m_k (by omega) (hM s h1 h2)⟩
end
end
section
/-! I2: calls that only look -/
section
variable {f_frameAt f_frameLength f_frameSort f_frameFlags f_frameStream f_down f_entryCount f_most f_typeSeen f_lastSender f_sentLength : Int32} {a_payload a_life a_theyEnded a_weEnded a_finishing a_codes a_windowIn a_windowOut a_headers a_headerCount a_entries a_kinds a_repeats a_messageCount a_text a_nodeCount a_nodeTypes a_valueCount a_valueOwners a_values a_skippedCount a_reader a_chainNode a_chainEnd a_queue a_queueLength a_sent a_nodeSize a_nodePlace : Nat → Int32} {yf_down yf_heads yf_paid yf_payload yf_wants yf_name yf_first yf_counts yf_enters yf_most yf_many yf_sent yf_last yf_nodes yf_values yf_skipped yf_pos yf_there yf_number yf_at : Int32} {ya_kind ya_repeated ya_how ya_code ya_coming ya_going ya_type ya_headers ya_header ya_queued ya_otherEnded ya_ended ya_finishing ya_queue ya_prefix ya_length ya_got ya_high ya_whole ya_has ya_bytes ya_frame ya_payloads ya_table ya_out ya_nodeType ya_valueNode ya_valueNumber ya_value ya_from ya_limit ya_inside ya_sizes : Nat → Int32}
theorem lk_in {s : Nat} (h : s < 8) : vp_in (nI s) 8 := vp_in_nI h (by omega)
theorem i_vc_state {k : Nat} {u : SX} {v : SY} (I : i_Rel k u v) (hk : k + 6 ≤ 3072) (v1 : Int32) : wpX_state (fun r => wpY_state (fun r' => r' = r ∧ i_Rel (k + 6) u v) v v1) u v1 := by
  have J := i_up I
  generalize i_Rel (k + 6) u v = P at J ⊢
  obtain ⟨⟨⟨K, R, z⟩, ⟨fAt, n, so, fl, st, h, p, m, M, l⟩, ⟨wi, wo, ql, hc, Q, tx⟩, ⟨f_down, f_typeSeen, yf_payload, yf_wants, yf_name, yf_first, yf_counts, yf_enters, yf_nodes, yf_values, yf_skipped, yf_pos, yf_there, yf_number, yf_at⟩, ⟨a_payload, a_life, a_theyEnded, a_weEnded, a_finishing, a_codes, a_headers, a_entries, a_kinds, a_repeats, a_messageCount⟩, ⟨a_nodeCount, a_nodeTypes, a_valueCount, a_valueOwners, a_values, a_skippedCount, a_reader, a_chainNode, a_chainEnd, a_nodeSize, a_nodePlace⟩, ⟨ya_type, ya_otherEnded, ya_prefix, ya_length, ya_got, ya_high, ya_has, ya_frame, ya_payloads⟩, ⟨ya_table, ya_nodeType, ya_valueNode, ya_valueNumber, ya_value, ya_from, ya_limit, ya_inside, ya_sizes⟩⟩, rfl, rfl, hD, hl, hH, hO, hQ, hX, hS, hq, hT, hK, hF, hM⟩ := I
  dsimp only [cr_x, cr_y]
  unfold wpX_state wpY_state wpX_isStream wpY_no
  dsimp only
  rcases lk_c v1 with ⟨h1, h2, h3, h4⟩ | ⟨h1, h2, h3, h4, h5⟩ | ⟨s, hs, rfl⟩
  · simp [h1, h2, h4, J]
  · simp [h1, h2, h3, h4, h5, J]
  · obtain ⟨g1, g2, g3, g4, g5⟩ := lk_s s hs
    obtain ⟨s1, s2, s3, s4, s5, s6, s7, s8, s9, s10⟩ := hS.2 s hs
    rw [g5]
    have hin := lk_in hs
    by_cases h0 : s = 0
    · subst h0
      rcases hD with d | d <;> simp [d, J, nI_0]
    · obtain ⟨g6, g7⟩ := g4 (by omega)
      rcases s1 with e | e | e
      · simp [g1, g2, g3, g6, g7, hin, e, J]
      · rw [s8 (by rw [e]; decide)]
        rcases s2 with t | t <;> rcases s3 with w | w <;> simp [g1, g2, g3, g6, g7, hin, e, t, w, J]
      · simp [g1, g2, g3, g6, g7, hin, e, J]
end
end
section
/-! I3: calls that only look -/
section
variable {f_frameAt f_frameLength f_frameSort f_frameFlags f_frameStream f_down f_entryCount f_most f_typeSeen f_lastSender f_sentLength : Int32} {a_payload a_life a_theyEnded a_weEnded a_finishing a_codes a_windowIn a_windowOut a_headers a_headerCount a_entries a_kinds a_repeats a_messageCount a_text a_nodeCount a_nodeTypes a_valueCount a_valueOwners a_values a_skippedCount a_reader a_chainNode a_chainEnd a_queue a_queueLength a_sent a_nodeSize a_nodePlace : Nat → Int32} {yf_down yf_heads yf_paid yf_payload yf_wants yf_name yf_first yf_counts yf_enters yf_most yf_many yf_sent yf_last yf_nodes yf_values yf_skipped yf_pos yf_there yf_number yf_at : Int32} {ya_kind ya_repeated ya_how ya_code ya_coming ya_going ya_type ya_headers ya_header ya_queued ya_otherEnded ya_ended ya_finishing ya_queue ya_prefix ya_length ya_got ya_high ya_whole ya_has ya_bytes ya_frame ya_payloads ya_table ya_out ya_nodeType ya_valueNode ya_valueNumber ya_value ya_from ya_limit ya_inside ya_sizes : Nat → Int32}
theorem i_vc_code {k : Nat} {u : SX} {v : SY} (I : i_Rel k u v) (hk : k + 6 ≤ 3072) (v1 : Int32) : wpX_code (fun r => wpY_code (fun r' => r' = r ∧ i_Rel (k + 6) u v) v v1) u v1 := by
  have J := i_up I
  generalize i_Rel (k + 6) u v = P at J ⊢
  obtain ⟨⟨⟨K, R, z⟩, ⟨fAt, n, so, fl, st, h, p, m, M, l⟩, ⟨wi, wo, ql, hc, Q, tx⟩, ⟨f_down, f_typeSeen, yf_payload, yf_wants, yf_name, yf_first, yf_counts, yf_enters, yf_nodes, yf_values, yf_skipped, yf_pos, yf_there, yf_number, yf_at⟩, ⟨a_payload, a_life, a_theyEnded, a_weEnded, a_finishing, a_codes, a_headers, a_entries, a_kinds, a_repeats, a_messageCount⟩, ⟨a_nodeCount, a_nodeTypes, a_valueCount, a_valueOwners, a_values, a_skippedCount, a_reader, a_chainNode, a_chainEnd, a_nodeSize, a_nodePlace⟩, ⟨ya_type, ya_otherEnded, ya_prefix, ya_length, ya_got, ya_high, ya_has, ya_frame, ya_payloads⟩, ⟨ya_table, ya_nodeType, ya_valueNode, ya_valueNumber, ya_value, ya_from, ya_limit, ya_inside, ya_sizes⟩⟩, rfl, rfl, hD, hl, hH, hO, hQ, hX, hS, hq, hT, hK, hF, hM⟩ := I
  dsimp only [cr_x, cr_y]
  unfold wpX_code wpY_code wpX_isStream wpY_no
  dsimp only
  rcases lk_c v1 with ⟨h1, h2, h3, h4⟩ | ⟨h1, h2, h3, h4, h5⟩ | ⟨s, hs, rfl⟩
  · simp [h1, h2, h4, J]
  · simp [h1, h2, h3, h4, h5, J]
  · obtain ⟨g1, g2, g3, g4, g5⟩ := lk_s s hs
    have hin := lk_in hs
    by_cases h0 : s = 0
    · subst h0
      simp [J, nI_0, (show vp_in (0 : Int32) 8 from hin)]
    · obtain ⟨g6, g7⟩ := g4 (by omega)
      simp [g1, g2, g3, g6, g7, hin, J]
theorem i_vc_window {k : Nat} {u : SX} {v : SY} (I : i_Rel k u v) (hk : k + 6 ≤ 3072) (v1 : Int32) (v2 : Int32) : wpX_window (fun r => wpY_window (fun r' => r' = r ∧ i_Rel (k + 6) u v) v v1 (lw_bz v2)) u v1 (lw_bz v2) := by
  have J := i_up I
  generalize i_Rel (k + 6) u v = P at J ⊢
  obtain ⟨⟨⟨K, R, z⟩, ⟨fAt, n, so, fl, st, h, p, m, M, l⟩, ⟨wi, wo, ql, hc, Q, tx⟩, ⟨f_down, f_typeSeen, yf_payload, yf_wants, yf_name, yf_first, yf_counts, yf_enters, yf_nodes, yf_values, yf_skipped, yf_pos, yf_there, yf_number, yf_at⟩, ⟨a_payload, a_life, a_theyEnded, a_weEnded, a_finishing, a_codes, a_headers, a_entries, a_kinds, a_repeats, a_messageCount⟩, ⟨a_nodeCount, a_nodeTypes, a_valueCount, a_valueOwners, a_values, a_skippedCount, a_reader, a_chainNode, a_chainEnd, a_nodeSize, a_nodePlace⟩, ⟨ya_type, ya_otherEnded, ya_prefix, ya_length, ya_got, ya_high, ya_has, ya_frame, ya_payloads⟩, ⟨ya_table, ya_nodeType, ya_valueNode, ya_valueNumber, ya_value, ya_from, ya_limit, ya_inside, ya_sizes⟩⟩, rfl, rfl, hD, hl, hH, hO, hQ, hX, hS, hq, hT, hK, hF, hM⟩ := I
  dsimp only [cr_x, cr_y]
  generalize lw_bz v2 = x
  unfold wpX_window wpY_window wpX_isStream wpY_no
  dsimp only
  unfold wX_window_14
  rcases lk_c v1 with ⟨h1, h2, h3, h4⟩ | ⟨h1, h2, h3, h4, h5⟩ | ⟨s, hs, rfl⟩
  · simp [h1, h2, h4, J]
  · simp [h1, h2, h3, h4, h5, J]
  · obtain ⟨g1, g2, g3, g4, g5⟩ := lk_s s hs
    have hin := lk_in hs
    by_cases hx : x = 0
    · by_cases h0 : s = 0
      · subst h0
        simp [J, nI_0, (show vp_in (0 : Int32) 8 from hin), hx]
      · obtain ⟨g6, g7⟩ := g4 (by omega)
        simp [g1, g2, g3, g6, g7, hin, J, hx]
    · by_cases h0 : s = 0
      · subst h0
        simp [J, nI_0, (show vp_in (0 : Int32) 8 from hin), hx]
      · obtain ⟨g6, g7⟩ := g4 (by omega)
        simp [g1, g2, g3, g6, g7, hin, J, hx]
theorem i_vc_messages {k : Nat} {u : SX} {v : SY} (I : i_Rel k u v) (hk : k + 6 ≤ 3072) (v1 : Int32) : wpX_messages (fun r => wpY_messages (fun r' => r' = r ∧ i_Rel (k + 6) u v) v v1) u v1 := by
  have J := i_up I
  generalize i_Rel (k + 6) u v = P at J ⊢
  obtain ⟨⟨⟨K, R, z⟩, ⟨fAt, n, so, fl, st, h, p, m, M, l⟩, ⟨wi, wo, ql, hc, Q, tx⟩, ⟨f_down, f_typeSeen, yf_payload, yf_wants, yf_name, yf_first, yf_counts, yf_enters, yf_nodes, yf_values, yf_skipped, yf_pos, yf_there, yf_number, yf_at⟩, ⟨a_payload, a_life, a_theyEnded, a_weEnded, a_finishing, a_codes, a_headers, a_entries, a_kinds, a_repeats, a_messageCount⟩, ⟨a_nodeCount, a_nodeTypes, a_valueCount, a_valueOwners, a_values, a_skippedCount, a_reader, a_chainNode, a_chainEnd, a_nodeSize, a_nodePlace⟩, ⟨ya_type, ya_otherEnded, ya_prefix, ya_length, ya_got, ya_high, ya_has, ya_frame, ya_payloads⟩, ⟨ya_table, ya_nodeType, ya_valueNode, ya_valueNumber, ya_value, ya_from, ya_limit, ya_inside, ya_sizes⟩⟩, rfl, rfl, hD, hl, hH, hO, hQ, hX, hS, hq, hT, hK, hF, hM⟩ := I
  dsimp only [cr_x, cr_y]
  unfold wpX_messages wpY_messages wpX_isStream wpY_no
  dsimp only
  rcases lk_c v1 with ⟨h1, h2, h3, h4⟩ | ⟨h1, h2, h3, h4, h5⟩ | ⟨s, hs, rfl⟩
  · simp [h1, h2, h4, J]
  · simp [h1, h2, h3, h4, h5, J]
  · obtain ⟨g1, g2, g3, g4, g5⟩ := lk_s s hs
    have hin := lk_in hs
    by_cases h0 : s = 0
    · subst h0
      simp [J, nI_0]
    · obtain ⟨g6, g7⟩ := g4 (by omega)
      simp [g1, g2, g3, g6, g7, hin, J]
/-- an index against a count -/
theorem lk_ix {x : Int32} (m : Nat) (hm : m < 2 ^ 30) : (x < 0) ∨ (¬ x < 0 ∧ nI m ≤ x ∧ ¬ x ≤ nI m - 1) ∨ ∃ j, j < m ∧ x = nI j ∧ ¬ x < 0 ∧ ¬ nI m ≤ x ∧ x ≤ nI m - 1 := by
  rcases pk_ix x (n := m) (by omega) with h | h | ⟨j, hj, rfl⟩
  · exact Or.inl h
  · right; left
    obtain ⟨e, he, rfl⟩ : ∃ e, e < 2 ^ 31 ∧ x = nI e := nI_of (by
      intro g
      have : nI m < 0 := Int32.lt_of_le_of_lt h g
      exact absurd this (nI_pos (by omega)))
    refine ⟨nI_pos he, h, ?_⟩
    rw [nI_leI (by omega) he] at h
    intro g
    cases m with
    | zero =>
      have e1 : nI 0 - 1 = (-1 : Int32) := by decide
      rw [e1] at g
      exact absurd (Int32.lt_of_le_of_lt g (show (-1 : Int32) < 0 by decide)) (nI_pos he)
    | succ m =>
      rw [nI_pred, nI_leI he (by omega)] at g
      omega
  · right; right
    refine ⟨j, hj, rfl, nI_pos (by omega), ?_, ?_⟩
    · rw [nI_leI (by omega) (by omega)]; omega
    · obtain ⟨m', rfl⟩ : ∃ m', m = m' + 1 := ⟨m - 1, by omega⟩
      rw [nI_pred, nI_leI (by omega) (by omega)]; omega
theorem i_vc_header {k : Nat} {u : SX} {v : SY} (I : i_Rel k u v) (hk : k + 6 ≤ 3072) (v1 : Int32) (v2 : Int32) : wpX_header (fun r => wpY_header (fun r' => r' = r ∧ i_Rel (k + 6) u v) v v1 v2) u v1 v2 := by
  have J := i_up I
  generalize i_Rel (k + 6) u v = P at J ⊢
  obtain ⟨⟨⟨K, R, z⟩, ⟨fAt, n, so, fl, st, h, p, m, M, l⟩, ⟨wi, wo, ql, hc, Q, tx⟩, ⟨f_down, f_typeSeen, yf_payload, yf_wants, yf_name, yf_first, yf_counts, yf_enters, yf_nodes, yf_values, yf_skipped, yf_pos, yf_there, yf_number, yf_at⟩, ⟨a_payload, a_life, a_theyEnded, a_weEnded, a_finishing, a_codes, a_headers, a_entries, a_kinds, a_repeats, a_messageCount⟩, ⟨a_nodeCount, a_nodeTypes, a_valueCount, a_valueOwners, a_values, a_skippedCount, a_reader, a_chainNode, a_chainEnd, a_nodeSize, a_nodePlace⟩, ⟨ya_type, ya_otherEnded, ya_prefix, ya_length, ya_got, ya_high, ya_has, ya_frame, ya_payloads⟩, ⟨ya_table, ya_nodeType, ya_valueNode, ya_valueNumber, ya_value, ya_from, ya_limit, ya_inside, ya_sizes⟩⟩, rfl, rfl, hD, hl, hH, hO, hQ, hX, hS, hq, hT, hK, hF, hM⟩ := I
  dsimp only [cr_x, cr_y]
  unfold wpX_header wpY_header wpX_isStream wpY_no
  dsimp only
  rcases lk_c v1 with ⟨h1, h2, h3, h4⟩ | ⟨h1, h2, h3, h4, h5⟩ | ⟨s, hs, rfl⟩
  · simp [h1, h2, h4, J]
  · simp [h1, h2, h3, h4, h5, J]
  · obtain ⟨g1, g2, g3, g4, g5⟩ := lk_s s hs
    have hin := lk_in hs
    have hh := hH s hs
    by_cases h0 : s = 0
    · subst h0
      simp [J, nI_0]
    · obtain ⟨g6, g7⟩ := g4 (by omega)
      rw [g5, an_fa]
      rcases lk_ix (x := v2) (hc s) (by omega) with a | ⟨a, b, c⟩ | ⟨j, hj, rfl, a, b, c⟩
      · simp [g1, g2, g3, g6, g7, hin, J, a]
      · simp [g1, g2, g3, g6, g7, hin, J, a, b, c]
      · have e1 : nI s * 8 + nI j = nI (8 * s + j) := by
          rw [show (8 : Int32) = nI 8 from rfl, pk_mul, nI_add, Nat.mul_comm]
        have e2 : 8 * nI s + nI j = nI (8 * s + j) := by
          rw [show (8 : Int32) = nI 8 from rfl, pk_mul, nI_add]
        have e3 : vp_in (nI (8 * s + j)) 64 := vp_in_nI (by omega) (by omega)
        simp [g1, g2, g3, g6, g7, hin, J, a, b, c, e1, e2, e3]
theorem i_vc_table {k : Nat} {u : SX} {v : SY} (I : i_Rel k u v) (hk : k + 6 ≤ 3072) (v1 : Int32) : wpX_table (fun r => wpY_table (fun r' => r' = r ∧ i_Rel (k + 6) u v) v v1) u v1 := by
  have J := i_up I
  generalize i_Rel (k + 6) u v = P at J ⊢
  obtain ⟨⟨⟨K, R, z⟩, ⟨fAt, n, so, fl, st, h, p, m, M, l⟩, ⟨wi, wo, ql, hc, Q, tx⟩, ⟨f_down, f_typeSeen, yf_payload, yf_wants, yf_name, yf_first, yf_counts, yf_enters, yf_nodes, yf_values, yf_skipped, yf_pos, yf_there, yf_number, yf_at⟩, ⟨a_payload, a_life, a_theyEnded, a_weEnded, a_finishing, a_codes, a_headers, a_entries, a_kinds, a_repeats, a_messageCount⟩, ⟨a_nodeCount, a_nodeTypes, a_valueCount, a_valueOwners, a_values, a_skippedCount, a_reader, a_chainNode, a_chainEnd, a_nodeSize, a_nodePlace⟩, ⟨ya_type, ya_otherEnded, ya_prefix, ya_length, ya_got, ya_high, ya_has, ya_frame, ya_payloads⟩, ⟨ya_table, ya_nodeType, ya_valueNode, ya_valueNumber, ya_value, ya_from, ya_limit, ya_inside, ya_sizes⟩⟩, rfl, rfl, hD, hl, hH, hO, hQ, hX, hS, hq, hT, hK, hF, hM⟩ := I
  dsimp only [cr_x, cr_y]
  unfold wpX_table wpY_table wpY_no
  dsimp only
  obtain ⟨t1, t2, t3⟩ := hT
  by_cases hv : v1 = -1
  · simp [hv, J]
  · rcases lk_ix (x := v1) m (by omega) with a | ⟨a, b, c⟩ | ⟨j, hj, rfl, a, b, c⟩
    · simp [hv, J, a]
    · simp [hv, J, a, b, c]
    · have e3 : vp_in (nI j) 16 := vp_in_nI (by omega) (by omega)
      have e4 : vp_in (nI j) 17 := vp_in_nI (by omega) (by omega)
      have e5 : (nI j).toNatClampNeg = j := nI_clamp (by omega)
      simp [hv, J, a, b, c, e3, e4, e5, (t3 j hj).1]
theorem i_vc_out {k : Nat} {u : SX} {v : SY} (I : i_Rel k u v) (hk : k + 6 ≤ 3072) (v1 : Int32) : wpX_out (fun r => wpY_out (fun r' => r' = r ∧ i_Rel (k + 6) u v) v v1) u v1 := by
  have J := i_up I
  generalize i_Rel (k + 6) u v = P at J ⊢
  obtain ⟨⟨⟨K, R, z⟩, ⟨fAt, n, so, fl, st, h, p, m, M, l⟩, ⟨wi, wo, ql, hc, Q, tx⟩, ⟨f_down, f_typeSeen, yf_payload, yf_wants, yf_name, yf_first, yf_counts, yf_enters, yf_nodes, yf_values, yf_skipped, yf_pos, yf_there, yf_number, yf_at⟩, ⟨a_payload, a_life, a_theyEnded, a_weEnded, a_finishing, a_codes, a_headers, a_entries, a_kinds, a_repeats, a_messageCount⟩, ⟨a_nodeCount, a_nodeTypes, a_valueCount, a_valueOwners, a_values, a_skippedCount, a_reader, a_chainNode, a_chainEnd, a_nodeSize, a_nodePlace⟩, ⟨ya_type, ya_otherEnded, ya_prefix, ya_length, ya_got, ya_high, ya_has, ya_frame, ya_payloads⟩, ⟨ya_table, ya_nodeType, ya_valueNode, ya_valueNumber, ya_value, ya_from, ya_limit, ya_inside, ya_sizes⟩⟩, rfl, rfl, hD, hl, hH, hO, hQ, hX, hS, hq, hT, hK, hF, hM⟩ := I
  dsimp only [cr_x, cr_y]
  unfold wpX_out wpY_out wpY_no
  dsimp only
  obtain ⟨t1, t2⟩ := hO
  by_cases hv : v1 = -1
  · simp [hv, J]
  · rcases lk_ix (x := v1) z.2 (by omega) with a | ⟨a, b, c⟩ | ⟨j, hj, rfl, a, b, c⟩
    · simp [hv, J, a]
    · simp [hv, J, a, b, c]
    · have e3 : vp_in (nI j) 1200 := vp_in_nI (by omega) (by omega)
      have e5 : (nI j).toNatClampNeg = j := nI_clamp (by omega)
      simp [hv, J, a, b, c, e3, e5, an_fa, an_ga, an_255 _ (t2 j)]
theorem i_vc_drain {k : Nat} {u : SX} {v : SY} (I : i_Rel k u v) (hk : k + 6 ≤ 3072) : wpX_drain (fun r u' => wpY_drain (fun r' v' => r' = r ∧ i_Rel (k + 6) u' v') v) u := by
  have J := i_up I
  obtain ⟨⟨⟨K, R, z⟩, ⟨fAt, n, so, fl, st, h, p, m, M, l⟩, ⟨wi, wo, ql, hc, Q, tx⟩, ⟨f_down, f_typeSeen, yf_payload, yf_wants, yf_name, yf_first, yf_counts, yf_enters, yf_nodes, yf_values, yf_skipped, yf_pos, yf_there, yf_number, yf_at⟩, ⟨a_payload, a_life, a_theyEnded, a_weEnded, a_finishing, a_codes, a_headers, a_entries, a_kinds, a_repeats, a_messageCount⟩, ⟨a_nodeCount, a_nodeTypes, a_valueCount, a_valueOwners, a_values, a_skippedCount, a_reader, a_chainNode, a_chainEnd, a_nodeSize, a_nodePlace⟩, ⟨ya_type, ya_otherEnded, ya_prefix, ya_length, ya_got, ya_high, ya_has, ya_frame, ya_payloads⟩, ⟨ya_table, ya_nodeType, ya_valueNode, ya_valueNumber, ya_value, ya_from, ya_limit, ya_inside, ya_sizes⟩⟩, rfl, rfl, hD, hl, hH, hO, hQ, hX, hS, hq, hT, hK, hF, hM⟩ := J
  dsimp only [cr_x, cr_y]
  unfold wpX_drain wpY_drain
  exact ⟨rfl, ((K, R, (z.1, 0)), (fAt, n, so, fl, st, h, p, m, M, l), (wi, wo, ql, hc, Q, tx), (f_down, f_typeSeen, yf_payload, yf_wants, yf_name, yf_first, yf_counts, yf_enters, yf_nodes, yf_values, yf_skipped, yf_pos, yf_there, yf_number, yf_at), (a_payload, a_life, a_theyEnded, a_weEnded, a_finishing, a_codes, a_headers, a_entries, a_kinds, a_repeats, a_messageCount), (a_nodeCount, a_nodeTypes, a_valueCount, a_valueOwners, a_values, a_skippedCount, a_reader, a_chainNode, a_chainEnd, a_nodeSize, a_nodePlace), (ya_type, ya_otherEnded, ya_prefix, ya_length, ya_got, ya_high, ya_has, ya_frame, ya_payloads), (ya_table, ya_nodeType, ya_valueNode, ya_valueNumber, ya_value, ya_from, ya_limit, ya_inside, ya_sizes)), rfl, rfl, hD, hl, hH, ⟨Nat.zero_le _, hO.2⟩, hQ, hX, hS, hq, hT, hK, hF, hM⟩
end
end
section
/-! J: how the reference reads: numbers, skips, places -/
section
variable {yf_down yf_heads yf_paid yf_payload yf_wants yf_name yf_first yf_counts yf_enters yf_most yf_many yf_sent yf_last yf_nodes yf_values yf_skipped yf_pos yf_there yf_number yf_at : Int32} {ya_kind ya_repeated ya_how ya_code ya_coming ya_going ya_type ya_headers ya_header ya_queued ya_otherEnded ya_ended ya_finishing ya_queue ya_prefix ya_length ya_got ya_high ya_whole ya_has ya_bytes ya_frame ya_payloads ya_table ya_out ya_nodeType ya_valueNode ya_valueNumber ya_value ya_from ya_limit ya_inside ya_sizes : Nat → Int32} {s q e T : Nat} {tx B : Nat → Nat}
def yr_c (c : Nat) : Int32 := if c = 9 then -1 else nI c
theorem yr_ix (s i : Nat) : 200 * nI s + nI i = nI (200 * s + i) := by
  rw [show (200 : Int32) = nI 200 from rfl, pk_mul, nI_add]
/-- the bytes of one stream -/
def yr_B (tx : Nat → Nat) (s : Nat) (B : Nat → Nat) : Prop := cr_B tx ∧ (∀ i, B i < 256) ∧ ∀ i, i < 200 → B i = tx (200 * s + i)
theorem yr_by {i : Nat} (hx : yr_B tx s B) (hs : s < 8) (hi : i < 200) : vp_in (200 * nI s + nI i) 1600 ∧ (an_g tx (200 * nI s + nI i).toNatClampNeg) &&& 255 = nI (B i) := by
  rw [yr_ix]
  refine ⟨vp_in_nI (by omega) (by omega), ?_⟩
  rw [nI_clamp (by omega), an_ga, an_255 _ (hx.1 _), hx.2.2 i hi]
theorem yr_var7 (hx : yr_B tx s B) (hs : s < 8) (hT : T ≤ 200) (he : e ≤ 200) {post : Int32 → SY → Prop} : ∀ f k, k + f = 10 → q + k ≤ T →
    (∀ c k', pm_vr B q e T f k = (c, k') → post (yr_c c) (yf_down, yf_heads, yf_paid, yf_payload, yf_wants, yf_name, yf_first, yf_counts, yf_enters, yf_most, yf_many, yf_sent, yf_last, yf_nodes, yf_values, yf_skipped, nI (q + k'), nI T, pm_vs B q k', yf_at, ya_kind, ya_repeated, ya_how, ya_code, ya_coming, ya_going, ya_type, ya_headers, ya_header, ya_queued, ya_otherEnded, ya_ended, ya_finishing, ya_queue, ya_prefix, ya_length, ya_got, ya_high, ya_whole, ya_has, an_g tx, ya_frame, ya_payloads, ya_table, ya_out, ya_nodeType, ya_valueNode, ya_valueNumber, ya_value, ya_from, ya_limit, ya_inside, ya_sizes)) →
    wY_varint_7 post (nI s) (nI e) yf_down yf_heads yf_paid yf_payload yf_wants yf_name yf_first yf_counts yf_enters yf_most yf_many yf_sent yf_last yf_nodes yf_values yf_skipped (nI T) yf_at ya_kind ya_repeated ya_how ya_code ya_coming ya_going ya_type ya_headers ya_header ya_queued ya_otherEnded ya_ended ya_finishing ya_queue ya_prefix ya_length ya_got ya_high ya_whole ya_has (an_g tx) ya_frame ya_payloads ya_table ya_out ya_nodeType ya_valueNode ya_valueNumber ya_value ya_from ya_limit ya_inside ya_sizes (f + 1) (nI k) (nI (q + k)) (pm_vs B q k)
  | 0, k, hk, hq, H => by
    have : k = 10 := by omega
    subst this
    rw [wY_varint_7]
    exact br_t (by decide) (H 3 10 rfl)
  | f + 1, k, hk, hq, H => by
    rw [wY_varint_7]
    refine pk_le 10 k (fun g => absurd g (by omega)) (fun g => ?_)
    refine pk_eq (q + k) e (fun g1 => H 4 k (by rw [pm_vr, if_pos g1])) (fun g1 => ?_)
    refine pk_eq (q + k) T (fun g2 => H 9 k (by rw [pm_vr, if_neg g1, if_pos g2])) (fun g2 => ?_)
    obtain ⟨b1, b2⟩ := yr_by (i := q + k) hx hs (by omega)
    have hb := hx.2.1 (q + k)
    refine nm_r (nI_1 _) ⟨b1, nm_r b2 ?_⟩
    have hv : ∀ (fn : Int32), fn = pm_vs B q (k + 1) →
        wY_varint_88 post (wY_varint_7 post (nI s) (nI e) yf_down yf_heads yf_paid yf_payload yf_wants yf_name yf_first yf_counts yf_enters yf_most yf_many yf_sent yf_last yf_nodes yf_values yf_skipped (nI T) yf_at ya_kind ya_repeated ya_how ya_code ya_coming ya_going ya_type ya_headers ya_header ya_queued ya_otherEnded ya_ended ya_finishing ya_queue ya_prefix ya_length ya_got ya_high ya_whole ya_has (an_g tx) ya_frame ya_payloads ya_table ya_out ya_nodeType ya_valueNode ya_valueNumber ya_value ya_from ya_limit ya_inside ya_sizes (f + 1)) (nI s) (nI e) (nI k) (nI (B (q + k)))
          yf_down yf_heads yf_paid yf_payload yf_wants yf_name yf_first yf_counts yf_enters yf_most yf_many yf_sent yf_last yf_nodes yf_values yf_skipped (nI (q + k + 1)) (nI T) (fn) yf_at ya_kind ya_repeated ya_how ya_code ya_coming ya_going ya_type ya_headers ya_header ya_queued ya_otherEnded ya_ended ya_finishing ya_queue ya_prefix ya_length ya_got ya_high ya_whole ya_has (an_g tx) ya_frame ya_payloads ya_table ya_out ya_nodeType ya_valueNode ya_valueNumber ya_value ya_from ya_limit ya_inside ya_sizes := by
      intro fn hfn
      subst hfn
      unfold wY_varint_88
      refine pk_le 128 (B (q + k)) (fun g3 => ?_) (fun g3 => ?_)
      · refine nm_r (nI_1 _) ?_
        exact yr_var7 hx hs hT he f (k + 1) (by omega) (by omega) (fun c k' h => H c k' (by
          rw [pm_vr, if_neg g1, if_neg g2, if_neg (by show ¬ B (q + k) < 128; omega)]; exact h))
      · exact H 0 (k + 1) (by
          rw [pm_vr, if_neg g1, if_neg g2, if_pos (show B (q + k) < 128 from g3)])
    refine pk_le 5 k (fun g3 => hv _ ?_) (fun g3 => nm_r ?_ (hv _ rfl))
    · rw [pm_vs, if_neg (by omega)]
    · rw [pm_vs, if_pos g3]
theorem yr_var (hx : yr_B tx s B) (hs : s < 8) (hT : T ≤ 200) (he : e ≤ 200) (hq : q ≤ T) {post : Int32 → SY → Prop}
    (H : ∀ c k', pm_vr B q e T 10 0 = (c, k') → post (yr_c c) (yf_down, yf_heads, yf_paid, yf_payload, yf_wants, yf_name, yf_first, yf_counts, yf_enters, yf_most, yf_many, yf_sent, yf_last, yf_nodes, yf_values, yf_skipped, nI (q + k'), nI T, pm_vs B q k', yf_at, ya_kind, ya_repeated, ya_how, ya_code, ya_coming, ya_going, ya_type, ya_headers, ya_header, ya_queued, ya_otherEnded, ya_ended, ya_finishing, ya_queue, ya_prefix, ya_length, ya_got, ya_high, ya_whole, ya_has, an_g tx, ya_frame, ya_payloads, ya_table, ya_out, ya_nodeType, ya_valueNode, ya_valueNumber, ya_value, ya_from, ya_limit, ya_inside, ya_sizes)) :
    wpY_varint post (yf_down, yf_heads, yf_paid, yf_payload, yf_wants, yf_name, yf_first, yf_counts, yf_enters, yf_most, yf_many, yf_sent, yf_last, yf_nodes, yf_values, yf_skipped, nI q, nI T, yf_number, yf_at, ya_kind, ya_repeated, ya_how, ya_code, ya_coming, ya_going, ya_type, ya_headers, ya_header, ya_queued, ya_otherEnded, ya_ended, ya_finishing, ya_queue, ya_prefix, ya_length, ya_got, ya_high, ya_whole, ya_has, an_g tx, ya_frame, ya_payloads, ya_table, ya_out, ya_nodeType, ya_valueNode, ya_valueNumber, ya_value, ya_from, ya_limit, ya_inside, ya_sizes) (nI s) (nI e) := by
  unfold wpY_varint
  exact ⟨11, yr_var7 hx hs hT he 10 0 rfl hq H⟩
theorem yr_skip {n : Nat} (he : e ≤ 200) (hT : T ≤ 200) (hq : q ≤ T) (hqe : q ≤ e) (hn : n < 2 ^ 31) {post : Int32 → SY → Prop}
    (H1 : e < q + n → T < e → post (-1) (yf_down, yf_heads, yf_paid, yf_payload, yf_wants, yf_name, yf_first, yf_counts, yf_enters, yf_most, yf_many, yf_sent, yf_last, yf_nodes, yf_values, yf_skipped, nI q, nI T, yf_number, yf_at, ya_kind, ya_repeated, ya_how, ya_code, ya_coming, ya_going, ya_type, ya_headers, ya_header, ya_queued, ya_otherEnded, ya_ended, ya_finishing, ya_queue, ya_prefix, ya_length, ya_got, ya_high, ya_whole, ya_has, ya_bytes, ya_frame, ya_payloads, ya_table, ya_out, ya_nodeType, ya_valueNode, ya_valueNumber, ya_value, ya_from, ya_limit, ya_inside, ya_sizes)) (H2 : e < q + n → e ≤ T → post 4 (yf_down, yf_heads, yf_paid, yf_payload, yf_wants, yf_name, yf_first, yf_counts, yf_enters, yf_most, yf_many, yf_sent, yf_last, yf_nodes, yf_values, yf_skipped, nI q, nI T, yf_number, yf_at, ya_kind, ya_repeated, ya_how, ya_code, ya_coming, ya_going, ya_type, ya_headers, ya_header, ya_queued, ya_otherEnded, ya_ended, ya_finishing, ya_queue, ya_prefix, ya_length, ya_got, ya_high, ya_whole, ya_has, ya_bytes, ya_frame, ya_payloads, ya_table, ya_out, ya_nodeType, ya_valueNode, ya_valueNumber, ya_value, ya_from, ya_limit, ya_inside, ya_sizes))
    (H3 : q + n ≤ e → T < q + n → post (-1) (yf_down, yf_heads, yf_paid, yf_payload, yf_wants, yf_name, yf_first, yf_counts, yf_enters, yf_most, yf_many, yf_sent, yf_last, yf_nodes, yf_values, yf_skipped, nI q, nI T, yf_number, yf_at, ya_kind, ya_repeated, ya_how, ya_code, ya_coming, ya_going, ya_type, ya_headers, ya_header, ya_queued, ya_otherEnded, ya_ended, ya_finishing, ya_queue, ya_prefix, ya_length, ya_got, ya_high, ya_whole, ya_has, ya_bytes, ya_frame, ya_payloads, ya_table, ya_out, ya_nodeType, ya_valueNode, ya_valueNumber, ya_value, ya_from, ya_limit, ya_inside, ya_sizes)) (H4 : q + n ≤ e → q + n ≤ T → post 0 (yf_down, yf_heads, yf_paid, yf_payload, yf_wants, yf_name, yf_first, yf_counts, yf_enters, yf_most, yf_many, yf_sent, yf_last, yf_nodes, yf_values, yf_skipped, nI (q + n), nI T, yf_number, yf_at, ya_kind, ya_repeated, ya_how, ya_code, ya_coming, ya_going, ya_type, ya_headers, ya_header, ya_queued, ya_otherEnded, ya_ended, ya_finishing, ya_queue, ya_prefix, ya_length, ya_got, ya_high, ya_whole, ya_has, ya_bytes, ya_frame, ya_payloads, ya_table, ya_out, ya_nodeType, ya_valueNode, ya_valueNumber, ya_value, ya_from, ya_limit, ya_inside, ya_sizes)) :
    wpY_skip post (yf_down, yf_heads, yf_paid, yf_payload, yf_wants, yf_name, yf_first, yf_counts, yf_enters, yf_most, yf_many, yf_sent, yf_last, yf_nodes, yf_values, yf_skipped, nI q, nI T, yf_number, yf_at, ya_kind, ya_repeated, ya_how, ya_code, ya_coming, ya_going, ya_type, ya_headers, ya_header, ya_queued, ya_otherEnded, ya_ended, ya_finishing, ya_queue, ya_prefix, ya_length, ya_got, ya_high, ya_whole, ya_has, ya_bytes, ya_frame, ya_payloads, ya_table, ya_out, ya_nodeType, ya_valueNode, ya_valueNumber, ya_value, ya_from, ya_limit, ya_inside, ya_sizes) (nI n) (nI e) := by
  unfold wpY_skip
  refine pk_le n (e - q) (fun g => ?_) (fun g => ?_) rfl (pk_sub hqe)
  · refine pk_le n (T - q) (fun g2 => ?_) (fun g2 => ?_) rfl (pk_sub hq)
    · exact nm_r (nI_add _ _) (H4 (by omega) (by omega))
    · exact H3 (by omega) (by omega)
  · refine pk_lt T e (fun g2 => ?_) (fun g2 => ?_)
    · exact H1 (by omega) g2
    · exact H2 (by omega) g2

/-- the reference's arrays, as far as a reading has filled them -/
def yr_D (D : pm_D) (nt vn vm va fr : Nat → Int32) : Prop :=
  (∀ i, i < pm_nn D → nt i = nI (pm_nt D i)) ∧ (∀ j, j < pm_nv D → vn j = nI (pm_vn D j) ∧ vm j = nI (pm_vm D j) ∧ va j = pm_va D j ∧ fr j = nI (pm_fr D j))
theorem yr_find2 {D : pm_D} {a n : Nat} (hD : yr_D D ya_nodeType ya_valueNode ya_valueNumber ya_value ya_from) (hv : pm_nv D ≤ 48)
    (hb : ∀ j, j < pm_nv D → pm_vn D j < 2 ^ 31 ∧ pm_vm D j < 2 ^ 31) (ha : a < 2 ^ 31) (hn : n < 2 ^ 31) {post : Int32 → Prop} : ∀ f i, i + f = pm_nv D →
    (post (if pm_fi (pm_vn D) (pm_vm D) a n f i < pm_nv D then nI (pm_fi (pm_vn D) (pm_vm D) a n f i) else -1)) →
    wY_find_2 post (nI a) (nI n) yf_down yf_heads yf_paid yf_payload yf_wants yf_name yf_first yf_counts yf_enters yf_most yf_many yf_sent yf_last yf_nodes (nI (pm_nv D)) yf_skipped yf_pos yf_there yf_number yf_at ya_kind ya_repeated ya_how ya_code ya_coming ya_going ya_type ya_headers ya_header ya_queued ya_otherEnded ya_ended ya_finishing ya_queue ya_prefix ya_length ya_got ya_high ya_whole ya_has ya_bytes ya_frame ya_payloads ya_table ya_out ya_nodeType ya_valueNode ya_valueNumber ya_value ya_from ya_limit ya_inside ya_sizes (f + 1) (nI i)
  | 0, i, hi, H => by
    rw [wY_find_2]
    rw [pm_fi, if_neg (by omega)] at H
    exact pk_le (pm_nv D) i (fun _ => H) (fun g => absurd g (by omega))
  | f + 1, i, hi, H => by
    rw [wY_find_2]
    refine pk_le (pm_nv D) i (fun g => absurd g (by omega)) (fun g => ⟨vp_in_nI (by omega) (by omega), ?_⟩)
    obtain ⟨e1, e2, _, _⟩ := hD.2 i g
    obtain ⟨b1, b2⟩ := hb i g
    rw [nI_clamp (by omega), e1, e2]
    rw [pm_fi] at H
    refine pk_eq (pm_vn D i) a (fun g1 => ⟨vp_in_nI (by omega) (by omega), ?_⟩) (fun g1 => ?_)
    · refine pk_eq (pm_vm D i) n (fun g2 => ?_) (fun g2 => ?_)
      · rw [if_pos (show pm_vn D i = a ∧ pm_vm D i = n from ⟨g1, g2⟩), if_pos g] at H; exact H
      · rw [if_neg (show ¬ (pm_vn D i = a ∧ pm_vm D i = n) from fun y => g2 y.2)] at H
        exact nm_r (nI_1 _) (yr_find2 hD hv hb ha hn f (i + 1) (by omega) H)
    · rw [if_neg (show ¬ (pm_vn D i = a ∧ pm_vm D i = n) from fun y => g1 y.1)] at H
      exact nm_r (nI_1 _) (yr_find2 hD hv hb ha hn f (i + 1) (by omega) H)
theorem yr_find {D : pm_D} {a n : Nat} (hD : yr_D D ya_nodeType ya_valueNode ya_valueNumber ya_value ya_from) (hv : pm_nv D ≤ 48)
    (hb : ∀ j, j < pm_nv D → pm_vn D j < 2 ^ 31 ∧ pm_vm D j < 2 ^ 31) (ha : a < 2 ^ 31) (hn : n < 2 ^ 31) {post : Int32 → Prop}
    (H : post (if pm_ix D a n < pm_nv D then nI (pm_ix D a n) else -1)) : wpY_find post (yf_down, yf_heads, yf_paid, yf_payload, yf_wants, yf_name, yf_first, yf_counts, yf_enters, yf_most, yf_many, yf_sent, yf_last, yf_nodes, nI (pm_nv D), yf_skipped, yf_pos, yf_there, yf_number, yf_at, ya_kind, ya_repeated, ya_how, ya_code, ya_coming, ya_going, ya_type, ya_headers, ya_header, ya_queued, ya_otherEnded, ya_ended, ya_finishing, ya_queue, ya_prefix, ya_length, ya_got, ya_high, ya_whole, ya_has, ya_bytes, ya_frame, ya_payloads, ya_table, ya_out, ya_nodeType, ya_valueNode, ya_valueNumber, ya_value, ya_from, ya_limit, ya_inside, ya_sizes) (nI a) (nI n) := by
  unfold wpY_find
  exact ⟨pm_nv D + 1, yr_find2 hD hv hb ha hn (pm_nv D) 0 (by omega) H⟩
end
section
variable {yf_down yf_heads yf_paid yf_payload yf_wants yf_name yf_first yf_counts yf_enters yf_most yf_many yf_sent yf_last yf_nodes yf_values yf_skipped yf_pos yf_there yf_number yf_at : Int32} {ya_kind ya_repeated ya_how ya_code ya_coming ya_going ya_type ya_headers ya_header ya_queued ya_otherEnded ya_ended ya_finishing ya_queue ya_prefix ya_length ya_got ya_high ya_whole ya_has ya_bytes ya_frame ya_payloads ya_table ya_out ya_nodeType ya_valueNode ya_valueNumber ya_value ya_from ya_limit ya_inside ya_sizes : Nat → Int32} {s q e T : Nat} {tx B : Nat → Nat} {K : Nat → Nat} {R : Nat → Bool} {L : Nat} {dep : Nat → Nat}
theorem yr_D_kp {D : pm_D} {a n st : Nat} {v : Int32} (h : yr_D D ya_nodeType ya_valueNode ya_valueNumber ya_value ya_from) :
    yr_D (pm_kp R D a n v st) ya_nodeType (upd ya_valueNode (pm_pl R D a n) (nI a)) (upd ya_valueNumber (pm_pl R D a n) (nI n)) (upd ya_value (pm_pl R D a n) v) (upd ya_from (pm_pl R D a n) (nI st)) := by
  have hle := pm_pl_le (R := R) (D := D) a n
  refine ⟨h.1, fun j hj => ?_⟩
  simp only [pm_kp_nn, pm_kp_nt, pm_kp_nv, pm_kp_vn, pm_kp_vm, pm_kp_fr, pm_kp_va] at hj ⊢
  generalize pm_pl R D a n = k at hj hle ⊢
  by_cases g : j = k
  · subst g
    simp only [pm_upd_eq, pm_us, if_pos]
    exact ⟨trivial, trivial, trivial, trivial⟩
  · have := h.2 j (by split at hj <;> omega)
    simp only [pm_upd_eq, if_neg g, pm_un g]
    exact this
/-- bounds of what a reading keeps -/
theorem yr_DB {D : pm_D} (I : pm_DI K L dep D) : ∀ j, j < pm_nv D → pm_vn D j < 2 ^ 31 ∧ pm_vm D j < 2 ^ 31 := by
  intro j hj
  obtain ⟨v1, v2, v3, _⟩ := I.2.2.2.2.2.1 j hj
  have := I.2.1
  exact ⟨by omega, by omega⟩
theorem yr_keep {D : pm_D} {b a n st : Nat} {v : Int32} (I : pm_DI K L dep D) (hD : yr_D D ya_nodeType ya_valueNode ya_valueNumber ya_value ya_from) (hK : cr_K ya_kind ya_repeated K R)
    (hb : b < 5) (ha : ya_inside b = nI a) (ha' : a < pm_nn D) (hn : 1 ≤ n) (hn' : n ≤ 15) {post : Int32 → SY → Prop}
    (H5 : pm_pl R D a n = 48 → post 5 (yf_down, yf_heads, yf_paid, yf_payload, yf_wants, yf_name, yf_first, yf_counts, yf_enters, yf_most, yf_many, yf_sent, yf_last, yf_nodes, nI (pm_nv D), yf_skipped, yf_pos, yf_there, yf_number, nI b, ya_kind, ya_repeated, ya_how, ya_code, ya_coming, ya_going, ya_type, ya_headers, ya_header, ya_queued, ya_otherEnded, ya_ended, ya_finishing, ya_queue, ya_prefix, ya_length, ya_got, ya_high, ya_whole, ya_has, ya_bytes, ya_frame, ya_payloads, ya_table, ya_out, ya_nodeType, ya_valueNode, ya_valueNumber, ya_value, ya_from, ya_limit, ya_inside, ya_sizes))
    (H0 : pm_pl R D a n ≠ 48 → post 0 (yf_down, yf_heads, yf_paid, yf_payload, yf_wants, yf_name, yf_first, yf_counts, yf_enters, yf_most, yf_many, yf_sent, yf_last, yf_nodes, nI (pm_nv (pm_kp R D a n v st)), yf_skipped, yf_pos, yf_there, yf_number, nI b, ya_kind, ya_repeated, ya_how, ya_code, ya_coming, ya_going, ya_type, ya_headers, ya_header, ya_queued, ya_otherEnded, ya_ended, ya_finishing, ya_queue, ya_prefix, ya_length, ya_got, ya_high, ya_whole, ya_has, ya_bytes, ya_frame, ya_payloads, ya_table, ya_out, ya_nodeType, upd ya_valueNode (pm_pl R D a n) (nI a), upd ya_valueNumber (pm_pl R D a n) (nI n), upd ya_value (pm_pl R D a n) v, upd ya_from (pm_pl R D a n) (nI st), ya_limit, ya_inside, ya_sizes)) :
    wpY_keep post (yf_down, yf_heads, yf_paid, yf_payload, yf_wants, yf_name, yf_first, yf_counts, yf_enters, yf_most, yf_many, yf_sent, yf_last, yf_nodes, nI (pm_nv D), yf_skipped, yf_pos, yf_there, yf_number, nI b, ya_kind, ya_repeated, ya_how, ya_code, ya_coming, ya_going, ya_type, ya_headers, ya_header, ya_queued, ya_otherEnded, ya_ended, ya_finishing, ya_queue, ya_prefix, ya_length, ya_got, ya_high, ya_whole, ya_has, ya_bytes, ya_frame, ya_payloads, ya_table, ya_out, ya_nodeType, ya_valueNode, ya_valueNumber, ya_value, ya_from, ya_limit, ya_inside, ya_sizes) (nI n) v (nI st) := by
  unfold wpY_keep
  have hnv := I.2.2.1
  have hnn := I.2.1
  have hty := (I.2.2.2.2.1 a ha').1
  have hle := pm_pl_le (R := R) (D := D) a n
  have ej : 16 * nI (pm_nt D a) + nI n = nI (16 * pm_nt D a + n) := by
    rw [show (16 : Int32) = nI 16 from rfl, pk_mul, nI_add]
  have hR := hK.2.2 (16 * pm_nt D a + n) (by omega)
  have h81 : ∀ (zz : Int32), pm_pl R D a n < 48 → zz = nI (pm_pl R D a n) → wY_keep_81 post (nI n) v (nI st) (nI a) zz yf_down yf_heads yf_paid yf_payload yf_wants yf_name yf_first yf_counts yf_enters yf_most yf_many yf_sent yf_last yf_nodes (nI (pm_nv (pm_kp R D a n v st))) yf_skipped yf_pos yf_there yf_number (nI b) ya_kind ya_repeated ya_how ya_code ya_coming ya_going ya_type ya_headers ya_header ya_queued ya_otherEnded ya_ended ya_finishing ya_queue ya_prefix ya_length ya_got ya_high ya_whole ya_has ya_bytes ya_frame ya_payloads ya_table ya_out ya_nodeType ya_valueNode ya_valueNumber ya_value ya_from ya_limit ya_inside ya_sizes := by
    intro zz h48 hz
    subst hz
    unfold wY_keep_81
    have hi : vp_in (nI (pm_pl R D a n)) 48 := vp_in_nI h48 (by omega)
    have hc : (nI (pm_pl R D a n)).toNatClampNeg = pm_pl R D a n := nI_clamp (by omega)
    rw [hc]
    exact ⟨hi, nm_e ⟨hi, nm_e ⟨hi, nm_e ⟨hi, nm_e (H0 (by omega))⟩⟩⟩⟩
  have h60 : pm_pl R D a n = pm_nv D → pm_nv D ≠ 48 → wY_keep_60 post (nI n) v (nI st) (nI a) (-1) yf_down yf_heads yf_paid yf_payload yf_wants yf_name yf_first yf_counts yf_enters yf_most yf_many yf_sent yf_last yf_nodes (nI (pm_nv D)) yf_skipped yf_pos yf_there yf_number (nI b) ya_kind ya_repeated ya_how ya_code ya_coming ya_going ya_type ya_headers ya_header ya_queued ya_otherEnded ya_ended ya_finishing ya_queue ya_prefix ya_length ya_got ya_high ya_whole ya_has ya_bytes ya_frame ya_payloads ya_table ya_out ya_nodeType ya_valueNode ya_valueNumber ya_value ya_from ya_limit ya_inside ya_sizes := by
    intro h1 h2
    unfold wY_keep_60
    refine br_f (by decide) (nm_r (e' := nI (pm_nv (pm_kp R D a n v st))) ?_ (h81 _ (by omega) (by rw [h1])))
    rw [nI_1]
    simp only [pm_kp_nn, pm_kp_nt, pm_kp_nv, pm_kp_vn, pm_kp_vm, pm_kp_fr, pm_kp_va]
    rw [if_pos h1]
  have h42 : pm_pl R D a n = pm_nv D → wY_keep_42 post (nI n) v (nI st) (nI a) (-1) yf_down yf_heads yf_paid yf_payload yf_wants yf_name yf_first yf_counts yf_enters yf_most yf_many yf_sent yf_last yf_nodes (nI (pm_nv D)) yf_skipped yf_pos yf_there yf_number (nI b) ya_kind ya_repeated ya_how ya_code ya_coming ya_going ya_type ya_headers ya_header ya_queued ya_otherEnded ya_ended ya_finishing ya_queue ya_prefix ya_length ya_got ya_high ya_whole ya_has ya_bytes ya_frame ya_payloads ya_table ya_out ya_nodeType ya_valueNode ya_valueNumber ya_value ya_from ya_limit ya_inside ya_sizes := by
    intro h1
    unfold wY_keep_42
    refine br_f (by decide) (pk_eq (pm_nv D) 48 (fun g => H5 (by omega)) (fun g => h60 h1 g))
  refine ⟨vp_in_nI hb (by omega), nm_r (by rw [nI_clamp (by omega), ha]) ⟨vp_in_nI (by omega) (by omega), ?_⟩⟩
  rw [nI_clamp (by omega), hD.1 a ha', ej, nI_clamp (by omega), hR]
  refine ⟨vp_in_nI (by omega) (by omega), ?_⟩
  by_cases hr : R (16 * pm_nt D a + n) = true
  · rw [if_pos hr]
    refine br_f (by decide) (h42 ?_)
    unfold pm_pl; rw [if_pos hr]
  · rw [if_neg hr]
    refine br_t rfl (yr_find hD hnv (yr_DB I) (by omega) (by omega) ?_)
    have epl : pm_pl R D a n = pm_ix D a n := by
      unfold pm_pl; rw [if_neg hr]
    rw [epl] at h81 h60 h42 hle
    by_cases g : pm_ix D a n < pm_nv D
    · rw [if_pos g]
      have h0 : (0 : Int32) ≤ nI (pm_ix D a n) := nI_pos' (by omega)
      unfold wY_keep_42
      refine br_t h0 ?_
      unfold wY_keep_60
      refine br_t h0 ?_
      have := h81 _ (by omega) rfl
      have e2 : pm_nv (pm_kp R D a n v st) = pm_nv D := by
        simp only [pm_kp_nn, pm_kp_nt, pm_kp_nv, pm_kp_vn, pm_kp_vm, pm_kp_fr, pm_kp_va]
        rw [epl, if_neg (by omega)]
      rw [e2] at this
      exact this
    · rw [if_neg g]
      exact h42 (by omega)
end
end
section
/-! K: how the reference reads an element -/
section
/-- nodes, values, skipped, pos, number, at, and the arrays of a reading -/
abbrev yr_Z : Type := Int32 × Int32 × Int32 × Int32 × Int32 × Int32 × (Nat → Int32) × (Nat → Int32) × (Nat → Int32) × (Nat → Int32) × (Nat → Int32) × (Nat → Int32) × (Nat → Int32)
def yr_ok (c : pm_C) (q : Nat) (z : yr_Z) : Prop :=
  z.1 = nI (pm_nn (pm_d c)) ∧ z.2.1 = nI (pm_nv (pm_d c)) ∧ z.2.2.1 = nI (pm_sk c) ∧ z.2.2.2.1 = nI q ∧ z.2.2.2.2.2.1 = nI (pm_at c) ∧
  yr_D (pm_d c) z.2.2.2.2.2.2.1 z.2.2.2.2.2.2.2.1 z.2.2.2.2.2.2.2.2.1 z.2.2.2.2.2.2.2.2.2.1 z.2.2.2.2.2.2.2.2.2.2.1 ∧
  (∀ i, i ≤ pm_at c → z.2.2.2.2.2.2.2.2.2.2.2.1 i = nI (pm_lim c i) ∧ z.2.2.2.2.2.2.2.2.2.2.2.2 i = nI (pm_ins c i))
theorem yr_bt {x i : Nat} (hx : x < 256) (hi : 8 ≤ i) : bt (nI x) i = false := by
  unfold bt
  show (BitVec.ofNat 32 x).getLsbD i = false
  rw [BitVec.getLsbD_ofNat, Nat.testBit_lt_two_pow (Nat.lt_of_lt_of_le hx (by have := Nat.pow_le_pow_right (show 0 < 2 by omega) hi; omega))]
  simp
theorem yr_fs {B : Nat → Nat} {q : Nat} (hB : ∀ i, B i < 256) :
    ((((((((0 : Int32) <<< ((8 : Int32) &&& 31)) ||| nI (B (q + 3))) <<< ((8 : Int32) &&& 31)) ||| nI (B (q + 2))) <<< ((8 : Int32) &&& 31)) ||| nI (B (q + 1))) <<< ((8 : Int32) &&& 31)) ||| nI (B (q + 0)) = pm_fs B q 4 := by
  have e : pm_fs B q 4 = (((0 ||| (nI (B (q + 0)) <<< (nI 0 &&& 31))) ||| (nI (B (q + 1)) <<< (nI 8 &&& 31))) ||| (nI (B (q + 2)) <<< (nI 16 &&& 31))) ||| (nI (B (q + 3)) <<< (nI 24 &&& 31)) := rfl
  rw [e]
  apply b_ext
  intro i hi
  have h0 : ∀ j, 8 ≤ j → bt (nI (B (q + 0))) j = false := fun j hj => yr_bt (hB _) hj
  have h1 : ∀ j, 8 ≤ j → bt (nI (B (q + 1))) j = false := fun j hj => yr_bt (hB _) hj
  have h2 : ∀ j, 8 ≤ j → bt (nI (B (q + 2))) j = false := fun j hj => yr_bt (hB _) hj
  have h3 : ∀ j, 8 ≤ j → bt (nI (B (q + 3))) j = false := fun j hj => yr_bt (hB _) hj
  generalize nI (B (q + 0)) = b0 at *
  generalize nI (B (q + 1)) = b1 at *
  generalize nI (B (q + 2)) = b2 at *
  generalize nI (B (q + 3)) = b3 at *
  rw [b_or, b_or, b_or, b_or, b_or, b_shl 24 (by omega) _ hi, b_shl 16 (by omega) _ hi, b_shl 8 (by omega) _ hi, b_shl 0 (by omega) _ hi, b_shl8 _ hi]
  rw [b_or, b_0, b_shl8 _ (show i - 8 < 32 by omega), b_or, b_shl8 _ (show i - 8 - 8 < 32 by omega), b_or, b_shl8 _ (show i - 8 - 8 - 8 < 32 by omega), b_0]
  have d : ∀ (p : Prop) [Decidable p], p → decide p = true := fun p _ h => by simp [h]
  have f : ∀ (p : Prop) [Decidable p], ¬ p → decide p = false := fun p _ h => by simp [h]
  by_cases g1 : i < 8
  · rw [f (8 ≤ i) (by omega), f (16 ≤ i) (by omega), f (24 ≤ i) (by omega), d (0 ≤ i) (by omega)]; simp
  by_cases g2 : i < 16
  · rw [d (8 ≤ i) (by omega), f (16 ≤ i) (by omega), f (24 ≤ i) (by omega), d (0 ≤ i) (by omega), f (8 ≤ i - 8) (by omega), h0 i (by omega), h0 (i - 0) (by omega)]; simp
  by_cases g3 : i < 24
  · rw [d (8 ≤ i) (by omega), d (16 ≤ i) (by omega), f (24 ≤ i) (by omega), d (0 ≤ i) (by omega), d (8 ≤ i - 8) (by omega), f (8 ≤ i - 8 - 8) (by omega), h0 i (by omega), h0 (i - 0) (by omega), h1 (i - 8) (by omega)]
    simp [show i - 8 - 8 = i - 16 by omega]
  · rw [d (8 ≤ i) (by omega), d (16 ≤ i) (by omega), d (24 ≤ i) (by omega), d (0 ≤ i) (by omega), d (8 ≤ i - 8) (by omega), d (8 ≤ i - 8 - 8) (by omega), h0 i (by omega), h0 (i - 0) (by omega), h1 (i - 8) (by omega), h2 (i - 8 - 8) (by omega), h2 (i - 16) (by omega)]
    simp [show i - 8 - 8 - 8 = i - 24 by omega]
theorem yr_k : ∀ k, k ≤ 8 → (nI k + (-1) = 2 ↔ k = 3) ∧ (nI k + (-1) = 1 ↔ k = 2) ∧ (nI k + (-1) < 0 ↔ k = 0) ∧ (3 ≤ nI k + (-1) ↔ 4 ≤ k) ∧ (nI k + (-1) ≤ 3 ↔ k ≤ 4) ∧ (nI k + (-1) = 3 ↔ k = 4) ∧ (4 < k → nI k + (-1) - 4 = nI (k - 5)) := by
  decide +kernel

theorem yr_ne : ∀ x, x ≤ 9 → x ≠ 0 → ¬ yr_c x = 0 := by
  unfold yr_c
  decide +kernel
theorem pm_vr_lt {B : Nat → Nat} {p e T : Nat} : ∀ f k, (pm_vr B p e T f k).1 ≤ 9
  | 0, k => by show 3 ≤ 9; omega
  | f + 1, k => by
    rw [pm_vr]
    split
    · show 4 ≤ 9; omega
    split
    · show 9 ≤ 9; omega
    split
    · show 0 ≤ 9; omega
    · exact pm_vr_lt f (k + 1)
variable {yf_down yf_heads yf_paid yf_payload yf_wants yf_name yf_first yf_counts yf_enters yf_most yf_many yf_sent yf_last yf_nodes yf_values yf_skipped yf_pos yf_there yf_number yf_at : Int32} {ya_kind ya_repeated ya_how ya_code ya_coming ya_going ya_type ya_headers ya_header ya_queued ya_otherEnded ya_ended ya_finishing ya_queue ya_prefix ya_length ya_got ya_high ya_whole ya_has ya_bytes ya_frame ya_payloads ya_table ya_out ya_nodeType ya_valueNode ya_valueNumber ya_value ya_from ya_limit ya_inside ya_sizes : Nat → Int32} {s q e T : Nat} {tx B : Nat → Nat} {K : Nat → Nat} {R : Nat → Bool} {L : Nat} {dep : Nat → Nat} {c : pm_C} {z : yr_Z}
theorem pm_end_le (I : pm_CI K R L dep c) : pm_end c ≤ L := by
  have h := pm_lim_le I (pm_at c) (Nat.le_refl _)
  unfold pm_end
  split
  · exact h
  · rename_i g
    exact Nat.le_trans (I.2.2.2.2.2.2.2 g).1 h
/-- a value is kept, at the end of an element -/
theorem yr_kept {n p : Nat} {g : Nat × pm_C} {v : Int32} {st : Nat} {x5 : Int32} {a1 a2 a3 a4 a5 a6 a7 : Nat → Int32} (I : pm_CI K R L dep c) (hK : cr_K ya_kind ya_repeated K R)
    (rD : yr_D (pm_d c) a1 a2 a3 a4 a5) (rA : ∀ i, i ≤ pm_at c → a6 i = nI (pm_lim c i) ∧ a7 i = nI (pm_ins c i))
    (hn : 1 ≤ n) (hn' : n ≤ 15) (hg : g = pm_fin R c n p v st) {post : Int32 → SY → Prop}
    (H0 : ∀ c' (z' : yr_Z), g = (0, c') → yr_ok c' (pm_pos c') z' → post 0 (yf_down, yf_heads, yf_paid, yf_payload, yf_wants, yf_name, yf_first, yf_counts, yf_enters, yf_most, yf_many, yf_sent, yf_last, z'.1, z'.2.1, z'.2.2.1, z'.2.2.2.1, nI T, z'.2.2.2.2.1, z'.2.2.2.2.2.1, ya_kind, ya_repeated, ya_how, ya_code, ya_coming, ya_going, ya_type, ya_headers, ya_header, ya_queued, ya_otherEnded, ya_ended, ya_finishing, ya_queue, ya_prefix, ya_length, ya_got, ya_high, ya_whole, ya_has, an_g tx, ya_frame, ya_payloads, ya_table, ya_out, z'.2.2.2.2.2.2.1, z'.2.2.2.2.2.2.2.1, z'.2.2.2.2.2.2.2.2.1, z'.2.2.2.2.2.2.2.2.2.1, z'.2.2.2.2.2.2.2.2.2.2.1, z'.2.2.2.2.2.2.2.2.2.2.2.1, z'.2.2.2.2.2.2.2.2.2.2.2.2, ya_sizes)) (HE : ∀ x (z' : yr_Z), g.1 = x → x ≠ 0 → post (yr_c x) (yf_down, yf_heads, yf_paid, yf_payload, yf_wants, yf_name, yf_first, yf_counts, yf_enters, yf_most, yf_many, yf_sent, yf_last, z'.1, z'.2.1, z'.2.2.1, z'.2.2.2.1, nI T, z'.2.2.2.2.1, z'.2.2.2.2.2.1, ya_kind, ya_repeated, ya_how, ya_code, ya_coming, ya_going, ya_type, ya_headers, ya_header, ya_queued, ya_otherEnded, ya_ended, ya_finishing, ya_queue, ya_prefix, ya_length, ya_got, ya_high, ya_whole, ya_has, an_g tx, ya_frame, ya_payloads, ya_table, ya_out, z'.2.2.2.2.2.2.1, z'.2.2.2.2.2.2.2.1, z'.2.2.2.2.2.2.2.2.1, z'.2.2.2.2.2.2.2.2.2.1, z'.2.2.2.2.2.2.2.2.2.2.1, z'.2.2.2.2.2.2.2.2.2.2.2.1, z'.2.2.2.2.2.2.2.2.2.2.2.2, ya_sizes)) :
    wpY_keep post (yf_down, yf_heads, yf_paid, yf_payload, yf_wants, yf_name, yf_first, yf_counts, yf_enters, yf_most, yf_many, yf_sent, yf_last, nI (pm_nn (pm_d c)), nI (pm_nv (pm_d c)), nI (pm_sk c), nI p, nI T, x5, nI (pm_at c), ya_kind, ya_repeated, ya_how, ya_code, ya_coming, ya_going, ya_type, ya_headers, ya_header, ya_queued, ya_otherEnded, ya_ended, ya_finishing, ya_queue, ya_prefix, ya_length, ya_got, ya_high, ya_whole, ya_has, an_g tx, ya_frame, ya_payloads, ya_table, ya_out, a1, a2, a3, a4, a5, a6, a7, ya_sizes) (nI n) v (nI st) := by
  have h3 := I.2.1
  have hin := I.2.2.2.2.1 (pm_at c) (Nat.le_refl _)
  unfold pm_fin at hg
  rw [if_neg (by omega)] at hg
  refine yr_keep I.1 rD hK (by omega) (rA _ (Nat.le_refl _)).2 hin.1 hn hn' (fun h48 => ?_) (fun h48 => ?_)
  · have hg5 : g = (5, c) := by
      rw [hg]; exact if_pos h48
    exact HE 5 (nI (pm_nn (pm_d c)), nI (pm_nv (pm_d c)), nI (pm_sk c), nI p, x5, nI (pm_at c), a1, a2, a3, a4, a5, a6, a7) (by rw [hg5]) (by omega)
  · have hg0 : g = (0, (p, pm_at c, pm_row c, pm_fld c, pm_sk c, pm_lim c, pm_ins c, pm_kp R (pm_d c) (pm_nd c) n v st)) := by
      rw [hg]; exact if_neg h48
    exact H0 _ (nI (pm_nn (pm_d c)), nI (pm_nv (pm_kp R (pm_d c) (pm_nd c) n v st)), nI (pm_sk c), nI p, x5, nI (pm_at c), a1,
      upd a2 (pm_pl R (pm_d c) (pm_nd c) n) (nI (pm_nd c)), upd a3 (pm_pl R (pm_d c) (pm_nd c) n) (nI n), upd a4 (pm_pl R (pm_d c) (pm_nd c) n) v, upd a5 (pm_pl R (pm_d c) (pm_nd c) n) (nI st), a6, a7) hg0
      ⟨rfl, rfl, rfl, rfl, rfl, yr_D_kp rD, rA⟩
theorem yr_single {n k : Nat} {g : Nat × pm_C} (hz : yr_ok c q z) (I : pm_CI K R L dep c) (hL : L ≤ 200) (hK : cr_K ya_kind ya_repeated K R) (hx : yr_B tx s B) (hs : s < 8) (hT : T ≤ 200)
    (hq : q ≤ T) (hqe : q ≤ e) (he : e = pm_end c) (hn : 1 ≤ n) (hn' : n ≤ 15) (hk : K (pm_fj c n) = k) (hk1 : 1 ≤ k) (hk3 : k ≤ 3)
    (hg : g = if k = 3 then pm_goF B R T c n q 4 else pm_goV B K R T c n q 0) {post : Int32 → SY → Prop}
    (H0 : ∀ c' (z' : yr_Z), g = (0, c') → yr_ok c' (pm_pos c') z' → post 0 (yf_down, yf_heads, yf_paid, yf_payload, yf_wants, yf_name, yf_first, yf_counts, yf_enters, yf_most, yf_many, yf_sent, yf_last, z'.1, z'.2.1, z'.2.2.1, z'.2.2.2.1, nI T, z'.2.2.2.2.1, z'.2.2.2.2.2.1, ya_kind, ya_repeated, ya_how, ya_code, ya_coming, ya_going, ya_type, ya_headers, ya_header, ya_queued, ya_otherEnded, ya_ended, ya_finishing, ya_queue, ya_prefix, ya_length, ya_got, ya_high, ya_whole, ya_has, an_g tx, ya_frame, ya_payloads, ya_table, ya_out, z'.2.2.2.2.2.2.1, z'.2.2.2.2.2.2.2.1, z'.2.2.2.2.2.2.2.2.1, z'.2.2.2.2.2.2.2.2.2.1, z'.2.2.2.2.2.2.2.2.2.2.1, z'.2.2.2.2.2.2.2.2.2.2.2.1, z'.2.2.2.2.2.2.2.2.2.2.2.2, ya_sizes)) (HE : ∀ x (z' : yr_Z), g.1 = x → x ≠ 0 → post (yr_c x) (yf_down, yf_heads, yf_paid, yf_payload, yf_wants, yf_name, yf_first, yf_counts, yf_enters, yf_most, yf_many, yf_sent, yf_last, z'.1, z'.2.1, z'.2.2.1, z'.2.2.2.1, nI T, z'.2.2.2.2.1, z'.2.2.2.2.2.1, ya_kind, ya_repeated, ya_how, ya_code, ya_coming, ya_going, ya_type, ya_headers, ya_header, ya_queued, ya_otherEnded, ya_ended, ya_finishing, ya_queue, ya_prefix, ya_length, ya_got, ya_high, ya_whole, ya_has, an_g tx, ya_frame, ya_payloads, ya_table, ya_out, z'.2.2.2.2.2.2.1, z'.2.2.2.2.2.2.2.1, z'.2.2.2.2.2.2.2.2.1, z'.2.2.2.2.2.2.2.2.2.1, z'.2.2.2.2.2.2.2.2.2.2.1, z'.2.2.2.2.2.2.2.2.2.2.2.1, z'.2.2.2.2.2.2.2.2.2.2.2.2, ya_sizes)) :
    wpY_single post (yf_down, yf_heads, yf_paid, yf_payload, yf_wants, yf_name, yf_first, yf_counts, yf_enters, yf_most, yf_many, yf_sent, yf_last, z.1, z.2.1, z.2.2.1, z.2.2.2.1, nI T, z.2.2.2.2.1, z.2.2.2.2.2.1, ya_kind, ya_repeated, ya_how, ya_code, ya_coming, ya_going, ya_type, ya_headers, ya_header, ya_queued, ya_otherEnded, ya_ended, ya_finishing, ya_queue, ya_prefix, ya_length, ya_got, ya_high, ya_whole, ya_has, an_g tx, ya_frame, ya_payloads, ya_table, ya_out, z.2.2.2.2.2.2.1, z.2.2.2.2.2.2.2.1, z.2.2.2.2.2.2.2.2.1, z.2.2.2.2.2.2.2.2.2.1, z.2.2.2.2.2.2.2.2.2.2.1, z.2.2.2.2.2.2.2.2.2.2.2.1, z.2.2.2.2.2.2.2.2.2.2.2.2, ya_sizes) (nI s) (nI k + (-1)) (nI n) (nI e) := by
  obtain ⟨z1, z2, z3, z4, z5, z6, a1, a2, a3, a4, a5, a6, a7⟩ := z
  dsimp only [yr_ok] at hz
  obtain ⟨rfl, rfl, rfl, rfl, rfl, rD, rA⟩ := hz
  have hkk := yr_k k (by omega)
  have he2 := pm_end_le I
  unfold wpY_single
  by_cases h3 : k = 3
  · rw [if_pos h3] at hg
    refine br_t (hkk.1.mpr h3) ?_
    refine yr_skip (n := 4) (by omega) hT hq hqe (by omega) (fun g1 g2 => ?_) (fun g1 g2 => ?_) (fun g1 g2 => ?_) (fun g1 g2 => ?_)
    · have hg9 : g = (9, c) := by rw [hg]; exact pm_goF_9 (by omega) (by omega)
      exact br_f (by decide) (HE 9 (nI (pm_nn (pm_d c)), nI (pm_nv (pm_d c)), nI (pm_sk c), nI q, z5, nI (pm_at c), a1, a2, a3, a4, a5, a6, a7) (by rw [hg9]) (by omega))
    · have hg4 : g = (4, c) := by rw [hg]; exact pm_goF_e (by omega) (by omega)
      exact br_f (by decide) (HE 4 (nI (pm_nn (pm_d c)), nI (pm_nv (pm_d c)), nI (pm_sk c), nI q, z5, nI (pm_at c), a1, a2, a3, a4, a5, a6, a7) (by rw [hg4]) (by omega))
    · have hg9 : g = (9, c) := by rw [hg]; exact pm_goF_9 (by omega) (by omega)
      exact br_f (by decide) (HE 9 (nI (pm_nn (pm_d c)), nI (pm_nv (pm_d c)), nI (pm_sk c), nI q, z5, nI (pm_at c), a1, a2, a3, a4, a5, a6, a7) (by rw [hg9]) (by omega))
    · rw [pm_goF_d (by omega) (by omega)] at hg
      refine br_t rfl (br_f (fun y => by have := hkk.2.1.mp y; omega) ?_)
      unfold wY_single_65
      refine br_t (hkk.1.mpr h3) ⟨5, ?_⟩
      have hix : ∀ i, i < 4 → 200 * nI s + nI q + nI i = 200 * nI s + nI (q + i) := by
        intro i _
        rw [Int32.add_assoc, nI_add]
      have hb : ∀ i, i < 4 → vp_in (200 * nI s + nI q + nI i) 1600 ∧ (an_g tx (200 * nI s + nI q + nI i).toNatClampNeg) &&& 255 = nI (B (q + i)) := by
        intro i hi
        rw [hix i hi]
        exact yr_by hx hs (by omega)
      rw [wY_single_76]
      refine br_f (by decide) ⟨(hb 3 (by omega)).1, nm_r (by rw [show (3 : Int32) = nI 3 from rfl, (hb 3 (by omega)).2]) (nm_r (e' := nI 2) (by decide) ?_)⟩
      rw [wY_single_76]
      refine br_f (by decide) ⟨(hb 2 (by omega)).1, nm_r (by rw [(hb 2 (by omega)).2]) (nm_r (e' := nI 1) (by decide) ?_)⟩
      rw [wY_single_76]
      refine br_f (by decide) ⟨(hb 1 (by omega)).1, nm_r (by rw [(hb 1 (by omega)).2]) (nm_r (e' := nI 0) (by decide) ?_)⟩
      rw [wY_single_76]
      refine br_f (by decide) ⟨(hb 0 (by omega)).1, nm_r (e' := pm_fs B q 4) (by rw [(hb 0 (by omega)).2]; exact yr_fs hx.2.1) (nm_r (e' := -1) (by decide) ?_)⟩
      rw [wY_single_76]
      refine br_t (by decide) ?_
      unfold wY_single_115
      exact yr_kept (st := 0) I hK rD rA hn hn' hg H0 HE
  · rw [if_neg h3] at hg
    refine br_f (fun y => h3 (hkk.1.mp y)) ?_
    refine yr_var hx hs hT (by omega) hq (fun cc k' hv => ?_)
    unfold pm_goV at hg
    rw [← he, show 10 - 0 = 10 from rfl, hv] at hg
    dsimp only at hg
    by_cases hc : cc = 0
    · subst hc
      rw [if_pos rfl] at hg
      refine br_t rfl ?_
      refine br_c (fun y => nm_e ?_) (fun y => ?_)
      · unfold wY_single_65
        refine br_f (fun y => h3 (hkk.1.mp y)) ?_
        unfold wY_single_115
        have hk2 := hkk.2.1.mp y
        unfold pm_val at hg
        rw [hk, if_pos hk2] at hg
        exact yr_kept (st := 0) I hK rD rA hn hn' hg H0 HE
      · unfold wY_single_65
        refine br_f (fun y => h3 (hkk.1.mp y)) ?_
        unfold wY_single_115
        unfold pm_val at hg
        rw [hk, if_neg (fun z => y (hkk.2.1.mpr z))] at hg
        exact yr_kept (st := 0) I hK rD rA hn hn' hg H0 HE
    · rw [if_neg hc] at hg
      refine br_f ?_ (HE cc (nI (pm_nn (pm_d c)), nI (pm_nv (pm_d c)), nI (pm_sk c), nI (q + k'), _, nI (pm_at c), a1, a2, a3, a4, a5, a6, a7) (by rw [hg]) hc)
      exact yr_ne cc (by have := pm_vr_lt (B := B) (p := q) (e := e) (T := T) 10 0; rw [hv] at this; exact this) hc
theorem pm_fin_r {f p st : Nat} {v : Int32} : pm_row (pm_fin R c f p v st).2 = pm_row c := by
  unfold pm_fin
  split
  · rfl
  split
  · rfl
  · rfl
theorem pm_goV_r {B : Nat → Nat} {f d : Nat} : pm_row (pm_goV B K R T c f q d).2 = pm_row c := by
  unfold pm_goV
  split
  · exact pm_fin_r
  · rfl
theorem pm_goF_r {B : Nat → Nat} {f w : Nat} : pm_row (pm_goF B R T c f q w).2 = pm_row c := by
  unfold pm_goF
  split
  · split <;> rfl
  split
  · rfl
  · exact pm_fin_r
theorem yr_nI (x : Int32) : x = nI x.toBitVec.toNat := by
  obtain ⟨n, hn, rfl⟩ := wb_of32 x
  rw [pk_tn hn]
theorem yr_u3 (x : Int32) : (x.toUInt32 >>> ((3 : Int32).toUInt32 &&& Int32.toUInt32 31)).toInt32 = nI (x.toBitVec.toNat / 8) := by
  obtain ⟨n, hn, rfl⟩ := wb_of32 x
  rw [pk_tn hn, pk_ushrN hn 3 3 (by decide)]
theorem pm_c9_fin {f p st : Nat} {v : Int32} : (pm_fin R c f p v st).1 ≤ 9 := by
  unfold pm_fin
  split
  · show 0 ≤ 9; omega
  split
  · show 5 ≤ 9; omega
  · show 0 ≤ 9; omega
theorem pm_c9_V {B : Nat → Nat} {f d : Nat} : (pm_goV B K R T c f q d).1 ≤ 9 := by
  unfold pm_goV
  split
  · exact pm_c9_fin
  · exact pm_vr_lt _ _
theorem pm_c9_F {B : Nat → Nat} {f w : Nat} : (pm_goF B R T c f q w).1 ≤ 9 := by
  unfold pm_goF
  split
  · split
    · show 4 ≤ 9; omega
    · show 9 ≤ 9; omega
  split
  · show 9 ≤ 9; omega
  · exact pm_c9_fin
theorem pm_c9_S {B : Nat → Nat} : (pm_goS B K R T c).1 ≤ 9 := by
  unfold pm_goS
  split
  · exact pm_c9_F
  · exact pm_c9_V
/-- a row of singles -/
theorem yr_packed {r : Nat × pm_C} (hL : L ≤ 200) (hK : cr_K ya_kind ya_repeated K R) (hx : yr_B tx s B) (hs : s < 8) (hT : T ≤ 200) {post : Int32 → SY → Prop} {kk n e : Nat} : ∀ m c (z : yr_Z),
    pm_rd B K R T m c = some r → pm_row c = e → e ≠ 0 → pm_fld c = n → K (pm_fj c n) = kk → pm_CI K R L dep c → yr_ok c (pm_pos c) z → pm_pos c ≤ T →
    (∀ m' c' (z' : yr_Z), m' < m → pm_rd B K R T m' c' = some r → pm_row c' = 0 → pm_CI K R L dep c' → pm_pos c' ≤ T → yr_ok c' (pm_pos c') z' → post 0 (yf_down, yf_heads, yf_paid, yf_payload, yf_wants, yf_name, yf_first, yf_counts, yf_enters, yf_most, yf_many, yf_sent, yf_last, z'.1, z'.2.1, z'.2.2.1, z'.2.2.2.1, nI T, z'.2.2.2.2.1, z'.2.2.2.2.2.1, ya_kind, ya_repeated, ya_how, ya_code, ya_coming, ya_going, ya_type, ya_headers, ya_header, ya_queued, ya_otherEnded, ya_ended, ya_finishing, ya_queue, ya_prefix, ya_length, ya_got, ya_high, ya_whole, ya_has, an_g tx, ya_frame, ya_payloads, ya_table, ya_out, z'.2.2.2.2.2.2.1, z'.2.2.2.2.2.2.2.1, z'.2.2.2.2.2.2.2.2.1, z'.2.2.2.2.2.2.2.2.2.1, z'.2.2.2.2.2.2.2.2.2.2.1, z'.2.2.2.2.2.2.2.2.2.2.2.1, z'.2.2.2.2.2.2.2.2.2.2.2.2, ya_sizes)) →
    (∀ (z' : yr_Z), r.1 ≠ 0 → post (yr_c r.1) (yf_down, yf_heads, yf_paid, yf_payload, yf_wants, yf_name, yf_first, yf_counts, yf_enters, yf_most, yf_many, yf_sent, yf_last, z'.1, z'.2.1, z'.2.2.1, z'.2.2.2.1, nI T, z'.2.2.2.2.1, z'.2.2.2.2.2.1, ya_kind, ya_repeated, ya_how, ya_code, ya_coming, ya_going, ya_type, ya_headers, ya_header, ya_queued, ya_otherEnded, ya_ended, ya_finishing, ya_queue, ya_prefix, ya_length, ya_got, ya_high, ya_whole, ya_has, an_g tx, ya_frame, ya_payloads, ya_table, ya_out, z'.2.2.2.2.2.2.1, z'.2.2.2.2.2.2.2.1, z'.2.2.2.2.2.2.2.2.1, z'.2.2.2.2.2.2.2.2.2.1, z'.2.2.2.2.2.2.2.2.2.2.1, z'.2.2.2.2.2.2.2.2.2.2.2.1, z'.2.2.2.2.2.2.2.2.2.2.2.2, ya_sizes)) →
    wY_packed_3 post (nI s) (nI kk + (-1)) (nI n) (nI e) (m + 1) 0 yf_down yf_heads yf_paid yf_payload yf_wants yf_name yf_first yf_counts yf_enters yf_most yf_many yf_sent yf_last (z.1) (z.2.1) (z.2.2.1) (z.2.2.2.1) (nI T) (z.2.2.2.2.1) (z.2.2.2.2.2.1) ya_kind ya_repeated ya_how ya_code ya_coming ya_going ya_type ya_headers ya_header ya_queued ya_otherEnded ya_ended ya_finishing ya_queue ya_prefix ya_length ya_got ya_high ya_whole ya_has (an_g tx) ya_frame ya_payloads ya_table ya_out (z.2.2.2.2.2.2.1) (z.2.2.2.2.2.2.2.1) (z.2.2.2.2.2.2.2.2.1) (z.2.2.2.2.2.2.2.2.2.1) (z.2.2.2.2.2.2.2.2.2.2.1) (z.2.2.2.2.2.2.2.2.2.2.2.1) (z.2.2.2.2.2.2.2.2.2.2.2.2) ya_sizes
  | 0, c, z, hrd, _, _, _, _, _, _, _, _, _ => absurd hrd (by simp [pm_rd])
  | m + 1, c, z, hrd, hrow, he0, hfl, hkk, I, hz, hpT, H0, HE => by
    have hr0 : pm_row c ≠ 0 := by omega
    obtain ⟨k1, k2, k3, k4, k5, k6⟩ := I.2.2.2.2.2.2.2 hr0
    have hend : pm_end c = pm_row c := by unfold pm_end; exact if_neg hr0
    have hpe := I.2.2.2.2.2.2.1
    have hel := pm_end_le I
    rw [pm_rd, if_pos hr0] at hrd
    rw [hfl] at k2 k3 k4 k5 k6
    rw [wY_packed_3]
    refine br_t rfl ?_
    have hz4 : z.2.2.2.1 = nI (pm_pos c) := hz.2.2.2.1
    rw [hz4]
    refine pk_le e (pm_pos c) (fun g => ?_) (fun g => ?_)
    · rw [if_pos (by omega)] at hrd
      rw [← hz4]
      exact H0 m (pm_row0 c) z (by omega) hrd rfl (pm_CI_row0 I hr0 (by omega)) hpT hz
    · rw [if_neg (by omega)] at hrd
      rw [← hz4]
      refine yr_single (g := pm_goS B K R T c) hz I hL hK hx hs hT hpT (by omega) (by omega) k2 k3 hkk (by omega) (by omega) ?_ (fun c' z' hg hz' => ?_) (fun x z' hg hx0 => ?_)
      · unfold pm_goS
        rw [hfl, hkk]
      · rw [hg] at hrd
        rw [if_pos rfl] at hrd
        obtain ⟨q1, q2, q3, q4, q5, q6, q7, q8, q9, q10⟩ := pm_goS_I I hr0 (by omega) hpT hg
        refine yr_packed hL hK hx hs hT m c' z' hrd (by omega) he0 (by omega) ?_ q1 hz' q3 (fun m' c'' z'' h1 => H0 m' c'' z'' (by omega)) HE
        rw [← hkk]
        unfold pm_fj pm_nd
        rw [q10, q9, q5]
      · rw [if_neg (by rw [hg]; exact hx0)] at hrd
        have hr : pm_goS B K R T c = r := Option.some.inj hrd
        rw [wY_packed_3]
        have h9 : x ≤ 9 := by
          rw [← hg]; exact pm_c9_S
        refine br_f (yr_ne x h9 hx0) ?_
        have hxr : r.1 = x := by rw [← hr]; exact hg
        rw [← hxr]
        exact HE z' (by rw [hxr]; exact hx0)
end
end
section
/-! L: how the reference reads: rows of bytes, parts, elements, the whole -/
section
variable {yf_down yf_heads yf_paid yf_payload yf_wants yf_name yf_first yf_counts yf_enters yf_most yf_many yf_sent yf_last yf_nodes yf_values yf_skipped yf_pos yf_there yf_number yf_at : Int32} {ya_kind ya_repeated ya_how ya_code ya_coming ya_going ya_type ya_headers ya_header ya_queued ya_otherEnded ya_ended ya_finishing ya_queue ya_prefix ya_length ya_got ya_high ya_whole ya_has ya_bytes ya_frame ya_payloads ya_table ya_out ya_nodeType ya_valueNode ya_valueNumber ya_value ya_from ya_limit ya_inside ya_sizes : Nat → Int32} {s q e T : Nat} {tx B : Nat → Nat} {K : Nat → Nat} {R : Nat → Bool} {L : Nat} {dep : Nat → Nat} {c : pm_C} {z : yr_Z} {a1 a2 a3 a4 a5 a6 a7 : Nat → Int32}
theorem yr_row {n len : Nat} {g : Nat × pm_C} (rD : yr_D (pm_d c) a1 a2 a3 a4 a5) (rA : ∀ i, i ≤ pm_at c → a6 i = nI (pm_lim c i) ∧ a7 i = nI (pm_ins c i)) (I : pm_CI K R L dep c) (hL : L ≤ 200) (hK : cr_K ya_kind ya_repeated K R) (hT : T ≤ 200)
    (hq : q ≤ T) (he : e = pm_lim c (pm_at c)) (hql : q + len ≤ e) (hn : 1 ≤ n) (hn' : n ≤ 15) (hk : K (pm_fj c n) = 4)
    (hg : g = pm_body K R T c n q len) {post : Int32 → SY → Prop}
    (H0 : ∀ c' (z' : yr_Z), g = (0, c') → yr_ok c' (pm_pos c') z' → post 0 (yf_down, yf_heads, yf_paid, yf_payload, yf_wants, yf_name, yf_first, yf_counts, yf_enters, yf_most, yf_many, yf_sent, yf_last, z'.1, z'.2.1, z'.2.2.1, z'.2.2.2.1, nI T, z'.2.2.2.2.1, z'.2.2.2.2.2.1, ya_kind, ya_repeated, ya_how, ya_code, ya_coming, ya_going, ya_type, ya_headers, ya_header, ya_queued, ya_otherEnded, ya_ended, ya_finishing, ya_queue, ya_prefix, ya_length, ya_got, ya_high, ya_whole, ya_has, an_g tx, ya_frame, ya_payloads, ya_table, ya_out, z'.2.2.2.2.2.2.1, z'.2.2.2.2.2.2.2.1, z'.2.2.2.2.2.2.2.2.1, z'.2.2.2.2.2.2.2.2.2.1, z'.2.2.2.2.2.2.2.2.2.2.1, z'.2.2.2.2.2.2.2.2.2.2.2.1, z'.2.2.2.2.2.2.2.2.2.2.2.2, ya_sizes)) (HE : ∀ x (z' : yr_Z), g.1 = x → x ≠ 0 → post (yr_c x) (yf_down, yf_heads, yf_paid, yf_payload, yf_wants, yf_name, yf_first, yf_counts, yf_enters, yf_most, yf_many, yf_sent, yf_last, z'.1, z'.2.1, z'.2.2.1, z'.2.2.2.1, nI T, z'.2.2.2.2.1, z'.2.2.2.2.2.1, ya_kind, ya_repeated, ya_how, ya_code, ya_coming, ya_going, ya_type, ya_headers, ya_header, ya_queued, ya_otherEnded, ya_ended, ya_finishing, ya_queue, ya_prefix, ya_length, ya_got, ya_high, ya_whole, ya_has, an_g tx, ya_frame, ya_payloads, ya_table, ya_out, z'.2.2.2.2.2.2.1, z'.2.2.2.2.2.2.2.1, z'.2.2.2.2.2.2.2.2.1, z'.2.2.2.2.2.2.2.2.2.1, z'.2.2.2.2.2.2.2.2.2.2.1, z'.2.2.2.2.2.2.2.2.2.2.2.1, z'.2.2.2.2.2.2.2.2.2.2.2.2, ya_sizes)) :
    wpY_row post (yf_down, yf_heads, yf_paid, yf_payload, yf_wants, yf_name, yf_first, yf_counts, yf_enters, yf_most, yf_many, yf_sent, yf_last, nI (pm_nn (pm_d c)), nI (pm_nv (pm_d c)), nI (pm_sk c), nI q, nI T, (nI len), nI (pm_at c), ya_kind, ya_repeated, ya_how, ya_code, ya_coming, ya_going, ya_type, ya_headers, ya_header, ya_queued, ya_otherEnded, ya_ended, ya_finishing, ya_queue, ya_prefix, ya_length, ya_got, ya_high, ya_whole, ya_has, an_g tx, ya_frame, ya_payloads, ya_table, ya_out, a1, a2, a3, a4, a5, a6, a7, ya_sizes) (nI n) (nI e) := by
  have h3 := I.2.1
  have hin := I.2.2.2.2.1 (pm_at c) (Nat.le_refl _)
  have hnv := I.1.2.2.1
  have hnn := I.1.2.1
  have hty := (I.1.2.2.2.2.1 _ hin.1).1
  have hl := pm_lim_le I (pm_at c) (Nat.le_refl _)
  have hle := pm_pl_le (R := R) (D := pm_d c) (pm_nd c) n
  have ej : 16 * nI (pm_nt (pm_d c) (pm_nd c)) + nI n = nI (pm_fj c n) := by
    rw [show (16 : Int32) = nI 16 from rfl, pk_mul, nI_add]; rfl
  have hj : pm_fj c n < 64 := by
    show 16 * pm_nt (pm_d c) (pm_ins c (pm_at c)) + n < 64; omega
  have hR := hK.2.2 (pm_fj c n) hj
  unfold pm_body at hg
  rw [if_neg (by omega), if_pos hk] at hg
  have h75 : pm_pl R (pm_d c) (pm_nd c) n ≠ 48 → wY_row_75 post (nI n) (nI e) (nI len) (nI q) yf_down yf_heads yf_paid yf_payload yf_wants yf_name yf_first yf_counts yf_enters yf_most yf_many yf_sent yf_last (nI (pm_nn (pm_d c))) (nI (pm_nv (pm_d c))) (nI (pm_sk c)) (nI q) (nI T) ((nI len)) (nI (pm_at c)) ya_kind ya_repeated ya_how ya_code ya_coming ya_going ya_type ya_headers ya_header ya_queued ya_otherEnded ya_ended ya_finishing ya_queue ya_prefix ya_length ya_got ya_high ya_whole ya_has (an_g tx) ya_frame ya_payloads ya_table ya_out (a1) (a2) (a3) (a4) (a5) (a6) (a7) ya_sizes := by
    intro h48
    rw [if_neg h48] at hg
    unfold wY_row_75
    refine yr_skip (n := len) (by omega) hT hq (by omega) (by omega) (fun g1 _ => absurd g1 (by omega)) (fun g1 _ => absurd g1 (by omega)) (fun g1 g2 => ?_) (fun g1 g2 => ?_)
    · rw [if_pos g2] at hg
      exact br_f (by decide) (HE 9 (nI (pm_nn (pm_d c)), nI (pm_nv (pm_d c)), nI (pm_sk c), nI q, nI len, nI (pm_at c), a1, a2, a3, a4, a5, a6, a7) (by rw [hg]) (by omega))
    · rw [if_neg (by omega)] at hg
      exact br_t rfl (yr_kept I hK rD rA hn hn' hg H0 HE)
  have h57 : pm_pl R (pm_d c) (pm_nd c) n = pm_nv (pm_d c) → wY_row_52 post (nI n) (nI e) (nI len) (nI q) yf_down yf_heads yf_paid yf_payload yf_wants yf_name yf_first yf_counts yf_enters yf_most yf_many yf_sent yf_last (nI (pm_nn (pm_d c))) (nI (pm_nv (pm_d c))) (nI (pm_sk c)) (nI q) (nI T) ((nI len)) (nI (pm_at c)) ya_kind ya_repeated ya_how ya_code ya_coming ya_going ya_type ya_headers ya_header ya_queued ya_otherEnded ya_ended ya_finishing ya_queue ya_prefix ya_length ya_got ya_high ya_whole ya_has (an_g tx) ya_frame ya_payloads ya_table ya_out (a1) (a2) (a3) (a4) (a5) (a6) (a7) ya_sizes := by
    intro hp
    unfold wY_row_52 wY_row_57
    refine br_f (by decide) (pk_eq (pm_nv (pm_d c)) 48 (fun g1 => ?_) (fun g1 => h75 (by omega)))
    rw [if_pos (by omega)] at hg
    exact HE 5 (nI (pm_nn (pm_d c)), nI (pm_nv (pm_d c)), nI (pm_sk c), nI q, nI len, nI (pm_at c), a1, a2, a3, a4, a5, a6, a7) (by rw [hg]) (by omega)
  unfold wpY_row
  refine ⟨vp_in_nI (by omega) (by omega), nm_r (by rw [nI_clamp (by omega), (rA _ (Nat.le_refl _)).2]) ⟨vp_in_nI (by omega) (by omega), ?_⟩⟩
  rw [nI_clamp (by omega), rD.1 _ hin.1, show pm_ins c (pm_at c) = pm_nd c from rfl, ej, nI_clamp (by omega), hR]
  refine ⟨vp_in_nI hj (by omega), ?_⟩
  by_cases hr : R (pm_fj c n) = true
  · rw [if_pos hr]
    refine br_f (by decide) (h57 ?_)
    unfold pm_pl; exact if_pos hr
  · rw [if_neg hr]
    have epl : pm_pl R (pm_d c) (pm_nd c) n = pm_ix (pm_d c) (pm_nd c) n := by
      unfold pm_pl; exact if_neg hr
    refine br_t rfl (yr_find rD hnv (yr_DB I.1) (by have : pm_nd c < 16 := by show pm_ins c (pm_at c) < 16; omega
                                                    omega) (by omega) ?_)
    rw [epl] at h57 h75 hle
    by_cases g1 : pm_ix (pm_d c) (pm_nd c) n < pm_nv (pm_d c)
    · rw [if_pos g1]
      refine br_t (nI_pos' (by omega)) ?_
      unfold wY_row_57
      exact br_t rfl (h75 (by omega))
    · rw [if_neg g1]
      exact br_f (by decide) (h57 (by omega))
theorem yr_part {n t len : Nat} {x5 : Int32} {g : Nat × pm_C} (rD : yr_D (pm_d c) a1 a2 a3 a4 a5) (rA : ∀ i, i ≤ pm_at c → a6 i = nI (pm_lim c i) ∧ a7 i = nI (pm_ins c i)) (I : pm_CI K R L dep c) (hK : cr_K ya_kind ya_repeated K R)
    (hn : 1 ≤ n) (hn' : n ≤ 15) (hk : 4 < K (pm_fj c n)) (hg : g = pm_part R c n t q len) {post : Int32 → SY → Prop}
    (H0 : ∀ c' (z' : yr_Z), g = (0, c') → yr_ok c' (pm_pos c') z' → post 0 (yf_down, yf_heads, yf_paid, yf_payload, yf_wants, yf_name, yf_first, yf_counts, yf_enters, yf_most, yf_many, yf_sent, yf_last, z'.1, z'.2.1, z'.2.2.1, z'.2.2.2.1, nI T, z'.2.2.2.2.1, z'.2.2.2.2.2.1, ya_kind, ya_repeated, ya_how, ya_code, ya_coming, ya_going, ya_type, ya_headers, ya_header, ya_queued, ya_otherEnded, ya_ended, ya_finishing, ya_queue, ya_prefix, ya_length, ya_got, ya_high, ya_whole, ya_has, an_g tx, ya_frame, ya_payloads, ya_table, ya_out, z'.2.2.2.2.2.2.1, z'.2.2.2.2.2.2.2.1, z'.2.2.2.2.2.2.2.2.1, z'.2.2.2.2.2.2.2.2.2.1, z'.2.2.2.2.2.2.2.2.2.2.1, z'.2.2.2.2.2.2.2.2.2.2.2.1, z'.2.2.2.2.2.2.2.2.2.2.2.2, ya_sizes)) (HE : ∀ x (z' : yr_Z), g.1 = x → x ≠ 0 → post (yr_c x) (yf_down, yf_heads, yf_paid, yf_payload, yf_wants, yf_name, yf_first, yf_counts, yf_enters, yf_most, yf_many, yf_sent, yf_last, z'.1, z'.2.1, z'.2.2.1, z'.2.2.2.1, nI T, z'.2.2.2.2.1, z'.2.2.2.2.2.1, ya_kind, ya_repeated, ya_how, ya_code, ya_coming, ya_going, ya_type, ya_headers, ya_header, ya_queued, ya_otherEnded, ya_ended, ya_finishing, ya_queue, ya_prefix, ya_length, ya_got, ya_high, ya_whole, ya_has, an_g tx, ya_frame, ya_payloads, ya_table, ya_out, z'.2.2.2.2.2.2.1, z'.2.2.2.2.2.2.2.1, z'.2.2.2.2.2.2.2.2.1, z'.2.2.2.2.2.2.2.2.2.1, z'.2.2.2.2.2.2.2.2.2.2.1, z'.2.2.2.2.2.2.2.2.2.2.2.1, z'.2.2.2.2.2.2.2.2.2.2.2.2, ya_sizes)) :
    wpY_part post (yf_down, yf_heads, yf_paid, yf_payload, yf_wants, yf_name, yf_first, yf_counts, yf_enters, yf_most, yf_many, yf_sent, yf_last, nI (pm_nn (pm_d c)), nI (pm_nv (pm_d c)), nI (pm_sk c), nI q, nI T, x5, nI (pm_at c), ya_kind, ya_repeated, ya_how, ya_code, ya_coming, ya_going, ya_type, ya_headers, ya_header, ya_queued, ya_otherEnded, ya_ended, ya_finishing, ya_queue, ya_prefix, ya_length, ya_got, ya_high, ya_whole, ya_has, an_g tx, ya_frame, ya_payloads, ya_table, ya_out, a1, a2, a3, a4, a5, a6, a7, ya_sizes) (nI n) (nI t) (nI (q + len)) := by
  have h3 := I.2.1
  have hin := I.2.2.2.2.1 (pm_at c) (Nat.le_refl _)
  have hnv := I.1.2.2.1
  have hnn := I.1.2.1
  have hty := (I.1.2.2.2.2.1 _ hin.1).1
  have hle := pm_pl_le (R := R) (D := pm_d c) (pm_nd c) n
  have hnd : pm_nd c < pm_nn (pm_d c) := hin.1
  have ej : 16 * nI (pm_nt (pm_d c) (pm_nd c)) + nI n = nI (pm_fj c n) := by
    rw [show (16 : Int32) = nI 16 from rfl, pk_mul, nI_add]; rfl
  have hj : pm_fj c n < 64 := by
    show 16 * pm_nt (pm_d c) (pm_ins c (pm_at c)) + n < 64; omega
  have hR := hK.2.2 (pm_fj c n) hj
  unfold pm_part at hg
  have hnew : pm_pl R (pm_d c) (pm_nd c) n = pm_nv (pm_d c) → wY_part_42 post (nI n) (nI t) (nI (q + len)) (-1) yf_down yf_heads yf_paid yf_payload yf_wants yf_name yf_first yf_counts yf_enters yf_most yf_many yf_sent yf_last (nI (pm_nn (pm_d c))) (nI (pm_nv (pm_d c))) (nI (pm_sk c)) (nI q) (nI T) (x5) (nI (pm_at c)) ya_kind ya_repeated ya_how ya_code ya_coming ya_going ya_type ya_headers ya_header ya_queued ya_otherEnded ya_ended ya_finishing ya_queue ya_prefix ya_length ya_got ya_high ya_whole ya_has (an_g tx) ya_frame ya_payloads ya_table ya_out (a1) (a2) (a3) (a4) (a5) (a6) (a7) ya_sizes := by
    intro hp
    rw [if_neg (by omega)] at hg
    unfold wY_part_42
    refine br_f (by decide) (pk_eq (pm_nn (pm_d c)) 16 (fun g1 => ?_) (fun g1 => ?_))
    · rw [if_pos (Or.inl g1)] at hg
      exact HE 5 (nI (pm_nn (pm_d c)), nI (pm_nv (pm_d c)), nI (pm_sk c), nI q, x5, nI (pm_at c), a1, a2, a3, a4, a5, a6, a7) (by rw [hg]) (by omega)
    refine pk_eq (pm_nv (pm_d c)) 48 (fun g2 => ?_) (fun g2 => ?_)
    · rw [if_pos (Or.inr (Or.inl g2))] at hg
      exact HE 5 (nI (pm_nn (pm_d c)), nI (pm_nv (pm_d c)), nI (pm_sk c), nI q, x5, nI (pm_at c), a1, a2, a3, a4, a5, a6, a7) (by rw [hg]) (by omega)
    refine pk_eq (pm_at c) 3 (fun g3 => ?_) (fun g3 => ?_)
    · rw [if_pos (Or.inr (Or.inr g3))] at hg
      exact HE 5 (nI (pm_nn (pm_d c)), nI (pm_nv (pm_d c)), nI (pm_sk c), nI q, x5, nI (pm_at c), a1, a2, a3, a4, a5, a6, a7) (by rw [hg]) (by omega)
    rw [if_neg (fun y => by omega)] at hg
    refine ⟨vp_in_nI (by omega) (by omega), nm_r (by rw [nI_clamp (by omega)]) (nm_r (nI_1 _) ?_)⟩
    have rD' : yr_D (pm_d c) (upd a1 (pm_nn (pm_d c)) (nI t)) a2 a3 a4 a5 := by
      refine ⟨fun i hi => ?_, rD.2⟩
      rw [pm_upd_eq, if_neg (by omega)]
      exact rD.1 i hi
    refine yr_keep (st := 0) I.1 rD' hK (by omega) (rA _ (Nat.le_refl _)).2 hin.1 hn hn' (fun h48 => ?_) (fun h48 => ?_)
    · exact absurd h48 (by show pm_pl R (pm_d c) (pm_nd c) n ≠ 48; omega)
    · unfold wY_part_105
      refine nm_r (nI_1 _) ⟨vp_in_nI (by omega) (by omega), nm_r (by rw [nI_clamp (by omega)]) (br_f (by decide) ⟨vp_in_nI (by omega) (by omega), nm_r (by rw [nI_clamp (by omega), nI_pred]) ?_⟩)⟩
      refine H0 _ (nI (pm_nn (pm_d c) + 1), nI (pm_nv (pm_kp R (pm_d c) (pm_nd c) n (nI (pm_nn (pm_d c))) 0)), nI (pm_sk c), nI q, x5, nI (pm_at c + 1), upd a1 (pm_nn (pm_d c)) (nI t),
        upd a2 (pm_pl R (pm_d c) (pm_nd c) n) (nI (pm_nd c)), upd a3 (pm_pl R (pm_d c) (pm_nd c) n) (nI n), upd a4 (pm_pl R (pm_d c) (pm_nd c) n) (nI (pm_nn (pm_d c))), upd a5 (pm_pl R (pm_d c) (pm_nd c) n) (nI 0),
        upd a6 (pm_at c + 1) (nI (q + len)), upd a7 (pm_at c + 1) (nI (pm_nn (pm_d c)))) hg ⟨rfl, rfl, rfl, rfl, rfl, ?_, ?_⟩
      · have hk := yr_D_kp (R := R) (D := pm_d c) (a := pm_nd c) (n := n) (st := 0) (v := nI (pm_nn (pm_d c))) rD'
        refine ⟨fun i hi => ?_, hk.2⟩
        have hi : i < pm_nn (pm_d c) + 1 := hi
        show upd a1 (pm_nn (pm_d c)) (nI t) i = nI (pm_u (pm_nt (pm_d c)) (pm_nn (pm_d c)) t i)
        by_cases g4 : i = pm_nn (pm_d c)
        · rw [pm_upd_eq, if_pos g4, g4, pm_us]
        · rw [pm_upd_eq, if_neg g4, pm_un g4]
          exact rD.1 i (by omega)
      · intro i hi
        have hi : i ≤ pm_at c + 1 := hi
        show upd a6 (pm_at c + 1) (nI (q + len)) i = nI (pm_u (pm_lim c) (pm_at c + 1) (q + len) i) ∧ upd a7 (pm_at c + 1) (nI (pm_nn (pm_d c))) i = nI (pm_u (pm_ins c) (pm_at c + 1) (pm_nn (pm_d c)) i)
        by_cases g4 : i = pm_at c + 1
        · rw [pm_upd_eq, if_pos g4, pm_upd_eq, if_pos g4, g4, pm_us, pm_us]; exact ⟨rfl, rfl⟩
        · rw [pm_upd_eq, if_neg g4, pm_upd_eq, if_neg g4, pm_un g4, pm_un g4]
          exact rA i (by omega)
  unfold wpY_part
  refine ⟨vp_in_nI (by omega) (by omega), nm_r (by rw [nI_clamp (by omega), (rA _ (Nat.le_refl _)).2]) ⟨vp_in_nI (by omega) (by omega), ?_⟩⟩
  rw [nI_clamp (by omega), rD.1 _ hin.1, show pm_ins c (pm_at c) = pm_nd c from rfl, ej, nI_clamp (by omega), hR]
  refine ⟨vp_in_nI hj (by omega), ?_⟩
  by_cases hr : R (pm_fj c n) = true
  · rw [if_pos hr]
    refine br_f (by decide) (hnew ?_)
    unfold pm_pl; exact if_pos hr
  · rw [if_neg hr]
    have epl : pm_pl R (pm_d c) (pm_nd c) n = pm_ix (pm_d c) (pm_nd c) n := by
      unfold pm_pl; exact if_neg hr
    refine br_t rfl (yr_find rD hnv (yr_DB I.1) (by omega) (by omega) ?_)
    by_cases g1 : pm_ix (pm_d c) (pm_nd c) n < pm_nv (pm_d c)
    · rw [if_pos g1]
      have hlt : pm_pl R (pm_d c) (pm_nd c) n < pm_nv (pm_d c) := by omega
      obtain ⟨_, p2, p3⟩ := pm_pl_lt hlt
      have hkk : pm_kk K (pm_d c) (pm_pl R (pm_d c) (pm_nd c) n) = K (pm_fj c n) := by
        simp only [pm_kk]; rw [p2, p3]; rfl
      obtain ⟨m, w1, w2, w3, w4⟩ := (I.1.2.2.2.2.2.1 _ hlt).2.2.2.2.2 (by rw [hkk]; exact hk)
      have hm : (pm_va (pm_d c) (pm_pl R (pm_d c) (pm_nd c) n)).toNatClampNeg = m := by
        rw [w1, nI_clamp (by omega)]
      rw [if_pos hlt, hm] at hg
      have hva := (rD.2 _ hlt).2.2.1
      rw [epl] at hva w1
      have h0 : (0 : Int32) ≤ nI (pm_ix (pm_d c) (pm_nd c) n) := nI_pos' (by omega)
      unfold wY_part_42
      refine br_t h0 ?_
      unfold wY_part_105
      refine nm_r (nI_1 _) ⟨vp_in_nI (by omega) (by omega), nm_r (by rw [nI_clamp (by omega)]) (br_t h0 ⟨vp_in_nI (by omega) (by omega), vp_in_nI (by omega) (by omega), nm_r (by rw [nI_clamp (by omega), nI_clamp (by omega), hva, w1]) ?_⟩)⟩
      refine H0 _ (nI (pm_nn (pm_d c)), nI (pm_nv (pm_d c)), nI (pm_sk c), nI q, x5, nI (pm_at c + 1), a1, a2, a3, a4, a5,
        upd a6 (pm_at c + 1) (nI (q + len)), upd a7 (pm_at c + 1) (nI m)) hg ⟨rfl, rfl, rfl, rfl, rfl, rD, ?_⟩
      intro i hi
      have hi : i ≤ pm_at c + 1 := hi
      show upd a6 (pm_at c + 1) (nI (q + len)) i = nI (pm_u (pm_lim c) (pm_at c + 1) (q + len) i) ∧ upd a7 (pm_at c + 1) (nI m) i = nI (pm_u (pm_ins c) (pm_at c + 1) m i)
      by_cases g4 : i = pm_at c + 1
      · rw [pm_upd_eq, if_pos g4, pm_upd_eq, if_pos g4, g4, pm_us, pm_us]; exact ⟨rfl, rfl⟩
      · rw [pm_upd_eq, if_neg g4, pm_upd_eq, if_neg g4, pm_un g4, pm_un g4]
        exact rA i (by omega)
    · rw [if_neg g1]
      exact hnew (by omega)
end
section
variable {yf_down yf_heads yf_paid yf_payload yf_wants yf_name yf_first yf_counts yf_enters yf_most yf_many yf_sent yf_last yf_nodes yf_values yf_skipped yf_pos yf_there yf_number yf_at : Int32} {ya_kind ya_repeated ya_how ya_code ya_coming ya_going ya_type ya_headers ya_header ya_queued ya_otherEnded ya_ended ya_finishing ya_queue ya_prefix ya_length ya_got ya_high ya_whole ya_has ya_bytes ya_frame ya_payloads ya_table ya_out ya_nodeType ya_valueNode ya_valueNumber ya_value ya_from ya_limit ya_inside ya_sizes : Nat → Int32} {s q e T : Nat} {tx B : Nat → Nat} {K : Nat → Nat} {R : Nat → Bool} {L : Nat} {dep : Nat → Nat} {c : pm_C} {z : yr_Z} {a1 a2 a3 a4 a5 a6 a7 : Nat → Int32}
/-- what is left behind a tag that is no plain single -/
theorem yr_175 {r g : Nat × pm_C} {m n w : Nat} {x5 x7 x9 : Int32} {kk : Nat} (rD : yr_D (pm_d c) a1 a2 a3 a4 a5) (rA : ∀ i, i ≤ pm_at c → a6 i = nI (pm_lim c i) ∧ a7 i = nI (pm_ins c i))
    (I : pm_CI K R L dep c) (hr : pm_row c = 0) (hL : L ≤ 200) (hK : cr_K ya_kind ya_repeated K R) (hx : yr_B tx s B) (hs : s < 8) (hT : T ≤ 200)
    (h0 : pm_pos c < q) (hq : q ≤ pm_lim c (pm_at c)) (hqT : q ≤ T) (hn : 1 ≤ n)
    (hkk : kk = if 15 < n then 0 else K (pm_fj c n)) (hx7 : n ≤ 15 → x7 = nI (pm_fj c n)) (hx9 : x9 = if 1 ≤ kk ∧ kk ≤ 3 then 1 else 0)
    (hw : w = 0 ∨ w = 1 ∨ w = 2 ∨ w = 5) (hpl : ¬ (1 ≤ kk ∧ kk ≤ 3 ∧ w = if kk = 3 then 5 else 0))
    (hg : g = if w = 0 then pm_goV B K R T c 0 q 0 else if w = 2 then pm_goL B K R T c (pm_fl K R c n 2) q 0 else pm_goF B R T c 0 q (if w = 1 then 8 else 4))
    (hI : ∀ c', g = (0, c') → ∃ dep', pm_CI K R L dep' c' ∧ pm_pos c' ≤ T)
    (hrd0 : ∀ c', g = (0, c') → pm_rd B K R T m c' = some r) (hrdE : g.1 ≠ 0 → r = g) {post : Int32 → SY → Prop}
    (H0 : ∀ dep' m' c' (z' : yr_Z), m' ≤ m → pm_rd B K R T m' c' = some r → pm_row c' = 0 → pm_CI K R L dep' c' → pm_pos c' ≤ T → yr_ok c' (pm_pos c') z' → post 0 (yf_down, yf_heads, yf_paid, yf_payload, yf_wants, yf_name, yf_first, yf_counts, yf_enters, yf_most, yf_many, yf_sent, yf_last, z'.1, z'.2.1, z'.2.2.1, z'.2.2.2.1, nI T, z'.2.2.2.2.1, z'.2.2.2.2.2.1, ya_kind, ya_repeated, ya_how, ya_code, ya_coming, ya_going, ya_type, ya_headers, ya_header, ya_queued, ya_otherEnded, ya_ended, ya_finishing, ya_queue, ya_prefix, ya_length, ya_got, ya_high, ya_whole, ya_has, an_g tx, ya_frame, ya_payloads, ya_table, ya_out, z'.2.2.2.2.2.2.1, z'.2.2.2.2.2.2.2.1, z'.2.2.2.2.2.2.2.2.1, z'.2.2.2.2.2.2.2.2.2.1, z'.2.2.2.2.2.2.2.2.2.2.1, z'.2.2.2.2.2.2.2.2.2.2.2.1, z'.2.2.2.2.2.2.2.2.2.2.2.2, ya_sizes))
    (HE : ∀ (z' : yr_Z), r.1 ≠ 0 → post (yr_c r.1) (yf_down, yf_heads, yf_paid, yf_payload, yf_wants, yf_name, yf_first, yf_counts, yf_enters, yf_most, yf_many, yf_sent, yf_last, z'.1, z'.2.1, z'.2.2.1, z'.2.2.2.1, nI T, z'.2.2.2.2.1, z'.2.2.2.2.2.1, ya_kind, ya_repeated, ya_how, ya_code, ya_coming, ya_going, ya_type, ya_headers, ya_header, ya_queued, ya_otherEnded, ya_ended, ya_finishing, ya_queue, ya_prefix, ya_length, ya_got, ya_high, ya_whole, ya_has, an_g tx, ya_frame, ya_payloads, ya_table, ya_out, z'.2.2.2.2.2.2.1, z'.2.2.2.2.2.2.2.1, z'.2.2.2.2.2.2.2.2.1, z'.2.2.2.2.2.2.2.2.2.1, z'.2.2.2.2.2.2.2.2.2.2.1, z'.2.2.2.2.2.2.2.2.2.2.2.1, z'.2.2.2.2.2.2.2.2.2.2.2.2, ya_sizes)) :
    wY_element_175 post (nI s) (nI (pm_pos c)) (nI (pm_lim c (pm_at c))) (nI w) (nI n) x7 (nI kk + (-1)) x9 0 yf_down yf_heads yf_paid yf_payload yf_wants yf_name yf_first yf_counts yf_enters yf_most yf_many yf_sent yf_last (nI (pm_nn (pm_d c))) (nI (pm_nv (pm_d c))) (nI (pm_sk c)) (nI q) (nI T) (x5) (nI (pm_at c)) ya_kind ya_repeated ya_how ya_code ya_coming ya_going ya_type ya_headers ya_header ya_queued ya_otherEnded ya_ended ya_finishing ya_queue ya_prefix ya_length ya_got ya_high ya_whole ya_has (an_g tx) ya_frame ya_payloads ya_table ya_out (a1) (a2) (a3) (a4) (a5) (a6) (a7) ya_sizes := by
  have he : pm_end c = pm_lim c (pm_at c) := by unfold pm_end; exact if_pos hr
  have hl := pm_lim_le I (pm_at c) (Nat.le_refl _)
  have hk8 : kk ≤ 8 := by
    rw [hkk]; split
    · omega
    · exact hK.1 _
  have yk := yr_k kk hk8
  have F0 : ∀ c' (z' : yr_Z), g = (0, c') → pm_row c' = 0 → yr_ok c' (pm_pos c') z' → post 0 (yf_down, yf_heads, yf_paid, yf_payload, yf_wants, yf_name, yf_first, yf_counts, yf_enters, yf_most, yf_many, yf_sent, yf_last, z'.1, z'.2.1, z'.2.2.1, z'.2.2.2.1, nI T, z'.2.2.2.2.1, z'.2.2.2.2.2.1, ya_kind, ya_repeated, ya_how, ya_code, ya_coming, ya_going, ya_type, ya_headers, ya_header, ya_queued, ya_otherEnded, ya_ended, ya_finishing, ya_queue, ya_prefix, ya_length, ya_got, ya_high, ya_whole, ya_has, an_g tx, ya_frame, ya_payloads, ya_table, ya_out, z'.2.2.2.2.2.2.1, z'.2.2.2.2.2.2.2.1, z'.2.2.2.2.2.2.2.2.1, z'.2.2.2.2.2.2.2.2.2.1, z'.2.2.2.2.2.2.2.2.2.2.1, z'.2.2.2.2.2.2.2.2.2.2.2.1, z'.2.2.2.2.2.2.2.2.2.2.2.2, ya_sizes) := by
    intro c' z' h1 h2 h3
    obtain ⟨dep', i1, i2⟩ := hI c' h1
    exact H0 dep' m c' z' (Nat.le_refl _) (hrd0 c' h1) h2 i1 i2 h3
  have FE : ∀ x (z' : yr_Z), g.1 = x → x ≠ 0 → post (yr_c x) (yf_down, yf_heads, yf_paid, yf_payload, yf_wants, yf_name, yf_first, yf_counts, yf_enters, yf_most, yf_many, yf_sent, yf_last, z'.1, z'.2.1, z'.2.2.1, z'.2.2.2.1, nI T, z'.2.2.2.2.1, z'.2.2.2.2.2.1, ya_kind, ya_repeated, ya_how, ya_code, ya_coming, ya_going, ya_type, ya_headers, ya_header, ya_queued, ya_otherEnded, ya_ended, ya_finishing, ya_queue, ya_prefix, ya_length, ya_got, ya_high, ya_whole, ya_has, an_g tx, ya_frame, ya_payloads, ya_table, ya_out, z'.2.2.2.2.2.2.1, z'.2.2.2.2.2.2.2.1, z'.2.2.2.2.2.2.2.2.1, z'.2.2.2.2.2.2.2.2.2.1, z'.2.2.2.2.2.2.2.2.2.2.1, z'.2.2.2.2.2.2.2.2.2.2.2.1, z'.2.2.2.2.2.2.2.2.2.2.2.2, ya_sizes) := by
    intro x z' h1 h2
    have hr : r = g := hrdE (by rw [h1]; exact h2)
    have := HE z' (by rw [hr, h1]; exact h2)
    rw [hr, h1] at this
    exact this
  unfold wY_element_175
  refine br_t rfl ?_
  have h360 : ∀ p x, p ≤ pm_end c → pm_pos c ≤ p → g = pm_fin R c 0 p 0 0 → wY_element_360 post (nI (pm_pos c)) 0 yf_down yf_heads yf_paid yf_payload yf_wants yf_name yf_first yf_counts yf_enters yf_most yf_many yf_sent yf_last (nI (pm_nn (pm_d c))) (nI (pm_nv (pm_d c))) (nI (pm_sk c)) (nI p) (nI T) (x) (nI (pm_at c)) ya_kind ya_repeated ya_how ya_code ya_coming ya_going ya_type ya_headers ya_header ya_queued ya_otherEnded ya_ended ya_finishing ya_queue ya_prefix ya_length ya_got ya_high ya_whole ya_has (an_g tx) ya_frame ya_payloads ya_table ya_out (a1) (a2) (a3) (a4) (a5) (a6) (a7) ya_sizes := by
    intro p x _ hp hgf
    unfold wY_element_360
    refine br_t rfl (nm_r (by rw [pk_sub hp, nI_add]) ?_)
    unfold pm_fin at hgf
    rw [if_pos rfl] at hgf
    exact F0 _ (nI (pm_nn (pm_d c)), nI (pm_nv (pm_d c)), nI (pm_sk c + (p - pm_pos c)), nI p, x, nI (pm_at c), a1, a2, a3, a4, a5, a6, a7) hgf hr ⟨rfl, rfl, rfl, rfl, rfl, rD, rA⟩
  have h360e : ∀ x p y, x ≤ 9 → x ≠ 0 → g.1 = x → wY_element_360 post (nI (pm_pos c)) (yr_c x) yf_down yf_heads yf_paid yf_payload yf_wants yf_name yf_first yf_counts yf_enters yf_most yf_many yf_sent yf_last (nI (pm_nn (pm_d c))) (nI (pm_nv (pm_d c))) (nI (pm_sk c)) (nI p) (nI T) (y) (nI (pm_at c)) ya_kind ya_repeated ya_how ya_code ya_coming ya_going ya_type ya_headers ya_header ya_queued ya_otherEnded ya_ended ya_finishing ya_queue ya_prefix ya_length ya_got ya_high ya_whole ya_has (an_g tx) ya_frame ya_payloads ya_table ya_out (a1) (a2) (a3) (a4) (a5) (a6) (a7) ya_sizes := by
    intro x p y h9 hx0 hgx
    unfold wY_element_360
    exact br_f (yr_ne x h9 hx0) (FE x (nI (pm_nn (pm_d c)), nI (pm_nv (pm_d c)), nI (pm_sk c), nI p, y, nI (pm_at c), a1, a2, a3, a4, a5, a6, a7) hgx hx0)
  have hskip : ∀ v, g = pm_goF B R T c 0 q v → v = 8 ∨ v = 4 → wY_element_354 post (nI (pm_pos c)) (nI (pm_lim c (pm_at c))) (nI v) yf_down yf_heads yf_paid yf_payload yf_wants yf_name yf_first yf_counts yf_enters yf_most yf_many yf_sent yf_last (nI (pm_nn (pm_d c))) (nI (pm_nv (pm_d c))) (nI (pm_sk c)) (nI q) (nI T) (x5) (nI (pm_at c)) ya_kind ya_repeated ya_how ya_code ya_coming ya_going ya_type ya_headers ya_header ya_queued ya_otherEnded ya_ended ya_finishing ya_queue ya_prefix ya_length ya_got ya_high ya_whole ya_has (an_g tx) ya_frame ya_payloads ya_table ya_out (a1) (a2) (a3) (a4) (a5) (a6) (a7) ya_sizes := by
    intro v hv hv8
    unfold wY_element_354
    refine yr_skip (n := v) (by omega) hT hqT (by omega) (by omega) (fun g1 g2 => ?_) (fun g1 g2 => ?_) (fun g1 g2 => ?_) (fun g1 g2 => ?_)
    · exact h360e 9 q x5 (by omega) (by omega) (by rw [hv, pm_goF_9 (by omega) (by omega)])
    · exact h360e 4 q x5 (by omega) (by omega) (by rw [hv, pm_goF_e (by omega) (by omega)])
    · exact h360e 9 q x5 (by omega) (by omega) (by rw [hv, pm_goF_9 (by omega) (by omega)])
    · rw [pm_goF_d (by omega) (by omega)] at hv
      exact h360 (q + v) x5 (by omega) (by omega) (by rw [hv]; unfold pm_fin; rw [if_pos rfl, if_pos rfl])
  rcases hw with hw | hw | hw | hw
  · subst hw
    rw [if_pos rfl] at hg
    refine br_f (by decide) (br_t rfl (yr_var hx hs hT (by omega) hqT (fun cc k' hv => ?_)))
    unfold pm_goV at hg
    rw [he, show 10 - 0 = 10 from rfl, hv] at hg
    dsimp only at hg
    have hc9 : cc ≤ 9 := by
      have := pm_vr_lt (B := B) (p := q) (e := pm_lim c (pm_at c)) (T := T) 10 0
      rw [hv] at this; exact this
    by_cases hc : cc = 0
    · subst hc
      rw [if_pos rfl] at hg
      have := pm_vr_ok _ _ (by omega) (by omega) hv
      exact h360 (q + k') _ (by omega) (by omega) (by rw [hg]; unfold pm_fin; rw [if_pos rfl, if_pos rfl])
    · rw [if_neg hc] at hg
      exact h360e cc _ _ hc9 hc (by rw [hg])
  · subst hw
    rw [if_neg (by decide), if_neg (by decide), if_pos rfl] at hg
    exact br_f (by decide) (br_f (by decide) (br_t rfl (hskip 8 hg (Or.inl rfl))))
  · subst hw
    rw [if_neg (by decide), if_pos rfl] at hg
    refine br_t rfl (yr_var hx hs hT (by omega) hqT (fun cc k' hv => ?_))
    unfold pm_goL at hg
    rw [show 10 - 0 = 10 from rfl, hv] at hg
    dsimp only at hg
    have hc9 : cc ≤ 9 := by
      have := pm_vr_lt (B := B) (p := q) (e := pm_lim c (pm_at c)) (T := T) 10 0
      rw [hv] at this; exact this
    by_cases hc : cc = 0
    · subst hc
      rw [if_pos rfl] at hg
      have hv' := pm_vr_ok _ _ (by omega) (by omega) hv
      refine br_t rfl ?_
      generalize pm_vs B q k' = x at hg ⊢
      unfold pm_len at hg
      refine br_c (fun hneg => ?_) (fun hneg => ?_)
      · rw [if_pos (Or.inl hneg)] at hg
        exact FE 4 (nI (pm_nn (pm_d c)), nI (pm_nv (pm_d c)), nI (pm_sk c), nI (q + k'), x, nI (pm_at c), a1, a2, a3, a4, a5, a6, a7) (by rw [hg]) (by omega)
      obtain ⟨len, hlen, rfl⟩ := nI_of hneg
      rw [nI_clamp hlen] at hg
      refine pk_le len (pm_lim c (pm_at c) - (q + k')) (fun g1 => ?_) (fun g1 => ?_) rfl (pk_sub (by omega))
      · rw [if_neg (by
          intro y; rcases y with y | y
          · exact hneg y
          · omega)] at hg
        have e2 : nI (q + k') + nI len = nI (q + k' + len) := nI_add _ _
        have h311 : pm_fl K R c n 2 = 0 → wY_element_311 post (nI (pm_pos c)) (nI (pm_lim c (pm_at c))) yf_down yf_heads yf_paid yf_payload yf_wants yf_name yf_first yf_counts yf_enters yf_most yf_many yf_sent yf_last (nI (pm_nn (pm_d c))) (nI (pm_nv (pm_d c))) (nI (pm_sk c)) (nI (q + k')) (nI T) ((nI len)) (nI (pm_at c)) ya_kind ya_repeated ya_how ya_code ya_coming ya_going ya_type ya_headers ya_header ya_queued ya_otherEnded ya_ended ya_finishing ya_queue ya_prefix ya_length ya_got ya_high ya_whole ya_has (an_g tx) ya_frame ya_payloads ya_table ya_out (a1) (a2) (a3) (a4) (a5) (a6) (a7) ya_sizes := by
          intro hf
          rw [hf] at hg
          unfold pm_body at hg
          rw [if_pos rfl] at hg
          unfold wY_element_311
          refine yr_skip (n := len) (by omega) hT (by omega) (by omega) (by omega) (fun g2 _ => absurd g2 (by omega)) (fun g2 _ => absurd g2 (by omega)) (fun g2 g3 => ?_) (fun g2 g3 => ?_)
          · rw [if_pos g3] at hg
            exact h360e 9 _ _ (by omega) (by omega) (by rw [hg])
          · rw [if_neg (by omega)] at hg
            exact h360 _ _ (by omega) (by omega) hg
        have hf0 : ∀ (y : n ≤ 15), kk = K (pm_fj c n) := by
          intro y; rw [hkk, if_neg (by omega)]
        refine br_c (fun h83 => ?_) (fun h83 => ?_)
        · refine br_c (fun h8 => ?_) (fun h8 => ?_)
          · have hk4 := yk.2.2.2.2.2.1.mp h8
            have hn15 : n ≤ 15 := by
              rcases Nat.lt_or_ge 15 n with y | y
              · rw [hkk, if_pos y] at hk4; omega
              · exact y
            have hkn := hf0 hn15
            have hf : pm_fl K R c n 2 = n := by
              unfold pm_fl
              rw [if_neg (by omega), if_neg (by omega), if_pos (Or.inl (by rw [← hkn, hk4]; decide))]
            rw [hf] at hg
            exact yr_row rD rA I hL hK hT (by omega) rfl (by omega) hn hn15 (by omega) hg (fun c' z' g2 g3 => F0 c' z' g2 (by
              have : pm_row (pm_body K R T c n (q + k') len).2 = 0 := by
                unfold pm_body
                rw [if_neg (by omega), if_pos (by omega)]
                split
                · exact hr
                split
                · exact hr
                · rw [pm_fin_r]; exact hr
              rw [← hg, g2] at this
              exact this) g3) FE
          · have hk4 : kk ≠ 4 := fun y => h8 (yk.2.2.2.2.2.1.mpr y)
            have hk4' : kk ≤ 4 := yk.2.2.2.2.1.mp h83
            by_cases hsc : 1 ≤ kk ∧ kk ≤ 3
            · rw [if_pos hsc] at hx9
              have hn15 : n ≤ 15 := by
                rcases Nat.lt_or_ge 15 n with y | y
                · rw [hkk, if_pos y] at hsc; omega
                · exact y
              have hkn := hf0 hn15
              have hin := I.2.2.2.2.1 (pm_at c) (Nat.le_refl _)
              have hty := (I.1.2.2.2.2.1 _ hin.1).1
              have hj : pm_fj c n < 64 := by
                show 16 * pm_nt (pm_d c) (pm_ins c (pm_at c)) + n < 64; omega
              rw [hx9, hx7 hn15, nI_clamp (by omega), hK.2.2 _ hj]
              refine br_f (by decide) ⟨vp_in_nI hj (by omega), ?_⟩
              by_cases hR : R (pm_fj c n) = true
              · rw [if_pos hR]
                have hf : pm_fl K R c n 2 = n := by
                  unfold pm_fl
                  rw [if_neg (by omega), if_neg (by omega), if_pos (Or.inr ⟨rfl, hR⟩)]
                rw [hf] at hg
                unfold pm_body at hg
                rw [if_neg (by omega), if_neg (by omega), if_neg (by omega)] at hg
                refine br_f (by decide) ?_
                rw [e2]
                unfold wpY_packed
                obtain ⟨dep', i1, i2⟩ := hI _ hg
                refine ⟨m + 1, yr_packed (dep := dep') hL hK hx hs hT m (q + k', pm_at c, q + k' + len, n, pm_sk c, pm_lim c, pm_ins c, pm_d c) (nI (pm_nn (pm_d c)), nI (pm_nv (pm_d c)), nI (pm_sk c), nI (q + k'), nI len, nI (pm_at c), a1, a2, a3, a4, a5, a6, a7)
                  (hrd0 _ hg) rfl (by omega) rfl (hf0 hn15).symm i1 ⟨rfl, rfl, rfl, rfl, rfl, rD, rA⟩ i2 (fun m' c' z' h1 h2 h3 h4 h5 h6 => H0 dep' m' c' z' (by omega) h2 h3 h4 h5 h6) HE⟩
              · rw [if_neg hR]
                exact br_t rfl (h311 (by
                  unfold pm_fl
                  rw [if_neg (by omega), if_neg (by omega), if_neg (by
                    intro y
                    rcases y with y | y
                    · rw [← hkn] at y
                      unfold pm_w at y
                      split at y
                      · omega
                      · split at y <;> omega
                    · exact hR y.2)]))
            · rw [if_neg hsc] at hx9
              rw [hx9]
              have hk0 : kk = 0 := by omega
              refine br_t rfl (h311 ?_)
              unfold pm_fl
              split
              · rfl
              · rename_i y
                rw [hkk, if_neg y] at hk0
                rw [if_pos hk0]
        · have hk5 : 4 < kk := by
            rcases Nat.lt_or_ge 4 kk with y | y
            · exact y
            · exact absurd (yk.2.2.2.2.1.mpr y) h83
          have hn15 : n ≤ 15 := by
            rcases Nat.lt_or_ge 15 n with y | y
            · rw [hkk, if_pos y] at hk5; omega
            · exact y
          have hkn := hf0 hn15
          have hf : pm_fl K R c n 2 = n := by
            unfold pm_fl
            rw [if_neg (by omega), if_neg (by omega), if_pos (Or.inl (by
              rw [← hkn]; unfold pm_w
              rw [if_neg (by omega), if_neg (by omega)]))]
          rw [hf] at hg
          unfold pm_body at hg
          rw [if_neg (by omega), if_neg (by omega), if_pos (by omega), ← hkn] at hg
          rw [yk.2.2.2.2.2.2 hk5, e2]
          exact yr_part rD rA I hK hn hn15 (by omega) hg (fun c' z' g2 g3 => F0 c' z' g2 (by
            have : pm_row (pm_part R c n (kk - 5) (q + k') len).2 = 0 ∨ (pm_part R c n (kk - 5) (q + k') len).1 ≠ 0 := by
              unfold pm_part
              split
              · left; rfl
              split
              · right; show (5 : Nat) ≠ 0; omega
              · left; rfl
            rw [← hg, g2] at this
            rcases this with y | y
            · exact y
            · exact absurd rfl y) g3) FE
      · rw [if_pos (Or.inr (by omega))] at hg
        exact FE 4 (nI (pm_nn (pm_d c)), nI (pm_nv (pm_d c)), nI (pm_sk c), nI (q + k'), nI len, nI (pm_at c), a1, a2, a3, a4, a5, a6, a7) (by rw [hg]) (by omega)
    · rw [if_neg hc] at hg
      exact br_f (yr_ne cc hc9 hc) (FE cc (nI (pm_nn (pm_d c)), nI (pm_nv (pm_d c)), nI (pm_sk c), nI (q + k'), _, nI (pm_at c), a1, a2, a3, a4, a5, a6, a7) (by rw [hg]) hc)
  · subst hw
    rw [if_neg (by decide), if_neg (by decide), if_neg (by decide)] at hg
    exact br_f (by decide) (br_f (by decide) (br_f (by decide) (hskip 4 hg (Or.inr rfl))))
end
end
section
/-! M: how the reference reads an element and the whole -/
section
variable {yf_down yf_heads yf_paid yf_payload yf_wants yf_name yf_first yf_counts yf_enters yf_most yf_many yf_sent yf_last yf_nodes yf_values yf_skipped yf_pos yf_there yf_number yf_at : Int32} {ya_kind ya_repeated ya_how ya_code ya_coming ya_going ya_type ya_headers ya_header ya_queued ya_otherEnded ya_ended ya_finishing ya_queue ya_prefix ya_length ya_got ya_high ya_whole ya_has ya_bytes ya_frame ya_payloads ya_table ya_out ya_nodeType ya_valueNode ya_valueNumber ya_value ya_from ya_limit ya_inside ya_sizes : Nat → Int32} {s q e T : Nat} {tx B : Nat → Nat} {K : Nat → Nat} {R : Nat → Bool} {L : Nat} {dep : Nat → Nat} {c : pm_C} {z : yr_Z} {a1 a2 a3 a4 a5 a6 a7 : Nat → Int32}
theorem yr_elem {r g : Nat × pm_C} {m : Nat} (hz : yr_ok c (pm_pos c) z) (I : pm_CI K R L dep c) (hr : pm_row c = 0) (hL : L ≤ 200) (hK : cr_K ya_kind ya_repeated K R) (hx : yr_B tx s B) (hs : s < 8) (hT : T ≤ 200)
    (hp : pm_pos c ≤ T) (hg : g = pm_goT B K R T c 0)
    (hrd0 : ∀ c', g = (0, c') → pm_rd B K R T m c' = some r) (hrdE : g.1 ≠ 0 → r = g) {post : Int32 → SY → Prop}
    (H0 : ∀ dep' m' c' (z' : yr_Z), m' ≤ m → pm_rd B K R T m' c' = some r → pm_row c' = 0 → pm_CI K R L dep' c' → pm_pos c' ≤ T → yr_ok c' (pm_pos c') z' → post 0 (yf_down, yf_heads, yf_paid, yf_payload, yf_wants, yf_name, yf_first, yf_counts, yf_enters, yf_most, yf_many, yf_sent, yf_last, z'.1, z'.2.1, z'.2.2.1, z'.2.2.2.1, nI T, z'.2.2.2.2.1, z'.2.2.2.2.2.1, ya_kind, ya_repeated, ya_how, ya_code, ya_coming, ya_going, ya_type, ya_headers, ya_header, ya_queued, ya_otherEnded, ya_ended, ya_finishing, ya_queue, ya_prefix, ya_length, ya_got, ya_high, ya_whole, ya_has, an_g tx, ya_frame, ya_payloads, ya_table, ya_out, z'.2.2.2.2.2.2.1, z'.2.2.2.2.2.2.2.1, z'.2.2.2.2.2.2.2.2.1, z'.2.2.2.2.2.2.2.2.2.1, z'.2.2.2.2.2.2.2.2.2.2.1, z'.2.2.2.2.2.2.2.2.2.2.2.1, z'.2.2.2.2.2.2.2.2.2.2.2.2, ya_sizes))
    (HE : ∀ (z' : yr_Z), r.1 ≠ 0 → post (yr_c r.1) (yf_down, yf_heads, yf_paid, yf_payload, yf_wants, yf_name, yf_first, yf_counts, yf_enters, yf_most, yf_many, yf_sent, yf_last, z'.1, z'.2.1, z'.2.2.1, z'.2.2.2.1, nI T, z'.2.2.2.2.1, z'.2.2.2.2.2.1, ya_kind, ya_repeated, ya_how, ya_code, ya_coming, ya_going, ya_type, ya_headers, ya_header, ya_queued, ya_otherEnded, ya_ended, ya_finishing, ya_queue, ya_prefix, ya_length, ya_got, ya_high, ya_whole, ya_has, an_g tx, ya_frame, ya_payloads, ya_table, ya_out, z'.2.2.2.2.2.2.1, z'.2.2.2.2.2.2.2.1, z'.2.2.2.2.2.2.2.2.1, z'.2.2.2.2.2.2.2.2.2.1, z'.2.2.2.2.2.2.2.2.2.2.1, z'.2.2.2.2.2.2.2.2.2.2.2.1, z'.2.2.2.2.2.2.2.2.2.2.2.2, ya_sizes)) :
    wpY_element post (yf_down, yf_heads, yf_paid, yf_payload, yf_wants, yf_name, yf_first, yf_counts, yf_enters, yf_most, yf_many, yf_sent, yf_last, z.1, z.2.1, z.2.2.1, z.2.2.2.1, nI T, z.2.2.2.2.1, z.2.2.2.2.2.1, ya_kind, ya_repeated, ya_how, ya_code, ya_coming, ya_going, ya_type, ya_headers, ya_header, ya_queued, ya_otherEnded, ya_ended, ya_finishing, ya_queue, ya_prefix, ya_length, ya_got, ya_high, ya_whole, ya_has, an_g tx, ya_frame, ya_payloads, ya_table, ya_out, z.2.2.2.2.2.2.1, z.2.2.2.2.2.2.2.1, z.2.2.2.2.2.2.2.2.1, z.2.2.2.2.2.2.2.2.2.1, z.2.2.2.2.2.2.2.2.2.2.1, z.2.2.2.2.2.2.2.2.2.2.2.1, z.2.2.2.2.2.2.2.2.2.2.2.2, ya_sizes) (nI s) := by
  obtain ⟨z1, z2, z3, z4, z5, z6, a1, a2, a3, a4, a5, a6, a7⟩ := z
  dsimp only [yr_ok] at hz
  obtain ⟨rfl, rfl, rfl, rfl, rfl, rD, rA⟩ := hz
  have he : pm_end c = pm_lim c (pm_at c) := by unfold pm_end; exact if_pos hr
  have hpe := I.2.2.2.2.2.2.1
  have hl := pm_lim_le I (pm_at c) (Nat.le_refl _)
  have h3 := I.2.1
  have hin := I.2.2.2.2.1 (pm_at c) (Nat.le_refl _)
  have hty := (I.1.2.2.2.2.1 _ hin.1).1
  have hnn := I.1.2.1
  have hI : ∀ c', g = (0, c') → ∃ dep', pm_CI K R L dep' c' ∧ pm_pos c' ≤ T := by
    intro c' h
    obtain ⟨dep', i1, i2, i3⟩ := pm_goT_I I hr hK.1 hp hL (hg.symm.trans h)
    exact ⟨dep', i1, i3⟩
  have F0 : ∀ c' (z' : yr_Z), g = (0, c') → pm_row c' = 0 → yr_ok c' (pm_pos c') z' → post 0 (yf_down, yf_heads, yf_paid, yf_payload, yf_wants, yf_name, yf_first, yf_counts, yf_enters, yf_most, yf_many, yf_sent, yf_last, z'.1, z'.2.1, z'.2.2.1, z'.2.2.2.1, nI T, z'.2.2.2.2.1, z'.2.2.2.2.2.1, ya_kind, ya_repeated, ya_how, ya_code, ya_coming, ya_going, ya_type, ya_headers, ya_header, ya_queued, ya_otherEnded, ya_ended, ya_finishing, ya_queue, ya_prefix, ya_length, ya_got, ya_high, ya_whole, ya_has, an_g tx, ya_frame, ya_payloads, ya_table, ya_out, z'.2.2.2.2.2.2.1, z'.2.2.2.2.2.2.2.1, z'.2.2.2.2.2.2.2.2.1, z'.2.2.2.2.2.2.2.2.2.1, z'.2.2.2.2.2.2.2.2.2.2.1, z'.2.2.2.2.2.2.2.2.2.2.2.1, z'.2.2.2.2.2.2.2.2.2.2.2.2, ya_sizes) := by
    intro c' z' h1 h2 h3
    obtain ⟨dep', i1, i2⟩ := hI c' h1
    exact H0 dep' m c' z' (Nat.le_refl _) (hrd0 c' h1) h2 i1 i2 h3
  have FE : ∀ x (z' : yr_Z), g.1 = x → x ≠ 0 → post (yr_c x) (yf_down, yf_heads, yf_paid, yf_payload, yf_wants, yf_name, yf_first, yf_counts, yf_enters, yf_most, yf_many, yf_sent, yf_last, z'.1, z'.2.1, z'.2.2.1, z'.2.2.2.1, nI T, z'.2.2.2.2.1, z'.2.2.2.2.2.1, ya_kind, ya_repeated, ya_how, ya_code, ya_coming, ya_going, ya_type, ya_headers, ya_header, ya_queued, ya_otherEnded, ya_ended, ya_finishing, ya_queue, ya_prefix, ya_length, ya_got, ya_high, ya_whole, ya_has, an_g tx, ya_frame, ya_payloads, ya_table, ya_out, z'.2.2.2.2.2.2.1, z'.2.2.2.2.2.2.2.1, z'.2.2.2.2.2.2.2.2.1, z'.2.2.2.2.2.2.2.2.2.1, z'.2.2.2.2.2.2.2.2.2.2.1, z'.2.2.2.2.2.2.2.2.2.2.2.1, z'.2.2.2.2.2.2.2.2.2.2.2.2, ya_sizes) := by
    intro x z' h1 h2
    have hr : r = g := hrdE (by rw [h1]; exact h2)
    have := HE z' (by rw [hr, h1]; exact h2)
    rw [hr, h1] at this
    exact this
  unfold wpY_element
  dsimp only
  refine ⟨vp_in_nI (by omega) (by omega), nm_r (by rw [nI_clamp (by omega), (rA _ (Nat.le_refl _)).1]) (yr_var hx hs hT (by omega) hp (fun cc k' hv => ?_))⟩
  have hc9 : cc ≤ 9 := by
    have := pm_vr_lt (B := B) (p := pm_pos c) (e := pm_lim c (pm_at c)) (T := T) 10 0
    rw [hv] at this; exact this
  unfold pm_goT at hg
  rw [show 10 - 0 = 10 from rfl, hv] at hg
  dsimp only at hg
  by_cases hc : cc = 0
  · subst hc
    rw [if_pos rfl] at hg
    have hv' := pm_vr_ok _ _ (by omega) (by omega) hv
    generalize pm_vs B (pm_pos c) k' = x at hg ⊢
    refine br_t rfl (nm_r (pk_and x 3 (by decide)) (nm_r (yr_u3 x) ?_))
    have hX : x.toBitVec.toNat < 2 ^ 32 := x.toBitVec.isLt
    generalize x.toBitVec.toNat = X at hg hX ⊢
    have h175 : ∀ kk x7 x9 w, X / 8 ≠ 0 → (kk = if 15 < X / 8 then 0 else K (pm_fj c (X / 8))) → (X / 8 ≤ 15 → x7 = nI (pm_fj c (X / 8))) → (x9 = if 1 ≤ kk ∧ kk ≤ 3 then (1 : Int32) else 0) →
        w = X % 8 → (w = 0 ∨ w = 1 ∨ w = 2 ∨ w = 5) → ¬ (1 ≤ kk ∧ kk ≤ 3 ∧ w = if kk = 3 then 5 else 0) →
        wY_element_175 post (nI s) (nI (pm_pos c)) (nI (pm_lim c (pm_at c))) (nI w) (nI (X / 8)) x7 (nI kk + (-1)) x9 0 yf_down yf_heads yf_paid yf_payload yf_wants yf_name yf_first yf_counts yf_enters yf_most yf_many yf_sent yf_last (nI (pm_nn (pm_d c))) (nI (pm_nv (pm_d c))) (nI (pm_sk c)) (nI (pm_pos c + k')) (nI T) (x) (nI (pm_at c)) ya_kind ya_repeated ya_how ya_code ya_coming ya_going ya_type ya_headers ya_header ya_queued ya_otherEnded ya_ended ya_finishing ya_queue ya_prefix ya_length ya_got ya_high ya_whole ya_has (an_g tx) ya_frame ya_payloads ya_table ya_out (a1) (a2) (a3) (a4) (a5) (a6) (a7) ya_sizes := by
      intro kk x7 x9 w hn hkk hx7 hx9 hw hw4 hpl
      refine yr_175 rD rA I hr hL hK hx hs hT (by omega) (by omega) (by omega) (by omega) hkk hx7 hx9 hw4 hpl ?_ hI hrd0 hrdE H0 HE
      have hk8 := hK.1 (pm_fj c (X / 8))
      obtain ⟨w0, w5, w2⟩ := pm_w_0 _ hk8
      rw [hg]
      unfold pm_dis
      rw [if_neg hn, ← hw]
      rcases hw4 with y | y | y | y
      · subst y
        rw [if_pos rfl, if_pos rfl]
        have : pm_fl K R c (X / 8) 0 = 0 := by
          unfold pm_fl
          split
          · rfl
          rename_i y1
          rw [if_neg y1] at hkk
          split
          · rfl
          rename_i y2
          rw [if_neg]
          intro y3
          rcases y3 with y3 | y3
          · have := w0.mp y3.symm
            exact hpl ⟨by omega, by omega, by rw [if_neg (by omega)]⟩
          · exact absurd y3.1 (by decide)
        rw [this]
      · subst y
        rw [if_neg (by decide), if_neg (by decide), if_neg (by decide), if_pos rfl, if_neg (by decide), if_neg (by decide), if_pos rfl]
      · subst y
        rw [if_neg (by decide), if_pos rfl, if_neg (by decide), if_pos rfl]
      · subst y
        rw [if_neg (by decide), if_neg (by decide), if_pos rfl, if_neg (by decide), if_neg (by decide), if_neg (by decide)]
        have : pm_fl K R c (X / 8) 5 = 0 := by
          unfold pm_fl
          split
          · rfl
          rename_i y1
          rw [if_neg y1] at hkk
          split
          · rfl
          rename_i y2
          rw [if_neg]
          intro y3
          rcases y3 with y3 | y3
          · have := w5.mp y3.symm
            exact hpl ⟨by omega, by omega, by rw [if_pos (by omega)]⟩
          · exact absurd y3.1 (by decide)
        rw [this]
    have hsing : ∀ kk x7 x9 w, X / 8 ≠ 0 → X / 8 ≤ 15 → kk = K (pm_fj c (X / 8)) → w = X % 8 → (1 ≤ kk ∧ kk ≤ 3 ∧ w = if kk = 3 then 5 else 0) →
        wY_element_175 post (nI s) (nI (pm_pos c)) (nI (pm_lim c (pm_at c))) (nI w) (nI (X / 8)) x7 (nI kk + (-1)) x9 1 yf_down yf_heads yf_paid yf_payload yf_wants yf_name yf_first yf_counts yf_enters yf_most yf_many yf_sent yf_last (nI (pm_nn (pm_d c))) (nI (pm_nv (pm_d c))) (nI (pm_sk c)) (nI (pm_pos c + k')) (nI T) (x) (nI (pm_at c)) ya_kind ya_repeated ya_how ya_code ya_coming ya_going ya_type ya_headers ya_header ya_queued ya_otherEnded ya_ended ya_finishing ya_queue ya_prefix ya_length ya_got ya_high ya_whole ya_has (an_g tx) ya_frame ya_payloads ya_table ya_out (a1) (a2) (a3) (a4) (a5) (a6) (a7) ya_sizes := by
      intro kk x7 x9 w hn hn15 hkk hw hpl
      obtain ⟨p1, p2, p3⟩ := hpl
      unfold wY_element_175
      refine br_f (by decide) ?_
      refine yr_single (z := (nI (pm_nn (pm_d c)), nI (pm_nv (pm_d c)), nI (pm_sk c), nI (pm_pos c + k'), x, nI (pm_at c), a1, a2, a3, a4, a5, a6, a7)) (g := g) ⟨rfl, rfl, rfl, rfl, rfl, rD, rA⟩ I hL hK hx hs hT (by omega) (by omega) he.symm (by omega) hn15 hkk.symm p1 p2 ?_ (fun c' z' h1 h2 => F0 c' z' h1 ?_ h2) FE
      · rw [hg]
        unfold pm_dis
        rw [if_neg hn, ← hw]
        by_cases y : kk = 3
        · rw [if_pos y] at p3
          rw [p3, if_neg (by decide), if_neg (by decide), if_pos rfl, if_pos y]
          have : pm_fl K R c (X / 8) 5 = X / 8 := by
            unfold pm_fl
            rw [if_neg (by omega), if_neg (by omega), if_pos (Or.inl (by rw [← hkk, y]; decide))]
          rw [this]
        · rw [if_neg y] at p3
          rw [p3, if_pos rfl, if_neg y]
          have : pm_fl K R c (X / 8) 0 = X / 8 := by
            unfold pm_fl
            rw [if_neg (by omega), if_neg (by omega), if_pos (Or.inl (by
              rw [← hkk]; exact ((pm_w_0 kk (by omega)).1.mpr (by omega)).symm))]
          rw [this]
      · have hrow : pm_row (pm_dis B K R T c (pm_pos c + k') X).2 = 0 := by
          unfold pm_dis
          rw [if_neg hn, ← hw]
          by_cases y : kk = 3
          · rw [if_pos y] at p3
            rw [p3, if_neg (by decide), if_neg (by decide), if_pos rfl, pm_goF_r]; exact hr
          · rw [if_neg y] at p3
            rw [p3, if_pos rfl, pm_goV_r]; exact hr
        rw [← hg, h1] at hrow
        exact hrow
    have h129 : ∀ kk x7 w, X / 8 ≠ 0 → (kk = if 15 < X / 8 then 0 else K (pm_fj c (X / 8))) → (X / 8 ≤ 15 → x7 = nI (pm_fj c (X / 8))) → w = X % 8 → (w = 0 ∨ w = 1 ∨ w = 2 ∨ w = 5) →
        wY_element_129 post (nI s) (nI (pm_pos c)) (nI (pm_lim c (pm_at c))) (nI w) (nI (X / 8)) x7 (nI kk + (-1)) yf_down yf_heads yf_paid yf_payload yf_wants yf_name yf_first yf_counts yf_enters yf_most yf_many yf_sent yf_last (nI (pm_nn (pm_d c))) (nI (pm_nv (pm_d c))) (nI (pm_sk c)) (nI (pm_pos c + k')) (nI T) (x) (nI (pm_at c)) ya_kind ya_repeated ya_how ya_code ya_coming ya_going ya_type ya_headers ya_header ya_queued ya_otherEnded ya_ended ya_finishing ya_queue ya_prefix ya_length ya_got ya_high ya_whole ya_has (an_g tx) ya_frame ya_payloads ya_table ya_out (a1) (a2) (a3) (a4) (a5) (a6) (a7) ya_sizes := by
      intro kk x7 w hn hkk hx7 hw hw4
      have hk8 : kk ≤ 8 := by
        rw [hkk]; split
        · omega
        · exact hK.1 _
      have yk := yr_k kk hk8
      have h146 : ¬ (1 ≤ kk ∧ kk ≤ 3) → wY_element_146 post (nI s) (nI (pm_pos c)) (nI (pm_lim c (pm_at c))) (nI w) (nI (X / 8)) x7 (nI kk + (-1)) yf_down yf_heads yf_paid yf_payload yf_wants yf_name yf_first yf_counts yf_enters yf_most yf_many yf_sent yf_last (nI (pm_nn (pm_d c))) (nI (pm_nv (pm_d c))) (nI (pm_sk c)) (nI (pm_pos c + k')) (nI T) (x) (nI (pm_at c)) ya_kind ya_repeated ya_how ya_code ya_coming ya_going ya_type ya_headers ya_header ya_queued ya_otherEnded ya_ended ya_finishing ya_queue ya_prefix ya_length ya_got ya_high ya_whole ya_has (an_g tx) ya_frame ya_payloads ya_table ya_out (a1) (a2) (a3) (a4) (a5) (a6) (a7) ya_sizes := by
        intro y
        unfold wY_element_146 wY_element_147
        refine br_t rfl ?_
        unfold wY_element_174
        exact h175 kk x7 0 w hn hkk hx7 (by rw [if_neg y]) hw hw4 (fun y' => y ⟨y'.1, y'.2.1⟩)
      unfold wY_element_129
      refine br_c (fun y => h146 (by have := yk.2.2.1.mp y; omega)) (fun y => br_c (fun y2 => h146 (by have := yk.2.2.2.1.mp y2; omega)) (fun y2 => ?_))
      have hk1 : 1 ≤ kk := by
        rcases Nat.eq_zero_or_pos kk with y3 | y3
        · exact absurd (yk.2.2.1.mpr y3) y
        · exact y3
      have hk3 : kk ≤ 3 := by
        rcases Nat.lt_or_ge kk 4 with y3 | y3
        · omega
        · exact absurd (yk.2.2.2.1.mpr y3) y2
      have hn15 : X / 8 ≤ 15 := by
        rcases Nat.lt_or_ge 15 (X / 8) with y3 | y3
        · rw [if_pos y3] at hkk; omega
        · exact y3
      have hkn : kk = K (pm_fj c (X / 8)) := by rw [hkk, if_neg (by omega)]
      unfold wY_element_147
      refine br_f (by decide) (br_c (fun y3 => ?_) (fun y3 => ?_))
      · have y4 := yk.1.mp y3
        unfold wY_element_167
        refine pk_eq w 5 (fun y5 => hsing kk x7 1 w hn hn15 hkn hw ⟨hk1, hk3, by rw [if_pos y4]; exact y5⟩) (fun y5 => ?_) rfl rfl (by omega) (by omega)
        unfold wY_element_174
        exact h175 kk x7 1 w hn hkk hx7 (by rw [if_pos ⟨hk1, hk3⟩]) hw hw4 (fun y' => y5 (by have := y'.2.2; rw [if_pos y4] at this; exact this))
      · have y4 : kk ≠ 3 := fun y5 => y3 (yk.1.mpr y5)
        unfold wY_element_167
        refine pk_eq w 0 (fun y5 => hsing kk x7 1 w hn hn15 hkn hw ⟨hk1, hk3, by rw [if_neg y4]; exact y5⟩) (fun y5 => ?_) rfl rfl (by omega) (by omega)
        unfold wY_element_174
        exact h175 kk x7 1 w hn hkk hx7 (by rw [if_pos ⟨hk1, hk3⟩]) hw hw4 (fun y' => y5 (by have := y'.2.2; rw [if_neg y4] at this; exact this))
    have h71 : ∀ w, w = X % 8 → (w = 0 ∨ w = 1 ∨ w = 2 ∨ w = 5) → wY_element_71 post (nI s) (nI (pm_pos c)) (nI (pm_lim c (pm_at c))) (nI w) (nI (X / 8)) yf_down yf_heads yf_paid yf_payload yf_wants yf_name yf_first yf_counts yf_enters yf_most yf_many yf_sent yf_last (nI (pm_nn (pm_d c))) (nI (pm_nv (pm_d c))) (nI (pm_sk c)) (nI (pm_pos c + k')) (nI T) (x) (nI (pm_at c)) ya_kind ya_repeated ya_how ya_code ya_coming ya_going ya_type ya_headers ya_header ya_queued ya_otherEnded ya_ended ya_finishing ya_queue ya_prefix ya_length ya_got ya_high ya_whole ya_has (an_g tx) ya_frame ya_payloads ya_table ya_out (a1) (a2) (a3) (a4) (a5) (a6) (a7) ya_sizes := by
      intro w hw hw4
      unfold wY_element_71
      refine pk_eq (X / 8) 0 (fun y => ?_) (fun y => ?_) rfl rfl (by omega) (by omega)
      · refine FE 2 (nI (pm_nn (pm_d c)), nI (pm_nv (pm_d c)), nI (pm_sk c), nI (pm_pos c + k'), x, nI (pm_at c), a1, a2, a3, a4, a5, a6, a7) ?_ (by omega)
        rw [hg]; unfold pm_dis; rw [if_pos y]
      refine pk_le (X / 8) 15 (fun y2 => ?_) (fun y2 => ?_) rfl rfl (by omega) (by omega)
      · have hj : pm_fj c (X / 8) < 64 := by
          show 16 * pm_nt (pm_d c) (pm_ins c (pm_at c)) + X / 8 < 64; omega
        have ej : 16 * nI (pm_nt (pm_d c) (pm_ins c (pm_at c))) + nI (X / 8) = nI (pm_fj c (X / 8)) := by
          rw [show (16 : Int32) = nI 16 from rfl, pk_mul, nI_add]; rfl
        rw [nI_clamp (show pm_at c < 2 ^ 31 by omega), (rA _ (Nat.le_refl _)).2, nI_clamp (show pm_ins c (pm_at c) < 2 ^ 31 by omega), rD.1 _ hin.1, ej]
        refine ⟨vp_in_nI (by omega) (by omega), vp_in_nI (by omega) (by omega), ?_⟩
        unfold wY_element_109
        refine pk_le (X / 8) 15 (fun _ => ?_) (fun y3 => absurd y3 (by omega)) rfl rfl (by omega) (by omega)
        rw [nI_clamp (by omega), hK.2.1 _ hj]
        exact ⟨vp_in_nI hj (by omega), h129 _ _ w y (by rw [if_neg (by omega)]) (fun _ => rfl) hw hw4⟩
      · unfold wY_element_109
        refine pk_le (X / 8) 15 (fun y3 => absurd y3 (by omega)) (fun _ => ?_) rfl rfl (by omega) (by omega)
        exact h129 0 _ w y (by rw [if_pos y2]) (fun y3 => absurd y3 (by omega)) hw hw4
    refine pk_eq (X % 2 ^ 3) 0 (fun y => h71 _ rfl (by omega)) (fun y0 => ?_) rfl rfl (by omega) (by omega)
    refine pk_eq (X % 2 ^ 3) 1 (fun y => h71 _ rfl (by omega)) (fun y1 => ?_) rfl rfl (by omega) (by omega)
    refine pk_eq (X % 2 ^ 3) 2 (fun y => h71 _ rfl (by omega)) (fun y2 => ?_) rfl rfl (by omega) (by omega)
    refine pk_eq (X % 2 ^ 3) 5 (fun y => h71 _ rfl (by omega)) (fun y5 => ?_) rfl rfl (by omega) (by omega)
    refine FE 2 (nI (pm_nn (pm_d c)), nI (pm_nv (pm_d c)), nI (pm_sk c), nI (pm_pos c + k'), x, nI (pm_at c), a1, a2, a3, a4, a5, a6, a7) ?_ (by omega)
    rw [hg]; unfold pm_dis
    split
    · rfl
    · first | rfl | (rw [if_neg (by omega), if_neg (by omega), if_neg (by omega), if_neg (by omega)])
  · rw [if_neg hc] at hg
    exact br_f (yr_ne cc hc9 hc) (FE cc (nI (pm_nn (pm_d c)), nI (pm_nv (pm_d c)), nI (pm_sk c), nI (pm_pos c + k'), _, nI (pm_at c), a1, a2, a3, a4, a5, a6, a7) (by rw [hg]) hc)
theorem yr_pop {post : Int32 → SY → Prop} {J : Int32 → Int32 → Int32 → Int32 → Int32 → Int32 → Int32 → Int32 → Int32 → Int32 → Int32 → Int32 → Int32 → Int32 → Int32 → Int32 → Int32 → Int32 → Int32 → Int32 → Int32 → (Nat → Int32) → (Nat → Int32) → (Nat → Int32) → (Nat → Int32) → (Nat → Int32) → (Nat → Int32) → (Nat → Int32) → (Nat → Int32) → (Nat → Int32) → (Nat → Int32) → (Nat → Int32) → (Nat → Int32) → (Nat → Int32) → (Nat → Int32) → (Nat → Int32) → (Nat → Int32) → (Nat → Int32) → (Nat → Int32) → (Nat → Int32) → (Nat → Int32) → (Nat → Int32) → (Nat → Int32) → (Nat → Int32) → (Nat → Int32) → (Nat → Int32) → (Nat → Int32) → (Nat → Int32) → (Nat → Int32) → (Nat → Int32) → (Nat → Int32) → (Nat → Int32) → (Nat → Int32) → (Nat → Int32) → Prop} {p : Nat} {lim : Nat → Nat} (hp : p < 2 ^ 31) (hl : ∀ i, lim i < 2 ^ 31) : ∀ a, a ≤ 3 → (∀ i, i ≤ a → ya_limit i = nI (lim i)) →
    wY_read_108 post J (nI s) yf_down yf_heads yf_paid yf_payload yf_wants yf_name yf_first yf_counts yf_enters yf_most yf_many yf_sent yf_last yf_nodes yf_values yf_skipped (nI p) yf_there yf_number (nI (pm_pop lim p a)) ya_kind ya_repeated ya_how ya_code ya_coming ya_going ya_type ya_headers ya_header ya_queued ya_otherEnded ya_ended ya_finishing ya_queue ya_prefix ya_length ya_got ya_high ya_whole ya_has ya_bytes ya_frame ya_payloads ya_table ya_out ya_nodeType ya_valueNode ya_valueNumber ya_value ya_from ya_limit ya_inside ya_sizes →
    wY_read_72 post J (nI s) yf_down yf_heads yf_paid yf_payload yf_wants yf_name yf_first yf_counts yf_enters yf_most yf_many yf_sent yf_last yf_nodes yf_values yf_skipped (nI p) yf_there yf_number ya_kind ya_repeated ya_how ya_code ya_coming ya_going ya_type ya_headers ya_header ya_queued ya_otherEnded ya_ended ya_finishing ya_queue ya_prefix ya_length ya_got ya_high ya_whole ya_has ya_bytes ya_frame ya_payloads ya_table ya_out ya_nodeType ya_valueNode ya_valueNumber ya_value ya_from ya_limit ya_inside ya_sizes (a + 1) (nI a)
  | 0, _, _, H => by
    rw [wY_read_72]
    exact br_t (by decide) H
  | a + 1, ha, hli, H => by
    rw [wY_read_72]
    refine pk_le (a + 1) 0 (fun y => absurd y (by omega)) (fun _ => ⟨vp_in_nI (by omega) (by omega), ?_⟩)
    rw [nI_clamp (by omega), hli (a + 1) (Nat.le_refl _)]
    rw [pm_pop] at H
    have := hl (a + 1)
    refine pk_eq p (lim (a + 1)) (fun y => ?_) (fun y => ?_) rfl rfl hp this
    · rw [if_pos y] at H
      exact nm_r (nI_pred a) (yr_pop hp hl a (by omega) (fun i hi => hli i (by omega)) H)
    · rw [if_neg y] at H
      exact H
end
section
variable {yf_down yf_heads yf_paid yf_payload yf_wants yf_name yf_first yf_counts yf_enters yf_most yf_many yf_sent yf_last yf_nodes yf_values yf_skipped yf_pos yf_there yf_number yf_at : Int32} {ya_kind ya_repeated ya_how ya_code ya_coming ya_going ya_type ya_headers ya_header ya_queued ya_otherEnded ya_ended ya_finishing ya_queue ya_prefix ya_length ya_got ya_high ya_whole ya_has ya_bytes ya_frame ya_payloads ya_table ya_out ya_nodeType ya_valueNode ya_valueNumber ya_value ya_from ya_limit ya_inside ya_sizes : Nat → Int32} {s q e T : Nat} {tx B : Nat → Nat} {K : Nat → Nat} {R : Nat → Bool} {L : Nat} {dep : Nat → Nat} {c : pm_C} {z : yr_Z} {a1 a2 a3 a4 a5 a6 a7 : Nat → Int32}
/-- what a reading answers -/
def yr_a (x : Nat) : Int32 := if x = 9 then 0 else nI x
theorem yr_a9 : ∀ x, x ≤ 9 → x ≠ 0 → ¬ yr_c x = 0 ∧ ((x = 9 → ¬ (0 : Int32) ≤ yr_c x) ∧ (x ≠ 9 → (0 : Int32) ≤ yr_c x ∧ yr_c x = nI x)) := by
  unfold yr_c
  decide +kernel
theorem pm_c9_part {f t q len : Nat} : (pm_part R c f t q len).1 ≤ 9 := by
  unfold pm_part
  split
  · show 0 ≤ 9; omega
  split
  · show 5 ≤ 9; omega
  · show 0 ≤ 9; omega
theorem pm_c9_body {f q len : Nat} : (pm_body K R T c f q len).1 ≤ 9 := by
  unfold pm_body
  split
  · split
    · show 9 ≤ 9; omega
    · exact pm_c9_fin
  split
  · split
    · show 5 ≤ 9; omega
    split
    · show 9 ≤ 9; omega
    · exact pm_c9_fin
  split
  · exact pm_c9_part
  · show 0 ≤ 9; omega
theorem pm_c9_L {B : Nat → Nat} {f d : Nat} : (pm_goL B K R T c f q d).1 ≤ 9 := by
  unfold pm_goL
  split
  · unfold pm_len
    split
    · show 4 ≤ 9; omega
    · exact pm_c9_body
  · exact pm_vr_lt _ _
theorem pm_c9_T {B : Nat → Nat} {d : Nat} : (pm_goT B K R T c d).1 ≤ 9 := by
  unfold pm_goT
  split
  · unfold pm_dis
    split
    · show 2 ≤ 9; omega
    split
    · exact pm_c9_V
    split
    · exact pm_c9_L
    split
    · exact pm_c9_F
    split
    · exact pm_c9_F
    · show 2 ≤ 9; omega
  · exact pm_vr_lt _ _
theorem pm_rd_9 {B : Nat → Nat} {r : Nat × pm_C} : ∀ n c, pm_rd B K R T n c = some r → r.1 ≤ 9
  | 0, c, h => by simp [pm_rd] at h
  | n + 1, c, h => by
    rw [pm_rd] at h
    split at h
    · split at h
      · exact pm_rd_9 n _ h
      split at h
      · exact pm_rd_9 n _ h
      · rw [← Option.some.inj h]; exact pm_c9_S
    split at h
    · rw [← Option.some.inj h]; show 0 ≤ 9; omega
    split at h
    · exact pm_rd_9 n _ h
    · rw [← Option.some.inj h]; exact pm_c9_T
theorem yr_loop {r : Nat × pm_C} (hL : L ≤ 200) (hK : cr_K ya_kind ya_repeated K R) (hx : yr_B tx s B) (hs : s < 8) (hT : T ≤ 200) {post : Int32 → SY → Prop}
    (H0 : ∀ c' (z' : yr_Z), r = (0, c') → yr_ok c' (pm_pos c') z' → post 0 (yf_down, yf_heads, yf_paid, yf_payload, yf_wants, yf_name, yf_first, yf_counts, yf_enters, yf_most, yf_many, yf_sent, yf_last, z'.1, z'.2.1, z'.2.2.1, z'.2.2.2.1, nI T, z'.2.2.2.2.1, z'.2.2.2.2.2.1, ya_kind, ya_repeated, ya_how, ya_code, ya_coming, ya_going, ya_type, ya_headers, ya_header, ya_queued, ya_otherEnded, ya_ended, ya_finishing, ya_queue, ya_prefix, ya_length, ya_got, ya_high, ya_whole, ya_has, an_g tx, ya_frame, ya_payloads, ya_table, ya_out, z'.2.2.2.2.2.2.1, z'.2.2.2.2.2.2.2.1, z'.2.2.2.2.2.2.2.2.1, z'.2.2.2.2.2.2.2.2.2.1, z'.2.2.2.2.2.2.2.2.2.2.1, z'.2.2.2.2.2.2.2.2.2.2.2.1, z'.2.2.2.2.2.2.2.2.2.2.2.2, ya_sizes)) (HE : ∀ (z' : yr_Z), r.1 ≠ 0 → post (yr_a r.1) (yf_down, yf_heads, yf_paid, yf_payload, yf_wants, yf_name, yf_first, yf_counts, yf_enters, yf_most, yf_many, yf_sent, yf_last, z'.1, z'.2.1, z'.2.2.1, z'.2.2.2.1, nI T, z'.2.2.2.2.1, z'.2.2.2.2.2.1, ya_kind, ya_repeated, ya_how, ya_code, ya_coming, ya_going, ya_type, ya_headers, ya_header, ya_queued, ya_otherEnded, ya_ended, ya_finishing, ya_queue, ya_prefix, ya_length, ya_got, ya_high, ya_whole, ya_has, an_g tx, ya_frame, ya_payloads, ya_table, ya_out, z'.2.2.2.2.2.2.1, z'.2.2.2.2.2.2.2.1, z'.2.2.2.2.2.2.2.2.1, z'.2.2.2.2.2.2.2.2.2.1, z'.2.2.2.2.2.2.2.2.2.2.1, z'.2.2.2.2.2.2.2.2.2.2.2.1, z'.2.2.2.2.2.2.2.2.2.2.2.2, ya_sizes)) : ∀ N m n dep c (z : yr_Z), m ≤ N → m < n →
    pm_rd B K R T m c = some r → pm_row c = 0 → pm_CI K R L dep c → pm_pos c ≤ T → yr_ok c (pm_pos c) z →
    wY_read_68 post (nI s) n 0 yf_down yf_heads yf_paid yf_payload yf_wants yf_name yf_first yf_counts yf_enters yf_most yf_many yf_sent yf_last (z.1) (z.2.1) (z.2.2.1) (z.2.2.2.1) (nI T) (z.2.2.2.2.1) (z.2.2.2.2.2.1) ya_kind ya_repeated ya_how ya_code ya_coming ya_going ya_type ya_headers ya_header ya_queued ya_otherEnded ya_ended ya_finishing ya_queue ya_prefix ya_length ya_got ya_high ya_whole ya_has (an_g tx) ya_frame ya_payloads ya_table ya_out (z.2.2.2.2.2.2.1) (z.2.2.2.2.2.2.2.1) (z.2.2.2.2.2.2.2.2.1) (z.2.2.2.2.2.2.2.2.2.1) (z.2.2.2.2.2.2.2.2.2.2.1) (z.2.2.2.2.2.2.2.2.2.2.2.1) (z.2.2.2.2.2.2.2.2.2.2.2.2) ya_sizes
  | 0, m, n, dep, c, z, h1, _, hrd, _, _, _, _ => by
    have : m = 0 := by omega
    subst this
    simp [pm_rd] at hrd
  | N + 1, m, n, dep, c, z, h1, h2, hrd, hr, I, hp, hz => by
    obtain ⟨m, rfl⟩ : ∃ m', m = m' + 1 := ⟨m - 1, by cases m with
      | zero => simp [pm_rd] at hrd
      | succ m => omega⟩
    obtain ⟨n, rfl⟩ : ∃ n', n = n' + 1 := ⟨n - 1, by omega⟩
    obtain ⟨z1, z2, z3, z4, z5, z6, a1, a2, a3, a4, a5, a6, a7⟩ := z
    dsimp only [yr_ok] at hz
    obtain ⟨rfl, rfl, rfl, rfl, rfl, rD, rA⟩ := hz
    have hr9 := pm_rd_9 _ _ hrd
    have I' := pm_CI_pop I hr
    have hpop := pm_pop_s (lim := pm_lim c) (p := pm_pos c) (pm_at c)
    have h3 := I.2.1
    have hl0 := I.2.2.2.1
    have hz' : yr_ok (pm_popC c) (pm_pos (pm_popC c)) (nI (pm_nn (pm_d c)), nI (pm_nv (pm_d c)), nI (pm_sk c), nI (pm_pos c), z5, nI (pm_pop (pm_lim c) (pm_pos c) (pm_at c)), a1, a2, a3, a4, a5, a6, a7) :=
      ⟨rfl, rfl, rfl, rfl, rfl, rD, fun i hi => rA i (Nat.le_trans hi hpop.1)⟩
    rw [wY_read_68]
    refine br_t rfl ⟨pm_at c + 1, ?_⟩
    have hll : ∀ i, (if i ≤ pm_at c then pm_lim c i else 0) < 2 ^ 31 := by
      intro i
      split
      · rename_i y
        have := pm_lim_le I i y
        omega
      · omega
    have epop : ∀ a, a ≤ pm_at c → pm_pop (fun i => if i ≤ pm_at c then pm_lim c i else 0) (pm_pos c) a = pm_pop (pm_lim c) (pm_pos c) a := by
      intro a
      induction a with
      | zero => intro _; rfl
      | succ a ih =>
        intro ha
        rw [pm_pop, pm_pop, if_pos ha, ih (by omega)]
    refine yr_pop (lim := fun i => if i ≤ pm_at c then pm_lim c i else 0) (by omega) hll (pm_at c) h3 (fun i hi => by rw [if_pos hi]; exact (rA i hi).1) ?_
    rw [epop _ (Nat.le_refl _)]
    unfold wY_read_108
    dsimp only
    rw [(rA 0 (by omega)).1]
    rw [pm_rd, if_neg (fun y => y hr)] at hrd
    have hll0 := pm_lim_le I 0 (by omega)
    refine pk_eq (pm_pos c) (pm_lim c 0) (fun y => ?_) (fun y => ?_)
    · rw [if_pos y] at hrd
      exact H0 (pm_popC c) _ (Option.some.inj hrd).symm hz'
    · rw [if_neg y] at hrd
      refine yr_elem (m := m) (r := r) (c := pm_popC c) (g := pm_goT B K R T (pm_popC c) 0) hz' I' hr hL hK hx hs hT hp rfl (fun c' h => ?_) (fun h => ?_) (fun dep' m' c' z' h4 h5 h6 h7 h8 h9 => ?_) (fun z' h4 => ?_)
      · rw [h, if_pos rfl] at hrd
        exact hrd
      · rw [if_neg h] at hrd
        exact (Option.some.inj hrd).symm
      · exact yr_loop hL hK hx hs hT H0 HE N m' n dep' c' z' (by omega) (by omega) h5 h6 h7 h8 h9
      · obtain ⟨n, rfl⟩ : ∃ n', n = n' + 1 := ⟨n - 1, by omega⟩
        obtain ⟨e1, e2, e3⟩ := yr_a9 r.1 hr9 h4
        have hfin := HE z' h4
        unfold yr_a at hfin
        rw [wY_read_68]
        refine br_f e1 ?_
        by_cases h9 : r.1 = 9
        · rw [if_pos h9] at hfin
          exact br_f (e2 h9) hfin
        · rw [if_neg h9] at hfin
          rw [(e3 h9).2]
          exact br_t (by rw [← (e3 h9).2]; exact (e3 h9).1) hfin
theorem cr_0_I {y : Nat} (hy : y < 4) : pm_CI K R L (fun _ => 0) (cr_0 y L) := by
  refine ⟨⟨Nat.le_refl _, by show 1 ≤ 16; omega, Nat.zero_le _, rfl, fun i _ => ⟨hy, Nat.zero_le _⟩, fun j hj => absurd hj (Nat.not_lt_zero _), fun i j _ hj => absurd hj (Nat.not_lt_zero _), fun m h1 h2 => absurd h2 (by show ¬ m < 1; omega)⟩,
    Nat.zero_le _, rfl, rfl, fun i hi => ⟨by show 0 < 1; omega, by show 0 = i; have : i ≤ 0 := hi; omega⟩, fun i hi => absurd hi (Nat.not_lt_zero _), Nat.zero_le _, fun h => absurd rfl h⟩
theorem yr_read {r : Nat × pm_C} {y : Nat} (hy : y < 4) (hL : L ≤ 200) (hK : cr_K ya_kind ya_repeated K R) (hx : yr_B tx s B) (hs : s < 8) (hT : T ≤ 200)
    (hty : ya_type s = nI y) (hle : ya_length s = nI L) (hgo : ya_got s = nI T) (hrd : pm_Rd B K R T (cr_0 y L) r) {post : Int32 → SY → Prop}
    (H0 : ∀ c' (z' : yr_Z), r = (0, c') → yr_ok c' (pm_pos c') z' → post 0 (yf_down, yf_heads, yf_paid, yf_payload, yf_wants, yf_name, yf_first, yf_counts, yf_enters, yf_most, yf_many, yf_sent, yf_last, z'.1, z'.2.1, z'.2.2.1, z'.2.2.2.1, nI T, z'.2.2.2.2.1, z'.2.2.2.2.2.1, ya_kind, ya_repeated, ya_how, ya_code, ya_coming, ya_going, ya_type, ya_headers, ya_header, ya_queued, ya_otherEnded, ya_ended, ya_finishing, ya_queue, ya_prefix, ya_length, ya_got, ya_high, ya_whole, ya_has, an_g tx, ya_frame, ya_payloads, ya_table, ya_out, z'.2.2.2.2.2.2.1, z'.2.2.2.2.2.2.2.1, z'.2.2.2.2.2.2.2.2.1, z'.2.2.2.2.2.2.2.2.2.1, z'.2.2.2.2.2.2.2.2.2.2.1, z'.2.2.2.2.2.2.2.2.2.2.2.1, z'.2.2.2.2.2.2.2.2.2.2.2.2, ya_sizes)) (HE : ∀ (z' : yr_Z), r.1 ≠ 0 → post (yr_a r.1) (yf_down, yf_heads, yf_paid, yf_payload, yf_wants, yf_name, yf_first, yf_counts, yf_enters, yf_most, yf_many, yf_sent, yf_last, z'.1, z'.2.1, z'.2.2.1, z'.2.2.2.1, nI T, z'.2.2.2.2.1, z'.2.2.2.2.2.1, ya_kind, ya_repeated, ya_how, ya_code, ya_coming, ya_going, ya_type, ya_headers, ya_header, ya_queued, ya_otherEnded, ya_ended, ya_finishing, ya_queue, ya_prefix, ya_length, ya_got, ya_high, ya_whole, ya_has, an_g tx, ya_frame, ya_payloads, ya_table, ya_out, z'.2.2.2.2.2.2.1, z'.2.2.2.2.2.2.2.1, z'.2.2.2.2.2.2.2.2.1, z'.2.2.2.2.2.2.2.2.2.1, z'.2.2.2.2.2.2.2.2.2.2.1, z'.2.2.2.2.2.2.2.2.2.2.2.1, z'.2.2.2.2.2.2.2.2.2.2.2.2, ya_sizes)) :
    wpY_read post (yf_down, yf_heads, yf_paid, yf_payload, yf_wants, yf_name, yf_first, yf_counts, yf_enters, yf_most, yf_many, yf_sent, yf_last, yf_nodes, yf_values, yf_skipped, yf_pos, yf_there, yf_number, yf_at, ya_kind, ya_repeated, ya_how, ya_code, ya_coming, ya_going, ya_type, ya_headers, ya_header, ya_queued, ya_otherEnded, ya_ended, ya_finishing, ya_queue, ya_prefix, ya_length, ya_got, ya_high, ya_whole, ya_has, an_g tx, ya_frame, ya_payloads, ya_table, ya_out, ya_nodeType, ya_valueNode, ya_valueNumber, ya_value, ya_from, ya_limit, ya_inside, ya_sizes) (nI s) := by
  obtain ⟨m, hm⟩ := hrd
  have hi : vp_in (nI s) 8 := vp_in_nI hs (by omega)
  unfold wpY_read
  dsimp only
  rw [nI_clamp (by omega), hty, hle, hgo]
  refine ⟨hi, nm_e ⟨hi, nm_e ⟨hi, nm_e (nm_e ⟨m + 1, ?_⟩)⟩⟩⟩
  refine yr_loop hL hK hx hs hT H0 HE m m (m + 1) (fun _ => 0) (cr_0 y L) (1, 0, 0, 0, yf_number, 0, upd ya_nodeType 0 (nI y), ya_valueNode, ya_valueNumber, ya_value, ya_from, upd ya_limit 0 (nI L), upd ya_inside 0 0) (Nat.le_refl _) (by omega) hm rfl (cr_0_I hy) (Nat.zero_le _) ?_
  refine ⟨rfl, rfl, rfl, rfl, rfl, ⟨fun i hi => ?_, fun j hj => absurd hj (Nat.not_lt_zero _)⟩, fun i hi => ?_⟩
  · have : i = 0 := by
      have : i < 1 := hi
      omega
    subst this; rfl
  · have : i = 0 := by
      have : i ≤ 0 := hi
      omega
    subst this; exact ⟨rfl, rfl⟩
end
end
section
/-! N: how the component reads: its small steps -/
section
theorem xr_ix {s k : Nat} (hs : s < 8) (hk : k < 11) : nI s * 11 = nI (11 * s) ∧ vp_in (nI (11 * s) + nI k) 88 ∧ (nI (11 * s) + nI k).toNatClampNeg = 11 * s + k := by
  refine ⟨?_, ?_, ?_⟩
  · rw [show (11 : Int32) = nI 11 from rfl, pk_mul, Nat.mul_comm]
  · rw [nI_add]; exact vp_in_nI (by omega) (by omega)
  · rw [nI_add, nI_clamp (by omega)]
theorem xr_c4 {s a : Nat} (hs : s < 8) (ha : a ≤ 3) : vp_in (nI s * 4 + nI a) 32 ∧ (nI s * 4 + nI a).toNatClampNeg = 4 * s + a := by
  have e : nI s * 4 + nI a = nI (4 * s + a) := by
    rw [show (4 : Int32) = nI 4 from rfl, pk_mul, nI_add, Nat.mul_comm]
  rw [e]
  exact ⟨vp_in_nI (by omega) (by omega), nI_clamp (by omega)⟩
theorem xr_c48 {s a : Nat} (hs : s < 8) (ha : a < 48) : nI s * 48 + nI a = nI (48 * s + a) ∧ vp_in (nI (48 * s + a)) 384 ∧ (nI (48 * s + a)).toNatClampNeg = 48 * s + a := by
  refine ⟨?_, vp_in_nI (by omega) (by omega), nI_clamp (by omega)⟩
  rw [show (48 : Int32) = nI 48 from rfl, pk_mul, nI_add, Nat.mul_comm]
theorem xr_c16 {s a : Nat} (hs : s < 8) (ha : a < 16) : vp_in (nI s * 16 + nI a) 128 ∧ (nI s * 16 + nI a).toNatClampNeg = 16 * s + a := by
  have e : nI s * 16 + nI a = nI (16 * s + a) := by
    rw [show (16 : Int32) = nI 16 from rfl, pk_mul, nI_add, Nat.mul_comm]
  rw [e]
  exact ⟨vp_in_nI (by omega) (by omega), nI_clamp (by omega)⟩
theorem xr_c8 {s : Nat} (hs : s < 8) : vp_in (nI s) 8 ∧ (nI s).toNatClampNeg = s := ⟨vp_in_nI hs (by omega), nI_clamp (by omega)⟩
/-- a register -/
theorem xr_u {f : Nat → Int32} {s i j : Nat} {x : Int32} : upd f (11 * s + i) x (11 * s + j) = if j = i then x else f (11 * s + j) := by
  rw [pm_upd_eq]
  by_cases h : j = i
  · rw [if_pos h, if_pos (by omega)]
  · rw [if_neg h, if_neg (by omega)]
theorem xr_o {f : Nat → Int32} {s i j : Nat} {x : Int32} (hi : i < 11) (hj : j < 11 * s ∨ 11 * s + 11 ≤ j) : upd f (11 * s + i) x j = f j := by
  rw [pm_upd_eq, if_neg (by omega)]

def xr_bE (s : Nat) (f : Nat → Int32) : Nat → Int32 := upd (upd (upd (upd (upd f (11 * s + 3) 0) (11 * s + 4) 0) (11 * s + 5) 0) (11 * s + 8) 0) (11 * s + 9) (f (11 * s + 2))
theorem xr_bE_o {s j : Nat} {f : Nat → Int32} (hj : j < 11 * s ∨ 11 * s + 11 ≤ j) : xr_bE s f j = f j := by
  unfold xr_bE
  rw [xr_o (by omega) hj, xr_o (by omega) hj, xr_o (by omega) hj, xr_o (by omega) hj, xr_o (by omega) hj]
theorem xr_bE_k (s : Nat) (f : Nat → Int32) (j : Nat) : xr_bE s f (11 * s + j) = if j = 9 then f (11 * s + 2) else if j = 8 ∨ j = 5 ∨ j = 4 ∨ j = 3 then 0 else f (11 * s + j) := by
  unfold xr_bE
  rw [xr_u, xr_u, xr_u, xr_u, xr_u]
  by_cases h9 : j = 9
  · rw [if_pos h9, if_pos h9]
  · rw [if_neg h9, if_neg h9]
    by_cases h : j = 8 ∨ j = 5 ∨ j = 4 ∨ j = 3
    · rw [if_pos h]
      rcases h with h | h | h | h <;> subst h <;> rfl
    · rw [if_neg h, if_neg (fun y => h (Or.inl y)), if_neg (fun y => h (Or.inr (Or.inl y))), if_neg (fun y => h (Or.inr (Or.inr (Or.inl y)))), if_neg (fun y => h (Or.inr (Or.inr (Or.inr y))))]
def xr_bN (s : Nat) (h : Int32) (f : Nat → Int32) : Nat → Int32 := upd (upd (upd f (11 * s + 3) h) (11 * s + 4) 0) (11 * s + 5) 0
theorem xr_bN_o {s j : Nat} {h : Int32} {f : Nat → Int32} (hj : j < 11 * s ∨ 11 * s + 11 ≤ j) : xr_bN s h f j = f j := by
  unfold xr_bN
  rw [xr_o (by omega) hj, xr_o (by omega) hj, xr_o (by omega) hj]
theorem xr_bN_k (s : Nat) (h : Int32) (f : Nat → Int32) (j : Nat) : xr_bN s h f (11 * s + j) = if j = 5 ∨ j = 4 then 0 else if j = 3 then h else f (11 * s + j) := by
  unfold xr_bN
  rw [xr_u, xr_u, xr_u]
  by_cases h1 : j = 5
  · rw [if_pos h1, if_pos (Or.inl h1)]
  by_cases h2 : j = 4
  · rw [if_neg h1, if_pos h2, if_pos (Or.inr h2)]
  · rw [if_neg h1, if_neg h2, if_neg (show ¬ (j = 5 ∨ j = 4) from fun y => y.elim h1 h2)]

variable {f_frameAt f_frameLength f_frameSort f_frameFlags f_frameStream f_down f_entryCount f_most f_typeSeen f_lastSender f_sentLength : Int32} {a_payload a_life a_theyEnded a_weEnded a_finishing a_codes a_windowIn a_windowOut a_headers a_headerCount a_entries a_kinds a_repeats a_messageCount a_text a_nodeCount a_nodeTypes a_valueCount a_valueOwners a_values a_skippedCount a_reader a_chainNode a_chainEnd a_queue a_queueLength a_sent a_nodeSize a_nodePlace : Nat → Int32} {s : Nat}
theorem xw_bE {post : SX → Prop} (hs : s < 8) (h : post (f_frameAt, f_frameLength, f_frameSort, f_frameFlags, f_frameStream, f_down, f_entryCount, f_most, f_typeSeen, f_lastSender, f_sentLength, a_payload, a_life, a_theyEnded, a_weEnded, a_finishing, a_codes, a_windowIn, a_windowOut, a_headers, a_headerCount, a_entries, a_kinds, a_repeats, a_messageCount, a_text, a_nodeCount, a_nodeTypes, a_valueCount, a_valueOwners, a_values, a_skippedCount, xr_bE s a_reader, a_chainNode, a_chainEnd, a_queue, a_queueLength, a_sent, a_nodeSize, a_nodePlace)) : wpX_beginElement post (f_frameAt, f_frameLength, f_frameSort, f_frameFlags, f_frameStream, f_down, f_entryCount, f_most, f_typeSeen, f_lastSender, f_sentLength, a_payload, a_life, a_theyEnded, a_weEnded, a_finishing, a_codes, a_windowIn, a_windowOut, a_headers, a_headerCount, a_entries, a_kinds, a_repeats, a_messageCount, a_text, a_nodeCount, a_nodeTypes, a_valueCount, a_valueOwners, a_values, a_skippedCount, a_reader, a_chainNode, a_chainEnd, a_queue, a_queueLength, a_sent, a_nodeSize, a_nodePlace) (nI s) := by
  unfold wpX_beginElement
  have i2 := xr_ix (s := s) (k := 2) hs (by omega)
  have i3 := xr_ix (s := s) (k := 3) hs (by omega)
  have i4 := xr_ix (s := s) (k := 4) hs (by omega)
  have i5 := xr_ix (s := s) (k := 5) hs (by omega)
  have i8 := xr_ix (s := s) (k := 8) hs (by omega)
  have i9 := xr_ix (s := s) (k := 9) hs (by omega)
  refine nm_r i2.1 ⟨i3.2.1, nm_r (congrArg (fun k => upd a_reader k 0) i3.2.2) ⟨i4.2.1, nm_r (congrArg (fun k => upd _ k 0) i4.2.2) ⟨i5.2.1, nm_r (congrArg (fun k => upd _ k 0) i5.2.2) ⟨i8.2.1, nm_r (congrArg (fun k => upd _ k 0) i8.2.2) ⟨i2.2.1, i9.2.1, nm_r ?_ h⟩⟩⟩⟩⟩
  refine (congrArg (fun k => upd _ k _) i9.2.2).trans ?_
  refine (congrArg (fun x => upd _ (11 * s + 9) x) (congrArg _ i2.2.2)).trans ?_
  unfold xr_bE
  rw [xr_u, xr_u, xr_u, xr_u]
  rfl
theorem xw_bN {post : SX → Prop} {x : Int32} (hs : s < 8) (h : post (f_frameAt, f_frameLength, f_frameSort, f_frameFlags, f_frameStream, f_down, f_entryCount, f_most, f_typeSeen, f_lastSender, f_sentLength, a_payload, a_life, a_theyEnded, a_weEnded, a_finishing, a_codes, a_windowIn, a_windowOut, a_headers, a_headerCount, a_entries, a_kinds, a_repeats, a_messageCount, a_text, a_nodeCount, a_nodeTypes, a_valueCount, a_valueOwners, a_values, a_skippedCount, xr_bN s x a_reader, a_chainNode, a_chainEnd, a_queue, a_queueLength, a_sent, a_nodeSize, a_nodePlace)) : wpX_beginNumber post (f_frameAt, f_frameLength, f_frameSort, f_frameFlags, f_frameStream, f_down, f_entryCount, f_most, f_typeSeen, f_lastSender, f_sentLength, a_payload, a_life, a_theyEnded, a_weEnded, a_finishing, a_codes, a_windowIn, a_windowOut, a_headers, a_headerCount, a_entries, a_kinds, a_repeats, a_messageCount, a_text, a_nodeCount, a_nodeTypes, a_valueCount, a_valueOwners, a_values, a_skippedCount, a_reader, a_chainNode, a_chainEnd, a_queue, a_queueLength, a_sent, a_nodeSize, a_nodePlace) (nI s) x := by
  unfold wpX_beginNumber
  have i3 := xr_ix (s := s) (k := 3) hs (by omega)
  have i4 := xr_ix (s := s) (k := 4) hs (by omega)
  have i5 := xr_ix (s := s) (k := 5) hs (by omega)
  exact nm_r i3.1 ⟨i3.2.1, nm_r (congrArg (fun k => upd a_reader k x) i3.2.2) ⟨i4.2.1, nm_r (congrArg (fun k => upd _ k 0) i4.2.2) ⟨i5.2.1, nm_r (congrArg (fun k => upd _ k 0) i5.2.2) h⟩⟩⟩
/-- the end of an element -/
theorem xw_eE {post : SX → Prop} {f t p : Nat} (hs : s < 8) (hf : a_reader (11 * s + 7) = nI f) (hf' : f < 64) (ht : a_reader (11 * s + 2) = nI t) (hp : f = 0 → a_reader (11 * s + 9) = nI p ∧ p ≤ t)
    (h : post (f_frameAt, f_frameLength, f_frameSort, f_frameFlags, f_frameStream, f_down, f_entryCount, f_most, f_typeSeen, f_lastSender, f_sentLength, a_payload, a_life, a_theyEnded, a_weEnded, a_finishing, a_codes, a_windowIn, a_windowOut, a_headers, a_headerCount, a_entries, a_kinds, a_repeats, a_messageCount, a_text, a_nodeCount, a_nodeTypes, a_valueCount, a_valueOwners, a_values, if f = 0 then upd a_skippedCount s (a_skippedCount s + nI (t - p)) else a_skippedCount, xr_bE s a_reader, a_chainNode, a_chainEnd, a_queue, a_queueLength, a_sent, a_nodeSize, a_nodePlace)) : wpX_endElement post (f_frameAt, f_frameLength, f_frameSort, f_frameFlags, f_frameStream, f_down, f_entryCount, f_most, f_typeSeen, f_lastSender, f_sentLength, a_payload, a_life, a_theyEnded, a_weEnded, a_finishing, a_codes, a_windowIn, a_windowOut, a_headers, a_headerCount, a_entries, a_kinds, a_repeats, a_messageCount, a_text, a_nodeCount, a_nodeTypes, a_valueCount, a_valueOwners, a_values, a_skippedCount, a_reader, a_chainNode, a_chainEnd, a_queue, a_queueLength, a_sent, a_nodeSize, a_nodePlace) (nI s) := by
  unfold wpX_endElement
  have i2 := xr_ix (s := s) (k := 2) hs (by omega)
  have i7 := xr_ix (s := s) (k := 7) hs (by omega)
  have i9 := xr_ix (s := s) (k := 9) hs (by omega)
  have e7 : a_reader (nI (11 * s) + 7).toNatClampNeg = nI f := (congrArg a_reader i7.2.2).trans hf
  refine nm_r i2.1 ⟨i7.2.1, ?_⟩
  rw [e7]
  refine pk_eq f 0 (fun g => ?_) (fun g => ?_)
  · rw [if_pos g] at h
    obtain ⟨p1, p2⟩ := hp g
    have e2 : a_reader (nI (11 * s) + 2).toNatClampNeg = nI t := (congrArg a_reader i2.2.2).trans ht
    have e9 : a_reader (nI (11 * s) + 9).toNatClampNeg = nI p := (congrArg a_reader i9.2.2).trans p1
    refine ⟨(xr_c8 hs).1, i2.2.1, i9.2.1, (xr_c8 hs).1, nm_r (by rw [(xr_c8 hs).2, e2, e9, pk_sub p2]) ?_⟩
    unfold wX_endElement_44
    exact xw_bE hs h
  · rw [if_neg g] at h
    unfold wX_endElement_44
    exact xw_bE hs h
def xr_aD (s : Nat) (x : Int32) (d : Nat) (f : Nat → Int32) : Nat → Int32 := upd (upd f (11 * s + 4) x) (11 * s + 5) (nI (d + 1))
theorem xr_aD_o {s j d : Nat} {x : Int32} {f : Nat → Int32} (hj : j < 11 * s ∨ 11 * s + 11 ≤ j) : xr_aD s x d f j = f j := by
  unfold xr_aD
  rw [xr_o (by omega) hj, xr_o (by omega) hj]
theorem xr_aD_k (s : Nat) (x : Int32) (d : Nat) (f : Nat → Int32) (j : Nat) : xr_aD s x d f (11 * s + j) = if j = 5 then nI (d + 1) else if j = 4 then x else f (11 * s + j) := by
  unfold xr_aD
  rw [xr_u, xr_u]
/-- a digit: its place is below 32 bits, or it counts no more -/
theorem xw_aD {post : SX → Prop} {x y : Int32} {d b w : Nat} (hs : s < 8) (h5 : a_reader (11 * s + 5) = nI d) (hd : d < 10) (hb : b ≤ 8) (h4 : a_reader (11 * s + 4) = x)
    (hy : y = if b * d < 32 then x ||| (nI w <<< ((nI b * nI d) &&& 31)) else x) (h : post (f_frameAt, f_frameLength, f_frameSort, f_frameFlags, f_frameStream, f_down, f_entryCount, f_most, f_typeSeen, f_lastSender, f_sentLength, a_payload, a_life, a_theyEnded, a_weEnded, a_finishing, a_codes, a_windowIn, a_windowOut, a_headers, a_headerCount, a_entries, a_kinds, a_repeats, a_messageCount, a_text, a_nodeCount, a_nodeTypes, a_valueCount, a_valueOwners, a_values, a_skippedCount, xr_aD s y d a_reader, a_chainNode, a_chainEnd, a_queue, a_queueLength, a_sent, a_nodeSize, a_nodePlace)) : wpX_addDigit post (f_frameAt, f_frameLength, f_frameSort, f_frameFlags, f_frameStream, f_down, f_entryCount, f_most, f_typeSeen, f_lastSender, f_sentLength, a_payload, a_life, a_theyEnded, a_weEnded, a_finishing, a_codes, a_windowIn, a_windowOut, a_headers, a_headerCount, a_entries, a_kinds, a_repeats, a_messageCount, a_text, a_nodeCount, a_nodeTypes, a_valueCount, a_valueOwners, a_values, a_skippedCount, a_reader, a_chainNode, a_chainEnd, a_queue, a_queueLength, a_sent, a_nodeSize, a_nodePlace) (nI s) (nI w) (nI b) := by
  unfold wpX_addDigit
  have i4 := xr_ix (s := s) (k := 4) hs (by omega)
  have i5 := xr_ix (s := s) (k := 5) hs (by omega)
  have e4 : a_reader (nI (11 * s) + 4).toNatClampNeg = x := (congrArg a_reader i4.2.2).trans h4
  have e5 : a_reader (nI (11 * s) + 5).toNatClampNeg = nI d := (congrArg a_reader i5.2.2).trans h5
  have c4 : (nI (11 * s) + 4).toNatClampNeg = 11 * s + 4 := i4.2.2
  have c5 : (nI (11 * s) + 5).toNatClampNeg = 11 * s + 5 := i5.2.2
  have hm : nI b * nI d = nI (b * d) := pk_mul b d
  have hbd : b * d < 2 ^ 31 := Nat.lt_of_le_of_lt (Nat.mul_le_mul hb (Nat.le_of_lt hd)) (by omega)
  refine nm_r i4.1 ⟨i5.2.1, nm_r (congrArg _ e5) ?_⟩
  refine pk_le 32 (b * d) (fun g => ?_) (fun g => ?_) rfl hm (by omega) hbd
  · rw [if_neg (by omega)] at hy
    unfold wX_addDigit_42
    refine ⟨i5.2.1, i5.2.1, nm_r ?_ h⟩
    rw [c5, h5, nI_1]
    unfold xr_aD
    have : upd a_reader (11 * s + 4) y = a_reader := by
      funext j
      rw [pm_upd_eq]
      split
      · rename_i g2; rw [hy, ← h4, g2]
      · rfl
    rw [this]
  · rw [if_pos g] at hy
    refine ⟨i4.2.1, i4.2.1, nm_r (e' := upd a_reader (11 * s + 4) y) (by rw [c4, h4, hy]) ?_⟩
    unfold wX_addDigit_42
    refine ⟨i5.2.1, i5.2.1, nm_r ?_ h⟩
    rw [c5, xr_u, if_neg (by omega), h5, nI_1]
    rfl
end
end
section
/-! O: how the component keeps values -/
section
variable {f_frameAt f_frameLength f_frameSort f_frameFlags f_frameStream f_down f_entryCount f_most f_typeSeen f_lastSender f_sentLength : Int32} {a_payload a_life a_theyEnded a_weEnded a_finishing a_codes a_windowIn a_windowOut a_headers a_headerCount a_entries a_kinds a_repeats a_messageCount a_text a_nodeCount a_nodeTypes a_valueCount a_valueOwners a_values a_skippedCount a_reader a_chainNode a_chainEnd a_queue a_queueLength a_sent a_nodeSize a_nodePlace : Nat → Int32} {s : Nat} {K : Nat → Nat} {R : Nat → Bool} {L : Nat} {dep : Nat → Nat} {c : pm_C} {D : pm_D}
/-- owner of a value -/
theorem xr_own {a n b m : Nat} (hn : n ≤ 15) (hm : m ≤ 15) : 16 * a + n = 16 * b + m ↔ (a = b ∧ n = m) := by
  constructor
  · intro h; exact ⟨by omega, by omega⟩
  · rintro ⟨rfl, rfl⟩; rfl
theorem xr_mod {a t n : Nat} (ht : t < 4) (hn : n ≤ 15) : nI a * 16 + (nI (16 * t + n) - nI (16 * t + n) / 16 * 16) = nI (16 * a + n) := by
  have e : nI (16 * t + n) - nI (16 * t + n) / 16 * 16 = nI ((16 * t + n) % 16) := pk_rem (d := 16) (by omega) (by omega) (by omega)
  rw [e, show (16 : Int32) = nI 16 from rfl, pk_mul, nI_add]
  exact congrArg nI (by omega)
theorem xw_pt57 {a n : Nat} (hs : s < 8) (hD : cr_XD K s a_nodeCount a_nodeTypes a_valueCount a_valueOwners a_values D) (hv : pm_nv D ≤ 48) (hn : n ≤ 15) (ha : a < 16)
    (hb : ∀ j, j < pm_nv D → pm_vn D j < 16 ∧ pm_vm D j ≤ 15) {post : Int32 → Prop} : ∀ f i, i + f = pm_nv D →
    post (if pm_fi (pm_vn D) (pm_vm D) a n f i < pm_nv D then nI (48 * s + pm_fi (pm_vn D) (pm_vm D) a n f i) else -1) →
    wX_placeTaken_57 post (nI s) (nI (16 * a + n)) f_frameAt f_frameLength f_frameSort f_frameFlags f_frameStream f_down f_entryCount f_most f_typeSeen f_lastSender f_sentLength a_payload a_life a_theyEnded a_weEnded a_finishing a_codes a_windowIn a_windowOut a_headers a_headerCount a_entries a_kinds a_repeats a_messageCount a_text a_nodeCount a_nodeTypes a_valueCount a_valueOwners a_values a_skippedCount a_reader a_chainNode a_chainEnd a_queue a_queueLength a_sent a_nodeSize a_nodePlace (f + 1) (nI i)
  | 0, i, hi, H => by
    rw [wX_placeTaken_57]
    rw [pm_fi, if_neg (by omega)] at H
    refine ⟨(xr_c8 hs).1, ?_⟩
    rw [(xr_c8 hs).2, hD.2.1]
    exact pk_le (pm_nv D) i (fun _ => H) (fun g => absurd g (by omega))
  | f + 1, i, hi, H => by
    rw [wX_placeTaken_57]
    refine ⟨(xr_c8 hs).1, ?_⟩
    rw [(xr_c8 hs).2, hD.2.1]
    refine pk_le (pm_nv D) i (fun g => absurd g (by omega)) (fun g => ?_)
    obtain ⟨c1, c2, c3⟩ := xr_c48 (s := s) (a := i) hs (by omega)
    rw [c1, c3, (hD.2.2.2 i g).1]
    refine ⟨c2, ?_⟩
    obtain ⟨b1, b2⟩ := hb i g
    rw [pm_fi] at H
    refine pk_eq (16 * pm_vn D i + pm_vm D i) (16 * a + n) (fun y => ?_) (fun y => ?_)
    · rw [if_pos (show pm_vn D i = a ∧ pm_vm D i = n from (xr_own b2 hn).mp y), if_pos g] at H
      exact H
    · rw [if_neg (show ¬ (pm_vn D i = a ∧ pm_vm D i = n) from fun y2 => y ((xr_own b2 hn).mpr y2))] at H
      exact nm_r (nI_1 _) (xw_pt57 hs hD hv hn ha hb f (i + 1) (by omega) H)
theorem xr_DB (I : pm_DI K L dep D) : ∀ j, j < pm_nv D → pm_vn D j < 16 ∧ pm_vm D j ≤ 15 := by
  intro j hj
  obtain ⟨v1, v2, v3, _⟩ := I.2.2.2.2.2.1 j hj
  have := I.2.1
  exact ⟨by omega, by omega⟩
/-- where the field at hand, number n in node a of type t, has its value -/
theorem xw_pt {a n b : Nat} (hs : s < 8) (I : pm_DI K L dep D) (hK : cr_K a_kinds a_repeats K R) (hD : cr_XD K s a_nodeCount a_nodeTypes a_valueCount a_valueOwners a_values D) (ha : a < pm_nn D) (hn : 1 ≤ n) (hn' : n ≤ 15) (hb : b ≤ 3)
    (h7 : a_reader (11 * s + 7) = nI (16 * pm_nt D a + n)) (h10 : a_reader (11 * s + 10) = nI b) (hcn : a_chainNode (4 * s + b) = nI a) {post : Int32 → Prop}
    (H : post (if pm_pl R D a n < pm_nv D then nI (48 * s + pm_pl R D a n) else -1)) : wpX_placeTaken post (f_frameAt, f_frameLength, f_frameSort, f_frameFlags, f_frameStream, f_down, f_entryCount, f_most, f_typeSeen, f_lastSender, f_sentLength, a_payload, a_life, a_theyEnded, a_weEnded, a_finishing, a_codes, a_windowIn, a_windowOut, a_headers, a_headerCount, a_entries, a_kinds, a_repeats, a_messageCount, a_text, a_nodeCount, a_nodeTypes, a_valueCount, a_valueOwners, a_values, a_skippedCount, a_reader, a_chainNode, a_chainEnd, a_queue, a_queueLength, a_sent, a_nodeSize, a_nodePlace) (nI s) := by
  have i7 := xr_ix (s := s) (k := 7) hs (by omega)
  have i10 := xr_ix (s := s) (k := 10) hs (by omega)
  have hnn := I.2.1
  have hty := (I.2.2.2.2.1 a ha).1
  have hj : 16 * pm_nt D a + n < 64 := by omega
  have e7 : a_reader (nI (11 * s) + 7).toNatClampNeg = nI (16 * pm_nt D a + n) := (congrArg a_reader i7.2.2).trans h7
  have e10 : a_reader (nI (11 * s) + 10).toNatClampNeg = nI b := (congrArg a_reader i10.2.2).trans h10
  unfold wpX_placeTaken
  rw [i7.1]
  refine ⟨i7.2.1, nm_r e7 ⟨vp_in_nI hj (by omega), ?_⟩⟩
  rw [nI_clamp (by omega), hK.2.2 _ hj]
  by_cases hr : R (16 * pm_nt D a + n) = true
  · rw [if_pos hr]
    have : pm_pl R D a n = pm_nv D := by unfold pm_pl; exact if_pos hr
    rw [if_neg (by omega)] at H
    exact br_f (by decide) H
  · rw [if_neg hr]
    have : pm_pl R D a n = pm_ix D a n := by unfold pm_pl; exact if_neg hr
    rw [this] at H
    refine br_t rfl ⟨i10.2.1, ?_⟩
    rw [e10]
    obtain ⟨c1, c2⟩ := xr_c4 (s := s) (a := b) hs hb
    rw [c2, hcn]
    exact ⟨c1, by decide, nm_r (xr_mod hty hn') ⟨pm_nv D + 1, xw_pt57 hs hD I.2.2.1 hn' (by omega) (xr_DB I) (pm_nv D) 0 (by omega) H⟩⟩
/-- outside the places of one stream -/
def xr_O (w s : Nat) (f f' : Nat → Int32) : Prop := ∀ j, j < w * s ∨ w * s + w ≤ j → f' j = f j
theorem xr_O_u {w s i : Nat} {f : Nat → Int32} {x : Int32} (hi : i < w) : xr_O w s f (upd f (w * s + i) x) := by
  intro j hj
  rw [pm_upd_eq, if_neg (by omega)]
theorem xr_O_1 {s : Nat} {f : Nat → Int32} {x : Int32} : xr_O 1 s f (upd f s x) := by
  intro j hj
  rw [pm_upd_eq, if_neg (by omega)]
theorem xr_O_r {w s : Nat} {f : Nat → Int32} : xr_O w s f f := fun _ _ => rfl
theorem xr_O_t {w s : Nat} {f f' f'' : Nat → Int32} (h : xr_O w s f f') (h' : xr_O w s f' f'') : xr_O w s f f'' := fun j hj => (h' j hj).trans (h j hj)
/-- a value more -/
theorem xr_XD_add {a n st : Nat} {v xv : Int32} (hpl : pm_pl R D a n = pm_nv D) (hv : pm_nv D < 48) (hs : s < 8)
    (hD : cr_XD K s a_nodeCount a_nodeTypes a_valueCount a_valueOwners a_values D) (hxv : xv = if K (16 * pm_nt D a + n) = 4 then nI (256 * st) + v else v) :
    cr_XD K s a_nodeCount a_nodeTypes (upd a_valueCount s (nI (pm_nv D + 1))) (upd a_valueOwners (48 * s + pm_nv D) (nI (16 * a + n))) (upd a_values (48 * s + pm_nv D) xv) (pm_kp R D a n v st) := by
  obtain ⟨d1, d2, d3, d4⟩ := hD
  refine ⟨d1, ?_, d3, fun j hj => ?_⟩
  · simp only [pm_kp_nn, pm_kp_nt, pm_kp_nv, pm_kp_vn, pm_kp_vm, pm_kp_fr, pm_kp_va, hpl, pm_upd_eq, if_pos]
  · simp only [pm_kp_nn, pm_kp_nt, pm_kp_nv, pm_kp_vn, pm_kp_vm, pm_kp_fr, pm_kp_va, hpl, if_pos] at hj
    have hj : j < pm_nv D + 1 := hj
    by_cases g : j = pm_nv D
    · subst g
      simp only [pm_kk, pm_kp_nn, pm_kp_nt, pm_kp_nv, pm_kp_vn, pm_kp_vm, pm_kp_fr, pm_kp_va, hpl, pm_us, pm_upd_eq, if_pos]
      exact ⟨trivial, hxv⟩
    · have := d4 j (by omega)
      simp only [pm_kk, pm_kp_nn, pm_kp_nt, pm_kp_nv, pm_kp_vn, pm_kp_vm, pm_kp_fr, pm_kp_va, hpl, pm_un g, pm_upd_eq, if_neg g, if_neg (show 48 * s + j ≠ 48 * s + pm_nv D by omega)]
      exact this
/-- a value in the place of another -/
theorem xr_XD_set {a n st : Nat} {v xv : Int32} (hpl : pm_pl R D a n < pm_nv D)
    (hD : cr_XD K s a_nodeCount a_nodeTypes a_valueCount a_valueOwners a_values D) (hxv : xv = if K (16 * pm_nt D a + n) = 4 then nI (256 * st) + v else v) :
    cr_XD K s a_nodeCount a_nodeTypes a_valueCount a_valueOwners (upd a_values (48 * s + pm_pl R D a n) xv) (pm_kp R D a n v st) := by
  obtain ⟨d1, d2, d3, d4⟩ := hD
  obtain ⟨p1, p2, p3⟩ := pm_pl_lt hpl
  refine ⟨d1, ?_, d3, fun j hj => ?_⟩
  · simp only [pm_kp_nn, pm_kp_nt, pm_kp_nv, pm_kp_vn, pm_kp_vm, pm_kp_fr, pm_kp_va, if_neg (show pm_pl R D a n ≠ pm_nv D by omega)]
    exact d2
  · simp only [pm_kp_nn, pm_kp_nt, pm_kp_nv, pm_kp_vn, pm_kp_vm, pm_kp_fr, pm_kp_va, if_neg (show pm_pl R D a n ≠ pm_nv D by omega)] at hj
    have hj : j < pm_nv D := hj
    have hd := d4 j hj
    generalize hk : pm_pl R D a n = k at *
    by_cases g : j = k
    · subst g
      simp only [pm_kk, pm_kp_nn, pm_kp_nt, pm_kp_nv, pm_kp_vn, pm_kp_vm, pm_kp_fr, pm_kp_va, hk, pm_us, pm_upd_eq, if_pos]
      rw [p2, p3] at hd
      exact ⟨hd.1, hxv⟩
    · simp only [pm_kk, pm_kp_nn, pm_kp_nt, pm_kp_nv, pm_kp_vn, pm_kp_vm, pm_kp_fr, pm_kp_va, hk, pm_un g, pm_upd_eq, if_neg g, if_neg (show 48 * s + j ≠ 48 * s + k by omega)]
      exact hd
theorem xw_add {a n b : Nat} {xv : Int32} (hs : s < 8) (I : pm_DI K L dep D) (hD : cr_XD K s a_nodeCount a_nodeTypes a_valueCount a_valueOwners a_values D) (ha : a < pm_nn D) (hn' : n ≤ 15) (hb : b ≤ 3)
    (h7 : a_reader (11 * s + 7) = nI (16 * pm_nt D a + n)) (h10 : a_reader (11 * s + 10) = nI b) (hcn : a_chainNode (4 * s + b) = nI a) (hv : pm_nv D < 48) {post : SX → Prop}
    (H : post (f_frameAt, f_frameLength, f_frameSort, f_frameFlags, f_frameStream, f_down, f_entryCount, f_most, f_typeSeen, f_lastSender, f_sentLength, a_payload, a_life, a_theyEnded, a_weEnded, a_finishing, a_codes, a_windowIn, a_windowOut, a_headers, a_headerCount, a_entries, a_kinds, a_repeats, a_messageCount, a_text, a_nodeCount, a_nodeTypes, upd a_valueCount s (nI (pm_nv D + 1)), upd a_valueOwners (48 * s + pm_nv D) (nI (16 * a + n)), upd a_values (48 * s + pm_nv D) xv, a_skippedCount, a_reader, a_chainNode, a_chainEnd, a_queue, a_queueLength, a_sent, a_nodeSize, a_nodePlace)) :
    wpX_addValue post (f_frameAt, f_frameLength, f_frameSort, f_frameFlags, f_frameStream, f_down, f_entryCount, f_most, f_typeSeen, f_lastSender, f_sentLength, a_payload, a_life, a_theyEnded, a_weEnded, a_finishing, a_codes, a_windowIn, a_windowOut, a_headers, a_headerCount, a_entries, a_kinds, a_repeats, a_messageCount, a_text, a_nodeCount, a_nodeTypes, a_valueCount, a_valueOwners, a_values, a_skippedCount, a_reader, a_chainNode, a_chainEnd, a_queue, a_queueLength, a_sent, a_nodeSize, a_nodePlace) (nI s) xv := by
  have i7 := xr_ix (s := s) (k := 7) hs (by omega)
  have i10 := xr_ix (s := s) (k := 10) hs (by omega)
  have hnn := I.2.1
  have hty := (I.2.2.2.2.1 a ha).1
  have e7 : a_reader (nI (11 * s) + 7).toNatClampNeg = nI (16 * pm_nt D a + n) := (congrArg a_reader i7.2.2).trans h7
  have e10 : a_reader (nI (11 * s) + 10).toNatClampNeg = nI b := (congrArg a_reader i10.2.2).trans h10
  obtain ⟨c1, c2, c3⟩ := xr_c48 (s := s) (a := pm_nv D) hs hv
  obtain ⟨c4, c5⟩ := xr_c4 (s := s) (a := b) hs hb
  obtain ⟨g1, g2⟩ := xr_c8 hs
  unfold wpX_addValue
  refine nm_r i7.1 ⟨g1, nm_r (by rw [g2, hD.2.1, c1]) ⟨i10.2.1, ?_⟩⟩
  rw [e10, e7, c5, hcn, c3, g2, hD.2.1]
  exact ⟨c4, i7.2.1, by decide, c2, nm_r (by rw [xr_mod hty hn']) ⟨c2, nm_e ⟨g1, g1, nm_r (by rw [nI_1]) H⟩⟩⟩
/-- a value is kept, or there are too many -/
theorem xw_keep {a n b st : Nat} {v xv : Int32} (hs : s < 8) (I : pm_DI K L dep D) (hK : cr_K a_kinds a_repeats K R) (hD : cr_XD K s a_nodeCount a_nodeTypes a_valueCount a_valueOwners a_values D) (ha : a < pm_nn D) (hn : 1 ≤ n) (hn' : n ≤ 15) (hb : b ≤ 3)
    (h7 : a_reader (11 * s + 7) = nI (16 * pm_nt D a + n)) (h10 : a_reader (11 * s + 10) = nI b) (hcn : a_chainNode (4 * s + b) = nI a)
    (hxv : xv = if K (16 * pm_nt D a + n) = 4 then nI (256 * st) + v else v) {post : Int32 → SX → Prop}
    (H5 : pm_pl R D a n = 48 → post 15 (f_frameAt, f_frameLength, f_frameSort, f_frameFlags, f_frameStream, f_down, f_entryCount, f_most, f_typeSeen, f_lastSender, f_sentLength, a_payload, a_life, a_theyEnded, a_weEnded, a_finishing, a_codes, a_windowIn, a_windowOut, a_headers, a_headerCount, a_entries, a_kinds, a_repeats, a_messageCount, a_text, a_nodeCount, a_nodeTypes, a_valueCount, a_valueOwners, a_values, a_skippedCount, a_reader, a_chainNode, a_chainEnd, a_queue, a_queueLength, a_sent, a_nodeSize, a_nodePlace))
    (H0 : ∀ vc vo va, pm_pl R D a n ≠ 48 → cr_XD K s a_nodeCount a_nodeTypes vc vo va (pm_kp R D a n v st) → xr_O 1 s a_valueCount vc → xr_O 48 s a_valueOwners vo → xr_O 48 s a_values va → post 0 (f_frameAt, f_frameLength, f_frameSort, f_frameFlags, f_frameStream, f_down, f_entryCount, f_most, f_typeSeen, f_lastSender, f_sentLength, a_payload, a_life, a_theyEnded, a_weEnded, a_finishing, a_codes, a_windowIn, a_windowOut, a_headers, a_headerCount, a_entries, a_kinds, a_repeats, a_messageCount, a_text, a_nodeCount, a_nodeTypes, vc, vo, va, a_skippedCount, a_reader, a_chainNode, a_chainEnd, a_queue, a_queueLength, a_sent, a_nodeSize, a_nodePlace)) :
    wpX_keepValue post (f_frameAt, f_frameLength, f_frameSort, f_frameFlags, f_frameStream, f_down, f_entryCount, f_most, f_typeSeen, f_lastSender, f_sentLength, a_payload, a_life, a_theyEnded, a_weEnded, a_finishing, a_codes, a_windowIn, a_windowOut, a_headers, a_headerCount, a_entries, a_kinds, a_repeats, a_messageCount, a_text, a_nodeCount, a_nodeTypes, a_valueCount, a_valueOwners, a_values, a_skippedCount, a_reader, a_chainNode, a_chainEnd, a_queue, a_queueLength, a_sent, a_nodeSize, a_nodePlace) (nI s) xv := by
  have hnv := I.2.2.1
  have hle := pm_pl_le (R := R) (D := D) a n
  obtain ⟨g1, g2⟩ := xr_c8 hs
  unfold wpX_keepValue
  refine xw_pt hs I hK hD ha hn hn' hb h7 h10 hcn ?_
  by_cases g : pm_pl R D a n < pm_nv D
  · rw [if_pos g]
    refine br_f (nI_pos (by omega)) ?_
    obtain ⟨c1, c2, c3⟩ := xr_c48 (s := s) (a := pm_pl R D a n) hs (by omega)
    rw [c3]
    exact ⟨c2, nm_e (H0 _ _ _ (by omega) (xr_XD_set g hD hxv) xr_O_r xr_O_r (xr_O_u (by omega)))⟩
  · rw [if_neg g]
    refine br_t (by decide) ⟨g1, ?_⟩
    rw [g2, hD.2.1]
    refine pk_eq (pm_nv D) 48 (fun y => H5 (by omega)) (fun y => ?_)
    exact xw_add hs I hD ha hn' hb h7 h10 hcn (by omega) (H0 _ _ _ (by omega) (xr_XD_add (by omega) (by omega) hs hD hxv) xr_O_1 (xr_O_u (by omega)) (xr_O_u (by omega)))
end
end
section
/-! P: ends that are closed -/
section
variable {f_frameAt f_frameLength f_frameSort f_frameFlags f_frameStream f_down f_entryCount f_most f_typeSeen f_lastSender f_sentLength : Int32} {a_payload a_life a_theyEnded a_weEnded a_finishing a_codes a_windowIn a_windowOut a_headers a_headerCount a_entries a_kinds a_repeats a_messageCount a_text a_nodeCount a_nodeTypes a_valueCount a_valueOwners a_values a_skippedCount a_reader a_chainNode a_chainEnd a_queue a_queueLength a_sent a_nodeSize a_nodePlace : Nat → Int32} {s : Nat} {K : Nat → Nat} {R : Nat → Bool} {L : Nat} {dep : Nat → Nat} {c : pm_C} {D : pm_D}
theorem xr_uu {f : Nat → Int32} {k : Nat} {x y : Int32} : upd (upd f k x) k y = upd f k y := by
  funext j
  rw [pm_upd_eq, pm_upd_eq, pm_upd_eq]
  split <;> rfl
theorem xr_ui {f : Nat → Int32} {k : Nat} {x : Int32} (h : f k = x) : upd f k x = f := by
  funext j
  rw [pm_upd_eq]
  split
  · rename_i g; rw [g, h]
  · rfl
/-- one turn of the loop over the chain -/
theorem xw_clS {t e a k n : Nat} {x3 x5 : Int32} (hs : s < 8) (ht : t ≤ 200) {post : Int32 → SX → Prop} (ha : a ≤ 3) (hk : k < 4)
    (h2 : a_reader (11 * s + 2) = nI t) (h3 : a_reader (11 * s + 3) = x3) (h5 : a_reader (11 * s + 5) = x5) (h10 : a_reader (11 * s + 10) = nI a) (he : a_chainEnd (4 * s + a) = nI e) (he' : e ≤ 200)
    (H0 : t < e → post 0 (f_frameAt, f_frameLength, f_frameSort, f_frameFlags, f_frameStream, f_down, f_entryCount, f_most, f_typeSeen, f_lastSender, f_sentLength, a_payload, a_life, a_theyEnded, a_weEnded, a_finishing, a_codes, a_windowIn, a_windowOut, a_headers, a_headerCount, a_entries, a_kinds, a_repeats, a_messageCount, a_text, a_nodeCount, a_nodeTypes, a_valueCount, a_valueOwners, a_values, a_skippedCount, a_reader, a_chainNode, a_chainEnd, a_queue, a_queueLength, a_sent, a_nodeSize, a_nodePlace))
    (H14 : e ≤ t → ¬ (x3 = 0 ∧ x5 = 0) → post 14 (f_frameAt, f_frameLength, f_frameSort, f_frameFlags, f_frameStream, f_down, f_entryCount, f_most, f_typeSeen, f_lastSender, f_sentLength, a_payload, a_life, a_theyEnded, a_weEnded, a_finishing, a_codes, a_windowIn, a_windowOut, a_headers, a_headerCount, a_entries, a_kinds, a_repeats, a_messageCount, a_text, a_nodeCount, a_nodeTypes, a_valueCount, a_valueOwners, a_values, a_skippedCount, a_reader, a_chainNode, a_chainEnd, a_queue, a_queueLength, a_sent, a_nodeSize, a_nodePlace))
    (H1 : e ≤ t → x3 = 0 → x5 = 0 → a = 0 → post 0 (f_frameAt, f_frameLength, f_frameSort, f_frameFlags, f_frameStream, f_down, f_entryCount, f_most, f_typeSeen, f_lastSender, f_sentLength, a_payload, a_life, a_theyEnded, a_weEnded, a_finishing, a_codes, a_windowIn, a_windowOut, a_headers, a_headerCount, a_entries, a_kinds, a_repeats, upd a_messageCount s (a_messageCount s + 1), a_text, a_nodeCount, a_nodeTypes, a_valueCount, a_valueOwners, a_values, a_skippedCount, upd a_reader (11 * s) 0, a_chainNode, a_chainEnd, a_queue, a_queueLength, a_sent, a_nodeSize, a_nodePlace))
    (H2 : ∀ b, e ≤ t → x3 = 0 → x5 = 0 → a = b + 1 → wX_closeEnds_58 post (nI s) (nI (11 * s)) f_frameAt f_frameLength f_frameSort f_frameFlags f_frameStream f_down f_entryCount f_most f_typeSeen f_lastSender f_sentLength n (nI (k + 1)) a_payload a_life a_theyEnded a_weEnded a_finishing a_codes a_windowIn a_windowOut a_headers a_headerCount a_entries a_kinds a_repeats a_messageCount a_text a_nodeCount a_nodeTypes a_valueCount a_valueOwners a_values a_skippedCount (upd a_reader (11 * s + 10) (nI b)) a_chainNode a_chainEnd a_queue a_queueLength a_sent a_nodeSize a_nodePlace) :
    wX_closeEnds_58 post (nI s) (nI (11 * s)) f_frameAt f_frameLength f_frameSort f_frameFlags f_frameStream f_down f_entryCount f_most f_typeSeen f_lastSender f_sentLength (n + 1) (nI k) a_payload a_life a_theyEnded a_weEnded a_finishing a_codes a_windowIn a_windowOut a_headers a_headerCount a_entries a_kinds a_repeats a_messageCount a_text a_nodeCount a_nodeTypes a_valueCount a_valueOwners a_values a_skippedCount a_reader a_chainNode a_chainEnd a_queue a_queueLength a_sent a_nodeSize a_nodePlace := by
  have i0 := xr_ix (s := s) (k := 0) hs (by omega)
  have i2 := xr_ix (s := s) (k := 2) hs (by omega)
  have i3 := xr_ix (s := s) (k := 3) hs (by omega)
  have i5 := xr_ix (s := s) (k := 5) hs (by omega)
  have i10 := xr_ix (s := s) (k := 10) hs (by omega)
  have e2 : a_reader (nI (11 * s) + 2).toNatClampNeg = nI t := (congrArg a_reader i2.2.2).trans h2
  have e3 : a_reader (nI (11 * s) + 3).toNatClampNeg = x3 := (congrArg a_reader i3.2.2).trans h3
  have e5 : a_reader (nI (11 * s) + 5).toNatClampNeg = x5 := (congrArg a_reader i5.2.2).trans h5
  have e10 : a_reader (nI (11 * s) + 10).toNatClampNeg = nI a := (congrArg a_reader i10.2.2).trans h10
  obtain ⟨c4, c5⟩ := xr_c4 (s := s) (a := a) hs ha
  obtain ⟨g1, g2⟩ := xr_c8 hs
  rw [wX_closeEnds_58]
  refine pk_le 4 k (fun y => absurd y (by omega)) (fun y => ⟨i2.2.1, i10.2.1, ?_⟩)
  rw [e10, e2, e3, e5, c5, he]
  refine ⟨c4, ?_⟩
  refine pk_le e t (fun y => ⟨i3.2.1, ?_⟩) (fun y => H0 y)
  refine br_c (fun z3 => ⟨i5.2.1, br_c (fun z5 => ⟨i10.2.1, ?_⟩) (fun z5 => H14 y (fun w => z5 w.2))⟩) (fun z3 => H14 y (fun w => z3 w.1))
  refine pk_eq a 0 (fun z => ?_) (fun z => ?_)
  · refine ⟨g1, g1, nm_r (by rw [g2]) ⟨i0.2.1, nm_r ?_ (H1 y z3 z5 z)⟩⟩
    exact congrArg (fun j => upd a_reader j 0) i0.2.2
  · obtain ⟨b, rfl⟩ : ∃ b, a = b + 1 := ⟨a - 1, by omega⟩
    refine ⟨i10.2.1, i10.2.1, nm_r (e' := upd a_reader (11 * s + 10) (nI b)) ?_ (nm_r (nI_1 _) (H2 b y z3 z5 rfl))⟩
    rw [nI_pred]
    exact congrArg (fun j => upd a_reader j (nI b)) i10.2.2
/-- an element has come to its end: the parts that end with it -/
theorem xw_clE {t : Nat} {lim : Nat → Nat} (hs : s < 8) (ht : t ≤ 200) (hl0 : lim 0 ≤ 200) {post : Int32 → SX → Prop} (a : Nat) : ∀ (a_reader : Nat → Int32) (k : Nat), k + a ≤ 3 →
    a_reader (11 * s + 2) = nI t → a_reader (11 * s + 3) = 0 → a_reader (11 * s + 5) = 0 → a_reader (11 * s + 10) = nI a →
    (∀ i, i ≤ a → a_chainEnd (4 * s + i) = nI (lim i) ∧ lim i ≤ lim 0 ∧ (i < a → lim (i + 1) ≤ lim i)) → t ≤ lim a →
    (t ≠ lim 0 → post 0 (f_frameAt, f_frameLength, f_frameSort, f_frameFlags, f_frameStream, f_down, f_entryCount, f_most, f_typeSeen, f_lastSender, f_sentLength, a_payload, a_life, a_theyEnded, a_weEnded, a_finishing, a_codes, a_windowIn, a_windowOut, a_headers, a_headerCount, a_entries, a_kinds, a_repeats, a_messageCount, a_text, a_nodeCount, a_nodeTypes, a_valueCount, a_valueOwners, a_values, a_skippedCount, upd a_reader (11 * s + 10) (nI (pm_pop lim t a)), a_chainNode, a_chainEnd, a_queue, a_queueLength, a_sent, a_nodeSize, a_nodePlace)) →
    (t = lim 0 → post 0 (f_frameAt, f_frameLength, f_frameSort, f_frameFlags, f_frameStream, f_down, f_entryCount, f_most, f_typeSeen, f_lastSender, f_sentLength, a_payload, a_life, a_theyEnded, a_weEnded, a_finishing, a_codes, a_windowIn, a_windowOut, a_headers, a_headerCount, a_entries, a_kinds, a_repeats, upd a_messageCount s (a_messageCount s + 1), a_text, a_nodeCount, a_nodeTypes, a_valueCount, a_valueOwners, a_values, a_skippedCount, upd (upd a_reader (11 * s + 10) (nI 0)) (11 * s) 0, a_chainNode, a_chainEnd, a_queue, a_queueLength, a_sent, a_nodeSize, a_nodePlace)) →
    wX_closeEnds_58 post (nI s) (nI (11 * s)) f_frameAt f_frameLength f_frameSort f_frameFlags f_frameStream f_down f_entryCount f_most f_typeSeen f_lastSender f_sentLength (a + 1) (nI k) a_payload a_life a_theyEnded a_weEnded a_finishing a_codes a_windowIn a_windowOut a_headers a_headerCount a_entries a_kinds a_repeats a_messageCount a_text a_nodeCount a_nodeTypes a_valueCount a_valueOwners a_values a_skippedCount a_reader a_chainNode a_chainEnd a_queue a_queueLength a_sent a_nodeSize a_nodePlace := by
  induction a with
  | zero =>
    intro a_reader k hk h2 h3 h5 h10 hl hta H1 H2
    refine xw_clS hs ht (by omega) (by omega) h2 h3 h5 h10 (hl 0 (Nat.le_refl _)).1 hl0 (fun y => ?_) (fun _ y => absurd ⟨rfl, rfl⟩ y) (fun y _ _ _ => ?_) (fun b _ _ _ y => absurd y (by omega))
    · have := H1 (by omega)
      rw [show pm_pop lim t 0 = 0 from rfl, xr_ui h10] at this
      exact this
    · have := H2 (by omega)
      rw [xr_ui h10] at this
      exact this
  | succ a ih =>
    intro a_reader k hk h2 h3 h5 h10 hl hta H1 H2
    have hla := hl (a + 1) (Nat.le_refl _)
    have hlb := hl a (by omega)
    refine xw_clS hs ht (by omega) (by omega) h2 h3 h5 h10 hla.1 (by omega) (fun y => ?_) (fun _ y => absurd ⟨rfl, rfl⟩ y) (fun y _ _ z => absurd z (by omega)) (fun b y _ _ z => ?_)
    · have := H1 (by omega)
      rw [pm_pop, if_neg (by omega), xr_ui h10] at this
      exact this
    · have hb : b = a := by omega
      subst hb
      refine ih (upd a_reader (11 * s + 10) (nI b)) (k + 1) (by omega) (by rw [xr_u, if_neg (by omega)]; exact h2) (by rw [xr_u, if_neg (by omega)]; exact h3) (by rw [xr_u, if_neg (by omega)]; exact h5) (by rw [xr_u, if_pos rfl]) (fun i hi => ⟨(hl i (by omega)).1, (hl i (by omega)).2.1, fun w => (hl i (by omega)).2.2 (by omega)⟩) ?_ (fun w => ?_) (fun w => ?_)
      · have := hlb.2.2 (by omega)
        omega
      · have := H1 w
        rw [pm_pop, if_pos (by omega)] at this
        rw [xr_uu]; exact this
      · rw [xr_uu]; exact H2 w
end
end
section
/-! Q: tags and numbers -/
section
theorem xr_k2 : ∀ k, k ≤ 8 → (nI k + (-1) = -1 ↔ k = 0) ∧ (nI k + (-1) = 0 ↔ k = 1) ∧ (nI k + (-1) = 1 ↔ k = 2) ∧ (nI k + (-1) = 2 ↔ k = 3) ∧ (nI k + (-1) = 3 ↔ k = 4) ∧ (nI k + (-1) < 4 ↔ k ≤ 4) ∧ (4 < k → nI k + (-1) - 4 = nI (k - 5)) := by
  decide +kernel
variable {f_frameAt f_frameLength f_frameSort f_frameFlags f_frameStream f_down f_entryCount f_most f_typeSeen f_lastSender f_sentLength : Int32} {a_payload a_life a_theyEnded a_weEnded a_finishing a_codes a_windowIn a_windowOut a_headers a_headerCount a_entries a_kinds a_repeats a_messageCount a_text a_nodeCount a_nodeTypes a_valueCount a_valueOwners a_values a_skippedCount a_reader a_chainNode a_chainEnd a_queue a_queueLength a_sent a_nodeSize a_nodePlace : Nat → Int32} {s : Nat} {K : Nat → Nat} {R : Nat → Bool} {L : Nat} {dep : Nat → Nat} {c : pm_C} {D : pm_D}
theorem xw_fo {a q : Nat} {post : Int32 → Prop} (hs : s < 8) (hD : cr_XD K s a_nodeCount a_nodeTypes a_valueCount a_valueOwners a_values D) (ha : a < pm_nn D) (ha' : a < 16)
    (H : post (nI (16 * pm_nt D a + q))) : wpX_fieldOf post (f_frameAt, f_frameLength, f_frameSort, f_frameFlags, f_frameStream, f_down, f_entryCount, f_most, f_typeSeen, f_lastSender, f_sentLength, a_payload, a_life, a_theyEnded, a_weEnded, a_finishing, a_codes, a_windowIn, a_windowOut, a_headers, a_headerCount, a_entries, a_kinds, a_repeats, a_messageCount, a_text, a_nodeCount, a_nodeTypes, a_valueCount, a_valueOwners, a_values, a_skippedCount, a_reader, a_chainNode, a_chainEnd, a_queue, a_queueLength, a_sent, a_nodeSize, a_nodePlace) (nI s) (nI a) (nI q) := by
  unfold wpX_fieldOf
  obtain ⟨c1, c2⟩ := xr_c16 (s := s) (a := a) hs ha'
  have e : nI (pm_nt D a) * 16 + nI q = nI (16 * pm_nt D a + q) := by
    rw [show (16 : Int32) = nI 16 from rfl, pk_mul, nI_add, Nat.mul_comm]
  dsimp only
  rw [c2, hD.2.2.1 a ha, e]
  exact ⟨c1, H⟩
theorem xw_wire {k : Nat} {post : Int32 → Prop} (hk : k ≤ 8) (hk0 : k ≠ 0) (H : post (nI (pm_w k))) : wpX_wireOf post (f_frameAt, f_frameLength, f_frameSort, f_frameFlags, f_frameStream, f_down, f_entryCount, f_most, f_typeSeen, f_lastSender, f_sentLength, a_payload, a_life, a_theyEnded, a_weEnded, a_finishing, a_codes, a_windowIn, a_windowOut, a_headers, a_headerCount, a_entries, a_kinds, a_repeats, a_messageCount, a_text, a_nodeCount, a_nodeTypes, a_valueCount, a_valueOwners, a_values, a_skippedCount, a_reader, a_chainNode, a_chainEnd, a_queue, a_queueLength, a_sent, a_nodeSize, a_nodePlace) (nI k + (-1)) := by
  have yk := xr_k2 k hk
  unfold wpX_wireOf
  unfold pm_w at H
  refine br_c (fun y => ?_) (fun y => br_c (fun y2 => ?_) (fun y2 => br_c (fun y3 => ?_) (fun y3 => ?_)))
  · have := yk.2.1.mp y
    rw [if_pos (by omega)] at H; exact H
  · have := yk.2.2.1.mp y2
    rw [if_pos (by omega)] at H; exact H
  · have := yk.2.2.2.1.mp y3
    rw [if_neg (by omega), if_pos this] at H; exact H
  · have h1 : k ≠ 1 := fun w => y (yk.2.1.mpr w)
    have h2 : k ≠ 2 := fun w => y2 (yk.2.2.1.mpr w)
    have h3 : k ≠ 3 := fun w => y3 (yk.2.2.2.1.mpr w)
    rw [if_neg (by omega), if_neg h3] at H; exact H
theorem xw_known {n w : Nat} {post : Int32 → Prop} (hs : s < 8) (I : pm_CI K R L dep c) (hK : cr_K a_kinds a_repeats K R) (hD : cr_XD K s a_nodeCount a_nodeTypes a_valueCount a_valueOwners a_values (pm_d c)) (hn1 : 1 ≤ n) (hn : n < 2 ^ 30) (hw : w < 8)
    (h10 : a_reader (11 * s + 10) = nI (pm_at c)) (hcn : a_chainNode (4 * s + pm_at c) = nI (pm_nd c))
    (H : post (nI (if pm_fl K R c n w = 0 then 0 else pm_fj c (pm_fl K R c n w)))) : wpX_knownField post (f_frameAt, f_frameLength, f_frameSort, f_frameFlags, f_frameStream, f_down, f_entryCount, f_most, f_typeSeen, f_lastSender, f_sentLength, a_payload, a_life, a_theyEnded, a_weEnded, a_finishing, a_codes, a_windowIn, a_windowOut, a_headers, a_headerCount, a_entries, a_kinds, a_repeats, a_messageCount, a_text, a_nodeCount, a_nodeTypes, a_valueCount, a_valueOwners, a_values, a_skippedCount, a_reader, a_chainNode, a_chainEnd, a_queue, a_queueLength, a_sent, a_nodeSize, a_nodePlace) (nI s) (nI n) (nI w) := by
  have h3 := I.2.1
  have hin := I.2.2.2.2.1 (pm_at c) (Nat.le_refl _)
  have hnd : pm_nd c < pm_nn (pm_d c) := hin.1
  have hnn := I.1.2.1
  have hty := (I.1.2.2.2.2.1 _ hnd).1
  have i10 := xr_ix (s := s) (k := 10) hs (by omega)
  have e10 : a_reader (nI (11 * s) + 10).toNatClampNeg = nI (pm_at c) := (congrArg a_reader i10.2.2).trans h10
  obtain ⟨c4, c5⟩ := xr_c4 (s := s) (a := pm_at c) hs h3
  unfold wpX_knownField
  dsimp only
  refine pk_lt n 16 (fun g => ?_) (fun g => ?_) rfl rfl (by omega) (by omega)
  · rw [i10.1, e10, c5, hcn]
    refine ⟨i10.2.1, c4, nm_e (xw_fo hs hD hnd (by omega) ?_)⟩
    have hj : pm_fj c n < 64 := by
      show 16 * pm_nt (pm_d c) (pm_nd c) + n < 64; omega
    have efj : 16 * pm_nt (pm_d c) (pm_nd c) + n = pm_fj c n := rfl
    rw [efj]
    refine ⟨vp_in_nI hj (by omega), nm_r (by rw [nI_clamp (by omega), hK.2.1 _ hj]) ?_⟩
    have hk8 := hK.1 (pm_fj c n)
    have yk := xr_k2 (K (pm_fj c n)) hk8
    unfold pm_fl at H
    rw [if_neg (show ¬ 15 < n by omega)] at H
    refine br_c (fun w0 => ?_) (fun w0 => ?_)
    · rw [if_pos (yk.1.mp w0), if_pos rfl] at H; exact H
    · have hk0 : K (pm_fj c n) ≠ 0 := fun y => w0 (yk.1.mpr y)
      rw [if_neg hk0] at H
      have hwk : pm_w (K (pm_fj c n)) < 8 := by
        unfold pm_w; split
        · omega
        · split <;> omega
      have h83 : (w = pm_w (K (pm_fj c n)) ∨ (w = 2 ∧ R (pm_fj c n) = true)) → wX_knownField_83 post (nI (pm_fj c n)) f_frameAt f_frameLength f_frameSort f_frameFlags f_frameStream f_down f_entryCount f_most f_typeSeen f_lastSender f_sentLength a_payload a_life a_theyEnded a_weEnded a_finishing a_codes a_windowIn a_windowOut a_headers a_headerCount a_entries a_kinds a_repeats a_messageCount a_text a_nodeCount a_nodeTypes a_valueCount a_valueOwners a_values a_skippedCount a_reader a_chainNode a_chainEnd a_queue a_queueLength a_sent a_nodeSize a_nodePlace := by
        intro y
        unfold wX_knownField_83 wX_knownField_88
        rw [if_pos y, if_neg (show ¬ n = 0 by omega)] at H
        exact br_f (by decide) H
      have h87 : ¬ (w = pm_w (K (pm_fj c n)) ∨ (w = 2 ∧ R (pm_fj c n) = true)) → wX_knownField_87 post (nI (pm_fj c n)) f_frameAt f_frameLength f_frameSort f_frameFlags f_frameStream f_down f_entryCount f_most f_typeSeen f_lastSender f_sentLength a_payload a_life a_theyEnded a_weEnded a_finishing a_codes a_windowIn a_windowOut a_headers a_headerCount a_entries a_kinds a_repeats a_messageCount a_text a_nodeCount a_nodeTypes a_valueCount a_valueOwners a_values a_skippedCount a_reader a_chainNode a_chainEnd a_queue a_queueLength a_sent a_nodeSize a_nodePlace := by
        intro y
        unfold wX_knownField_87 wX_knownField_88
        rw [if_neg y, if_pos rfl] at H
        exact br_t rfl H
      refine xw_wire hk8 hk0 ?_
      refine pk_eq w (pm_w (K (pm_fj c n))) (fun y => h83 (Or.inl y)) (fun y => ?_)
      refine pk_eq w 2 (fun y2 => ⟨vp_in_nI hj (by omega), ?_⟩) (fun y2 => h87 (fun z => z.elim y (fun z => y2 z.1)))
      rw [nI_clamp (by omega), hK.2.2 _ hj]
      by_cases hr : R (pm_fj c n) = true
      · rw [if_pos hr]
        exact br_f (by decide) (h83 (Or.inr ⟨y2, hr⟩))
      · rw [if_neg hr]
        exact br_t rfl (h87 (fun z => z.elim y (fun z => hr z.2)))
  · unfold pm_fl at H
    rw [if_pos (show 15 < n by omega), if_pos rfl] at H
    exact H
/-- behind a tag: phase, what is left, field -/
def xr_tg (s : Nat) (h : Int32) (l : Option Int32) (f : Nat) (rd : Nat → Int32) : Nat → Int32 :=
  upd (match l with | none => xr_bN s h rd | some x => upd (xr_bN s h rd) (11 * s + 6) x) (11 * s + 7) (nI f)
theorem xw_tag {x : Int32} {post : Int32 → SX → Prop} (hs : s < 8) (I : pm_CI K R L dep c) (hK : cr_K a_kinds a_repeats K R) (hD : cr_XD K s a_nodeCount a_nodeTypes a_valueCount a_valueOwners a_values (pm_d c))
    (h4 : a_reader (11 * s + 4) = x) (h10 : a_reader (11 * s + 10) = nI (pm_at c)) (hcn : a_chainNode (4 * s + pm_at c) = nI (pm_nd c))
    (H2 : x.toBitVec.toNat / 8 = 0 ∨ (x.toBitVec.toNat % 8 ≠ 0 ∧ x.toBitVec.toNat % 8 ≠ 1 ∧ x.toBitVec.toNat % 8 ≠ 2 ∧ x.toBitVec.toNat % 8 ≠ 5) → post 12 (f_frameAt, f_frameLength, f_frameSort, f_frameFlags, f_frameStream, f_down, f_entryCount, f_most, f_typeSeen, f_lastSender, f_sentLength, a_payload, a_life, a_theyEnded, a_weEnded, a_finishing, a_codes, a_windowIn, a_windowOut, a_headers, a_headerCount, a_entries, a_kinds, a_repeats, a_messageCount, a_text, a_nodeCount, a_nodeTypes, a_valueCount, a_valueOwners, a_values, a_skippedCount, a_reader, a_chainNode, a_chainEnd, a_queue, a_queueLength, a_sent, a_nodeSize, a_nodePlace))
    (HV : ∀ f, x.toBitVec.toNat / 8 ≠ 0 → x.toBitVec.toNat % 8 = 0 → f = pm_fl K R c (x.toBitVec.toNat / 8) 0 → post 0 (f_frameAt, f_frameLength, f_frameSort, f_frameFlags, f_frameStream, f_down, f_entryCount, f_most, f_typeSeen, f_lastSender, f_sentLength, a_payload, a_life, a_theyEnded, a_weEnded, a_finishing, a_codes, a_windowIn, a_windowOut, a_headers, a_headerCount, a_entries, a_kinds, a_repeats, a_messageCount, a_text, a_nodeCount, a_nodeTypes, a_valueCount, a_valueOwners, a_values, a_skippedCount, xr_tg s 2 none (if f = 0 then 0 else pm_fj c f) a_reader, a_chainNode, a_chainEnd, a_queue, a_queueLength, a_sent, a_nodeSize, a_nodePlace))
    (H8 : ∀ f, x.toBitVec.toNat / 8 ≠ 0 → x.toBitVec.toNat % 8 = 1 → f = pm_fl K R c (x.toBitVec.toNat / 8) 1 → post 0 (f_frameAt, f_frameLength, f_frameSort, f_frameFlags, f_frameStream, f_down, f_entryCount, f_most, f_typeSeen, f_lastSender, f_sentLength, a_payload, a_life, a_theyEnded, a_weEnded, a_finishing, a_codes, a_windowIn, a_windowOut, a_headers, a_headerCount, a_entries, a_kinds, a_repeats, a_messageCount, a_text, a_nodeCount, a_nodeTypes, a_valueCount, a_valueOwners, a_values, a_skippedCount, xr_tg s 3 (some 8) (if f = 0 then 0 else pm_fj c f) a_reader, a_chainNode, a_chainEnd, a_queue, a_queueLength, a_sent, a_nodeSize, a_nodePlace))
    (HL : ∀ f, x.toBitVec.toNat / 8 ≠ 0 → x.toBitVec.toNat % 8 = 2 → f = pm_fl K R c (x.toBitVec.toNat / 8) 2 → post 0 (f_frameAt, f_frameLength, f_frameSort, f_frameFlags, f_frameStream, f_down, f_entryCount, f_most, f_typeSeen, f_lastSender, f_sentLength, a_payload, a_life, a_theyEnded, a_weEnded, a_finishing, a_codes, a_windowIn, a_windowOut, a_headers, a_headerCount, a_entries, a_kinds, a_repeats, a_messageCount, a_text, a_nodeCount, a_nodeTypes, a_valueCount, a_valueOwners, a_values, a_skippedCount, xr_tg s 1 none (if f = 0 then 0 else pm_fj c f) a_reader, a_chainNode, a_chainEnd, a_queue, a_queueLength, a_sent, a_nodeSize, a_nodePlace))
    (H5 : ∀ f, x.toBitVec.toNat / 8 ≠ 0 → x.toBitVec.toNat % 8 = 5 → f = pm_fl K R c (x.toBitVec.toNat / 8) 5 → post 0 (f_frameAt, f_frameLength, f_frameSort, f_frameFlags, f_frameStream, f_down, f_entryCount, f_most, f_typeSeen, f_lastSender, f_sentLength, a_payload, a_life, a_theyEnded, a_weEnded, a_finishing, a_codes, a_windowIn, a_windowOut, a_headers, a_headerCount, a_entries, a_kinds, a_repeats, a_messageCount, a_text, a_nodeCount, a_nodeTypes, a_valueCount, a_valueOwners, a_values, a_skippedCount, xr_tg s 3 (some 4) (if f = 0 then 0 else pm_fj c f) a_reader, a_chainNode, a_chainEnd, a_queue, a_queueLength, a_sent, a_nodeSize, a_nodePlace)) :
    wpX_endTag post (f_frameAt, f_frameLength, f_frameSort, f_frameFlags, f_frameStream, f_down, f_entryCount, f_most, f_typeSeen, f_lastSender, f_sentLength, a_payload, a_life, a_theyEnded, a_weEnded, a_finishing, a_codes, a_windowIn, a_windowOut, a_headers, a_headerCount, a_entries, a_kinds, a_repeats, a_messageCount, a_text, a_nodeCount, a_nodeTypes, a_valueCount, a_valueOwners, a_values, a_skippedCount, a_reader, a_chainNode, a_chainEnd, a_queue, a_queueLength, a_sent, a_nodeSize, a_nodePlace) (nI s) := by
  have i4 := xr_ix (s := s) (k := 4) hs (by omega)
  have i6 := xr_ix (s := s) (k := 6) hs (by omega)
  have i7 := xr_ix (s := s) (k := 7) hs (by omega)
  have e4 : a_reader (nI (11 * s) + 4).toNatClampNeg = x := (congrArg a_reader i4.2.2).trans h4
  have hX : x.toBitVec.toNat < 2 ^ 32 := x.toBitVec.isLt
  have e3 : x &&& 7 = nI (x.toBitVec.toNat % 2 ^ 3) := pk_and x 3 (by decide)
  have eu := yr_u3 x
  unfold wpX_endTag
  dsimp only
  refine nm_r i4.1 ⟨i4.2.1, nm_r (by rw [e4, e3]) ⟨i4.2.1, nm_r (by rw [e4, eu]) ?_⟩⟩
  generalize x.toBitVec.toNat = X at *
  have k136 : ∀ (rd : Nat → Int32) w, w = X % 8 → X / 8 ≠ 0 → rd (11 * s + 10) = nI (pm_at c) → (∀ f, f = pm_fl K R c (X / 8) w → post 0 (f_frameAt, f_frameLength, f_frameSort, f_frameFlags, f_frameStream, f_down, f_entryCount, f_most, f_typeSeen, f_lastSender, f_sentLength, a_payload, a_life, a_theyEnded, a_weEnded, a_finishing, a_codes, a_windowIn, a_windowOut, a_headers, a_headerCount, a_entries, a_kinds, a_repeats, a_messageCount, a_text, a_nodeCount, a_nodeTypes, a_valueCount, a_valueOwners, a_values, a_skippedCount, upd rd (11 * s + 7) (nI (if f = 0 then 0 else pm_fj c f)), a_chainNode, a_chainEnd, a_queue, a_queueLength, a_sent, a_nodeSize, a_nodePlace)) →
      wX_endTag_136 post (nI s) (nI (11 * s)) (nI w) (nI (X / 8)) f_frameAt f_frameLength f_frameSort f_frameFlags f_frameStream f_down f_entryCount f_most f_typeSeen f_lastSender f_sentLength a_payload a_life a_theyEnded a_weEnded a_finishing a_codes a_windowIn a_windowOut a_headers a_headerCount a_entries a_kinds a_repeats a_messageCount a_text a_nodeCount a_nodeTypes a_valueCount a_valueOwners a_values a_skippedCount (rd) a_chainNode a_chainEnd a_queue a_queueLength a_sent a_nodeSize a_nodePlace := by
    intro rd w hw hn hr10 H
    unfold wX_endTag_136
    refine xw_known (a_reader := rd) hs I hK hD (by omega) (by omega) (by omega) hr10 hcn ⟨i7.2.1, nm_r ?_ (H _ rfl)⟩
    exact congrArg (fun j => upd rd j _) i7.2.2
  refine pk_eq (X / 8) 0 (fun y => H2 (Or.inl y)) (fun y => ?_) rfl rfl (by omega) (by omega)
  refine br_f (nI_pos (by omega)) ?_
  refine pk_lt 5 (X % 2 ^ 3) (fun y1 => H2 (Or.inr ⟨by omega, by omega, by omega, by omega⟩)) (fun y1 => ?_) rfl rfl (by omega) (by omega)
  refine pk_eq (X % 2 ^ 3) 0 (fun w => ?_) (fun w0 => ?_) rfl rfl (by omega) (by omega)
  · rw [w]
    exact xw_bN (x := 2) hs (k136 (xr_bN s 2 a_reader) 0 (by omega) y (by rw [xr_bN_k, if_neg (by omega), if_neg (by omega)]; exact h10) (fun f hf => HV f y (by omega) hf))
  refine pk_eq (X % 2 ^ 3) 1 (fun w => ?_) (fun w1 => ?_) rfl rfl (by omega) (by omega)
  · rw [w]
    refine xw_bN (x := 3) hs ⟨i6.2.1, nm_r (e' := upd (xr_bN s 3 a_reader) (11 * s + 6) 8) (congrArg (fun j => upd (xr_bN s 3 a_reader) j 8) i6.2.2) ?_⟩
    exact k136 _ 1 (by omega) y (by rw [xr_u, if_neg (by omega), xr_bN_k, if_neg (by omega), if_neg (by omega)]; exact h10) (fun f hf => H8 f y (by omega) hf)
  refine pk_eq (X % 2 ^ 3) 2 (fun w => ?_) (fun w2 => ?_) rfl rfl (by omega) (by omega)
  · rw [w]
    exact xw_bN (x := 1) hs (k136 (xr_bN s 1 a_reader) 2 (by omega) y (by rw [xr_bN_k, if_neg (by omega), if_neg (by omega)]; exact h10) (fun f hf => HL f y (by omega) hf))
  refine pk_eq (X % 2 ^ 3) 3 (fun w => H2 (Or.inr ⟨by omega, by omega, by omega, by omega⟩)) (fun w3 => ?_) rfl rfl (by omega) (by omega)
  refine pk_eq (X % 2 ^ 3) 4 (fun w => H2 (Or.inr ⟨by omega, by omega, by omega, by omega⟩)) (fun w4 => ?_) rfl rfl (by omega) (by omega)
  refine pk_eq (X % 2 ^ 3) 5 (fun w => ?_) (fun w5 => True.intro) rfl rfl (by omega) (by omega)
  rw [w]
  refine xw_bN (x := 3) hs ⟨i6.2.1, nm_r (e' := upd (xr_bN s 3 a_reader) (11 * s + 6) 4) (congrArg (fun j => upd (xr_bN s 3 a_reader) j 4) i6.2.2) ?_⟩
  exact k136 _ 5 (by omega) y (by rw [xr_u, if_neg (by omega), xr_bN_k, if_neg (by omega), if_neg (by omega)]; exact h10) (fun f hf => H5 f y (by omega) hf)
end
end
section
/-! R: numbers that end -/
section
variable {f_frameAt f_frameLength f_frameSort f_frameFlags f_frameStream f_down f_entryCount f_most f_typeSeen f_lastSender f_sentLength : Int32} {a_payload a_life a_theyEnded a_weEnded a_finishing a_codes a_windowIn a_windowOut a_headers a_headerCount a_entries a_kinds a_repeats a_messageCount a_text a_nodeCount a_nodeTypes a_valueCount a_valueOwners a_values a_skippedCount a_reader a_chainNode a_chainEnd a_queue a_queueLength a_sent a_nodeSize a_nodePlace : Nat → Int32} {s : Nat} {K : Nat → Nat} {R : Nat → Bool} {L : Nat} {dep : Nat → Nat} {c : pm_C}
theorem xw_num {f t : Nat} {x : Int32} {post : Int32 → SX → Prop} (hs : s < 8) (I : pm_CI K R L dep c) (hK : cr_K a_kinds a_repeats K R) (hD : cr_XD K s a_nodeCount a_nodeTypes a_valueCount a_valueOwners a_values (pm_d c)) (hL : L ≤ 200)
    (h2 : a_reader (11 * s + 2) = nI t) (h4 : a_reader (11 * s + 4) = x) (h7 : a_reader (11 * s + 7) = nI (if f = 0 then 0 else pm_fj c f)) (h8 : a_reader (11 * s + 8) = nI (pm_row c))
    (h9 : f = 0 → pm_row c = 0 ∧ a_reader (11 * s + 9) = nI (pm_pos c) ∧ pm_pos c ≤ t) (h10 : a_reader (11 * s + 10) = nI (pm_at c)) (hcn : a_chainNode (4 * s + pm_at c) = nI (pm_nd c))
    (hf : f ≠ 0 → f ≤ 15 ∧ 1 ≤ K (pm_fj c f) ∧ K (pm_fj c f) ≤ 3)
    (H0 : f = 0 → post 0 (f_frameAt, f_frameLength, f_frameSort, f_frameFlags, f_frameStream, f_down, f_entryCount, f_most, f_typeSeen, f_lastSender, f_sentLength, a_payload, a_life, a_theyEnded, a_weEnded, a_finishing, a_codes, a_windowIn, a_windowOut, a_headers, a_headerCount, a_entries, a_kinds, a_repeats, a_messageCount, a_text, a_nodeCount, a_nodeTypes, a_valueCount, a_valueOwners, a_values, upd a_skippedCount s (a_skippedCount s + nI (t - pm_pos c)), xr_bE s a_reader, a_chainNode, a_chainEnd, a_queue, a_queueLength, a_sent, a_nodeSize, a_nodePlace))
    (H5 : f ≠ 0 → pm_pl R (pm_d c) (pm_nd c) f = 48 → post 15 (f_frameAt, f_frameLength, f_frameSort, f_frameFlags, f_frameStream, f_down, f_entryCount, f_most, f_typeSeen, f_lastSender, f_sentLength, a_payload, a_life, a_theyEnded, a_weEnded, a_finishing, a_codes, a_windowIn, a_windowOut, a_headers, a_headerCount, a_entries, a_kinds, a_repeats, a_messageCount, a_text, a_nodeCount, a_nodeTypes, a_valueCount, a_valueOwners, a_values, a_skippedCount, if pm_row c = 0 then xr_bE s a_reader else xr_bN s (a_reader (11 * s + 3)) a_reader, a_chainNode, a_chainEnd, a_queue, a_queueLength, a_sent, a_nodeSize, a_nodePlace))
    (H1 : ∀ vc vo va, f ≠ 0 → pm_pl R (pm_d c) (pm_nd c) f ≠ 48 → cr_XD K s a_nodeCount a_nodeTypes vc vo va (pm_kp R (pm_d c) (pm_nd c) f (pm_val K (pm_fj c f) x) 0) → xr_O 1 s a_valueCount vc → xr_O 48 s a_valueOwners vo → xr_O 48 s a_values va →
      post 0 (f_frameAt, f_frameLength, f_frameSort, f_frameFlags, f_frameStream, f_down, f_entryCount, f_most, f_typeSeen, f_lastSender, f_sentLength, a_payload, a_life, a_theyEnded, a_weEnded, a_finishing, a_codes, a_windowIn, a_windowOut, a_headers, a_headerCount, a_entries, a_kinds, a_repeats, a_messageCount, a_text, a_nodeCount, a_nodeTypes, vc, vo, va, a_skippedCount, if pm_row c = 0 then xr_bE s a_reader else xr_bN s (a_reader (11 * s + 3)) a_reader, a_chainNode, a_chainEnd, a_queue, a_queueLength, a_sent, a_nodeSize, a_nodePlace)) :
    wpX_endNumber post (f_frameAt, f_frameLength, f_frameSort, f_frameFlags, f_frameStream, f_down, f_entryCount, f_most, f_typeSeen, f_lastSender, f_sentLength, a_payload, a_life, a_theyEnded, a_weEnded, a_finishing, a_codes, a_windowIn, a_windowOut, a_headers, a_headerCount, a_entries, a_kinds, a_repeats, a_messageCount, a_text, a_nodeCount, a_nodeTypes, a_valueCount, a_valueOwners, a_values, a_skippedCount, a_reader, a_chainNode, a_chainEnd, a_queue, a_queueLength, a_sent, a_nodeSize, a_nodePlace) (nI s) := by
  have h3 := I.2.1
  have hin := I.2.2.2.2.1 (pm_at c) (Nat.le_refl _)
  have hnd : pm_nd c < pm_nn (pm_d c) := hin.1
  have hnn := I.1.2.1
  have hty := (I.1.2.2.2.2.1 _ hnd).1
  have hrow : pm_row c ≤ 200 := by
    have h1 := pm_lim_le I (pm_at c) (Nat.le_refl _)
    by_cases y : pm_row c = 0
    · omega
    · have := (I.2.2.2.2.2.2.2 y).1
      omega
  have i3 := xr_ix (s := s) (k := 3) hs (by omega)
  have i4 := xr_ix (s := s) (k := 4) hs (by omega)
  have i7 := xr_ix (s := s) (k := 7) hs (by omega)
  have i8 := xr_ix (s := s) (k := 8) hs (by omega)
  have e3 : a_reader (nI (11 * s) + 3).toNatClampNeg = a_reader (11 * s + 3) := congrArg a_reader i3.2.2
  have e4 : a_reader (nI (11 * s) + 4).toNatClampNeg = x := (congrArg a_reader i4.2.2).trans h4
  have e7 : a_reader (nI (11 * s) + 7).toNatClampNeg = nI (if f = 0 then 0 else pm_fj c f) := (congrArg a_reader i7.2.2).trans h7
  have e8 : a_reader (nI (11 * s) + 8).toNatClampNeg = nI (pm_row c) := (congrArg a_reader i8.2.2).trans h8
  have hj : f ≠ 0 → 1 ≤ pm_fj c f ∧ pm_fj c f < 64 := by
    intro y
    have := (hf y).1
    show 1 ≤ 16 * pm_nt (pm_d c) (pm_nd c) + f ∧ 16 * pm_nt (pm_d c) (pm_nd c) + f < 64
    omega
  -- the end, with what was kept
  have h78 : ∀ (vc vo va : Nat → Int32) (y : Int32), f ≠ 0 → post y (f_frameAt, f_frameLength, f_frameSort, f_frameFlags, f_frameStream, f_down, f_entryCount, f_most, f_typeSeen, f_lastSender, f_sentLength, a_payload, a_life, a_theyEnded, a_weEnded, a_finishing, a_codes, a_windowIn, a_windowOut, a_headers, a_headerCount, a_entries, a_kinds, a_repeats, a_messageCount, a_text, a_nodeCount, a_nodeTypes, vc, vo, va, a_skippedCount, if pm_row c = 0 then xr_bE s a_reader else xr_bN s (a_reader (11 * s + 3)) a_reader, a_chainNode, a_chainEnd, a_queue, a_queueLength, a_sent, a_nodeSize, a_nodePlace) →
      wX_endNumber_78 post (nI s) (nI (11 * s)) y f_frameAt f_frameLength f_frameSort f_frameFlags f_frameStream f_down f_entryCount f_most f_typeSeen f_lastSender f_sentLength a_payload a_life a_theyEnded a_weEnded a_finishing a_codes a_windowIn a_windowOut a_headers a_headerCount a_entries a_kinds a_repeats a_messageCount a_text a_nodeCount a_nodeTypes (vc) (vo) (va) a_skippedCount a_reader a_chainNode a_chainEnd a_queue a_queueLength a_sent a_nodeSize a_nodePlace := by
    intro vc vo va y hf0 H
    unfold wX_endNumber_78
    rw [e8, e3]
    refine ⟨i8.2.1, pk_eq (pm_row c) 0 (fun w => ?_) (fun w => ⟨i3.2.1, ?_⟩)⟩
    · rw [if_pos w] at H
      have := xw_eE (a_valueCount := vc) (a_valueOwners := vo) (a_values := va) (f := pm_fj c f) (t := t) (p := 0) (post := fun u => match u with | (f_frameAt, f_frameLength, f_frameSort, f_frameFlags, f_frameStream, f_down, f_entryCount, f_most, f_typeSeen, f_lastSender, f_sentLength, a_payload, a_life, a_theyEnded, a_weEnded, a_finishing, a_codes, a_windowIn, a_windowOut, a_headers, a_headerCount, a_entries, a_kinds, a_repeats, a_messageCount, a_text, a_nodeCount, a_nodeTypes, a_valueCount, a_valueOwners, a_values, a_skippedCount, a_reader, a_chainNode, a_chainEnd, a_queue, a_queueLength, a_sent, a_nodeSize, a_nodePlace) => post y (f_frameAt, f_frameLength, f_frameSort, f_frameFlags, f_frameStream, f_down, f_entryCount, f_most, f_typeSeen, f_lastSender, f_sentLength, a_payload, a_life, a_theyEnded, a_weEnded, a_finishing, a_codes, a_windowIn, a_windowOut, a_headers, a_headerCount, a_entries, a_kinds, a_repeats, a_messageCount, a_text, a_nodeCount, a_nodeTypes, a_valueCount, a_valueOwners, a_values, a_skippedCount, a_reader, a_chainNode, a_chainEnd, a_queue, a_queueLength, a_sent, a_nodeSize, a_nodePlace)) hs (by rw [h7, if_neg hf0]) (hj hf0).2 h2 (fun z => absurd z (by have := (hj hf0).1; omega)) (by
        rw [if_neg (show ¬ pm_fj c f = 0 by have := (hj hf0).1; omega)]; exact H)
      exact this
    · rw [if_neg w] at H
      exact xw_bN hs H
  unfold wpX_endNumber
  dsimp only
  refine nm_r i4.1 ⟨i4.2.1, nm_r e4 ⟨i7.2.1, ?_⟩⟩
  rw [e7]
  by_cases hf0 : f = 0
  · rw [if_pos hf0]
    refine br_t rfl ?_
    obtain ⟨r0, r9, rp⟩ := h9 hf0
    unfold wX_endNumber_78
    rw [e8, r0]
    refine ⟨i8.2.1, br_t rfl ?_⟩
    refine xw_eE (f := 0) (t := t) (p := pm_pos c) hs (by rw [h7, if_pos hf0]) (by omega) h2 (fun _ => ⟨r9, rp⟩) ?_
    rw [if_pos rfl]
    exact H0 hf0
  · rw [if_neg hf0]
    obtain ⟨j1, j2⟩ := hj hf0
    obtain ⟨f1, f2, f3⟩ := hf hf0
    refine br_f (fun y => ?_) ⟨i7.2.1, vp_in_nI j2 (by omega), ?_⟩
    · have := (nI_eq (a := pm_fj c f) (b := 0) (by omega) (by omega)).mp y
      omega
    rw [nI_clamp (by omega), hK.2.1 _ j2]
    have yk := xr_k2 _ (hK.1 (pm_fj c f))
    have hkeep : ∀ xv, xv = pm_val K (pm_fj c f) x → wX_endNumber_73 post (nI s) (nI (11 * s)) xv (nI s) f_frameAt f_frameLength f_frameSort f_frameFlags f_frameStream f_down f_entryCount f_most f_typeSeen f_lastSender f_sentLength a_payload a_life a_theyEnded a_weEnded a_finishing a_codes a_windowIn a_windowOut a_headers a_headerCount a_entries a_kinds a_repeats a_messageCount a_text a_nodeCount a_nodeTypes a_valueCount a_valueOwners a_values a_skippedCount a_reader a_chainNode a_chainEnd a_queue a_queueLength a_sent a_nodeSize a_nodePlace := by
      intro xv hxv
      unfold wX_endNumber_73
      refine xw_keep (a := pm_nd c) (n := f) (b := pm_at c) (st := 0) (v := xv) hs I.1 hK hD hnd (by omega) f1 h3 (by rw [h7, if_neg hf0]; rfl) h10 hcn (by rw [if_neg (by show K (pm_fj c f) ≠ 4; omega)]) (fun h48 => ?_) (fun vc vo va h48 g1 g2 g3 g4 => ?_)
      · exact h78 a_valueCount a_valueOwners a_values 15 hf0 (H5 hf0 h48)
      · rw [hxv] at g1
        exact h78 vc vo va 0 hf0 (H1 vc vo va hf0 h48 g1 g2 g3 g4)
    refine br_c (fun w => ?_) (fun w => ?_)
    · unfold wX_endNumber_52
      refine br_f (by decide) (hkeep _ ?_)
      unfold pm_val
      rw [if_pos (yk.2.2.1.mp w)]
      rfl
    · unfold wX_endNumber_52
      refine br_t rfl (hkeep _ ?_)
      unfold pm_val
      rw [if_neg (fun z => w (yk.2.2.1.mpr z))]
end
end
section
/-! S1: parts that begin -/
section
variable {f_frameAt f_frameLength f_frameSort f_frameFlags f_frameStream f_down f_entryCount f_most f_typeSeen f_lastSender f_sentLength : Int32} {a_payload a_life a_theyEnded a_weEnded a_finishing a_codes a_windowIn a_windowOut a_headers a_headerCount a_entries a_kinds a_repeats a_messageCount a_text a_nodeCount a_nodeTypes a_valueCount a_valueOwners a_values a_skippedCount a_reader a_chainNode a_chainEnd a_queue a_queueLength a_sent a_nodeSize a_nodePlace : Nat → Int32} {s : Nat} {K : Nat → Nat} {R : Nat → Bool} {L : Nat} {dep : Nat → Nat} {c : pm_C}
theorem xr_c4u {s a i : Nat} {f : Nat → Int32} {x : Int32} : upd f (4 * s + a) x (4 * s + i) = if i = a then x else f (4 * s + i) := by
  rw [pm_upd_eq]
  by_cases h : i = a
  · rw [if_pos h, if_pos (by omega)]
  · rw [if_neg h, if_neg (by omega)]
/-- a part begins: the chain is longer -/
theorem xw_p105 {t len m : Nat} {post : Int32 → SX → Prop} (hs : s < 8) (h3 : pm_at c + 1 ≤ 3) (h2 : a_reader (11 * s + 2) = nI t) (h10 : a_reader (11 * s + 10) = nI (pm_at c))
    (H : post 0 (f_frameAt, f_frameLength, f_frameSort, f_frameFlags, f_frameStream, f_down, f_entryCount, f_most, f_typeSeen, f_lastSender, f_sentLength, a_payload, a_life, a_theyEnded, a_weEnded, a_finishing, a_codes, a_windowIn, a_windowOut, a_headers, a_headerCount, a_entries, a_kinds, a_repeats, a_messageCount, a_text, a_nodeCount, a_nodeTypes, a_valueCount, a_valueOwners, a_values, a_skippedCount, xr_bE s (upd a_reader (11 * s + 10) (nI (pm_at c + 1))), upd a_chainNode (4 * s + (pm_at c + 1)) (nI m), upd a_chainEnd (4 * s + (pm_at c + 1)) (nI (t + len)), a_queue, a_queueLength, a_sent, a_nodeSize, a_nodePlace)) :
    wX_beginPart_105 post (nI s) (nI len) (nI (11 * s)) (nI m) f_frameAt f_frameLength f_frameSort f_frameFlags f_frameStream f_down f_entryCount f_most f_typeSeen f_lastSender f_sentLength a_payload a_life a_theyEnded a_weEnded a_finishing a_codes a_windowIn a_windowOut a_headers a_headerCount a_entries a_kinds a_repeats a_messageCount a_text a_nodeCount a_nodeTypes a_valueCount a_valueOwners a_values a_skippedCount a_reader a_chainNode a_chainEnd a_queue a_queueLength a_sent a_nodeSize a_nodePlace := by
  have i2 := xr_ix (s := s) (k := 2) hs (by omega)
  have i10 := xr_ix (s := s) (k := 10) hs (by omega)
  have c10 : (nI (11 * s) + 10).toNatClampNeg = 11 * s + 10 := i10.2.2
  have c2 : (nI (11 * s) + 2).toNatClampNeg = 11 * s + 2 := i2.2.2
  obtain ⟨c4, c5⟩ := xr_c4 (s := s) (a := pm_at c + 1) hs h3
  unfold wX_beginPart_105
  refine ⟨i10.2.1, i10.2.1, nm_r (e' := upd a_reader (11 * s + 10) (nI (pm_at c + 1))) (by rw [c10, h10, nI_1]) ⟨i10.2.1, ?_⟩⟩
  rw [c10, c2, xr_u, if_pos rfl, xr_u, if_neg (show ¬ 2 = 10 by omega), h2, c5, nI_add]
  exact ⟨c4, nm_e ⟨i10.2.1, i2.2.1, c4, nm_e (xw_bE hs H)⟩⟩
theorem xw_part {t f ty len : Nat} {post : Int32 → SX → Prop} (hs : s < 8) (I : pm_CI K R L dep c) (hK : cr_K a_kinds a_repeats K R) (hD : cr_XD K s a_nodeCount a_nodeTypes a_valueCount a_valueOwners a_values (pm_d c))
    (h2 : a_reader (11 * s + 2) = nI t) (h7 : a_reader (11 * s + 7) = nI (pm_fj c f)) (h10 : a_reader (11 * s + 10) = nI (pm_at c))
    (hch : ∀ i, i ≤ pm_at c → a_chainNode (4 * s + i) = nI (pm_ins c i) ∧ a_chainEnd (4 * s + i) = nI (pm_lim c i))
    (f1 : 1 ≤ f) (f2 : f ≤ 15) (hk : 4 < K (pm_fj c f))
    (H5 : pm_part R c f ty t len = (5, c) → post 15 (f_frameAt, f_frameLength, f_frameSort, f_frameFlags, f_frameStream, f_down, f_entryCount, f_most, f_typeSeen, f_lastSender, f_sentLength, a_payload, a_life, a_theyEnded, a_weEnded, a_finishing, a_codes, a_windowIn, a_windowOut, a_headers, a_headerCount, a_entries, a_kinds, a_repeats, a_messageCount, a_text, a_nodeCount, a_nodeTypes, a_valueCount, a_valueOwners, a_values, a_skippedCount, a_reader, a_chainNode, a_chainEnd, a_queue, a_queueLength, a_sent, a_nodeSize, a_nodePlace))
    (H0 : ∀ c' nc nt vc vo va cn ce, pm_part R c f ty t len = (0, c') → pm_at c' = pm_at c + 1 → pm_row c' = 0 → pm_pos c' = t → pm_sk c' = pm_sk c → cr_XD K s nc nt vc vo va (pm_d c') → xr_O 1 s a_nodeCount nc → xr_O 16 s a_nodeTypes nt → xr_O 1 s a_valueCount vc → xr_O 48 s a_valueOwners vo → xr_O 48 s a_values va → xr_O 4 s a_chainNode cn → xr_O 4 s a_chainEnd ce → nt (16 * s) = a_nodeTypes (16 * s) →
      (∀ i, i ≤ pm_at c' → cn (4 * s + i) = nI (pm_ins c' i) ∧ ce (4 * s + i) = nI (pm_lim c' i)) →
      post 0 (f_frameAt, f_frameLength, f_frameSort, f_frameFlags, f_frameStream, f_down, f_entryCount, f_most, f_typeSeen, f_lastSender, f_sentLength, a_payload, a_life, a_theyEnded, a_weEnded, a_finishing, a_codes, a_windowIn, a_windowOut, a_headers, a_headerCount, a_entries, a_kinds, a_repeats, a_messageCount, a_text, nc, nt, vc, vo, va, a_skippedCount, xr_bE s (upd a_reader (11 * s + 10) (nI (pm_at c'))), cn, ce, a_queue, a_queueLength, a_sent, a_nodeSize, a_nodePlace)) :
    wpX_beginPart post (f_frameAt, f_frameLength, f_frameSort, f_frameFlags, f_frameStream, f_down, f_entryCount, f_most, f_typeSeen, f_lastSender, f_sentLength, a_payload, a_life, a_theyEnded, a_weEnded, a_finishing, a_codes, a_windowIn, a_windowOut, a_headers, a_headerCount, a_entries, a_kinds, a_repeats, a_messageCount, a_text, a_nodeCount, a_nodeTypes, a_valueCount, a_valueOwners, a_values, a_skippedCount, a_reader, a_chainNode, a_chainEnd, a_queue, a_queueLength, a_sent, a_nodeSize, a_nodePlace) (nI s) (nI ty) (nI len) := by
  have h3 := I.2.1
  have hin := I.2.2.2.2.1 (pm_at c) (Nat.le_refl _)
  have hnd : pm_nd c < pm_nn (pm_d c) := hin.1
  have hnn := I.1.2.1
  have hnn1 := I.1.1
  have hnv := I.1.2.2.1
  have hle := pm_pl_le (R := R) (D := pm_d c) (pm_nd c) f
  have i10 := xr_ix (s := s) (k := 10) hs (by omega)
  have c10 : (nI (11 * s) + 10).toNatClampNeg = 11 * s + 10 := i10.2.2
  obtain ⟨g1, g2⟩ := xr_c8 hs
  have hcn := (hch _ (Nat.le_refl _)).1
  unfold wpX_beginPart
  dsimp only
  refine nm_r i10.1 (xw_pt (a := pm_nd c) (n := f) (b := pm_at c) hs I.1 hK hD hnd f1 f2 h3 h7 h10 hcn ⟨g1, nm_r (by rw [g2, hD.1]) ?_⟩)
  have hchain : ∀ mm, pm_at c + 1 ≤ 3 → (∀ i, i ≤ pm_at c + 1 → upd a_chainNode (4 * s + (pm_at c + 1)) (nI mm) (4 * s + i) = nI (pm_u (pm_ins c) (pm_at c + 1) mm i) ∧ upd a_chainEnd (4 * s + (pm_at c + 1)) (nI (t + len)) (4 * s + i) = nI (pm_u (pm_lim c) (pm_at c + 1) (t + len) i)) := by
    intro mm _ i hi
    rw [xr_c4u, xr_c4u]
    by_cases y : i = pm_at c + 1
    · rw [if_pos y, if_pos y, y, pm_us, pm_us]; exact ⟨rfl, rfl⟩
    · rw [if_neg y, if_neg y, pm_un y, pm_un y]; exact hch i (by omega)
  unfold pm_part at H5 H0
  by_cases g : pm_pl R (pm_d c) (pm_nd c) f < pm_nv (pm_d c)
  · rw [if_pos g]
    obtain ⟨_, p2, p3⟩ := pm_pl_lt g
    have hkk : pm_kk K (pm_d c) (pm_pl R (pm_d c) (pm_nd c) f) = K (pm_fj c f) := by
      simp only [pm_kk]; rw [p2, p3]; rfl
    obtain ⟨mm, w1, w2, w3, w4⟩ := (I.1.2.2.2.2.2.1 _ g).2.2.2.2.2 (by rw [hkk]; exact hk)
    have hdep := (I.1.2.2.2.2.1 mm w3).2
    rw [p2, show dep (pm_nd c) = pm_at c from hin.2] at w4
    have hv := (hD.2.2.2 _ g).2
    rw [hkk, if_neg (by omega), w1] at hv
    obtain ⟨c1, c2, c3⟩ := xr_c48 (s := s) (a := pm_pl R (pm_d c) (pm_nd c) f) hs (by omega)
    have hm : (pm_va (pm_d c) (pm_pl R (pm_d c) (pm_nd c) f)).toNatClampNeg = mm := by
      rw [w1, nI_clamp (by omega)]
    rw [if_pos g] at H0
    refine br_f (nI_pos (by omega)) ⟨c2, nm_r (by rw [c3, hv]) ?_⟩
    refine xw_p105 hs (by omega) h2 h10 ?_
    have := H0 _ a_nodeCount a_nodeTypes a_valueCount a_valueOwners a_values (upd a_chainNode (4 * s + (pm_at c + 1)) (nI mm)) (upd a_chainEnd (4 * s + (pm_at c + 1)) (nI (t + len))) rfl rfl rfl rfl rfl hD xr_O_r xr_O_r xr_O_r xr_O_r xr_O_r (xr_O_u (by omega)) (xr_O_u (by omega)) rfl (by rw [hm]; exact hchain mm (by omega))
    exact this
  · rw [if_neg g]
    have hpl : pm_pl R (pm_d c) (pm_nd c) f = pm_nv (pm_d c) := by omega
    rw [if_neg g] at H0 H5
    refine br_t (by decide) (pk_eq (pm_nn (pm_d c)) 16 (fun y => ?_) (fun y1 => ⟨g1, ?_⟩))
    · rw [if_pos (Or.inl y)] at H5; exact H5 rfl
    rw [g2, hD.2.1]
    refine pk_eq (pm_nv (pm_d c)) 48 (fun y => ?_) (fun y2 => ⟨i10.2.1, ?_⟩)
    · rw [if_pos (Or.inr (Or.inl y))] at H5; exact H5 rfl
    rw [c10, h10, nI_1]
    refine pk_eq (pm_at c + 1) 4 (fun y => ?_) (fun y3 => ?_)
    · rw [if_pos (Or.inr (Or.inr (by omega)))] at H5; exact H5 rfl
    rw [if_neg (by omega)] at H0
    refine xw_add hs I.1 hD hnd f2 h3 h7 h10 hcn (by omega) ?_
    obtain ⟨c1, c2⟩ := xr_c16 (s := s) (a := pm_nn (pm_d c)) hs (by omega)
    dsimp only
    rw [c2, hD.1, nI_1]
    refine ⟨c1, nm_e ⟨g1, g1, nm_e ?_⟩⟩
    refine xw_p105 hs (by omega) h2 h10 ?_
    have hX := xr_XD_add (R := R) (K := K) (D := pm_d c) (a := pm_nd c) (n := f) (st := 0) (v := nI (pm_nn (pm_d c))) (xv := nI (pm_nn (pm_d c))) hpl (by omega) hs hD (by rw [if_neg (by show K (pm_fj c f) ≠ 4; omega)])
    refine H0 _ (upd a_nodeCount s (nI (pm_nn (pm_d c) + 1))) (upd a_nodeTypes (16 * s + pm_nn (pm_d c)) (nI ty)) (upd a_valueCount s (nI (pm_nv (pm_d c) + 1))) (upd a_valueOwners (48 * s + pm_nv (pm_d c)) (nI (16 * pm_nd c + f))) (upd a_values (48 * s + pm_nv (pm_d c)) (nI (pm_nn (pm_d c)))) _ _ rfl rfl rfl rfl rfl ?_ xr_O_1 (xr_O_u (by omega)) xr_O_1 (xr_O_u (by omega)) (xr_O_u (by omega)) (xr_O_u (by omega)) (xr_O_u (by omega)) ?_ (hchain _ (by omega))
    · obtain ⟨x1, x2, x3, x4⟩ := hX
      refine ⟨?_, x2, fun i hi => ?_, fun j hj => ?_⟩
      · rw [pm_upd_eq, if_pos rfl]; rfl
      · have hi : i < pm_nn (pm_d c) + 1 := hi
        show upd a_nodeTypes (16 * s + pm_nn (pm_d c)) (nI ty) (16 * s + i) = nI (pm_u (pm_nt (pm_d c)) (pm_nn (pm_d c)) ty i)
        by_cases z : i = pm_nn (pm_d c)
        · rw [z, pm_us, pm_upd_eq, if_pos rfl]
        · rw [pm_un z, pm_upd_eq, if_neg (by omega)]
          exact hD.2.2.1 i (by omega)
      · have hj' : j < pm_nv (pm_kp R (pm_d c) (pm_nd c) f (nI (pm_nn (pm_d c))) 0) := hj
        have hx4 := x4 j hj'
        have hvn : pm_vn (pm_kp R (pm_d c) (pm_nd c) f (nI (pm_nn (pm_d c))) 0) j ≠ pm_nn (pm_d c) := by
          rw [pm_kp_vn, pm_u_eq]
          split
          · omega
          · rename_i z
            rw [pm_kp_nv, if_pos hpl] at hj'
            have := (I.1.2.2.2.2.2.1 j (by omega)).1
            omega
        have hkk : pm_kk K (pm_nn (pm_d c) + 1, pm_u (pm_nt (pm_d c)) (pm_nn (pm_d c)) ty, (pm_kp R (pm_d c) (pm_nd c) f (nI (pm_nn (pm_d c))) 0).2.2) j = pm_kk K (pm_kp R (pm_d c) (pm_nd c) f (nI (pm_nn (pm_d c))) 0) j := by
          show K (16 * pm_u (pm_nt (pm_d c)) (pm_nn (pm_d c)) ty (pm_vn (pm_kp R (pm_d c) (pm_nd c) f (nI (pm_nn (pm_d c))) 0) j) + _) = K (16 * pm_nt (pm_d c) (pm_vn (pm_kp R (pm_d c) (pm_nd c) f (nI (pm_nn (pm_d c))) 0) j) + _)
          rw [pm_un hvn]
          rfl
        rw [← hkk] at hx4
        exact hx4
    · rw [pm_upd_eq, if_neg (by omega)]
end
end
section
/-! S2: lengths that end -/
section
variable {f_frameAt f_frameLength f_frameSort f_frameFlags f_frameStream f_down f_entryCount f_most f_typeSeen f_lastSender f_sentLength : Int32} {a_payload a_life a_theyEnded a_weEnded a_finishing a_codes a_windowIn a_windowOut a_headers a_headerCount a_entries a_kinds a_repeats a_messageCount a_text a_nodeCount a_nodeTypes a_valueCount a_valueOwners a_values a_skippedCount a_reader a_chainNode a_chainEnd a_queue a_queueLength a_sent a_nodeSize a_nodePlace : Nat → Int32} {s : Nat} {K : Nat → Nat} {R : Nat → Bool} {L : Nat} {dep : Nat → Nat} {c : pm_C}
/-- a body is to come -/
def xr_bd (s : Nat) (x : Int32) (rd : Nat → Int32) : Nat → Int32 := upd (upd rd (11 * s + 3) 4) (11 * s + 6) x
/-- a row is to come -/
def xr_rw (s : Nat) (h : Int32) (e : Int32) (rd : Nat → Int32) : Nat → Int32 := upd (upd (xr_bN s h rd) (11 * s + 6) 4) (11 * s + 8) e
theorem xw_len {f t : Nat} {x : Int32} {post : Int32 → SX → Prop} (hs : s < 8) (I : pm_CI K R L dep c) (hK : cr_K a_kinds a_repeats K R) (hD : cr_XD K s a_nodeCount a_nodeTypes a_valueCount a_valueOwners a_values (pm_d c)) (hL : L ≤ 200)
    (hr : pm_row c = 0) (h2 : a_reader (11 * s + 2) = nI t) (h4 : a_reader (11 * s + 4) = x) (h7 : a_reader (11 * s + 7) = nI (if f = 0 then 0 else pm_fj c f))
    (h9 : a_reader (11 * s + 9) = nI (pm_pos c)) (hpt : pm_pos c ≤ t) (htl : t ≤ pm_lim c (pm_at c)) (h10 : a_reader (11 * s + 10) = nI (pm_at c))
    (hch : ∀ i, i ≤ pm_at c → a_chainNode (4 * s + i) = nI (pm_ins c i) ∧ a_chainEnd (4 * s + i) = nI (pm_lim c i))
    (hf : f ≠ 0 → f ≤ 15 ∧ K (pm_fj c f) ≠ 0)
    (H4 : x < 0 ∨ pm_lim c (pm_at c) < t + x.toNatClampNeg → post 14 (f_frameAt, f_frameLength, f_frameSort, f_frameFlags, f_frameStream, f_down, f_entryCount, f_most, f_typeSeen, f_lastSender, f_sentLength, a_payload, a_life, a_theyEnded, a_weEnded, a_finishing, a_codes, a_windowIn, a_windowOut, a_headers, a_headerCount, a_entries, a_kinds, a_repeats, a_messageCount, a_text, a_nodeCount, a_nodeTypes, a_valueCount, a_valueOwners, a_values, a_skippedCount, a_reader, a_chainNode, a_chainEnd, a_queue, a_queueLength, a_sent, a_nodeSize, a_nodePlace))
    (HS0 : f = 0 → x = 0 → post 0 (f_frameAt, f_frameLength, f_frameSort, f_frameFlags, f_frameStream, f_down, f_entryCount, f_most, f_typeSeen, f_lastSender, f_sentLength, a_payload, a_life, a_theyEnded, a_weEnded, a_finishing, a_codes, a_windowIn, a_windowOut, a_headers, a_headerCount, a_entries, a_kinds, a_repeats, a_messageCount, a_text, a_nodeCount, a_nodeTypes, a_valueCount, a_valueOwners, a_values, upd a_skippedCount s (a_skippedCount s + nI (t - pm_pos c)), xr_bE s (xr_bd s 0 a_reader), a_chainNode, a_chainEnd, a_queue, a_queueLength, a_sent, a_nodeSize, a_nodePlace))
    (HS1 : ∀ len, f = 0 → x = nI len → 1 ≤ len → t + len ≤ pm_lim c (pm_at c) → post 0 (f_frameAt, f_frameLength, f_frameSort, f_frameFlags, f_frameStream, f_down, f_entryCount, f_most, f_typeSeen, f_lastSender, f_sentLength, a_payload, a_life, a_theyEnded, a_weEnded, a_finishing, a_codes, a_windowIn, a_windowOut, a_headers, a_headerCount, a_entries, a_kinds, a_repeats, a_messageCount, a_text, a_nodeCount, a_nodeTypes, a_valueCount, a_valueOwners, a_values, a_skippedCount, xr_bd s (nI len) a_reader, a_chainNode, a_chainEnd, a_queue, a_queueLength, a_sent, a_nodeSize, a_nodePlace))
    (HB5 : ∀ len rd, f ≠ 0 → K (pm_fj c f) = 4 → pm_pl R (pm_d c) (pm_nd c) f = 48 → x = nI len → t + len ≤ pm_lim c (pm_at c) → rd (11 * s) = a_reader (11 * s) → xr_O 11 s a_reader rd → post 15 (f_frameAt, f_frameLength, f_frameSort, f_frameFlags, f_frameStream, f_down, f_entryCount, f_most, f_typeSeen, f_lastSender, f_sentLength, a_payload, a_life, a_theyEnded, a_weEnded, a_finishing, a_codes, a_windowIn, a_windowOut, a_headers, a_headerCount, a_entries, a_kinds, a_repeats, a_messageCount, a_text, a_nodeCount, a_nodeTypes, a_valueCount, a_valueOwners, a_values, a_skippedCount, rd, a_chainNode, a_chainEnd, a_queue, a_queueLength, a_sent, a_nodeSize, a_nodePlace))
    (HB0 : ∀ vc vo va, f ≠ 0 → K (pm_fj c f) = 4 → pm_pl R (pm_d c) (pm_nd c) f ≠ 48 → x = 0 → cr_XD K s a_nodeCount a_nodeTypes vc vo va (pm_kp R (pm_d c) (pm_nd c) f (nI 0) t) → xr_O 1 s a_valueCount vc → xr_O 48 s a_valueOwners vo → xr_O 48 s a_values va → post 0 (f_frameAt, f_frameLength, f_frameSort, f_frameFlags, f_frameStream, f_down, f_entryCount, f_most, f_typeSeen, f_lastSender, f_sentLength, a_payload, a_life, a_theyEnded, a_weEnded, a_finishing, a_codes, a_windowIn, a_windowOut, a_headers, a_headerCount, a_entries, a_kinds, a_repeats, a_messageCount, a_text, a_nodeCount, a_nodeTypes, vc, vo, va, a_skippedCount, xr_bE s (xr_bd s 0 a_reader), a_chainNode, a_chainEnd, a_queue, a_queueLength, a_sent, a_nodeSize, a_nodePlace))
    (HB1 : ∀ len vc vo va, f ≠ 0 → K (pm_fj c f) = 4 → pm_pl R (pm_d c) (pm_nd c) f ≠ 48 → x = nI len → 1 ≤ len → t + len ≤ pm_lim c (pm_at c) → cr_XD K s a_nodeCount a_nodeTypes vc vo va (pm_kp R (pm_d c) (pm_nd c) f (nI len) t) → xr_O 1 s a_valueCount vc → xr_O 48 s a_valueOwners vo → xr_O 48 s a_values va → post 0 (f_frameAt, f_frameLength, f_frameSort, f_frameFlags, f_frameStream, f_down, f_entryCount, f_most, f_typeSeen, f_lastSender, f_sentLength, a_payload, a_life, a_theyEnded, a_weEnded, a_finishing, a_codes, a_windowIn, a_windowOut, a_headers, a_headerCount, a_entries, a_kinds, a_repeats, a_messageCount, a_text, a_nodeCount, a_nodeTypes, vc, vo, va, a_skippedCount, xr_bd s (nI len) a_reader, a_chainNode, a_chainEnd, a_queue, a_queueLength, a_sent, a_nodeSize, a_nodePlace))
    (HP : ∀ len, f ≠ 0 → 4 < K (pm_fj c f) → x = nI len → t + len ≤ pm_lim c (pm_at c) → wpX_beginPart post (f_frameAt, f_frameLength, f_frameSort, f_frameFlags, f_frameStream, f_down, f_entryCount, f_most, f_typeSeen, f_lastSender, f_sentLength, a_payload, a_life, a_theyEnded, a_weEnded, a_finishing, a_codes, a_windowIn, a_windowOut, a_headers, a_headerCount, a_entries, a_kinds, a_repeats, a_messageCount, a_text, a_nodeCount, a_nodeTypes, a_valueCount, a_valueOwners, a_values, a_skippedCount, a_reader, a_chainNode, a_chainEnd, a_queue, a_queueLength, a_sent, a_nodeSize, a_nodePlace) (nI s) (nI (K (pm_fj c f) - 5)) (nI len))
    (HR0 : f ≠ 0 → K (pm_fj c f) ≤ 3 → x = 0 → post 0 (f_frameAt, f_frameLength, f_frameSort, f_frameFlags, f_frameStream, f_down, f_entryCount, f_most, f_typeSeen, f_lastSender, f_sentLength, a_payload, a_life, a_theyEnded, a_weEnded, a_finishing, a_codes, a_windowIn, a_windowOut, a_headers, a_headerCount, a_entries, a_kinds, a_repeats, a_messageCount, a_text, a_nodeCount, a_nodeTypes, a_valueCount, a_valueOwners, a_values, a_skippedCount, xr_bE s (xr_rw s (if K (pm_fj c f) = 3 then 3 else 2) (nI t) a_reader), a_chainNode, a_chainEnd, a_queue, a_queueLength, a_sent, a_nodeSize, a_nodePlace))
    (HR1 : ∀ len, f ≠ 0 → K (pm_fj c f) ≤ 3 → x = nI len → 1 ≤ len → t + len ≤ pm_lim c (pm_at c) → post 0 (f_frameAt, f_frameLength, f_frameSort, f_frameFlags, f_frameStream, f_down, f_entryCount, f_most, f_typeSeen, f_lastSender, f_sentLength, a_payload, a_life, a_theyEnded, a_weEnded, a_finishing, a_codes, a_windowIn, a_windowOut, a_headers, a_headerCount, a_entries, a_kinds, a_repeats, a_messageCount, a_text, a_nodeCount, a_nodeTypes, a_valueCount, a_valueOwners, a_values, a_skippedCount, xr_rw s (if K (pm_fj c f) = 3 then 3 else 2) (nI (t + len)) a_reader, a_chainNode, a_chainEnd, a_queue, a_queueLength, a_sent, a_nodeSize, a_nodePlace)) :
    wpX_endLength post (f_frameAt, f_frameLength, f_frameSort, f_frameFlags, f_frameStream, f_down, f_entryCount, f_most, f_typeSeen, f_lastSender, f_sentLength, a_payload, a_life, a_theyEnded, a_weEnded, a_finishing, a_codes, a_windowIn, a_windowOut, a_headers, a_headerCount, a_entries, a_kinds, a_repeats, a_messageCount, a_text, a_nodeCount, a_nodeTypes, a_valueCount, a_valueOwners, a_values, a_skippedCount, a_reader, a_chainNode, a_chainEnd, a_queue, a_queueLength, a_sent, a_nodeSize, a_nodePlace) (nI s) := by
  have h3 := I.2.1
  have hin := I.2.2.2.2.1 (pm_at c) (Nat.le_refl _)
  have hnd : pm_nd c < pm_nn (pm_d c) := hin.1
  have hnn := I.1.2.1
  have hty := (I.1.2.2.2.2.1 _ hnd).1
  have hll := pm_lim_le I (pm_at c) (Nat.le_refl _)
  have i2 := xr_ix (s := s) (k := 2) hs (by omega)
  have i3 := xr_ix (s := s) (k := 3) hs (by omega)
  have i4 := xr_ix (s := s) (k := 4) hs (by omega)
  have i6 := xr_ix (s := s) (k := 6) hs (by omega)
  have i7 := xr_ix (s := s) (k := 7) hs (by omega)
  have i8 := xr_ix (s := s) (k := 8) hs (by omega)
  have i10 := xr_ix (s := s) (k := 10) hs (by omega)
  have e2 : a_reader (nI (11 * s) + 2).toNatClampNeg = nI t := (congrArg a_reader i2.2.2).trans h2
  have e4 : a_reader (nI (11 * s) + 4).toNatClampNeg = x := (congrArg a_reader i4.2.2).trans h4
  have e7 : a_reader (nI (11 * s) + 7).toNatClampNeg = nI (if f = 0 then 0 else pm_fj c f) := (congrArg a_reader i7.2.2).trans h7
  have e10 : a_reader (nI (11 * s) + 10).toNatClampNeg = nI (pm_at c) := (congrArg a_reader i10.2.2).trans h10
  obtain ⟨c4, c5⟩ := xr_c4 (s := s) (a := pm_at c) hs h3
  have hj : f ≠ 0 → 1 ≤ pm_fj c f ∧ pm_fj c f < 64 := by
    intro y
    have := (hf y).1
    show 1 ≤ 16 * pm_nt (pm_d c) (pm_nd c) + f ∧ 16 * pm_nt (pm_d c) (pm_nd c) + f < 64
    omega
  have hbd : ∀ (y : Int32) k, xr_bd s y a_reader (11 * s + k) = if k = 6 then y else if k = 3 then 4 else a_reader (11 * s + k) := by
    intro y k
    unfold xr_bd
    rw [xr_u, xr_u]
  unfold wpX_endLength
  dsimp only
  refine nm_r i4.1 ⟨i4.2.1, nm_r e4 ⟨i2.2.1, nm_r e2 ?_⟩⟩
  refine br_c (fun y => H4 (Or.inl y)) (fun y => ⟨i10.2.1, ?_⟩)
  obtain ⟨len, hlen, rfl⟩ := nI_of y
  rw [nI_clamp hlen] at H4
  rw [e10, c5, (hch _ (Nat.le_refl _)).2, e7]
  refine ⟨c4, pk_le len (pm_lim c (pm_at c) - t) (fun g => ⟨i7.2.1, ?_⟩) (fun g => H4 (Or.inr (by omega))) rfl (pk_sub htl)⟩
  -- a body
  have h117 : ∀ (z0 : Int32), wX_endLength_178 post (nI s) (nI len) (nI t) z0 f_frameAt f_frameLength f_frameSort f_frameFlags f_frameStream f_down f_entryCount f_most f_typeSeen f_lastSender f_sentLength a_payload a_life a_theyEnded a_weEnded a_finishing a_codes a_windowIn a_windowOut a_headers a_headerCount a_entries a_kinds a_repeats a_messageCount a_text a_nodeCount a_nodeTypes a_valueCount a_valueOwners a_values a_skippedCount (xr_bd s (nI len) a_reader) a_chainNode a_chainEnd a_queue a_queueLength a_sent a_nodeSize a_nodePlace → wX_endLength_117 post (nI s) (nI (11 * s)) (nI len) (nI t) z0 f_frameAt f_frameLength f_frameSort f_frameFlags f_frameStream f_down f_entryCount f_most f_typeSeen f_lastSender f_sentLength a_payload a_life a_theyEnded a_weEnded a_finishing a_codes a_windowIn a_windowOut a_headers a_headerCount a_entries a_kinds a_repeats a_messageCount a_text a_nodeCount a_nodeTypes a_valueCount a_valueOwners a_values a_skippedCount a_reader a_chainNode a_chainEnd a_queue a_queueLength a_sent a_nodeSize a_nodePlace := by
    intro z0 H
    unfold wX_endLength_117
    refine ⟨i3.2.1, nm_e ⟨i6.2.1, nm_r ?_ H⟩⟩
    unfold xr_bd
    exact (congrArg (fun j => upd _ j (nI len)) i6.2.2).trans (congrArg (fun g => upd g (11 * s + 6) (nI len)) (congrArg (fun j => upd a_reader j 4) i3.2.2))
  by_cases hf0 : f = 0
  · rw [if_pos hf0]
    refine br_t rfl ?_
    unfold wX_endLength_86
    refine br_t (by decide) (br_t rfl (h117 _ ?_))
    unfold wX_endLength_178
    refine br_f (by decide) ?_
    unfold wX_endLength_201
    refine br_t rfl (pk_eq len 0 (fun y0 => ?_) (fun y0 => HS1 len hf0 rfl (by omega) (by omega)))
    subst y0
    refine xw_eE (f := 0) (t := t) (p := pm_pos c) hs (by rw [hbd, if_neg (by omega), if_neg (by omega), h7, if_pos hf0]) (by omega) (by rw [hbd, if_neg (by omega), if_neg (by omega)]; exact h2) (fun _ => ⟨by rw [hbd, if_neg (by omega), if_neg (by omega)]; exact h9, hpt⟩) ?_
    rw [if_pos rfl]
    exact HS0 hf0 rfl
  · rw [if_neg hf0]
    obtain ⟨j1, j2⟩ := hj hf0
    obtain ⟨f1, f2⟩ := hf hf0
    refine br_f (fun y => ?_) ⟨i7.2.1, vp_in_nI j2 (by omega), ?_⟩
    · have := (nI_eq (a := pm_fj c f) (b := 0) (by omega) (by omega)).mp y
      omega
    rw [nI_clamp (show pm_fj c f < 2 ^ 31 by omega), hK.2.1 _ j2]
    have hk8 := hK.1 (pm_fj c f)
    have yk := xr_k2 _ hk8
    unfold wX_endLength_86
    refine br_c (fun y4 => ?_) (fun y4 => ?_)
    · have hk4 := yk.2.2.2.2.2.1.mp y4
      refine br_f (fun w => f2 (yk.1.mp w)) (br_c (fun y3 => ?_) (fun y3 => ?_))
      · -- bytes
        have hk := yk.2.2.2.2.1.mp y3
        refine h117 _ ?_
        unfold wX_endLength_178
        refine br_t y3 ?_
        have hxv : nI t * 256 + nI len = nI (256 * t) + nI len := by
          rw [show (256 : Int32) = nI 256 from rfl, pk_mul, Nat.mul_comm]
        refine xw_keep (a_reader := xr_bd s (nI len) a_reader) (a := pm_nd c) (n := f) (b := pm_at c) (st := t) (v := nI len) hs I.1 hK hD hnd (by omega) f1 h3 (by rw [hbd, if_neg (by omega), if_neg (by omega), h7, if_neg hf0]; rfl) (by rw [hbd, if_neg (by omega), if_neg (by omega)]; exact h10) (hch _ (Nat.le_refl _)).1 (by rw [if_pos (show K (16 * pm_nt (pm_d c) (pm_nd c) + f) = 4 from hk), hxv]) (fun h48 => ?_) (fun vc vo va h48 g1 g2 g3 g4 => ?_)
        · unfold wX_endLength_201
          refine br_f (by decide) (HB5 len _ hf0 hk h48 rfl (by omega) ?_ ?_)
          · have := hbd (nI len) 0
            rw [if_neg (by omega), if_neg (by omega)] at this
            exact this
          · intro j hj'
            unfold xr_bd
            rw [xr_o (by omega) hj', xr_o (by omega) hj']
        · unfold wX_endLength_201
          refine br_t rfl (pk_eq len 0 (fun y0 => ?_) (fun y0 => HB1 len vc vo va hf0 hk h48 rfl (by omega) (by omega) g1 g2 g3 g4))
          subst y0
          refine xw_eE (f := pm_fj c f) (t := t) (p := 0) hs (by rw [hbd, if_neg (by omega), if_neg (by omega), h7, if_neg hf0]) j2 (by rw [hbd, if_neg (by omega), if_neg (by omega)]; exact h2) (fun z => absurd z (by omega)) ?_
          rw [if_neg (by omega)]
          exact HB0 vc vo va hf0 hk h48 rfl g1 g2 g3 g4
      · have hk3 : K (pm_fj c f) ≤ 3 := by
          have : K (pm_fj c f) ≠ 4 := fun w => y3 (yk.2.2.2.2.1.mpr w)
          omega
        have h152 : ∀ h' : Int32, h' = (if K (pm_fj c f) = 3 then 3 else 2) → wX_endLength_152 post (nI s) (nI (11 * s)) (nI len) (nI t) (nI (K (pm_fj c f)) + (-1)) h' (nI s) f_frameAt f_frameLength f_frameSort f_frameFlags f_frameStream f_down f_entryCount f_most f_typeSeen f_lastSender f_sentLength a_payload a_life a_theyEnded a_weEnded a_finishing a_codes a_windowIn a_windowOut a_headers a_headerCount a_entries a_kinds a_repeats a_messageCount a_text a_nodeCount a_nodeTypes a_valueCount a_valueOwners a_values a_skippedCount a_reader a_chainNode a_chainEnd a_queue a_queueLength a_sent a_nodeSize a_nodePlace := by
          intro h' hh
          unfold wX_endLength_152
          refine xw_bN hs ⟨i6.2.1, nm_r (e' := upd (xr_bN s h' a_reader) (11 * s + 6) 4) (congrArg (fun j => upd (xr_bN s h' a_reader) j 4) i6.2.2) ⟨i8.2.1, nm_r (e' := xr_rw s h' (nI (t + len)) a_reader) ?_ ?_⟩⟩
          · rw [nI_add]
            exact congrArg (fun j => upd (upd (xr_bN s h' a_reader) (11 * s + 6) 4) j (nI (t + len))) i8.2.2
          · have hrw : ∀ k, k ≠ 8 → k ≠ 6 → k ≠ 5 → k ≠ 4 → k ≠ 3 → xr_rw s h' (nI (t + len)) a_reader (11 * s + k) = a_reader (11 * s + k) := by
              intro k n8 n6 n5 n4 n3
              unfold xr_rw
              rw [xr_u, if_neg n8, xr_u, if_neg n6, xr_bN_k, if_neg (fun w => w.elim n5 n4), if_neg n3]
            unfold wX_endLength_178
            refine br_f y3 ?_
            unfold wX_endLength_201
            refine br_t rfl (pk_eq len 0 (fun y0 => ?_) (fun y0 => ?_))
            · subst y0
              refine xw_eE (f := pm_fj c f) (t := t) (p := 0) hs (by rw [hrw 7 (by omega) (by omega) (by omega) (by omega) (by omega), h7, if_neg hf0]) j2 (by rw [hrw 2 (by omega) (by omega) (by omega) (by omega) (by omega)]; exact h2) (fun z => absurd z (by omega)) ?_
              rw [if_neg (by omega), hh]
              exact HR0 hf0 hk3 rfl
            · rw [hh]
              exact HR1 len hf0 hk3 rfl (by omega) (by omega)
        refine br_c (fun w => h152 3 ?_) (fun w => h152 2 ?_)
        · rw [if_pos (yk.2.2.2.1.mp w)]
        · rw [if_neg (fun z => w (yk.2.2.2.1.mpr z))]
    · have hk5 : 4 < K (pm_fj c f) := by
        rcases Nat.lt_or_ge 4 (K (pm_fj c f)) with w | w
        · exact w
        · exact absurd (yk.2.2.2.2.2.1.mpr w) y4
      rw [yk.2.2.2.2.2.2 hk5]
      exact HP len hf0 hk5 rfl (by omega)
end
end
section
/-! S3: what closeEnds does -/
section
variable {f_frameAt f_frameLength f_frameSort f_frameFlags f_frameStream f_down f_entryCount f_most f_typeSeen f_lastSender f_sentLength : Int32} {a_payload a_life a_theyEnded a_weEnded a_finishing a_codes a_windowIn a_windowOut a_headers a_headerCount a_entries a_kinds a_repeats a_messageCount a_text a_nodeCount a_nodeTypes a_valueCount a_valueOwners a_values a_skippedCount a_reader a_chainNode a_chainEnd a_queue a_queueLength a_sent a_nodeSize a_nodePlace : Nat → Int32} {s t : Nat} {K : Nat → Nat} {R : Nat → Bool} {L : Nat} {dep : Nat → Nat} {c : pm_C}
theorem xw_mid {x3 x5 : Int32} {post : Int32 → SX → Prop} (hs : s < 8) (I : pm_CI K R L dep c) (hL : L ≤ 200)
    (h2 : a_reader (11 * s + 2) = nI t) (h3 : a_reader (11 * s + 3) = x3) (h5 : a_reader (11 * s + 5) = x5) (hne : ¬ (x3 = 0 ∧ x5 = 0)) (h8 : a_reader (11 * s + 8) = nI (pm_row c)) (h10 : a_reader (11 * s + 10) = nI (pm_at c))
    (hce : a_chainEnd (4 * s + pm_at c) = nI (pm_lim c (pm_at c))) (hr5 : pm_row c ≠ 0 → x5 ≠ 0) (ht : t ≤ pm_end c)
    (H0 : t < pm_end c → post 0 (f_frameAt, f_frameLength, f_frameSort, f_frameFlags, f_frameStream, f_down, f_entryCount, f_most, f_typeSeen, f_lastSender, f_sentLength, a_payload, a_life, a_theyEnded, a_weEnded, a_finishing, a_codes, a_windowIn, a_windowOut, a_headers, a_headerCount, a_entries, a_kinds, a_repeats, a_messageCount, a_text, a_nodeCount, a_nodeTypes, a_valueCount, a_valueOwners, a_values, a_skippedCount, a_reader, a_chainNode, a_chainEnd, a_queue, a_queueLength, a_sent, a_nodeSize, a_nodePlace)) (H14 : t = pm_end c → post 14 (f_frameAt, f_frameLength, f_frameSort, f_frameFlags, f_frameStream, f_down, f_entryCount, f_most, f_typeSeen, f_lastSender, f_sentLength, a_payload, a_life, a_theyEnded, a_weEnded, a_finishing, a_codes, a_windowIn, a_windowOut, a_headers, a_headerCount, a_entries, a_kinds, a_repeats, a_messageCount, a_text, a_nodeCount, a_nodeTypes, a_valueCount, a_valueOwners, a_values, a_skippedCount, a_reader, a_chainNode, a_chainEnd, a_queue, a_queueLength, a_sent, a_nodeSize, a_nodePlace)) : wpX_closeEnds post (f_frameAt, f_frameLength, f_frameSort, f_frameFlags, f_frameStream, f_down, f_entryCount, f_most, f_typeSeen, f_lastSender, f_sentLength, a_payload, a_life, a_theyEnded, a_weEnded, a_finishing, a_codes, a_windowIn, a_windowOut, a_headers, a_headerCount, a_entries, a_kinds, a_repeats, a_messageCount, a_text, a_nodeCount, a_nodeTypes, a_valueCount, a_valueOwners, a_values, a_skippedCount, a_reader, a_chainNode, a_chainEnd, a_queue, a_queueLength, a_sent, a_nodeSize, a_nodePlace) (nI s) := by
  have h3' := I.2.1
  have hll := pm_lim_le I (pm_at c) (Nat.le_refl _)
  have hel := pm_end_le I
  have i2 := xr_ix (s := s) (k := 2) hs (by omega)
  have i5 := xr_ix (s := s) (k := 5) hs (by omega)
  have i8 := xr_ix (s := s) (k := 8) hs (by omega)
  have e2 : a_reader (nI (11 * s) + 2).toNatClampNeg = nI t := (congrArg a_reader i2.2.2).trans h2
  have e5 : a_reader (nI (11 * s) + 5).toNatClampNeg = x5 := (congrArg a_reader i5.2.2).trans h5
  have e8 : a_reader (nI (11 * s) + 8).toNatClampNeg = nI (pm_row c) := (congrArg a_reader i8.2.2).trans h8
  unfold wpX_closeEnds
  dsimp only
  refine nm_r i2.1 ⟨i8.2.1, ?_⟩
  rw [e8, e2, e5]
  by_cases hr : pm_row c = 0
  · have he : pm_end c = pm_lim c (pm_at c) := by unfold pm_end; exact if_pos hr
    rw [hr]
    refine br_t rfl ⟨1, ?_⟩
    exact xw_clS (k := 0) (n := 0) hs (by omega) h3' (by omega) h2 h3 h5 h10 hce (by omega) (fun y => H0 (by omega)) (fun y _ => H14 (by omega)) (fun _ y1 y2 _ => absurd ⟨y1, y2⟩ hne) (fun b _ y1 y2 _ => absurd ⟨y1, y2⟩ hne)
  · have he : pm_end c = pm_row c := by unfold pm_end; exact if_neg hr
    have hrl := (I.2.2.2.2.2.2.2 hr).1
    refine br_f (fun y => ?_) ⟨i2.2.1, i8.2.1, ?_⟩
    · have := (nI_eq (a := pm_row c) (b := 0) (by omega) (by omega)).mp y
      omega
    refine pk_eq t (pm_row c) (fun y => ⟨i5.2.1, br_f (hr5 hr) (H14 (by omega))⟩) (fun y => ⟨1, ?_⟩)
    exact xw_clS (k := 0) (n := 0) hs (by omega) h3' (by omega) h2 h3 h5 h10 hce (by omega) (fun y => H0 (by omega)) (fun y2 _ => absurd y2 (by omega)) (fun _ y1 y2 _ => absurd ⟨y1, y2⟩ hne) (fun b _ y1 y2 _ => absurd ⟨y1, y2⟩ hne)
/-- behind an element -/
theorem xw_cle {post : Int32 → SX → Prop} (hs : s < 8) (I : pm_CI K R L dep c) (hL : L ≤ 200) (hr : pm_row c = 0) (hp : pm_pos c = t)
    (h2 : a_reader (11 * s + 2) = nI t) (h3 : a_reader (11 * s + 3) = 0) (h5 : a_reader (11 * s + 5) = 0) (h10 : a_reader (11 * s + 10) = nI (pm_at c))
    (hch : ∀ i, i ≤ pm_at c → a_chainEnd (4 * s + i) = nI (pm_lim c i))
    (H1 : t ≠ L → post 0 (f_frameAt, f_frameLength, f_frameSort, f_frameFlags, f_frameStream, f_down, f_entryCount, f_most, f_typeSeen, f_lastSender, f_sentLength, a_payload, a_life, a_theyEnded, a_weEnded, a_finishing, a_codes, a_windowIn, a_windowOut, a_headers, a_headerCount, a_entries, a_kinds, a_repeats, a_messageCount, a_text, a_nodeCount, a_nodeTypes, a_valueCount, a_valueOwners, a_values, a_skippedCount, upd a_reader (11 * s + 10) (nI (pm_pop (pm_lim c) t (pm_at c))), a_chainNode, a_chainEnd, a_queue, a_queueLength, a_sent, a_nodeSize, a_nodePlace))
    (H2 : t = L → post 0 (f_frameAt, f_frameLength, f_frameSort, f_frameFlags, f_frameStream, f_down, f_entryCount, f_most, f_typeSeen, f_lastSender, f_sentLength, a_payload, a_life, a_theyEnded, a_weEnded, a_finishing, a_codes, a_windowIn, a_windowOut, a_headers, a_headerCount, a_entries, a_kinds, a_repeats, upd a_messageCount s (a_messageCount s + 1), a_text, a_nodeCount, a_nodeTypes, a_valueCount, a_valueOwners, a_values, a_skippedCount, upd (upd a_reader (11 * s + 10) (nI 0)) (11 * s) 0, a_chainNode, a_chainEnd, a_queue, a_queueLength, a_sent, a_nodeSize, a_nodePlace)) :
    ∃ n, wX_closeEnds_58 post (nI s) (nI (11 * s)) f_frameAt f_frameLength f_frameSort f_frameFlags f_frameStream f_down f_entryCount f_most f_typeSeen f_lastSender f_sentLength n (nI 0) a_payload a_life a_theyEnded a_weEnded a_finishing a_codes a_windowIn a_windowOut a_headers a_headerCount a_entries a_kinds a_repeats a_messageCount a_text a_nodeCount a_nodeTypes a_valueCount a_valueOwners a_values a_skippedCount a_reader a_chainNode a_chainEnd a_queue a_queueLength a_sent a_nodeSize a_nodePlace := by
  have h3' := I.2.1
  have hl0 := I.2.2.2.1
  have hpe := I.2.2.2.2.2.2.1
  have he : pm_end c = pm_lim c (pm_at c) := by unfold pm_end; exact if_pos hr
  have hle := pm_lim_le I
  have hll := hle (pm_at c) (Nat.le_refl _)
  rw [← hl0] at H1 H2
  refine ⟨pm_at c + 1, xw_clE hs (by omega) (by omega) (pm_at c) a_reader 0 (by omega) h2 h3 h5 h10 (fun i hi => ⟨hch i hi, ?_, fun y => I.2.2.2.2.2.1 i y⟩) (by omega) H1 H2⟩
  rw [hl0]; exact hle i hi
theorem xw_el {post : Int32 → SX → Prop} (hs : s < 8) (I : pm_CI K R L dep c) (hL : L ≤ 200) (hr : pm_row c = 0) (hp : pm_pos c = t)
    (h2 : a_reader (11 * s + 2) = nI t) (h3 : a_reader (11 * s + 3) = 0) (h5 : a_reader (11 * s + 5) = 0) (h8 : a_reader (11 * s + 8) = 0) (h10 : a_reader (11 * s + 10) = nI (pm_at c))
    (hch : ∀ i, i ≤ pm_at c → a_chainEnd (4 * s + i) = nI (pm_lim c i))
    (H1 : t ≠ L → post 0 (f_frameAt, f_frameLength, f_frameSort, f_frameFlags, f_frameStream, f_down, f_entryCount, f_most, f_typeSeen, f_lastSender, f_sentLength, a_payload, a_life, a_theyEnded, a_weEnded, a_finishing, a_codes, a_windowIn, a_windowOut, a_headers, a_headerCount, a_entries, a_kinds, a_repeats, a_messageCount, a_text, a_nodeCount, a_nodeTypes, a_valueCount, a_valueOwners, a_values, a_skippedCount, upd a_reader (11 * s + 10) (nI (pm_pop (pm_lim c) t (pm_at c))), a_chainNode, a_chainEnd, a_queue, a_queueLength, a_sent, a_nodeSize, a_nodePlace))
    (H2 : t = L → post 0 (f_frameAt, f_frameLength, f_frameSort, f_frameFlags, f_frameStream, f_down, f_entryCount, f_most, f_typeSeen, f_lastSender, f_sentLength, a_payload, a_life, a_theyEnded, a_weEnded, a_finishing, a_codes, a_windowIn, a_windowOut, a_headers, a_headerCount, a_entries, a_kinds, a_repeats, upd a_messageCount s (a_messageCount s + 1), a_text, a_nodeCount, a_nodeTypes, a_valueCount, a_valueOwners, a_values, a_skippedCount, upd (upd a_reader (11 * s + 10) (nI 0)) (11 * s) 0, a_chainNode, a_chainEnd, a_queue, a_queueLength, a_sent, a_nodeSize, a_nodePlace)) :
    wpX_closeEnds post (f_frameAt, f_frameLength, f_frameSort, f_frameFlags, f_frameStream, f_down, f_entryCount, f_most, f_typeSeen, f_lastSender, f_sentLength, a_payload, a_life, a_theyEnded, a_weEnded, a_finishing, a_codes, a_windowIn, a_windowOut, a_headers, a_headerCount, a_entries, a_kinds, a_repeats, a_messageCount, a_text, a_nodeCount, a_nodeTypes, a_valueCount, a_valueOwners, a_values, a_skippedCount, a_reader, a_chainNode, a_chainEnd, a_queue, a_queueLength, a_sent, a_nodeSize, a_nodePlace) (nI s) := by
  have i8 := xr_ix (s := s) (k := 8) hs (by omega)
  have e8 : a_reader (nI (11 * s) + 8).toNatClampNeg = 0 := (congrArg a_reader i8.2.2).trans h8
  unfold wpX_closeEnds
  dsimp only
  refine nm_r i8.1 ⟨i8.2.1, ?_⟩
  rw [e8]
  exact br_t rfl (xw_cle hs I hL hr hp h2 h3 h5 h10 hch H1 H2)
/-- behind a single of a row -/
theorem xw_rw {f : Nat} {x3 : Int32} {post : Int32 → SX → Prop} (hs : s < 8) (I : pm_CI K R L dep c) (hL : L ≤ 200) (hr : pm_row c ≠ 0) (hp : pm_pos c = t)
    (h2 : a_reader (11 * s + 2) = nI t) (h3 : a_reader (11 * s + 3) = x3) (hx3 : x3 ≠ 0) (h5 : a_reader (11 * s + 5) = 0) (h7 : a_reader (11 * s + 7) = nI f) (hf : 1 ≤ f) (hf' : f < 64) (h8 : a_reader (11 * s + 8) = nI (pm_row c)) (h10 : a_reader (11 * s + 10) = nI (pm_at c))
    (hch : ∀ i, i ≤ pm_at c → a_chainEnd (4 * s + i) = nI (pm_lim c i))
    (H0 : t < pm_row c → post 0 (f_frameAt, f_frameLength, f_frameSort, f_frameFlags, f_frameStream, f_down, f_entryCount, f_most, f_typeSeen, f_lastSender, f_sentLength, a_payload, a_life, a_theyEnded, a_weEnded, a_finishing, a_codes, a_windowIn, a_windowOut, a_headers, a_headerCount, a_entries, a_kinds, a_repeats, a_messageCount, a_text, a_nodeCount, a_nodeTypes, a_valueCount, a_valueOwners, a_values, a_skippedCount, a_reader, a_chainNode, a_chainEnd, a_queue, a_queueLength, a_sent, a_nodeSize, a_nodePlace))
    (H1 : t = pm_row c → t ≠ L → post 0 (f_frameAt, f_frameLength, f_frameSort, f_frameFlags, f_frameStream, f_down, f_entryCount, f_most, f_typeSeen, f_lastSender, f_sentLength, a_payload, a_life, a_theyEnded, a_weEnded, a_finishing, a_codes, a_windowIn, a_windowOut, a_headers, a_headerCount, a_entries, a_kinds, a_repeats, a_messageCount, a_text, a_nodeCount, a_nodeTypes, a_valueCount, a_valueOwners, a_values, a_skippedCount, upd (xr_bE s a_reader) (11 * s + 10) (nI (pm_pop (pm_lim c) t (pm_at c))), a_chainNode, a_chainEnd, a_queue, a_queueLength, a_sent, a_nodeSize, a_nodePlace))
    (H2 : t = pm_row c → t = L → post 0 (f_frameAt, f_frameLength, f_frameSort, f_frameFlags, f_frameStream, f_down, f_entryCount, f_most, f_typeSeen, f_lastSender, f_sentLength, a_payload, a_life, a_theyEnded, a_weEnded, a_finishing, a_codes, a_windowIn, a_windowOut, a_headers, a_headerCount, a_entries, a_kinds, a_repeats, upd a_messageCount s (a_messageCount s + 1), a_text, a_nodeCount, a_nodeTypes, a_valueCount, a_valueOwners, a_values, a_skippedCount, upd (upd (xr_bE s a_reader) (11 * s + 10) (nI 0)) (11 * s) 0, a_chainNode, a_chainEnd, a_queue, a_queueLength, a_sent, a_nodeSize, a_nodePlace)) :
    wpX_closeEnds post (f_frameAt, f_frameLength, f_frameSort, f_frameFlags, f_frameStream, f_down, f_entryCount, f_most, f_typeSeen, f_lastSender, f_sentLength, a_payload, a_life, a_theyEnded, a_weEnded, a_finishing, a_codes, a_windowIn, a_windowOut, a_headers, a_headerCount, a_entries, a_kinds, a_repeats, a_messageCount, a_text, a_nodeCount, a_nodeTypes, a_valueCount, a_valueOwners, a_values, a_skippedCount, a_reader, a_chainNode, a_chainEnd, a_queue, a_queueLength, a_sent, a_nodeSize, a_nodePlace) (nI s) := by
  have h3' := I.2.1
  have hll := pm_lim_le I (pm_at c) (Nat.le_refl _)
  have he : pm_end c = pm_row c := by unfold pm_end; exact if_neg hr
  have hpe := I.2.2.2.2.2.2.1
  have hrl := (I.2.2.2.2.2.2.2 hr).1
  have i2 := xr_ix (s := s) (k := 2) hs (by omega)
  have i5 := xr_ix (s := s) (k := 5) hs (by omega)
  have i8 := xr_ix (s := s) (k := 8) hs (by omega)
  have e2 : a_reader (nI (11 * s) + 2).toNatClampNeg = nI t := (congrArg a_reader i2.2.2).trans h2
  have e5 : a_reader (nI (11 * s) + 5).toNatClampNeg = 0 := (congrArg a_reader i5.2.2).trans h5
  have e8 : a_reader (nI (11 * s) + 8).toNatClampNeg = nI (pm_row c) := (congrArg a_reader i8.2.2).trans h8
  unfold wpX_closeEnds
  dsimp only
  refine nm_r i2.1 ⟨i8.2.1, ?_⟩
  rw [e8, e2, e5]
  refine br_f (fun y => ?_) ⟨i2.2.1, i8.2.1, ?_⟩
  · have := (nI_eq (a := pm_row c) (b := 0) (by omega) (by omega)).mp y
    omega
  refine pk_eq t (pm_row c) (fun y => ⟨i5.2.1, br_t rfl ?_⟩) (fun y => ⟨1, ?_⟩)
  · refine xw_eE (f := f) (t := t) (p := 0) hs h7 hf' h2 (fun z => absurd z (by omega)) ?_
    rw [if_neg (by omega)]
    refine xw_cle (a_reader := xr_bE s a_reader) (c := pm_row0 c) hs (pm_CI_row0 I hr (by omega)) hL rfl hp ?_ ?_ ?_ ?_ hch (H1 y) (H2 y)
    · rw [xr_bE_k, if_neg (by omega), if_neg (by omega)]; exact h2
    · rw [xr_bE_k, if_neg (by omega), if_pos (by omega)]
    · rw [xr_bE_k, if_neg (by omega), if_pos (by omega)]
    · rw [xr_bE_k, if_neg (by omega), if_neg (by omega)]; exact h10
  · exact xw_clS (k := 0) (n := 0) hs (by omega) h3' (by omega) h2 h3 h5 h10 (hch _ (Nat.le_refl _)) (by omega) (fun y => H0 (by omega)) (fun y2 _ => absurd y2 (by omega)) (fun _ y1 _ _ => absurd y1 hx3) (fun b _ y1 _ _ => absurd y1 hx3)
end
end
section
/-! S4: what a byte leads to -/
section
/-- outside the stream nothing changes -/
def xr_fr (s : Nat) (mc nc nt vc vo va sk rd cn ce mc' nc' nt' vc' vo' va' sk' rd' cn' ce' : Nat → Int32) : Prop :=
  xr_O 1 s mc mc' ∧ xr_O 1 s nc nc' ∧ xr_O 16 s nt nt' ∧ xr_O 1 s vc vc' ∧ xr_O 48 s vo vo' ∧ xr_O 48 s va va' ∧ xr_O 1 s sk sk' ∧ xr_O 11 s rd rd' ∧ xr_O 4 s cn cn' ∧ xr_O 4 s ce ce' ∧ nt' (16 * s) = nt (16 * s)
/-- a byte more: an error, on the way, or whole -/
def xr_sp (K : Nat → Nat) (R : Nat → Bool) (s y L t : Nat) (B : Nat → Nat) (mc rd : Nat → Int32) (code : Nat) (mc' nc' nt' vc' vo' va' sk' rd' cn' ce' : Nat → Int32) : Prop :=
  (code ≠ 0 ∧ code ≤ 5 ∧ mc' = mc ∧ rd' (11 * s) = rd (11 * s) ∧ ∃ r, pm_Rd B K R t (cr_0 y L) r ∧ r.1 = code) ∨
  (code = 0 ∧ mc' = mc ∧ rd' (11 * s) = rd (11 * s) ∧ cr_inc K R s y L t B nc' nt' vc' vo' va' sk' rd' cn' ce' ∧ ∃ r, pm_Rd B K R t (cr_0 y L) r ∧ r.1 = 9) ∨
  (code = 0 ∧ t = L ∧ mc' = upd mc s (mc s + 1) ∧ rd' (11 * s) = 0 ∧ cr_done K R s y L B nc' nt' vc' vo' va' sk')
variable {B : Nat → Nat} {K : Nat → Nat} {R : Nat → Bool} {L t y : Nat} {dep : Nat → Nat} {c : pm_C} {h f q d w : Nat}
theorem pm_go_9 (hp : cr_ph K R t c h f q d w) : pm_go B K R t c h f q d w = (9, c) := by
  obtain ⟨p1, p2, p3⟩ := hp
  unfold pm_go
  rcases p3 with ⟨e, a1, a2, a3⟩ | ⟨e, a1, a2, a3, a4, a5⟩ | ⟨e, a1, a2, a3, a4, a5⟩ | ⟨e, a1, a2, a3, a4, a5, a6⟩ | ⟨e, a1, a2, a3, a4, a5, a6⟩
  · have he : pm_end c = pm_lim c (pm_at c) := by unfold pm_end; exact if_pos a3
    rw [if_pos e]
    exact pm_goT_9 a2 (by omega) (by omega)
  · have he : pm_end c = pm_lim c (pm_at c) := by unfold pm_end; exact if_pos a3
    rw [if_neg (by omega), if_pos e]
    exact pm_goL_9 a2 (by omega) (by omega)
  · rw [if_neg (by omega), if_neg (by omega), if_pos e]
    exact pm_goV_9 a2 (by omega) (by omega)
  · rw [if_neg (by omega), if_neg (by omega), if_neg (by omega), if_pos e]
    exact pm_goF_9 (by omega) p1
  · rw [if_neg (by omega), if_neg (by omega), if_neg (by omega), if_neg (by omega)]
    unfold pm_body
    by_cases f0 : f = 0
    · rw [if_pos f0, if_pos a2]
    · rw [if_neg f0, if_pos (a6 f0).1, if_neg (a6 f0).2, if_pos a2]
/-- what comes to the reference's end here -/
theorem cr_at {g : (Nat → Nat) → Nat → Nat × pm_C} {x : Nat} (H : cr_from K R y L t B g) (hg : g B t = (x, c)) (hx : x ≠ 0) : ∃ r, pm_Rd B K R t (cr_0 y L) r ∧ r.1 = x :=
  ⟨(x, c), H t B (Nat.le_refl _) (fun _ _ => rfl) _ (by rw [hg]; exact Or.inr ⟨hx, rfl⟩), rfl⟩
/-- one byte on -/
theorem cr_on {B1 : Nat → Nat} {g g1 : (Nat → Nat) → Nat → Nat × pm_C} (H : cr_from K R y L t B g) (hB : ∀ i, i < t → B1 i = B i)
    (hg : ∀ T B', t + 1 ≤ T → (∀ i, i < t + 1 → B' i = B1 i) → ∀ r, pm_Rp B' K R T (g1 B' T) r → pm_Rp B' K R T (g B' T) r) : cr_from K R y L (t + 1) B1 g1 := by
  intro T B' hT hB' r hr
  exact H T B' (by omega) (fun i hi => (hB' i (by omega)).trans (hB i hi)) r (hg T B' hT hB' r hr)
variable {f_frameAt f_frameLength f_frameSort f_frameFlags f_frameStream f_down f_entryCount f_most f_typeSeen f_lastSender f_sentLength : Int32} {a_payload a_life a_theyEnded a_weEnded a_finishing a_codes a_windowIn a_windowOut a_headers a_headerCount a_entries a_kinds a_repeats a_messageCount a_text a_nodeCount a_nodeTypes a_valueCount a_valueOwners a_values a_skippedCount a_reader a_chainNode a_chainEnd a_queue a_queueLength a_sent a_nodeSize a_nodePlace : Nat → Int32} {s : Nat} {mc0 rd0 : Nat → Int32}
/-- within an element -/
theorem xt_mid {post : Int32 → SX → Prop} (hs : s < 8) (hL : L ≤ 200) (I : pm_CI K R L dep c) (htL : t ≤ L)
    (hph : t < pm_end c → cr_ph K R t c h f q d w) (hte : t ≤ pm_end c) (h4 : t = pm_end c → pm_go B K R t c h f q d w = (4, c))
    (hne : h ≠ 0 ∨ d ≠ 0) (hh : h ≤ 4) (hd : d ≤ 10) (hrd : pm_row c ≠ 0 → h < 4 ∧ d ≠ 0)
    (hreg : cr_reg s t B c h f q d w a_reader a_chainNode a_chainEnd) (hXD : cr_XD K s a_nodeCount a_nodeTypes a_valueCount a_valueOwners a_values (cr_D R c h f q w)) (hsk : a_skippedCount s = nI (pm_sk c))
    (hfrom : cr_from K R y L t B (fun B' T => pm_go B' K R T c h f q d w)) (hmc : a_messageCount = mc0) (hr0 : a_reader (11 * s) = rd0 (11 * s))
    (H : ∀ code, xr_sp K R s y L t B mc0 rd0 code a_messageCount a_nodeCount a_nodeTypes a_valueCount a_valueOwners a_values a_skippedCount a_reader a_chainNode a_chainEnd → post (if code = 0 then 0 else nI (10 + code)) (f_frameAt, f_frameLength, f_frameSort, f_frameFlags, f_frameStream, f_down, f_entryCount, f_most, f_typeSeen, f_lastSender, f_sentLength, a_payload, a_life, a_theyEnded, a_weEnded, a_finishing, a_codes, a_windowIn, a_windowOut, a_headers, a_headerCount, a_entries, a_kinds, a_repeats, a_messageCount, a_text, a_nodeCount, a_nodeTypes, a_valueCount, a_valueOwners, a_values, a_skippedCount, a_reader, a_chainNode, a_chainEnd, a_queue, a_queueLength, a_sent, a_nodeSize, a_nodePlace)) :
    wX_readByte_212 post (nI s) 0 f_frameAt f_frameLength f_frameSort f_frameFlags f_frameStream f_down f_entryCount f_most f_typeSeen f_lastSender f_sentLength a_payload a_life a_theyEnded a_weEnded a_finishing a_codes a_windowIn a_windowOut a_headers a_headerCount a_entries a_kinds a_repeats a_messageCount a_text a_nodeCount a_nodeTypes a_valueCount a_valueOwners a_values a_skippedCount a_reader a_chainNode a_chainEnd a_queue a_queueLength a_sent a_nodeSize a_nodePlace := by
  obtain ⟨r2, r3, r45, r63, r64, r7, r8, r9, r10, rch⟩ := hreg
  unfold wX_readByte_212
  refine br_t rfl ?_
  refine xw_mid (x3 := nI h) (x5 := a_reader (11 * s + 5)) hs I hL r2 r3 rfl (fun z => ?_) r8 r10 (rch _ (Nat.le_refl _)).2 (fun z1 z2 => ?_) hte (fun z => ?_) (fun z => ?_)
  · have e3 := (nI_eq (a := h) (b := 0) (by omega) (by omega)).mp z.1
    have := (r45 (by omega)).2
    rw [this] at z
    have e5 := (nI_eq (a := d) (b := 0) (by omega) (by omega)).mp z.2
    omega
  · obtain ⟨y1, y2⟩ := hrd z1
    rw [(r45 y1).2] at z2
    have e5 := (nI_eq (a := d) (b := 0) (by omega) (by omega)).mp z2
    omega
  · have hp := hph z
    refine H 0 (Or.inr (Or.inl ⟨rfl, hmc, hr0, ?_, cr_at hfrom (pm_go_9 hp) (by omega)⟩))
    have hel := pm_end_le I
    exact ⟨dep, c, h, f, q, d, w, by omega, I, hp, ⟨r2, r3, r45, r63, r64, r7, r8, r9, r10, rch⟩, hXD, hsk, hfrom⟩
  · exact H 4 (Or.inl ⟨by omega, by omega, hmc, hr0, cr_at hfrom (h4 z) (by omega)⟩)
end
end
section
/-! S5: behind an element -/
section
variable {B : Nat → Nat} {K : Nat → Nat} {R : Nat → Bool} {L t y : Nat} {dep : Nat → Nat} {c : pm_C} {s : Nat} {mc rd0 nc nt vc vo va sk rd cn ce : Nat → Int32}
/-- the registers at an element's beginning -/
def xr_fresh (s t : Nat) (c : pm_C) (rd cn ce : Nat → Int32) : Prop :=
  rd (11 * s + 2) = nI t ∧ rd (11 * s + 3) = 0 ∧ rd (11 * s + 4) = 0 ∧ rd (11 * s + 5) = 0 ∧ rd (11 * s + 8) = 0 ∧ rd (11 * s + 9) = nI t ∧ rd (11 * s + 10) = nI (pm_at c) ∧
  (∀ i, i ≤ pm_at c → cn (4 * s + i) = nI (pm_ins c i) ∧ ce (4 * s + i) = nI (pm_lim c i))
theorem xt_f1 (I : pm_CI K R L dep c) (hr : pm_row c = 0) (hp : pm_pos c = t) (hF : xr_fresh s t c rd cn ce) (hXD : cr_XD K s nc nt vc vo va (pm_d c)) (hsk : sk s = nI (pm_sk c))
    (hfrom : cr_from K R y L t B (fun _ _ => (0, c))) (hr0 : rd (11 * s) = rd0 (11 * s)) (htL : t ≠ L) :
    xr_sp K R s y L t B mc rd0 0 mc nc nt vc vo va sk (upd rd (11 * s + 10) (nI (pm_pop (pm_lim c) t (pm_at c)))) cn ce := by
  obtain ⟨r2, r3, r4, r5, r8, r9, r10, rch⟩ := hF
  have hl0 := I.2.2.2.1
  have hne : pm_pos c ≠ pm_lim c 0 := by omega
  have I' := pm_CI_pop I hr
  have hlt := pm_pop_lt I hr hne
  have he : pm_end (pm_popC c) = pm_lim (pm_popC c) (pm_at (pm_popC c)) := by unfold pm_end; exact if_pos hr
  have hpp : pm_pos (pm_popC c) = t := hp
  have hel := pm_end_le I'
  have hpop := pm_pop_s (lim := pm_lim c) (p := pm_pos c) (pm_at c)
  have hph : cr_ph K R t (pm_popC c) 0 0 0 0 0 := ⟨by omega, by omega, Or.inl ⟨rfl, by omega, by omega, hr⟩⟩
  have hfr : cr_from K R y L t B (fun B' T => pm_go B' K R T (pm_popC c) 0 0 0 0 0) := by
    intro T B' hT hB' r hr'
    dsimp only at hr'
    unfold pm_go at hr'
    rw [if_pos rfl] at hr'
    have hw : pm_Rd B' K R T c r := pm_rd_T hr hne hr'
    exact hfrom T B' hT hB' r (Or.inl ⟨rfl, hw⟩)
  refine Or.inr (Or.inl ⟨rfl, rfl, ?_, ⟨dep, pm_popC c, 0, 0, 0, 0, 0, by omega, I', hph, ⟨?_, ?_, ?_, ?_, ?_, ?_, ?_, ?_, ?_, ?_⟩, ?_, hsk, hfr⟩, cr_at hfr (pm_go_9 hph) (by omega)⟩)
  · have := xr_u (f := rd) (s := s) (i := 10) (j := 0) (x := nI (pm_pop (pm_lim c) t (pm_at c)))
    rw [if_neg (by omega)] at this
    exact this.trans hr0
  · rw [xr_u, if_neg (by omega)]; exact r2
  · rw [xr_u, if_neg (by omega)]; exact r3
  · intro _
    rw [xr_u, if_neg (by omega), xr_u, if_neg (by omega)]
    exact ⟨r4, r5⟩
  · intro z; omega
  · intro z; omega
  · intro z; omega
  · rw [xr_u, if_neg (by omega), r8, show pm_row (pm_popC c) = 0 from hr]; rfl
  · intro _
    rw [xr_u, if_neg (by omega), r9, hpp]
  · rw [xr_u, if_pos rfl, ← hp]; rfl
  · intro i hi
    exact rch i (Nat.le_trans hi hpop.1)
  · unfold cr_D
    rw [if_neg (by omega)]
    exact hXD
theorem xt_f2 (I : pm_CI K R L dep c) (hr : pm_row c = 0) (hp : pm_pos c = t) (hXD : cr_XD K s nc nt vc vo va (pm_d c)) (hsk : sk s = nI (pm_sk c))
    (hfrom : cr_from K R y L t B (fun _ _ => (0, c))) (htL : t = L) :
    xr_sp K R s y L t B mc rd0 0 (upd mc s (mc s + 1)) nc nt vc vo va sk (upd (upd rd (11 * s + 10) (nI 0)) (11 * s) 0) cn ce := by
  have hl0 := I.2.2.2.1
  refine Or.inr (Or.inr ⟨rfl, htL, rfl, ?_, dep, pm_popC c, ?_, pm_CI_pop I hr, hXD, hsk⟩)
  · rw [pm_upd_eq, if_pos rfl]
  · have hE : pm_Rd B K R t c (0, pm_popC c) := pm_rd_E hr (by omega)
    have := hfrom t B (Nat.le_refl _) (fun _ _ => rfl) (0, pm_popC c) (Or.inl ⟨rfl, hE⟩)
    rw [htL] at this
    exact this
variable {f_frameAt f_frameLength f_frameSort f_frameFlags f_frameStream f_down f_entryCount f_most f_typeSeen f_lastSender f_sentLength : Int32} {a_payload a_life a_theyEnded a_weEnded a_finishing a_codes a_windowIn a_windowOut a_headers a_headerCount a_entries a_kinds a_repeats a_messageCount a_text a_nodeCount a_nodeTypes a_valueCount a_valueOwners a_values a_skippedCount a_reader a_chainNode a_chainEnd a_queue a_queueLength a_sent a_nodeSize a_nodePlace : Nat → Int32} {mc0 : Nat → Int32}
theorem xt_el {post : Int32 → SX → Prop} (hs : s < 8) (hL : L ≤ 200) (I : pm_CI K R L dep c) (hr : pm_row c = 0) (hp : pm_pos c = t) (hF : xr_fresh s t c a_reader a_chainNode a_chainEnd)
    (hXD : cr_XD K s a_nodeCount a_nodeTypes a_valueCount a_valueOwners a_values (pm_d c)) (hsk : a_skippedCount s = nI (pm_sk c)) (hfrom : cr_from K R y L t B (fun _ _ => (0, c))) (hmc : a_messageCount = mc0) (hr0 : a_reader (11 * s) = rd0 (11 * s))
    (H : ∀ mc' rd', xr_sp K R s y L t B mc0 rd0 0 mc' a_nodeCount a_nodeTypes a_valueCount a_valueOwners a_values a_skippedCount rd' a_chainNode a_chainEnd → xr_O 1 s a_messageCount mc' → xr_O 11 s a_reader rd' → post 0 (f_frameAt, f_frameLength, f_frameSort, f_frameFlags, f_frameStream, f_down, f_entryCount, f_most, f_typeSeen, f_lastSender, f_sentLength, a_payload, a_life, a_theyEnded, a_weEnded, a_finishing, a_codes, a_windowIn, a_windowOut, a_headers, a_headerCount, a_entries, a_kinds, a_repeats, mc', a_text, a_nodeCount, a_nodeTypes, a_valueCount, a_valueOwners, a_values, a_skippedCount, rd', a_chainNode, a_chainEnd, a_queue, a_queueLength, a_sent, a_nodeSize, a_nodePlace)) :
    wX_readByte_212 post (nI s) 0 f_frameAt f_frameLength f_frameSort f_frameFlags f_frameStream f_down f_entryCount f_most f_typeSeen f_lastSender f_sentLength a_payload a_life a_theyEnded a_weEnded a_finishing a_codes a_windowIn a_windowOut a_headers a_headerCount a_entries a_kinds a_repeats a_messageCount a_text a_nodeCount a_nodeTypes a_valueCount a_valueOwners a_values a_skippedCount a_reader a_chainNode a_chainEnd a_queue a_queueLength a_sent a_nodeSize a_nodePlace := by
  have hF' := hF
  obtain ⟨r2, r3, r4, r5, r8, r9, r10, rch⟩ := hF
  subst hmc
  unfold wX_readByte_212
  refine br_t rfl (xw_el hs I hL hr hp r2 r3 r5 r8 r10 (fun i hi => (rch i hi).2) (fun z => ?_) (fun z => ?_))
  · exact H _ _ (xt_f1 I hr hp hF' hXD hsk hfrom hr0 z) xr_O_r (xr_O_u (by omega))
  · exact H _ _ (xt_f2 I hr hp hXD hsk hfrom z) xr_O_1 (xr_O_t (xr_O_u (by omega)) (xr_O_u (i := 0) (by omega)))
theorem xt_row {post : Int32 → SX → Prop} (hs : s < 8) (hL : L ≤ 200) (I : pm_CI K R L dep c) (hr : pm_row c ≠ 0) (hp : pm_pos c = t)
    (r2 : a_reader (11 * s + 2) = nI t) (r3 : a_reader (11 * s + 3) = nI (if K (pm_fj c (pm_fld c)) = 3 then 3 else 2)) (r4 : a_reader (11 * s + 4) = 0) (r5 : a_reader (11 * s + 5) = 0) (r6 : K (pm_fj c (pm_fld c)) = 3 → a_reader (11 * s + 6) = nI 4)
    (r7 : a_reader (11 * s + 7) = nI (pm_fj c (pm_fld c))) (r8 : a_reader (11 * s + 8) = nI (pm_row c)) (r10 : a_reader (11 * s + 10) = nI (pm_at c))
    (rch : ∀ i, i ≤ pm_at c → a_chainNode (4 * s + i) = nI (pm_ins c i) ∧ a_chainEnd (4 * s + i) = nI (pm_lim c i))
    (hXD : cr_XD K s a_nodeCount a_nodeTypes a_valueCount a_valueOwners a_values (pm_d c)) (hsk : a_skippedCount s = nI (pm_sk c)) (hfrom : cr_from K R y L t B (fun _ _ => (0, c))) (hmc : a_messageCount = mc0) (hr0 : a_reader (11 * s) = rd0 (11 * s))
    (H : ∀ mc' rd', xr_sp K R s y L t B mc0 rd0 0 mc' a_nodeCount a_nodeTypes a_valueCount a_valueOwners a_values a_skippedCount rd' a_chainNode a_chainEnd → xr_O 1 s a_messageCount mc' → xr_O 11 s a_reader rd' → post 0 (f_frameAt, f_frameLength, f_frameSort, f_frameFlags, f_frameStream, f_down, f_entryCount, f_most, f_typeSeen, f_lastSender, f_sentLength, a_payload, a_life, a_theyEnded, a_weEnded, a_finishing, a_codes, a_windowIn, a_windowOut, a_headers, a_headerCount, a_entries, a_kinds, a_repeats, mc', a_text, a_nodeCount, a_nodeTypes, a_valueCount, a_valueOwners, a_values, a_skippedCount, rd', a_chainNode, a_chainEnd, a_queue, a_queueLength, a_sent, a_nodeSize, a_nodePlace)) :
    wX_readByte_212 post (nI s) 0 f_frameAt f_frameLength f_frameSort f_frameFlags f_frameStream f_down f_entryCount f_most f_typeSeen f_lastSender f_sentLength a_payload a_life a_theyEnded a_weEnded a_finishing a_codes a_windowIn a_windowOut a_headers a_headerCount a_entries a_kinds a_repeats a_messageCount a_text a_nodeCount a_nodeTypes a_valueCount a_valueOwners a_values a_skippedCount a_reader a_chainNode a_chainEnd a_queue a_queueLength a_sent a_nodeSize a_nodePlace := by
  obtain ⟨k1, k2, k3, k4, k5, k6⟩ := I.2.2.2.2.2.2.2 hr
  have hin := I.2.2.2.2.1 (pm_at c) (Nat.le_refl _)
  have hty := (I.1.2.2.2.2.1 _ hin.1).1
  have hend : pm_end c = pm_row c := by unfold pm_end; exact if_neg hr
  have hpe := I.2.2.2.2.2.2.1
  have hel := pm_end_le I
  have hj : 1 ≤ pm_fj c (pm_fld c) ∧ pm_fj c (pm_fld c) < 64 := by
    show 1 ≤ 16 * pm_nt (pm_d c) (pm_ins c (pm_at c)) + pm_fld c ∧ 16 * pm_nt (pm_d c) (pm_ins c (pm_at c)) + pm_fld c < 64
    omega
  subst hmc
  have hx3 : nI (if K (pm_fj c (pm_fld c)) = 3 then 3 else 2) ≠ 0 := by
    split <;> decide
  have bEF : xr_fresh s t (pm_row0 c) (xr_bE s a_reader) a_chainNode a_chainEnd := by
    refine ⟨?_, ?_, ?_, ?_, ?_, ?_, ?_, rch⟩
    · rw [xr_bE_k, if_neg (by omega), if_neg (by omega)]; exact r2
    · rw [xr_bE_k, if_neg (by omega), if_pos (by omega)]
    · rw [xr_bE_k, if_neg (by omega), if_pos (by omega)]
    · rw [xr_bE_k, if_neg (by omega), if_pos (by omega)]
    · rw [xr_bE_k, if_neg (by omega), if_pos (by omega)]
    · rw [xr_bE_k, if_pos rfl]; exact r2
    · rw [xr_bE_k, if_neg (by omega), if_neg (by omega)]; exact r10
  have bE0 : xr_bE s a_reader (11 * s) = rd0 (11 * s) := by
    have := xr_bE_k s a_reader 0
    rw [if_neg (by omega), if_neg (by omega)] at this
    exact this.trans hr0
  have bEO : xr_O 11 s a_reader (xr_bE s a_reader) := fun j hj => xr_bE_o hj
  have hfrom0 : t = pm_row c → cr_from K R y L t B (fun _ _ => (0, pm_row0 c)) := by
    intro z T B' hT hB' r hr'
    have hw : pm_Rd B' K R T (pm_row0 c) r := by
      rcases hr' with ⟨_, w⟩ | ⟨w, _⟩
      · exact w
      · exact absurd rfl w
    have hw2 : pm_Rd B' K R T c r := pm_rd_row hr (by omega) hw
    exact hfrom T B' hT hB' r (Or.inl ⟨rfl, hw2⟩)
  unfold wX_readByte_212
  refine br_t rfl (xw_rw (f := pm_fj c (pm_fld c)) hs I hL hr hp r2 r3 hx3 r5 r7 hj.1 hj.2 r8 r10 (fun i hi => (rch i hi).2) (fun z => ?_) (fun z z2 => ?_) (fun z z2 => ?_))
  · -- the next single
    have hph : cr_ph K R t c (if K (pm_fj c (pm_fld c)) = 3 then 3 else 2) (pm_fld c) t 0 4 := by
      refine ⟨by omega, k3, ?_⟩
      by_cases w : K (pm_fj c (pm_fld c)) = 3
      · rw [if_pos w]
        exact Or.inr (Or.inr (Or.inr (Or.inl ⟨rfl, by omega, by omega, by omega, by omega, fun _ => ⟨rfl, w⟩, fun _ => rfl⟩)))
      · rw [if_neg w]
        exact Or.inr (Or.inr (Or.inl ⟨rfl, by omega, by omega, by omega, fun _ => ⟨k4, by omega⟩, fun _ => rfl⟩))
    have hfr : cr_from K R y L t B (fun B' T => pm_go B' K R T c (if K (pm_fj c (pm_fld c)) = 3 then 3 else 2) (pm_fld c) t 0 4) := by
      intro T B' hT hB' r hr'
      dsimp only at hr'
      have hw : pm_Rp B' K R T (pm_goS B' K R T c) r := by
        unfold pm_goS
        unfold pm_go at hr'
        rw [hp]
        by_cases w : K (pm_fj c (pm_fld c)) = 3
        · rw [if_pos w] at hr' ⊢
          rw [if_neg (by omega), if_neg (by omega), if_neg (by omega), if_pos rfl] at hr'
          exact hr'
        · rw [if_neg w] at hr' ⊢
          rw [if_neg (by omega), if_neg (by omega), if_pos rfl] at hr'
          exact hr'
      have hw2 : pm_Rd B' K R T c r := pm_rd_S hr (by omega) hw
      exact hfrom T B' hT hB' r (Or.inl ⟨rfl, hw2⟩)
    refine H a_messageCount a_reader (Or.inr (Or.inl ⟨rfl, rfl, hr0, ⟨dep, c, _, _, _, _, _, by omega, I, hph, ⟨r2, r3, ?_, ?_, ?_, ?_, r8, fun w => absurd w hr, r10, rch⟩, ?_, hsk, hfr⟩, cr_at hfr (pm_go_9 hph) (by omega)⟩)) xr_O_r xr_O_r
    · intro _
      refine ⟨?_, r5⟩
      rw [r4]
      unfold cr_sum
      by_cases w : K (pm_fj c (pm_fld c)) = 3
      · rw [if_pos w]; rfl
      · rw [if_neg w]; rfl
    · intro w
      by_cases w2 : K (pm_fj c (pm_fld c)) = 3
      · exact r6 w2
      · rw [if_neg w2] at w; omega
    · intro w
      split at w <;> omega
    · intro _
      rw [r7, if_neg (by omega)]
    · unfold cr_D
      rw [if_neg (fun w => by have := w.1; split at this <;> omega)]
      exact hXD
  · exact H _ _ (xt_f1 (c := pm_row0 c) (pm_CI_row0 I hr (by omega)) rfl hp bEF hXD hsk (hfrom0 z) bE0 z2) xr_O_r (xr_O_t bEO (xr_O_u (by omega)))
  · exact H _ _ (xt_f2 (c := pm_row0 c) (pm_CI_row0 I hr (by omega)) rfl hp hXD hsk (hfrom0 z) z2) xr_O_1 (xr_O_t bEO (xr_O_t (xr_O_u (by omega)) (xr_O_u (i := 0) (by omega))))
end
end
section
/-! S6: a byte of a body -/
section
variable {f_frameAt f_frameLength f_frameSort f_frameFlags f_frameStream f_down f_entryCount f_most f_typeSeen f_lastSender f_sentLength : Int32} {a_payload a_life a_theyEnded a_weEnded a_finishing a_codes a_windowIn a_windowOut a_headers a_headerCount a_entries a_kinds a_repeats a_messageCount a_text a_nodeCount a_nodeTypes a_valueCount a_valueOwners a_values a_skippedCount a_reader a_chainNode a_chainEnd a_queue a_queueLength a_sent a_nodeSize a_nodePlace : Nat → Int32} {B B1 : Nat → Nat} {K : Nat → Nat} {R : Nat → Bool} {L t y : Nat} {dep : Nat → Nat} {c : pm_C} {s h f q d w : Nat} {mc0 rd0 nc0 nt0 vc0 vo0 va0 sk0 cn0 ce0 : Nat → Int32}
/-- behind fin: the element is through -/
theorem xb_fin {v : Int32} {st : Nat} {c' : pm_C} (I : pm_CI K R L dep c) (hp : t ≤ pm_end c) (hf : pm_fok K L c f v st) (h : pm_fin R c f t v st = (0, c')) (hsk : sk0 s = nI (pm_sk c)) (hpt : pm_pos c ≤ t) :
    pm_CI K R L dep c' ∧ pm_pos c' = t ∧ pm_at c' = pm_at c ∧ pm_row c' = pm_row c ∧ pm_fld c' = pm_fld c ∧ pm_lim c' = pm_lim c ∧ pm_ins c' = pm_ins c ∧ pm_nt (pm_d c') = pm_nt (pm_d c) ∧
    (f = 0 → pm_d c' = pm_d c ∧ upd sk0 s (sk0 s + nI (t - pm_pos c)) s = nI (pm_sk c')) ∧ (f ≠ 0 → pm_d c' = pm_kp R (pm_d c) (pm_nd c) f v st ∧ sk0 s = nI (pm_sk c')) := by
  obtain ⟨i1, i2, i3, i4, i5, i6, i7, i8⟩ := pm_fin_I I hp hf h
  refine ⟨i1, i2, i3, i4, i5, i6, i7, i8, fun z => ?_, fun z => ?_⟩
  · unfold pm_fin at h
    rw [if_pos z] at h
    have e : _ = c' := congrArg Prod.snd h
    subst e
    refine ⟨rfl, ?_⟩
    rw [pm_upd_eq, if_pos rfl, hsk, nI_add]
  · unfold pm_fin at h
    rw [if_neg z] at h
    split at h
    · have : (5 : Nat) = 0 := congrArg Prod.fst h
      omega
    · have e : _ = c' := congrArg Prod.snd h
      subst e
      exact ⟨rfl, hsk⟩
/-- the registers of a cursor with the same chain -/
theorem xb_fresh {c' : pm_C} {rd cn ce : Nat → Int32} (ha : pm_at c' = pm_at c) (hl : pm_lim c' = pm_lim c) (hi : pm_ins c' = pm_ins c) (r2 : rd (11 * s + 2) = nI t) (r10 : rd (11 * s + 10) = nI (pm_at c))
    (rch : ∀ i, i ≤ pm_at c → cn (4 * s + i) = nI (pm_ins c i) ∧ ce (4 * s + i) = nI (pm_lim c i)) : xr_fresh s t c' (xr_bE s rd) cn ce := by
  refine ⟨?_, ?_, ?_, ?_, ?_, ?_, ?_, ?_⟩
  · rw [xr_bE_k, if_neg (by omega), if_neg (by omega)]; exact r2
  · rw [xr_bE_k, if_neg (by omega), if_pos (by omega)]
  · rw [xr_bE_k, if_neg (by omega), if_pos (by omega)]
  · rw [xr_bE_k, if_neg (by omega), if_pos (by omega)]
  · rw [xr_bE_k, if_neg (by omega), if_pos (by omega)]
  · rw [xr_bE_k, if_pos rfl]; exact r2
  · rw [xr_bE_k, if_neg (by omega), if_neg (by omega), ha]; exact r10
  · rw [ha, hl, hi]; exact rch
theorem xb_0 (f : Nat → Int32) (s : Nat) : xr_bE s f (11 * s) = f (11 * s) := by
  have := xr_bE_k s f 0
  rw [if_neg (by omega), if_neg (by omega)] at this
  exact this
theorem xb_u0 {f : Nat → Int32} {s i : Nat} {x : Int32} (hi : i ≠ 0) : upd f (11 * s + i) x (11 * s) = f (11 * s) := by
  rw [pm_upd_eq, if_neg (by omega)]
theorem xb_body {rd2 : Nat → Int32} {post : Int32 → SX → Prop} (hs : s < 8) (hL : L ≤ 200) (htL : t < L) (I : pm_CI K R L dep c) (hph : cr_ph K R t c 4 f q d w)
    (r2 : rd2 (11 * s + 2) = nI (t + 1)) (r3 : rd2 (11 * s + 3) = nI 4) (r6 : rd2 (11 * s + 6) = nI (q + w - (t + 1))) (r7 : rd2 (11 * s + 7) = nI (if f = 0 then 0 else pm_fj c f)) (r8 : rd2 (11 * s + 8) = nI (pm_row c)) (r9 : rd2 (11 * s + 9) = nI (pm_pos c)) (r10 : rd2 (11 * s + 10) = nI (pm_at c))
    (r0 : rd2 (11 * s) = rd0 (11 * s)) (rO : xr_O 11 s rd0 rd2) (rch : ∀ i, i ≤ pm_at c → a_chainNode (4 * s + i) = nI (pm_ins c i) ∧ a_chainEnd (4 * s + i) = nI (pm_lim c i))
    (hXD : cr_XD K s a_nodeCount a_nodeTypes a_valueCount a_valueOwners a_values (cr_D R c 4 f q w)) (hsk : a_skippedCount s = nI (pm_sk c))
    (hfrom : cr_from K R y L t B (fun B' T => pm_go B' K R T c 4 f q d w)) (hB : ∀ i, i < t → B1 i = B i)
    (H : ∀ code mc' nc' nt' vc' vo' va' sk' rd' cn' ce', xr_fr s a_messageCount a_nodeCount a_nodeTypes a_valueCount a_valueOwners a_values a_skippedCount rd0 a_chainNode a_chainEnd mc' nc' nt' vc' vo' va' sk' rd' cn' ce' →
      xr_sp K R s y L (t + 1) B1 a_messageCount rd0 code mc' nc' nt' vc' vo' va' sk' rd' cn' ce' →
      post (if code = 0 then 0 else nI (10 + code)) (f_frameAt, f_frameLength, f_frameSort, f_frameFlags, f_frameStream, f_down, f_entryCount, f_most, f_typeSeen, f_lastSender, f_sentLength, a_payload, a_life, a_theyEnded, a_weEnded, a_finishing, a_codes, a_windowIn, a_windowOut, a_headers, a_headerCount, a_entries, a_kinds, a_repeats, mc', a_text, nc', nt', vc', vo', va', sk', rd', cn', ce', a_queue, a_queueLength, a_sent, a_nodeSize, a_nodePlace)) :
    (t + 1 = q + w → wpX_endElement (fun u => match u with | (f_frameAt, f_frameLength, f_frameSort, f_frameFlags, f_frameStream, f_down, f_entryCount, f_most, f_typeSeen, f_lastSender, f_sentLength, a_payload, a_life, a_theyEnded, a_weEnded, a_finishing, a_codes, a_windowIn, a_windowOut, a_headers, a_headerCount, a_entries, a_kinds, a_repeats, a_messageCount, a_text, a_nodeCount, a_nodeTypes, a_valueCount, a_valueOwners, a_values, a_skippedCount, a_reader, a_chainNode, a_chainEnd, a_queue, a_queueLength, a_sent, a_nodeSize, a_nodePlace) => wX_readByte_212 post (nI s) 0 f_frameAt f_frameLength f_frameSort f_frameFlags f_frameStream f_down f_entryCount f_most f_typeSeen f_lastSender f_sentLength a_payload a_life a_theyEnded a_weEnded a_finishing a_codes a_windowIn a_windowOut a_headers a_headerCount a_entries a_kinds a_repeats a_messageCount a_text a_nodeCount a_nodeTypes a_valueCount a_valueOwners a_values a_skippedCount a_reader a_chainNode a_chainEnd a_queue a_queueLength a_sent a_nodeSize a_nodePlace) (f_frameAt, f_frameLength, f_frameSort, f_frameFlags, f_frameStream, f_down, f_entryCount, f_most, f_typeSeen, f_lastSender, f_sentLength, a_payload, a_life, a_theyEnded, a_weEnded, a_finishing, a_codes, a_windowIn, a_windowOut, a_headers, a_headerCount, a_entries, a_kinds, a_repeats, a_messageCount, a_text, a_nodeCount, a_nodeTypes, a_valueCount, a_valueOwners, a_values, a_skippedCount, rd2, a_chainNode, a_chainEnd, a_queue, a_queueLength, a_sent, a_nodeSize, a_nodePlace) (nI s)) ∧
    (t + 1 ≠ q + w → wX_readByte_212 post (nI s) 0 f_frameAt f_frameLength f_frameSort f_frameFlags f_frameStream f_down f_entryCount f_most f_typeSeen f_lastSender f_sentLength a_payload a_life a_theyEnded a_weEnded a_finishing a_codes a_windowIn a_windowOut a_headers a_headerCount a_entries a_kinds a_repeats a_messageCount a_text a_nodeCount a_nodeTypes a_valueCount a_valueOwners a_values a_skippedCount (rd2) a_chainNode a_chainEnd a_queue a_queueLength a_sent a_nodeSize a_nodePlace) := by
  have hph' := hph
  obtain ⟨p1, p2, p3⟩ := hph
  have p3 : q ≤ t ∧ t < q + w ∧ q + w ≤ pm_lim c (pm_at c) ∧ pm_row c = 0 ∧ pm_pos c < q ∧ (f ≠ 0 → K (pm_fj c f) = 4 ∧ pm_pl R (pm_d c) (pm_nd c) f ≠ 48) := by
    rcases p3 with ⟨e, _⟩ | ⟨e, _⟩ | ⟨e, _⟩ | ⟨e, _⟩ | ⟨e, a⟩
    · omega
    · omega
    · omega
    · omega
    · exact a
  obtain ⟨a1, a2, a3, a4, a5, a6⟩ := p3
  have he : pm_end c = pm_lim c (pm_at c) := by unfold pm_end; exact if_pos a4
  have hll := pm_lim_le I (pm_at c) (Nat.le_refl _)
  have hin := I.2.2.2.2.1 (pm_at c) (Nat.le_refl _)
  have hty := (I.1.2.2.2.2.1 _ hin.1).1
  have hj : (if f = 0 then 0 else pm_fj c f) < 64 := by
    split
    · omega
    · show 16 * pm_nt (pm_d c) (pm_ins c (pm_at c)) + f < 64; omega
  constructor
  · intro z
    refine xw_eE (f := if f = 0 then 0 else pm_fj c f) (t := t + 1) (p := pm_pos c) hs r7 hj r2 (fun _ => ⟨r9, by omega⟩) ?_
    have hiff : ((if f = 0 then 0 else pm_fj c f) = 0) ↔ f = 0 := by
      split
      · simp [*]
      · rename_i g
        constructor
        · intro g2
          have : 16 * pm_nt (pm_d c) (pm_ins c (pm_at c)) + f = 0 := g2
          omega
        · intro g2; exact absurd g2 g
    have hfok : pm_fok K L c f (nI w) q := by
      by_cases g : f = 0
      · exact Or.inl g
      · exact Or.inr ⟨by omega, p2, by rw [(a6 g).1]; omega, by rw [(a6 g).1]; omega, fun _ => ⟨w, rfl, by omega⟩⟩
    obtain ⟨c', hc'⟩ : ∃ c', pm_fin R c f (t + 1) (nI w) q = (0, c') := by
      unfold pm_fin
      by_cases g : f = 0
      · rw [if_pos g]; exact ⟨_, rfl⟩
      · rw [if_neg g, if_neg (a6 g).2]; exact ⟨_, rfl⟩
    obtain ⟨i1, i2, i3, i4, i5, i6, i7, i8, i9, i10⟩ := xb_fin (sk0 := a_skippedCount) (s := s) I (by omega) hfok hc' hsk (by omega)
    have hfr : cr_from K R y L (t + 1) B1 (fun _ _ => (0, c')) := by
      refine cr_on hfrom hB (fun T B' hT hB' r hr' => ?_)
      have e : pm_go B' K R T c 4 f q d w = (0, c') := by
        unfold pm_go pm_body
        rw [if_neg (by omega), if_neg (by omega), if_neg (by omega), if_neg (by omega)]
        by_cases g : f = 0
        · rw [if_pos g, if_neg (by omega), ← hc', ← z, g]
          unfold pm_fin
          rw [if_pos rfl, if_pos rfl]
        · rw [if_neg g, if_pos (a6 g).1, if_neg (a6 g).2, if_neg (by omega), ← z]
          exact hc'
      show pm_Rp B' K R T (pm_go B' K R T c 4 f q d w) r
      rw [e]; exact hr'
    have hF := xb_fresh (t := t + 1) (rd := rd2) (cn := a_chainNode) (ce := a_chainEnd) (s := s) (c := c) (c' := c') i3 i6 i7 r2 r10 rch
    have bEO : xr_O 11 s rd0 (xr_bE s rd2) := xr_O_t rO (fun j hj => xr_bE_o hj)
    by_cases g : f = 0
    · rw [if_pos (hiff.mpr g)]
      obtain ⟨k1, k2⟩ := i9 g
      refine xt_el (c := c') (mc0 := a_messageCount) (rd0 := rd0) hs hL i1 (by omega) i2 hF ?_ k2 hfr rfl (by rw [xb_0]; exact r0) (fun mc' rd' s1 s2 s3 => ?_)
      · rw [k1]; unfold cr_D at hXD; rw [if_neg (fun z => z.2 g)] at hXD; exact hXD
      · have := H 0 mc' a_nodeCount a_nodeTypes a_valueCount a_valueOwners a_values _ rd' a_chainNode a_chainEnd ⟨s2, xr_O_r, xr_O_r, xr_O_r, xr_O_r, xr_O_r, xr_O_1, xr_O_t bEO s3, xr_O_r, xr_O_r, rfl⟩ s1
        exact this
    · rw [if_neg (fun z => g (hiff.mp z))]
      obtain ⟨k1, k2⟩ := i10 g
      refine xt_el (c := c') (mc0 := a_messageCount) (rd0 := rd0) hs hL i1 (by omega) i2 hF ?_ k2 hfr rfl (by rw [xb_0]; exact r0) (fun mc' rd' s1 s2 s3 => ?_)
      · rw [k1]; unfold cr_D at hXD; rw [if_pos ⟨rfl, g⟩] at hXD; exact hXD
      · have := H 0 mc' a_nodeCount a_nodeTypes a_valueCount a_valueOwners a_values a_skippedCount rd' a_chainNode a_chainEnd ⟨s2, xr_O_r, xr_O_r, xr_O_r, xr_O_r, xr_O_r, xr_O_r, xr_O_t bEO s3, xr_O_r, xr_O_r, rfl⟩ s1
        exact this
  · intro z
    refine xt_mid (B := B1) (y := y) (dep := dep) (c := c) (h := 4) (f := f) (q := q) (d := 0) (w := w) (mc0 := a_messageCount) (rd0 := rd0) hs hL I (by omega) (fun _ => ⟨by omega, p2, Or.inr (Or.inr (Or.inr (Or.inr ⟨rfl, by omega, by omega, a3, a4, a5, a6⟩)))⟩) (by omega) (fun z2 => absurd z2 (by omega)) (Or.inl (by omega)) (by omega) (by omega) (fun z2 => absurd a4 z2) ⟨r2, r3, fun z2 => absurd z2 (by omega), fun z2 => absurd z2 (by omega), fun _ => r6, fun _ => r7, r8, fun _ => r9, r10, rch⟩ hXD hsk ?_ rfl r0 (fun code s1 => ?_)
    · refine cr_on hfrom hB (fun T B' hT hB' r hr' => ?_)
      have e : pm_go B' K R T c 4 f q d w = pm_go B' K R T c 4 f q 0 w := by
        rfl
      show pm_Rp B' K R T (pm_go B' K R T c 4 f q d w) r
      rw [e]; exact hr'
    · exact H code a_messageCount a_nodeCount a_nodeTypes a_valueCount a_valueOwners a_values a_skippedCount rd2 a_chainNode a_chainEnd ⟨xr_O_r, xr_O_r, xr_O_r, xr_O_r, xr_O_r, xr_O_r, xr_O_r, rO, xr_O_r, xr_O_r, rfl⟩ s1
end
end
section
/-! S7: a byte with which a number ends -/
section
variable {f_frameAt f_frameLength f_frameSort f_frameFlags f_frameStream f_down f_entryCount f_most f_typeSeen f_lastSender f_sentLength : Int32} {a_payload a_life a_theyEnded a_weEnded a_finishing a_codes a_windowIn a_windowOut a_headers a_headerCount a_entries a_kinds a_repeats a_messageCount a_text a_nodeCount a_nodeTypes a_valueCount a_valueOwners a_values a_skippedCount a_reader a_chainNode a_chainEnd a_queue a_queueLength a_sent a_nodeSize a_nodePlace : Nat → Int32} {B B1 : Nat → Nat} {K : Nat → Nat} {R : Nat → Bool} {L t y : Nat} {dep : Nat → Nat} {c : pm_C} {s h f : Nat} {rd0 : Nat → Int32}
theorem xb_num {x : Int32} {rd2 : Nat → Int32} {g : (Nat → Nat) → Nat → Nat × pm_C} {post : Int32 → SX → Prop} (hs : s < 8) (hL : L ≤ 200) (I : pm_CI K R L dep c) (hK : cr_K a_kinds a_repeats K R)
    (hf : f ≠ 0 → f ≤ 15 ∧ 1 ≤ K (pm_fj c f) ∧ K (pm_fj c f) ≤ 3) (hrow : pm_row c ≠ 0 → f = pm_fld c ∧ h = if K (pm_fj c f) = 3 then 3 else 2)
    (r2 : rd2 (11 * s + 2) = nI (t + 1)) (r3 : rd2 (11 * s + 3) = nI h) (r4 : rd2 (11 * s + 4) = x) (r6 : f ≠ 0 → K (pm_fj c f) = 3 → rd2 (11 * s + 6) = nI 4) (r7 : rd2 (11 * s + 7) = nI (if f = 0 then 0 else pm_fj c f)) (r8 : rd2 (11 * s + 8) = nI (pm_row c)) (r9 : pm_row c = 0 → rd2 (11 * s + 9) = nI (pm_pos c)) (r10 : rd2 (11 * s + 10) = nI (pm_at c))
    (r0 : rd2 (11 * s) = rd0 (11 * s)) (rO : xr_O 11 s rd0 rd2) (rch : ∀ i, i ≤ pm_at c → a_chainNode (4 * s + i) = nI (pm_ins c i) ∧ a_chainEnd (4 * s + i) = nI (pm_lim c i))
    (hXD : cr_XD K s a_nodeCount a_nodeTypes a_valueCount a_valueOwners a_values (pm_d c)) (hsk : a_skippedCount s = nI (pm_sk c)) (hpt : pm_pos c ≤ t) (hte : t + 1 ≤ pm_end c)
    (hfrom : cr_from K R y L t B g) (hB : ∀ i, i < t → B1 i = B i) (hg : ∀ T B', t + 1 ≤ T → (∀ i, i < t + 1 → B' i = B1 i) → g B' T = pm_fin R c f (t + 1) (pm_val K (pm_fj c f) x) 0)
    (H : ∀ code mc' nc' nt' vc' vo' va' sk' rd' cn' ce', xr_fr s a_messageCount a_nodeCount a_nodeTypes a_valueCount a_valueOwners a_values a_skippedCount rd0 a_chainNode a_chainEnd mc' nc' nt' vc' vo' va' sk' rd' cn' ce' →
      xr_sp K R s y L (t + 1) B1 a_messageCount rd0 code mc' nc' nt' vc' vo' va' sk' rd' cn' ce' →
      post (if code = 0 then 0 else nI (10 + code)) (f_frameAt, f_frameLength, f_frameSort, f_frameFlags, f_frameStream, f_down, f_entryCount, f_most, f_typeSeen, f_lastSender, f_sentLength, a_payload, a_life, a_theyEnded, a_weEnded, a_finishing, a_codes, a_windowIn, a_windowOut, a_headers, a_headerCount, a_entries, a_kinds, a_repeats, mc', a_text, nc', nt', vc', vo', va', sk', rd', cn', ce', a_queue, a_queueLength, a_sent, a_nodeSize, a_nodePlace)) :
    wpX_endNumber (fun r u => match u with | (f_frameAt, f_frameLength, f_frameSort, f_frameFlags, f_frameStream, f_down, f_entryCount, f_most, f_typeSeen, f_lastSender, f_sentLength, a_payload, a_life, a_theyEnded, a_weEnded, a_finishing, a_codes, a_windowIn, a_windowOut, a_headers, a_headerCount, a_entries, a_kinds, a_repeats, a_messageCount, a_text, a_nodeCount, a_nodeTypes, a_valueCount, a_valueOwners, a_values, a_skippedCount, a_reader, a_chainNode, a_chainEnd, a_queue, a_queueLength, a_sent, a_nodeSize, a_nodePlace) => wX_readByte_212 post (nI s) r f_frameAt f_frameLength f_frameSort f_frameFlags f_frameStream f_down f_entryCount f_most f_typeSeen f_lastSender f_sentLength a_payload a_life a_theyEnded a_weEnded a_finishing a_codes a_windowIn a_windowOut a_headers a_headerCount a_entries a_kinds a_repeats a_messageCount a_text a_nodeCount a_nodeTypes a_valueCount a_valueOwners a_values a_skippedCount a_reader a_chainNode a_chainEnd a_queue a_queueLength a_sent a_nodeSize a_nodePlace) (f_frameAt, f_frameLength, f_frameSort, f_frameFlags, f_frameStream, f_down, f_entryCount, f_most, f_typeSeen, f_lastSender, f_sentLength, a_payload, a_life, a_theyEnded, a_weEnded, a_finishing, a_codes, a_windowIn, a_windowOut, a_headers, a_headerCount, a_entries, a_kinds, a_repeats, a_messageCount, a_text, a_nodeCount, a_nodeTypes, a_valueCount, a_valueOwners, a_values, a_skippedCount, rd2, a_chainNode, a_chainEnd, a_queue, a_queueLength, a_sent, a_nodeSize, a_nodePlace) (nI s) := by
  have hfok : pm_fok K L c f (pm_val K (pm_fj c f) x) 0 := by
    by_cases z : f = 0
    · exact Or.inl z
    · obtain ⟨f1, f2, f3⟩ := hf z
      exact Or.inr ⟨by omega, f1, by omega, by omega, fun z2 => by omega⟩
  have hcn := (rch _ (Nat.le_refl _)).1
  have bEO : xr_O 11 s rd0 (xr_bE s rd2) := xr_O_t rO (fun j hj => xr_bE_o hj)
  have bNO : xr_O 11 s rd0 (xr_bN s (rd2 (11 * s + 3)) rd2) := xr_O_t rO (fun j hj => xr_bN_o hj)
  have bN0 : xr_bN s (rd2 (11 * s + 3)) rd2 (11 * s) = rd0 (11 * s) := by
    have := xr_bN_k s (rd2 (11 * s + 3)) rd2 0
    rw [if_neg (by omega), if_neg (by omega)] at this
    exact this.trans r0
  have hfr : ∀ c', pm_fin R c f (t + 1) (pm_val K (pm_fj c f) x) 0 = (0, c') → cr_from K R y L (t + 1) B1 (fun _ _ => (0, c')) := by
    intro c' hc'
    refine cr_on hfrom hB (fun T B' hT hB' r hr' => ?_)
    rw [hg T B' hT hB', hc']; exact hr'
  refine xw_num (f := f) (t := t + 1) (x := x) hs I hK hXD hL r2 r4 r7 r8 (fun z => ?_) r10 hcn hf (fun z => ?_) (fun z z48 => ?_) (fun vc vo va z z48 g1 g2 g3 g4 => ?_)
  · have hr0 : pm_row c = 0 := by
      by_cases w : pm_row c = 0
      · exact w
      · have h1 := (hrow w).1
        have h2 := (I.2.2.2.2.2.2.2 w).2.1
        omega
    exact ⟨hr0, r9 hr0, by omega⟩
  · -- a skipped number
    have hr0 : pm_row c = 0 := by
      by_cases w : pm_row c = 0
      · exact w
      · have h1 := (hrow w).1
        have h2 := (I.2.2.2.2.2.2.2 w).2.1
        omega
    obtain ⟨c', hc'⟩ : ∃ c', pm_fin R c f (t + 1) (pm_val K (pm_fj c f) x) 0 = (0, c') := by
      unfold pm_fin
      rw [if_pos z]; exact ⟨_, rfl⟩
    obtain ⟨i1, i2, i3, i4, i5, i6, i7, i8, i9, i10⟩ := xb_fin (sk0 := a_skippedCount) (s := s) I hte hfok hc' hsk (by omega)
    obtain ⟨k1, k2⟩ := i9 z
    have hF := xb_fresh (t := t + 1) (rd := rd2) (cn := a_chainNode) (ce := a_chainEnd) (s := s) (c := c) (c' := c') i3 i6 i7 r2 r10 rch
    refine xt_el (c := c') (mc0 := a_messageCount) (rd0 := rd0) hs hL i1 (by omega) i2 hF (by rw [k1]; exact hXD) k2 (hfr c' hc') rfl (by rw [xb_0]; exact r0) (fun mc' rd' s1 s2 s3 => ?_)
    exact H 0 mc' a_nodeCount a_nodeTypes a_valueCount a_valueOwners a_values _ rd' a_chainNode a_chainEnd ⟨s2, xr_O_r, xr_O_r, xr_O_r, xr_O_r, xr_O_r, xr_O_1, xr_O_t bEO s3, xr_O_r, xr_O_r, rfl⟩ s1
  · -- too many
    have hc5 : pm_fin R c f (t + 1) (pm_val K (pm_fj c f) x) 0 = (5, c) := by
      unfold pm_fin
      rw [if_neg z, if_pos z48]
    unfold wX_readByte_212
    refine br_f (by decide) (H 5 a_messageCount a_nodeCount a_nodeTypes a_valueCount a_valueOwners a_values a_skippedCount _ a_chainNode a_chainEnd ⟨xr_O_r, xr_O_r, xr_O_r, xr_O_r, xr_O_r, xr_O_r, xr_O_r, ?_, xr_O_r, xr_O_r, rfl⟩ (Or.inl ⟨by omega, by omega, rfl, ?_, ?_⟩))
    · split
      · exact bEO
      · exact bNO
    · split
      · rw [xb_0]; exact r0
      · exact bN0
    · refine ⟨(5, c), hfrom (t + 1) B1 (by omega) hB _ ?_, rfl⟩
      rw [hg (t + 1) B1 (Nat.le_refl _) (fun _ _ => rfl), hc5]
      exact Or.inr ⟨show (5 : Nat) ≠ 0 by omega, rfl⟩
  · obtain ⟨c', hc'⟩ : ∃ c', pm_fin R c f (t + 1) (pm_val K (pm_fj c f) x) 0 = (0, c') := by
      unfold pm_fin
      rw [if_neg z, if_neg z48]; exact ⟨_, rfl⟩
    obtain ⟨i1, i2, i3, i4, i5, i6, i7, i8, i9, i10⟩ := xb_fin (sk0 := a_skippedCount) (s := s) I hte hfok hc' hsk (by omega)
    obtain ⟨k1, k2⟩ := i10 z
    by_cases hr : pm_row c = 0
    · rw [if_pos hr]
      have hF := xb_fresh (t := t + 1) (rd := rd2) (cn := a_chainNode) (ce := a_chainEnd) (s := s) (c := c) (c' := c') i3 i6 i7 r2 r10 rch
      refine xt_el (c := c') (mc0 := a_messageCount) (rd0 := rd0) hs hL i1 (by omega) i2 hF (by rw [k1]; exact g1) k2 (hfr c' hc') rfl (by rw [xb_0]; exact r0) (fun mc' rd' s1 s2 s3 => ?_)
      exact H 0 mc' a_nodeCount a_nodeTypes vc vo va a_skippedCount rd' a_chainNode a_chainEnd ⟨s2, xr_O_r, xr_O_r, g2, g3, g4, xr_O_r, xr_O_t bEO s3, xr_O_r, xr_O_r, rfl⟩ s1
    · rw [if_neg hr]
      obtain ⟨e1, e2⟩ := hrow hr
      have efj : pm_fj c' (pm_fld c') = pm_fj c f := by
        unfold pm_fj pm_nd
        rw [i8, i7, i3, i5, ← e1]
      have hk : ∀ j, j ≠ 5 → j ≠ 4 → j ≠ 3 → xr_bN s (rd2 (11 * s + 3)) rd2 (11 * s + j) = rd2 (11 * s + j) := by
        intro j n5 n4 n3
        rw [xr_bN_k, if_neg (fun w => w.elim n5 n4), if_neg n3]
      refine xt_row (c := c') (mc0 := a_messageCount) (rd0 := rd0) hs hL i1 (by omega) i2 (by rw [hk 2 (by omega) (by omega) (by omega)]; exact r2) ?_ ?_ ?_ (fun w => ?_) ?_ ?_ ?_ (by rw [i3, i6, i7]; exact rch) (by rw [k1]; exact g1) k2 (hfr c' hc') rfl bN0 (fun mc' rd' s1 s2 s3 => ?_)
      · rw [xr_bN_k, if_neg (by omega), if_pos rfl, r3, efj, e2]
      · rw [xr_bN_k, if_pos (Or.inr rfl)]
      · rw [xr_bN_k, if_pos (Or.inl rfl)]
      · rw [hk 6 (by omega) (by omega) (by omega)]
        rw [efj] at w; exact r6 z w
      · rw [hk 7 (by omega) (by omega) (by omega), r7, if_neg z, efj]
      · rw [hk 8 (by omega) (by omega) (by omega), r8, i4]
      · rw [hk 10 (by omega) (by omega) (by omega), r10, i3]
      · exact H 0 mc' a_nodeCount a_nodeTypes vc vo va a_skippedCount rd' a_chainNode a_chainEnd ⟨s2, xr_O_r, xr_O_r, g2, g3, g4, xr_O_r, xr_O_t bNO s3, xr_O_r, xr_O_r, rfl⟩ s1
end
end
section
/-! S8: a byte with which a tag ends -/
section
variable {f_frameAt f_frameLength f_frameSort f_frameFlags f_frameStream f_down f_entryCount f_most f_typeSeen f_lastSender f_sentLength : Int32} {a_payload a_life a_theyEnded a_weEnded a_finishing a_codes a_windowIn a_windowOut a_headers a_headerCount a_entries a_kinds a_repeats a_messageCount a_text a_nodeCount a_nodeTypes a_valueCount a_valueOwners a_values a_skippedCount a_reader a_chainNode a_chainEnd a_queue a_queueLength a_sent a_nodeSize a_nodePlace : Nat → Int32} {B B1 : Nat → Nat} {K : Nat → Nat} {R : Nat → Bool} {L t y : Nat} {dep : Nat → Nat} {c : pm_C} {s d : Nat} {rd0 : Nat → Int32}
theorem pm_fl_1 (hK : ∀ j, K j ≤ 8) (n : Nat) : pm_fl K R c n 1 = 0 := by
  rcases pm_fl_s (K := K) (R := R) (c := c) n 1 with z | ⟨z1, z2, z3, z4⟩
  · exact z
  · exfalso
    obtain ⟨w0, w5, w2⟩ := pm_w_0 _ (hK (pm_fj c n))
    rcases z4 with z4 | z4
    · unfold pm_w at z4
      split at z4
      · omega
      · split at z4 <;> omega
    · omega
theorem xr_tg_k (s : Nat) (h : Int32) (l : Option Int32) (f : Nat) (rd : Nat → Int32) (j : Nat) : xr_tg s h l f rd (11 * s + j) = if j = 7 then nI f else if j = 6 ∧ l ≠ none then (l.getD 0) else if j = 5 ∨ j = 4 then 0 else if j = 3 then h else rd (11 * s + j) := by
  unfold xr_tg
  rw [xr_u]
  by_cases h7 : j = 7
  · rw [if_pos h7, if_pos h7]
  · rw [if_neg h7, if_neg h7]
    cases l with
    | none =>
      rw [if_neg (fun z => z.2 rfl)]
      exact xr_bN_k s h rd j
    | some x =>
      show upd (xr_bN s h rd) (11 * s + 6) x (11 * s + j) = _
      rw [xr_u]
      by_cases h6 : j = 6
      · rw [if_pos h6, if_pos ⟨h6, by simp⟩]; rfl
      · rw [if_neg h6, if_neg (fun z => h6 z.1)]
        exact xr_bN_k s h rd j
theorem xr_tg_o {s j f : Nat} {h : Int32} {l : Option Int32} {rd : Nat → Int32} (hj : j < 11 * s ∨ 11 * s + 11 ≤ j) : xr_tg s h l f rd j = rd j := by
  unfold xr_tg
  rw [xr_o (by omega) hj]
  cases l with
  | none => exact xr_bN_o hj
  | some x =>
    show upd (xr_bN s h rd) (11 * s + 6) x j = _
    rw [xr_o (by omega) hj]; exact xr_bN_o hj
theorem xb_tag {x : Int32} {rd2 : Nat → Int32} {post : Int32 → SX → Prop} (hs : s < 8) (hL : L ≤ 200) (I : pm_CI K R L dep c) (hK : cr_K a_kinds a_repeats K R) (hr : pm_row c = 0) (htd : t = pm_pos c + d) (hte : t + 1 ≤ pm_end c) (hd : d < 10) (hb : B1 t < 128)
    (r2 : rd2 (11 * s + 2) = nI (t + 1)) (r4 : rd2 (11 * s + 4) = x) (hx : x = pm_vs B1 (pm_pos c) (d + 1)) (r8 : rd2 (11 * s + 8) = nI (pm_row c)) (r9 : rd2 (11 * s + 9) = nI (pm_pos c)) (r10 : rd2 (11 * s + 10) = nI (pm_at c))
    (r0 : rd2 (11 * s) = rd0 (11 * s)) (rO : xr_O 11 s rd0 rd2) (rch : ∀ i, i ≤ pm_at c → a_chainNode (4 * s + i) = nI (pm_ins c i) ∧ a_chainEnd (4 * s + i) = nI (pm_lim c i))
    (hXD : cr_XD K s a_nodeCount a_nodeTypes a_valueCount a_valueOwners a_values (pm_d c)) (hsk : a_skippedCount s = nI (pm_sk c))
    (hfrom : cr_from K R y L t B (fun B' T => pm_goT B' K R T c d)) (hB : ∀ i, i < t → B1 i = B i)
    (H : ∀ code mc' nc' nt' vc' vo' va' sk' rd' cn' ce', xr_fr s a_messageCount a_nodeCount a_nodeTypes a_valueCount a_valueOwners a_values a_skippedCount rd0 a_chainNode a_chainEnd mc' nc' nt' vc' vo' va' sk' rd' cn' ce' →
      xr_sp K R s y L (t + 1) B1 a_messageCount rd0 code mc' nc' nt' vc' vo' va' sk' rd' cn' ce' →
      post (if code = 0 then 0 else nI (10 + code)) (f_frameAt, f_frameLength, f_frameSort, f_frameFlags, f_frameStream, f_down, f_entryCount, f_most, f_typeSeen, f_lastSender, f_sentLength, a_payload, a_life, a_theyEnded, a_weEnded, a_finishing, a_codes, a_windowIn, a_windowOut, a_headers, a_headerCount, a_entries, a_kinds, a_repeats, mc', a_text, nc', nt', vc', vo', va', sk', rd', cn', ce', a_queue, a_queueLength, a_sent, a_nodeSize, a_nodePlace)) :
    wpX_endTag (fun r u => match u with | (f_frameAt, f_frameLength, f_frameSort, f_frameFlags, f_frameStream, f_down, f_entryCount, f_most, f_typeSeen, f_lastSender, f_sentLength, a_payload, a_life, a_theyEnded, a_weEnded, a_finishing, a_codes, a_windowIn, a_windowOut, a_headers, a_headerCount, a_entries, a_kinds, a_repeats, a_messageCount, a_text, a_nodeCount, a_nodeTypes, a_valueCount, a_valueOwners, a_values, a_skippedCount, a_reader, a_chainNode, a_chainEnd, a_queue, a_queueLength, a_sent, a_nodeSize, a_nodePlace) => wX_readByte_212 post (nI s) r f_frameAt f_frameLength f_frameSort f_frameFlags f_frameStream f_down f_entryCount f_most f_typeSeen f_lastSender f_sentLength a_payload a_life a_theyEnded a_weEnded a_finishing a_codes a_windowIn a_windowOut a_headers a_headerCount a_entries a_kinds a_repeats a_messageCount a_text a_nodeCount a_nodeTypes a_valueCount a_valueOwners a_values a_skippedCount a_reader a_chainNode a_chainEnd a_queue a_queueLength a_sent a_nodeSize a_nodePlace) (f_frameAt, f_frameLength, f_frameSort, f_frameFlags, f_frameStream, f_down, f_entryCount, f_most, f_typeSeen, f_lastSender, f_sentLength, a_payload, a_life, a_theyEnded, a_weEnded, a_finishing, a_codes, a_windowIn, a_windowOut, a_headers, a_headerCount, a_entries, a_kinds, a_repeats, a_messageCount, a_text, a_nodeCount, a_nodeTypes, a_valueCount, a_valueOwners, a_values, a_skippedCount, rd2, a_chainNode, a_chainEnd, a_queue, a_queueLength, a_sent, a_nodeSize, a_nodePlace) (nI s) := by
  have he : pm_end c = pm_lim c (pm_at c) := by unfold pm_end; exact if_pos hr
  have hel := pm_end_le I
  have hcn := (rch _ (Nat.le_refl _)).1
  have hdis : ∀ T B', t + 1 ≤ T → (∀ i, i < t + 1 → B' i = B1 i) → pm_goT B' K R T c d = pm_dis B' K R T c (t + 1) x.toBitVec.toNat := by
    intro T B' hT hB'
    have hbt : B' (pm_pos c + d) < 128 := by
      rw [hB' _ (by omega), ← htd]; exact hb
    rw [pm_goT_d hd (by omega) (by omega) hbt, hx]
    have e1 : pm_vs B' (pm_pos c) (d + 1) = pm_vs B1 (pm_pos c) (d + 1) := pm_vs_g _ (fun i hi => hB' _ (by omega))
    rw [e1, show pm_pos c + (d + 1) = t + 1 by omega]
  -- on to another phase
  have hmid : ∀ (h : Nat) (l : Option Int32) (f w : Nat), 1 ≤ h → h ≤ 3 → f ≤ 15 → (h = 3 → l = some (nI w) ∧ 0 < w ∧ w ≤ 8) →
      (∀ T B', t + 1 ≤ T → (∀ i, i < t + 1 → B' i = B1 i) → pm_goT B' K R T c d = pm_go B' K R T c h f (t + 1) 0 w) →
      (h = 1 → (f ≠ 0 → K (pm_fj c f) ≠ 0 ∧ (K (pm_fj c f) ≤ 3 → R (pm_fj c f) = true))) → (h = 2 → (f ≠ 0 → 1 ≤ K (pm_fj c f) ∧ K (pm_fj c f) ≤ 2)) → (h = 3 → (f ≠ 0 → w = 4 ∧ K (pm_fj c f) = 3)) →
      wX_readByte_212 post (nI s) 0 f_frameAt f_frameLength f_frameSort f_frameFlags f_frameStream f_down f_entryCount f_most f_typeSeen f_lastSender f_sentLength a_payload a_life a_theyEnded a_weEnded a_finishing a_codes a_windowIn a_windowOut a_headers a_headerCount a_entries a_kinds a_repeats a_messageCount a_text a_nodeCount a_nodeTypes a_valueCount a_valueOwners a_values a_skippedCount (xr_tg s (nI h) l (if f = 0 then 0 else pm_fj c f) rd2) a_chainNode a_chainEnd a_queue a_queueLength a_sent a_nodeSize a_nodePlace := by
    intro h l f w h1 h3 hf15 hl hgo c1 c2 c3
    have k := xr_tg_k s (nI h) l (if f = 0 then 0 else pm_fj c f) rd2
    refine xt_mid (B := B1) (y := y) (dep := dep) (c := c) (h := h) (f := f) (q := t + 1) (d := 0) (w := w) (mc0 := a_messageCount) (rd0 := rd0) hs hL I (by omega) (fun z => ⟨z, hf15, ?_⟩) hte (fun z => ?_) (Or.inl (by omega)) (by omega) (by omega) (fun z => absurd hr z) ⟨?_, ?_, ?_, ?_, ?_, ?_, ?_, ?_, ?_, rch⟩ ?_ hsk ?_ rfl ?_ (fun code s1 => ?_)
    · rcases (show h = 1 ∨ h = 2 ∨ h = 3 by omega) with e | e | e
      · exact Or.inr (Or.inl ⟨e, by omega, by omega, hr, by omega, c1 e⟩)
      · exact Or.inr (Or.inr (Or.inl ⟨e, by omega, by omega, by omega, c2 e, fun z2 => absurd hr z2⟩))
      · exact Or.inr (Or.inr (Or.inr (Or.inl ⟨e, by omega, (hl e).2.1, (hl e).2.2, by omega, c3 e, fun z2 => absurd hr z2⟩)))
    · unfold pm_go
      rcases (show h = 1 ∨ h = 2 ∨ h = 3 by omega) with e | e | e
      · rw [if_neg (by omega), if_pos e]; exact pm_goL_e (by omega) (by omega)
      · rw [if_neg (by omega), if_neg (by omega), if_pos e]; exact pm_goV_e (by omega) (by omega)
      · rw [if_neg (by omega), if_neg (by omega), if_neg (by omega), if_pos e]
        exact pm_goF_e (by have := (hl e).2.1; omega) (by omega)
    · rw [k, if_neg (by omega), if_neg (fun z => by omega), if_neg (by omega), if_neg (by omega)]; exact r2
    · rw [k, if_neg (by omega), if_neg (fun z => by omega), if_neg (by omega), if_pos rfl]
    · intro _
      rw [k, if_neg (by omega), if_neg (fun z => by omega), if_pos (by omega), k, if_neg (by omega), if_neg (fun z => by omega), if_pos (by omega)]
      refine ⟨?_, rfl⟩
      unfold cr_sum
      rw [if_neg (by omega)]
      split <;> rfl
    · intro e
      rw [k, if_neg (by omega), if_pos ⟨rfl, by rw [(hl e).1]; simp⟩, (hl e).1]; rfl
    · intro e; omega
    · intro _
      rw [k, if_pos rfl]
    · rw [k, if_neg (by omega), if_neg (fun z => by omega), if_neg (by omega), if_neg (by omega)]; exact r8
    · intro _
      rw [k, if_neg (by omega), if_neg (fun z => by omega), if_neg (by omega), if_neg (by omega)]; exact r9
    · rw [k, if_neg (by omega), if_neg (fun z => by omega), if_neg (by omega), if_neg (by omega)]; exact r10
    · unfold cr_D
      rw [if_neg (fun z => by omega)]
      exact hXD
    · refine cr_on hfrom hB (fun T B' hT hB' r hr' => ?_)
      show pm_Rp B' K R T (pm_goT B' K R T c d) r
      rw [hgo T B' hT hB']; exact hr'
    · refine (k 0).trans ?_
      rw [if_neg (show ¬ (0 : Nat) = 7 by omega), if_neg (show ¬ ((0 : Nat) = 6 ∧ l ≠ none) from fun z => absurd z.1 (by omega)), if_neg (show ¬ ((0 : Nat) = 5 ∨ (0 : Nat) = 4) by omega), if_neg (show ¬ (0 : Nat) = 3 by omega)]
      exact r0
    · exact H code a_messageCount a_nodeCount a_nodeTypes a_valueCount a_valueOwners a_values a_skippedCount _ a_chainNode a_chainEnd ⟨xr_O_r, xr_O_r, xr_O_r, xr_O_r, xr_O_r, xr_O_r, xr_O_r, xr_O_t rO (fun j hj => xr_tg_o hj), xr_O_r, xr_O_r, rfl⟩ s1
  have hfl := fun n w => pm_fl_s (K := K) (R := R) (c := c) n w
  refine xw_tag (x := x) hs I hK hXD r4 r10 hcn (fun z => ?_) (fun f z1 z2 z3 => ?_) (fun f z1 z2 z3 => ?_) (fun f z1 z2 z3 => ?_) (fun f z1 z2 z3 => ?_)
  · unfold wX_readByte_212
    refine br_f (by decide) (H 2 a_messageCount a_nodeCount a_nodeTypes a_valueCount a_valueOwners a_values a_skippedCount rd2 a_chainNode a_chainEnd ⟨xr_O_r, xr_O_r, xr_O_r, xr_O_r, xr_O_r, xr_O_r, xr_O_r, rO, xr_O_r, xr_O_r, rfl⟩ (Or.inl ⟨by omega, by omega, rfl, r0, (2, c), hfrom (t + 1) B1 (by omega) hB _ ?_, rfl⟩))
    have e : pm_goT B1 K R (t + 1) c d = (2, c) := by
      rw [hdis (t + 1) B1 (Nat.le_refl _) (fun _ _ => rfl)]
      unfold pm_dis
      rcases z with z | ⟨z1, z2, z3, z4⟩
      · rw [if_pos z]
      · by_cases w : x.toBitVec.toNat / 8 = 0
        · rw [if_pos w]
        · rw [if_neg w, if_neg z1, if_neg z3, if_neg z4, if_neg z2]
    show pm_Rp B1 K R (t + 1) (pm_goT B1 K R (t + 1) c d) (2, c)
    rw [e]
    exact Or.inr ⟨show (2 : Nat) ≠ 0 by omega, rfl⟩
  · refine hmid 2 none f 0 (by omega) (by omega) ?_ (fun e => by omega) (fun T B' hT hB' => ?_) (fun e => by omega) (fun _ g => ?_) (fun e => by omega)
    · rw [z3]; rcases hfl (x.toBitVec.toNat / 8) 0 with e | ⟨e1, e2, _⟩ <;> omega
    · rw [hdis T B' hT hB']; unfold pm_dis; rw [if_neg z1, if_pos z2, ← z3]; rfl
    · rcases hfl (x.toBitVec.toNat / 8) 0 with e | ⟨e1, e2, e3, e4⟩
      · omega
      · rw [z3, e1]
        have : K (pm_fj c (x.toBitVec.toNat / 8)) < 3 := by
          rcases e4 with e4 | e4
          · exact (pm_w_0 _ (hK.1 _)).1.mp e4.symm
          · exact absurd e4.1 (by decide)
        omega
  · have hf0 : f = 0 := by rw [z3]; exact pm_fl_1 hK.1 _
    refine hmid 3 (some 8) f 8 (by omega) (by omega) (by omega) (fun _ => ⟨rfl, by omega, by omega⟩) (fun T B' hT hB' => ?_) (fun e => by omega) (fun e => by omega) (fun _ g => absurd hf0 g)
    rw [hdis T B' hT hB']; unfold pm_dis; rw [if_neg z1, if_neg (by omega), if_neg (by omega), if_neg (by omega), if_pos z2, hf0]; rfl
  · refine hmid 1 none f 0 (by omega) (by omega) ?_ (fun e => by omega) (fun T B' hT hB' => ?_) (fun _ g => ?_) (fun e => by omega) (fun e => by omega)
    · rw [z3]; rcases hfl (x.toBitVec.toNat / 8) 2 with e | ⟨e1, e2, _⟩ <;> omega
    · rw [hdis T B' hT hB']; unfold pm_dis; rw [if_neg z1, if_neg (by omega), if_pos z2, ← z3]; rfl
    · rcases hfl (x.toBitVec.toNat / 8) 2 with e | ⟨e1, e2, e3, e4⟩
      · omega
      · rw [z3, e1]
        refine ⟨e3, fun g3 => ?_⟩
        rcases e4 with e4 | e4
        · have := (pm_w_0 _ (hK.1 _)).2.2.mp e4.symm
          omega
        · exact e4.2
  · refine hmid 3 (some 4) f 4 (by omega) (by omega) ?_ (fun _ => ⟨rfl, by omega, by omega⟩) (fun T B' hT hB' => ?_) (fun e => by omega) (fun e => by omega) (fun _ g => ?_)
    · rw [z3]; rcases hfl (x.toBitVec.toNat / 8) 5 with e | ⟨e1, e2, _⟩ <;> omega
    · rw [hdis T B' hT hB']; unfold pm_dis; rw [if_neg z1, if_neg (by omega), if_neg (by omega), if_pos z2, ← z3]; rfl
    · rcases hfl (x.toBitVec.toNat / 8) 5 with e | ⟨e1, e2, e3, e4⟩
      · omega
      · rw [z3, e1]
        refine ⟨rfl, ?_⟩
        rcases e4 with e4 | e4
        · exact (pm_w_0 _ (hK.1 _)).2.1.mp e4.symm
        · exact absurd e4.1 (by decide)
end
end
section
/-! S9: a byte with which a length ends -/
section
variable {f_frameAt f_frameLength f_frameSort f_frameFlags f_frameStream f_down f_entryCount f_most f_typeSeen f_lastSender f_sentLength : Int32} {a_payload a_life a_theyEnded a_weEnded a_finishing a_codes a_windowIn a_windowOut a_headers a_headerCount a_entries a_kinds a_repeats a_messageCount a_text a_nodeCount a_nodeTypes a_valueCount a_valueOwners a_values a_skippedCount a_reader a_chainNode a_chainEnd a_queue a_queueLength a_sent a_nodeSize a_nodePlace : Nat → Int32} {B B1 : Nat → Nat} {K : Nat → Nat} {R : Nat → Bool} {L t y : Nat} {dep : Nat → Nat} {c : pm_C} {s f : Nat} {rd0 : Nat → Int32}
theorem xr_bd_k (s : Nat) (x : Int32) (rd : Nat → Int32) (k : Nat) : xr_bd s x rd (11 * s + k) = if k = 6 then x else if k = 3 then 4 else rd (11 * s + k) := by
  unfold xr_bd
  rw [xr_u, xr_u]
theorem xr_rw_k (s : Nat) (h e : Int32) (rd : Nat → Int32) (k : Nat) : xr_rw s h e rd (11 * s + k) = if k = 8 then e else if k = 6 then 4 else if k = 5 ∨ k = 4 then 0 else if k = 3 then h else rd (11 * s + k) := by
  unfold xr_rw
  rw [xr_u, xr_u, xr_bN_k]
theorem xb_len {x : Int32} {rd2 : Nat → Int32} {g : (Nat → Nat) → Nat → Nat × pm_C} {post : Int32 → SX → Prop} (hs : s < 8) (hL : L ≤ 200) (I : pm_CI K R L dep c) (hK : cr_K a_kinds a_repeats K R) (hr : pm_row c = 0) (hpt : pm_pos c ≤ t) (hte : t + 1 ≤ pm_end c)
    (hf15 : f ≤ 15) (hf : f ≠ 0 → K (pm_fj c f) ≠ 0 ∧ (K (pm_fj c f) ≤ 3 → R (pm_fj c f) = true))
    (r2 : rd2 (11 * s + 2) = nI (t + 1)) (r4 : rd2 (11 * s + 4) = x) (r7 : rd2 (11 * s + 7) = nI (if f = 0 then 0 else pm_fj c f)) (r8 : rd2 (11 * s + 8) = nI (pm_row c)) (r9 : rd2 (11 * s + 9) = nI (pm_pos c)) (r10 : rd2 (11 * s + 10) = nI (pm_at c))
    (r0 : rd2 (11 * s) = rd0 (11 * s)) (rO : xr_O 11 s rd0 rd2) (rch : ∀ i, i ≤ pm_at c → a_chainNode (4 * s + i) = nI (pm_ins c i) ∧ a_chainEnd (4 * s + i) = nI (pm_lim c i))
    (hXD : cr_XD K s a_nodeCount a_nodeTypes a_valueCount a_valueOwners a_values (pm_d c)) (hsk : a_skippedCount s = nI (pm_sk c))
    (hfrom : cr_from K R y L t B g) (hB : ∀ i, i < t → B1 i = B i) (hg : ∀ T B', t + 1 ≤ T → (∀ i, i < t + 1 → B' i = B1 i) → g B' T = pm_len K R T c f (t + 1) x)
    (H : ∀ code mc' nc' nt' vc' vo' va' sk' rd' cn' ce', xr_fr s a_messageCount a_nodeCount a_nodeTypes a_valueCount a_valueOwners a_values a_skippedCount rd0 a_chainNode a_chainEnd mc' nc' nt' vc' vo' va' sk' rd' cn' ce' →
      xr_sp K R s y L (t + 1) B1 a_messageCount rd0 code mc' nc' nt' vc' vo' va' sk' rd' cn' ce' →
      post (if code = 0 then 0 else nI (10 + code)) (f_frameAt, f_frameLength, f_frameSort, f_frameFlags, f_frameStream, f_down, f_entryCount, f_most, f_typeSeen, f_lastSender, f_sentLength, a_payload, a_life, a_theyEnded, a_weEnded, a_finishing, a_codes, a_windowIn, a_windowOut, a_headers, a_headerCount, a_entries, a_kinds, a_repeats, mc', a_text, nc', nt', vc', vo', va', sk', rd', cn', ce', a_queue, a_queueLength, a_sent, a_nodeSize, a_nodePlace)) :
    wpX_endLength (fun r u => match u with | (f_frameAt, f_frameLength, f_frameSort, f_frameFlags, f_frameStream, f_down, f_entryCount, f_most, f_typeSeen, f_lastSender, f_sentLength, a_payload, a_life, a_theyEnded, a_weEnded, a_finishing, a_codes, a_windowIn, a_windowOut, a_headers, a_headerCount, a_entries, a_kinds, a_repeats, a_messageCount, a_text, a_nodeCount, a_nodeTypes, a_valueCount, a_valueOwners, a_values, a_skippedCount, a_reader, a_chainNode, a_chainEnd, a_queue, a_queueLength, a_sent, a_nodeSize, a_nodePlace) => wX_readByte_212 post (nI s) r f_frameAt f_frameLength f_frameSort f_frameFlags f_frameStream f_down f_entryCount f_most f_typeSeen f_lastSender f_sentLength a_payload a_life a_theyEnded a_weEnded a_finishing a_codes a_windowIn a_windowOut a_headers a_headerCount a_entries a_kinds a_repeats a_messageCount a_text a_nodeCount a_nodeTypes a_valueCount a_valueOwners a_values a_skippedCount a_reader a_chainNode a_chainEnd a_queue a_queueLength a_sent a_nodeSize a_nodePlace) (f_frameAt, f_frameLength, f_frameSort, f_frameFlags, f_frameStream, f_down, f_entryCount, f_most, f_typeSeen, f_lastSender, f_sentLength, a_payload, a_life, a_theyEnded, a_weEnded, a_finishing, a_codes, a_windowIn, a_windowOut, a_headers, a_headerCount, a_entries, a_kinds, a_repeats, a_messageCount, a_text, a_nodeCount, a_nodeTypes, a_valueCount, a_valueOwners, a_values, a_skippedCount, rd2, a_chainNode, a_chainEnd, a_queue, a_queueLength, a_sent, a_nodeSize, a_nodePlace) (nI s) := by
  have he : pm_end c = pm_lim c (pm_at c) := by unfold pm_end; exact if_pos hr
  have hel := pm_end_le I
  have hin := I.2.2.2.2.1 (pm_at c) (Nat.le_refl _)
  have hty := (I.1.2.2.2.2.1 _ hin.1).1
  have bdO : ∀ z, xr_O 11 s rd0 (xr_bd s z rd2) := by
    intro z
    refine xr_O_t rO (fun j hj => ?_)
    unfold xr_bd
    rw [xr_o (by omega) hj, xr_o (by omega) hj]
  have bd0 : ∀ z, xr_bd s z rd2 (11 * s) = rd0 (11 * s) := by
    intro z
    refine (xr_bd_k s z rd2 0).trans ?_
    rw [if_neg (by omega), if_neg (by omega)]; exact r0
  have bEO : ∀ rd', xr_O 11 s rd0 rd' → xr_O 11 s rd0 (xr_bE s rd') := fun rd' h => xr_O_t h (fun j hj => xr_bE_o hj)
  -- errors
  have herr : ∀ (x' : Nat) rd', x' ≠ 0 → x' ≤ 5 → (∀ T B', t + 1 ≤ T → (∀ i, i < t + 1 → B' i = B1 i) → g B' T = (x', c)) → rd' (11 * s) = rd0 (11 * s) → xr_O 11 s rd0 rd' → wX_readByte_212 post (nI s) (nI (10 + x')) f_frameAt f_frameLength f_frameSort f_frameFlags f_frameStream f_down f_entryCount f_most f_typeSeen f_lastSender f_sentLength a_payload a_life a_theyEnded a_weEnded a_finishing a_codes a_windowIn a_windowOut a_headers a_headerCount a_entries a_kinds a_repeats a_messageCount a_text a_nodeCount a_nodeTypes a_valueCount a_valueOwners a_values a_skippedCount (rd') a_chainNode a_chainEnd a_queue a_queueLength a_sent a_nodeSize a_nodePlace := by
    intro x' rd' h1 h5 hgx hr0 hrO
    unfold wX_readByte_212
    refine br_f (fun z => ?_) ?_
    · have := (nI_eq (a := 10 + x') (b := 0) (by omega) (by omega)).mp z
      omega
    have := H x' a_messageCount a_nodeCount a_nodeTypes a_valueCount a_valueOwners a_values a_skippedCount rd' a_chainNode a_chainEnd ⟨xr_O_r, xr_O_r, xr_O_r, xr_O_r, xr_O_r, xr_O_r, xr_O_r, hrO, xr_O_r, xr_O_r, rfl⟩ (Or.inl ⟨h1, h5, rfl, hr0, (x', c), hfrom (t + 1) B1 (by omega) hB _ (by rw [hgx (t + 1) B1 (Nat.le_refl _) (fun _ _ => rfl)]; exact Or.inr ⟨h1, rfl⟩), rfl⟩)
    rw [if_neg h1] at this
    exact this
  have hlenE : ∀ len, x = nI len → t + 1 + len ≤ pm_lim c (pm_at c) → ∀ T, pm_len K R T c f (t + 1) x = pm_body K R T c f (t + 1) len := by
    intro len e hle T
    unfold pm_len
    rw [e, nI_clamp (by omega), if_neg (fun z => z.elim (fun z => nI_pos (by omega) z) (fun z => by omega))]
  have hfr0 : ∀ c', (∀ T B', t + 1 ≤ T → (∀ i, i < t + 1 → B' i = B1 i) → g B' T = (0, c')) → cr_from K R y L (t + 1) B1 (fun _ _ => (0, c')) := by
    intro c' h
    refine cr_on hfrom hB (fun T B' hT hB' r hr' => ?_)
    rw [h T B' hT hB']; exact hr'
  -- a body to come
  have hmid : ∀ len vc vo va, x = nI len → 1 ≤ len → t + 1 + len ≤ pm_lim c (pm_at c) → (f ≠ 0 → K (pm_fj c f) = 4 ∧ pm_pl R (pm_d c) (pm_nd c) f ≠ 48) → cr_XD K s a_nodeCount a_nodeTypes vc vo va (cr_D R c 4 f (t + 1) len) → xr_O 1 s a_valueCount vc → xr_O 48 s a_valueOwners vo → xr_O 48 s a_values va →
      wX_readByte_212 post (nI s) 0 f_frameAt f_frameLength f_frameSort f_frameFlags f_frameStream f_down f_entryCount f_most f_typeSeen f_lastSender f_sentLength a_payload a_life a_theyEnded a_weEnded a_finishing a_codes a_windowIn a_windowOut a_headers a_headerCount a_entries a_kinds a_repeats a_messageCount a_text a_nodeCount a_nodeTypes (vc) (vo) (va) a_skippedCount (xr_bd s (nI len) rd2) a_chainNode a_chainEnd a_queue a_queueLength a_sent a_nodeSize a_nodePlace := by
    intro len vc vo va e h1 hle hf4 hX o1 o2 o3
    have k := xr_bd_k s (nI len) rd2
    refine xt_mid (B := B1) (y := y) (dep := dep) (c := c) (h := 4) (f := f) (q := t + 1) (d := 0) (w := len) (mc0 := a_messageCount) (rd0 := rd0) hs hL I (by omega) (fun z => ⟨z, hf15, Or.inr (Or.inr (Or.inr (Or.inr ⟨rfl, by omega, by omega, hle, hr, by omega, hf4⟩)))⟩) hte (fun z => absurd z (by omega)) (Or.inl (by omega)) (by omega) (by omega) (fun z => absurd hr z) ⟨?_, ?_, fun z => absurd z (by omega), fun z => absurd z (by omega), ?_, ?_, ?_, ?_, ?_, rch⟩ hX hsk ?_ rfl (bd0 _) (fun code s1 => ?_)
    · rw [k, if_neg (by omega), if_neg (by omega)]; exact r2
    · rw [k, if_neg (by omega), if_pos rfl]; rfl
    · intro _
      rw [k, if_pos rfl]
      exact congrArg nI (by omega)
    · intro _
      rw [k, if_neg (by omega), if_neg (by omega)]; exact r7
    · rw [k, if_neg (by omega), if_neg (by omega)]; exact r8
    · intro _
      rw [k, if_neg (by omega), if_neg (by omega)]; exact r9
    · rw [k, if_neg (by omega), if_neg (by omega)]; exact r10
    · refine cr_on hfrom hB (fun T B' hT hB' r hr' => ?_)
      rw [hg T B' hT hB', hlenE len e hle T]
      exact hr'
    · exact H code a_messageCount a_nodeCount a_nodeTypes vc vo va a_skippedCount _ a_chainNode a_chainEnd ⟨xr_O_r, xr_O_r, xr_O_r, o1, o2, o3, xr_O_r, bdO _, xr_O_r, xr_O_r, rfl⟩ s1
  -- an element that is through
  have hel0 : ∀ c' rd' vc vo va sk', pm_CI K R L dep c' → pm_pos c' = t + 1 → pm_at c' = pm_at c → pm_row c' = 0 → pm_lim c' = pm_lim c → pm_ins c' = pm_ins c → cr_from K R y L (t + 1) B1 (fun _ _ => (0, c')) → cr_XD K s a_nodeCount a_nodeTypes vc vo va (pm_d c') → sk' s = nI (pm_sk c') →
      rd' (11 * s + 2) = nI (t + 1) → rd' (11 * s + 10) = nI (pm_at c) → rd' (11 * s) = rd0 (11 * s) → xr_O 11 s rd0 rd' → xr_O 1 s a_valueCount vc → xr_O 48 s a_valueOwners vo → xr_O 48 s a_values va → xr_O 1 s a_skippedCount sk' →
      wX_readByte_212 post (nI s) 0 f_frameAt f_frameLength f_frameSort f_frameFlags f_frameStream f_down f_entryCount f_most f_typeSeen f_lastSender f_sentLength a_payload a_life a_theyEnded a_weEnded a_finishing a_codes a_windowIn a_windowOut a_headers a_headerCount a_entries a_kinds a_repeats a_messageCount a_text a_nodeCount a_nodeTypes (vc) (vo) (va) (sk') (xr_bE s rd') a_chainNode a_chainEnd a_queue a_queueLength a_sent a_nodeSize a_nodePlace := by
    intro c' rd' vc vo va sk' i1 i2 i3 i4 i6 i7 hfr hX hs' q2 q10 q0 qO o1 o2 o3 o4
    have hF := xb_fresh (t := t + 1) (rd := rd') (cn := a_chainNode) (ce := a_chainEnd) (s := s) (c := c) (c' := c') i3 i6 i7 q2 q10 rch
    refine xt_el (c := c') (mc0 := a_messageCount) (rd0 := rd0) hs hL i1 i4 i2 hF hX hs' hfr rfl (by rw [xb_0]; exact q0) (fun mc' rd'' s1 s2 s3 => ?_)
    exact H 0 mc' a_nodeCount a_nodeTypes vc vo va sk' rd'' a_chainNode a_chainEnd ⟨s2, xr_O_r, xr_O_r, o1, o2, o3, o4, xr_O_t (bEO _ qO) s3, xr_O_r, xr_O_r, rfl⟩ s1
  have bd2 : ∀ z, xr_bd s z rd2 (11 * s + 2) = nI (t + 1) := fun z => by rw [xr_bd_k, if_neg (by omega), if_neg (by omega)]; exact r2
  have bd10 : ∀ z, xr_bd s z rd2 (11 * s + 10) = nI (pm_at c) := fun z => by rw [xr_bd_k, if_neg (by omega), if_neg (by omega)]; exact r10
  refine xw_len (f := f) (t := t + 1) (x := x) hs I hK hXD hL hr r2 r4 r7 r9 (by omega) (by omega) r10 rch (fun z => ⟨hf15, (hf z).1⟩) (fun z => ?_) (fun z zx => ?_) (fun len z zx z1 zl => ?_) (fun len rd' z zk z48 zx zl q0 qO => ?_) (fun vc vo va z zk z48 zx g1 g2 g3 g4 => ?_) (fun len vc vo va z zk z48 zx z1 zl g1 g2 g3 g4 => ?_) (fun len z zk zx zl => ?_) (fun z zk zx => ?_) (fun len z zk zx z1 zl => ?_)
  · refine herr 4 rd2 (by omega) (by omega) (fun T B' hT hB' => ?_) r0 rO
    rw [hg T B' hT hB']; unfold pm_len; rw [if_pos z]
  · -- nothing, skipped
    obtain ⟨c', hc'⟩ : ∃ c', pm_fin R c 0 (t + 1) 0 0 = (0, c') := by
      unfold pm_fin; rw [if_pos rfl]; exact ⟨_, rfl⟩
    obtain ⟨i1, i2, i3, i4, i5, i6, i7, i8, i9, i10⟩ := xb_fin (sk0 := a_skippedCount) (s := s) (f := 0) (st := 0) (v := 0) I hte (Or.inl rfl) hc' hsk (by omega)
    obtain ⟨k1, k2⟩ := i9 rfl
    refine hel0 c' (xr_bd s 0 rd2) a_valueCount a_valueOwners a_values _ i1 i2 i3 (by omega) i6 i7 (hfr0 c' (fun T B' hT hB' => ?_)) (by rw [k1]; exact hXD) k2 (bd2 _) (bd10 _) (bd0 _) (bdO _) xr_O_r xr_O_r xr_O_r xr_O_1
    rw [hg T B' hT hB', hlenE 0 zx (by omega) T]
    unfold pm_body
    rw [if_pos z, if_neg (by omega)]
    exact hc'
  · refine hmid len a_valueCount a_valueOwners a_values zx z1 zl (fun w => absurd z w) ?_ xr_O_r xr_O_r xr_O_r
    unfold cr_D; rw [if_neg (fun w => w.2 z)]; exact hXD
  · refine herr 5 rd' (by omega) (by omega) (fun T B' hT hB' => ?_) (q0.trans r0) (xr_O_t rO qO)
    rw [hg T B' hT hB', hlenE len zx zl T]
    unfold pm_body
    rw [if_neg z, if_pos zk, if_pos z48]
  · -- no bytes
    have hfok : pm_fok K L c f (nI 0) (t + 1) := Or.inr ⟨by omega, hf15, by omega, by omega, fun _ => ⟨0, rfl, by omega⟩⟩
    obtain ⟨c', hc'⟩ : ∃ c', pm_fin R c f (t + 1) (nI 0) (t + 1) = (0, c') := by
      unfold pm_fin; rw [if_neg z, if_neg z48]; exact ⟨_, rfl⟩
    obtain ⟨i1, i2, i3, i4, i5, i6, i7, i8, i9, i10⟩ := xb_fin (sk0 := a_skippedCount) (s := s) I hte hfok hc' hsk (by omega)
    obtain ⟨k1, k2⟩ := i10 z
    refine hel0 c' (xr_bd s 0 rd2) vc vo va a_skippedCount i1 i2 i3 (by omega) i6 i7 (hfr0 c' (fun T B' hT hB' => ?_)) (by rw [k1]; exact g1) k2 (bd2 _) (bd10 _) (bd0 _) (bdO _) g2 g3 g4 xr_O_r
    rw [hg T B' hT hB', hlenE 0 zx (by omega) T]
    unfold pm_body
    rw [if_neg z, if_pos zk, if_neg z48, if_neg (by omega)]
    exact hc'
  · refine hmid len vc vo va zx z1 zl (fun _ => ⟨zk, z48⟩) ?_ g2 g3 g4
    unfold cr_D; rw [if_pos ⟨rfl, z⟩]; exact g1
  · -- a part
    have hbody : ∀ T B', t + 1 ≤ T → (∀ i, i < t + 1 → B' i = B1 i) → g B' T = pm_part R c f (K (pm_fj c f) - 5) (t + 1) len := by
      intro T B' hT hB'
      rw [hg T B' hT hB', hlenE len zx zl T]
      unfold pm_body
      rw [if_neg z, if_neg (by omega), if_pos zk]
    refine xw_part (f := f) (ty := K (pm_fj c f) - 5) (t := t + 1) (len := len) hs I hK hXD r2 (by rw [r7, if_neg z]) r10 rch (by omega) hf15 zk (fun h5 => ?_) (fun c' nc nt vc vo va cn ce h0 e1 e2 e3 e4 g1 o1 o2 o3 o4 o5 o6 o7 o8 hch => ?_)
    · exact herr 5 rd2 (by omega) (by omega) (fun T B' hT hB' => by rw [hbody T B' hT hB', h5]) r0 rO
    · obtain ⟨dep', i1, _, _⟩ := pm_body_I (T := t + 1) (f := f) (q := t + 1) (len := len) (c' := c') I hr hK.1 (by omega) zl (Nat.le_refl _) hL (Or.inr ⟨by omega, hf15, (hf z).1, (hf z).2⟩) (by
        unfold pm_body
        rw [if_neg z, if_neg (by omega), if_pos zk]; exact h0)
      have uO : xr_O 11 s rd0 (upd rd2 (11 * s + 10) (nI (pm_at c'))) := xr_O_t rO (xr_O_u (by omega))
      have hF : xr_fresh s (t + 1) c' (xr_bE s (upd rd2 (11 * s + 10) (nI (pm_at c')))) cn ce :=
        xb_fresh (c := c') rfl rfl rfl (by rw [xr_u, if_neg (by omega)]; exact r2) (by rw [xr_u, if_pos rfl]) hch
      refine xt_el (c := c') (mc0 := a_messageCount) (rd0 := rd0) hs hL i1 e2 e3 hF g1 (by rw [e4]; exact hsk) (hfr0 c' (fun T B' hT hB' => by rw [hbody T B' hT hB', h0])) rfl (by rw [xb_0, xb_u0 (by omega)]; exact r0) (fun mc' rd'' s1 s2 s3 => ?_)
      exact H 0 mc' nc nt vc vo va a_skippedCount rd'' cn ce ⟨s2, o1, o2, o3, o4, o5, xr_O_r, xr_O_t (bEO _ uO) s3, o6, o7, o8⟩ s1
  · -- an empty row
    have hbody : ∀ T B', t + 1 ≤ T → (∀ i, i < t + 1 → B' i = B1 i) → g B' T = (0, (t + 1, pm_at c, t + 1 + 0, f, pm_sk c, pm_lim c, pm_ins c, pm_d c)) := by
      intro T B' hT hB'
      rw [hg T B' hT hB', hlenE 0 zx (by omega) T]
      unfold pm_body
      rw [if_neg z, if_neg (by omega), if_neg (by omega)]
    have hk1 := (hf z).1
    have I2 := pm_CI_row (q := t + 1) (len := 0) (f := f) I hr (by omega) (by omega) hf15 (by omega) zk ((hf z).2 zk) (by omega)
    have I3 := pm_CI_row0 I2 (by show t + 1 + 0 ≠ 0; omega) (by show t + 1 = t + 1 + 0; omega)
    have hfr : cr_from K R y L (t + 1) B1 (fun _ _ => (0, pm_row0 (t + 1, pm_at c, t + 1 + 0, f, pm_sk c, pm_lim c, pm_ins c, pm_d c))) := by
      intro T B' hT hB' r hr'
      have hw : pm_Rd B' K R T (pm_row0 (t + 1, pm_at c, t + 1 + 0, f, pm_sk c, pm_lim c, pm_ins c, pm_d c)) r := by
        rcases hr' with ⟨_, w⟩ | ⟨w, _⟩
        · exact w
        · exact absurd rfl w
      exact hfr0 _ hbody T B' hT hB' r (Or.inl ⟨rfl, pm_rd_row (by show t + 1 + 0 ≠ 0; omega) (by show t + 1 = t + 1 + 0; omega) hw⟩)
    refine hel0 _ (xr_rw s (if K (pm_fj c f) = 3 then 3 else 2) (nI (t + 1)) rd2) a_valueCount a_valueOwners a_values a_skippedCount I3 rfl rfl rfl rfl rfl hfr hXD hsk ?_ ?_ ?_ ?_ xr_O_r xr_O_r xr_O_r xr_O_r
    · rw [xr_rw_k, if_neg (by omega), if_neg (by omega), if_neg (by omega), if_neg (by omega)]; exact r2
    · rw [xr_rw_k, if_neg (by omega), if_neg (by omega), if_neg (by omega), if_neg (by omega)]; exact r10
    · refine (xr_rw_k s _ _ rd2 0).trans ?_
      rw [if_neg (by omega), if_neg (by omega), if_neg (by omega), if_neg (by omega)]; exact r0
    · refine xr_O_t rO (fun j hj => ?_)
      unfold xr_rw
      rw [xr_o (by omega) hj, xr_o (by omega) hj, xr_bN_o hj]
  · -- a row
    have hbody : ∀ T B', t + 1 ≤ T → (∀ i, i < t + 1 → B' i = B1 i) → g B' T = (0, (t + 1, pm_at c, t + 1 + len, f, pm_sk c, pm_lim c, pm_ins c, pm_d c)) := by
      intro T B' hT hB'
      rw [hg T B' hT hB', hlenE len zx zl T]
      unfold pm_body
      rw [if_neg z, if_neg (by omega), if_neg (by omega)]
    have hk1 := (hf z).1
    have I2 := pm_CI_row (q := t + 1) (len := len) (f := f) I hr zl (by omega) hf15 (by omega) zk ((hf z).2 zk) (by omega)
    have k := xr_rw_k s (if K (pm_fj c f) = 3 then 3 else 2) (nI (t + 1 + len)) rd2
    have qO : xr_O 11 s rd0 (xr_rw s (if K (pm_fj c f) = 3 then 3 else 2) (nI (t + 1 + len)) rd2) := by
      refine xr_O_t rO (fun j hj => ?_)
      unfold xr_rw
      rw [xr_o (by omega) hj, xr_o (by omega) hj, xr_bN_o hj]
    refine xt_row (c := (t + 1, pm_at c, t + 1 + len, f, pm_sk c, pm_lim c, pm_ins c, pm_d c)) (mc0 := a_messageCount) (rd0 := rd0) hs hL I2 (by show t + 1 + len ≠ 0; omega) rfl ?_ ?_ ?_ ?_ ?_ ?_ ?_ ?_ rch hXD hsk (hfr0 _ hbody) rfl ?_ (fun mc' rd'' s1 s2 s3 => ?_)
    · rw [k, if_neg (by omega), if_neg (by omega), if_neg (by omega), if_neg (by omega)]; exact r2
    · rw [k, if_neg (by omega), if_neg (by omega), if_neg (by omega), if_pos rfl]
      show (if K (pm_fj c f) = 3 then (3 : Int32) else 2) = nI (if K (pm_fj c f) = 3 then 3 else 2)
      split <;> rfl
    · rw [k, if_neg (by omega), if_neg (by omega), if_pos (by omega)]
    · rw [k, if_neg (by omega), if_neg (by omega), if_pos (by omega)]
    · intro _
      rw [k, if_neg (by omega), if_pos rfl]; rfl
    · rw [k, if_neg (by omega), if_neg (by omega), if_neg (by omega), if_neg (by omega), r7, if_neg z]; rfl
    · rw [k, if_pos rfl]
    · rw [k, if_neg (by omega), if_neg (by omega), if_neg (by omega), if_neg (by omega)]; exact r10
    · refine (k 0).trans ?_
      rw [if_neg (by omega), if_neg (by omega), if_neg (by omega), if_neg (by omega)]; exact r0
    · exact H 0 mc' a_nodeCount a_nodeTypes a_valueCount a_valueOwners a_values a_skippedCount rd'' a_chainNode a_chainEnd ⟨s2, xr_O_r, xr_O_r, xr_O_r, xr_O_r, xr_O_r, xr_O_r, xr_O_t qO s3, xr_O_r, xr_O_r, rfl⟩ s1
end
end
section
/-! S10: a byte of a message -/
section
variable {f_frameAt f_frameLength f_frameSort f_frameFlags f_frameStream f_down f_entryCount f_most f_typeSeen f_lastSender f_sentLength : Int32} {a_payload a_life a_theyEnded a_weEnded a_finishing a_codes a_windowIn a_windowOut a_headers a_headerCount a_entries a_kinds a_repeats a_messageCount a_text a_nodeCount a_nodeTypes a_valueCount a_valueOwners a_values a_skippedCount a_reader a_chainNode a_chainEnd a_queue a_queueLength a_sent a_nodeSize a_nodePlace : Nat → Int32} {B B1 : Nat → Nat} {K : Nat → Nat} {R : Nat → Bool} {L t y b s : Nat} {tx : Nat → Nat}
theorem xb_byte {post : Int32 → SX → Prop} (hs : s < 8) (hL : L ≤ 200) (hK : cr_K a_kinds a_repeats K R) (hb256 : b < 256) (hB : ∀ i, i < t → B1 i = B i) (hb1 : B1 t = b)
    (hinc : cr_inc K R s y L t B a_nodeCount a_nodeTypes a_valueCount a_valueOwners a_values a_skippedCount a_reader a_chainNode a_chainEnd)
    (H : ∀ code mc' nc' nt' vc' vo' va' sk' rd' cn' ce', xr_fr s a_messageCount a_nodeCount a_nodeTypes a_valueCount a_valueOwners a_values a_skippedCount a_reader a_chainNode a_chainEnd mc' nc' nt' vc' vo' va' sk' rd' cn' ce' →
      xr_sp K R s y L (t + 1) B1 a_messageCount a_reader code mc' nc' nt' vc' vo' va' sk' rd' cn' ce' →
      post (if code = 0 then 0 else nI (10 + code)) (f_frameAt, f_frameLength, f_frameSort, f_frameFlags, f_frameStream, f_down, f_entryCount, f_most, f_typeSeen, f_lastSender, f_sentLength, a_payload, a_life, a_theyEnded, a_weEnded, a_finishing, a_codes, a_windowIn, a_windowOut, a_headers, a_headerCount, a_entries, a_kinds, a_repeats, mc', an_f (pm_u tx (200 * s + t) b), nc', nt', vc', vo', va', sk', rd', cn', ce', a_queue, a_queueLength, a_sent, a_nodeSize, a_nodePlace)) :
    wpX_readByte post (f_frameAt, f_frameLength, f_frameSort, f_frameFlags, f_frameStream, f_down, f_entryCount, f_most, f_typeSeen, f_lastSender, f_sentLength, a_payload, a_life, a_theyEnded, a_weEnded, a_finishing, a_codes, a_windowIn, a_windowOut, a_headers, a_headerCount, a_entries, a_kinds, a_repeats, a_messageCount, an_f tx, a_nodeCount, a_nodeTypes, a_valueCount, a_valueOwners, a_values, a_skippedCount, a_reader, a_chainNode, a_chainEnd, a_queue, a_queueLength, a_sent, a_nodeSize, a_nodePlace) (nI s) (nI b) := by
  obtain ⟨dep, c, h, f, q, d, w, htL, I, hph, hreg, hXD, hsk, hfrom⟩ := hinc
  have hph' := hph
  obtain ⟨p1, p2, p3⟩ := hph
  have hreg' := hreg
  obtain ⟨r2, r3, r45, r63, r64, r7, r8, r9, r10, rch⟩ := hreg
  have hel := pm_end_le I
  have i2 := xr_ix (s := s) (k := 2) hs (by omega)
  have i3 := xr_ix (s := s) (k := 3) hs (by omega)
  have i5 := xr_ix (s := s) (k := 5) hs (by omega)
  have i6 := xr_ix (s := s) (k := 6) hs (by omega)
  have c2 : (nI (11 * s) + 2).toNatClampNeg = 11 * s + 2 := i2.2.2
  have c3 : (nI (11 * s) + 3).toNatClampNeg = 11 * s + 3 := i3.2.2
  have c5 : (nI (11 * s) + 5).toNatClampNeg = 11 * s + 5 := i5.2.2
  have c6 : (nI (11 * s) + 6).toNatClampNeg = 11 * s + 6 := i6.2.2
  have et : nI s * 200 + nI t = nI (200 * s + t) := by
    rw [show (200 : Int32) = nI 200 from rfl, pk_mul, nI_add, Nat.mul_comm]
  have hh : h ≤ 4 := by
    rcases p3 with ⟨e, _⟩ | ⟨e, _⟩ | ⟨e, _⟩ | ⟨e, _⟩ | ⟨e, _⟩ <;> omega
  have rd1k : ∀ k, upd a_reader (11 * s + 2) (nI (t + 1)) (11 * s + k) = if k = 2 then nI (t + 1) else a_reader (11 * s + k) := fun k => xr_u
  have rd1O : xr_O 11 s a_reader (upd a_reader (11 * s + 2) (nI (t + 1))) := xr_O_u (by omega)
  unfold wpX_readByte
  dsimp only
  refine nm_r i2.1 ⟨i2.2.1, ?_⟩
  rw [c2, r2, et]
  refine ⟨vp_in_nI (by omega) (by omega), nm_r (e' := an_f (pm_u tx (200 * s + t) b)) (by rw [nI_clamp (by omega), an_fu]) ⟨i2.2.1, i2.2.1, nm_r (e' := upd a_reader (11 * s + 2) (nI (t + 1))) (by rw [nI_1]) ⟨i3.2.1, nm_r (e' := nI h) (by rw [c3, rd1k, if_neg (by omega)]; exact r3) ?_⟩⟩⟩
  generalize hrd1 : upd a_reader (11 * s + 2) (nI (t + 1)) = rd1 at *
  refine pk_eq h 4 (fun e4 => ?_) (fun e4 => ?_)
  · -- a body
    subst e4
    have hq : t < q + w := by
      rcases p3 with ⟨e, _⟩ | ⟨e, _⟩ | ⟨e, _⟩ | ⟨e, _⟩ | ⟨e, a1, a2, _⟩ <;> omega
    have hr0 : pm_row c = 0 := by
      rcases p3 with ⟨e, _⟩ | ⟨e, _⟩ | ⟨e, _⟩ | ⟨e, _⟩ | ⟨e, a1, a2, a3, a4, _⟩
      · omega
      · omega
      · omega
      · omega
      · exact a4
    have e6 : rd1 (11 * s + 6) = nI (q + w - (t + 1) + 1) := by
      rw [rd1k, if_neg (by omega), r64 rfl]; exact congrArg nI (by omega)
    refine ⟨i6.2.1, i6.2.1, nm_r (e' := upd rd1 (11 * s + 6) (nI (q + w - (t + 1)))) (by rw [c6, e6, nI_pred]) ⟨i6.2.1, ?_⟩⟩
    rw [c6, xr_u, if_pos rfl]
    have kk : ∀ k, k ≠ 6 → k ≠ 2 → upd rd1 (11 * s + 6) (nI (q + w - (t + 1))) (11 * s + k) = a_reader (11 * s + k) := by
      intro k n6 n2
      rw [xr_u, if_neg n6, rd1k, if_neg n2]
    have hbody := xb_body (B := B) (B1 := B1) (y := y) (d := d) (rd0 := a_reader) (a_text := an_f (pm_u tx (200 * s + t) b)) (rd2 := upd rd1 (11 * s + 6) (nI (q + w - (t + 1)))) (post := post) hs hL htL I hph' (by rw [xr_u, if_neg (by omega), rd1k, if_pos rfl]) (by rw [kk 3 (by omega) (by omega)]; exact r3) (by rw [xr_u, if_pos rfl]) (by rw [kk 7 (by omega) (by omega)]; exact r7 (by omega)) (by rw [kk 8 (by omega) (by omega)]; exact r8) (by rw [kk 9 (by omega) (by omega)]; exact r9 hr0) (by rw [kk 10 (by omega) (by omega)]; exact r10)
      (by have := kk 0 (by omega) (by omega); exact this) (xr_O_t rd1O (xr_O_u (by omega))) rch hXD hsk hfrom hB H
    have hqw : q + w ≤ 200 := by
      have hll := pm_lim_le I (pm_at c) (Nat.le_refl _)
      rcases p3 with ⟨e, _⟩ | ⟨e, _⟩ | ⟨e, _⟩ | ⟨e, _⟩ | ⟨e, a1, a2, a3, _⟩
      · omega
      · omega
      · omega
      · omega
      · exact Nat.le_trans a3 (Nat.le_trans hll hL)
    refine pk_eq (q + w - (t + 1)) 0 (fun z => hbody.1 (by omega)) (fun z => hbody.2 (by omega))
  have r45' := r45 (by omega)
  have hXD0 : cr_XD K s a_nodeCount a_nodeTypes a_valueCount a_valueOwners a_values (pm_d c) := by
    unfold cr_D at hXD; rw [if_neg (fun z => e4 z.1)] at hXD; exact hXD
  -- a digit more, and nothing ends
  have hmid : ∀ x, cr_sum B1 c h q (d + 1) = x → d + 1 ≤ 10 → (t + 1 < pm_end c → cr_ph K R (t + 1) c h f q (d + 1) w) → (t + 1 = pm_end c → pm_go B1 K R (t + 1) c h f q (d + 1) w = (4, c)) →
      (∀ T B', t + 1 ≤ T → (∀ i, i < t + 1 → B' i = B1 i) → pm_go B' K R T c h f q d w = pm_go B' K R T c h f q (d + 1) w) →
      wX_readByte_212 post (nI s) 0 f_frameAt f_frameLength f_frameSort f_frameFlags f_frameStream f_down f_entryCount f_most f_typeSeen f_lastSender f_sentLength a_payload a_life a_theyEnded a_weEnded a_finishing a_codes a_windowIn a_windowOut a_headers a_headerCount a_entries a_kinds a_repeats a_messageCount (an_f (pm_u tx (200 * s + t) b)) a_nodeCount a_nodeTypes a_valueCount a_valueOwners a_values a_skippedCount (xr_aD s x d rd1) a_chainNode a_chainEnd a_queue a_queueLength a_sent a_nodeSize a_nodePlace := by
    intro x hx hd hp h4 hgo
    have k := xr_aD_k s x d rd1
    have kk : ∀ j, j ≠ 5 → j ≠ 4 → j ≠ 2 → xr_aD s x d rd1 (11 * s + j) = a_reader (11 * s + j) := by
      intro j n5 n4 n2
      rw [k, if_neg n5, if_neg n4, rd1k, if_neg n2]
    refine xt_mid (B := B1) (y := y) (dep := dep) (c := c) (h := h) (f := f) (q := q) (d := d + 1) (w := w) (mc0 := a_messageCount) (rd0 := a_reader) hs hL I (by omega) hp (by omega) h4 (Or.inr (by omega)) hh hd (fun _ => ⟨by omega, by omega⟩) ⟨?_, ?_, fun _ => ⟨?_, ?_⟩, fun e => ?_, fun e => absurd e e4, fun e => ?_, ?_, fun e => ?_, ?_, rch⟩ ?_ hsk ?_ rfl ?_ (fun code s1 => ?_)
    · rw [k, if_neg (by omega), if_neg (by omega), rd1k, if_pos rfl]
    · rw [kk 3 (by omega) (by omega) (by omega)]; exact r3
    · rw [k, if_neg (by omega), if_pos rfl]; exact hx.symm
    · rw [k, if_pos rfl]
    · rw [kk 6 (by omega) (by omega) (by omega)]; exact r63 e
    · rw [kk 7 (by omega) (by omega) (by omega)]; exact r7 e
    · rw [kk 8 (by omega) (by omega) (by omega)]; exact r8
    · rw [kk 9 (by omega) (by omega) (by omega)]; exact r9 e
    · rw [kk 10 (by omega) (by omega) (by omega)]; exact r10
    · exact hXD
    · refine cr_on hfrom hB (fun T B' hT hB' r hr' => ?_)
      show pm_Rp B' K R T (pm_go B' K R T c h f q d w) r
      rw [hgo T B' hT hB']; exact hr'
    · exact kk 0 (by omega) (by omega) (by omega)
    · exact H code a_messageCount a_nodeCount a_nodeTypes a_valueCount a_valueOwners a_values a_skippedCount _ a_chainNode a_chainEnd ⟨xr_O_r, xr_O_r, xr_O_r, xr_O_r, xr_O_r, xr_O_r, xr_O_r, xr_O_t rd1O (fun j hj => xr_aD_o hj), xr_O_r, xr_O_r, rfl⟩ s1
  have rd15 : rd1 (11 * s + 5) = nI d := by rw [rd1k, if_neg (by omega)]; exact r45'.2
  have rd14 : rd1 (11 * s + 4) = cr_sum B c h q d := by rw [rd1k, if_neg (by omega)]; exact r45'.1
  refine pk_eq h 3 (fun e3 => ?_) (fun e3 => ?_)
  · subst e3
    have hp3 : t = q + d ∧ d < w ∧ w ≤ 8 ∧ pm_pos c ≤ q ∧ (f ≠ 0 → w = 4 ∧ K (pm_fj c f) = 3) ∧ (pm_row c ≠ 0 → f = pm_fld c) := by
      rcases p3 with ⟨e, _⟩ | ⟨e, _⟩ | ⟨e, _⟩ | ⟨e, a⟩ | ⟨e, _⟩
      · omega
      · omega
      · omega
      · exact a
      · omega
    obtain ⟨t1, t2, t3, t4, t5, t6⟩ := hp3
    have esum : cr_sum B c 3 q d = pm_fs B1 q d := by
      unfold cr_sum
      rw [if_neg (by omega), if_pos rfl]
      exact (pm_fs_g d (fun i hi => hB _ (by omega))).symm
    refine xw_aD (b := 8) (w := b) (x := cr_sum B c 3 q d) (y := pm_fs B1 q (d + 1)) hs rd15 (by omega) (by omega) rd14 ?_ ?_
    · rw [esum, pm_fs]
      have hbb : B1 (q + d) = b := by rw [← t1]; exact hb1
      rw [hbb]
      by_cases z : d < 4
      · rw [if_pos z, if_pos (by omega)]; rfl
      · rw [if_neg z, if_neg (by omega)]
    have k := xr_aD_k s (pm_fs B1 q (d + 1)) d rd1
    have kk : ∀ j, j ≠ 5 → j ≠ 4 → j ≠ 2 → xr_aD s (pm_fs B1 q (d + 1)) d rd1 (11 * s + j) = a_reader (11 * s + j) := by
      intro j n5 n4 n2
      rw [k, if_neg n5, if_neg n4, rd1k, if_neg n2]
    dsimp only
    rw [c5, c6, k, if_pos rfl, kk 6 (by omega) (by omega) (by omega), r63 rfl]
    refine ⟨i5.2.1, i6.2.1, pk_eq (d + 1) w (fun z => ?_) (fun z => ?_)⟩
    · refine xb_num (B := B) (B1 := B1) (y := y) (h := 3) (f := f) (x := pm_fs B1 q (d + 1)) (rd0 := a_reader) (rd2 := xr_aD s (pm_fs B1 q (d + 1)) d rd1) (g := fun B' T => pm_go B' K R T c 3 f q d w) hs hL I hK (fun g => ⟨p2, by have := (t5 g).2; omega, by have := (t5 g).2; omega⟩) (fun g => ⟨t6 g, ?_⟩) ?_ ?_ ?_ (fun g0 _ => ?_) ?_ ?_ (fun g => ?_) ?_ ?_ (xr_O_t rd1O (fun j hj => xr_aD_o hj)) rch hXD0 hsk (by omega) (by omega) hfrom hB (fun T B' hT hB' => ?_) H
      · have hf0 : f ≠ 0 := by
          have h1 := t6 g
          have h2 := (I.2.2.2.2.2.2.2 g).2.1
          omega
        rw [if_pos (t5 hf0).2]
      · rw [k, if_neg (by omega), if_neg (by omega), rd1k, if_pos rfl]
      · rw [kk 3 (by omega) (by omega) (by omega)]; exact r3
      · rw [k, if_neg (by omega), if_pos rfl]
      · rw [kk 6 (by omega) (by omega) (by omega), r63 rfl]
        rw [(t5 g0).1]
      · rw [kk 7 (by omega) (by omega) (by omega)]; exact r7 (by omega)
      · rw [kk 8 (by omega) (by omega) (by omega)]; exact r8
      · rw [kk 9 (by omega) (by omega) (by omega)]; exact r9 g
      · rw [kk 10 (by omega) (by omega) (by omega)]; exact r10
      · exact kk 0 (by omega) (by omega) (by omega)
      · show pm_go B' K R T c 3 f q d w = _
        have e : pm_go B' K R T c 3 f q d w = pm_goF B' R T c f q w := rfl
        rw [e, pm_goF_d (by omega) (by omega), show q + w = t + 1 by omega]
        by_cases g0 : f = 0
        · unfold pm_fin; rw [if_pos g0, if_pos g0]
        · obtain ⟨w4, k3⟩ := t5 g0
          unfold pm_val
          rw [if_neg (by omega), show d + 1 = 4 by omega, pm_fs_g (B' := B') (B := B1) 4 (fun i hi => hB' _ (by omega))]
    · refine hmid _ ?_ (by omega) (fun g => ⟨g, p2, Or.inr (Or.inr (Or.inr (Or.inl ⟨rfl, by omega, by omega, t3, t4, t5, t6⟩)))⟩) (fun g => ?_) (fun T B' _ _ => rfl)
      · unfold cr_sum; rw [if_neg (by omega), if_pos rfl]
      · exact pm_goF_e (by omega) (by omega)
  · have hh2 : h ≤ 2 := by omega
    -- where the digits begin
    have hst : ∃ st, t = st + d ∧ d < 10 ∧ (h = 0 → st = pm_pos c) ∧ (h ≠ 0 → st = q) := by
      rcases p3 with ⟨e, a1, a2, _⟩ | ⟨e, a1, a2, _⟩ | ⟨e, a1, a2, _⟩ | ⟨e, _⟩ | ⟨e, _⟩
      · exact ⟨pm_pos c, a1, a2, fun _ => rfl, fun z => absurd e z⟩
      · exact ⟨q, a1, a2, fun z => by omega, fun _ => rfl⟩
      · exact ⟨q, a1, a2, fun z => by omega, fun _ => rfl⟩
      · omega
      · omega
    obtain ⟨st, t1, t2, t3, t4⟩ := hst
    have hsum : ∀ (BB : Nat → Nat) k, cr_sum BB c h q k = pm_vs BB st k := by
      intro BB k
      unfold cr_sum
      by_cases z : h = 0
      · rw [if_pos z, t3 z]
      · rw [if_neg z, if_neg e3, t4 z]
    have esum : cr_sum B c h q d = pm_vs B1 st d := by
      rw [hsum]
      exact (pm_vs_g d (fun i hi => hB _ (by omega))).symm
    have e127 : nI b &&& 127 = nI (b % 128) := pk_andN (by omega) 7 (by decide)
    rw [e127]
    refine xw_aD (b := 7) (w := b % 128) (x := cr_sum B c h q d) (y := pm_vs B1 st (d + 1)) hs rd15 t2 (by omega) rd14 ?_ ?_
    · rw [esum, pm_vs]
      have hbb : B1 (st + d) = b := by rw [← t1]; exact hb1
      rw [hbb, e127]
      by_cases z : d < 5
      · rw [if_pos z, if_pos (by omega)]; rfl
      · rw [if_neg z, if_neg (by omega)]
    have k := xr_aD_k s (pm_vs B1 st (d + 1)) d rd1
    have kk : ∀ j, j ≠ 5 → j ≠ 4 → j ≠ 2 → xr_aD s (pm_vs B1 st (d + 1)) d rd1 (11 * s + j) = a_reader (11 * s + j) := by
      intro j n5 n4 n2
      rw [k, if_neg n5, if_neg n4, rd1k, if_neg n2]
    have q2 : xr_aD s (pm_vs B1 st (d + 1)) d rd1 (11 * s + 2) = nI (t + 1) := by
      rw [k, if_neg (by omega), if_neg (by omega), rd1k, if_pos rfl]
    have q4 : xr_aD s (pm_vs B1 st (d + 1)) d rd1 (11 * s + 4) = pm_vs B1 st (d + 1) := by
      rw [k, if_neg (by omega), if_pos rfl]
    have q8 : xr_aD s (pm_vs B1 st (d + 1)) d rd1 (11 * s + 8) = nI (pm_row c) := by
      rw [kk 8 (by omega) (by omega) (by omega)]; exact r8
    have q10 : xr_aD s (pm_vs B1 st (d + 1)) d rd1 (11 * s + 10) = nI (pm_at c) := by
      rw [kk 10 (by omega) (by omega) (by omega)]; exact r10
    have q0 : xr_aD s (pm_vs B1 st (d + 1)) d rd1 (11 * s) = a_reader (11 * s) := kk 0 (by omega) (by omega) (by omega)
    have qO : xr_O 11 s a_reader (xr_aD s (pm_vs B1 st (d + 1)) d rd1) := xr_O_t rd1O (fun j hj => xr_aD_o hj)
    dsimp only
    refine pk_le b 127 (fun z => ?_) (fun z => ?_)
    · refine pk_eq h 0 (fun eh => ?_) (fun eh => ?_)
      · subst eh
        have hr0 : pm_row c = 0 := by
          rcases p3 with ⟨e, a1, a2, a3⟩ | ⟨e, _⟩ | ⟨e, _⟩ | ⟨e, _⟩ | ⟨e, _⟩
          · exact a3
          · omega
          · omega
          · omega
          · omega
        have est := t3 rfl
        exact xb_tag (B := B) (B1 := B1) (y := y) (d := d) (rd0 := a_reader) hs hL I hK hr0 (by omega) (by omega) t2 (by omega) q2 q4 (by rw [est]) q8 (by rw [kk 9 (by omega) (by omega) (by omega)]; exact r9 hr0) q10 q0 qO rch hXD0 hsk hfrom hB H
      · refine pk_eq h 1 (fun eh1 => ?_) (fun eh1 => ?_)
        · subst eh1
          have hp1 : pm_row c = 0 ∧ pm_pos c < q ∧ (f ≠ 0 → K (pm_fj c f) ≠ 0 ∧ (K (pm_fj c f) ≤ 3 → R (pm_fj c f) = true)) := by
            rcases p3 with ⟨e, _⟩ | ⟨e, a1, a2, a3, a4, a5⟩ | ⟨e, _⟩ | ⟨e, _⟩ | ⟨e, _⟩
            · omega
            · exact ⟨a3, a4, a5⟩
            · omega
            · omega
            · omega
          obtain ⟨hr0, h5, h6⟩ := hp1
          have est := t4 (by omega)
          have he : pm_end c = pm_lim c (pm_at c) := by unfold pm_end; exact if_pos hr0
          refine xb_len (B := B) (B1 := B1) (y := y) (f := f) (rd0 := a_reader) (g := fun B' T => pm_go B' K R T c 1 f q d w) hs hL I hK hr0 (by omega) (by omega) p2 h6 q2 q4 (by rw [kk 7 (by omega) (by omega) (by omega)]; exact r7 (by omega)) q8 (by rw [kk 9 (by omega) (by omega) (by omega)]; exact r9 hr0) q10 q0 qO rch hXD0 hsk hfrom hB (fun T B' hT hB' => ?_) H
          show pm_go B' K R T c 1 f q d w = _
          have e : pm_go B' K R T c 1 f q d w = pm_goL B' K R T c f q d := rfl
          have hbt : B' (q + d) < 128 := by
            rw [hB' _ (by omega), show q + d = t by omega, hb1]; omega
          rw [e, pm_goL_d t2 (by omega) (by omega) hbt, est, pm_vs_g (B' := B') (B := B1) (d + 1) (fun i hi => hB' _ (by omega)), show q + (d + 1) = t + 1 by omega]
        · have eh2 : h = 2 := by omega
          subst eh2
          have hp2 : pm_pos c ≤ q ∧ (f ≠ 0 → 1 ≤ K (pm_fj c f) ∧ K (pm_fj c f) ≤ 2) ∧ (pm_row c ≠ 0 → f = pm_fld c) := by
            rcases p3 with ⟨e, _⟩ | ⟨e, _⟩ | ⟨e, a1, a2, a3, a4, a5⟩ | ⟨e, _⟩ | ⟨e, _⟩
            · omega
            · omega
            · exact ⟨a3, a4, a5⟩
            · omega
            · omega
          obtain ⟨h4, h5, h6⟩ := hp2
          have est := t4 (by omega)
          refine xb_num (B := B) (B1 := B1) (y := y) (h := 2) (f := f) (rd0 := a_reader) (g := fun B' T => pm_go B' K R T c 2 f q d w) hs hL I hK (fun g => ⟨p2, (h5 g).1, by have := (h5 g).2; omega⟩) (fun g => ⟨h6 g, ?_⟩) q2 (by rw [kk 3 (by omega) (by omega) (by omega)]; exact r3) q4 (fun g g3 => ?_) (by rw [kk 7 (by omega) (by omega) (by omega)]; exact r7 (by omega)) q8 (fun g => by rw [kk 9 (by omega) (by omega) (by omega)]; exact r9 g) q10 q0 qO rch hXD0 hsk (by omega) (by omega) hfrom hB (fun T B' hT hB' => ?_) H
          · have hf0 : f ≠ 0 := by
              have h1 := h6 g
              have h2 := (I.2.2.2.2.2.2.2 g).2.1
              omega
            rw [if_neg (by have := (h5 hf0).2; omega)]
          · have := (h5 g).2
            omega
          · show pm_go B' K R T c 2 f q d w = _
            have e : pm_go B' K R T c 2 f q d w = pm_goV B' K R T c f q d := rfl
            have hbt : B' (q + d) < 128 := by
              rw [hB' _ (by omega), show q + d = t by omega, hb1]; omega
            rw [e, pm_goV_d t2 (by omega) (by omega) hbt, est, pm_vs_g (B' := B') (B := B1) (d + 1) (fun i hi => hB' _ (by omega)), show q + (d + 1) = t + 1 by omega]
    · -- a digit that goes on
      have hstep : ∀ T B', t + 1 ≤ T → (∀ i, i < t + 1 → B' i = B1 i) → pm_go B' K R T c h f q d w = pm_go B' K R T c h f q (d + 1) w := by
        intro T B' hT hB'
        have hbt : ¬ B' (st + d) < 128 := by
          rw [hB' _ (by omega), ← t1, hb1]; omega
        rcases (show h = 0 ∨ h = 1 ∨ h = 2 by omega) with e | e | e
        · subst e
          have hr0 : pm_row c = 0 := by
            rcases p3 with ⟨e, a1, a2, a3⟩ | ⟨e, _⟩ | ⟨e, _⟩ | ⟨e, _⟩ | ⟨e, _⟩
            · exact a3
            · omega
            · omega
            · omega
            · omega
          have he : pm_end c = pm_lim c (pm_at c) := by unfold pm_end; exact if_pos hr0
          have est := t3 rfl
          rw [est] at hbt
          exact pm_goT_c t2 (by omega) (by omega) hbt
        · subst e
          have hr0 : pm_row c = 0 := by
            rcases p3 with ⟨e, _⟩ | ⟨e, a1, a2, a3, _⟩ | ⟨e, _⟩ | ⟨e, _⟩ | ⟨e, _⟩
            · omega
            · exact a3
            · omega
            · omega
            · omega
          have he : pm_end c = pm_lim c (pm_at c) := by unfold pm_end; exact if_pos hr0
          have est := t4 (by omega)
          rw [est] at hbt
          exact pm_goL_c t2 (by omega) (by omega) hbt
        · subst e
          have est := t4 (by omega)
          rw [est] at hbt
          exact pm_goV_c t2 (by omega) (by omega) hbt
      rw [c5, k, if_pos rfl]
      refine ⟨i5.2.1, pk_eq (d + 1) 10 (fun z10 => ?_) (fun z10 => ?_)⟩
      · -- too long
        have h3e : ∀ T B', t + 1 ≤ T → (∀ i, i < t + 1 → B' i = B1 i) → pm_go B' K R T c h f q d w = (3, c) := by
          intro T B' hT hB'
          rw [hstep T B' hT hB', z10]
          rcases (show h = 0 ∨ h = 1 ∨ h = 2 by omega) with e | e | e
          · subst e; rfl
          · subst e; rfl
          · subst e; rfl
        unfold wX_readByte_169 wX_readByte_212
        refine br_f (by decide) (H 3 a_messageCount a_nodeCount a_nodeTypes a_valueCount a_valueOwners a_values a_skippedCount _ a_chainNode a_chainEnd ⟨xr_O_r, xr_O_r, xr_O_r, xr_O_r, xr_O_r, xr_O_r, xr_O_r, qO, xr_O_r, xr_O_r, rfl⟩ (Or.inl ⟨by omega, by omega, rfl, q0, (3, c), hfrom (t + 1) B1 (by omega) hB _ ?_, rfl⟩))
        show pm_Rp B1 K R (t + 1) (pm_go B1 K R (t + 1) c h f q d w) (3, c)
        rw [h3e (t + 1) B1 (Nat.le_refl _) (fun _ _ => rfl)]
        exact Or.inr ⟨show (3 : Nat) ≠ 0 by omega, rfl⟩
      · unfold wX_readByte_169
        refine hmid _ (hsum B1 (d + 1)) (by omega) (fun g => ⟨g, p2, ?_⟩) (fun g => ?_) hstep
        · rcases p3 with ⟨e, a1, a2, a3⟩ | ⟨e, a1, a2, a3, a4, a5⟩ | ⟨e, a1, a2, a3, a4, a5⟩ | ⟨e, _⟩ | ⟨e, _⟩
          · exact Or.inl ⟨e, by omega, by omega, a3⟩
          · exact Or.inr (Or.inl ⟨e, by omega, by omega, a3, a4, a5⟩)
          · exact Or.inr (Or.inr (Or.inl ⟨e, by omega, by omega, a3, a4, a5⟩))
          · omega
          · omega
        · rcases p3 with ⟨e, a1, a2, a3⟩ | ⟨e, a1, a2, a3, a4, a5⟩ | ⟨e, a1, a2, a3, a4, a5⟩ | ⟨e, _⟩ | ⟨e, _⟩
          · have he : pm_end c = pm_lim c (pm_at c) := by unfold pm_end; exact if_pos a3
            subst e; exact pm_goT_e (by omega) (by omega)
          · have he : pm_end c = pm_lim c (pm_at c) := by unfold pm_end; exact if_pos a3
            subst e; exact pm_goL_e (by omega) (by omega)
          · subst e; exact pm_goV_e (by omega) (by omega)
          · omega
          · omega
end
end
section
/-! S11: the bytes before a message -/
section
variable {f_frameAt f_frameLength f_frameSort f_frameFlags f_frameStream f_down f_entryCount f_most f_typeSeen f_lastSender f_sentLength : Int32} {a_payload a_life a_theyEnded a_weEnded a_finishing a_codes a_windowIn a_windowOut a_headers a_headerCount a_entries a_kinds a_repeats a_messageCount a_text a_nodeCount a_nodeTypes a_valueCount a_valueOwners a_values a_skippedCount a_reader a_chainNode a_chainEnd a_queue a_queueLength a_sent a_nodeSize a_nodePlace : Nat → Int32} {B : Nat → Nat} {K : Nat → Nat} {R : Nat → Bool} {L y b s x : Nat}
theorem cr_from0 : cr_from K R y L 0 B (fun _ _ => (0, cr_0 y L)) := by
  intro T B' _ _ r hr
  rcases hr with ⟨_, w⟩ | ⟨w, _⟩
  · exact w
  · exact absurd rfl w
theorem xp_1 {post : Int32 → SX → Prop} (hs : s < 8) (hb : b < 256) (h0 : a_reader (11 * s) = nI 0) (H7 : b ≠ 0 → post 7 (f_frameAt, f_frameLength, f_frameSort, f_frameFlags, f_frameStream, f_down, f_entryCount, f_most, f_typeSeen, f_lastSender, f_sentLength, a_payload, a_life, a_theyEnded, a_weEnded, a_finishing, a_codes, a_windowIn, a_windowOut, a_headers, a_headerCount, a_entries, a_kinds, a_repeats, a_messageCount, a_text, a_nodeCount, a_nodeTypes, a_valueCount, a_valueOwners, a_values, a_skippedCount, upd a_reader (11 * s) (nI 1), a_chainNode, a_chainEnd, a_queue, a_queueLength, a_sent, a_nodeSize, a_nodePlace)) (H0 : b = 0 → post 0 (f_frameAt, f_frameLength, f_frameSort, f_frameFlags, f_frameStream, f_down, f_entryCount, f_most, f_typeSeen, f_lastSender, f_sentLength, a_payload, a_life, a_theyEnded, a_weEnded, a_finishing, a_codes, a_windowIn, a_windowOut, a_headers, a_headerCount, a_entries, a_kinds, a_repeats, a_messageCount, a_text, a_nodeCount, a_nodeTypes, a_valueCount, a_valueOwners, a_values, a_skippedCount, upd a_reader (11 * s) (nI 1), a_chainNode, a_chainEnd, a_queue, a_queueLength, a_sent, a_nodeSize, a_nodePlace)) :
    wpX_readPrefix post (f_frameAt, f_frameLength, f_frameSort, f_frameFlags, f_frameStream, f_down, f_entryCount, f_most, f_typeSeen, f_lastSender, f_sentLength, a_payload, a_life, a_theyEnded, a_weEnded, a_finishing, a_codes, a_windowIn, a_windowOut, a_headers, a_headerCount, a_entries, a_kinds, a_repeats, a_messageCount, a_text, a_nodeCount, a_nodeTypes, a_valueCount, a_valueOwners, a_values, a_skippedCount, a_reader, a_chainNode, a_chainEnd, a_queue, a_queueLength, a_sent, a_nodeSize, a_nodePlace) (nI s) (nI b) := by
  have i0 := xr_ix (s := s) (k := 0) hs (by omega)
  have c0 : (nI (11 * s) + 0).toNatClampNeg = 11 * s := i0.2.2
  unfold wpX_readPrefix
  dsimp only
  refine nm_r i0.1 ⟨i0.2.1, i0.2.1, nm_r (e' := upd a_reader (11 * s) (nI 1)) (by rw [c0, h0]; rfl) ⟨i0.2.1, ?_⟩⟩
  rw [c0, pm_upd_eq, if_pos rfl]
  exact br_t rfl (pk_eq b 0 (fun z => H0 z) (fun z => H7 z))
theorem xp_2 {post : Int32 → SX → Prop} (hs : s < 8) (hb : b < 256) (h0 : a_reader (11 * s) = nI 1) (H0 : post 0 (f_frameAt, f_frameLength, f_frameSort, f_frameFlags, f_frameStream, f_down, f_entryCount, f_most, f_typeSeen, f_lastSender, f_sentLength, a_payload, a_life, a_theyEnded, a_weEnded, a_finishing, a_codes, a_windowIn, a_windowOut, a_headers, a_headerCount, a_entries, a_kinds, a_repeats, a_messageCount, a_text, a_nodeCount, a_nodeTypes, a_valueCount, a_valueOwners, a_values, a_skippedCount, upd (upd a_reader (11 * s) (nI 2)) (11 * s + 1) (nI (256 * b)), a_chainNode, a_chainEnd, a_queue, a_queueLength, a_sent, a_nodeSize, a_nodePlace)) :
    wpX_readPrefix post (f_frameAt, f_frameLength, f_frameSort, f_frameFlags, f_frameStream, f_down, f_entryCount, f_most, f_typeSeen, f_lastSender, f_sentLength, a_payload, a_life, a_theyEnded, a_weEnded, a_finishing, a_codes, a_windowIn, a_windowOut, a_headers, a_headerCount, a_entries, a_kinds, a_repeats, a_messageCount, a_text, a_nodeCount, a_nodeTypes, a_valueCount, a_valueOwners, a_values, a_skippedCount, a_reader, a_chainNode, a_chainEnd, a_queue, a_queueLength, a_sent, a_nodeSize, a_nodePlace) (nI s) (nI b) := by
  have i0 := xr_ix (s := s) (k := 0) hs (by omega)
  have i1 := xr_ix (s := s) (k := 1) hs (by omega)
  have c0 : (nI (11 * s) + 0).toNatClampNeg = 11 * s := i0.2.2
  have c1 : (nI (11 * s) + 1).toNatClampNeg = 11 * s + 1 := i1.2.2
  unfold wpX_readPrefix
  dsimp only
  refine nm_r i0.1 ⟨i0.2.1, i0.2.1, nm_r (e' := upd a_reader (11 * s) (nI 2)) (by rw [c0, h0]; rfl) ⟨i0.2.1, ?_⟩⟩
  rw [c0, pm_upd_eq, if_pos rfl]
  refine br_f (by decide) ⟨i0.2.1, br_t rfl ⟨i1.2.1, nm_r ?_ H0⟩⟩
  rw [c1, show (256 : Int32) = nI 256 from rfl, pk_mul, Nat.mul_comm b 256]
theorem xp_3 {post : Int32 → SX → Prop} (hs : s < 8) (hb : b < 256) (hx : x < 256) (hy : y < 4) (h0 : a_reader (11 * s) = nI 2) (h1 : a_reader (11 * s + 1) = nI (256 * x)) (hL : L = 256 * x + b) (hty : a_nodeTypes (16 * s) = nI y)
    (H8 : 200 < L → post 8 (f_frameAt, f_frameLength, f_frameSort, f_frameFlags, f_frameStream, f_down, f_entryCount, f_most, f_typeSeen, f_lastSender, f_sentLength, a_payload, a_life, a_theyEnded, a_weEnded, a_finishing, a_codes, a_windowIn, a_windowOut, a_headers, a_headerCount, a_entries, a_kinds, a_repeats, a_messageCount, a_text, a_nodeCount, a_nodeTypes, a_valueCount, a_valueOwners, a_values, a_skippedCount, upd (upd a_reader (11 * s) (nI 3)) (11 * s + 1) (nI L), a_chainNode, a_chainEnd, a_queue, a_queueLength, a_sent, a_nodeSize, a_nodePlace))
    (H0 : L ≤ 200 → ∀ mc' nc' vc' sk' rd' cn' ce', xr_O 1 s a_messageCount mc' → xr_O 1 s a_nodeCount nc' → xr_O 1 s a_valueCount vc' → xr_O 1 s a_skippedCount sk' → xr_O 11 s a_reader rd' → xr_O 4 s a_chainNode cn' → xr_O 4 s a_chainEnd ce' →
      xr_sp K R s y L 0 B a_messageCount (upd (upd a_reader (11 * s) (nI 3)) (11 * s + 1) (nI L)) 0 mc' nc' a_nodeTypes vc' a_valueOwners a_values sk' rd' cn' ce' →
      post 0 (f_frameAt, f_frameLength, f_frameSort, f_frameFlags, f_frameStream, f_down, f_entryCount, f_most, f_typeSeen, f_lastSender, f_sentLength, a_payload, a_life, a_theyEnded, a_weEnded, a_finishing, a_codes, a_windowIn, a_windowOut, a_headers, a_headerCount, a_entries, a_kinds, a_repeats, mc', a_text, nc', a_nodeTypes, vc', a_valueOwners, a_values, sk', rd', cn', ce', a_queue, a_queueLength, a_sent, a_nodeSize, a_nodePlace)) :
    wpX_readPrefix post (f_frameAt, f_frameLength, f_frameSort, f_frameFlags, f_frameStream, f_down, f_entryCount, f_most, f_typeSeen, f_lastSender, f_sentLength, a_payload, a_life, a_theyEnded, a_weEnded, a_finishing, a_codes, a_windowIn, a_windowOut, a_headers, a_headerCount, a_entries, a_kinds, a_repeats, a_messageCount, a_text, a_nodeCount, a_nodeTypes, a_valueCount, a_valueOwners, a_values, a_skippedCount, a_reader, a_chainNode, a_chainEnd, a_queue, a_queueLength, a_sent, a_nodeSize, a_nodePlace) (nI s) (nI b) := by
  have i0 := xr_ix (s := s) (k := 0) hs (by omega)
  have i1 := xr_ix (s := s) (k := 1) hs (by omega)
  have i2 := xr_ix (s := s) (k := 2) hs (by omega)
  have i10 := xr_ix (s := s) (k := 10) hs (by omega)
  have c0 : (nI (11 * s) + 0).toNatClampNeg = 11 * s := i0.2.2
  have c1 : (nI (11 * s) + 1).toNatClampNeg = 11 * s + 1 := i1.2.2
  have c2 : (nI (11 * s) + 2).toNatClampNeg = 11 * s + 2 := i2.2.2
  have c10 : (nI (11 * s) + 10).toNatClampNeg = 11 * s + 10 := i10.2.2
  obtain ⟨g1, g2⟩ := xr_c8 hs
  have c4 := xr_c4 (s := s) (a := 0) hs (by omega)
  have e4 : nI s * 4 = nI (4 * s) := by
    rw [show (4 : Int32) = nI 4 from rfl, pk_mul, Nat.mul_comm]
  have in4 : vp_in (nI (4 * s)) 32 := vp_in_nI (by omega) (by omega)
  have cl4 : (nI (4 * s)).toNatClampNeg = 4 * s := nI_clamp (by omega)
  have hu0 : ∀ (f : Nat → Int32) (v : Int32) k, k ≠ 0 → upd f (11 * s) v (11 * s + k) = f (11 * s + k) := by
    intro f v k hk
    rw [pm_upd_eq, if_neg (by omega)]
  unfold wpX_readPrefix
  dsimp only
  refine nm_r i0.1 ⟨i0.2.1, i0.2.1, nm_r (e' := upd a_reader (11 * s) (nI 3)) (by rw [c0, h0]; rfl) ⟨i0.2.1, ?_⟩⟩
  rw [c0, pm_upd_eq, if_pos rfl]
  refine br_f (by decide) ⟨i0.2.1, br_f (by decide) ⟨i1.2.1, i1.2.1, nm_r (e' := upd (upd a_reader (11 * s) (nI 3)) (11 * s + 1) (nI L)) (by rw [c1, hu0 _ _ 1 (by omega), h1, nI_add, hL]) ⟨i1.2.1, ?_⟩⟩⟩
  rw [c1, xr_u, if_pos rfl]
  generalize hrd : upd (upd a_reader (11 * s) (nI 3)) (11 * s + 1) (nI L) = rd1 at *
  have rd11 : rd1 (11 * s + 1) = nI L := by rw [← hrd, xr_u, if_pos rfl]
  have rdO : xr_O 11 s a_reader rd1 := by
    rw [← hrd]; exact xr_O_t (xr_O_u (i := 0) (by omega)) (xr_O_u (by omega))
  refine pk_le L 200 (fun z => ?_) (fun z => H8 z)
  unfold wpX_beginMessage
  refine nm_r i0.1 ⟨i2.2.1, nm_r (e' := upd rd1 (11 * s + 2) (nI 0)) (congrArg (fun j => upd rd1 j 0) c2) ⟨i10.2.1, nm_r (e' := upd (upd rd1 (11 * s + 2) (nI 0)) (11 * s + 10) (nI 0)) (congrArg (fun j => upd (upd rd1 (11 * s + 2) (nI 0)) j 0) c10) ?_⟩⟩
  rw [e4, cl4, c1, g2]
  refine ⟨in4, nm_e ⟨i1.2.1, in4, nm_r (e' := upd a_chainEnd (4 * s) (nI L)) (by rw [xr_u, if_neg (by omega), xr_u, if_neg (by omega), rd11]) ⟨g1, nm_e ⟨g1, nm_e ⟨g1, nm_e (xw_bE hs ?_)⟩⟩⟩⟩⟩
  have hrdk : ∀ k, k ≠ 9 → k ≠ 8 → k ≠ 5 → k ≠ 4 → k ≠ 3 → xr_bE s (upd (upd rd1 (11 * s + 2) (nI 0)) (11 * s + 10) (nI 0)) (11 * s + k) = if k = 10 then nI 0 else if k = 2 then nI 0 else rd1 (11 * s + k) := by
    intro k n9 n8 n5 n4 n3
    rw [xr_bE_k, if_neg n9, if_neg (fun w => w.elim n8 (fun w => w.elim n5 (fun w => w.elim n4 n3))), xr_u, xr_u]
  have hchE : ∀ i, i ≤ pm_at (cr_0 y L) → upd a_chainNode (4 * s) 0 (4 * s + i) = nI (pm_ins (cr_0 y L) i) ∧ upd a_chainEnd (4 * s) (nI L) (4 * s + i) = nI (pm_lim (cr_0 y L) i) := by
    intro i hi
    have : i = 0 := by
      have : i ≤ 0 := hi
      omega
    subst this
    exact ⟨by rw [pm_upd_eq, if_pos (show 4 * s + 0 = 4 * s by omega)]; rfl, by rw [pm_upd_eq, if_pos (show 4 * s + 0 = 4 * s by omega)]; rfl⟩
  have hF : xr_fresh s 0 (cr_0 y L) (xr_bE s (upd (upd rd1 (11 * s + 2) (nI 0)) (11 * s + 10) (nI 0))) (upd a_chainNode (4 * s) 0) (upd a_chainEnd (4 * s) (nI L)) := by
    refine xb_fresh (c := cr_0 y L) rfl rfl rfl ?_ ?_ hchE
    · rw [xr_u, if_neg (by omega), xr_u, if_pos rfl]
    · rw [xr_u, if_pos rfl]; rfl
  have hXD : cr_XD K s (upd a_nodeCount s 1) a_nodeTypes (upd a_valueCount s 0) a_valueOwners a_values (pm_d (cr_0 y L)) := by
    refine ⟨by rw [pm_upd_eq, if_pos rfl]; rfl, by rw [pm_upd_eq, if_pos rfl]; rfl, fun i hi => ?_, fun j hj => absurd hj (Nat.not_lt_zero _)⟩
    have : i = 0 := by
      have : i < 1 := hi
      omega
    subst this
    exact hty
  have hsk : upd a_skippedCount s 0 s = nI (pm_sk (cr_0 y L)) := by rw [pm_upd_eq, if_pos rfl]; rfl
  have r00 : xr_bE s (upd (upd rd1 (11 * s + 2) (nI 0)) (11 * s + 10) (nI 0)) (11 * s) = rd1 (11 * s) := by
    rw [xb_0, xb_u0 (by omega), xb_u0 (by omega)]
  have rOO : xr_O 11 s a_reader (xr_bE s (upd (upd rd1 (11 * s + 2) (nI 0)) (11 * s + 10) (nI 0))) := xr_O_t rdO (xr_O_t (xr_O_u (by omega)) (xr_O_t (xr_O_u (by omega)) (fun j hj => xr_bE_o hj)))
  have o4 : ∀ (f : Nat → Int32) (v : Int32), xr_O 4 s f (upd f (4 * s) v) := fun f v => xr_O_u (i := 0) (by omega)
  obtain ⟨f2, f3, f4, f5, f8, f9, f10, fch⟩ := hF
  dsimp only
  refine xw_el (K := K) (R := R) (L := L) (dep := fun _ => 0) (c := cr_0 y L) (t := 0) hs (cr_0_I hy) z rfl rfl f2 f3 f5 f8 f10 (fun i hi => (hchE i hi).2) (fun w => ?_) (fun w => ?_)
  · exact H0 z _ _ _ _ _ _ _ xr_O_r xr_O_1 xr_O_1 xr_O_1 (xr_O_t rOO (xr_O_u (by omega))) (o4 _ _) (o4 _ _) (xt_f1 (c := cr_0 y L) (cr_0_I hy) rfl rfl ⟨f2, f3, f4, f5, f8, f9, f10, fch⟩ hXD hsk cr_from0 r00 w)
  · exact H0 z _ _ _ _ _ _ _ xr_O_1 xr_O_1 xr_O_1 xr_O_1 (xr_O_t rOO (xr_O_t (xr_O_u (by omega)) (xr_O_u (i := 0) (by omega)))) (o4 _ _) (o4 _ _) (xt_f2 (c := cr_0 y L) (cr_0_I hy) rfl rfl hXD hsk cr_from0 w)
end
end
section
/-! S12: the other streams -/
section
variable {K : Nat → Nat} {R : Nat → Bool} {s s' k : Nat} {D : pm_D} {mc nc nt vc vo va sk rd cn ce mc' nc' nt' vc' vo' va' sk' rd' cn' ce' : Nat → Int32}
theorem xr_O1 {f f' : Nat → Int32} (h : xr_O 1 s f f') (hne : s' ≠ s) : f' s' = f s' := h s' (by omega)
theorem xr_O4 {f f' : Nat → Int32} (h : xr_O 4 s f f') (hne : s' ≠ s) {i : Nat} (hi : i < 4) : f' (4 * s' + i) = f (4 * s' + i) := h _ (by omega)
theorem xr_O11 {f f' : Nat → Int32} (h : xr_O 11 s f f') (hne : s' ≠ s) {i : Nat} (hi : i < 11) : f' (11 * s' + i) = f (11 * s' + i) := h _ (by omega)
theorem xr_O16 {f f' : Nat → Int32} (h : xr_O 16 s f f') (hne : s' ≠ s) {i : Nat} (hi : i < 16) : f' (16 * s' + i) = f (16 * s' + i) := h _ (by omega)
theorem xr_O48 {f f' : Nat → Int32} (h : xr_O 48 s f f') (hne : s' ≠ s) {i : Nat} (hi : i < 48) : f' (48 * s' + i) = f (48 * s' + i) := h _ (by omega)
theorem cr_XD_fr (hne : s' ≠ s) (hF : xr_fr s mc nc nt vc vo va sk rd cn ce mc' nc' nt' vc' vo' va' sk' rd' cn' ce') (hn : pm_nn D ≤ 16) (hv : pm_nv D ≤ 48) (h : cr_XD K s' nc nt vc vo va D) : cr_XD K s' nc' nt' vc' vo' va' D := by
  obtain ⟨f1, f2, f3, f4, f5, f6, f7, f8, f9, f10, f11⟩ := hF
  obtain ⟨x1, x2, x3, x4⟩ := h
  refine ⟨(xr_O1 f2 hne).trans x1, (xr_O1 f4 hne).trans x2, fun i hi => (xr_O16 f3 hne (by omega)).trans (x3 i hi), fun j hj => ⟨(xr_O48 f5 hne (by omega)).trans (x4 j hj).1, (xr_O48 f6 hne (by omega)).trans (x4 j hj).2⟩⟩
theorem cr_D_le {L t h f q d w : Nat} {dep : Nat → Nat} {c : pm_C} (I : pm_CI K R L dep c) (hp : cr_ph K R t c h f q d w) : pm_nn (cr_D R c h f q w) ≤ 16 ∧ pm_nv (cr_D R c h f q w) ≤ 48 := by
  have hnn := I.1.2.1
  have hnv := I.1.2.2.1
  unfold cr_D
  split
  · rename_i z
    refine ⟨hnn, ?_⟩
    rw [pm_kp_nv]
    have hle := pm_pl_le (R := R) (D := pm_d c) (pm_nd c) f
    have h48 : pm_pl R (pm_d c) (pm_nd c) f ≠ 48 := by
      rcases hp.2.2 with ⟨e, _⟩ | ⟨e, _⟩ | ⟨e, _⟩ | ⟨e, _⟩ | ⟨e, a1, a2, a3, a4, a5, a6⟩
      · omega
      · omega
      · omega
      · omega
      · exact (a6 z.2).2
    split <;> omega
  · exact ⟨hnn, hnv⟩
theorem cr_m_fr {tx tx' : Nat → Nat} {life life' ty ty' le go hi ha pr le' go' hi' ha' pr' : Nat → Int32} (hne : s' ≠ s)
    (hF : xr_fr s mc nc nt vc vo va sk rd cn ce mc' nc' nt' vc' vo' va' sk' rd' cn' ce') (htx : ∀ i, i < 200 → tx' (200 * s' + i) = tx (200 * s' + i))
    (h1 : le' s' = le s') (h2 : go' s' = go s') (h3 : hi' s' = hi s') (h4 : ha' s' = ha s') (h5 : pr' s' = pr s') (h6 : ty' s' = ty s') (h7 : life' s' = life s')
    (h : cr_m k K R s' tx life mc nc nt vc vo va sk rd cn ce ty le go hi ha pr) : cr_m k K R s' tx' life' mc' nc' nt' vc' vo' va' sk' rd' cn' ce' ty' le' go' hi' ha' pr' := by
  have hF' := hF
  obtain ⟨f1, f2, f3, f4, f5, f6, f7, f8, f9, f10, f11⟩ := hF
  have hby : cr_by tx' s' = cr_by tx s' := by
    funext i
    unfold cr_by
    split
    · rename_i z; exact htx i z
    · rfl
  have e11 : ∀ i, i < 11 → rd' (11 * s' + i) = rd (11 * s' + i) := fun i hi => xr_O11 f8 hne hi
  have e0 : rd' (11 * s') = rd (11 * s') := e11 0 (by omega)
  have e16 : nt' (16 * s') = nt (16 * s') := xr_O16 f3 hne (i := 0) (by omega)
  obtain ⟨p, m, y, g1, g2, g3, g4, g5, g6, g7, g8, g9, g10, g11, g12⟩ := h
  refine ⟨p, m, y, g1, h5.trans g2, e0.trans g3, g4, (xr_O1 f1 hne).trans g5, g6, h4.trans g7, by rw [h7]; exact g8, fun z => ?_, ?_, ?_, ?_⟩
  · obtain ⟨x, x1, x2, x3⟩ := g9 z
    exact ⟨x, x1, h3.trans x2, (e11 1 (by omega)).trans x3⟩
  · rw [h7, h4, h6, e16]; exact g10
  · rw [h4, h1, h2, hby]
    intro z
    obtain ⟨L, l1, l2, l3, dep, c, d1, d2, d3, d4⟩ := g11 z
    exact ⟨L, l1, l2, l3, dep, c, d1, d2, cr_XD_fr hne hF' d2.1.2.1 d2.1.2.2.1 d3, (xr_O1 f7 hne).trans d4⟩
  · rw [h7, h1, h2, hby]
    intro z z2
    obtain ⟨L, t, l1, l2, l3, dep, c, h, f, q, d, w, i1, i2, i3, i4, i5, i6, i7⟩ := g12 z z2
    obtain ⟨r2, r3, r45, r63, r64, r7, r8, r9, r10, rch⟩ := i4
    have hat := i2.2.1
    have hD := cr_D_le i2 i3
    refine ⟨L, t, l1, l2, l3, dep, c, h, f, q, d, w, i1, i2, i3, ⟨?_, ?_, ?_, ?_, ?_, ?_, ?_, ?_, ?_, fun i hi => ?_⟩, cr_XD_fr hne hF' hD.1 hD.2 i5, (xr_O1 f7 hne).trans i6, i7⟩
    · rw [e11 2 (by omega)]; exact r2
    · rw [e11 3 (by omega)]; exact r3
    · rw [e11 4 (by omega), e11 5 (by omega)]; exact r45
    · rw [e11 6 (by omega)]; exact r63
    · rw [e11 6 (by omega)]; exact r64
    · rw [e11 7 (by omega)]; exact r7
    · rw [e11 8 (by omega)]; exact r8
    · rw [e11 9 (by omega)]; exact r9
    · rw [e11 10 (by omega)]; exact r10
    · exact ⟨(xr_O4 f9 hne (by omega)).trans (rch i hi).1, (xr_O4 f10 hne (by omega)).trans (rch i hi).2⟩
end
end
section
/-! S: what is sent -/
section
def sd_n (ql wo : Nat → Nat) (s : Nat) : Nat :=
  if wo 0 < (if wo s < (if ql s < 16 then ql s else 16) then wo s else (if ql s < 16 then ql s else 16)) then wo 0 else (if wo s < (if ql s < 16 then ql s else 16) then wo s else (if ql s < 16 then ql s else 16))
theorem sd_n_le (ql wo : Nat → Nat) (s : Nat) : sd_n ql wo s ≤ ql s ∧ sd_n ql wo s ≤ 16 ∧ sd_n ql wo s ≤ wo s ∧ sd_n ql wo s ≤ wo 0 := by
  unfold sd_n
  split <;> split <;> split <;> omega
/-- whether it is the last -/
def sd_l (fi : Nat → Int32) (ql wo : Nat → Nat) (s : Nat) : Nat := if fi s = 0 then 0 else if sd_n ql wo s = ql s then 1 else 0
def sd_Q (Q : Nat → Nat) (s n k : Nat) : Nat → Nat := fun j => if 500 * s ≤ j ∧ j < 500 * s + (k - n) then Q (j + n) else Q j
theorem sd_Q_0 (Q : Nat → Nat) (s n : Nat) : sd_Q Q s n n = Q := by
  funext j
  unfold sd_Q
  rw [if_neg (by omega)]
theorem sd_Q_s {Q : Nat → Nat} {s n k : Nat} (h : n ≤ k) : pm_u (sd_Q Q s n k) (500 * s + k - n) (sd_Q Q s n k (500 * s + k)) = sd_Q Q s n (k + 1) := by
  funext j
  unfold pm_u sd_Q
  rw [if_neg (show ¬ (500 * s ≤ 500 * s + k ∧ 500 * s + k < 500 * s + (k - n)) by omega)]
  by_cases g : j = 500 * s + k - n
  · rw [if_pos g, if_pos (by omega)]
    exact congrArg Q (by omega)
  · rw [if_neg g]
    by_cases g2 : 500 * s ≤ j ∧ j < 500 * s + (k - n)
    · rw [if_pos g2, if_pos (by omega)]
    · rw [if_neg g2, if_neg (by omega)]
def sd_ql (ql : Nat → Nat) (s n : Nat) : Nat → Nat := pm_u ql s (ql s - n)
def sd_wo (wo : Nat → Nat) (s n : Nat) : Nat → Nat := pm_u (pm_u wo s (wo s - n)) 0 (pm_u wo s (wo s - n) 0 - n)
def sd_bs (Q : Nat → Nat) (s k : Nat) : List Nat := (List.range k).map (fun i => Q (500 * s + i))
theorem sd_bs_s (Q : Nat → Nat) (s k : Nat) : sd_bs Q s (k + 1) = sd_bs Q s k ++ [Q (500 * s + k)] := by
  unfold sd_bs
  rw [List.range_succ, List.map_append]; rfl
def sd_we (we : Nat → Int32) (s l : Nat) : Nat → Int32 := if l = 0 then we else upd we s 1
def sd_li (life th : Nat → Int32) (s l : Nat) : Nat → Int32 := if l = 0 ∨ th s = 0 then life else upd life s 2
variable {f_frameAt f_frameLength f_frameSort f_frameFlags f_frameStream f_down f_entryCount f_most f_typeSeen f_lastSender f_sentLength : Int32} {a_payload a_life a_theyEnded a_weEnded a_finishing a_codes a_windowIn a_windowOut a_headers a_headerCount a_entries a_kinds a_repeats a_messageCount a_text a_nodeCount a_nodeTypes a_valueCount a_valueOwners a_values a_skippedCount a_reader a_chainNode a_chainEnd a_queue a_queueLength a_sent a_nodeSize a_nodePlace : Nat → Int32} {yf_down yf_heads yf_paid yf_payload yf_wants yf_name yf_first yf_counts yf_enters yf_most yf_many yf_sent yf_last yf_nodes yf_values yf_skipped yf_pos yf_there yf_number yf_at : Int32} {ya_kind ya_repeated ya_how ya_code ya_coming ya_going ya_type ya_headers ya_header ya_queued ya_otherEnded ya_ended ya_finishing ya_queue ya_prefix ya_length ya_got ya_high ya_whole ya_has ya_bytes ya_frame ya_payloads ya_table ya_out ya_nodeType ya_valueNode ya_valueNumber ya_value ya_from ya_limit ya_inside ya_sizes : Nat → Int32} {s n l : Nat} {z : (Nat → Nat) × Nat} {Q ql wo : Nat → Nat}
theorem sd_i5 {k : Nat} (hs : s < 8) (hk : k < 500) : nI s * 500 + nI k = nI (500 * s + k) ∧ 500 * nI s + nI k = nI (500 * s + k) ∧ vp_in (nI (500 * s + k)) 4000 ∧ (nI (500 * s + k)).toNatClampNeg = 500 * s + k := by
  refine ⟨?_, ?_, vp_in_nI (by omega) (by omega), nI_clamp (by omega)⟩
  · rw [show (500 : Int32) = nI 500 from rfl, pk_mul, nI_add, Nat.mul_comm]
  · rw [show (500 : Int32) = nI 500 from rfl, pk_mul, nI_add]
theorem sd_wo_e (hs : 0 < s) (hn : n ≤ wo s) (hn0 : n ≤ wo 0) :
    upd (upd (an_f wo) s (an_f wo s - nI n)) 0 (upd (an_f wo) s (an_f wo s - nI n) 0 - nI n) = an_f (sd_wo wo s n) := by
  rw [an_fa, pk_sub hn, an_fu, an_fa]
  have e : pm_u wo s (wo s - n) 0 = wo 0 := pm_un (by omega)
  rw [e, pk_sub hn0]
  show upd (an_f (pm_u wo s (wo s - n))) 0 (nI (wo 0 - n)) = _
  rw [an_fu]
  unfold sd_wo
  rw [e]
theorem xo_sd153 (hs0 : 0 < s) (hs : s < 8) (hq : ql s ≤ 500) (hn : n ≤ ql s) (hw : n ≤ wo s) (hw0 : n ≤ wo 0) (hl : l ≤ 1) {post : SX → Prop}
    (H : post (f_frameAt, f_frameLength, f_frameSort, f_frameFlags, f_frameStream, f_down, f_entryCount, f_most, f_typeSeen, nI s, f_sentLength, a_payload, sd_li a_life a_theyEnded s l, a_theyEnded, sd_we a_weEnded s l, a_finishing, a_codes, a_windowIn, an_f (sd_wo wo s n), a_headers, a_headerCount, a_entries, a_kinds, a_repeats, a_messageCount, a_text, a_nodeCount, a_nodeTypes, a_valueCount, a_valueOwners, a_values, a_skippedCount, a_reader, a_chainNode, a_chainEnd, an_f (sd_Q Q s n (ql s)), an_f (sd_ql ql s n), a_sent, a_nodeSize, a_nodePlace)) : ∀ r k, k + r = ql s → n ≤ k →
    wX_sendData_153 post (nI s) (nI n) (nI l) f_frameAt f_frameLength f_frameSort f_frameFlags f_frameStream f_down f_entryCount f_most f_typeSeen f_lastSender f_sentLength (r + 1) (nI k) a_payload a_life a_theyEnded a_weEnded a_finishing a_codes a_windowIn (an_f wo) a_headers a_headerCount a_entries a_kinds a_repeats a_messageCount a_text a_nodeCount a_nodeTypes a_valueCount a_valueOwners a_values a_skippedCount a_reader a_chainNode a_chainEnd (an_f (sd_Q Q s n k)) (an_f ql) a_sent a_nodeSize a_nodePlace
  | 0, k, hk, hnk => by
    rw [wX_sendData_153]
    obtain ⟨g1, g2⟩ := xr_c8 hs
    rw [g2]
    have hk' : k = ql s := by omega
    subst hk'
    refine ⟨g1, ?_⟩
    refine pk_le (ql s) (ql s) (fun _ => ?_) (fun g => absurd g (by omega)) rfl rfl (by omega) (by omega)
    refine ⟨g1, g1, nm_r (by rw [an_fa, pk_sub hn, an_fu]) ⟨g1, g1, nm_e (nm_r (sd_wo_e hs0 hw hw0) ?_)⟩⟩
    refine pk_eq l 0 (fun g => ?_) (fun g => ?_)
    · unfold sd_li sd_we at H
      rw [if_pos (Or.inl g), if_pos g] at H
      exact H
    · refine ⟨g1, nm_r (e' := upd a_weEnded s 1) rfl ⟨g1, br_c (fun y => ?_) (fun y => ⟨g1, nm_e ?_⟩)⟩⟩
      · unfold sd_li sd_we at H
        rw [if_pos (Or.inr y), if_neg g] at H
        exact H
      · unfold sd_li sd_we at H
        rw [if_neg (fun w => by rcases w with w | w; exact g w; exact y w), if_neg g] at H
        exact H
  | r + 1, k, hk, hnk => by
    rw [wX_sendData_153]
    obtain ⟨g1, g2⟩ := xr_c8 hs
    rw [g2]
    obtain ⟨i1, i2, i3, i4⟩ := sd_i5 (s := s) (k := k) hs (by omega)
    obtain ⟨j1, j2, j3, j4⟩ := sd_i5 (s := s) (k := k - n) hs (by omega)
    refine ⟨g1, ?_⟩
    refine pk_le (ql s) k (fun g => absurd g (by omega)) (fun g => ?_) rfl rfl (by omega) (by omega)
    rw [i1]
    have e : nI (500 * s + k) - nI n = nI (500 * s + (k - n)) := by
      rw [pk_sub (by omega)]; exact congrArg nI (by omega)
    rw [e, i4, j4]
    refine ⟨i3, j3, nm_r (e' := an_f (sd_Q Q s n (k + 1))) ?_ (nm_r (nI_1 _) (xo_sd153 hs0 hs hq hn hw hw0 hl H r (k + 1) (by omega) (by omega)))⟩
    rw [an_fa, an_fu, ← sd_Q_s hnk]
    exact congrArg (fun i => an_f (pm_u (sd_Q Q s n k) i (sd_Q Q s n k (500 * s + k)))) (by omega)
theorem yo_sd133 (hs0 : 0 < s) (hs : s < 8) (hq : ql s ≤ 500) (hn : n ≤ ql s) (hw : n ≤ wo s) (hw0 : n ≤ wo 0) (hl : l ≤ 1)
    (hco : l = 1 → ya_otherEnded s ≠ 0 → ya_code s = 0 ∧ n = ql s) {post : SY → Prop}
    (H : post (yf_down, yf_heads, yf_paid, yf_payload, yf_wants, yf_name, yf_first, yf_counts, yf_enters, yf_most, yf_many, yf_sent, yf_last, yf_nodes, yf_values, yf_skipped, yf_pos, yf_there, yf_number, yf_at, ya_kind, ya_repeated, sd_li ya_how ya_otherEnded s l, ya_code, ya_coming, an_f (sd_wo wo s n), ya_type, ya_headers, ya_header, an_f (sd_ql ql s n), ya_otherEnded, sd_we ya_ended s l, ya_finishing, an_g (sd_Q Q s n (ql s)), ya_prefix, ya_length, ya_got, ya_high, ya_whole, ya_has, ya_bytes, ya_frame, ya_payloads, ya_table, ya_out, ya_nodeType, ya_valueNode, ya_valueNumber, ya_value, ya_from, ya_limit, ya_inside, ya_sizes)) : ∀ r k, k + r = ql s → n ≤ k →
    wY_send_133 post (nI s) (nI n) (nI l) yf_down yf_heads yf_paid yf_payload yf_wants yf_name yf_first yf_counts yf_enters yf_most yf_many yf_sent yf_last yf_nodes yf_values yf_skipped yf_pos yf_there yf_number yf_at (r + 1) (nI k) ya_kind ya_repeated ya_how ya_code ya_coming (an_f wo) ya_type ya_headers ya_header (an_f ql) ya_otherEnded ya_ended ya_finishing (an_g (sd_Q Q s n k)) ya_prefix ya_length ya_got ya_high ya_whole ya_has ya_bytes ya_frame ya_payloads ya_table ya_out ya_nodeType ya_valueNode ya_valueNumber ya_value ya_from ya_limit ya_inside ya_sizes
  | 0, k, hk, hnk => by
    rw [wY_send_133]
    obtain ⟨g1, g2⟩ := xr_c8 hs
    rw [g2]
    have hk' : k = ql s := by omega
    subst hk'
    refine ⟨g1, ?_⟩
    refine pk_le (ql s) (ql s) (fun _ => ?_) (fun g => absurd g (by omega)) rfl rfl (by omega) (by omega)
    refine ⟨g1, g1, nm_r (by rw [an_fa, pk_sub hn, an_fu]) ⟨g1, g1, nm_e (nm_r (sd_wo_e hs0 hw hw0) ?_)⟩⟩
    refine pk_eq l 0 (fun g => ?_) (fun g => ?_)
    · unfold sd_li sd_we at H
      rw [if_pos (Or.inl g), if_pos g] at H
      exact H
    · refine ⟨g1, nm_r (e' := upd ya_ended s 1) rfl ⟨g1, br_c (fun y => ?_) (fun y => ?_)⟩⟩
      · unfold sd_li sd_we at H
        rw [if_pos (Or.inr y), if_neg g] at H
        exact H
      · unfold sd_li sd_we at H
        rw [if_neg (fun w => by rcases w with w | w; exact g w; exact y w), if_neg g] at H
        obtain ⟨c1, c2⟩ := hco (by omega) y
        refine yo_shut hs ?_
        rw [xr_ui c1, xr_ui (show an_f (pm_u ql s (ql s - n)) s = 0 by rw [an_fa, pm_us, c2, Nat.sub_self]; rfl)]
        exact H
  | r + 1, k, hk, hnk => by
    rw [wY_send_133]
    obtain ⟨g1, g2⟩ := xr_c8 hs
    rw [g2]
    obtain ⟨i1, i2, i3, i4⟩ := sd_i5 (s := s) (k := k) hs (by omega)
    obtain ⟨j1, j2, j3, j4⟩ := sd_i5 (s := s) (k := k - n) hs (by omega)
    refine ⟨g1, ?_⟩
    refine pk_le (ql s) k (fun g => absurd g (by omega)) (fun g => ?_) rfl rfl (by omega) (by omega)
    rw [i2]
    have e : nI (500 * s + k) - nI n = nI (500 * s + (k - n)) := by
      rw [pk_sub (by omega)]; exact congrArg nI (by omega)
    rw [e, i4, j4]
    refine ⟨i3, j3, nm_r (e' := an_g (sd_Q Q s n (k + 1))) ?_ (nm_r (nI_1 _) (yo_sd133 hs0 hs hq hn hw hw0 hl hco H r (k + 1) (by omega) (by omega)))⟩
    rw [an_ga, an_b2, an_gu, ← sd_Q_s hnk]
    exact congrArg (fun i => an_g (pm_u (sd_Q Q s n k) i (sd_Q Q s n k (500 * s + k)))) (by omega)
end
section
variable {f_frameAt f_frameLength f_frameSort f_frameFlags f_frameStream f_down f_entryCount f_most f_typeSeen f_lastSender f_sentLength : Int32} {a_payload a_life a_theyEnded a_weEnded a_finishing a_codes a_windowIn a_windowOut a_headers a_headerCount a_entries a_kinds a_repeats a_messageCount a_text a_nodeCount a_nodeTypes a_valueCount a_valueOwners a_values a_skippedCount a_reader a_chainNode a_chainEnd a_queue a_queueLength a_sent a_nodeSize a_nodePlace : Nat → Int32} {yf_down yf_heads yf_paid yf_payload yf_wants yf_name yf_first yf_counts yf_enters yf_most yf_many yf_sent yf_last yf_nodes yf_values yf_skipped yf_pos yf_there yf_number yf_at : Int32} {ya_kind ya_repeated ya_how ya_code ya_coming ya_going ya_type ya_headers ya_header ya_queued ya_otherEnded ya_ended ya_finishing ya_queue ya_prefix ya_length ya_got ya_high ya_whole ya_has ya_bytes ya_frame ya_payloads ya_table ya_out ya_nodeType ya_valueNode ya_valueNumber ya_value ya_from ya_limit ya_inside ya_sizes : Nat → Int32} {s n l : Nat} {z : (Nat → Nat) × Nat} {Q ql wo : Nat → Nat}
theorem xo_sd121 (hs : s < 8) (hn : n ≤ 16) (hz : z.2 ≤ 1200) {post : SX → Prop}
    (H : ∃ m, wX_sendData_153 post (nI s) (nI n) (nI l) f_frameAt f_frameLength f_frameSort f_frameFlags f_frameStream f_down f_entryCount f_most f_typeSeen f_lastSender (nI (ou_L z (sd_bs Q s n)).2) m (nI n) a_payload a_life a_theyEnded a_weEnded a_finishing a_codes a_windowIn a_windowOut a_headers a_headerCount a_entries a_kinds a_repeats a_messageCount a_text a_nodeCount a_nodeTypes a_valueCount a_valueOwners a_values a_skippedCount a_reader a_chainNode a_chainEnd (an_f Q) a_queueLength (an_f (ou_L z (sd_bs Q s n)).1) a_nodeSize a_nodePlace) : ∀ r k, k + r = n →
    wX_sendData_121 post (nI s) (nI n) (nI l) (r + 1) (nI k) f_frameAt f_frameLength f_frameSort f_frameFlags f_frameStream f_down f_entryCount f_most f_typeSeen f_lastSender (nI (ou_L z (sd_bs Q s k)).2) a_payload a_life a_theyEnded a_weEnded a_finishing a_codes a_windowIn a_windowOut a_headers a_headerCount a_entries a_kinds a_repeats a_messageCount a_text a_nodeCount a_nodeTypes a_valueCount a_valueOwners a_values a_skippedCount a_reader a_chainNode a_chainEnd (an_f Q) a_queueLength (an_f (ou_L z (sd_bs Q s k)).1) a_nodeSize a_nodePlace
  | 0, k, hk => by
    have hk' : k = n := by omega
    subst hk'
    rw [wX_sendData_121]
    exact pk_le k k (fun _ => H) (fun g => absurd g (by omega))
  | r + 1, k, hk => by
    rw [wX_sendData_121]
    obtain ⟨i1, i2, i3, i4⟩ := sd_i5 (s := s) (k := k) hs (by omega)
    refine pk_le n k (fun g => absurd g (by omega)) (fun g => ?_)
    rw [i1, i4]
    refine ⟨i3, xo_put (b := Q (500 * s + k)) (ou_L_le _ hz) (nm_r (nI_1 _) ?_)⟩
    rw [← ou_L_1, ← ou_L_app, ← sd_bs_s]
    exact xo_sd121 hs hn hz H r (k + 1) (by omega)
theorem yo_sd101 (hs : s < 8) (hn : n ≤ 16) (hz : z.2 ≤ 1200) {post : SY → Prop}
    (H : ∃ m, wY_send_133 post (nI s) (nI n) (nI l) yf_down yf_heads yf_paid yf_payload yf_wants yf_name yf_first yf_counts yf_enters yf_most yf_many (nI (ou_L z (sd_bs Q s n)).2) yf_last yf_nodes yf_values yf_skipped yf_pos yf_there yf_number yf_at m (nI n) ya_kind ya_repeated ya_how ya_code ya_coming ya_going ya_type ya_headers ya_header ya_queued ya_otherEnded ya_ended ya_finishing (an_g Q) ya_prefix ya_length ya_got ya_high ya_whole ya_has ya_bytes ya_frame ya_payloads ya_table (an_g (ou_L z (sd_bs Q s n)).1) ya_nodeType ya_valueNode ya_valueNumber ya_value ya_from ya_limit ya_inside ya_sizes) : ∀ r k, k + r = n →
    wY_send_101 post (nI s) (nI n) (nI l) (r + 1) (nI k) yf_down yf_heads yf_paid yf_payload yf_wants yf_name yf_first yf_counts yf_enters yf_most yf_many (nI (ou_L z (sd_bs Q s k)).2) yf_last yf_nodes yf_values yf_skipped yf_pos yf_there yf_number yf_at ya_kind ya_repeated ya_how ya_code ya_coming ya_going ya_type ya_headers ya_header ya_queued ya_otherEnded ya_ended ya_finishing (an_g Q) ya_prefix ya_length ya_got ya_high ya_whole ya_has ya_bytes ya_frame ya_payloads ya_table (an_g (ou_L z (sd_bs Q s k)).1) ya_nodeType ya_valueNode ya_valueNumber ya_value ya_from ya_limit ya_inside ya_sizes
  | 0, k, hk => by
    have hk' : k = n := by omega
    subst hk'
    rw [wY_send_101]
    exact pk_le k k (fun _ => H) (fun g => absurd g (by omega))
  | r + 1, k, hk => by
    rw [wY_send_101]
    obtain ⟨i1, i2, i3, i4⟩ := sd_i5 (s := s) (k := k) hs (by omega)
    refine pk_le n k (fun g => absurd g (by omega)) (fun g => ?_)
    rw [i2, i4]
    refine ⟨i3, yo_put (b := Q (500 * s + k)) (an_bb _) (ou_L_le _ hz) (nm_r (nI_1 _) ?_)⟩
    rw [← ou_L_1, ← ou_L_app, ← sd_bs_s]
    exact yo_sd101 hs hn hz H r (k + 1) (by omega)
/-- the bytes of one frame of data -/
def sd_z (z : (Nat → Nat) × Nat) (Q : Nat → Nat) (s n l : Nat) : (Nat → Nat) × Nat := ou_L (ou_L z [n, 0, l, s]) (sd_bs Q s n)
theorem xo_sendData (hs0 : 0 < s) (hs : s < 8) (hq : ql s ≤ 500) (hw : wo s ≤ 255) (hw0 : wo 0 ≤ 255) (hz : z.2 ≤ 1200) {post : SX → Prop}
    (hn : n = sd_n ql wo s) (hl : l = sd_l a_finishing ql wo s)
    (H : post (f_frameAt, f_frameLength, f_frameSort, f_frameFlags, f_frameStream, f_down, f_entryCount, f_most, f_typeSeen, nI s, nI (sd_z z Q s n l).2, a_payload, sd_li a_life a_theyEnded s l, a_theyEnded, sd_we a_weEnded s l, a_finishing, a_codes, a_windowIn, an_f (sd_wo wo s n), a_headers, a_headerCount, a_entries, a_kinds, a_repeats, a_messageCount, a_text, a_nodeCount, a_nodeTypes, a_valueCount, a_valueOwners, a_values, a_skippedCount, a_reader, a_chainNode, a_chainEnd, an_f (sd_Q Q s n (ql s)), an_f (sd_ql ql s n), an_f (sd_z z Q s n l).1, a_nodeSize, a_nodePlace)) :
    wpX_sendData post (f_frameAt, f_frameLength, f_frameSort, f_frameFlags, f_frameStream, f_down, f_entryCount, f_most, f_typeSeen, f_lastSender, nI z.2, a_payload, a_life, a_theyEnded, a_weEnded, a_finishing, a_codes, a_windowIn, an_f wo, a_headers, a_headerCount, a_entries, a_kinds, a_repeats, a_messageCount, a_text, a_nodeCount, a_nodeTypes, a_valueCount, a_valueOwners, a_values, a_skippedCount, a_reader, a_chainNode, a_chainEnd, an_f Q, an_f ql, an_f z.1, a_nodeSize, a_nodePlace) (nI s) := by
  obtain ⟨g1, g2⟩ := xr_c8 hs
  obtain ⟨n1, n2, n3, n4⟩ := sd_n_le ql wo s
  have hl1 : l ≤ 1 := by
    rw [hl]; unfold sd_l
    split
    · omega
    · split <;> omega
  have h89 : wX_sendData_89 post (nI s) (nI n) (nI l) f_frameAt f_frameLength f_frameSort f_frameFlags f_frameStream f_down f_entryCount f_most f_typeSeen f_lastSender (nI z.2) a_payload a_life a_theyEnded a_weEnded a_finishing a_codes a_windowIn (an_f wo) a_headers a_headerCount a_entries a_kinds a_repeats a_messageCount a_text a_nodeCount a_nodeTypes a_valueCount a_valueOwners a_values a_skippedCount a_reader a_chainNode a_chainEnd (an_f Q) (an_f ql) (an_f z.1) a_nodeSize a_nodePlace := by
    have h110 : wX_sendData_110 post (nI s) (nI n) (nI l) (nI l) f_frameAt f_frameLength f_frameSort f_frameFlags f_frameStream f_down f_entryCount f_most f_typeSeen f_lastSender (nI (ou_1 (ou_1 z n) 0).2) a_payload a_life a_theyEnded a_weEnded a_finishing a_codes a_windowIn (an_f wo) a_headers a_headerCount a_entries a_kinds a_repeats a_messageCount a_text a_nodeCount a_nodeTypes a_valueCount a_valueOwners a_values a_skippedCount a_reader a_chainNode a_chainEnd (an_f Q) (an_f ql) (an_f (ou_1 (ou_1 z n) 0).1) a_nodeSize a_nodePlace := by
      unfold wX_sendData_110
      refine xo_put (ou_1_le (ou_1_le hz)) (xo_put (ou_1_le (ou_1_le (ou_1_le hz))) ?_)
      refine ⟨n + 1, xo_sd121 (z := ou_L z [n, 0, l, s]) hs (by omega) (ou_L_le _ hz) ?_ n 0 (by omega)⟩
      refine ⟨ql s - n + 1, ?_⟩
      have := xo_sd153 (f_lastSender := f_lastSender) (n := n) (l := l) (Q := Q) hs0 hs hq (by omega) (by omega) (by omega) hl1 H (ql s - n) n (by omega) (Nat.le_refl _)
      rw [sd_Q_0] at this
      exact this
    unfold wX_sendData_89
    refine xo_put hz (xo_put (b := 0) (ou_1_le hz) ?_)
    refine pk_eq l 0 (fun y => ?_) (fun y => ?_)
    · rw [y] at h110 ⊢; exact h110
    · have : l = 1 := by omega
      rw [this] at h110 ⊢; exact h110
  have h64 : wX_sendData_64 post (nI s) (nI n) f_frameAt f_frameLength f_frameSort f_frameFlags f_frameStream f_down f_entryCount f_most f_typeSeen f_lastSender (nI z.2) a_payload a_life a_theyEnded a_weEnded a_finishing a_codes a_windowIn (an_f wo) a_headers a_headerCount a_entries a_kinds a_repeats a_messageCount a_text a_nodeCount a_nodeTypes a_valueCount a_valueOwners a_values a_skippedCount a_reader a_chainNode a_chainEnd (an_f Q) (an_f ql) (an_f z.1) a_nodeSize a_nodePlace := by
    unfold wX_sendData_64
    rw [g2]
    refine ⟨g1, br_c (fun y => ?_) (fun y => ⟨g1, ?_⟩)⟩
    · unfold wX_sendData_88
      have : l = 0 := by rw [hl]; unfold sd_l; rw [if_pos y]
      rw [this] at h89; exact h89
    · refine pk_eq n (ql s) (fun w => ?_) (fun w => ?_)
      · have : l = 1 := by rw [hl]; unfold sd_l; rw [if_neg y, if_pos (by omega)]
        rw [this] at h89; exact h89
      · unfold wX_sendData_88
        have : l = 0 := by rw [hl]; unfold sd_l; rw [if_neg y, if_neg (by omega)]
        rw [this] at h89; exact h89
  have h43 : ∀ b, n = (if wo 0 < b then wo 0 else b) → b < 2 ^ 31 → wX_sendData_43 post (nI s) (nI b) f_frameAt f_frameLength f_frameSort f_frameFlags f_frameStream f_down f_entryCount f_most f_typeSeen f_lastSender (nI z.2) a_payload a_life a_theyEnded a_weEnded a_finishing a_codes a_windowIn (an_f wo) a_headers a_headerCount a_entries a_kinds a_repeats a_messageCount a_text a_nodeCount a_nodeTypes a_valueCount a_valueOwners a_values a_skippedCount a_reader a_chainNode a_chainEnd (an_f Q) (an_f ql) (an_f z.1) a_nodeSize a_nodePlace := by
    intro b hb hb31
    unfold wX_sendData_43
    refine pk_le b (wo 0) (fun y => ?_) (fun y => ?_) rfl rfl hb31 (by omega)
    · rw [if_neg (by omega)] at hb
      rw [← hb]; exact h64
    · rw [if_pos y] at hb
      rw [an_fa, ← hb]; exact h64
  have h22 : ∀ b, n = (if wo 0 < (if wo s < b then wo s else b) then wo 0 else (if wo s < b then wo s else b)) → b < 2 ^ 31 → wX_sendData_22 post (nI s) (nI b) f_frameAt f_frameLength f_frameSort f_frameFlags f_frameStream f_down f_entryCount f_most f_typeSeen f_lastSender (nI z.2) a_payload a_life a_theyEnded a_weEnded a_finishing a_codes a_windowIn (an_f wo) a_headers a_headerCount a_entries a_kinds a_repeats a_messageCount a_text a_nodeCount a_nodeTypes a_valueCount a_valueOwners a_values a_skippedCount a_reader a_chainNode a_chainEnd (an_f Q) (an_f ql) (an_f z.1) a_nodeSize a_nodePlace := by
    intro b hb hb31
    unfold wX_sendData_22
    rw [g2]
    refine ⟨g1, pk_le b (wo s) (fun y => ?_) (fun y => ⟨g1, ?_⟩) rfl rfl hb31 (by omega)⟩
    · rw [if_neg (show ¬ wo s < b by omega)] at hb
      exact h43 b hb hb31
    · rw [if_pos y] at hb
      exact h43 (wo s) hb (by omega)
  unfold wpX_sendData
  rw [g2]
  refine ⟨g1, pk_le 16 (ql s) (fun y => ?_) (fun y => ⟨g1, ?_⟩) rfl rfl (by omega) (by omega)⟩
  · refine h22 16 ?_ (by omega)
    rw [hn]; unfold sd_n
    rw [if_neg (show ¬ ql s < 16 by omega)]
  · refine h22 (ql s) ?_ (by omega)
    rw [hn]; unfold sd_n
    rw [if_pos y]
theorem yo_send (hs0 : 0 < s) (hs : s < 8) (hq : ql s ≤ 500) (hw : wo s ≤ 255) (hw0 : wo 0 ≤ 255) (hz : z.2 ≤ 1200) {post : SY → Prop}
    (hn : n = sd_n ql wo s) (hl : l = sd_l ya_finishing ql wo s) (hco : l = 1 → ya_otherEnded s ≠ 0 → ya_code s = 0 ∧ n = ql s)
    (H : post (yf_down, yf_heads, yf_paid, yf_payload, yf_wants, yf_name, yf_first, yf_counts, yf_enters, yf_most, yf_many, nI (sd_z z Q s n l).2, yf_last, yf_nodes, yf_values, yf_skipped, yf_pos, yf_there, yf_number, yf_at, ya_kind, ya_repeated, sd_li ya_how ya_otherEnded s l, ya_code, ya_coming, an_f (sd_wo wo s n), ya_type, ya_headers, ya_header, an_f (sd_ql ql s n), ya_otherEnded, sd_we ya_ended s l, ya_finishing, an_g (sd_Q Q s n (ql s)), ya_prefix, ya_length, ya_got, ya_high, ya_whole, ya_has, ya_bytes, ya_frame, ya_payloads, ya_table, an_g (sd_z z Q s n l).1, ya_nodeType, ya_valueNode, ya_valueNumber, ya_value, ya_from, ya_limit, ya_inside, ya_sizes)) :
    wpY_send post (yf_down, yf_heads, yf_paid, yf_payload, yf_wants, yf_name, yf_first, yf_counts, yf_enters, yf_most, yf_many, nI z.2, yf_last, yf_nodes, yf_values, yf_skipped, yf_pos, yf_there, yf_number, yf_at, ya_kind, ya_repeated, ya_how, ya_code, ya_coming, an_f wo, ya_type, ya_headers, ya_header, an_f ql, ya_otherEnded, ya_ended, ya_finishing, an_g Q, ya_prefix, ya_length, ya_got, ya_high, ya_whole, ya_has, ya_bytes, ya_frame, ya_payloads, ya_table, an_g z.1, ya_nodeType, ya_valueNode, ya_valueNumber, ya_value, ya_from, ya_limit, ya_inside, ya_sizes) (nI s) := by
  obtain ⟨g1, g2⟩ := xr_c8 hs
  obtain ⟨n1, n2, n3, n4⟩ := sd_n_le ql wo s
  have hl1 : l ≤ 1 := by
    rw [hl]; unfold sd_l
    split
    · omega
    · split <;> omega
  have h94 : wY_send_94 post (nI s) (nI n) (nI l) (nI l) (nI 0) (nI n) yf_down yf_heads yf_paid yf_payload yf_wants yf_name yf_first yf_counts yf_enters yf_most yf_many (nI z.2) yf_last yf_nodes yf_values yf_skipped yf_pos yf_there yf_number yf_at ya_kind ya_repeated ya_how ya_code ya_coming (an_f wo) ya_type ya_headers ya_header (an_f ql) ya_otherEnded ya_ended ya_finishing (an_g Q) ya_prefix ya_length ya_got ya_high ya_whole ya_has ya_bytes ya_frame ya_payloads ya_table (an_g z.1) ya_nodeType ya_valueNode ya_valueNumber ya_value ya_from ya_limit ya_inside ya_sizes := by
    unfold wY_send_94
    refine yo_frame hz ?_
    refine ⟨n + 1, yo_sd101 (z := ou_L z [n, 0, l, s]) hs (by omega) (ou_L_le _ hz) ?_ n 0 (by omega)⟩
    refine ⟨ql s - n + 1, ?_⟩
    have := yo_sd133 (n := n) (l := l) (Q := Q) hs0 hs hq (by omega) (by omega) (by omega) hl1 hco H (ql s - n) n (by omega) (Nat.le_refl _)
    rw [sd_Q_0] at this
    exact this
  have h81 : wY_send_81 post (nI s) (nI n) (nI l) yf_down yf_heads yf_paid yf_payload yf_wants yf_name yf_first yf_counts yf_enters yf_most yf_many (nI z.2) yf_last yf_nodes yf_values yf_skipped yf_pos yf_there yf_number yf_at ya_kind ya_repeated ya_how ya_code ya_coming (an_f wo) ya_type ya_headers ya_header (an_f ql) ya_otherEnded ya_ended ya_finishing (an_g Q) ya_prefix ya_length ya_got ya_high ya_whole ya_has ya_bytes ya_frame ya_payloads ya_table (an_g z.1) ya_nodeType ya_valueNode ya_valueNumber ya_value ya_from ya_limit ya_inside ya_sizes := by
    unfold wY_send_81
    refine pk_eq l 0 (fun y => ?_) (fun y => ?_)
    · rw [y] at h94 ⊢; exact h94
    · have : l = 1 := by omega
      rw [this] at h94 ⊢; exact h94
  have h57 : wY_send_57 post (nI s) (nI n) yf_down yf_heads yf_paid yf_payload yf_wants yf_name yf_first yf_counts yf_enters yf_most yf_many (nI z.2) yf_last yf_nodes yf_values yf_skipped yf_pos yf_there yf_number yf_at ya_kind ya_repeated ya_how ya_code ya_coming (an_f wo) ya_type ya_headers ya_header (an_f ql) ya_otherEnded ya_ended ya_finishing (an_g Q) ya_prefix ya_length ya_got ya_high ya_whole ya_has ya_bytes ya_frame ya_payloads ya_table (an_g z.1) ya_nodeType ya_valueNode ya_valueNumber ya_value ya_from ya_limit ya_inside ya_sizes := by
    unfold wY_send_57
    rw [g2]
    refine ⟨g1, br_c (fun y => ?_) (fun y => ⟨g1, ?_⟩)⟩
    · unfold wY_send_80
      have : l = 0 := by rw [hl]; unfold sd_l; rw [if_pos y]
      rw [this] at h81; exact h81
    · refine pk_eq n (ql s) (fun w => ?_) (fun w => ?_)
      · have : l = 1 := by rw [hl]; unfold sd_l; rw [if_neg y, if_pos (by omega)]
        rw [this] at h81; exact h81
      · unfold wY_send_80
        have : l = 0 := by rw [hl]; unfold sd_l; rw [if_neg y, if_neg (by omega)]
        rw [this] at h81; exact h81
  have h40 : ∀ b, n = (if wo 0 < b then wo 0 else b) → b < 2 ^ 31 → wY_send_40 post (nI s) (nI b) yf_down yf_heads yf_paid yf_payload yf_wants yf_name yf_first yf_counts yf_enters yf_most yf_many (nI z.2) yf_last yf_nodes yf_values yf_skipped yf_pos yf_there yf_number yf_at ya_kind ya_repeated ya_how ya_code ya_coming (an_f wo) ya_type ya_headers ya_header (an_f ql) ya_otherEnded ya_ended ya_finishing (an_g Q) ya_prefix ya_length ya_got ya_high ya_whole ya_has ya_bytes ya_frame ya_payloads ya_table (an_g z.1) ya_nodeType ya_valueNode ya_valueNumber ya_value ya_from ya_limit ya_inside ya_sizes := by
    intro b hb hb31
    unfold wY_send_40
    refine pk_le b (wo 0) (fun y => ?_) (fun y => nm_r (e' := nI n) ?_ h57) rfl rfl hb31 (by omega)
    · rw [if_neg (by omega)] at hb
      rw [← hb]; exact h57
    · rw [if_pos y] at hb
      rw [hb]; rfl
  have h22 : ∀ b, n = (if wo 0 < (if wo s < b then wo s else b) then wo 0 else (if wo s < b then wo s else b)) → b < 2 ^ 31 → wY_send_22 post (nI s) (nI b) yf_down yf_heads yf_paid yf_payload yf_wants yf_name yf_first yf_counts yf_enters yf_most yf_many (nI z.2) yf_last yf_nodes yf_values yf_skipped yf_pos yf_there yf_number yf_at ya_kind ya_repeated ya_how ya_code ya_coming (an_f wo) ya_type ya_headers ya_header (an_f ql) ya_otherEnded ya_ended ya_finishing (an_g Q) ya_prefix ya_length ya_got ya_high ya_whole ya_has ya_bytes ya_frame ya_payloads ya_table (an_g z.1) ya_nodeType ya_valueNode ya_valueNumber ya_value ya_from ya_limit ya_inside ya_sizes := by
    intro b hb hb31
    unfold wY_send_22
    rw [g2]
    refine ⟨g1, pk_le b (wo s) (fun y => ?_) (fun y => ⟨g1, nm_r (e' := nI (wo s)) rfl ?_⟩) rfl rfl hb31 (by omega)⟩
    · rw [if_neg (show ¬ wo s < b by omega)] at hb
      exact h40 b hb hb31
    · rw [if_pos y] at hb
      exact h40 (wo s) hb (by omega)
  unfold wpY_send
  rw [g2]
  refine ⟨g1, pk_le 16 (ql s) (fun y => ?_) (fun y => ⟨g1, ?_⟩) rfl rfl (by omega) (by omega)⟩
  · refine h22 16 ?_ (by omega)
    rw [hn]; unfold sd_n
    rw [if_neg (show ¬ ql s < 16 by omega)]
  · refine h22 (ql s) ?_ (by omega)
    rw [hn]; unfold sd_n
    rw [if_pos y]
end
end
section
/-! T: all that may be sent -/
section
def pu_c (g : Nat → Nat) : Nat → Nat
  | 0 => 0
  | m + 1 => pu_c g m + g (m + 1)
theorem pu_c_le {g g' : Nat → Nat} : ∀ m, (∀ i, 1 ≤ i → i ≤ m → g' i ≤ g i) → pu_c g' m ≤ pu_c g m
  | 0, _ => Nat.le_refl _
  | m + 1, h => by
    rw [pu_c, pu_c]
    have h1 := pu_c_le m (fun i h1 h2 => h i h1 (by omega))
    have h2 := h (m + 1) (by omega) (by omega)
    omega
theorem pu_c_lt {g g' : Nat → Nat} {s : Nat} : ∀ m, (∀ i, 1 ≤ i → i ≤ m → g' i ≤ g i) → 1 ≤ s → s ≤ m → g' s < g s → pu_c g' m < pu_c g m
  | 0, _, h1, h2, _ => by omega
  | m + 1, h, h1, h2, h3 => by
    rw [pu_c, pu_c]
    have a1 := pu_c_le m (fun i h1 h2 => h i h1 (by omega))
    have a2 := h (m + 1) (by omega) (by omega)
    by_cases y : s = m + 1
    · subst y; omega
    · have := pu_c_lt m (fun i h1 h2 => h i h1 (by omega)) h1 (by omega) h3
      omega
theorem pu_c_1 {g : Nat → Nat} (h : ∀ i, g i ≤ 1) : ∀ m, pu_c g m ≤ m
  | 0 => Nat.le_refl _
  | m + 1 => by
    rw [pu_c]
    have := pu_c_1 h m
    have := h (m + 1)
    omega
theorem pu_least (P : Nat → Prop) (h : ∃ k, P k) : ∃ k, P k ∧ ∀ j, j < k → ¬ P j := by
  obtain ⟨k, hk⟩ := h
  induction k using Nat.strongRecOn with
  | _ k ih =>
    by_cases g : ∃ j, j < k ∧ P j
    · obtain ⟨j, hj, hp⟩ := g
      exact ih j hj hp
    · exact ⟨k, hk, fun j hj hp => g ⟨j, hj, hp⟩⟩
/-- open and not ended -/
def pu_o (life we : Nat → Int32) (s : Nat) : Nat := if life s = 1 ∧ we s = 0 then 1 else 0
def pu_m (life we : Nat → Int32) (wo : Nat → Nat) : Nat := wo 0 + pu_c (pu_o life we) 7
theorem pu_m_le {life we : Nat → Int32} {wo : Nat → Nat} (h : wo 0 ≤ 255) : pu_m life we wo ≤ 262 := by
  have h1 : ∀ i, pu_o life we i ≤ 1 := by
    intro i; unfold pu_o; split <;> omega
  have h2 := pu_c_1 h1 7
  unfold pu_m
  omega
/-- a stream that sends comes nearer to the end -/
theorem pu_m_lt {life th ot we fi co : Nat → Int32} {wi wo ql : Nat → Nat} {s n l : Nat} (hS : cr_S life th ot we fi co wi wo ql) (h1 : 1 ≤ s) (h8 : s < 8) (hm : cr_may life we fi wo ql s)
    (hn : n = sd_n ql wo s) (hl : l = sd_l fi ql wo s) : pu_m (sd_li life th s l) (sd_we we s l) (sd_wo wo s n) < pu_m life we wo := by
  obtain ⟨m1, m2, m3⟩ := hm
  obtain ⟨n1, n2, n3, n4⟩ := sd_n_le ql wo s
  have e0 : sd_wo wo s n 0 = wo 0 - n := by
    unfold sd_wo
    rw [pm_us, pm_un (by omega)]
  have hle : ∀ i, 1 ≤ i → i ≤ 7 → pu_o (sd_li life th s l) (sd_we we s l) i ≤ pu_o life we i := by
    intro i _ _
    unfold pu_o
    by_cases y : i = s
    · subst y
      rw [if_pos (show life i = 1 ∧ we i = 0 from ⟨m1, m2⟩)]
      split <;> omega
    · have a : sd_li life th s l i = life i := by
        unfold sd_li; split
        · rfl
        · rw [pm_upd_eq, if_neg y]
      have b : sd_we we s l i = we i := by
        unfold sd_we; split
        · rfl
        · rw [pm_upd_eq, if_neg y]
      rw [a, b]; exact Nat.le_refl _
  unfold pu_m
  rw [e0]
  rcases m3 with ⟨q1, q2, q3⟩ | ⟨q1, q2⟩
  · have hp : 1 ≤ n := by
      rw [hn]; unfold sd_n
      split <;> split <;> split <;> omega
    have := pu_c_le 7 hle
    omega
  · have hn0 : n = 0 := by omega
    have hl1 : l = 1 := by
      rw [hl]; unfold sd_l
      rw [if_neg (by rw [q2]; decide), if_pos (by omega)]
    have ha : pu_o life we s = 1 := if_pos ⟨m1, m2⟩
    have hb : pu_o (sd_li life th s l) (sd_we we s l) s = 0 := by
      refine if_neg ?_
      rintro ⟨_, y⟩
      unfold sd_we at y
      rw [if_neg (by omega), pm_upd_eq, if_pos rfl] at y
      exact absurd y (by decide)
    have := pu_c_lt 7 hle h1 (by omega) (by rw [ha, hb]; omega)
    omega
theorem pu_S {life th ot we fi co : Nat → Int32} {wi wo ql : Nat → Nat} {s n l : Nat} (hS : cr_S life th ot we fi co wi wo ql) (h1 : 1 ≤ s) (h8 : s < 8) (hm : cr_may life we fi wo ql s)
    (hn : n = sd_n ql wo s) (hl : l = sd_l fi ql wo s) : cr_S (sd_li life th s l) th ot (sd_we we s l) fi co wi (sd_wo wo s n) (sd_ql ql s n) := by
  obtain ⟨m1, m2, m3⟩ := hm
  obtain ⟨n1, n2, n3, n4⟩ := sd_n_le ql wo s
  refine ⟨?_, fun i hi => ?_⟩
  · unfold sd_li
    split
    · exact hS.1
    · rw [pm_upd_eq, if_neg (by omega)]; exact hS.1
  · obtain ⟨s1, s2, s3, s4, s5, s6, s7, s8, s9, s10⟩ := hS.2 i hi
    have hwo : sd_wo wo s n i ≤ 255 := by
      unfold sd_wo
      by_cases y : i = 0
      · subst y; rw [pm_us, pm_un (by omega)]; omega
      · rw [pm_un y]
        by_cases y2 : i = s
        · subst y2; rw [pm_us]; omega
        · rw [pm_un y2]; exact s6
    have hql : sd_ql ql s n i ≤ 500 := by
      unfold sd_ql
      by_cases y2 : i = s
      · subst y2; rw [pm_us]; omega
      · rw [pm_un y2]; exact s7
    by_cases y : i = s
    · subst y
      have hl01 : l = 0 ∨ (l = 1 ∧ fi i = 1 ∧ n = ql i) := by
        rw [hl]; unfold sd_l
        split
        · left; rfl
        · rename_i y1
          split
          · rename_i y2
            right
            refine ⟨rfl, ?_, by omega⟩
            rcases s4 with y3 | y3
            · exact absurd y3 y1
            · exact y3
          · left; rfl
      rcases hl01 with y0 | ⟨y0, y1, y2⟩
      · have a : sd_li life th i l = life := by unfold sd_li; rw [if_pos (Or.inl y0)]
        have b : sd_we we i l = we := by unfold sd_we; rw [if_pos y0]
        rw [a, b]
        exact ⟨s1, s2, s3, s4, s5, hwo, hql, s8, s9, fun w => by rw [m2] at w; exact absurd w (by decide)⟩
      · have b : sd_we we i l i = 1 := by unfold sd_we; rw [if_neg (by omega), pm_upd_eq, if_pos rfl]
        have hql0 : sd_ql ql i n i = 0 := by unfold sd_ql; rw [pm_us]; omega
        have a : sd_li life th i l i = 1 ∨ sd_li life th i l i = 2 := by
          unfold sd_li
          split
          · left; exact m1
          · right; rw [pm_upd_eq, if_pos rfl]
        refine ⟨by rcases a with a | a; exact Or.inr (Or.inl a); exact Or.inr (Or.inr a), s2, Or.inr b, s4, s5, hwo, hql, fun w => ?_, fun w => ?_, fun _ => ⟨y1, hql0⟩⟩
        · exact s8 (by rw [m1]; decide)
        · exact s9 (by rw [m1]; decide)
    · have a : sd_li life th s l i = life i := by
        unfold sd_li; split
        · rfl
        · rw [pm_upd_eq, if_neg y]
      have b : sd_we we s l i = we i := by
        unfold sd_we; split
        · rfl
        · rw [pm_upd_eq, if_neg y]
      have d : sd_ql ql s n i = ql i := by
        unfold sd_ql; rw [pm_un y]
      rw [a, b, d]
      exact ⟨s1, s2, s3, s4, s5, hwo, s7, s8, s9, s10⟩

variable {f_frameAt f_frameLength f_frameSort f_frameFlags f_frameStream f_down f_entryCount f_most f_typeSeen f_lastSender f_sentLength : Int32} {a_payload a_life a_theyEnded a_weEnded a_finishing a_codes a_windowIn a_windowOut a_headers a_headerCount a_entries a_kinds a_repeats a_messageCount a_text a_nodeCount a_nodeTypes a_valueCount a_valueOwners a_values a_skippedCount a_reader a_chainNode a_chainEnd a_queue a_queueLength a_sent a_nodeSize a_nodePlace : Nat → Int32} {yf_down yf_heads yf_paid yf_payload yf_wants yf_name yf_first yf_counts yf_enters yf_most yf_many yf_sent yf_last yf_nodes yf_values yf_skipped yf_pos yf_there yf_number yf_at : Int32} {ya_kind ya_repeated ya_how ya_code ya_coming ya_going ya_type ya_headers ya_header ya_queued ya_otherEnded ya_ended ya_finishing ya_queue ya_prefix ya_length ya_got ya_high ya_whole ya_has ya_bytes ya_frame ya_payloads ya_table ya_out ya_nodeType ya_valueNode ya_valueNumber ya_value ya_from ya_limit ya_inside ya_sizes : Nat → Int32} {l : Nat} {z : (Nat → Nat) × Nat} {Q ql wo wi : Nat → Nat}
theorem xo_nx {n k : Nat} {post : Int32 → Prop} (hS : cr_S a_life a_theyEnded ya_otherEnded a_weEnded a_finishing a_codes wi wo ql) (hl : l ≤ 7) (hk : k ≤ 7)
    (H7 : k = 7 → post 0) (Hy : k < 7 → cr_may a_life a_weEnded a_finishing wo ql ((l + k) % 7 + 1) → post (nI ((l + k) % 7 + 1)))
    (Hn : k < 7 → ¬ cr_may a_life a_weEnded a_finishing wo ql ((l + k) % 7 + 1) → wX_nextSender_2 post f_frameAt f_frameLength f_frameSort f_frameFlags f_frameStream f_down f_entryCount f_most f_typeSeen (nI l) f_sentLength a_payload a_life a_theyEnded a_weEnded a_finishing a_codes a_windowIn (an_f wo) a_headers a_headerCount a_entries a_kinds a_repeats a_messageCount a_text a_nodeCount a_nodeTypes a_valueCount a_valueOwners a_values a_skippedCount a_reader a_chainNode a_chainEnd a_queue (an_f ql) a_sent a_nodeSize a_nodePlace n (nI (k + 1))) :
    wX_nextSender_2 post f_frameAt f_frameLength f_frameSort f_frameFlags f_frameStream f_down f_entryCount f_most f_typeSeen (nI l) f_sentLength a_payload a_life a_theyEnded a_weEnded a_finishing a_codes a_windowIn (an_f wo) a_headers a_headerCount a_entries a_kinds a_repeats a_messageCount a_text a_nodeCount a_nodeTypes a_valueCount a_valueOwners a_values a_skippedCount a_reader a_chainNode a_chainEnd a_queue (an_f ql) a_sent a_nodeSize a_nodePlace (n + 1) (nI k) := by
  rw [wX_nextSender_2]
  refine pk_le 7 k (fun y => H7 (by omega)) (fun y => ⟨by decide, ?_⟩)
  have e : nI l + nI k - (nI l + nI k) / 7 * 7 + 1 = nI ((l + k) % 7 + 1) := by
    rw [nI_add]
    have := pk_rem (a := l + k) (d := 7) (by omega) (by omega) (by omega)
    rw [show (7 : Int32) = nI 7 from rfl, this, nI_1]
  refine nm_r e ?_
  have Hy := Hy y
  have Hn := Hn y
  have hs8 : (l + k) % 7 + 1 < 8 := by omega
  generalize (l + k) % 7 + 1 = s at *
  obtain ⟨g1, g2⟩ := xr_c8 hs8
  obtain ⟨s1, s2, s3, s4, s5, s6, s7, s8, s9, s10⟩ := hS.2 s hs8
  have h00 := (hS.2 0 (by omega)).2.2.2.2.2.1
  rw [g2]
  refine ⟨g1, br_c (fun y1 => ⟨g1, br_c (fun y2 => ⟨g1, ?_⟩) (fun y2 => ?_)⟩) (fun y1 => ?_)⟩
  · refine pk_le (ql s) 0 (fun y3 => ⟨g1, ?_⟩) (fun y3 => ⟨g1, ?_⟩) rfl rfl (by omega) (by omega)
    · unfold wX_nextSender_80
      refine br_c (fun y4 => nm_r (nI_1 _) (Hn ?_)) (fun y4 => Hy ⟨y1, y2, Or.inr ⟨by omega, ?_⟩⟩)
      · rintro ⟨_, _, w⟩
        rcases w with ⟨w, _⟩ | ⟨_, w⟩
        · omega
        · rw [y4] at w; exact absurd w (by decide)
      · rcases s4 with w | w
        · exact absurd w y4
        · exact w
    · refine pk_le (wo s) 0 (fun y4 => ?_) (fun y4 => ?_) rfl rfl (by omega) (by omega)
      · unfold wX_nextSender_70 wX_nextSender_80
        refine br_t rfl (nm_r (nI_1 _) (Hn ?_))
        rintro ⟨_, _, w⟩
        rcases w with ⟨_, w, _⟩ | ⟨w, _⟩ <;> omega
      · refine pk_le (wo 0) 0 (fun y5 => ?_) (fun y5 => ?_) rfl rfl (by omega) (by omega)
        · unfold wX_nextSender_70 wX_nextSender_80
          refine br_t rfl (nm_r (nI_1 _) (Hn ?_))
          rintro ⟨_, _, w⟩
          rcases w with ⟨_, _, w⟩ | ⟨w, _⟩ <;> omega
        · unfold wX_nextSender_80
          exact br_f (by decide) (Hy ⟨y1, y2, Or.inl ⟨y3, y4, y5⟩⟩)
  · exact nm_r (nI_1 _) (Hn (fun w => y2 w.2.1))
  · exact nm_r (nI_1 _) (Hn (fun w => y1 w.1))
theorem yo_may {s : Nat} {post : Int32 → Prop} (hs8 : s < 8) (hS : cr_S ya_how a_theyEnded ya_otherEnded ya_ended ya_finishing ya_code wi wo ql)
    (Hy : cr_may ya_how ya_ended ya_finishing wo ql s → post 1) (Hn : ¬ cr_may ya_how ya_ended ya_finishing wo ql s → post 0) :
    wpY_may post (yf_down, yf_heads, yf_paid, yf_payload, yf_wants, yf_name, yf_first, yf_counts, yf_enters, yf_most, yf_many, yf_sent, yf_last, yf_nodes, yf_values, yf_skipped, yf_pos, yf_there, yf_number, yf_at, ya_kind, ya_repeated, ya_how, ya_code, ya_coming, an_f wo, ya_type, ya_headers, ya_header, an_f ql, ya_otherEnded, ya_ended, ya_finishing, ya_queue, ya_prefix, ya_length, ya_got, ya_high, ya_whole, ya_has, ya_bytes, ya_frame, ya_payloads, ya_table, ya_out, ya_nodeType, ya_valueNode, ya_valueNumber, ya_value, ya_from, ya_limit, ya_inside, ya_sizes) (nI s) := by
  obtain ⟨g1, g2⟩ := xr_c8 hs8
  obtain ⟨s1, s2, s3, s4, s5, s6, s7, s8, s9, s10⟩ := hS.2 s hs8
  have h00 := (hS.2 0 (by omega)).2.2.2.2.2.1
  unfold wpY_may
  rw [g2]
  refine ⟨g1, br_c (fun y1 => ⟨g1, br_c (fun y2 => ⟨g1, ?_⟩) (fun y2 => Hn (fun w => y2 w.2.1))⟩) (fun y1 => Hn (fun w => y1 w.1))⟩
  refine pk_le (ql s) 0 (fun y3 => ⟨g1, ?_⟩) (fun y3 => ⟨g1, ?_⟩) rfl rfl (by omega) (by omega)
  · rcases s4 with w | w
    · rw [w]
      refine ⟨by rfl, Hn ?_⟩
      rintro ⟨_, _, v⟩
      rcases v with ⟨v, _⟩ | ⟨_, v⟩
      · omega
      · rw [w] at v; exact absurd v (by decide)
    · rw [w]
      exact ⟨by rfl, Hy ⟨y1, y2, Or.inr ⟨by omega, w⟩⟩⟩
  · refine pk_le (wo s) 0 (fun y4 => Hn ?_) (fun y4 => ?_) rfl rfl (by omega) (by omega)
    · rintro ⟨_, _, w⟩
      rcases w with ⟨_, w, _⟩ | ⟨w, _⟩ <;> omega
    · refine pk_le (wo 0) 0 (fun y5 => Hn ?_) (fun y5 => Hy ⟨y1, y2, Or.inl ⟨y3, y4, y5⟩⟩) rfl rfl (by omega) (by omega)
      rintro ⟨_, _, w⟩
      rcases w with ⟨_, _, w⟩ | ⟨w, _⟩ <;> omega
theorem yo_pp {n i b s : Nat} {post : SY → Prop} (hi : i < 7) (hb : b ≤ 7) (hs : s = b % 7 + 1) (hS : cr_S ya_how a_theyEnded ya_otherEnded ya_ended ya_finishing ya_code wi wo ql)
    (Hy : cr_may ya_how ya_ended ya_finishing wo ql s → ∀ P : SY → Prop, (∀ (yf_down : Int32) (yf_heads : Int32) (yf_paid : Int32) (yf_payload : Int32) (yf_wants : Int32) (yf_name : Int32) (yf_first : Int32) (yf_counts : Int32) (yf_enters : Int32) (yf_most : Int32) (yf_many : Int32) (yf_sent : Int32) (yf_last : Int32) (yf_nodes : Int32) (yf_values : Int32) (yf_skipped : Int32) (yf_pos : Int32) (yf_there : Int32) (yf_number : Int32) (yf_at : Int32) (ya_kind : Nat → Int32) (ya_repeated : Nat → Int32) (ya_how : Nat → Int32) (ya_code : Nat → Int32) (ya_coming : Nat → Int32) (ya_going : Nat → Int32) (ya_type : Nat → Int32) (ya_headers : Nat → Int32) (ya_header : Nat → Int32) (ya_queued : Nat → Int32) (ya_otherEnded : Nat → Int32) (ya_ended : Nat → Int32) (ya_finishing : Nat → Int32) (ya_queue : Nat → Int32) (ya_prefix : Nat → Int32) (ya_length : Nat → Int32) (ya_got : Nat → Int32) (ya_high : Nat → Int32) (ya_whole : Nat → Int32) (ya_has : Nat → Int32) (ya_bytes : Nat → Int32) (ya_frame : Nat → Int32) (ya_payloads : Nat → Int32) (ya_table : Nat → Int32) (ya_out : Nat → Int32) (ya_nodeType : Nat → Int32) (ya_valueNode : Nat → Int32) (ya_valueNumber : Nat → Int32) (ya_value : Nat → Int32) (ya_from : Nat → Int32) (ya_limit : Nat → Int32) (ya_inside : Nat → Int32) (ya_sizes : Nat → Int32), P (yf_down, yf_heads, yf_paid, yf_payload, yf_wants, yf_name, yf_first, yf_counts, yf_enters, yf_most, yf_many, yf_sent, yf_last, yf_nodes, yf_values, yf_skipped, yf_pos, yf_there, yf_number, yf_at, ya_kind, ya_repeated, ya_how, ya_code, ya_coming, ya_going, ya_type, ya_headers, ya_header, ya_queued, ya_otherEnded, ya_ended, ya_finishing, ya_queue, ya_prefix, ya_length, ya_got, ya_high, ya_whole, ya_has, ya_bytes, ya_frame, ya_payloads, ya_table, ya_out, ya_nodeType, ya_valueNode, ya_valueNumber, ya_value, ya_from, ya_limit, ya_inside, ya_sizes) = wY_pump_2 post n 0 yf_down yf_heads yf_paid yf_payload yf_wants yf_name yf_first yf_counts yf_enters yf_most yf_many yf_sent yf_last yf_nodes yf_values yf_skipped yf_pos yf_there yf_number yf_at ya_kind ya_repeated ya_how ya_code ya_coming ya_going ya_type ya_headers ya_header ya_queued ya_otherEnded ya_ended ya_finishing ya_queue ya_prefix ya_length ya_got ya_high ya_whole ya_has ya_bytes ya_frame ya_payloads ya_table ya_out ya_nodeType ya_valueNode ya_valueNumber ya_value ya_from ya_limit ya_inside ya_sizes) → wpY_send P (0, yf_heads, yf_paid, yf_payload, yf_wants, yf_name, yf_first, yf_counts, yf_enters, yf_most, yf_many, yf_sent, nI s, yf_nodes, yf_values, yf_skipped, yf_pos, yf_there, yf_number, yf_at, ya_kind, ya_repeated, ya_how, ya_code, ya_coming, an_f wo, ya_type, ya_headers, ya_header, an_f ql, ya_otherEnded, ya_ended, ya_finishing, ya_queue, ya_prefix, ya_length, ya_got, ya_high, ya_whole, ya_has, ya_bytes, ya_frame, ya_payloads, ya_table, ya_out, ya_nodeType, ya_valueNode, ya_valueNumber, ya_value, ya_from, ya_limit, ya_inside, ya_sizes) (nI s))
    (Hn : ¬ cr_may ya_how ya_ended ya_finishing wo ql s → wY_pump_2 post n (nI (i + 1)) (0) yf_heads yf_paid yf_payload yf_wants yf_name yf_first yf_counts yf_enters yf_most yf_many yf_sent (nI s) yf_nodes yf_values yf_skipped yf_pos yf_there yf_number yf_at ya_kind ya_repeated ya_how ya_code ya_coming (an_f wo) ya_type ya_headers ya_header (an_f ql) ya_otherEnded ya_ended ya_finishing ya_queue ya_prefix ya_length ya_got ya_high ya_whole ya_has ya_bytes ya_frame ya_payloads ya_table ya_out ya_nodeType ya_valueNode ya_valueNumber ya_value ya_from ya_limit ya_inside ya_sizes) :
    wY_pump_2 post (n + 1) (nI i) (0) yf_heads yf_paid yf_payload yf_wants yf_name yf_first yf_counts yf_enters yf_most yf_many yf_sent (nI b) yf_nodes yf_values yf_skipped yf_pos yf_there yf_number yf_at ya_kind ya_repeated ya_how ya_code ya_coming (an_f wo) ya_type ya_headers ya_header (an_f ql) ya_otherEnded ya_ended ya_finishing ya_queue ya_prefix ya_length ya_got ya_high ya_whole ya_has ya_bytes ya_frame ya_payloads ya_table ya_out ya_nodeType ya_valueNode ya_valueNumber ya_value ya_from ya_limit ya_inside ya_sizes := by
  rw [wY_pump_2]
  refine pk_le 7 i (fun y => absurd y (by omega)) (fun y => br_t rfl ⟨by decide, ?_⟩)
  have e : nI b - nI b / 7 * 7 + 1 = nI s := by
    have := pk_rem (a := b) (d := 7) (by omega) (by omega) (by omega)
    rw [show (7 : Int32) = nI 7 from rfl, this, nI_1, hs]
  refine nm_r e (yo_may (by omega) hS (fun w => ?_) (fun w => ?_))
  · refine br_f (by decide) ?_
    unfold wY_pump_48
    refine br_f (by decide) (Hy w _ ?_)
    intros; rfl
  · refine br_t rfl ?_
    unfold wY_pump_48
    refine br_t rfl ?_
    rw [nI_1]
    exact Hn w
theorem xo_nxL {n j : Nat} {post : Int32 → Prop} (hS : cr_S a_life a_theyEnded ya_otherEnded a_weEnded a_finishing a_codes wi wo ql) (hl : l ≤ 7) (hj : j ≤ 7)
    (hno : ∀ i, i < j → ¬ cr_may a_life a_weEnded a_finishing wo ql ((l + i) % 7 + 1))
    (H : wX_nextSender_2 post f_frameAt f_frameLength f_frameSort f_frameFlags f_frameStream f_down f_entryCount f_most f_typeSeen (nI l) f_sentLength a_payload a_life a_theyEnded a_weEnded a_finishing a_codes a_windowIn (an_f wo) a_headers a_headerCount a_entries a_kinds a_repeats a_messageCount a_text a_nodeCount a_nodeTypes a_valueCount a_valueOwners a_values a_skippedCount a_reader a_chainNode a_chainEnd a_queue (an_f ql) a_sent a_nodeSize a_nodePlace n (nI j)) : ∀ r k, k + r = j →
    wX_nextSender_2 post f_frameAt f_frameLength f_frameSort f_frameFlags f_frameStream f_down f_entryCount f_most f_typeSeen (nI l) f_sentLength a_payload a_life a_theyEnded a_weEnded a_finishing a_codes a_windowIn (an_f wo) a_headers a_headerCount a_entries a_kinds a_repeats a_messageCount a_text a_nodeCount a_nodeTypes a_valueCount a_valueOwners a_values a_skippedCount a_reader a_chainNode a_chainEnd a_queue (an_f ql) a_sent a_nodeSize a_nodePlace (n + r) (nI k)
  | 0, k, hk => by
    have : k = j := by omega
    subst this; exact H
  | r + 1, k, hk => xo_nx hS hl (by omega) (fun y => absurd y (by omega)) (fun _ y => absurd y (hno k (by omega))) (fun _ _ => xo_nxL hS hl hj hno H r (k + 1) (by omega))
/-- where the reference looks -/
def pu_b (l i : Nat) : Nat := if i = 0 then (if l = 0 then 7 else l) else (l + i - 1) % 7 + 1
theorem pu_b_s {l i : Nat} : pu_b l (i + 1) = pu_b l i % 7 + 1 := by
  unfold pu_b
  rw [if_neg (by omega)]
  split
  · split <;> omega
  · omega
theorem pu_b_le {l i : Nat} (hl : l ≤ 7) : pu_b l i ≤ 7 := by
  unfold pu_b
  split
  · split <;> omega
  · omega
theorem yo_ppL {n j : Nat} {post : SY → Prop} (hS : cr_S ya_how a_theyEnded ya_otherEnded ya_ended ya_finishing ya_code wi wo ql) (hl : l ≤ 7) (hj : j ≤ 7)
    (hno : ∀ i, i < j → ¬ cr_may ya_how ya_ended ya_finishing wo ql ((l + i) % 7 + 1))
    (H : wY_pump_2 post n (nI j) (0) yf_heads yf_paid yf_payload yf_wants yf_name yf_first yf_counts yf_enters yf_most yf_many yf_sent (nI (pu_b l j)) yf_nodes yf_values yf_skipped yf_pos yf_there yf_number yf_at ya_kind ya_repeated ya_how ya_code ya_coming (an_f wo) ya_type ya_headers ya_header (an_f ql) ya_otherEnded ya_ended ya_finishing ya_queue ya_prefix ya_length ya_got ya_high ya_whole ya_has ya_bytes ya_frame ya_payloads ya_table ya_out ya_nodeType ya_valueNode ya_valueNumber ya_value ya_from ya_limit ya_inside ya_sizes) : ∀ r i, i + r = j →
    wY_pump_2 post (n + r) (nI i) (0) yf_heads yf_paid yf_payload yf_wants yf_name yf_first yf_counts yf_enters yf_most yf_many yf_sent (nI (pu_b l i)) yf_nodes yf_values yf_skipped yf_pos yf_there yf_number yf_at ya_kind ya_repeated ya_how ya_code ya_coming (an_f wo) ya_type ya_headers ya_header (an_f ql) ya_otherEnded ya_ended ya_finishing ya_queue ya_prefix ya_length ya_got ya_high ya_whole ya_has ya_bytes ya_frame ya_payloads ya_table ya_out ya_nodeType ya_valueNode ya_valueNumber ya_value ya_from ya_limit ya_inside ya_sizes
  | 0, i, hi => by
    have : i = j := by omega
    subst this; exact H
  | r + 1, i, hi => by
    have hb : pu_b l (i + 1) = (l + i) % 7 + 1 := by
      unfold pu_b; rw [if_neg (by omega)]; rfl
    refine yo_pp (by omega) (pu_b_le hl) pu_b_s hS (fun y => ?_) (fun _ => yo_ppL hS hl hj hno H r (i + 1) (by omega))
    rw [hb] at y
    exact absurd y (hno i (by omega))
/-- the loops of both sides, to one end -/
theorem pu_main : ∀ N (a_life a_weEnded : Nat → Int32) (wo ql Q : Nat → Nat) (z : (Nat → Nat) × Nat) (l : Nat),
    cr_S a_life a_theyEnded ya_otherEnded a_weEnded a_finishing a_codes wi wo ql → ou_I z → cr_B Q → l ≤ 7 → pu_m a_life a_weEnded wo ≤ N →
    ∃ (life' we' : Nat → Int32) (wo' ql' Q' : Nat → Nat) (z' : (Nat → Nat) × Nat) (l' : Nat),
      cr_S life' a_theyEnded ya_otherEnded we' a_finishing a_codes wi wo' ql' ∧ ou_I z' ∧ cr_B Q' ∧ l' ≤ 7 ∧ cr_Q life' we' a_finishing wo' ql' ∧ (∀ s, life' s = a_life s ∨ (a_life s = 1 ∧ life' s = 2)) ∧
      (∀ (post : SX → Prop) turn n, turn + N < 100000 → N < n → post (f_frameAt, f_frameLength, f_frameSort, f_frameFlags, f_frameStream, f_down, f_entryCount, f_most, f_typeSeen, nI l', nI z'.2, a_payload, life', a_theyEnded, we', a_finishing, a_codes, a_windowIn, an_f wo', a_headers, a_headerCount, a_entries, a_kinds, a_repeats, a_messageCount, a_text, a_nodeCount, a_nodeTypes, a_valueCount, a_valueOwners, a_values, a_skippedCount, a_reader, a_chainNode, a_chainEnd, an_f Q', an_f ql', an_f z'.1, a_nodeSize, a_nodePlace) →
        wX_sendQueues_2 post n (nI turn) f_frameAt f_frameLength f_frameSort f_frameFlags f_frameStream f_down f_entryCount f_most f_typeSeen (nI l) (nI z.2) a_payload a_life a_theyEnded a_weEnded a_finishing a_codes a_windowIn (an_f wo) a_headers a_headerCount a_entries a_kinds a_repeats a_messageCount a_text a_nodeCount a_nodeTypes a_valueCount a_valueOwners a_values a_skippedCount a_reader a_chainNode a_chainEnd (an_f Q) (an_f ql) (an_f z.1) a_nodeSize a_nodePlace) ∧
      (∀ (post : SY → Prop) n, 8 * N + 8 ≤ n → post (0, yf_heads, yf_paid, yf_payload, yf_wants, yf_name, yf_first, yf_counts, yf_enters, yf_most, yf_many, nI z'.2, nI (if l' = 0 then 7 else l'), yf_nodes, yf_values, yf_skipped, yf_pos, yf_there, yf_number, yf_at, ya_kind, ya_repeated, life', a_codes, ya_coming, an_f wo', ya_type, ya_headers, ya_header, an_f ql', ya_otherEnded, we', a_finishing, an_g Q', ya_prefix, ya_length, ya_got, ya_high, ya_whole, ya_has, ya_bytes, ya_frame, ya_payloads, ya_table, an_g z'.1, ya_nodeType, ya_valueNode, ya_valueNumber, ya_value, ya_from, ya_limit, ya_inside, ya_sizes) →
        wY_pump_2 post n 0 (0) yf_heads yf_paid yf_payload yf_wants yf_name yf_first yf_counts yf_enters yf_most yf_many (nI z.2) (nI (if l = 0 then 7 else l)) yf_nodes yf_values yf_skipped yf_pos yf_there yf_number yf_at ya_kind ya_repeated (a_life) (a_codes) ya_coming (an_f wo) ya_type ya_headers ya_header (an_f ql) ya_otherEnded (a_weEnded) (a_finishing) (an_g Q) ya_prefix ya_length ya_got ya_high ya_whole ya_has ya_bytes ya_frame ya_payloads ya_table (an_g z.1) ya_nodeType ya_valueNode ya_valueNumber ya_value ya_from ya_limit ya_inside ya_sizes) := by
  have hnone : ∀ N (a_life a_weEnded : Nat → Int32) (wo ql Q : Nat → Nat) (z : (Nat → Nat) × Nat) (l : Nat), cr_S a_life a_theyEnded ya_otherEnded a_weEnded a_finishing a_codes wi wo ql → ou_I z → cr_B Q → l ≤ 7 →
      (∀ j, j < 7 → ¬ cr_may a_life a_weEnded a_finishing wo ql ((l + j) % 7 + 1)) →
    ∃ (life' we' : Nat → Int32) (wo' ql' Q' : Nat → Nat) (z' : (Nat → Nat) × Nat) (l' : Nat),
      cr_S life' a_theyEnded ya_otherEnded we' a_finishing a_codes wi wo' ql' ∧ ou_I z' ∧ cr_B Q' ∧ l' ≤ 7 ∧ cr_Q life' we' a_finishing wo' ql' ∧ (∀ s, life' s = a_life s ∨ (a_life s = 1 ∧ life' s = 2)) ∧
      (∀ (post : SX → Prop) turn n, turn + N < 100000 → N < n → post (f_frameAt, f_frameLength, f_frameSort, f_frameFlags, f_frameStream, f_down, f_entryCount, f_most, f_typeSeen, nI l', nI z'.2, a_payload, life', a_theyEnded, we', a_finishing, a_codes, a_windowIn, an_f wo', a_headers, a_headerCount, a_entries, a_kinds, a_repeats, a_messageCount, a_text, a_nodeCount, a_nodeTypes, a_valueCount, a_valueOwners, a_values, a_skippedCount, a_reader, a_chainNode, a_chainEnd, an_f Q', an_f ql', an_f z'.1, a_nodeSize, a_nodePlace) →
        wX_sendQueues_2 post n (nI turn) f_frameAt f_frameLength f_frameSort f_frameFlags f_frameStream f_down f_entryCount f_most f_typeSeen (nI l) (nI z.2) a_payload a_life a_theyEnded a_weEnded a_finishing a_codes a_windowIn (an_f wo) a_headers a_headerCount a_entries a_kinds a_repeats a_messageCount a_text a_nodeCount a_nodeTypes a_valueCount a_valueOwners a_values a_skippedCount a_reader a_chainNode a_chainEnd (an_f Q) (an_f ql) (an_f z.1) a_nodeSize a_nodePlace) ∧
      (∀ (post : SY → Prop) n, 8 * N + 8 ≤ n → post (0, yf_heads, yf_paid, yf_payload, yf_wants, yf_name, yf_first, yf_counts, yf_enters, yf_most, yf_many, nI z'.2, nI (if l' = 0 then 7 else l'), yf_nodes, yf_values, yf_skipped, yf_pos, yf_there, yf_number, yf_at, ya_kind, ya_repeated, life', a_codes, ya_coming, an_f wo', ya_type, ya_headers, ya_header, an_f ql', ya_otherEnded, we', a_finishing, an_g Q', ya_prefix, ya_length, ya_got, ya_high, ya_whole, ya_has, ya_bytes, ya_frame, ya_payloads, ya_table, an_g z'.1, ya_nodeType, ya_valueNode, ya_valueNumber, ya_value, ya_from, ya_limit, ya_inside, ya_sizes) →
        wY_pump_2 post n 0 (0) yf_heads yf_paid yf_payload yf_wants yf_name yf_first yf_counts yf_enters yf_most yf_many (nI z.2) (nI (if l = 0 then 7 else l)) yf_nodes yf_values yf_skipped yf_pos yf_there yf_number yf_at ya_kind ya_repeated (a_life) (a_codes) ya_coming (an_f wo) ya_type ya_headers ya_header (an_f ql) ya_otherEnded (a_weEnded) (a_finishing) (an_g Q) ya_prefix ya_length ya_got ya_high ya_whole ya_has ya_bytes ya_frame ya_payloads ya_table (an_g z.1) ya_nodeType ya_valueNode ya_valueNumber ya_value ya_from ya_limit ya_inside ya_sizes) := by
    intro N a_life a_weEnded wo ql Q z l hS hO hQ hl hno
    refine ⟨a_life, a_weEnded, wo, ql, Q, z, l, hS, hO, hQ, hl, ?_, fun s => Or.inl rfl, ?_, ?_⟩
    · intro s h1 h8 hm
      have := hno ((s + 13 - l) % 7) (by omega)
      rw [show (l + (s + 13 - l) % 7) % 7 + 1 = s by omega] at this
      exact this hm
    · intro post turn n ht hn H
      obtain ⟨n, rfl⟩ : ∃ m, n = m + 1 := ⟨n - 1, by omega⟩
      rw [wX_sendQueues_2]
      refine pk_le 100000 turn (fun y => absurd y (by omega)) (fun _ => ?_)
      unfold wpX_nextSender
      refine ⟨1 + 7, xo_nxL hS hl (Nat.le_refl _) hno ?_ 7 0 rfl⟩
      rw [wX_nextSender_2]
      exact br_t (by decide) (br_t rfl H)
    · intro post n hn H
      obtain ⟨n, rfl⟩ : ∃ m, n = (m + 1) + 7 := ⟨n - 8, by omega⟩
      refine yo_ppL (n := n + 1) (j := 7) hS hl (Nat.le_refl _) hno ?_ 7 0 rfl
      rw [wY_pump_2]
      have e : pu_b l 7 = if l = 0 then 7 else l := by
        unfold pu_b
        rw [if_neg (by omega)]
        split <;> omega
      rw [e]
      exact br_t (by decide) H
  intro N
  induction N with
  | zero =>
    intro a_life a_weEnded wo ql Q z l hS hO hQ hl hm
    refine hnone 0 a_life a_weEnded wo ql Q z l hS hO hQ hl (fun j hj y => ?_)
    have := pu_m_lt hS (by omega) (by omega) y rfl rfl
    omega
  | succ N ih =>
    intro a_life a_weEnded wo ql Q z l hS hO hQ hl hm
    by_cases hex : ∃ j, j < 7 ∧ cr_may a_life a_weEnded a_finishing wo ql ((l + j) % 7 + 1)
    · obtain ⟨j, ⟨hj, hy⟩, hmin⟩ := pu_least _ hex
      have hno : ∀ i, i < j → ¬ cr_may a_life a_weEnded a_finishing wo ql ((l + i) % 7 + 1) := fun i hi y => hmin i hi ⟨by omega, y⟩
      have hs1 : 1 ≤ (l + j) % 7 + 1 := by omega
      have hs8 : (l + j) % 7 + 1 < 8 := by omega
      have hlt := pu_m_lt hS hs1 hs8 hy rfl rfl
      have hS' := pu_S hS hs1 hs8 hy rfl rfl
      obtain ⟨n1, n2, n3, n4⟩ := sd_n_le ql wo ((l + j) % 7 + 1)
      have hsl : sd_l a_finishing ql wo ((l + j) % 7 + 1) ≤ 1 := by
        unfold sd_l
        split
        · omega
        · split <;> omega
      generalize hs : (l + j) % 7 + 1 = s at *
      generalize hn : sd_n ql wo s = n at *
      generalize hll : sd_l a_finishing ql wo s = ll at *
      obtain ⟨s1, s2, s3, s4, s5, s6, s7, s8, s9, s10⟩ := hS.2 s hs8
      have h00 := (hS.2 0 (by omega)).2.2.2.2.2.1
      have hot : ya_otherEnded s = a_theyEnded s := s8 (by rw [hy.1]; decide)
      have hO' : ou_I (sd_z z Q s n ll) := by
        unfold sd_z
        refine ou_L_I (ou_L_I hO ?_) ?_
        · intro b hb
          simp only [List.mem_cons, List.not_mem_nil, or_false] at hb
          rcases hb with hb | hb | hb | hb <;> omega
        · intro b hb
          unfold sd_bs at hb
          obtain ⟨i, _, rfl⟩ := List.mem_map.mp hb
          exact hQ _
      have hQ' : cr_B (sd_Q Q s n (ql s)) := by
        intro i
        unfold sd_Q
        split
        · exact hQ _
        · exact hQ _
      obtain ⟨life', we', wo', ql', Q', z', l', r1, r2, r3, r4, r5, r6, r7, r8⟩ := ih _ _ _ _ _ _ s hS' hO' hQ' (by omega) (by omega)
      refine ⟨life', we', wo', ql', Q', z', l', r1, r2, r3, r4, r5, fun i => ?_, ?_, ?_⟩
      · have : sd_li a_life a_theyEnded s ll i = a_life i ∨ (a_life i = 1 ∧ sd_li a_life a_theyEnded s ll i = 2) := by
          unfold sd_li
          split
          · exact Or.inl rfl
          · by_cases y : i = s
            · subst y; right; exact ⟨hy.1, by rw [pm_upd_eq, if_pos rfl]⟩
            · left; rw [pm_upd_eq, if_neg y]
        rcases r6 i with y | ⟨y, y'⟩
        · rw [y]; exact this
        · rcases this with w | ⟨w, w'⟩
          · rw [w] at y; exact Or.inr ⟨y, y'⟩
          · rw [w'] at y; exact absurd y (by decide)
      · intro post turn m ht hmm H
        obtain ⟨m, rfl⟩ : ∃ m', m = m' + 1 := ⟨m - 1, by omega⟩
        rw [wX_sendQueues_2]
        refine pk_le 100000 turn (fun y => absurd y (by omega)) (fun _ => ?_)
        unfold wpX_nextSender
        refine ⟨1 + j, xo_nxL (n := 1) hS hl (by omega) hno ?_ j 0 (by omega)⟩
        refine xo_nx hS hl (by omega) (fun y => absurd y (by omega)) (fun _ _ => ?_) (fun _ y => absurd (by rw [hs]; exact hy) y)
        rw [hs]
        refine br_f (fun y => ?_) ?_
        · have := (nI_eq (a := s) (b := 0) (by omega) (by omega)).mp y
          omega
        · exact xo_sendData (by omega) hs8 s7 s6 h00 hO.1 hn.symm hll.symm (nm_r (nI_1 _) (r7 post (turn + 1) m (by omega) (by omega) H))
      · intro post m hmm H
        obtain ⟨m, rfl⟩ : ∃ m', m = (m' + 1) + j := ⟨m - j - 1, by omega⟩
        refine yo_ppL (n := m + 1) (j := j) hS hl (by omega) hno ?_ j 0 (by omega)
        have hb : pu_b l j % 7 + 1 = s := by
          rw [← pu_b_s]; unfold pu_b; rw [if_neg (by omega)]; exact hs
        refine yo_pp hj (pu_b_le hl) hb.symm hS (fun _ P hP => ?_) (fun y => absurd hy y)
        refine yo_send (by omega) hs8 s7 s6 h00 hO.1 hn.symm hll.symm (fun y1 y2 => ⟨s9 (by rw [hy.1]; decide) (by omega), ?_⟩) ?_
        · rw [← hll] at y1
          unfold sd_l at y1
          split at y1
          · omega
          · split at y1
            · rename_i w; rw [← hn]; exact w
            · omega
        · rw [hP]
          have e : sd_li a_life ya_otherEnded s ll = sd_li a_life a_theyEnded s ll := by
            unfold sd_li; rw [hot]
          rw [e]
          have := r8 post m (by omega) H
          rw [if_neg (by omega)] at this
          exact this
    · exact hnone (N + 1) a_life a_weEnded wo ql Q z l hS hO hQ hl (fun j hj y => hex ⟨j, hj, y⟩)
end
end
section
/-! U: calls that change little -/
section
variable {f_frameAt f_frameLength f_frameSort f_frameFlags f_frameStream f_down f_entryCount f_most f_typeSeen f_lastSender f_sentLength : Int32} {a_payload a_life a_theyEnded a_weEnded a_finishing a_codes a_windowIn a_windowOut a_headers a_headerCount a_entries a_kinds a_repeats a_messageCount a_text a_nodeCount a_nodeTypes a_valueCount a_valueOwners a_values a_skippedCount a_reader a_chainNode a_chainEnd a_queue a_queueLength a_sent a_nodeSize a_nodePlace : Nat → Int32} {yf_down yf_heads yf_paid yf_payload yf_wants yf_name yf_first yf_counts yf_enters yf_most yf_many yf_sent yf_last yf_nodes yf_values yf_skipped yf_pos yf_there yf_number yf_at : Int32} {ya_kind ya_repeated ya_how ya_code ya_coming ya_going ya_type ya_headers ya_header ya_queued ya_otherEnded ya_ended ya_finishing ya_queue ya_prefix ya_length ya_got ya_high ya_whole ya_has ya_bytes ya_frame ya_payloads ya_table ya_out ya_nodeType ya_valueNode ya_valueNumber ya_value ya_from ya_limit ya_inside ya_sizes : Nat → Int32}
theorem cr_m_life {k : Nat} {K : Nat → Nat} {R : Nat → Bool} {s : Nat} {tx : Nat → Nat} {life life' mc nc nt vc vo va sk rd cn ce ty le go hi ha pr : Nat → Int32}
    (h' : life' s = life s ∨ (life s ≠ 0 ∧ life' s = 2)) (h : cr_m k K R s tx life mc nc nt vc vo va sk rd cn ce ty le go hi ha pr) : cr_m k K R s tx life' mc nc nt vc vo va sk rd cn ce ty le go hi ha pr := by
  obtain ⟨p, m, y, h1, h2, h3, h4, h5, h6, h7, h8, h9, h10, h11, h12⟩ := h
  rcases h' with e | ⟨e1, e2⟩
  · exact ⟨p, m, y, h1, h2, h3, h4, h5, h6, h7, by rw [e]; exact h8, h9, by rw [e]; exact h10, h11, by rw [e]; exact h12⟩
  · refine ⟨p, m, y, h1, h2, h3, h4, h5, h6, h7, fun w => ?_, h9, fun w => ?_, h11, fun _ w => ?_⟩
    · rw [e2] at w; exact absurd w (by decide)
    · rcases w with w | w
      · rw [e2] at w; exact absurd w (by decide)
      · exact h10 (Or.inr w)
    · rw [e2] at w; exact absurd w (by decide)
theorem cr_F_life {life life' fr pl pls : Nat → Int32} {fAt n so fl st h p : Nat} {counts wants first : Int32} (h' : ∀ s, life' s = life s ∨ (life s ≠ 0 ∧ life' s = 2))
    (H : cr_F life fr pl pls fAt n so fl st h p counts wants first) : cr_F life' fr pl pls fAt n so fl st h p counts wants first := by
  obtain ⟨f1, f2, f3, f4, f5, f6, f7, f8, f9⟩ := H
  refine ⟨f1, f2, f3, f4, f5, f6, f7, f8, ?_⟩
  rcases f9 with f9 | ⟨g1, g2, g3, g4, g5, g6, g7, g8, g9, g10, g11, g12, g13⟩
  · exact Or.inl f9
  · have hne : life st ≠ 0 → life' st ≠ 0 := by
      intro w
      rcases h' st with e | ⟨_, e⟩
      · rw [e]; exact w
      · rw [e]; decide
    refine Or.inr ⟨g1, g2, g3, g4, g5, fun w => ?_, g7, g8, g9, g10, g11, fun w w' => hne (g12 w w'), g13⟩
    obtain ⟨a1, a2, a3⟩ := g6 w
    refine ⟨a1, hne a2, ?_⟩
    rcases a3 with a3 | ⟨a3, a4⟩
    · exact Or.inl a3
    · refine Or.inr ⟨a3, ?_⟩
      rcases h' st with e | ⟨_, e⟩
      · rw [e]; exact a4
      · exact e
/-- a stream is shut -/
theorem cr_S_shut {life th ot we fi co : Nat → Int32} {wi wo ql : Nat → Nat} {s : Nat} {x : Int32} (hs0 : 0 < s) (hS : cr_S life th ot we fi co wi wo ql) :
    cr_S (upd life s 2) th ot we fi (upd co s x) wi wo (pm_u ql s 0) := by
  refine ⟨by rw [pm_upd_eq, if_neg (by omega)]; exact hS.1, fun i hi => ?_⟩
  obtain ⟨s1, s2, s3, s4, s5, s6, s7, s8, s9, s10⟩ := hS.2 i hi
  by_cases y : i = s
  · subst y
    rw [pm_upd_eq, if_pos rfl, pm_us, pm_upd_eq, if_pos rfl]
    exact ⟨Or.inr (Or.inr rfl), s2, s3, s4, s5, s6, by omega, fun w => absurd rfl w, fun w => absurd rfl w, fun w => ⟨(s10 w).1, rfl⟩⟩
  · rw [pm_upd_eq, if_neg y, pm_un y, pm_upd_eq, if_neg y]
    exact ⟨s1, s2, s3, s4, s5, s6, s7, s8, s9, s10⟩
theorem cr_Q_shut {life we fi : Nat → Int32} {wo ql : Nat → Nat} {s : Nat} (h : cr_Q life we fi wo ql) : cr_Q (upd life s 2) we fi wo (pm_u ql s 0) := by
  intro i h1 h8 hm
  by_cases y : i = s
  · subst y
    have := hm.1
    rw [pm_upd_eq, if_pos rfl] at this
    exact absurd this (by decide)
  · refine h i h1 h8 ?_
    obtain ⟨a, b, c⟩ := hm
    rw [pm_upd_eq, if_neg y] at a
    rw [pm_un y] at c
    exact ⟨a, b, c⟩
theorem cr_l2 {life : Nat → Int32} {s : Nat} (h : life s ≠ 0) : ∀ i, upd life s 2 i = life i ∨ (life i ≠ 0 ∧ upd life s 2 i = 2) := by
  intro i
  by_cases y : i = s
  · subst y; right; exact ⟨h, by rw [pm_upd_eq, if_pos rfl]⟩
  · left; rw [pm_upd_eq, if_neg y]
theorem xs_open_t {post : Int32 → Prop} {s : Nat} (h1 : 1 ≤ s) (h8 : s < 8) (ho : a_life s = 1) (h : post 1) : wpX_isOpen post (f_frameAt, f_frameLength, f_frameSort, f_frameFlags, f_frameStream, f_down, f_entryCount, f_most, f_typeSeen, f_lastSender, f_sentLength, a_payload, a_life, a_theyEnded, a_weEnded, a_finishing, a_codes, a_windowIn, a_windowOut, a_headers, a_headerCount, a_entries, a_kinds, a_repeats, a_messageCount, a_text, a_nodeCount, a_nodeTypes, a_valueCount, a_valueOwners, a_values, a_skippedCount, a_reader, a_chainNode, a_chainEnd, a_queue, a_queueLength, a_sent, a_nodeSize, a_nodePlace) (nI s) := by
  obtain ⟨g1, g2, g3, g4, g5⟩ := lk_s s h8
  unfold wpX_isOpen
  rw [g5]
  exact br_f (g4 h1).1 (br_f g3 ⟨lk_in h8, br_t ho h⟩)
theorem xs_open_f {post : Int32 → Prop} {s : Nat} (h1 : 1 ≤ s) (h8 : s < 8) (ho : ¬ a_life s = 1) (h : post 0) : wpX_isOpen post (f_frameAt, f_frameLength, f_frameSort, f_frameFlags, f_frameStream, f_down, f_entryCount, f_most, f_typeSeen, f_lastSender, f_sentLength, a_payload, a_life, a_theyEnded, a_weEnded, a_finishing, a_codes, a_windowIn, a_windowOut, a_headers, a_headerCount, a_entries, a_kinds, a_repeats, a_messageCount, a_text, a_nodeCount, a_nodeTypes, a_valueCount, a_valueOwners, a_values, a_skippedCount, a_reader, a_chainNode, a_chainEnd, a_queue, a_queueLength, a_sent, a_nodeSize, a_nodePlace) (nI s) := by
  obtain ⟨g1, g2, g3, g4, g5⟩ := lk_s s h8
  unfold wpX_isOpen
  rw [g5]
  exact br_f (g4 h1).1 (br_f g3 ⟨lk_in h8, br_f ho h⟩)
theorem xs_open_n {post : Int32 → Prop} {x : Int32} (hx : x < 1 ∨ (¬ x < 1 ∧ 7 < x)) (h : post 0) : wpX_isOpen post (f_frameAt, f_frameLength, f_frameSort, f_frameFlags, f_frameStream, f_down, f_entryCount, f_most, f_typeSeen, f_lastSender, f_sentLength, a_payload, a_life, a_theyEnded, a_weEnded, a_finishing, a_codes, a_windowIn, a_windowOut, a_headers, a_headerCount, a_entries, a_kinds, a_repeats, a_messageCount, a_text, a_nodeCount, a_nodeTypes, a_valueCount, a_valueOwners, a_values, a_skippedCount, a_reader, a_chainNode, a_chainEnd, a_queue, a_queueLength, a_sent, a_nodeSize, a_nodePlace) x := by
  unfold wpX_isOpen
  rcases hx with g | ⟨g1, g2⟩
  · exact br_t g h
  · exact br_f g1 (br_t g2 h)
theorem ys_open_t {post : Int32 → Prop} {s : Nat} (h1 : 1 ≤ s) (h8 : s < 8) (ho : ya_how s = 1) (hd : yf_down = 0) (h : post 1) : wpY_isOpen post (yf_down, yf_heads, yf_paid, yf_payload, yf_wants, yf_name, yf_first, yf_counts, yf_enters, yf_most, yf_many, yf_sent, yf_last, yf_nodes, yf_values, yf_skipped, yf_pos, yf_there, yf_number, yf_at, ya_kind, ya_repeated, ya_how, ya_code, ya_coming, ya_going, ya_type, ya_headers, ya_header, ya_queued, ya_otherEnded, ya_ended, ya_finishing, ya_queue, ya_prefix, ya_length, ya_got, ya_high, ya_whole, ya_has, ya_bytes, ya_frame, ya_payloads, ya_table, ya_out, ya_nodeType, ya_valueNode, ya_valueNumber, ya_value, ya_from, ya_limit, ya_inside, ya_sizes) (nI s) := by
  obtain ⟨g1, g2, g3, g4, g5⟩ := lk_s s h8
  unfold wpY_isOpen
  rw [g5]
  exact yn_in (g4 h1).1 g2 (br_t rfl ⟨lk_in h8, br_t ho (br_t hd h)⟩)
theorem ys_open_f {post : Int32 → Prop} {s : Nat} (h1 : 1 ≤ s) (h8 : s < 8) (ho : ¬ ya_how s = 1 ∨ ¬ yf_down = 0) (h : post 0) : wpY_isOpen post (yf_down, yf_heads, yf_paid, yf_payload, yf_wants, yf_name, yf_first, yf_counts, yf_enters, yf_most, yf_many, yf_sent, yf_last, yf_nodes, yf_values, yf_skipped, yf_pos, yf_there, yf_number, yf_at, ya_kind, ya_repeated, ya_how, ya_code, ya_coming, ya_going, ya_type, ya_headers, ya_header, ya_queued, ya_otherEnded, ya_ended, ya_finishing, ya_queue, ya_prefix, ya_length, ya_got, ya_high, ya_whole, ya_has, ya_bytes, ya_frame, ya_payloads, ya_table, ya_out, ya_nodeType, ya_valueNode, ya_valueNumber, ya_value, ya_from, ya_limit, ya_inside, ya_sizes) (nI s) := by
  obtain ⟨g1, g2, g3, g4, g5⟩ := lk_s s h8
  unfold wpY_isOpen
  rw [g5]
  refine yn_in (g4 h1).1 g2 (br_t rfl ⟨lk_in h8, ?_⟩)
  by_cases y : ya_how s = 1
  · rcases ho with w | w
    · exact absurd y w
    · exact br_t y (br_f w h)
  · exact br_f y h
theorem ys_open_n {post : Int32 → Prop} {x : Int32} (hx : x < 1 ∨ (¬ x < 1 ∧ ¬ x ≤ 7)) (h : post 0) : wpY_isOpen post (yf_down, yf_heads, yf_paid, yf_payload, yf_wants, yf_name, yf_first, yf_counts, yf_enters, yf_most, yf_many, yf_sent, yf_last, yf_nodes, yf_values, yf_skipped, yf_pos, yf_there, yf_number, yf_at, ya_kind, ya_repeated, ya_how, ya_code, ya_coming, ya_going, ya_type, ya_headers, ya_header, ya_queued, ya_otherEnded, ya_ended, ya_finishing, ya_queue, ya_prefix, ya_length, ya_got, ya_high, ya_whole, ya_has, ya_bytes, ya_frame, ya_payloads, ya_table, ya_out, ya_nodeType, ya_valueNode, ya_valueNumber, ya_value, ya_from, ya_limit, ya_inside, ya_sizes) x := by
  unfold wpY_isOpen
  rcases hx with g | ⟨g1, g2⟩
  · exact yn_lo g (br_f (by decide) h)
  · exact yn_hi g1 g2 (br_f (by decide) h)
theorem yo_quiet {l : Nat} {wo ql wi : Nat → Nat} {post : SY → Prop} (hS : cr_S ya_how a_theyEnded ya_otherEnded ya_ended ya_finishing ya_code wi wo ql) (hl : l ≤ 7) (hq : cr_Q ya_how ya_ended ya_finishing wo ql)
    (H : post (0, yf_heads, yf_paid, yf_payload, yf_wants, yf_name, yf_first, yf_counts, yf_enters, yf_most, yf_many, yf_sent, nI (if l = 0 then 7 else l), yf_nodes, yf_values, yf_skipped, yf_pos, yf_there, yf_number, yf_at, ya_kind, ya_repeated, ya_how, ya_code, ya_coming, an_f wo, ya_type, ya_headers, ya_header, an_f ql, ya_otherEnded, ya_ended, ya_finishing, ya_queue, ya_prefix, ya_length, ya_got, ya_high, ya_whole, ya_has, ya_bytes, ya_frame, ya_payloads, ya_table, ya_out, ya_nodeType, ya_valueNode, ya_valueNumber, ya_value, ya_from, ya_limit, ya_inside, ya_sizes)) :
    wpY_pump post (0, yf_heads, yf_paid, yf_payload, yf_wants, yf_name, yf_first, yf_counts, yf_enters, yf_most, yf_many, yf_sent, nI (if l = 0 then 7 else l), yf_nodes, yf_values, yf_skipped, yf_pos, yf_there, yf_number, yf_at, ya_kind, ya_repeated, ya_how, ya_code, ya_coming, an_f wo, ya_type, ya_headers, ya_header, an_f ql, ya_otherEnded, ya_ended, ya_finishing, ya_queue, ya_prefix, ya_length, ya_got, ya_high, ya_whole, ya_has, ya_bytes, ya_frame, ya_payloads, ya_table, ya_out, ya_nodeType, ya_valueNode, ya_valueNumber, ya_value, ya_from, ya_limit, ya_inside, ya_sizes) := by
  unfold wpY_pump
  refine ⟨1 + 7, yo_ppL (n := 1) (j := 7) hS hl (Nat.le_refl _) (fun i _ => hq _ (by omega) (by omega)) ?_ 7 0 rfl⟩
  rw [wY_pump_2]
  have e : pu_b l 7 = if l = 0 then 7 else l := by
    unfold pu_b
    rw [if_neg (by omega)]
    split <;> omega
  rw [e]
  exact br_t (by decide) H
theorem i_vc_cancel {k : Nat} {u : SX} {v : SY} (I : i_Rel k u v) (hk : k + 6 ≤ 3072) (v1 : Int32) (v2 : Int32) : wpX_cancel (fun r u' => wpY_cancel (fun r' v' => r' = r ∧ i_Rel (k + 6) u' v') v v1 v2) u v1 v2 := by
  have J := i_up I
  obtain ⟨⟨⟨K, R, z⟩, ⟨fAt, n, so, fl, st, h, p, m, M, l⟩, ⟨wi, wo, ql, hc, Q, tx⟩, ⟨f_down, f_typeSeen, yf_payload, yf_wants, yf_name, yf_first, yf_counts, yf_enters, yf_nodes, yf_values, yf_skipped, yf_pos, yf_there, yf_number, yf_at⟩, ⟨a_payload, a_life, a_theyEnded, a_weEnded, a_finishing, a_codes, a_headers, a_entries, a_kinds, a_repeats, a_messageCount⟩, ⟨a_nodeCount, a_nodeTypes, a_valueCount, a_valueOwners, a_values, a_skippedCount, a_reader, a_chainNode, a_chainEnd, a_nodeSize, a_nodePlace⟩, ⟨ya_type, ya_otherEnded, ya_prefix, ya_length, ya_got, ya_high, ya_has, ya_frame, ya_payloads⟩, ⟨ya_table, ya_nodeType, ya_valueNode, ya_valueNumber, ya_value, ya_from, ya_limit, ya_inside, ya_sizes⟩⟩, rfl, rfl, hD, hl, hH, hO, hQ, hX, hS, hq, hT, hK, hF, hM⟩ := I
  dsimp only [cr_x, cr_y] at J ⊢
  have HN : (∀ s, s < 8 → v1 = nI s → 1 ≤ s → (¬ a_life s = 1 ∨ ¬ f_down = 0)) → wpY_cancel (fun r' v' => r' = 0 ∧ i_Rel (k + 6) (nI fAt, nI n, nI so, nI fl, nI st, f_down, nI m, nI M, f_typeSeen, nI l, nI z.2, a_payload, a_life, a_theyEnded, a_weEnded, a_finishing, a_codes, an_f wi, an_f wo, a_headers, an_f hc, a_entries, a_kinds, a_repeats, a_messageCount, an_f tx, a_nodeCount, a_nodeTypes, a_valueCount, a_valueOwners, a_values, a_skippedCount, a_reader, a_chainNode, a_chainEnd, an_f Q, an_f ql, an_f z.1, a_nodeSize, a_nodePlace) v') (f_down, nI h, nI p, yf_payload, yf_wants, yf_name, yf_first, yf_counts, yf_enters, nI M, nI m, nI z.2, nI (if l = 0 then 7 else l), yf_nodes, yf_values, yf_skipped, yf_pos, yf_there, yf_number, yf_at, a_kinds, a_repeats, a_life, a_codes, an_f wi, an_f wo, ya_type, an_f hc, a_headers, an_f ql, ya_otherEnded, a_weEnded, a_finishing, an_g Q, ya_prefix, ya_length, ya_got, ya_high, a_messageCount, ya_has, an_g tx, ya_frame, ya_payloads, ya_table, an_g z.1, ya_nodeType, ya_valueNode, ya_valueNumber, ya_value, ya_from, ya_limit, ya_inside, ya_sizes) v1 v2 := by
    intro hno
    unfold wpY_cancel
    rcases lk_c v1 with ⟨h1, h2, h3, h4⟩ | ⟨h1, h2, h3, h4, h5⟩ | ⟨s, hs, rfl⟩
    · exact ys_open_n (Or.inl h2) (br_t rfl ⟨rfl, J⟩)
    · exact ys_open_n (Or.inr ⟨h2, h3⟩) (br_t rfl ⟨rfl, J⟩)
    · by_cases h0 : s = 0
      · subst h0
        exact ys_open_n (Or.inl (by decide)) (br_t rfl ⟨rfl, J⟩)
      · exact ys_open_f (by omega) hs (hno s hs rfl (by omega)) (br_t rfl ⟨rfl, J⟩)
  unfold wpX_cancel
  refine br_c (fun hd => ?_) (fun hd => HN (fun s _ _ _ => Or.inr hd))
  rcases lk_c v1 with ⟨h1, h2, h3, h4⟩ | ⟨h1, h2, h3, h4, h5⟩ | ⟨s, hs, rfl⟩
  · exact xs_open_n (Or.inl h2) (br_t rfl (HN (fun s hs e _ => by
      rw [e] at h1; exact absurd h1 (lk_s s hs).1)))
  · exact xs_open_n (Or.inr ⟨h2, h4⟩) (br_t rfl (HN (fun s hs e _ => by
      rw [e] at h4; exact absurd h4 (lk_s s hs).2.2.1)))
  · by_cases h0 : s = 0
    · subst h0
      exact xs_open_n (Or.inl (by decide)) (br_t rfl (HN (fun s' hs' e h1' => by
        have := (nI_eq (a := 0) (b := s') (by omega) (by omega)).mp e
        omega)))
    · by_cases ho : a_life s = 1
      · have HN2 : ¬ (¬ v2 < 20 ∧ v2 ≤ 99) → wpY_cancel (fun r' v' => r' = 0 ∧ i_Rel (k + 6) (nI fAt, nI n, nI so, nI fl, nI st, f_down, nI m, nI M, f_typeSeen, nI l, nI z.2, a_payload, a_life, a_theyEnded, a_weEnded, a_finishing, a_codes, an_f wi, an_f wo, a_headers, an_f hc, a_entries, a_kinds, a_repeats, a_messageCount, an_f tx, a_nodeCount, a_nodeTypes, a_valueCount, a_valueOwners, a_values, a_skippedCount, a_reader, a_chainNode, a_chainEnd, an_f Q, an_f ql, an_f z.1, a_nodeSize, a_nodePlace) v') (f_down, nI h, nI p, yf_payload, yf_wants, yf_name, yf_first, yf_counts, yf_enters, nI M, nI m, nI z.2, nI (if l = 0 then 7 else l), yf_nodes, yf_values, yf_skipped, yf_pos, yf_there, yf_number, yf_at, a_kinds, a_repeats, a_life, a_codes, an_f wi, an_f wo, ya_type, an_f hc, a_headers, an_f ql, ya_otherEnded, a_weEnded, a_finishing, an_g Q, ya_prefix, ya_length, ya_got, ya_high, a_messageCount, ya_has, an_g tx, ya_frame, ya_payloads, ya_table, an_g z.1, ya_nodeType, ya_valueNode, ya_valueNumber, ya_value, ya_from, ya_limit, ya_inside, ya_sizes) (nI s) v2 := by
          intro hno
          unfold wpY_cancel
          refine ys_open_t (by omega) hs ho hd (br_f (by decide) ?_)
          by_cases y : v2 < 20
          · exact yn_lo y (br_f (by decide) ⟨rfl, J⟩)
          · exact yn_hi y (fun w => hno ⟨y, w⟩) (br_f (by decide) ⟨rfl, J⟩)
        refine xs_open_t (by omega) hs ho (br_f (by decide) (br_c (fun y => HN2 (fun w => w.1 y)) (fun y => br_c (fun y2 => ?_) (fun y2 => HN2 (fun w => y2 w.2)))))
        obtain ⟨c, hc99, rfl⟩ : ∃ c, c ≤ 99 ∧ v2 = nI c := nI_of2 (M := 99) (n := 99) (by decide) (fun w => y (Int32.lt_trans w (by decide))) y2
        refine xo_failS hs hO.1 ?_
        unfold wpY_cancel
        refine ys_open_t (by omega) hs ho hd (br_f (by decide) (yn_in y y2 (br_t rfl ?_)))
        refine yo_errS (by omega) hs hO.1 ?_
        have hS' := cr_S_shut (x := nI c) (show 0 < s by omega) hS
        have hq' := cr_Q_shut (s := s) (hq hd)
        have hl2 := cr_l2 (life := a_life) (s := s) (by rw [ho]; decide)
        subst hd
        have e0 : upd (an_f ql) s 0 = an_f (pm_u ql s 0) := an_fu ql s 0
        rw [e0]
        refine yo_quiet hS' hl hq' ⟨rfl, ((K, R, ou_L z [1, 2, 0, s, c]), (fAt, n, so, fl, st, h, p, m, M, l), (wi, wo, pm_u ql s 0, hc, Q, tx), (0, f_typeSeen, yf_payload, yf_wants, yf_name, yf_first, yf_counts, yf_enters, yf_nodes, yf_values, yf_skipped, yf_pos, yf_there, yf_number, yf_at), (a_payload, upd a_life s 2, a_theyEnded, a_weEnded, a_finishing, upd a_codes s (nI c), a_headers, a_entries, a_kinds, a_repeats, a_messageCount), (a_nodeCount, a_nodeTypes, a_valueCount, a_valueOwners, a_values, a_skippedCount, a_reader, a_chainNode, a_chainEnd, a_nodeSize, a_nodePlace), (ya_type, ya_otherEnded, ya_prefix, ya_length, ya_got, ya_high, ya_has, ya_frame, ya_payloads), (ya_table, ya_nodeType, ya_valueNode, ya_valueNumber, ya_value, ya_from, ya_limit, ya_inside, ya_sizes)), rfl, rfl, hD, hl, hH, ?_, hQ, hX, hS', fun _ => hq', hT, hK, fun w => cr_F_life hl2 (hF w), ?_⟩
        · refine ou_L_I hO (fun b hb => ?_)
          simp only [List.mem_cons, List.not_mem_nil, or_false] at hb
          rcases hb with hb | hb | hb | hb | hb <;> omega
        · exact fun s' h1' h8' => cr_m_k (by omega) (cr_m_life (hl2 s') (hM s' h1' h8'))
      · exact xs_open_f (by omega) hs ho (br_t rfl (HN (fun s' hs' e h1' => by
          have := (nI_eq (a := s) (b := s') (by omega) (by omega)).mp e
          subst this
          exact Or.inl ho)))
/-- both sides send what may be sent -/
theorem pu_both {wo ql Q wi : Nat → Nat} {z : (Nat → Nat) × Nat} {l : Nat} (hS : cr_S a_life a_theyEnded ya_otherEnded a_weEnded a_finishing a_codes wi wo ql) (hO : ou_I z) (hQ : cr_B Q) (hl : l ≤ 7) :
    ∃ (life' we' : Nat → Int32) (wo' ql' Q' : Nat → Nat) (z' : (Nat → Nat) × Nat) (l' : Nat),
      cr_S life' a_theyEnded ya_otherEnded we' a_finishing a_codes wi wo' ql' ∧ ou_I z' ∧ cr_B Q' ∧ l' ≤ 7 ∧ cr_Q life' we' a_finishing wo' ql' ∧ (∀ s, life' s = a_life s ∨ (a_life s ≠ 0 ∧ life' s = 2)) ∧
      (∀ (post : SX → Prop), post (f_frameAt, f_frameLength, f_frameSort, f_frameFlags, f_frameStream, f_down, f_entryCount, f_most, f_typeSeen, nI l', nI z'.2, a_payload, life', a_theyEnded, we', a_finishing, a_codes, a_windowIn, an_f wo', a_headers, a_headerCount, a_entries, a_kinds, a_repeats, a_messageCount, a_text, a_nodeCount, a_nodeTypes, a_valueCount, a_valueOwners, a_values, a_skippedCount, a_reader, a_chainNode, a_chainEnd, an_f Q', an_f ql', an_f z'.1, a_nodeSize, a_nodePlace) →
        wpX_sendQueues post (f_frameAt, f_frameLength, f_frameSort, f_frameFlags, f_frameStream, f_down, f_entryCount, f_most, f_typeSeen, nI l, nI z.2, a_payload, a_life, a_theyEnded, a_weEnded, a_finishing, a_codes, a_windowIn, an_f wo, a_headers, a_headerCount, a_entries, a_kinds, a_repeats, a_messageCount, a_text, a_nodeCount, a_nodeTypes, a_valueCount, a_valueOwners, a_values, a_skippedCount, a_reader, a_chainNode, a_chainEnd, an_f Q, an_f ql, an_f z.1, a_nodeSize, a_nodePlace)) ∧
      (∀ (post : SY → Prop), post (0, yf_heads, yf_paid, yf_payload, yf_wants, yf_name, yf_first, yf_counts, yf_enters, yf_most, yf_many, nI z'.2, nI (if l' = 0 then 7 else l'), yf_nodes, yf_values, yf_skipped, yf_pos, yf_there, yf_number, yf_at, ya_kind, ya_repeated, life', a_codes, ya_coming, an_f wo', ya_type, ya_headers, ya_header, an_f ql', ya_otherEnded, we', a_finishing, an_g Q', ya_prefix, ya_length, ya_got, ya_high, ya_whole, ya_has, ya_bytes, ya_frame, ya_payloads, ya_table, an_g z'.1, ya_nodeType, ya_valueNode, ya_valueNumber, ya_value, ya_from, ya_limit, ya_inside, ya_sizes) →
        wpY_pump post (0, yf_heads, yf_paid, yf_payload, yf_wants, yf_name, yf_first, yf_counts, yf_enters, yf_most, yf_many, nI z.2, nI (if l = 0 then 7 else l), yf_nodes, yf_values, yf_skipped, yf_pos, yf_there, yf_number, yf_at, ya_kind, ya_repeated, a_life, a_codes, ya_coming, an_f wo, ya_type, ya_headers, ya_header, an_f ql, ya_otherEnded, a_weEnded, a_finishing, an_g Q, ya_prefix, ya_length, ya_got, ya_high, ya_whole, ya_has, ya_bytes, ya_frame, ya_payloads, ya_table, an_g z.1, ya_nodeType, ya_valueNode, ya_valueNumber, ya_value, ya_from, ya_limit, ya_inside, ya_sizes)) := by
  have hm := pu_m_le (life := a_life) (we := a_weEnded) (hS.2 0 (by omega)).2.2.2.2.2.1
  obtain ⟨life', we', wo', ql', Q', z', l', r1, r2, r3, r4, r5, r6, r7, r8⟩ := pu_main 262 a_life a_weEnded wo ql Q z l hS hO hQ hl hm
  refine ⟨life', we', wo', ql', Q', z', l', r1, r2, r3, r4, r5, fun s => ?_, fun post H => ?_, fun post H => ?_⟩
  · rcases r6 s with y | ⟨y, y'⟩
    · exact Or.inl y
    · exact Or.inr ⟨by rw [y]; decide, y'⟩
  · unfold wpX_sendQueues
    exact ⟨263, r7 post 0 263 (by omega) (by omega) H⟩
  · unfold wpY_pump
    exact ⟨8 * 262 + 8, r8 post _ (Nat.le_refl _) H⟩
theorem i_vc_finish {k : Nat} {u : SX} {v : SY} (I : i_Rel k u v) (hk : k + 6 ≤ 3072) (v1 : Int32) : wpX_finish (fun r u' => wpY_finish (fun r' v' => r' = r ∧ i_Rel (k + 6) u' v') v v1) u v1 := by
  have J := i_up I
  obtain ⟨⟨⟨K, R, z⟩, ⟨fAt, n, so, fl, st, h, p, m, M, l⟩, ⟨wi, wo, ql, hc, Q, tx⟩, ⟨f_down, f_typeSeen, yf_payload, yf_wants, yf_name, yf_first, yf_counts, yf_enters, yf_nodes, yf_values, yf_skipped, yf_pos, yf_there, yf_number, yf_at⟩, ⟨a_payload, a_life, a_theyEnded, a_weEnded, a_finishing, a_codes, a_headers, a_entries, a_kinds, a_repeats, a_messageCount⟩, ⟨a_nodeCount, a_nodeTypes, a_valueCount, a_valueOwners, a_values, a_skippedCount, a_reader, a_chainNode, a_chainEnd, a_nodeSize, a_nodePlace⟩, ⟨ya_type, ya_otherEnded, ya_prefix, ya_length, ya_got, ya_high, ya_has, ya_frame, ya_payloads⟩, ⟨ya_table, ya_nodeType, ya_valueNode, ya_valueNumber, ya_value, ya_from, ya_limit, ya_inside, ya_sizes⟩⟩, rfl, rfl, hD, hl, hH, hO, hQ, hX, hS, hq, hT, hK, hF, hM⟩ := I
  dsimp only [cr_x, cr_y] at J ⊢
  have HN : (∀ s, s < 8 → v1 = nI s → 1 ≤ s → (¬ a_life s = 1 ∨ ¬ f_down = 0)) → wpY_finish (fun r' v' => r' = 0 ∧ i_Rel (k + 6) (nI fAt, nI n, nI so, nI fl, nI st, f_down, nI m, nI M, f_typeSeen, nI l, nI z.2, a_payload, a_life, a_theyEnded, a_weEnded, a_finishing, a_codes, an_f wi, an_f wo, a_headers, an_f hc, a_entries, a_kinds, a_repeats, a_messageCount, an_f tx, a_nodeCount, a_nodeTypes, a_valueCount, a_valueOwners, a_values, a_skippedCount, a_reader, a_chainNode, a_chainEnd, an_f Q, an_f ql, an_f z.1, a_nodeSize, a_nodePlace) v') (f_down, nI h, nI p, yf_payload, yf_wants, yf_name, yf_first, yf_counts, yf_enters, nI M, nI m, nI z.2, nI (if l = 0 then 7 else l), yf_nodes, yf_values, yf_skipped, yf_pos, yf_there, yf_number, yf_at, a_kinds, a_repeats, a_life, a_codes, an_f wi, an_f wo, ya_type, an_f hc, a_headers, an_f ql, ya_otherEnded, a_weEnded, a_finishing, an_g Q, ya_prefix, ya_length, ya_got, ya_high, a_messageCount, ya_has, an_g tx, ya_frame, ya_payloads, ya_table, an_g z.1, ya_nodeType, ya_valueNode, ya_valueNumber, ya_value, ya_from, ya_limit, ya_inside, ya_sizes) v1 := by
    intro hno
    unfold wpY_finish
    rcases lk_c v1 with ⟨h1, h2, h3, h4⟩ | ⟨h1, h2, h3, h4, h5⟩ | ⟨s, hs, rfl⟩
    · exact ys_open_n (Or.inl h2) (br_t rfl ⟨rfl, J⟩)
    · exact ys_open_n (Or.inr ⟨h2, h3⟩) (br_t rfl ⟨rfl, J⟩)
    · by_cases h0 : s = 0
      · subst h0
        exact ys_open_n (Or.inl (by decide)) (br_t rfl ⟨rfl, J⟩)
      · exact ys_open_f (by omega) hs (hno s hs rfl (by omega)) (br_t rfl ⟨rfl, J⟩)
  unfold wpX_finish
  refine br_c (fun hd => ?_) (fun hd => HN (fun s _ _ _ => Or.inr hd))
  rcases lk_c v1 with ⟨h1, h2, h3, h4⟩ | ⟨h1, h2, h3, h4, h5⟩ | ⟨s, hs, rfl⟩
  · exact xs_open_n (Or.inl h2) (br_t rfl (HN (fun s hs e _ => by
      rw [e] at h1; exact absurd h1 (lk_s s hs).1)))
  · exact xs_open_n (Or.inr ⟨h2, h4⟩) (br_t rfl (HN (fun s hs e _ => by
      rw [e] at h4; exact absurd h4 (lk_s s hs).2.2.1)))
  · by_cases h0 : s = 0
    · subst h0
      exact xs_open_n (Or.inl (by decide)) (br_t rfl (HN (fun s' hs' e h1' => by
        have := (nI_eq (a := 0) (b := s') (by omega) (by omega)).mp e
        omega)))
    · by_cases ho : a_life s = 1
      · refine xs_open_t (by omega) hs ho (br_f (by decide) ?_)
        obtain ⟨g1, g2⟩ := xr_c8 hs
        rw [g2]
        by_cases hfi : a_finishing s = 0
        · refine ⟨g1, br_t hfi ⟨g1, nm_r (e' := upd a_finishing s 1) rfl ?_⟩⟩
          have hS' : cr_S a_life a_theyEnded ya_otherEnded a_weEnded (upd a_finishing s 1) a_codes wi wo ql := by
            refine ⟨hS.1, fun i hi => ?_⟩
            obtain ⟨s1, s2, s3, s4, s5, s6, s7, s8, s9, s10⟩ := hS.2 i hi
            by_cases y : i = s
            · subst y
              rw [pm_upd_eq, if_pos rfl]
              exact ⟨s1, s2, s3, Or.inr rfl, s5, s6, s7, s8, s9, fun w => ⟨rfl, (s10 w).2⟩⟩
            · rw [pm_upd_eq, if_neg y]
              exact ⟨s1, s2, s3, s4, s5, s6, s7, s8, s9, s10⟩
          subst hd
          obtain ⟨life', we', wo', ql', Q', z', l', r1, r2, r3, r4, r5, r6, r7, r8⟩ := pu_both (a_life := a_life) (a_weEnded := a_weEnded) (Q := Q) (z := z) (l := l) hS' hO hQ hl
          refine r7 _ ?_
          unfold wpY_finish
          refine ys_open_t (by omega) hs ho rfl (br_f (by decide) ?_)
          rw [g2]
          refine ⟨g1, br_t hfi ⟨g1, nm_r (e' := upd a_finishing s 1) rfl ?_⟩⟩
          refine r8 _ ⟨rfl, ((K, R, z'), (fAt, n, so, fl, st, h, p, m, M, l'), (wi, wo', ql', hc, Q', tx), (0, f_typeSeen, yf_payload, yf_wants, yf_name, yf_first, yf_counts, yf_enters, yf_nodes, yf_values, yf_skipped, yf_pos, yf_there, yf_number, yf_at), (a_payload, life', a_theyEnded, we', upd a_finishing s 1, a_codes, a_headers, a_entries, a_kinds, a_repeats, a_messageCount), (a_nodeCount, a_nodeTypes, a_valueCount, a_valueOwners, a_values, a_skippedCount, a_reader, a_chainNode, a_chainEnd, a_nodeSize, a_nodePlace), (ya_type, ya_otherEnded, ya_prefix, ya_length, ya_got, ya_high, ya_has, ya_frame, ya_payloads), (ya_table, ya_nodeType, ya_valueNode, ya_valueNumber, ya_value, ya_from, ya_limit, ya_inside, ya_sizes)), rfl, rfl, hD, r4, hH, r2, r3, hX, r1, fun _ => r5, hT, hK, fun w => cr_F_life r6 (hF w), ?_⟩
          exact fun s' h1' h8' => cr_m_k (by omega) (cr_m_life (r6 s') (hM s' h1' h8'))
        · refine ⟨g1, br_f hfi ?_⟩
          unfold wpY_finish
          refine ys_open_t (by omega) hs ho hd (br_f (by decide) ?_)
          rw [g2]
          exact ⟨g1, br_f hfi ⟨rfl, J⟩⟩
      · exact xs_open_f (by omega) hs ho (br_t rfl (HN (fun s' hs' e h1' => by
          have := (nI_eq (a := s) (b := s') (by omega) (by omega)).mp e
          subst this
          exact Or.inl ho)))
end
end
section
/-! V: grant, field, the beginning -/
section
variable {f_frameAt f_frameLength f_frameSort f_frameFlags f_frameStream f_down f_entryCount f_most f_typeSeen f_lastSender f_sentLength : Int32} {a_payload a_life a_theyEnded a_weEnded a_finishing a_codes a_windowIn a_windowOut a_headers a_headerCount a_entries a_kinds a_repeats a_messageCount a_text a_nodeCount a_nodeTypes a_valueCount a_valueOwners a_values a_skippedCount a_reader a_chainNode a_chainEnd a_queue a_queueLength a_sent a_nodeSize a_nodePlace : Nat → Int32} {yf_down yf_heads yf_paid yf_payload yf_wants yf_name yf_first yf_counts yf_enters yf_most yf_many yf_sent yf_last yf_nodes yf_values yf_skipped yf_pos yf_there yf_number yf_at : Int32} {ya_kind ya_repeated ya_how ya_code ya_coming ya_going ya_type ya_headers ya_header ya_queued ya_otherEnded ya_ended ya_finishing ya_queue ya_prefix ya_length ya_got ya_high ya_whole ya_has ya_bytes ya_frame ya_payloads ya_table ya_out ya_nodeType ya_valueNode ya_valueNumber ya_value ya_from ya_limit ya_inside ya_sizes : Nat → Int32}
theorem i_vc_grant {k : Nat} {u : SX} {v : SY} (I : i_Rel k u v) (hk : k + 6 ≤ 3072) (v1 : Int32) (v2 : Int32) : wpX_grant (fun r u' => wpY_grant (fun r' v' => r' = r ∧ i_Rel (k + 6) u' v') v v1 v2) u v1 v2 := by
  have J := i_up I
  obtain ⟨⟨⟨K, R, z⟩, ⟨fAt, n, so, fl, st, h, p, m, M, l⟩, ⟨wi, wo, ql, hc, Q, tx⟩, ⟨f_down, f_typeSeen, yf_payload, yf_wants, yf_name, yf_first, yf_counts, yf_enters, yf_nodes, yf_values, yf_skipped, yf_pos, yf_there, yf_number, yf_at⟩, ⟨a_payload, a_life, a_theyEnded, a_weEnded, a_finishing, a_codes, a_headers, a_entries, a_kinds, a_repeats, a_messageCount⟩, ⟨a_nodeCount, a_nodeTypes, a_valueCount, a_valueOwners, a_values, a_skippedCount, a_reader, a_chainNode, a_chainEnd, a_nodeSize, a_nodePlace⟩, ⟨ya_type, ya_otherEnded, ya_prefix, ya_length, ya_got, ya_high, ya_has, ya_frame, ya_payloads⟩, ⟨ya_table, ya_nodeType, ya_valueNode, ya_valueNumber, ya_value, ya_from, ya_limit, ya_inside, ya_sizes⟩⟩, rfl, rfl, hD, hl, hH, hO, hQ, hX, hS, hq, hT, hK, hF, hM⟩ := I
  dsimp only [cr_x, cr_y] at J ⊢
  have core : ∀ s, s < 8 → f_down = 0 → (∀ (P : Int32 → SY → Prop), wY_grant_34 P (nI s) v2 (f_down) (nI h) (nI p) yf_payload yf_wants yf_name yf_first yf_counts yf_enters (nI M) (nI m) (nI z.2) (nI (if l = 0 then 7 else l)) yf_nodes yf_values yf_skipped yf_pos yf_there yf_number yf_at (a_kinds) (a_repeats) (a_life) (a_codes) (an_f wi) (an_f wo) ya_type (an_f hc) (a_headers) (an_f ql) ya_otherEnded (a_weEnded) (a_finishing) (an_g Q) ya_prefix ya_length ya_got ya_high (a_messageCount) ya_has (an_g tx) ya_frame ya_payloads ya_table (an_g z.1) ya_nodeType ya_valueNode ya_valueNumber ya_value ya_from ya_limit ya_inside ya_sizes → wpY_grant P (f_down, nI h, nI p, yf_payload, yf_wants, yf_name, yf_first, yf_counts, yf_enters, nI M, nI m, nI z.2, nI (if l = 0 then 7 else l), yf_nodes, yf_values, yf_skipped, yf_pos, yf_there, yf_number, yf_at, a_kinds, a_repeats, a_life, a_codes, an_f wi, an_f wo, ya_type, an_f hc, a_headers, an_f ql, ya_otherEnded, a_weEnded, a_finishing, an_g Q, ya_prefix, ya_length, ya_got, ya_high, a_messageCount, ya_has, an_g tx, ya_frame, ya_payloads, ya_table, an_g z.1, ya_nodeType, ya_valueNode, ya_valueNumber, ya_value, ya_from, ya_limit, ya_inside, ya_sizes) (nI s) v2) →
      wX_grant_22 (fun r u' => wpY_grant (fun r' v' => r' = r ∧ i_Rel (k + 6) u' v') (f_down, nI h, nI p, yf_payload, yf_wants, yf_name, yf_first, yf_counts, yf_enters, nI M, nI m, nI z.2, nI (if l = 0 then 7 else l), yf_nodes, yf_values, yf_skipped, yf_pos, yf_there, yf_number, yf_at, a_kinds, a_repeats, a_life, a_codes, an_f wi, an_f wo, ya_type, an_f hc, a_headers, an_f ql, ya_otherEnded, a_weEnded, a_finishing, an_g Q, ya_prefix, ya_length, ya_got, ya_high, a_messageCount, ya_has, an_g tx, ya_frame, ya_payloads, ya_table, an_g z.1, ya_nodeType, ya_valueNode, ya_valueNumber, ya_value, ya_from, ya_limit, ya_inside, ya_sizes) (nI s) v2) (nI s) v2 (nI fAt) (nI n) (nI so) (nI fl) (nI st) f_down (nI m) (nI M) f_typeSeen (nI l) (nI z.2) a_payload a_life a_theyEnded a_weEnded a_finishing a_codes (an_f wi) (an_f wo) a_headers (an_f hc) a_entries a_kinds a_repeats a_messageCount (an_f tx) a_nodeCount a_nodeTypes a_valueCount a_valueOwners a_values a_skippedCount a_reader a_chainNode a_chainEnd (an_f Q) (an_f ql) (an_f z.1) a_nodeSize a_nodePlace := by
    intro s hs hd HY
    obtain ⟨g1, g2⟩ := xr_c8 hs
    have hw := (hS.2 s hs).2.2.2.2.1
    unfold wX_grant_22
    refine br_c (fun y => HY _ (yn_lo y (br_f (by decide) ⟨rfl, J⟩))) (fun y => br_c (fun y2 => HY _ (yn_hi y ?_ (br_f (by decide) ⟨rfl, J⟩))) (fun y2 => ?_))
    · intro w
      exact absurd (Int32.lt_of_lt_of_le y2 w) (by decide)
    have h0 : ¬ v2 < 0 := fun w => y (Int32.lt_trans w (by decide))
    obtain ⟨c, hc31, rfl⟩ := nI_of h0
    have hc1 : 1 ≤ c := by
      rcases Nat.eq_zero_or_pos c with w | w
      · subst w; exact absurd (by decide) y
      · exact w
    have hc2 : c ≤ 255 := by
      rcases Nat.lt_or_ge 255 c with w | w
      · exact absurd ((nI_ltI (a := 255) (b := c) (by omega) hc31).mpr w) y2
      · exact w
    have hle : nI c ≤ 255 := (nI_leI (a := c) (b := 255) (by omega) (by omega)).mpr hc2
    rw [g2, an_fa, nI_add]
    refine ⟨g1, pk_le (wi s + c) 255 (fun w => ?_) (fun w => ?_)⟩
    · refine ⟨g1, g1, nm_r (an_fu wi s (wi s + c)) ?_⟩
      refine xo_short (a := 3) (b := 0) (c := s) (d := c) hO.1 ⟨g1, HY _ ?_⟩
      unfold wY_grant_34
      refine yn_in y hle (br_t rfl ?_)
      rw [g2, an_fa, nI_add]
      refine ⟨g1, pk_le (wi s + c) 255 (fun _ => ?_) (fun w' => absurd w' (by omega))⟩
      refine ⟨g1, g1, nm_r (an_fu wi s (wi s + c)) ?_⟩
      refine yo_frame (a := 1) (b := 3) (c := 0) (d := s) hO.1 (yo_put (an_b1 _) (ou_L_le [1, 3, 0, s] hO.1) ⟨g1, rfl, ?_⟩)
      refine ⟨((K, R, ou_L z [1, 3, 0, s, c]), (fAt, n, so, fl, st, h, p, m, M, l), (pm_u wi s (wi s + c), wo, ql, hc, Q, tx), (f_down, f_typeSeen, yf_payload, yf_wants, yf_name, yf_first, yf_counts, yf_enters, yf_nodes, yf_values, yf_skipped, yf_pos, yf_there, yf_number, yf_at), (a_payload, a_life, a_theyEnded, a_weEnded, a_finishing, a_codes, a_headers, a_entries, a_kinds, a_repeats, a_messageCount), (a_nodeCount, a_nodeTypes, a_valueCount, a_valueOwners, a_values, a_skippedCount, a_reader, a_chainNode, a_chainEnd, a_nodeSize, a_nodePlace), (ya_type, ya_otherEnded, ya_prefix, ya_length, ya_got, ya_high, ya_has, ya_frame, ya_payloads), (ya_table, ya_nodeType, ya_valueNode, ya_valueNumber, ya_value, ya_from, ya_limit, ya_inside, ya_sizes)), rfl, rfl, hD, hl, hH, ?_, hQ, hX, ?_, hq, hT, hK, hF, fun s' h1' h8' => cr_m_k (by omega) (hM s' h1' h8')⟩
      · refine ou_L_I hO (fun b hb => ?_)
        simp only [List.mem_cons, List.not_mem_nil, or_false] at hb
        rcases hb with hb | hb | hb | hb | hb <;> omega
      · refine ⟨hS.1, fun i hi => ?_⟩
        obtain ⟨s1, s2, s3, s4, s5, s6, s7, s8, s9, s10⟩ := hS.2 i hi
        refine ⟨s1, s2, s3, s4, ?_, s6, s7, s8, s9, s10⟩
        by_cases y3 : i = s
        · subst y3; rw [pm_us]; omega
        · rw [pm_un y3]; exact s5
    · refine HY _ ?_
      unfold wY_grant_34
      refine yn_in y hle (br_t rfl ?_)
      rw [g2, an_fa, nI_add]
      exact ⟨g1, pk_le (wi s + c) 255 (fun w' => absurd w' (by omega)) (fun _ => ⟨rfl, J⟩)⟩
  unfold wpX_grant
  refine br_c (fun hd => ?_) (fun hd => ?_)
  · rcases lk_c v1 with ⟨h1, h2, h3, h4⟩ | ⟨h1, h2, h3, h4, h5⟩ | ⟨s, hs, rfl⟩
    · refine br_f h4 (xs_open_n (Or.inl h2) (br_t rfl ?_))
      unfold wpY_grant
      exact br_t hd (yn_lo h1 (br_f (by decide) ⟨rfl, J⟩))
    · refine br_f h5 (xs_open_n (Or.inr ⟨h2, h4⟩) (br_t rfl ?_))
      unfold wpY_grant
      exact br_t hd (yn_hi h1 h3 (br_f (by decide) ⟨rfl, J⟩))
    · obtain ⟨g1, g2, g3, g4, g5⟩ := lk_s s hs
      by_cases h0 : s = 0
      · subst h0
        refine br_t rfl (core 0 hs hd (fun P HP => ?_))
        unfold wpY_grant
        exact br_t hd (yn_in g1 g2 (br_t rfl (br_t (by decide) HP)))
      · obtain ⟨g6, g7⟩ := g4 (by omega)
        have hnle : ¬ nI s ≤ 0 := by
          intro w
          have := (nI_leI (a := s) (b := 0) (by omega) (by omega)).mp w
          omega
        refine br_f g7 ?_
        by_cases ho : a_life s = 1
        · refine xs_open_t (by omega) hs ho (br_f (by decide) (core s hs hd (fun P HP => ?_)))
          unfold wpY_grant
          rw [g5]
          exact br_t hd (yn_in g1 g2 (br_t rfl (br_f hnle ⟨lk_in hs, br_t ho HP⟩)))
        · refine xs_open_f (by omega) hs ho (br_t rfl ?_)
          unfold wpY_grant
          rw [g5]
          exact br_t hd (yn_in g1 g2 (br_t rfl (br_f hnle ⟨lk_in hs, br_f ho ⟨rfl, J⟩⟩)))
  · unfold wpY_grant
    exact br_f hd ⟨rfl, J⟩
end
end
section
/-! W: field, the beginning -/
section
variable {f_frameAt f_frameLength f_frameSort f_frameFlags f_frameStream f_down f_entryCount f_most f_typeSeen f_lastSender f_sentLength : Int32} {a_payload a_life a_theyEnded a_weEnded a_finishing a_codes a_windowIn a_windowOut a_headers a_headerCount a_entries a_kinds a_repeats a_messageCount a_text a_nodeCount a_nodeTypes a_valueCount a_valueOwners a_values a_skippedCount a_reader a_chainNode a_chainEnd a_queue a_queueLength a_sent a_nodeSize a_nodePlace : Nat → Int32} {yf_down yf_heads yf_paid yf_payload yf_wants yf_name yf_first yf_counts yf_enters yf_most yf_many yf_sent yf_last yf_nodes yf_values yf_skipped yf_pos yf_there yf_number yf_at : Int32} {ya_kind ya_repeated ya_how ya_code ya_coming ya_going ya_type ya_headers ya_header ya_queued ya_otherEnded ya_ended ya_finishing ya_queue ya_prefix ya_length ya_got ya_high ya_whole ya_has ya_bytes ya_frame ya_payloads ya_table ya_out ya_nodeType ya_valueNode ya_valueNumber ya_value ya_from ya_limit ya_inside ya_sizes : Nat → Int32}
theorem xf_36 {x1 x2 x3 x4 : Int32} {post : Int32 → SX → Prop} : ∀ r i, i + r = 8 → 1 ≤ i →
    ((∃ s, i ≤ s ∧ s < 8 ∧ a_life s ≠ 0) → post 0 (f_frameAt, f_frameLength, f_frameSort, f_frameFlags, f_frameStream, f_down, f_entryCount, f_most, f_typeSeen, f_lastSender, f_sentLength, a_payload, a_life, a_theyEnded, a_weEnded, a_finishing, a_codes, a_windowIn, a_windowOut, a_headers, a_headerCount, a_entries, a_kinds, a_repeats, a_messageCount, a_text, a_nodeCount, a_nodeTypes, a_valueCount, a_valueOwners, a_values, a_skippedCount, a_reader, a_chainNode, a_chainEnd, a_queue, a_queueLength, a_sent, a_nodeSize, a_nodePlace)) →
    ((∀ s, i ≤ s → s < 8 → a_life s = 0) → wX_field_36 post x1 x2 x3 x4 f_frameAt f_frameLength f_frameSort f_frameFlags f_frameStream f_down f_entryCount f_most f_typeSeen f_lastSender f_sentLength a_payload a_life a_theyEnded a_weEnded a_finishing a_codes a_windowIn a_windowOut a_headers a_headerCount a_entries a_kinds a_repeats a_messageCount a_text a_nodeCount a_nodeTypes a_valueCount a_valueOwners a_values a_skippedCount a_reader a_chainNode a_chainEnd a_queue a_queueLength a_sent a_nodeSize a_nodePlace 1 8) → wX_field_36 post x1 x2 x3 x4 f_frameAt f_frameLength f_frameSort f_frameFlags f_frameStream f_down f_entryCount f_most f_typeSeen f_lastSender f_sentLength a_payload a_life a_theyEnded a_weEnded a_finishing a_codes a_windowIn a_windowOut a_headers a_headerCount a_entries a_kinds a_repeats a_messageCount a_text a_nodeCount a_nodeTypes a_valueCount a_valueOwners a_values a_skippedCount a_reader a_chainNode a_chainEnd a_queue a_queueLength a_sent a_nodeSize a_nodePlace (r + 1) (nI i)
  | 0, i, hi, _, _, H1 => by
    have : i = 8 := by omega
    subst this
    exact H1 (fun s h1 h2 => by omega)
  | r + 1, i, hi, h1, H0, H1 => by
    rw [wX_field_36]
    refine pk_le 8 i (fun y => absurd y (by omega)) (fun y => ⟨vp_in_nI y (by omega), ?_⟩)
    rw [nI_clamp (by omega)]
    refine br_c (fun e => nm_r (nI_1 _) (xf_36 r (i + 1) (by omega) (by omega) (fun w => ?_) (fun w => ?_))) (fun e => H0 ⟨i, Nat.le_refl _, y, e⟩)
    · obtain ⟨s, a, b, c⟩ := w
      exact H0 ⟨s, by omega, b, c⟩
    · refine H1 (fun s a b => ?_)
      by_cases g : s = i
      · subst g; exact e
      · exact w s (by omega) b
theorem yf_34 {x1 x2 x3 x4 : Int32} {post : Int32 → SY → Prop} : ∀ r i, i + r = 8 → 1 ≤ i →
    ((∃ s, i ≤ s ∧ s < 8 ∧ ya_how s ≠ 0) → post 0 (yf_down, yf_heads, yf_paid, yf_payload, yf_wants, yf_name, yf_first, yf_counts, yf_enters, yf_most, yf_many, yf_sent, yf_last, yf_nodes, yf_values, yf_skipped, yf_pos, yf_there, yf_number, yf_at, ya_kind, ya_repeated, ya_how, ya_code, ya_coming, ya_going, ya_type, ya_headers, ya_header, ya_queued, ya_otherEnded, ya_ended, ya_finishing, ya_queue, ya_prefix, ya_length, ya_got, ya_high, ya_whole, ya_has, ya_bytes, ya_frame, ya_payloads, ya_table, ya_out, ya_nodeType, ya_valueNode, ya_valueNumber, ya_value, ya_from, ya_limit, ya_inside, ya_sizes)) →
    ((∀ s, i ≤ s → s < 8 → ya_how s = 0) → wY_field_34 post x1 x2 x3 x4 yf_down yf_heads yf_paid yf_payload yf_wants yf_name yf_first yf_counts yf_enters yf_most yf_many yf_sent yf_last yf_nodes yf_values yf_skipped yf_pos yf_there yf_number yf_at ya_kind ya_repeated ya_how ya_code ya_coming ya_going ya_type ya_headers ya_header ya_queued ya_otherEnded ya_ended ya_finishing ya_queue ya_prefix ya_length ya_got ya_high ya_whole ya_has ya_bytes ya_frame ya_payloads ya_table ya_out ya_nodeType ya_valueNode ya_valueNumber ya_value ya_from ya_limit ya_inside ya_sizes 1 8) → wY_field_34 post x1 x2 x3 x4 yf_down yf_heads yf_paid yf_payload yf_wants yf_name yf_first yf_counts yf_enters yf_most yf_many yf_sent yf_last yf_nodes yf_values yf_skipped yf_pos yf_there yf_number yf_at ya_kind ya_repeated ya_how ya_code ya_coming ya_going ya_type ya_headers ya_header ya_queued ya_otherEnded ya_ended ya_finishing ya_queue ya_prefix ya_length ya_got ya_high ya_whole ya_has ya_bytes ya_frame ya_payloads ya_table ya_out ya_nodeType ya_valueNode ya_valueNumber ya_value ya_from ya_limit ya_inside ya_sizes (r + 1) (nI i)
  | 0, i, hi, _, _, H1 => by
    have : i = 8 := by omega
    subst this
    exact H1 (fun s h1 h2 => by omega)
  | r + 1, i, hi, h1, H0, H1 => by
    rw [wY_field_34]
    refine pk_le 8 i (fun y => absurd y (by omega)) (fun y => ⟨vp_in_nI y (by omega), ?_⟩)
    rw [nI_clamp (by omega)]
    refine br_c (fun e => nm_r (nI_1 _) (yf_34 r (i + 1) (by omega) (by omega) (fun w => ?_) (fun w => ?_))) (fun e => H0 ⟨i, Nat.le_refl _, y, e⟩)
    · obtain ⟨s, a, b, c⟩ := w
      exact H0 ⟨s, by omega, b, c⟩
    · refine H1 (fun s a b => ?_)
      by_cases g : s = i
      · subst g; exact e
      · exact w s (by omega) b
/-- the kinds of a field that is given -/
theorem fd_k (x : Int32) : x < -1 ∨ (¬ x < -1 ∧ ¬ x ≤ 7) ∨ (¬ x < -1 ∧ x ≤ 7 ∧ ∃ c, c ≤ 8 ∧ x = nI c + (-1)) := by
  by_cases h1 : x < -1
  · exact Or.inl h1
  · by_cases h2 : x ≤ 7
    · right; right
      refine ⟨h1, h2, ?_⟩
      have m1 : (-1 : Int32).toInt = -1 := by decide
      have m7 : (7 : Int32).toInt = 7 := by decide
      rw [Int32.lt_iff_toInt_lt] at h1
      rw [Int32.le_iff_toInt_le] at h2
      have key : ∀ y : Int, -1 ≤ y → y ≤ 7 → y = -1 ∨ y = 0 ∨ y = 1 ∨ y = 2 ∨ y = 3 ∨ y = 4 ∨ y = 5 ∨ y = 6 ∨ y = 7 := by
        intro y a b; omega
      have inj : ∀ c : Nat, x.toInt = (nI c + (-1)).toInt → x = nI c + (-1) := fun c h => Int32.toInt_inj.mp h
      rcases key x.toInt (by omega) (by omega) with e | e | e | e | e | e | e | e | e
      · exact ⟨0, by omega, inj 0 (by rw [e]; decide)⟩
      · exact ⟨1, by omega, inj 1 (by rw [e]; decide)⟩
      · exact ⟨2, by omega, inj 2 (by rw [e]; decide)⟩
      · exact ⟨3, by omega, inj 3 (by rw [e]; decide)⟩
      · exact ⟨4, by omega, inj 4 (by rw [e]; decide)⟩
      · exact ⟨5, by omega, inj 5 (by rw [e]; decide)⟩
      · exact ⟨6, by omega, inj 6 (by rw [e]; decide)⟩
      · exact ⟨7, by omega, inj 7 (by rw [e]; decide)⟩
      · exact ⟨8, by omega, inj 8 (by rw [e]; decide)⟩
    · exact Or.inr (Or.inl ⟨h1, h2⟩)
/-- an index between two numbers -/
theorem fd_i (x a b : Int32) {lo hi : Nat} (ha : a = nI lo) (hb : b = nI hi) (hlo : lo < 2 ^ 30) (hhi : hi < 2 ^ 30) :
    x < a ∨ (¬ x < a ∧ nI (hi + 1) ≤ x ∧ ¬ x ≤ b) ∨ (∃ j, lo ≤ j ∧ j ≤ hi ∧ x = nI j ∧ ¬ x < a ∧ ¬ nI (hi + 1) ≤ x ∧ x ≤ b) := by
  subst ha hb
  by_cases h1 : x < nI lo
  · exact Or.inl h1
  · have h0 : ¬ x < 0 := by
      intro w
      rw [Int32.lt_iff_toInt_lt] at w h1
      rw [nI_toInt (by omega)] at h1
      have z0 : (0 : Int32).toInt = 0 := by decide
      omega
    obtain ⟨j, hj, rfl⟩ := nI_of h0
    rw [nI_ltI hj (by omega)] at h1
    by_cases h2 : j ≤ hi
    · right; right
      exact ⟨j, by omega, h2, rfl, by rw [nI_ltI hj (by omega)]; exact h1, by rw [nI_leI (by omega) hj]; omega, by rw [nI_leI hj (by omega)]; exact h2⟩
    · right; left
      exact ⟨by rw [nI_ltI hj (by omega)]; exact h1, by rw [nI_leI (by omega) hj]; omega, by rw [nI_leI hj (by omega)]; exact h2⟩
theorem fd_b (v : Int32) : ∃ b : Bool, lw_bz v = (if b = true then 1 else 0) ∧ vp_nar .boolean (lw_bz v) = (if b = true then 1 else 0) := by
  rcases lw_bz_01 v with e | e
  · exact ⟨false, by rw [e]; rfl, by rw [e]; rfl⟩
  · exact ⟨true, by rw [e]; rfl, by rw [e]; rfl⟩
theorem i_vc_field {k : Nat} {u : SX} {v : SY} (I : i_Rel k u v) (hk : k + 6 ≤ 3072) (v1 : Int32) (v2 : Int32) (v3 : Int32) (v4 : Int32) : wpX_field (fun r u' => wpY_field (fun r' v' => r' = r ∧ i_Rel (k + 6) u' v') v v1 v2 v3 (lw_bz v4)) u v1 v2 v3 (lw_bz v4) := by
  have J := i_up I
  obtain ⟨⟨⟨K, R, z⟩, ⟨fAt, n, so, fl, st, h, p, m, M, l⟩, ⟨wi, wo, ql, hc, Q, tx⟩, ⟨f_down, f_typeSeen, yf_payload, yf_wants, yf_name, yf_first, yf_counts, yf_enters, yf_nodes, yf_values, yf_skipped, yf_pos, yf_there, yf_number, yf_at⟩, ⟨a_payload, a_life, a_theyEnded, a_weEnded, a_finishing, a_codes, a_headers, a_entries, a_kinds, a_repeats, a_messageCount⟩, ⟨a_nodeCount, a_nodeTypes, a_valueCount, a_valueOwners, a_values, a_skippedCount, a_reader, a_chainNode, a_chainEnd, a_nodeSize, a_nodePlace⟩, ⟨ya_type, ya_otherEnded, ya_prefix, ya_length, ya_got, ya_high, ya_has, ya_frame, ya_payloads⟩, ⟨ya_table, ya_nodeType, ya_valueNode, ya_valueNumber, ya_value, ya_from, ya_limit, ya_inside, ya_sizes⟩⟩, rfl, rfl, hD, hl, hH, hO, hQ, hX, hS, hq, hT, hK, hF, hM⟩ := I
  dsimp only [cr_x, cr_y] at J ⊢
  unfold wpX_field
  rcases fd_i v1 0 3 (lo := 0) (hi := 3) rfl rfl (by omega) (by omega) with a | ⟨a, b, c⟩ | ⟨t, t1, t2, rfl, a, b, c⟩
  · refine br_t a ?_
    unfold wpY_field
    exact yn_lo a (br_f (by decide) ⟨rfl, J⟩)
  · refine br_f a (br_t b ?_)
    unfold wpY_field
    exact yn_hi a c (br_f (by decide) ⟨rfl, J⟩)
  refine br_f a (br_f b ?_)
  rcases fd_i v2 1 15 (lo := 1) (hi := 15) rfl rfl (by omega) (by omega) with a' | ⟨a', b', c'⟩ | ⟨q, q1, q2, rfl, a', b', c'⟩
  · refine br_t a' ?_
    unfold wpY_field
    exact yn_in a c (br_t rfl (yn_lo a' (br_f (by decide) ⟨rfl, J⟩)))
  · refine br_f a' (br_t b' ?_)
    unfold wpY_field
    exact yn_in a c (br_t rfl (yn_hi a' c' (br_f (by decide) ⟨rfl, J⟩)))
  refine br_f a' (br_f b' ?_)
  rcases fd_k v3 with e | ⟨e, e'⟩ | ⟨e, e', kd, hkd, rfl⟩
  · refine br_t e ?_
    unfold wpY_field
    exact yn_in a c (br_t rfl (yn_in a' c' (br_t rfl (yn_lo e (br_f (by decide) ⟨rfl, J⟩)))))
  · refine br_f e (br_f e' ?_)
    unfold wpY_field
    exact yn_in a c (br_t rfl (yn_in a' c' (br_t rfl (yn_hi e e' (br_f (by decide) ⟨rfl, J⟩)))))
  refine br_f e (br_t e' ⟨8, xf_36 7 1 rfl (Nat.le_refl _) (fun w => ?_) (fun w => ?_)⟩)
  · unfold wpY_field
    refine yn_in a c (br_t rfl (yn_in a' c' (br_t rfl (yn_in e e' (br_t rfl ⟨8, yf_34 7 1 rfl (Nat.le_refl _) (fun _ => ⟨rfl, J⟩) (fun w' => ?_)⟩)))))
    obtain ⟨s, x1, x2, x3⟩ := w
    exact absurd (w' s x1 x2) x3
  · have j1 : nI t * 16 + nI q = nI (16 * t + q) := by
      rw [show (16 : Int32) = nI 16 from rfl, pk_mul, nI_add, Nat.mul_comm]
    have j2 : 16 * nI t + nI q = nI (16 * t + q) := by
      rw [show (16 : Int32) = nI 16 from rfl, pk_mul, nI_add]
    have j3 : vp_in (nI (16 * t + q)) 64 := vp_in_nI (by omega) (by omega)
    have j4 : (nI (16 * t + q)).toNatClampNeg = 16 * t + q := nI_clamp (by omega)
    obtain ⟨b4, hb4, hb4'⟩ := fd_b v4
    rw [wX_field_36]
    refine br_t (by decide) ?_
    rw [j1, j4, hb4']
    refine ⟨j3, nm_e ⟨j3, nm_e ?_⟩⟩
    unfold wpY_field
    refine yn_in a c (br_t rfl (yn_in a' c' (br_t rfl (yn_in e e' (br_t rfl ⟨8, yf_34 7 1 rfl (Nat.le_refl _) (fun w' => ?_) (fun _ => ?_)⟩)))))
    · obtain ⟨s, x1, x2, x3⟩ := w'
      exact absurd (w s x1 x2) x3
    · rw [wY_field_34]
      refine br_t (by decide) ?_
      rw [j2, j4, hb4']
      refine ⟨j3, nm_e ⟨j3, nm_e ⟨rfl, ?_⟩⟩⟩
      refine ⟨((pm_u K (16 * t + q) kd, fun j => if j = 16 * t + q then b4 else R j, z), (fAt, n, so, fl, st, h, p, m, M, l), (wi, wo, ql, hc, Q, tx), (f_down, f_typeSeen, yf_payload, yf_wants, yf_name, yf_first, yf_counts, yf_enters, yf_nodes, yf_values, yf_skipped, yf_pos, yf_there, yf_number, yf_at), (a_payload, a_life, a_theyEnded, a_weEnded, a_finishing, a_codes, a_headers, a_entries, upd a_kinds (16 * t + q) (nI kd + (-1)), upd a_repeats (16 * t + q) (if b4 = true then 1 else 0), a_messageCount), (a_nodeCount, a_nodeTypes, a_valueCount, a_valueOwners, a_values, a_skippedCount, a_reader, a_chainNode, a_chainEnd, a_nodeSize, a_nodePlace), (ya_type, ya_otherEnded, ya_prefix, ya_length, ya_got, ya_high, ya_has, ya_frame, ya_payloads), (ya_table, ya_nodeType, ya_valueNode, ya_valueNumber, ya_value, ya_from, ya_limit, ya_inside, ya_sizes)), rfl, rfl, hD, hl, hH, hO, hQ, hX, hS, hq, hT, ?_, hF, ?_⟩
      · refine ⟨fun j => ?_, fun j hj => ?_, fun j hj => ?_⟩
        · by_cases g : j = 16 * t + q
          · rw [g, pm_us]; exact hkd
          · rw [pm_un g]; exact hK.1 j
        · by_cases g : j = 16 * t + q
          · rw [g, pm_us, pm_upd_eq, if_pos rfl]
          · rw [pm_un g, pm_upd_eq, if_neg g]; exact hK.2.1 j hj
        · show upd a_repeats (16 * t + q) (if b4 = true then 1 else 0) j = if (if j = 16 * t + q then b4 else R j) = true then 1 else 0
          by_cases g : j = 16 * t + q
          · rw [pm_upd_eq, if_pos g, if_pos g]
          · rw [pm_upd_eq, if_neg g, if_neg g]; exact hK.2.2 j hj
      · intro s h1 h8
        have hid := w s h1 h8
        obtain ⟨p', m', y', h1, h2, h3, h4, h5, h6, h7, h8, h9, h10, h11, h12⟩ := hM s h1 h8
        obtain ⟨z1, z2⟩ := h8 hid
        subst z1 z2
        have hha : ya_has s = 0 := h7
        refine ⟨0, 0, y', h1, h2, h3, by omega, h5, h6, h7, fun _ => ⟨rfl, rfl⟩, h9, h10, fun w' => ?_, fun w' => absurd w' (by omega)⟩
        rw [hha] at w'; exact absurd w' (by decide)
end
end
section
/-! X: the beginning -/
section
variable {f_frameAt f_frameLength f_frameSort f_frameFlags f_frameStream f_down f_entryCount f_most f_typeSeen f_lastSender f_sentLength : Int32} {a_payload a_life a_theyEnded a_weEnded a_finishing a_codes a_windowIn a_windowOut a_headers a_headerCount a_entries a_kinds a_repeats a_messageCount a_text a_nodeCount a_nodeTypes a_valueCount a_valueOwners a_values a_skippedCount a_reader a_chainNode a_chainEnd a_queue a_queueLength a_sent a_nodeSize a_nodePlace : Nat → Int32} {yf_down yf_heads yf_paid yf_payload yf_wants yf_name yf_first yf_counts yf_enters yf_most yf_many yf_sent yf_last yf_nodes yf_values yf_skipped yf_pos yf_there yf_number yf_at : Int32} {ya_kind ya_repeated ya_how ya_code ya_coming ya_going ya_type ya_headers ya_header ya_queued ya_otherEnded ya_ended ya_finishing ya_queue ya_prefix ya_length ya_got ya_high ya_whole ya_has ya_bytes ya_frame ya_payloads ya_table ya_out ya_nodeType ya_valueNode ya_valueNumber ya_value ya_from ya_limit ya_inside ya_sizes : Nat → Int32}
def fi_k (i : Nat) : Nat → Int32 := fun j => if j < i then -1 else 0
theorem fi_ks (i : Nat) : upd (fi_k i) i (-1) = fi_k (i + 1) := by
  funext j
  rw [pm_upd_eq]
  unfold fi_k
  by_cases g : j = i
  · rw [if_pos g, if_pos (by omega)]
  · rw [if_neg g]
    by_cases g2 : j < i
    · rw [if_pos g2, if_pos (by omega)]
    · rw [if_neg g2, if_neg (by omega)]
theorem fi_x {post : SX → Prop} (H : post (f_frameAt, f_frameLength, f_frameSort, f_frameFlags, f_frameStream, f_down, f_entryCount, f_most, f_typeSeen, f_lastSender, f_sentLength, a_payload, a_life, a_theyEnded, a_weEnded, a_finishing, a_codes, a_windowIn, a_windowOut, a_headers, a_headerCount, a_entries, fi_k 64, a_repeats, a_messageCount, a_text, a_nodeCount, a_nodeTypes, a_valueCount, a_valueOwners, a_values, a_skippedCount, a_reader, a_chainNode, a_chainEnd, a_queue, a_queueLength, a_sent, a_nodeSize, a_nodePlace)) : ∀ r i, i + r = 64 →
    wX_init_266 post f_frameAt f_frameLength f_frameSort f_frameFlags f_frameStream f_down f_entryCount f_most f_typeSeen f_lastSender f_sentLength (r + 1) (nI i) a_payload a_life a_theyEnded a_weEnded a_finishing a_codes a_windowIn a_windowOut a_headers a_headerCount a_entries (fi_k i) a_repeats a_messageCount a_text a_nodeCount a_nodeTypes a_valueCount a_valueOwners a_values a_skippedCount a_reader a_chainNode a_chainEnd a_queue a_queueLength a_sent a_nodeSize a_nodePlace
  | 0, i, hi => by
    have : i = 64 := by omega
    subst this
    rw [wX_init_266]
    exact br_t (by decide) H
  | r + 1, i, hi => by
    rw [wX_init_266]
    refine pk_le 64 i (fun y => absurd y (by omega)) (fun y => ⟨vp_in_nI y (by omega), nm_r (e' := fi_k (i + 1)) (by rw [nI_clamp (by omega), fi_ks]) (nm_r (nI_1 _) (fi_x H r (i + 1) (by omega)))⟩)
theorem fi_y {post : SY → Prop} (H : post (yf_down, yf_heads, yf_paid, yf_payload, yf_wants, yf_name, yf_first, yf_counts, yf_enters, yf_most, yf_many, yf_sent, yf_last, yf_nodes, yf_values, yf_skipped, yf_pos, yf_there, yf_number, yf_at, fi_k 64, ya_repeated, ya_how, ya_code, upd ya_coming 0 100, upd ya_going 0 100, ya_type, ya_headers, ya_header, ya_queued, ya_otherEnded, ya_ended, ya_finishing, ya_queue, ya_prefix, ya_length, ya_got, ya_high, ya_whole, ya_has, ya_bytes, ya_frame, ya_payloads, ya_table, ya_out, ya_nodeType, ya_valueNode, ya_valueNumber, ya_value, ya_from, ya_limit, ya_inside, ya_sizes)) : ∀ r i, i + r = 64 →
    wY_init_282 post yf_down yf_heads yf_paid yf_payload yf_wants yf_name yf_first yf_counts yf_enters yf_most yf_many yf_sent yf_last yf_nodes yf_values yf_skipped yf_pos yf_there yf_number yf_at (r + 1) (nI i) (fi_k i) ya_repeated ya_how ya_code ya_coming ya_going ya_type ya_headers ya_header ya_queued ya_otherEnded ya_ended ya_finishing ya_queue ya_prefix ya_length ya_got ya_high ya_whole ya_has ya_bytes ya_frame ya_payloads ya_table ya_out ya_nodeType ya_valueNode ya_valueNumber ya_value ya_from ya_limit ya_inside ya_sizes
  | 0, i, hi => by
    have : i = 64 := by omega
    subst this
    rw [wY_init_282]
    exact br_t (by decide) (nm_e (nm_e H))
  | r + 1, i, hi => by
    rw [wY_init_282]
    refine pk_le 64 i (fun y => absurd y (by omega)) (fun y => ⟨vp_in_nI y (by omega), nm_r (e' := fi_k (i + 1)) (by rw [nI_clamp (by omega), fi_ks]) (nm_r (nI_1 _) (fi_y H r (i + 1) (by omega)))⟩)
def fi_w : Nat → Nat := fun j => if j = 0 then 100 else 0
theorem fi_we : upd (fun _ => (0 : Int32)) 0 100 = an_f fi_w := by
  funext j
  show (if j = 0 then (100 : Int32) else 0) = nI (if j = 0 then 100 else 0)
  split <;> rfl
theorem fi_wl (s : Nat) : fi_w s ≤ 255 := by
  unfold fi_w
  split <;> omega
theorem fi_01 : ¬ (0 : Int32) = 1 := by decide
theorem i_vc0 : wpX_init (fun u => wpY_init (fun v => i_Rel 0 u v)) := by
  have h0 : fi_k 0 = fun _ => 0 := by
    funext j; unfold fi_k; rw [if_neg (by omega)]
  unfold wpX_init
  refine nm_r fi_we (nm_r fi_we ⟨65, ?_⟩)
  have := fi_x (post := fun u => wpY_init (fun v => i_Rel 0 u v)) (f_frameAt := 0) (f_frameLength := 0) (f_frameSort := 0) (f_frameFlags := 0) (f_frameStream := 0) (f_down := 0) (f_entryCount := 0) (f_most := 16) (f_typeSeen := 0) (f_lastSender := 0) (f_sentLength := 0)
    (a_payload := fun _ => 0) (a_life := fun _ => 0) (a_theyEnded := fun _ => 0) (a_weEnded := fun _ => 0) (a_finishing := fun _ => 0) (a_codes := fun _ => 0) (a_windowIn := an_f fi_w) (a_windowOut := an_f fi_w) (a_headers := fun _ => 0) (a_headerCount := fun _ => 0) (a_entries := fun _ => 0) (a_repeats := fun _ => 0) (a_messageCount := fun _ => 0) (a_text := fun _ => 0) (a_nodeCount := fun _ => 0) (a_nodeTypes := fun _ => 0) (a_valueCount := fun _ => 0) (a_valueOwners := fun _ => 0) (a_values := fun _ => 0) (a_skippedCount := fun _ => 0) (a_reader := fun _ => 0) (a_chainNode := fun _ => 0) (a_chainEnd := fun _ => 0) (a_queue := fun _ => 0) (a_queueLength := fun _ => 0) (a_sent := fun _ => 0) (a_nodeSize := fun _ => 0) (a_nodePlace := fun _ => 0) ?_ 64 0 rfl
  · rw [h0] at this; exact this
  unfold wpY_init
  refine ⟨65, ?_⟩
  have := fi_y (post := fun v => i_Rel 0 (0, 0, 0, 0, 0, 0, 0, 16, 0, 0, 0, (fun _ => 0), (fun _ => 0), (fun _ => 0), (fun _ => 0), (fun _ => 0), (fun _ => 0), an_f fi_w, an_f fi_w, (fun _ => 0), (fun _ => 0), (fun _ => 0), fi_k 64, (fun _ => 0), (fun _ => 0), (fun _ => 0), (fun _ => 0), (fun _ => 0), (fun _ => 0), (fun _ => 0), (fun _ => 0), (fun _ => 0), (fun _ => 0), (fun _ => 0), (fun _ => 0), (fun _ => 0), (fun _ => 0), (fun _ => 0), (fun _ => 0), (fun _ => 0)) v)
    (yf_down := 0) (yf_heads := 0) (yf_paid := 0) (yf_payload := 0) (yf_wants := 0) (yf_name := 0) (yf_first := 0) (yf_counts := 0) (yf_enters := 0) (yf_most := 16) (yf_many := 0) (yf_sent := 0) (yf_last := 7) (yf_nodes := 0) (yf_values := 0) (yf_skipped := 0) (yf_pos := 0) (yf_there := 0) (yf_number := 0) (yf_at := 0)
    (ya_repeated := fun _ => 0) (ya_how := fun _ => 0) (ya_code := fun _ => 0) (ya_coming := fun _ => 0) (ya_going := fun _ => 0) (ya_type := fun _ => 0) (ya_headers := fun _ => 0) (ya_header := fun _ => 0) (ya_queued := fun _ => 0) (ya_otherEnded := fun _ => 0) (ya_ended := fun _ => 0) (ya_finishing := fun _ => 0) (ya_queue := fun _ => 0) (ya_prefix := fun _ => 0) (ya_length := fun _ => 0) (ya_got := fun _ => 0) (ya_high := fun _ => 0) (ya_whole := fun _ => 0) (ya_has := fun _ => 0) (ya_bytes := fun _ => 0) (ya_frame := fun _ => 0) (ya_payloads := fun _ => 0) (ya_table := fun _ => 0) (ya_out := fun _ => 0) (ya_nodeType := fun _ => 0) (ya_valueNode := fun _ => 0) (ya_valueNumber := fun _ => 0) (ya_value := fun _ => 0) (ya_from := fun _ => 0) (ya_limit := fun _ => 0) (ya_inside := fun _ => 0) (ya_sizes := fun _ => 0) ?_ 64 0 rfl
  · rw [h0] at this; exact this
  rw [fi_we]
  refine ⟨((fun _ => 0, fun _ => false, (fun _ => 0, 0)), (0, 0, 0, 0, 0, 0, 0, 0, 16, 0), (fi_w, fi_w, fun _ => 0, fun _ => 0, fun _ => 0, fun _ => 0), (0, 0, 0, 0, 0, 0, 0, 0, 0, 0, 0, 0, 0, 0, 0),
    (fun _ => 0, fun _ => 0, fun _ => 0, fun _ => 0, fun _ => 0, fun _ => 0, fun _ => 0, fun _ => 0, fi_k 64, fun _ => 0, fun _ => 0), (fun _ => 0, fun _ => 0, fun _ => 0, fun _ => 0, fun _ => 0, fun _ => 0, fun _ => 0, fun _ => 0, fun _ => 0, fun _ => 0, fun _ => 0),
    (fun _ => 0, fun _ => 0, fun _ => 0, fun _ => 0, fun _ => 0, fun _ => 0, fun _ => 0, fun _ => 0, fun _ => 0), (fun _ => 0, fun _ => 0, fun _ => 0, fun _ => 0, fun _ => 0, fun _ => 0, fun _ => 0, fun _ => 0, fun _ => 0)), rfl, rfl, Or.inl rfl, Nat.zero_le _, fun s _ => Nat.zero_le _, ⟨Nat.zero_le _, fun j => by show 0 < 256; omega⟩, fun j => by show 0 < 256; omega, fun j => by show 0 < 256; omega, ?_, ?_, ?_, ?_, ?_, ?_⟩
  · exact ⟨rfl, fun s hs => ⟨Or.inl rfl, Or.inl rfl, Or.inl rfl, Or.inl rfl, fi_wl s, fi_wl s, Nat.zero_le _, fun _ => rfl, fun _ _ => rfl, fun w => absurd w fi_01⟩⟩
  · exact fun _ s _ _ w => absurd w.1 fi_01
  · exact ⟨Nat.zero_le _, Nat.le_refl _, fun j hj => absurd hj (Nat.not_lt_zero _)⟩
  · exact ⟨fun _ => Nat.zero_le _, fun j hj => by show (if j < 64 then (-1 : Int32) else 0) = nI 0 + (-1); rw [if_pos hj]; decide, fun j _ => rfl⟩
  · exact fun _ => ⟨by omega, by omega, by omega, by omega, rfl, rfl, rfl, rfl, Or.inl ⟨by omega, rfl⟩⟩
  · exact fun s _ _ => ⟨0, 0, 0, by omega, rfl, rfl, by omega, rfl, by omega, rfl, fun _ => ⟨rfl, rfl⟩, fun w => absurd w (by omega), fun w => w.elim (fun x => absurd x fi_01) (fun x => absurd x fi_01), fun w => absurd w fi_01, fun w => absurd w (by omega)⟩
end
end
section
/-! Y: calls that look at a message -/
section
variable {f_frameAt f_frameLength f_frameSort f_frameFlags f_frameStream f_down f_entryCount f_most f_typeSeen f_lastSender f_sentLength : Int32} {a_payload a_life a_theyEnded a_weEnded a_finishing a_codes a_windowIn a_windowOut a_headers a_headerCount a_entries a_kinds a_repeats a_messageCount a_text a_nodeCount a_nodeTypes a_valueCount a_valueOwners a_values a_skippedCount a_reader a_chainNode a_chainEnd a_queue a_queueLength a_sent a_nodeSize a_nodePlace : Nat → Int32} {yf_down yf_heads yf_paid yf_payload yf_wants yf_name yf_first yf_counts yf_enters yf_most yf_many yf_sent yf_last yf_nodes yf_values yf_skipped yf_pos yf_there yf_number yf_at : Int32} {ya_kind ya_repeated ya_how ya_code ya_coming ya_going ya_type ya_headers ya_header ya_queued ya_otherEnded ya_ended ya_finishing ya_queue ya_prefix ya_length ya_got ya_high ya_whole ya_has ya_bytes ya_frame ya_payloads ya_table ya_out ya_nodeType ya_valueNode ya_valueNumber ya_value ya_from ya_limit ya_inside ya_sizes : Nat → Int32} {k s : Nat} {K : Nat → Nat} {R : Nat → Bool} {tx : Nat → Nat}
theorem lo_X (hs1 : 1 ≤ s) (hs : s < 8) (hk : k < 2 ^ 31)
    (hm : cr_m k K R s tx a_life a_messageCount a_nodeCount a_nodeTypes a_valueCount a_valueOwners a_values a_skippedCount a_reader a_chainNode a_chainEnd ya_type ya_length ya_got ya_high ya_has ya_prefix) {post : Int32 → Prop}
    (H1 : ya_has s = 1 → post 1) (H0 : ya_has s = 0 → post 0) : wpX_hasMessage post (f_frameAt, f_frameLength, f_frameSort, f_frameFlags, f_frameStream, f_down, f_entryCount, f_most, f_typeSeen, f_lastSender, f_sentLength, a_payload, a_life, a_theyEnded, a_weEnded, a_finishing, a_codes, a_windowIn, a_windowOut, a_headers, a_headerCount, a_entries, a_kinds, a_repeats, a_messageCount, a_text, a_nodeCount, a_nodeTypes, a_valueCount, a_valueOwners, a_values, a_skippedCount, a_reader, a_chainNode, a_chainEnd, a_queue, a_queueLength, a_sent, a_nodeSize, a_nodePlace) (nI s) := by
  obtain ⟨p, m, y, h1, h2, h3, h4, h5, h6, h7, h8⟩ := hm
  obtain ⟨g1, g2, g3, g4, g5⟩ := lk_s s hs
  have i0 := xr_ix (s := s) (k := 0) hs (by omega)
  have c0 : (nI (11 * s) + 0).toNatClampNeg = 11 * s := i0.2.2
  unfold wpX_hasMessage
  dsimp only
  rw [g5, h5, i0.1, c0, h3]
  refine br_f (g4 hs1).1 (br_f g3 ⟨lk_in hs, pk_le m 0 (fun w => H0 ?_) (fun w => ⟨i0.2.1, pk_le 3 p (fun w' => H0 ?_) (fun w' => H1 ?_)⟩)⟩)
  · rw [h7, if_neg (by omega)]
  · rw [h7, if_neg (by omega)]
  · rw [h7, if_pos ⟨by omega, w'⟩]
theorem lo_Xn {post : Int32 → Prop} {x : Int32} (hx : x < 1 ∨ (¬ x < 1 ∧ 7 < x)) (h : post 0) : wpX_hasMessage post (f_frameAt, f_frameLength, f_frameSort, f_frameFlags, f_frameStream, f_down, f_entryCount, f_most, f_typeSeen, f_lastSender, f_sentLength, a_payload, a_life, a_theyEnded, a_weEnded, a_finishing, a_codes, a_windowIn, a_windowOut, a_headers, a_headerCount, a_entries, a_kinds, a_repeats, a_messageCount, a_text, a_nodeCount, a_nodeTypes, a_valueCount, a_valueOwners, a_values, a_skippedCount, a_reader, a_chainNode, a_chainEnd, a_queue, a_queueLength, a_sent, a_nodeSize, a_nodePlace) x := by
  unfold wpX_hasMessage
  rcases hx with g | ⟨g1, g2⟩
  · exact br_t g h
  · exact br_f g1 (br_t g2 h)
theorem lo_Yn {post : Int32 → SY → Prop} {x : Int32} (hx : x < 1 ∨ (¬ x < 1 ∧ ¬ x ≤ 7)) (h : post 0 (yf_down, yf_heads, yf_paid, yf_payload, yf_wants, yf_name, yf_first, yf_counts, yf_enters, yf_most, yf_many, yf_sent, yf_last, yf_nodes, yf_values, yf_skipped, yf_pos, yf_there, yf_number, yf_at, ya_kind, ya_repeated, ya_how, ya_code, ya_coming, ya_going, ya_type, ya_headers, ya_header, ya_queued, ya_otherEnded, ya_ended, ya_finishing, ya_queue, ya_prefix, ya_length, ya_got, ya_high, ya_whole, ya_has, ya_bytes, ya_frame, ya_payloads, ya_table, ya_out, ya_nodeType, ya_valueNode, ya_valueNumber, ya_value, ya_from, ya_limit, ya_inside, ya_sizes)) : wpY_open post (yf_down, yf_heads, yf_paid, yf_payload, yf_wants, yf_name, yf_first, yf_counts, yf_enters, yf_most, yf_many, yf_sent, yf_last, yf_nodes, yf_values, yf_skipped, yf_pos, yf_there, yf_number, yf_at, ya_kind, ya_repeated, ya_how, ya_code, ya_coming, ya_going, ya_type, ya_headers, ya_header, ya_queued, ya_otherEnded, ya_ended, ya_finishing, ya_queue, ya_prefix, ya_length, ya_got, ya_high, ya_whole, ya_has, ya_bytes, ya_frame, ya_payloads, ya_table, ya_out, ya_nodeType, ya_valueNode, ya_valueNumber, ya_value, ya_from, ya_limit, ya_inside, ya_sizes) x := by
  unfold wpY_open
  rcases hx with g | ⟨g1, g2⟩
  · exact yn_lo g (br_f (by decide) h)
  · exact yn_hi g1 g2 (br_f (by decide) h)
theorem lo_Y0 {post : Int32 → SY → Prop} (hs1 : 1 ≤ s) (hs : s < 8) (h0 : ya_has s = 0) (h : post 0 (yf_down, yf_heads, yf_paid, yf_payload, yf_wants, yf_name, yf_first, yf_counts, yf_enters, yf_most, yf_many, yf_sent, yf_last, yf_nodes, yf_values, yf_skipped, yf_pos, yf_there, yf_number, yf_at, ya_kind, ya_repeated, ya_how, ya_code, ya_coming, ya_going, ya_type, ya_headers, ya_header, ya_queued, ya_otherEnded, ya_ended, ya_finishing, ya_queue, ya_prefix, ya_length, ya_got, ya_high, ya_whole, ya_has, ya_bytes, ya_frame, ya_payloads, ya_table, ya_out, ya_nodeType, ya_valueNode, ya_valueNumber, ya_value, ya_from, ya_limit, ya_inside, ya_sizes)) : wpY_open post (yf_down, yf_heads, yf_paid, yf_payload, yf_wants, yf_name, yf_first, yf_counts, yf_enters, yf_most, yf_many, yf_sent, yf_last, yf_nodes, yf_values, yf_skipped, yf_pos, yf_there, yf_number, yf_at, ya_kind, ya_repeated, ya_how, ya_code, ya_coming, ya_going, ya_type, ya_headers, ya_header, ya_queued, ya_otherEnded, ya_ended, ya_finishing, ya_queue, ya_prefix, ya_length, ya_got, ya_high, ya_whole, ya_has, ya_bytes, ya_frame, ya_payloads, ya_table, ya_out, ya_nodeType, ya_valueNode, ya_valueNumber, ya_value, ya_from, ya_limit, ya_inside, ya_sizes) (nI s) := by
  obtain ⟨g1, g2, g3, g4, g5⟩ := lk_s s hs
  unfold wpY_open
  rw [g5]
  exact yn_in (g4 hs1).1 g2 (br_t rfl ⟨lk_in hs, br_t h0 h⟩)
theorem cr_by_B (hX : cr_B tx) : yr_B tx s (cr_by tx s) := by
  refine ⟨hX, fun i => ?_, fun i hi => ?_⟩
  · unfold cr_by
    split
    · exact hX _
    · omega
  · unfold cr_by; rw [if_pos hi]
theorem lo_Y1 {T y : Nat} {c : pm_C} {post : Int32 → SY → Prop} (hs1 : 1 ≤ s) (hs : s < 8) (hy : y < 4) (hL : T ≤ 200) (hK : cr_K ya_kind ya_repeated K R) (hX : cr_B tx) (h1 : ya_has s = 1)
    (hty : ya_type s = nI y) (hle : ya_length s = nI T) (hgo : ya_got s = nI T) (hrd : pm_Rd (cr_by tx s) K R T (cr_0 y T) (0, c))
    (H : ∀ (z' : yr_Z), yr_ok c (pm_pos c) z' → post 1 (yf_down, yf_heads, yf_paid, yf_payload, yf_wants, yf_name, yf_first, yf_counts, yf_enters, yf_most, yf_many, yf_sent, yf_last, z'.1, z'.2.1, z'.2.2.1, z'.2.2.2.1, nI T, z'.2.2.2.2.1, z'.2.2.2.2.2.1, ya_kind, ya_repeated, ya_how, ya_code, ya_coming, ya_going, ya_type, ya_headers, ya_header, ya_queued, ya_otherEnded, ya_ended, ya_finishing, ya_queue, ya_prefix, ya_length, ya_got, ya_high, ya_whole, ya_has, an_g tx, ya_frame, ya_payloads, ya_table, ya_out, z'.2.2.2.2.2.2.1, z'.2.2.2.2.2.2.2.1, z'.2.2.2.2.2.2.2.2.1, z'.2.2.2.2.2.2.2.2.2.1, z'.2.2.2.2.2.2.2.2.2.2.1, z'.2.2.2.2.2.2.2.2.2.2.2.1, z'.2.2.2.2.2.2.2.2.2.2.2.2, ya_sizes)) : wpY_open post (yf_down, yf_heads, yf_paid, yf_payload, yf_wants, yf_name, yf_first, yf_counts, yf_enters, yf_most, yf_many, yf_sent, yf_last, yf_nodes, yf_values, yf_skipped, yf_pos, yf_there, yf_number, yf_at, ya_kind, ya_repeated, ya_how, ya_code, ya_coming, ya_going, ya_type, ya_headers, ya_header, ya_queued, ya_otherEnded, ya_ended, ya_finishing, ya_queue, ya_prefix, ya_length, ya_got, ya_high, ya_whole, ya_has, an_g tx, ya_frame, ya_payloads, ya_table, ya_out, ya_nodeType, ya_valueNode, ya_valueNumber, ya_value, ya_from, ya_limit, ya_inside, ya_sizes) (nI s) := by
  obtain ⟨g1, g2, g3, g4, g5⟩ := lk_s s hs
  unfold wpY_open
  rw [g5]
  refine yn_in (g4 hs1).1 g2 (br_t rfl ⟨lk_in hs, br_f (by rw [h1]; decide) ?_⟩)
  refine yr_read hy hL hK (cr_by_B hX) hs hL hty hle hgo hrd (fun c' z' h2 h3 => ?_) (fun z' h2 => absurd rfl h2)
  have : c' = c := (congrArg Prod.snd h2).symm
  subst this
  exact H z' h3
/-- how many values there are of a field, among the first -/
def lo_c (D : pm_D) (x y : Int32) : Nat → Nat
  | 0 => 0
  | i + 1 => lo_c D x y i + if nI (pm_vn D i) = x ∧ nI (pm_vm D i) = y then 1 else 0
/-- the value behind b others; all of them: there is none -/
def lo_f (D : pm_D) (x y w : Int32) : Nat → Nat → Nat → Nat
  | 0, j, _ => j
  | f + 1, j, b => if nI (pm_vn D j) = x ∧ nI (pm_vm D j) = y then (if nI b = w then j else lo_f D x y w f (j + 1) (b + 1)) else lo_f D x y w f (j + 1) b
theorem lo_f_le {D : pm_D} {x y w : Int32} : ∀ f j b, lo_f D x y w f j b ≤ j + f
  | 0, j, b => Nat.le_refl _
  | f + 1, j, b => by
    rw [lo_f]
    have h1 := lo_f_le (D := D) (x := x) (y := y) (w := w) f (j + 1) (b + 1)
    have h2 := lo_f_le (D := D) (x := x) (y := y) (w := w) f (j + 1) b
    split
    · split <;> omega
    · omega
theorem lo_f_s {D : pm_D} {x y w : Int32} : ∀ f j b, lo_f D x y w f j b < j + f → nI (pm_vn D (lo_f D x y w f j b)) = x ∧ nI (pm_vm D (lo_f D x y w f j b)) = y
  | 0, j, b, h => by
    rw [lo_f] at h; omega
  | f + 1, j, b, h => by
    rw [lo_f] at h ⊢
    by_cases g : nI (pm_vn D j) = x ∧ nI (pm_vm D j) = y
    · rw [if_pos g] at h ⊢
      by_cases g2 : nI b = w
      · rw [if_pos g2]; exact g
      · rw [if_neg g2] at h ⊢
        exact lo_f_s f (j + 1) (b + 1) (by omega)
    · rw [if_neg g] at h ⊢
      exact lo_f_s f (j + 1) b (by omega)
theorem lo_none {D : pm_D} {x y : Int32} (h : ∀ j, j < pm_nv D → ¬ (nI (pm_vn D j) = x ∧ nI (pm_vm D j) = y)) : lo_c D x y (pm_nv D) = 0 ∧ ∀ w, lo_f D x y w (pm_nv D) 0 0 = pm_nv D := by
  constructor
  · have : ∀ i, i ≤ pm_nv D → lo_c D x y i = 0 := by
      intro i
      induction i with
      | zero => intro _; rfl
      | succ i ih =>
        intro hi
        rw [lo_c, ih (by omega), if_neg (h i (by omega))]
    exact this _ (Nat.le_refl _)
  · intro w
    have h1 := lo_f_le (D := D) (x := x) (y := y) (w := w) (pm_nv D) 0 0
    rcases Nat.lt_or_ge (lo_f D x y w (pm_nv D) 0 0) (pm_nv D) with g | g
    · exact absurd (lo_f_s (pm_nv D) 0 0 (by omega)) (h _ g)
    · omega
end
end
section
/-! Y2: calls that look at a message: nodes, types, skipped -/
section
variable {f_frameAt f_frameLength f_frameSort f_frameFlags f_frameStream f_down f_entryCount f_most f_typeSeen f_lastSender f_sentLength : Int32} {a_payload a_life a_theyEnded a_weEnded a_finishing a_codes a_windowIn a_windowOut a_headers a_headerCount a_entries a_kinds a_repeats a_messageCount a_text a_nodeCount a_nodeTypes a_valueCount a_valueOwners a_values a_skippedCount a_reader a_chainNode a_chainEnd a_queue a_queueLength a_sent a_nodeSize a_nodePlace : Nat → Int32} {yf_down yf_heads yf_paid yf_payload yf_wants yf_name yf_first yf_counts yf_enters yf_most yf_many yf_sent yf_last yf_nodes yf_values yf_skipped yf_pos yf_there yf_number yf_at : Int32} {ya_kind ya_repeated ya_how ya_code ya_coming ya_going ya_type ya_headers ya_header ya_queued ya_otherEnded ya_ended ya_finishing ya_queue ya_prefix ya_length ya_got ya_high ya_whole ya_has ya_bytes ya_frame ya_payloads ya_table ya_out ya_nodeType ya_valueNode ya_valueNumber ya_value ya_from ya_limit ya_inside ya_sizes : Nat → Int32}
/-- what a look leaves: the reference's own arrays of a reading -/
theorem lo_J {k T : Nat} {K : Nat → Nat} {R : Nat → Bool} {z : (Nat → Nat) × Nat} {fAt n so fl st h p m M l : Nat} {wi wo ql hc Q tx : Nat → Nat}
    (hC : cr_C k ((K, R, z), (fAt, n, so, fl, st, h, p, m, M, l), (wi, wo, ql, hc, Q, tx), (f_down, f_typeSeen, yf_payload, yf_wants, yf_name, yf_first, yf_counts, yf_enters, yf_nodes, yf_values, yf_skipped, yf_pos, yf_there, yf_number, yf_at), (a_payload, a_life, a_theyEnded, a_weEnded, a_finishing, a_codes, a_headers, a_entries, a_kinds, a_repeats, a_messageCount), (a_nodeCount, a_nodeTypes, a_valueCount, a_valueOwners, a_values, a_skippedCount, a_reader, a_chainNode, a_chainEnd, a_nodeSize, a_nodePlace), (ya_type, ya_otherEnded, ya_prefix, ya_length, ya_got, ya_high, ya_has, ya_frame, ya_payloads), (ya_table, ya_nodeType, ya_valueNode, ya_valueNumber, ya_value, ya_from, ya_limit, ya_inside, ya_sizes))) (z' : yr_Z) : i_Rel (k + 6) (nI fAt, nI n, nI so, nI fl, nI st, f_down, nI m, nI M, f_typeSeen, nI l, nI z.2, a_payload, a_life, a_theyEnded, a_weEnded, a_finishing, a_codes, an_f wi, an_f wo, a_headers, an_f hc, a_entries, a_kinds, a_repeats, a_messageCount, an_f tx, a_nodeCount, a_nodeTypes, a_valueCount, a_valueOwners, a_values, a_skippedCount, a_reader, a_chainNode, a_chainEnd, an_f Q, an_f ql, an_f z.1, a_nodeSize, a_nodePlace) (f_down, nI h, nI p, yf_payload, yf_wants, yf_name, yf_first, yf_counts, yf_enters, nI M, nI m, nI z.2, nI (if l = 0 then 7 else l), z'.1, z'.2.1, z'.2.2.1, z'.2.2.2.1, nI T, z'.2.2.2.2.1, z'.2.2.2.2.2.1, a_kinds, a_repeats, a_life, a_codes, an_f wi, an_f wo, ya_type, an_f hc, a_headers, an_f ql, ya_otherEnded, a_weEnded, a_finishing, an_g Q, ya_prefix, ya_length, ya_got, ya_high, a_messageCount, ya_has, an_g tx, ya_frame, ya_payloads, ya_table, an_g z.1, z'.2.2.2.2.2.2.1, z'.2.2.2.2.2.2.2.1, z'.2.2.2.2.2.2.2.2.1, z'.2.2.2.2.2.2.2.2.2.1, z'.2.2.2.2.2.2.2.2.2.2.1, z'.2.2.2.2.2.2.2.2.2.2.2.1, z'.2.2.2.2.2.2.2.2.2.2.2.2, ya_sizes) := by
  obtain ⟨hD, hl, hH, hO, hQ, hX, hS, hq, hT, hK, hF, hM⟩ := hC
  exact ⟨((K, R, z), (fAt, n, so, fl, st, h, p, m, M, l), (wi, wo, ql, hc, Q, tx), (f_down, f_typeSeen, yf_payload, yf_wants, yf_name, yf_first, yf_counts, yf_enters, z'.1, z'.2.1, z'.2.2.1, z'.2.2.2.1, nI T, z'.2.2.2.2.1, z'.2.2.2.2.2.1), (a_payload, a_life, a_theyEnded, a_weEnded, a_finishing, a_codes, a_headers, a_entries, a_kinds, a_repeats, a_messageCount), (a_nodeCount, a_nodeTypes, a_valueCount, a_valueOwners, a_values, a_skippedCount, a_reader, a_chainNode, a_chainEnd, a_nodeSize, a_nodePlace), (ya_type, ya_otherEnded, ya_prefix, ya_length, ya_got, ya_high, ya_has, ya_frame, ya_payloads), (ya_table, z'.2.2.2.2.2.2.1, z'.2.2.2.2.2.2.2.1, z'.2.2.2.2.2.2.2.2.1, z'.2.2.2.2.2.2.2.2.2.1, z'.2.2.2.2.2.2.2.2.2.2.1, z'.2.2.2.2.2.2.2.2.2.2.2.1, z'.2.2.2.2.2.2.2.2.2.2.2.2, ya_sizes)), rfl, rfl, hD, hl, hH, hO, hQ, hX, hS, hq, hT, hK, hF, fun s h1 h2 => cr_m_k (by omega) (hM s h1 h2)⟩
theorem lo_M {k s : Nat} {K : Nat → Nat} {R : Nat → Bool} {z : (Nat → Nat) × Nat} {fAt n so fl st h p m M l : Nat} {wi wo ql hc Q tx : Nat → Nat}
    (hC : cr_C k ((K, R, z), (fAt, n, so, fl, st, h, p, m, M, l), (wi, wo, ql, hc, Q, tx), (f_down, f_typeSeen, yf_payload, yf_wants, yf_name, yf_first, yf_counts, yf_enters, yf_nodes, yf_values, yf_skipped, yf_pos, yf_there, yf_number, yf_at), (a_payload, a_life, a_theyEnded, a_weEnded, a_finishing, a_codes, a_headers, a_entries, a_kinds, a_repeats, a_messageCount), (a_nodeCount, a_nodeTypes, a_valueCount, a_valueOwners, a_values, a_skippedCount, a_reader, a_chainNode, a_chainEnd, a_nodeSize, a_nodePlace), (ya_type, ya_otherEnded, ya_prefix, ya_length, ya_got, ya_high, ya_has, ya_frame, ya_payloads), (ya_table, ya_nodeType, ya_valueNode, ya_valueNumber, ya_value, ya_from, ya_limit, ya_inside, ya_sizes))) (s1 : 1 ≤ s) (s8 : s < 8) (w : ya_has s = 1) : ∃ c dep L, L ≤ 200 ∧ pm_CI K R L dep c ∧ cr_XD K s a_nodeCount a_nodeTypes a_valueCount a_valueOwners a_values (pm_d c) ∧ a_skippedCount s = nI (pm_sk c) ∧
      ∀ (post : Int32 → SY → Prop), (∀ (z' : yr_Z), yr_ok c (pm_pos c) z' → post 1 (f_down, nI h, nI p, yf_payload, yf_wants, yf_name, yf_first, yf_counts, yf_enters, nI M, nI m, nI z.2, nI (if l = 0 then 7 else l), z'.1, z'.2.1, z'.2.2.1, z'.2.2.2.1, nI L, z'.2.2.2.2.1, z'.2.2.2.2.2.1, a_kinds, a_repeats, a_life, a_codes, an_f wi, an_f wo, ya_type, an_f hc, a_headers, an_f ql, ya_otherEnded, a_weEnded, a_finishing, an_g Q, ya_prefix, ya_length, ya_got, ya_high, a_messageCount, ya_has, an_g tx, ya_frame, ya_payloads, ya_table, an_g z.1, z'.2.2.2.2.2.2.1, z'.2.2.2.2.2.2.2.1, z'.2.2.2.2.2.2.2.2.1, z'.2.2.2.2.2.2.2.2.2.1, z'.2.2.2.2.2.2.2.2.2.2.1, z'.2.2.2.2.2.2.2.2.2.2.2.1, z'.2.2.2.2.2.2.2.2.2.2.2.2, ya_sizes)) → wpY_open post (f_down, nI h, nI p, yf_payload, yf_wants, yf_name, yf_first, yf_counts, yf_enters, nI M, nI m, nI z.2, nI (if l = 0 then 7 else l), yf_nodes, yf_values, yf_skipped, yf_pos, yf_there, yf_number, yf_at, a_kinds, a_repeats, a_life, a_codes, an_f wi, an_f wo, ya_type, an_f hc, a_headers, an_f ql, ya_otherEnded, a_weEnded, a_finishing, an_g Q, ya_prefix, ya_length, ya_got, ya_high, a_messageCount, ya_has, an_g tx, ya_frame, ya_payloads, ya_table, an_g z.1, ya_nodeType, ya_valueNode, ya_valueNumber, ya_value, ya_from, ya_limit, ya_inside, ya_sizes) (nI s) := by
  obtain ⟨hD, hl, hH, hO, hQ, hX, hS, hq, hT, hK, hF, hM⟩ := hC
  obtain ⟨p', m', y', h1, h2, h3, h4, h5, h6, h7, h8, h9, h10, h11, h12⟩ := hM s s1 s8
  obtain ⟨L, l1, l2, l3, dep, c, d1, d2, d3, d4⟩ := h11 w
  exact ⟨c, dep, L, l1, d2, d3, d4, fun post H => lo_Y1 s1 s8 h6 l1 hK hX w (h10 (Or.inr w)).1 l2 l3 d1 H⟩
theorem lo_H {k s : Nat} {K : Nat → Nat} {R : Nat → Bool} {z : (Nat → Nat) × Nat} {fAt n so fl st h p m M l : Nat} {wi wo ql hc Q tx : Nat → Nat}
    (hC : cr_C k ((K, R, z), (fAt, n, so, fl, st, h, p, m, M, l), (wi, wo, ql, hc, Q, tx), (f_down, f_typeSeen, yf_payload, yf_wants, yf_name, yf_first, yf_counts, yf_enters, yf_nodes, yf_values, yf_skipped, yf_pos, yf_there, yf_number, yf_at), (a_payload, a_life, a_theyEnded, a_weEnded, a_finishing, a_codes, a_headers, a_entries, a_kinds, a_repeats, a_messageCount), (a_nodeCount, a_nodeTypes, a_valueCount, a_valueOwners, a_values, a_skippedCount, a_reader, a_chainNode, a_chainEnd, a_nodeSize, a_nodePlace), (ya_type, ya_otherEnded, ya_prefix, ya_length, ya_got, ya_high, ya_has, ya_frame, ya_payloads), (ya_table, ya_nodeType, ya_valueNode, ya_valueNumber, ya_value, ya_from, ya_limit, ya_inside, ya_sizes))) (s1 : 1 ≤ s) (s8 : s < 8) : ya_has s = 0 ∨ ya_has s = 1 := by
  obtain ⟨hD, hl, hH, hO, hQ, hX, hS, hq, hT, hK, hF, hM⟩ := hC
  obtain ⟨p', m', y', h1, h2, h3, h4, h5, h6, h7, h8⟩ := hM s s1 s8
  by_cases w : m' ≠ 0 ∧ p' < 3
  · rw [if_pos w] at h7; exact Or.inr h7
  · rw [if_neg w] at h7; exact Or.inl h7
theorem i_vc_nodes {k : Nat} {u : SX} {v : SY} (I : i_Rel k u v) (hk : k + 6 ≤ 3072) (v1 : Int32) : wpX_nodes (fun r => wpY_nodes (fun r' v' => r' = r ∧ i_Rel (k + 6) u v') v v1) u v1 := by
  have J := i_up I
  obtain ⟨⟨⟨K, R, z⟩, ⟨fAt, n, so, fl, st, h, p, m, M, l⟩, ⟨wi, wo, ql, hc, Q, tx⟩, ⟨f_down, f_typeSeen, yf_payload, yf_wants, yf_name, yf_first, yf_counts, yf_enters, yf_nodes, yf_values, yf_skipped, yf_pos, yf_there, yf_number, yf_at⟩, ⟨a_payload, a_life, a_theyEnded, a_weEnded, a_finishing, a_codes, a_headers, a_entries, a_kinds, a_repeats, a_messageCount⟩, ⟨a_nodeCount, a_nodeTypes, a_valueCount, a_valueOwners, a_values, a_skippedCount, a_reader, a_chainNode, a_chainEnd, a_nodeSize, a_nodePlace⟩, ⟨ya_type, ya_otherEnded, ya_prefix, ya_length, ya_got, ya_high, ya_has, ya_frame, ya_payloads⟩, ⟨ya_table, ya_nodeType, ya_valueNode, ya_valueNumber, ya_value, ya_from, ya_limit, ya_inside, ya_sizes⟩⟩, rfl, rfl, hD, hl, hH, hO, hQ, hX, hS, hq, hT, hK, hF, hM⟩ := I
  have hC : cr_C k ((K, R, z), (fAt, n, so, fl, st, h, p, m, M, l), (wi, wo, ql, hc, Q, tx), (f_down, f_typeSeen, yf_payload, yf_wants, yf_name, yf_first, yf_counts, yf_enters, yf_nodes, yf_values, yf_skipped, yf_pos, yf_there, yf_number, yf_at), (a_payload, a_life, a_theyEnded, a_weEnded, a_finishing, a_codes, a_headers, a_entries, a_kinds, a_repeats, a_messageCount), (a_nodeCount, a_nodeTypes, a_valueCount, a_valueOwners, a_values, a_skippedCount, a_reader, a_chainNode, a_chainEnd, a_nodeSize, a_nodePlace), (ya_type, ya_otherEnded, ya_prefix, ya_length, ya_got, ya_high, ya_has, ya_frame, ya_payloads), (ya_table, ya_nodeType, ya_valueNode, ya_valueNumber, ya_value, ya_from, ya_limit, ya_inside, ya_sizes)) := ⟨hD, hl, hH, hO, hQ, hX, hS, hq, hT, hK, hF, hM⟩
  dsimp only [cr_x, cr_y] at J ⊢
  unfold wpX_nodes wpY_nodes
  rcases lk_c v1 with ⟨h1, h2, h3, h4⟩ | ⟨h1, h2, h3, h4, h5⟩ | ⟨s, hs, rfl⟩
  · exact lo_Xn (Or.inl h2) (br_t rfl (lo_Yn (Or.inl h2) (br_t rfl ⟨rfl, J⟩)))
  · exact lo_Xn (Or.inr ⟨h2, h4⟩) (br_t rfl (lo_Yn (Or.inr ⟨h2, h3⟩) (br_t rfl ⟨rfl, J⟩)))
  · by_cases h0 : s = 0
    · subst h0
      exact lo_Xn (Or.inl (by decide)) (br_t rfl (lo_Yn (Or.inl (by decide)) (br_t rfl ⟨rfl, J⟩)))
    · refine lo_X (by omega) hs (by omega) (hM s (by omega) hs) (fun w => ?_) (fun w => br_t rfl (lo_Y0 (by omega) hs w (br_t rfl ⟨rfl, J⟩)))
      obtain ⟨c, dep, L, l1, d2, d3, d4, HO⟩ := lo_M hC (show 1 ≤ s by omega) hs w
      refine br_f (by decide) ?_
      rw [(xr_c8 hs).2, d3.1]
      exact ⟨(xr_c8 hs).1, HO _ (fun z' hz => br_f (by decide) ⟨hz.1, lo_J hC z'⟩)⟩
theorem i_vc_skipped {k : Nat} {u : SX} {v : SY} (I : i_Rel k u v) (hk : k + 6 ≤ 3072) (v1 : Int32) : wpX_skipped (fun r => wpY_skipped (fun r' v' => r' = r ∧ i_Rel (k + 6) u v') v v1) u v1 := by
  have J := i_up I
  obtain ⟨⟨⟨K, R, z⟩, ⟨fAt, n, so, fl, st, h, p, m, M, l⟩, ⟨wi, wo, ql, hc, Q, tx⟩, ⟨f_down, f_typeSeen, yf_payload, yf_wants, yf_name, yf_first, yf_counts, yf_enters, yf_nodes, yf_values, yf_skipped, yf_pos, yf_there, yf_number, yf_at⟩, ⟨a_payload, a_life, a_theyEnded, a_weEnded, a_finishing, a_codes, a_headers, a_entries, a_kinds, a_repeats, a_messageCount⟩, ⟨a_nodeCount, a_nodeTypes, a_valueCount, a_valueOwners, a_values, a_skippedCount, a_reader, a_chainNode, a_chainEnd, a_nodeSize, a_nodePlace⟩, ⟨ya_type, ya_otherEnded, ya_prefix, ya_length, ya_got, ya_high, ya_has, ya_frame, ya_payloads⟩, ⟨ya_table, ya_nodeType, ya_valueNode, ya_valueNumber, ya_value, ya_from, ya_limit, ya_inside, ya_sizes⟩⟩, rfl, rfl, hD, hl, hH, hO, hQ, hX, hS, hq, hT, hK, hF, hM⟩ := I
  have hC : cr_C k ((K, R, z), (fAt, n, so, fl, st, h, p, m, M, l), (wi, wo, ql, hc, Q, tx), (f_down, f_typeSeen, yf_payload, yf_wants, yf_name, yf_first, yf_counts, yf_enters, yf_nodes, yf_values, yf_skipped, yf_pos, yf_there, yf_number, yf_at), (a_payload, a_life, a_theyEnded, a_weEnded, a_finishing, a_codes, a_headers, a_entries, a_kinds, a_repeats, a_messageCount), (a_nodeCount, a_nodeTypes, a_valueCount, a_valueOwners, a_values, a_skippedCount, a_reader, a_chainNode, a_chainEnd, a_nodeSize, a_nodePlace), (ya_type, ya_otherEnded, ya_prefix, ya_length, ya_got, ya_high, ya_has, ya_frame, ya_payloads), (ya_table, ya_nodeType, ya_valueNode, ya_valueNumber, ya_value, ya_from, ya_limit, ya_inside, ya_sizes)) := ⟨hD, hl, hH, hO, hQ, hX, hS, hq, hT, hK, hF, hM⟩
  dsimp only [cr_x, cr_y] at J ⊢
  unfold wpX_skipped wpY_skipped
  rcases lk_c v1 with ⟨h1, h2, h3, h4⟩ | ⟨h1, h2, h3, h4, h5⟩ | ⟨s, hs, rfl⟩
  · exact lo_Xn (Or.inl h2) (br_t rfl (lo_Yn (Or.inl h2) (br_t rfl ⟨rfl, J⟩)))
  · exact lo_Xn (Or.inr ⟨h2, h4⟩) (br_t rfl (lo_Yn (Or.inr ⟨h2, h3⟩) (br_t rfl ⟨rfl, J⟩)))
  · by_cases h0 : s = 0
    · subst h0
      exact lo_Xn (Or.inl (by decide)) (br_t rfl (lo_Yn (Or.inl (by decide)) (br_t rfl ⟨rfl, J⟩)))
    · refine lo_X (by omega) hs (by omega) (hM s (by omega) hs) (fun w => ?_) (fun w => br_t rfl (lo_Y0 (by omega) hs w (br_t rfl ⟨rfl, J⟩)))
      obtain ⟨c, dep, L, l1, d2, d3, d4, HO⟩ := lo_M hC (show 1 ≤ s by omega) hs w
      refine br_f (by decide) ?_
      rw [(xr_c8 hs).2, d4]
      exact ⟨(xr_c8 hs).1, HO _ (fun z' hz => br_f (by decide) ⟨hz.2.2.1, lo_J hC z'⟩)⟩
/-- a node that is there, or not -/
theorem lo_node {x : Int32} {nn : Nat} (h : nn ≤ 16) : (x < 0) ∨ (¬ x < 0 ∧ nI nn ≤ x ∧ ¬ x ≤ nI nn - 1) ∨ ∃ a, a < nn ∧ x = nI a ∧ ¬ x < 0 ∧ ¬ nI nn ≤ x ∧ x ≤ nI nn - 1 := lk_ix nn (by omega)
theorem i_vc_typeOf {k : Nat} {u : SX} {v : SY} (I : i_Rel k u v) (hk : k + 6 ≤ 3072) (v1 : Int32) (v2 : Int32) : wpX_typeOf (fun r => wpY_typeOf (fun r' v' => r' = r ∧ i_Rel (k + 6) u v') v v1 v2) u v1 v2 := by
  have J := i_up I
  obtain ⟨⟨⟨K, R, z⟩, ⟨fAt, n, so, fl, st, h, p, m, M, l⟩, ⟨wi, wo, ql, hc, Q, tx⟩, ⟨f_down, f_typeSeen, yf_payload, yf_wants, yf_name, yf_first, yf_counts, yf_enters, yf_nodes, yf_values, yf_skipped, yf_pos, yf_there, yf_number, yf_at⟩, ⟨a_payload, a_life, a_theyEnded, a_weEnded, a_finishing, a_codes, a_headers, a_entries, a_kinds, a_repeats, a_messageCount⟩, ⟨a_nodeCount, a_nodeTypes, a_valueCount, a_valueOwners, a_values, a_skippedCount, a_reader, a_chainNode, a_chainEnd, a_nodeSize, a_nodePlace⟩, ⟨ya_type, ya_otherEnded, ya_prefix, ya_length, ya_got, ya_high, ya_has, ya_frame, ya_payloads⟩, ⟨ya_table, ya_nodeType, ya_valueNode, ya_valueNumber, ya_value, ya_from, ya_limit, ya_inside, ya_sizes⟩⟩, rfl, rfl, hD, hl, hH, hO, hQ, hX, hS, hq, hT, hK, hF, hM⟩ := I
  have hC : cr_C k ((K, R, z), (fAt, n, so, fl, st, h, p, m, M, l), (wi, wo, ql, hc, Q, tx), (f_down, f_typeSeen, yf_payload, yf_wants, yf_name, yf_first, yf_counts, yf_enters, yf_nodes, yf_values, yf_skipped, yf_pos, yf_there, yf_number, yf_at), (a_payload, a_life, a_theyEnded, a_weEnded, a_finishing, a_codes, a_headers, a_entries, a_kinds, a_repeats, a_messageCount), (a_nodeCount, a_nodeTypes, a_valueCount, a_valueOwners, a_values, a_skippedCount, a_reader, a_chainNode, a_chainEnd, a_nodeSize, a_nodePlace), (ya_type, ya_otherEnded, ya_prefix, ya_length, ya_got, ya_high, ya_has, ya_frame, ya_payloads), (ya_table, ya_nodeType, ya_valueNode, ya_valueNumber, ya_value, ya_from, ya_limit, ya_inside, ya_sizes)) := ⟨hD, hl, hH, hO, hQ, hX, hS, hq, hT, hK, hF, hM⟩
  dsimp only [cr_x, cr_y] at J ⊢
  have HN : (∀ s, 1 ≤ s → s < 8 → v1 = nI s → ya_has s = 0) → wpY_typeOf (fun r' v' => r' = -1 ∧ i_Rel (k + 6) (nI fAt, nI n, nI so, nI fl, nI st, f_down, nI m, nI M, f_typeSeen, nI l, nI z.2, a_payload, a_life, a_theyEnded, a_weEnded, a_finishing, a_codes, an_f wi, an_f wo, a_headers, an_f hc, a_entries, a_kinds, a_repeats, a_messageCount, an_f tx, a_nodeCount, a_nodeTypes, a_valueCount, a_valueOwners, a_values, a_skippedCount, a_reader, a_chainNode, a_chainEnd, an_f Q, an_f ql, an_f z.1, a_nodeSize, a_nodePlace) v') (f_down, nI h, nI p, yf_payload, yf_wants, yf_name, yf_first, yf_counts, yf_enters, nI M, nI m, nI z.2, nI (if l = 0 then 7 else l), yf_nodes, yf_values, yf_skipped, yf_pos, yf_there, yf_number, yf_at, a_kinds, a_repeats, a_life, a_codes, an_f wi, an_f wo, ya_type, an_f hc, a_headers, an_f ql, ya_otherEnded, a_weEnded, a_finishing, an_g Q, ya_prefix, ya_length, ya_got, ya_high, a_messageCount, ya_has, an_g tx, ya_frame, ya_payloads, ya_table, an_g z.1, ya_nodeType, ya_valueNode, ya_valueNumber, ya_value, ya_from, ya_limit, ya_inside, ya_sizes) v1 v2 := by
    intro hno
    unfold wpY_typeOf
    rcases lk_c v1 with ⟨h1, h2, h3, h4⟩ | ⟨h1, h2, h3, h4, h5⟩ | ⟨s, hs, rfl⟩
    · exact lo_Yn (Or.inl h2) (br_t rfl ⟨rfl, J⟩)
    · exact lo_Yn (Or.inr ⟨h2, h3⟩) (br_t rfl ⟨rfl, J⟩)
    · by_cases h0 : s = 0
      · subst h0; exact lo_Yn (Or.inl (by decide)) (br_t rfl ⟨rfl, J⟩)
      · exact lo_Y0 (by omega) hs (hno s (by omega) hs rfl) (br_t rfl ⟨rfl, J⟩)
  have HB : ∀ s, 1 ≤ s → s < 8 → v1 = nI s → ya_has s = 1 → (v2 < 0) → wpY_typeOf (fun r' v' => r' = -1 ∧ i_Rel (k + 6) (nI fAt, nI n, nI so, nI fl, nI st, f_down, nI m, nI M, f_typeSeen, nI l, nI z.2, a_payload, a_life, a_theyEnded, a_weEnded, a_finishing, a_codes, an_f wi, an_f wo, a_headers, an_f hc, a_entries, a_kinds, a_repeats, a_messageCount, an_f tx, a_nodeCount, a_nodeTypes, a_valueCount, a_valueOwners, a_values, a_skippedCount, a_reader, a_chainNode, a_chainEnd, an_f Q, an_f ql, an_f z.1, a_nodeSize, a_nodePlace) v') (f_down, nI h, nI p, yf_payload, yf_wants, yf_name, yf_first, yf_counts, yf_enters, nI M, nI m, nI z.2, nI (if l = 0 then 7 else l), yf_nodes, yf_values, yf_skipped, yf_pos, yf_there, yf_number, yf_at, a_kinds, a_repeats, a_life, a_codes, an_f wi, an_f wo, ya_type, an_f hc, a_headers, an_f ql, ya_otherEnded, a_weEnded, a_finishing, an_g Q, ya_prefix, ya_length, ya_got, ya_high, a_messageCount, ya_has, an_g tx, ya_frame, ya_payloads, ya_table, an_g z.1, ya_nodeType, ya_valueNode, ya_valueNumber, ya_value, ya_from, ya_limit, ya_inside, ya_sizes) v1 v2 := by
    intro s s1 s8 e w hb
    obtain ⟨c, dep, L, _, e1, e2, _, e3⟩ := lo_M hC s1 s8 w
    rw [e]
    unfold wpY_typeOf
    exact e3 _ (fun z' hz => br_f (by decide) (yn_lo hb (br_f (by decide) ⟨rfl, lo_J hC z'⟩)))
  unfold wpX_typeOf wpX_hasNode
  dsimp only
  by_cases hv2 : v2 < 0
  · refine br_t hv2 (br_t rfl ?_)
    rcases lk_c v1 with ⟨h1, h2, h3, h4⟩ | ⟨h1, h2, h3, h4, h5⟩ | ⟨s, hs, rfl⟩
    · refine HN (fun s s1 s8 e => ?_)
      rw [e] at h1; exact absurd h1 (lk_s s s8).1
    · refine HN (fun s s1 s8 e => ?_)
      rw [e] at h4; exact absurd h4 (lk_s s s8).2.2.1
    · by_cases h0 : s = 0
      · refine HN (fun s' s1 s8 e => ?_)
        have := (nI_eq (a := s) (b := s') (by omega) (by omega)).mp e
        omega
      · rcases lo_H hC (show 1 ≤ s by omega) hs with w | w
        · refine HN (fun s' s1 s8 e => ?_)
          have := (nI_eq (a := s) (b := s') (by omega) (by omega)).mp e
          subst this; exact w
        · exact HB s (by omega) hs rfl w hv2
  · refine br_f hv2 ?_
    rcases lk_c v1 with ⟨h1, h2, h3, h4⟩ | ⟨h1, h2, h3, h4, h5⟩ | ⟨s, hs, rfl⟩
    · refine lo_Xn (Or.inl h2) (br_t rfl (br_t rfl (HN (fun s s1 s8 e => ?_))))
      rw [e] at h1; exact absurd h1 (lk_s s s8).1
    · refine lo_Xn (Or.inr ⟨h2, h4⟩) (br_t rfl (br_t rfl (HN (fun s s1 s8 e => ?_))))
      rw [e] at h4; exact absurd h4 (lk_s s s8).2.2.1
    · by_cases h0 : s = 0
      · subst h0
        refine lo_Xn (Or.inl (by decide)) (br_t rfl (br_t rfl (HN (fun s' s1 s8 e => ?_))))
        have := (nI_eq (a := 0) (b := s') (by omega) (by omega)).mp e
        omega
      · refine lo_X (by omega) hs (by omega) (hM s (by omega) hs) (fun w => ?_) (fun w => br_t rfl (br_t rfl (HN (fun s' s1 s8 e => ?_))))
        · obtain ⟨c, dep, L, _, e1, e2, _, e3⟩ := lo_M hC (show 1 ≤ s by omega) hs w
          refine br_f (by decide) ?_
          rw [(xr_c8 hs).2, e2.1]
          have hnn := e1.1.2.1
          refine ⟨(xr_c8 hs).1, ?_⟩
          rcases lo_node (x := v2) hnn with a | ⟨a, b, d⟩ | ⟨j, hj, rfl, a, b, d⟩
          · exact absurd a hv2
          · refine br_t b (br_t rfl ?_)
            unfold wpY_typeOf
            refine e3 _ (fun z' hz => br_f (by decide) ?_)
            exact yn_hi a (by rw [hz.1]; exact d) (br_f (by decide) ⟨rfl, lo_J hC z'⟩)
          · refine br_f b (br_f (by decide) ?_)
            obtain ⟨c1, c2⟩ := xr_c16 (s := s) (a := j) hs (by omega)
            rw [c2, e2.2.2.1 j hj]
            refine ⟨c1, ?_⟩
            unfold wpY_typeOf
            refine e3 _ (fun z' hz => br_f (by decide) ?_)
            refine yn_in a (by rw [hz.1]; exact d) (br_t rfl ⟨vp_in_nI (by omega) (by omega), ?_, lo_J hC z'⟩)
            rw [nI_clamp (by omega)]
            exact hz.2.2.2.2.2.1.1 j hj
        · have := (nI_eq (a := s) (b := s') (by omega) (by omega)).mp e
          subst this; exact w
end
end
section
/-! Y3: calls that look at a message: values -/
section
variable {f_frameAt f_frameLength f_frameSort f_frameFlags f_frameStream f_down f_entryCount f_most f_typeSeen f_lastSender f_sentLength : Int32} {a_payload a_life a_theyEnded a_weEnded a_finishing a_codes a_windowIn a_windowOut a_headers a_headerCount a_entries a_kinds a_repeats a_messageCount a_text a_nodeCount a_nodeTypes a_valueCount a_valueOwners a_values a_skippedCount a_reader a_chainNode a_chainEnd a_queue a_queueLength a_sent a_nodeSize a_nodePlace : Nat → Int32} {yf_down yf_heads yf_paid yf_payload yf_wants yf_name yf_first yf_counts yf_enters yf_most yf_many yf_sent yf_last yf_nodes yf_values yf_skipped yf_pos yf_there yf_number yf_at : Int32} {ya_kind ya_repeated ya_how ya_code ya_coming ya_going ya_type ya_headers ya_header ya_queued ya_otherEnded ya_ended ya_finishing ya_queue ya_prefix ya_length ya_got ya_high ya_whole ya_has ya_bytes ya_frame ya_payloads ya_table ya_out ya_nodeType ya_valueNode ya_valueNumber ya_value ya_from ya_limit ya_inside ya_sizes : Nat → Int32} {s T q : Nat} {tx : Nat → Nat} {K : Nat → Nat} {R : Nat → Bool} {c : pm_C} {D : pm_D} {z : yr_Z} {x y w : Int32}
theorem lo_many {post : Int32 → SY → Prop} (hz : yr_ok c q z) (hv : pm_nv (pm_d c) ≤ 48) (H : post (nI (lo_c (pm_d c) x y (pm_nv (pm_d c)))) (yf_down, yf_heads, yf_paid, yf_payload, yf_wants, yf_name, yf_first, yf_counts, yf_enters, yf_most, yf_many, yf_sent, yf_last, z.1, z.2.1, z.2.2.1, z.2.2.2.1, nI T, z.2.2.2.2.1, z.2.2.2.2.2.1, ya_kind, ya_repeated, ya_how, ya_code, ya_coming, ya_going, ya_type, ya_headers, ya_header, ya_queued, ya_otherEnded, ya_ended, ya_finishing, ya_queue, ya_prefix, ya_length, ya_got, ya_high, ya_whole, ya_has, an_g tx, ya_frame, ya_payloads, ya_table, ya_out, z.2.2.2.2.2.2.1, z.2.2.2.2.2.2.2.1, z.2.2.2.2.2.2.2.2.1, z.2.2.2.2.2.2.2.2.2.1, z.2.2.2.2.2.2.2.2.2.2.1, z.2.2.2.2.2.2.2.2.2.2.2.1, z.2.2.2.2.2.2.2.2.2.2.2.2, ya_sizes)) : ∀ f i, i + f = pm_nv (pm_d c) →
    wY_many_13 post x y 1 yf_down yf_heads yf_paid yf_payload yf_wants yf_name yf_first yf_counts yf_enters yf_most yf_many yf_sent yf_last (z.1) (z.2.1) (z.2.2.1) (z.2.2.2.1) (nI T) (z.2.2.2.2.1) (z.2.2.2.2.2.1) ya_kind ya_repeated ya_how ya_code ya_coming ya_going ya_type ya_headers ya_header ya_queued ya_otherEnded ya_ended ya_finishing ya_queue ya_prefix ya_length ya_got ya_high ya_whole ya_has (an_g tx) ya_frame ya_payloads ya_table ya_out (z.2.2.2.2.2.2.1) (z.2.2.2.2.2.2.2.1) (z.2.2.2.2.2.2.2.2.1) (z.2.2.2.2.2.2.2.2.2.1) (z.2.2.2.2.2.2.2.2.2.2.1) (z.2.2.2.2.2.2.2.2.2.2.2.1) (z.2.2.2.2.2.2.2.2.2.2.2.2) ya_sizes (f + 1) (nI (lo_c (pm_d c) x y i)) (nI i)
  | 0, i, hi => by
    have : i = pm_nv (pm_d c) := by omega
    subst this
    rw [wY_many_13]
    exact pk_le (pm_nv (pm_d c)) (pm_nv (pm_d c)) (fun _ => H) (fun g => absurd g (by omega)) hz.2.1 rfl (by omega) (by omega)
  | f + 1, i, hi => by
    rw [wY_many_13]
    obtain ⟨e1, e2, _, _⟩ := hz.2.2.2.2.2.1.2 i (by omega)
    refine pk_le (pm_nv (pm_d c)) i (fun g => absurd g (by omega)) (fun g => br_f (by decide) ⟨vp_in_nI (by omega) (by omega), ?_⟩) hz.2.1 rfl (by omega) (by omega)
    rw [nI_clamp (by omega)]
    have ih := lo_many hz hv H f (i + 1) (by omega)
    rw [lo_c] at ih
    by_cases g1 : nI (pm_vn (pm_d c) i) = x
    · refine br_t (by rw [e1]; exact g1) ⟨vp_in_nI (by omega) (by omega), ?_⟩
      by_cases g2 : nI (pm_vm (pm_d c) i) = y
      · rw [if_pos ⟨g1, g2⟩] at ih
        exact br_t (by rw [e2]; exact g2) (nm_r (nI_1 _) (nm_r (nI_1 _) ih))
      · rw [if_neg (fun w => g2 w.2)] at ih
        exact br_f (by rw [e2]; exact g2) (nm_r (nI_1 _) ih)
    · rw [if_neg (fun w => g1 w.1)] at ih
      exact br_f (by rw [e1]; exact g1) (nm_r (nI_1 _) ih)
theorem lo_nth {post : Int32 → SY → Prop} (hz : yr_ok c q z) (hv : pm_nv (pm_d c) ≤ 48) : ∀ f i b, i + f = pm_nv (pm_d c) →
    post (if lo_f (pm_d c) x y w f i b < pm_nv (pm_d c) then nI (lo_f (pm_d c) x y w f i b) else -1) (yf_down, yf_heads, yf_paid, yf_payload, yf_wants, yf_name, yf_first, yf_counts, yf_enters, yf_most, yf_many, yf_sent, yf_last, z.1, z.2.1, z.2.2.1, z.2.2.2.1, nI T, z.2.2.2.2.1, z.2.2.2.2.2.1, ya_kind, ya_repeated, ya_how, ya_code, ya_coming, ya_going, ya_type, ya_headers, ya_header, ya_queued, ya_otherEnded, ya_ended, ya_finishing, ya_queue, ya_prefix, ya_length, ya_got, ya_high, ya_whole, ya_has, an_g tx, ya_frame, ya_payloads, ya_table, ya_out, z.2.2.2.2.2.2.1, z.2.2.2.2.2.2.2.1, z.2.2.2.2.2.2.2.2.1, z.2.2.2.2.2.2.2.2.2.1, z.2.2.2.2.2.2.2.2.2.2.1, z.2.2.2.2.2.2.2.2.2.2.2.1, z.2.2.2.2.2.2.2.2.2.2.2.2, ya_sizes) →
    wY_nth_13 post x y w 1 yf_down yf_heads yf_paid yf_payload yf_wants yf_name yf_first yf_counts yf_enters yf_most yf_many yf_sent yf_last (z.1) (z.2.1) (z.2.2.1) (z.2.2.2.1) (nI T) (z.2.2.2.2.1) (z.2.2.2.2.2.1) ya_kind ya_repeated ya_how ya_code ya_coming ya_going ya_type ya_headers ya_header ya_queued ya_otherEnded ya_ended ya_finishing ya_queue ya_prefix ya_length ya_got ya_high ya_whole ya_has (an_g tx) ya_frame ya_payloads ya_table ya_out (z.2.2.2.2.2.2.1) (z.2.2.2.2.2.2.2.1) (z.2.2.2.2.2.2.2.2.1) (z.2.2.2.2.2.2.2.2.2.1) (z.2.2.2.2.2.2.2.2.2.2.1) (z.2.2.2.2.2.2.2.2.2.2.2.1) (z.2.2.2.2.2.2.2.2.2.2.2.2) ya_sizes (f + 1) (nI b) (nI i)
  | 0, i, b, hi, H => by
    rw [wY_nth_13]
    rw [lo_f, if_neg (by omega)] at H
    exact pk_le (pm_nv (pm_d c)) i (fun _ => H) (fun g => absurd g (by omega)) hz.2.1 rfl (by omega) (by omega)
  | f + 1, i, b, hi, H => by
    rw [wY_nth_13]
    obtain ⟨e1, e2, _, _⟩ := hz.2.2.2.2.2.1.2 i (by omega)
    refine pk_le (pm_nv (pm_d c)) i (fun g => absurd g (by omega)) (fun g => br_f (by decide) ⟨vp_in_nI (by omega) (by omega), ?_⟩) hz.2.1 rfl (by omega) (by omega)
    rw [nI_clamp (by omega)]
    rw [lo_f] at H
    by_cases g1 : nI (pm_vn (pm_d c) i) = x
    · refine br_t (by rw [e1]; exact g1) ⟨vp_in_nI (by omega) (by omega), ?_⟩
      by_cases g2 : nI (pm_vm (pm_d c) i) = y
      · rw [if_pos (show nI (pm_vn (pm_d c) i) = x ∧ nI (pm_vm (pm_d c) i) = y from ⟨g1, g2⟩)] at H
        refine br_t (by rw [e2]; exact g2) (br_c (fun g3 => ?_) (fun g3 => nm_r (nI_1 _) (nm_r (nI_1 _) ?_)))
        · rw [if_pos g3, if_pos g] at H; exact H
        · rw [if_neg g3] at H
          exact lo_nth hz hv f (i + 1) (b + 1) (by omega) H
      · rw [if_neg (show ¬ (nI (pm_vn (pm_d c) i) = x ∧ nI (pm_vm (pm_d c) i) = y) from fun w => g2 w.2)] at H
        exact br_f (by rw [e2]; exact g2) (nm_r (nI_1 _) (lo_nth hz hv f (i + 1) b (by omega) H))
    · rw [if_neg (show ¬ (nI (pm_vn (pm_d c) i) = x ∧ nI (pm_vm (pm_d c) i) = y) from fun w => g1 w.1)] at H
      exact br_f (by rw [e1]; exact g1) (nm_r (nI_1 _) (lo_nth hz hv f (i + 1) b (by omega) H))
theorem lo_many0 {post : Int32 → SY → Prop} (H : post 0 (yf_down, yf_heads, yf_paid, yf_payload, yf_wants, yf_name, yf_first, yf_counts, yf_enters, yf_most, yf_many, yf_sent, yf_last, yf_nodes, yf_values, yf_skipped, yf_pos, yf_there, yf_number, yf_at, ya_kind, ya_repeated, ya_how, ya_code, ya_coming, ya_going, ya_type, ya_headers, ya_header, ya_queued, ya_otherEnded, ya_ended, ya_finishing, ya_queue, ya_prefix, ya_length, ya_got, ya_high, ya_whole, ya_has, ya_bytes, ya_frame, ya_payloads, ya_table, ya_out, ya_nodeType, ya_valueNode, ya_valueNumber, ya_value, ya_from, ya_limit, ya_inside, ya_sizes)) : wY_many_13 post x y 0 yf_down yf_heads yf_paid yf_payload yf_wants yf_name yf_first yf_counts yf_enters yf_most yf_many yf_sent yf_last yf_nodes yf_values yf_skipped yf_pos yf_there yf_number yf_at ya_kind ya_repeated ya_how ya_code ya_coming ya_going ya_type ya_headers ya_header ya_queued ya_otherEnded ya_ended ya_finishing ya_queue ya_prefix ya_length ya_got ya_high ya_whole ya_has ya_bytes ya_frame ya_payloads ya_table ya_out ya_nodeType ya_valueNode ya_valueNumber ya_value ya_from ya_limit ya_inside ya_sizes 1 0 0 := by
  rw [wY_many_13]
  exact br_c (fun _ => H) (fun _ => br_t rfl H)
theorem lo_nth0 {post : Int32 → SY → Prop} (H : post (-1) (yf_down, yf_heads, yf_paid, yf_payload, yf_wants, yf_name, yf_first, yf_counts, yf_enters, yf_most, yf_many, yf_sent, yf_last, yf_nodes, yf_values, yf_skipped, yf_pos, yf_there, yf_number, yf_at, ya_kind, ya_repeated, ya_how, ya_code, ya_coming, ya_going, ya_type, ya_headers, ya_header, ya_queued, ya_otherEnded, ya_ended, ya_finishing, ya_queue, ya_prefix, ya_length, ya_got, ya_high, ya_whole, ya_has, ya_bytes, ya_frame, ya_payloads, ya_table, ya_out, ya_nodeType, ya_valueNode, ya_valueNumber, ya_value, ya_from, ya_limit, ya_inside, ya_sizes)) : wY_nth_13 post x y w 0 yf_down yf_heads yf_paid yf_payload yf_wants yf_name yf_first yf_counts yf_enters yf_most yf_many yf_sent yf_last yf_nodes yf_values yf_skipped yf_pos yf_there yf_number yf_at ya_kind ya_repeated ya_how ya_code ya_coming ya_going ya_type ya_headers ya_header ya_queued ya_otherEnded ya_ended ya_finishing ya_queue ya_prefix ya_length ya_got ya_high ya_whole ya_has ya_bytes ya_frame ya_payloads ya_table ya_out ya_nodeType ya_valueNode ya_valueNumber ya_value ya_from ya_limit ya_inside ya_sizes 1 0 0 := by
  rw [wY_nth_13]
  exact br_c (fun _ => H) (fun _ => br_t rfl H)
theorem lo_own {a n : Nat} (ha : a < 16) (hn : n ≤ 15) {i : Nat} (b1 : pm_vn D i < 16) (b2 : pm_vm D i ≤ 15) :
    (nI (16 * pm_vn D i + pm_vm D i) = nI a * 16 + nI n) ↔ (nI (pm_vn D i) = nI a ∧ nI (pm_vm D i) = nI n) := by
  have e : nI a * 16 + nI n = nI (16 * a + n) := by
    rw [show (16 : Int32) = nI 16 from rfl, pk_mul, nI_add, Nat.mul_comm]
  rw [e, nI_eq (by omega) (by omega), nI_eq (by omega) (by omega), nI_eq (by omega) (by omega)]
  exact xr_own b2 hn
theorem lo_cnt {a n : Nat} {post : Int32 → Prop} (hs : s < 8) (hD : cr_XD K s a_nodeCount a_nodeTypes a_valueCount a_valueOwners a_values D) (hv : pm_nv D ≤ 48) (hn : n ≤ 15) (ha : a < 16)
    (hb : ∀ j, j < pm_nv D → pm_vn D j < 16 ∧ pm_vm D j ≤ 15) (H : post (nI (lo_c D (nI a) (nI n) (pm_nv D)))) : ∀ f i, i + f = pm_nv D →
    wX_countValues_6 post (nI s) (nI a) (nI n) f_frameAt f_frameLength f_frameSort f_frameFlags f_frameStream f_down f_entryCount f_most f_typeSeen f_lastSender f_sentLength a_payload a_life a_theyEnded a_weEnded a_finishing a_codes a_windowIn a_windowOut a_headers a_headerCount a_entries a_kinds a_repeats a_messageCount a_text a_nodeCount a_nodeTypes a_valueCount a_valueOwners a_values a_skippedCount a_reader a_chainNode a_chainEnd a_queue a_queueLength a_sent a_nodeSize a_nodePlace (f + 1) (nI (lo_c D (nI a) (nI n) i)) (nI i)
  | 0, i, hi => by
    have : i = pm_nv D := by omega
    subst this
    rw [wX_countValues_6]
    refine ⟨(xr_c8 hs).1, ?_⟩
    rw [(xr_c8 hs).2, hD.2.1]
    exact pk_le (pm_nv D) (pm_nv D) (fun _ => H) (fun g => absurd g (by omega))
  | f + 1, i, hi => by
    rw [wX_countValues_6]
    refine ⟨(xr_c8 hs).1, ?_⟩
    rw [(xr_c8 hs).2, hD.2.1]
    refine pk_le (pm_nv D) i (fun g => absurd g (by omega)) (fun g => ?_)
    obtain ⟨c1, c2, c3⟩ := xr_c48 (s := s) (a := i) hs (by omega)
    rw [c1, c3, (hD.2.2.2 i g).1]
    obtain ⟨b1, b2⟩ := hb i g
    have ho := lo_own (D := D) ha hn b1 b2
    have ih := lo_cnt hs hD hv hn ha hb H f (i + 1) (by omega)
    rw [lo_c] at ih
    refine ⟨c2, br_c (fun w => ?_) (fun w => ?_)⟩
    · rw [if_pos (ho.mp w)] at ih
      exact nm_r (nI_1 _) (nm_r (nI_1 _) ih)
    · rw [if_neg (fun w' => w (ho.mpr w'))] at ih
      exact nm_r (nI_1 _) ih
theorem lo_fv {a n : Nat} {post : Int32 → Prop} (hs : s < 8) (hD : cr_XD K s a_nodeCount a_nodeTypes a_valueCount a_valueOwners a_values D) (hv : pm_nv D ≤ 48) (hn : n ≤ 15) (ha : a < 16)
    (hb : ∀ j, j < pm_nv D → pm_vn D j < 16 ∧ pm_vm D j ≤ 15) : ∀ f i b, i + f = pm_nv D →
    post (if lo_f D (nI a) (nI n) w f i b < pm_nv D then nI (48 * s + lo_f D (nI a) (nI n) w f i b) else -1) →
    wX_findValue_6 post (nI s) (nI a) (nI n) w f_frameAt f_frameLength f_frameSort f_frameFlags f_frameStream f_down f_entryCount f_most f_typeSeen f_lastSender f_sentLength a_payload a_life a_theyEnded a_weEnded a_finishing a_codes a_windowIn a_windowOut a_headers a_headerCount a_entries a_kinds a_repeats a_messageCount a_text a_nodeCount a_nodeTypes a_valueCount a_valueOwners a_values a_skippedCount a_reader a_chainNode a_chainEnd a_queue a_queueLength a_sent a_nodeSize a_nodePlace (f + 1) (nI b) (nI i)
  | 0, i, b, hi, H => by
    rw [wX_findValue_6]
    rw [lo_f, if_neg (by omega)] at H
    refine ⟨(xr_c8 hs).1, ?_⟩
    rw [(xr_c8 hs).2, hD.2.1]
    exact pk_le (pm_nv D) i (fun _ => H) (fun g => absurd g (by omega))
  | f + 1, i, b, hi, H => by
    rw [wX_findValue_6]
    refine ⟨(xr_c8 hs).1, ?_⟩
    rw [(xr_c8 hs).2, hD.2.1]
    refine pk_le (pm_nv D) i (fun g => absurd g (by omega)) (fun g => ?_)
    obtain ⟨c1, c2, c3⟩ := xr_c48 (s := s) (a := i) hs (by omega)
    rw [c1, c3, (hD.2.2.2 i g).1]
    obtain ⟨b1, b2⟩ := hb i g
    have ho := lo_own (D := D) ha hn b1 b2
    rw [lo_f] at H
    refine ⟨c2, br_c (fun w => ?_) (fun w => ?_)⟩
    · rw [if_pos (show nI (pm_vn D i) = nI a ∧ nI (pm_vm D i) = nI n from ho.mp w)] at H
      refine br_c (fun g3 => ?_) (fun g3 => nm_r (nI_1 _) (nm_r (nI_1 _) ?_))
      · rw [if_pos g3, if_pos g] at H; exact H
      · rw [if_neg g3] at H
        exact lo_fv hs hD hv hn ha hb f (i + 1) (b + 1) (by omega) H
    · rw [if_neg (show ¬ (nI (pm_vn D i) = nI a ∧ nI (pm_vm D i) = nI n) from fun w' => w (ho.mpr w'))] at H
      exact nm_r (nI_1 _) (lo_fv hs hD hv hn ha hb f (i + 1) b (by omega) H)
end
section
variable {f_frameAt f_frameLength f_frameSort f_frameFlags f_frameStream f_down f_entryCount f_most f_typeSeen f_lastSender f_sentLength : Int32} {a_payload a_life a_theyEnded a_weEnded a_finishing a_codes a_windowIn a_windowOut a_headers a_headerCount a_entries a_kinds a_repeats a_messageCount a_text a_nodeCount a_nodeTypes a_valueCount a_valueOwners a_values a_skippedCount a_reader a_chainNode a_chainEnd a_queue a_queueLength a_sent a_nodeSize a_nodePlace : Nat → Int32} {yf_down yf_heads yf_paid yf_payload yf_wants yf_name yf_first yf_counts yf_enters yf_most yf_many yf_sent yf_last yf_nodes yf_values yf_skipped yf_pos yf_there yf_number yf_at : Int32} {ya_kind ya_repeated ya_how ya_code ya_coming ya_going ya_type ya_headers ya_header ya_queued ya_otherEnded ya_ended ya_finishing ya_queue ya_prefix ya_length ya_got ya_high ya_whole ya_has ya_bytes ya_frame ya_payloads ya_table ya_out ya_nodeType ya_valueNode ya_valueNumber ya_value ya_from ya_limit ya_inside ya_sizes : Nat → Int32}
/-- what a look at a field finds -/
theorem lo_field {k : Nat} {K : Nat → Nat} {R : Nat → Bool} {z : (Nat → Nat) × Nat} {fAt n so fl st h p m M l : Nat} {wi wo ql hc Q tx : Nat → Nat} (hk : k < 2 ^ 31)
    (hC : cr_C k ((K, R, z), (fAt, n, so, fl, st, h, p, m, M, l), (wi, wo, ql, hc, Q, tx), (f_down, f_typeSeen, yf_payload, yf_wants, yf_name, yf_first, yf_counts, yf_enters, yf_nodes, yf_values, yf_skipped, yf_pos, yf_there, yf_number, yf_at), (a_payload, a_life, a_theyEnded, a_weEnded, a_finishing, a_codes, a_headers, a_entries, a_kinds, a_repeats, a_messageCount), (a_nodeCount, a_nodeTypes, a_valueCount, a_valueOwners, a_values, a_skippedCount, a_reader, a_chainNode, a_chainEnd, a_nodeSize, a_nodePlace), (ya_type, ya_otherEnded, ya_prefix, ya_length, ya_got, ya_high, ya_has, ya_frame, ya_payloads), (ya_table, ya_nodeType, ya_valueNode, ya_valueNumber, ya_value, ya_from, ya_limit, ya_inside, ya_sizes))) (v1 v2 v3 : Int32) :
    ((∀ (post : Int32 → Prop), post 0 → wpX_hasField post (nI fAt, nI n, nI so, nI fl, nI st, f_down, nI m, nI M, f_typeSeen, nI l, nI z.2, a_payload, a_life, a_theyEnded, a_weEnded, a_finishing, a_codes, an_f wi, an_f wo, a_headers, an_f hc, a_entries, a_kinds, a_repeats, a_messageCount, an_f tx, a_nodeCount, a_nodeTypes, a_valueCount, a_valueOwners, a_values, a_skippedCount, a_reader, a_chainNode, a_chainEnd, an_f Q, an_f ql, an_f z.1, a_nodeSize, a_nodePlace) v1 v2 v3) ∧ (∀ (post : Int32 → SY → Prop), post 0 (f_down, nI h, nI p, yf_payload, yf_wants, yf_name, yf_first, yf_counts, yf_enters, nI M, nI m, nI z.2, nI (if l = 0 then 7 else l), yf_nodes, yf_values, yf_skipped, yf_pos, yf_there, yf_number, yf_at, a_kinds, a_repeats, a_life, a_codes, an_f wi, an_f wo, ya_type, an_f hc, a_headers, an_f ql, ya_otherEnded, a_weEnded, a_finishing, an_g Q, ya_prefix, ya_length, ya_got, ya_high, a_messageCount, ya_has, an_g tx, ya_frame, ya_payloads, ya_table, an_g z.1, ya_nodeType, ya_valueNode, ya_valueNumber, ya_value, ya_from, ya_limit, ya_inside, ya_sizes) → wpY_open post (f_down, nI h, nI p, yf_payload, yf_wants, yf_name, yf_first, yf_counts, yf_enters, nI M, nI m, nI z.2, nI (if l = 0 then 7 else l), yf_nodes, yf_values, yf_skipped, yf_pos, yf_there, yf_number, yf_at, a_kinds, a_repeats, a_life, a_codes, an_f wi, an_f wo, ya_type, an_f hc, a_headers, an_f ql, ya_otherEnded, a_weEnded, a_finishing, an_g Q, ya_prefix, ya_length, ya_got, ya_high, a_messageCount, ya_has, an_g tx, ya_frame, ya_payloads, ya_table, an_g z.1, ya_nodeType, ya_valueNode, ya_valueNumber, ya_value, ya_from, ya_limit, ya_inside, ya_sizes) v1)) ∨
    (∃ s c dep L, 1 ≤ s ∧ s < 8 ∧ v1 = nI s ∧ L ≤ 200 ∧ pm_CI K R L dep c ∧ cr_XD K s a_nodeCount a_nodeTypes a_valueCount a_valueOwners a_values (pm_d c) ∧
      (∀ (post : Int32 → SY → Prop), (∀ (z' : yr_Z), yr_ok c (pm_pos c) z' → post 1 (f_down, nI h, nI p, yf_payload, yf_wants, yf_name, yf_first, yf_counts, yf_enters, nI M, nI m, nI z.2, nI (if l = 0 then 7 else l), z'.1, z'.2.1, z'.2.2.1, z'.2.2.2.1, nI L, z'.2.2.2.2.1, z'.2.2.2.2.2.1, a_kinds, a_repeats, a_life, a_codes, an_f wi, an_f wo, ya_type, an_f hc, a_headers, an_f ql, ya_otherEnded, a_weEnded, a_finishing, an_g Q, ya_prefix, ya_length, ya_got, ya_high, a_messageCount, ya_has, an_g tx, ya_frame, ya_payloads, ya_table, an_g z.1, z'.2.2.2.2.2.2.1, z'.2.2.2.2.2.2.2.1, z'.2.2.2.2.2.2.2.2.1, z'.2.2.2.2.2.2.2.2.2.1, z'.2.2.2.2.2.2.2.2.2.2.1, z'.2.2.2.2.2.2.2.2.2.2.2.1, z'.2.2.2.2.2.2.2.2.2.2.2.2, ya_sizes)) → wpY_open post (f_down, nI h, nI p, yf_payload, yf_wants, yf_name, yf_first, yf_counts, yf_enters, nI M, nI m, nI z.2, nI (if l = 0 then 7 else l), yf_nodes, yf_values, yf_skipped, yf_pos, yf_there, yf_number, yf_at, a_kinds, a_repeats, a_life, a_codes, an_f wi, an_f wo, ya_type, an_f hc, a_headers, an_f ql, ya_otherEnded, a_weEnded, a_finishing, an_g Q, ya_prefix, ya_length, ya_got, ya_high, a_messageCount, ya_has, an_g tx, ya_frame, ya_payloads, ya_table, an_g z.1, ya_nodeType, ya_valueNode, ya_valueNumber, ya_value, ya_from, ya_limit, ya_inside, ya_sizes) (nI s)) ∧
      (((∀ (post : Int32 → Prop), post 0 → wpX_hasField post (nI fAt, nI n, nI so, nI fl, nI st, f_down, nI m, nI M, f_typeSeen, nI l, nI z.2, a_payload, a_life, a_theyEnded, a_weEnded, a_finishing, a_codes, an_f wi, an_f wo, a_headers, an_f hc, a_entries, a_kinds, a_repeats, a_messageCount, an_f tx, a_nodeCount, a_nodeTypes, a_valueCount, a_valueOwners, a_values, a_skippedCount, a_reader, a_chainNode, a_chainEnd, an_f Q, an_f ql, an_f z.1, a_nodeSize, a_nodePlace) v1 v2 v3) ∧ (∀ j, j < pm_nv (pm_d c) → ¬ (nI (pm_vn (pm_d c) j) = v2 ∧ nI (pm_vm (pm_d c) j) = v3))) ∨
       ((∀ (post : Int32 → Prop), post 1 → wpX_hasField post (nI fAt, nI n, nI so, nI fl, nI st, f_down, nI m, nI M, f_typeSeen, nI l, nI z.2, a_payload, a_life, a_theyEnded, a_weEnded, a_finishing, a_codes, an_f wi, an_f wo, a_headers, an_f hc, a_entries, a_kinds, a_repeats, a_messageCount, an_f tx, a_nodeCount, a_nodeTypes, a_valueCount, a_valueOwners, a_values, a_skippedCount, a_reader, a_chainNode, a_chainEnd, an_f Q, an_f ql, an_f z.1, a_nodeSize, a_nodePlace) v1 v2 v3) ∧ ∃ a q, v2 = nI a ∧ v3 = nI q ∧ a < pm_nn (pm_d c) ∧ 1 ≤ q ∧ q ≤ 15))) := by
  have hC' := hC
  obtain ⟨hD, hl, hH, hO, hQ, hX, hS, hq, hT, hK, hF, hM⟩ := hC
  have hA : (∀ (post : Int32 → Prop), post 0 → wpX_hasMessage post (nI fAt, nI n, nI so, nI fl, nI st, f_down, nI m, nI M, f_typeSeen, nI l, nI z.2, a_payload, a_life, a_theyEnded, a_weEnded, a_finishing, a_codes, an_f wi, an_f wo, a_headers, an_f hc, a_entries, a_kinds, a_repeats, a_messageCount, an_f tx, a_nodeCount, a_nodeTypes, a_valueCount, a_valueOwners, a_values, a_skippedCount, a_reader, a_chainNode, a_chainEnd, an_f Q, an_f ql, an_f z.1, a_nodeSize, a_nodePlace) v1) → ∀ (post : Int32 → Prop), post 0 → wpX_hasField post (nI fAt, nI n, nI so, nI fl, nI st, f_down, nI m, nI M, f_typeSeen, nI l, nI z.2, a_payload, a_life, a_theyEnded, a_weEnded, a_finishing, a_codes, an_f wi, an_f wo, a_headers, an_f hc, a_entries, a_kinds, a_repeats, a_messageCount, an_f tx, a_nodeCount, a_nodeTypes, a_valueCount, a_valueOwners, a_values, a_skippedCount, a_reader, a_chainNode, a_chainEnd, an_f Q, an_f ql, an_f z.1, a_nodeSize, a_nodePlace) v1 v2 v3 := by
    intro hm post H
    unfold wpX_hasField wpX_hasNode
    exact br_c (fun _ => H) (fun _ => br_c (fun _ => H) (fun _ => br_c (fun _ => br_t rfl H) (fun _ => hm _ (br_t rfl (br_t rfl H)))))
  rcases lk_c v1 with ⟨h1, h2, h3, h4⟩ | ⟨h1, h2, h3, h4, h5⟩ | ⟨s, hs, rfl⟩
  · exact Or.inl ⟨hA (fun post H => lo_Xn (Or.inl h2) H), fun post H => lo_Yn (Or.inl h2) H⟩
  · exact Or.inl ⟨hA (fun post H => lo_Xn (Or.inr ⟨h2, h4⟩) H), fun post H => lo_Yn (Or.inr ⟨h2, h3⟩) H⟩
  by_cases h0 : s = 0
  · subst h0
    exact Or.inl ⟨hA (fun post H => lo_Xn (Or.inl (by decide)) H), fun post H => lo_Yn (Or.inl (by decide)) H⟩
  have hs1 : 1 ≤ s := by omega
  rcases lo_H hC' hs1 hs with w | w
  · exact Or.inl ⟨hA (fun post H => lo_X hs1 hs hk (hM s hs1 hs) (fun w' => by rw [w] at w'; exact absurd w' (by decide)) (fun _ => H)), fun post H => lo_Y0 hs1 hs w H⟩
  right
  obtain ⟨c, dep, L, l1, d2, d3, d4, HO⟩ := lo_M hC' hs1 hs w
  refine ⟨s, c, dep, L, hs1, hs, rfl, l1, d2, d3, HO, ?_⟩
  have hnn := d2.1.2.1
  have hVI := d2.1.2.2.2.2.2.1
  rcases fd_i v3 1 15 (lo := 1) (hi := 15) rfl rfl (by omega) (by omega) with a' | ⟨a', b', c'⟩ | ⟨q, q1, q2, rfl, a', b', c'⟩
  · refine Or.inl ⟨fun post H => br_t a' H, fun j hj e => ?_⟩
    have h15 := (hVI j hj).2.2.1
    have h1' := (hVI j hj).2.1
    rw [← e.2] at a'
    have := (nI_ltI (a := pm_vm (pm_d c) j) (b := 1) (by omega) (by omega)).mp a'
    omega
  · refine Or.inl ⟨fun post H => br_f a' (br_t b' H), fun j hj e => ?_⟩
    have h15 := (hVI j hj).2.2.1
    rw [← e.2, nI_leI (by omega) (by omega)] at b'
    omega
  rcases lo_node (x := v2) hnn with a | ⟨a, b, d⟩ | ⟨j, hj, rfl, a, b, d⟩
  · refine Or.inl ⟨fun post H => ?_, fun j hj e => ?_⟩
    · unfold wpX_hasField wpX_hasNode
      exact br_f a' (br_f b' (br_t a (br_t rfl H)))
    · have := (hVI j hj).1
      rw [← e.1] at a
      exact absurd a (nI_pos (by omega))
  · refine Or.inl ⟨fun post H => ?_, fun j hj e => ?_⟩
    · unfold wpX_hasField wpX_hasNode
      refine br_f a' (br_f b' (br_f a (lo_X hs1 hs hk (hM s hs1 hs) (fun _ => br_f (by decide) ⟨(xr_c8 hs).1, ?_⟩) (fun w' => by rw [w] at w'; exact absurd w' (by decide)))))
      rw [(xr_c8 hs).2, d3.1]
      exact br_t b (br_t rfl H)
    · have h16 := (hVI j hj).1
      rw [← e.1, nI_leI (by omega) (by omega)] at b
      omega
  · refine Or.inr ⟨fun post H => ?_, j, q, rfl, rfl, hj, q1, q2⟩
    unfold wpX_hasField wpX_hasNode
    refine br_f a' (br_f b' (br_f a (lo_X hs1 hs hk (hM s hs1 hs) (fun _ => br_f (by decide) ⟨(xr_c8 hs).1, ?_⟩) (fun w' => by rw [w] at w'; exact absurd w' (by decide)))))
    rw [(xr_c8 hs).2, d3.1]
    exact br_f b (br_f (by decide) H)
theorem i_vc_many {k : Nat} {u : SX} {v : SY} (I : i_Rel k u v) (hk : k + 6 ≤ 3072) (v1 : Int32) (v2 : Int32) (v3 : Int32) : wpX_many (fun r => wpY_many (fun r' v' => r' = r ∧ i_Rel (k + 6) u v') v v1 v2 v3) u v1 v2 v3 := by
  have J := i_up I
  obtain ⟨⟨⟨K, R, z⟩, ⟨fAt, n, so, fl, st, h, p, m, M, l⟩, ⟨wi, wo, ql, hc, Q, tx⟩, ⟨f_down, f_typeSeen, yf_payload, yf_wants, yf_name, yf_first, yf_counts, yf_enters, yf_nodes, yf_values, yf_skipped, yf_pos, yf_there, yf_number, yf_at⟩, ⟨a_payload, a_life, a_theyEnded, a_weEnded, a_finishing, a_codes, a_headers, a_entries, a_kinds, a_repeats, a_messageCount⟩, ⟨a_nodeCount, a_nodeTypes, a_valueCount, a_valueOwners, a_values, a_skippedCount, a_reader, a_chainNode, a_chainEnd, a_nodeSize, a_nodePlace⟩, ⟨ya_type, ya_otherEnded, ya_prefix, ya_length, ya_got, ya_high, ya_has, ya_frame, ya_payloads⟩, ⟨ya_table, ya_nodeType, ya_valueNode, ya_valueNumber, ya_value, ya_from, ya_limit, ya_inside, ya_sizes⟩⟩, rfl, rfl, hD, hl, hH, hO, hQ, hX, hS, hq, hT, hK, hF, hM⟩ := I
  have hC : cr_C k ((K, R, z), (fAt, n, so, fl, st, h, p, m, M, l), (wi, wo, ql, hc, Q, tx), (f_down, f_typeSeen, yf_payload, yf_wants, yf_name, yf_first, yf_counts, yf_enters, yf_nodes, yf_values, yf_skipped, yf_pos, yf_there, yf_number, yf_at), (a_payload, a_life, a_theyEnded, a_weEnded, a_finishing, a_codes, a_headers, a_entries, a_kinds, a_repeats, a_messageCount), (a_nodeCount, a_nodeTypes, a_valueCount, a_valueOwners, a_values, a_skippedCount, a_reader, a_chainNode, a_chainEnd, a_nodeSize, a_nodePlace), (ya_type, ya_otherEnded, ya_prefix, ya_length, ya_got, ya_high, ya_has, ya_frame, ya_payloads), (ya_table, ya_nodeType, ya_valueNode, ya_valueNumber, ya_value, ya_from, ya_limit, ya_inside, ya_sizes)) := ⟨hD, hl, hH, hO, hQ, hX, hS, hq, hT, hK, hF, hM⟩
  dsimp only [cr_x, cr_y] at J ⊢
  unfold wpX_many wpY_many
  dsimp only
  rcases lo_field (by omega) hC v1 v2 v3 with ⟨hx, hy⟩ | ⟨s, c, dep, L, s1, s8, rfl, l1, d2, d3, HO, hh⟩
  · exact hx _ (br_t rfl (hy _ ⟨1, lo_many0 ⟨rfl, J⟩⟩))
  have hv := d2.1.2.2.1
  rcases hh with ⟨hx, hno⟩ | ⟨hx, a, q, rfl, rfl, ha, q1, q2⟩
  · refine hx _ (br_t rfl (HO _ (fun z' hz => ⟨pm_nv (pm_d c) + 1, lo_many hz hv ⟨?_, lo_J hC z'⟩ (pm_nv (pm_d c)) 0 (by omega)⟩)))
    rw [(lo_none hno).1]; rfl
  · have hnn := d2.1.2.1
    refine hx _ (br_f (by decide) ?_)
    unfold wpX_countValues
    refine ⟨pm_nv (pm_d c) + 1, lo_cnt s8 d3 hv q2 (by omega) (xr_DB d2.1) ?_ (pm_nv (pm_d c)) 0 (by omega)⟩
    exact HO _ (fun z' hz => ⟨pm_nv (pm_d c) + 1, lo_many hz hv ⟨rfl, lo_J hC z'⟩ (pm_nv (pm_d c)) 0 (by omega)⟩)
end
end
section
/-! Y4: calls that look at a message: value, byteOf -/
section
variable {f_frameAt f_frameLength f_frameSort f_frameFlags f_frameStream f_down f_entryCount f_most f_typeSeen f_lastSender f_sentLength : Int32} {a_payload a_life a_theyEnded a_weEnded a_finishing a_codes a_windowIn a_windowOut a_headers a_headerCount a_entries a_kinds a_repeats a_messageCount a_text a_nodeCount a_nodeTypes a_valueCount a_valueOwners a_values a_skippedCount a_reader a_chainNode a_chainEnd a_queue a_queueLength a_sent a_nodeSize a_nodePlace : Nat → Int32} {yf_down yf_heads yf_paid yf_payload yf_wants yf_name yf_first yf_counts yf_enters yf_most yf_many yf_sent yf_last yf_nodes yf_values yf_skipped yf_pos yf_there yf_number yf_at : Int32} {ya_kind ya_repeated ya_how ya_code ya_coming ya_going ya_type ya_headers ya_header ya_queued ya_otherEnded ya_ended ya_finishing ya_queue ya_prefix ya_length ya_got ya_high ya_whole ya_has ya_bytes ya_frame ya_payloads ya_table ya_out ya_nodeType ya_valueNode ya_valueNumber ya_value ya_from ya_limit ya_inside ya_sizes : Nat → Int32}
theorem lo_fo {s a q : Nat} {K : Nat → Nat} {D : pm_D} {post : Int32 → Prop} (hs : s < 8) (hD : cr_XD K s a_nodeCount a_nodeTypes a_valueCount a_valueOwners a_values D) (ha : a < pm_nn D) (ha' : a < 16)
    (H : post (nI (16 * pm_nt D a + q))) : wpX_fieldOf post (f_frameAt, f_frameLength, f_frameSort, f_frameFlags, f_frameStream, f_down, f_entryCount, f_most, f_typeSeen, f_lastSender, f_sentLength, a_payload, a_life, a_theyEnded, a_weEnded, a_finishing, a_codes, a_windowIn, a_windowOut, a_headers, a_headerCount, a_entries, a_kinds, a_repeats, a_messageCount, a_text, a_nodeCount, a_nodeTypes, a_valueCount, a_valueOwners, a_values, a_skippedCount, a_reader, a_chainNode, a_chainEnd, a_queue, a_queueLength, a_sent, a_nodeSize, a_nodePlace) (nI s) (nI a) (nI q) := by
  unfold wpX_fieldOf
  obtain ⟨c1, c2⟩ := xr_c16 (s := s) (a := a) hs ha'
  have e : nI (pm_nt D a) * 16 + nI q = nI (16 * pm_nt D a + q) := by
    rw [show (16 : Int32) = nI 16 from rfl, pk_mul, nI_add, Nat.mul_comm]
  dsimp only
  rw [c2, hD.2.2.1 a ha, e]
  exact ⟨c1, H⟩
/-- a value's own words -/
theorem lo_val {s a q i L : Nat} {K : Nat → Nat} {D : pm_D} {dep : Nat → Nat} (hD : cr_XD K s a_nodeCount a_nodeTypes a_valueCount a_valueOwners a_values D) (I : pm_DI K L dep D) (hL : L ≤ 200) (ha : a < pm_nn D) (hq : q ≤ 15) (hi : i < pm_nv D)
    (h : nI (pm_vn D i) = nI a ∧ nI (pm_vm D i) = nI q) :
    (K (16 * pm_nt D a + q) = 4 → ∃ m, m ≤ 200 ∧ pm_va D i = nI m ∧ pm_fr D i + m ≤ L ∧ a_values (48 * s + i) = nI (256 * pm_fr D i + m)) ∧
    (K (16 * pm_nt D a + q) ≠ 4 → a_values (48 * s + i) = pm_va D i) := by
  obtain ⟨v1, v2, v3, v4, v5, v6⟩ := I.2.2.2.2.2.1 i hi
  have hnn := I.2.1
  have e1 : pm_vn D i = a := (nI_eq (by omega) (by omega)).mp h.1
  have e2 : pm_vm D i = q := (nI_eq (by omega) (by omega)).mp h.2
  have ek : pm_kk K D i = K (16 * pm_nt D a + q) := by
    simp only [pm_kk]; rw [e1, e2]
  have hv := (hD.2.2.2 i hi).2
  rw [ek] at hv v5
  constructor
  · intro h4
    obtain ⟨m, m1, m2⟩ := v5 h4
    rw [if_pos h4, m1, nI_add] at hv
    exact ⟨m, by omega, m1, m2, hv⟩
  · intro h4
    rw [if_neg h4] at hv
    exact hv
theorem lo_and {f m : Nat} (hf : f ≤ 200) (hm : m ≤ 200) : nI (256 * f + m) &&& 255 = nI m := by
  rw [pk_andN (by omega) 8 (by decide)]
  exact congrArg nI (by omega)
theorem lo_shr {f m : Nat} (hf : f ≤ 200) (hm : m ≤ 200) : nI (256 * f + m) >>> ((8 : Int32) &&& 31) = nI f := by
  rw [pk_shrN (by omega) _ 8 (by decide)]
  exact congrArg nI (by omega)
theorem i_vc_value {k : Nat} {u : SX} {v : SY} (I : i_Rel k u v) (hk : k + 6 ≤ 3072) (v1 : Int32) (v2 : Int32) (v3 : Int32) (v4 : Int32) : wpX_value (fun r => wpY_value (fun r' v' => r' = r ∧ i_Rel (k + 6) u v') v v1 v2 v3 v4) u v1 v2 v3 v4 := by
  have J := i_up I
  obtain ⟨⟨⟨K, R, z⟩, ⟨fAt, n, so, fl, st, h, p, m, M, l⟩, ⟨wi, wo, ql, hc, Q, tx⟩, ⟨f_down, f_typeSeen, yf_payload, yf_wants, yf_name, yf_first, yf_counts, yf_enters, yf_nodes, yf_values, yf_skipped, yf_pos, yf_there, yf_number, yf_at⟩, ⟨a_payload, a_life, a_theyEnded, a_weEnded, a_finishing, a_codes, a_headers, a_entries, a_kinds, a_repeats, a_messageCount⟩, ⟨a_nodeCount, a_nodeTypes, a_valueCount, a_valueOwners, a_values, a_skippedCount, a_reader, a_chainNode, a_chainEnd, a_nodeSize, a_nodePlace⟩, ⟨ya_type, ya_otherEnded, ya_prefix, ya_length, ya_got, ya_high, ya_has, ya_frame, ya_payloads⟩, ⟨ya_table, ya_nodeType, ya_valueNode, ya_valueNumber, ya_value, ya_from, ya_limit, ya_inside, ya_sizes⟩⟩, rfl, rfl, hD, hl, hH, hO, hQ, hX, hS, hq, hT, hK, hF, hM⟩ := I
  have hC : cr_C k ((K, R, z), (fAt, n, so, fl, st, h, p, m, M, l), (wi, wo, ql, hc, Q, tx), (f_down, f_typeSeen, yf_payload, yf_wants, yf_name, yf_first, yf_counts, yf_enters, yf_nodes, yf_values, yf_skipped, yf_pos, yf_there, yf_number, yf_at), (a_payload, a_life, a_theyEnded, a_weEnded, a_finishing, a_codes, a_headers, a_entries, a_kinds, a_repeats, a_messageCount), (a_nodeCount, a_nodeTypes, a_valueCount, a_valueOwners, a_values, a_skippedCount, a_reader, a_chainNode, a_chainEnd, a_nodeSize, a_nodePlace), (ya_type, ya_otherEnded, ya_prefix, ya_length, ya_got, ya_high, ya_has, ya_frame, ya_payloads), (ya_table, ya_nodeType, ya_valueNode, ya_valueNumber, ya_value, ya_from, ya_limit, ya_inside, ya_sizes)) := ⟨hD, hl, hH, hO, hQ, hX, hS, hq, hT, hK, hF, hM⟩
  dsimp only [cr_x, cr_y] at J ⊢
  unfold wpX_value wpY_value wpY_nth
  dsimp only
  rcases lo_field (by omega) hC v1 v2 v3 with ⟨hx, hy⟩ | ⟨s, c, dep, L, s1, s8, rfl, l1, d2, d3, HO, hh⟩
  · exact hx _ (br_t rfl (hy _ ⟨1, lo_nth0 (br_f (by decide) ⟨rfl, J⟩)⟩))
  have hv := d2.1.2.2.1
  rcases hh with ⟨hx, hno⟩ | ⟨hx, a, q, rfl, rfl, ha, q1, q2⟩
  · refine hx _ (br_t rfl (HO _ (fun z' hz => ⟨pm_nv (pm_d c) + 1, lo_nth hz hv (pm_nv (pm_d c)) 0 0 (by omega) ?_⟩)))
    rw [(lo_none hno).2 v4, if_neg (by omega)]
    exact br_f (by decide) ⟨rfl, lo_J hC z'⟩
  · have hnn := d2.1.2.1
    refine hx _ (br_f (by decide) ?_)
    unfold wpX_findValue
    refine ⟨pm_nv (pm_d c) + 1, lo_fv s8 d3 hv q2 (by omega) (xr_DB d2.1) (pm_nv (pm_d c)) 0 0 (by omega) ?_⟩
    have hle := lo_f_le (D := pm_d c) (x := nI a) (y := nI q) (w := v4) (pm_nv (pm_d c)) 0 0
    have hsp := lo_f_s (D := pm_d c) (x := nI a) (y := nI q) (w := v4) (pm_nv (pm_d c)) 0 0
    have HY : ∀ r, (r = if lo_f (pm_d c) (nI a) (nI q) v4 (pm_nv (pm_d c)) 0 0 < pm_nv (pm_d c) then pm_va (pm_d c) (lo_f (pm_d c) (nI a) (nI q) v4 (pm_nv (pm_d c)) 0 0) else 0) →
        wpY_open (fun r_1 u => match u with | (yf_down, yf_heads, yf_paid, yf_payload, yf_wants, yf_name, yf_first, yf_counts, yf_enters, yf_most, yf_many, yf_sent, yf_last, yf_nodes, yf_values, yf_skipped, yf_pos, yf_there, yf_number, yf_at, ya_kind, ya_repeated, ya_how, ya_code, ya_coming, ya_going, ya_type, ya_headers, ya_header, ya_queued, ya_otherEnded, ya_ended, ya_finishing, ya_queue, ya_prefix, ya_length, ya_got, ya_high, ya_whole, ya_has, ya_bytes, ya_frame, ya_payloads, ya_table, ya_out, ya_nodeType, ya_valueNode, ya_valueNumber, ya_value, ya_from, ya_limit, ya_inside, ya_sizes) => ∃ n13, wY_nth_13 (fun r_1 u => match u with | (yf_down, yf_heads, yf_paid, yf_payload, yf_wants, yf_name, yf_first, yf_counts, yf_enters, yf_most, yf_many, yf_sent, yf_last, yf_nodes, yf_values, yf_skipped, yf_pos, yf_there, yf_number, yf_at, ya_kind, ya_repeated, ya_how, ya_code, ya_coming, ya_going, ya_type, ya_headers, ya_header, ya_queued, ya_otherEnded, ya_ended, ya_finishing, ya_queue, ya_prefix, ya_length, ya_got, ya_high, ya_whole, ya_has, ya_bytes, ya_frame, ya_payloads, ya_table, ya_out, ya_nodeType, ya_valueNode, ya_valueNumber, ya_value, ya_from, ya_limit, ya_inside, ya_sizes) => (0 ≤ r_1 → vp_in r_1 48 ∧ (ya_value r_1.toNatClampNeg = r ∧ i_Rel (k + 6) (nI fAt, nI n, nI so, nI fl, nI st, f_down, nI m, nI M, f_typeSeen, nI l, nI z.2, a_payload, a_life, a_theyEnded, a_weEnded, a_finishing, a_codes, an_f wi, an_f wo, a_headers, an_f hc, a_entries, a_kinds, a_repeats, a_messageCount, an_f tx, a_nodeCount, a_nodeTypes, a_valueCount, a_valueOwners, a_values, a_skippedCount, a_reader, a_chainNode, a_chainEnd, an_f Q, an_f ql, an_f z.1, a_nodeSize, a_nodePlace) (yf_down, yf_heads, yf_paid, yf_payload, yf_wants, yf_name, yf_first, yf_counts, yf_enters, yf_most, yf_many, yf_sent, yf_last, yf_nodes, yf_values, yf_skipped, yf_pos, yf_there, yf_number, yf_at, ya_kind, ya_repeated, ya_how, ya_code, ya_coming, ya_going, ya_type, ya_headers, ya_header, ya_queued, ya_otherEnded, ya_ended, ya_finishing, ya_queue, ya_prefix, ya_length, ya_got, ya_high, ya_whole, ya_has, ya_bytes, ya_frame, ya_payloads, ya_table, ya_out, ya_nodeType, ya_valueNode, ya_valueNumber, ya_value, ya_from, ya_limit, ya_inside, ya_sizes))) ∧ (¬ 0 ≤ r_1 → (0 = r ∧ i_Rel (k + 6) (nI fAt, nI n, nI so, nI fl, nI st, f_down, nI m, nI M, f_typeSeen, nI l, nI z.2, a_payload, a_life, a_theyEnded, a_weEnded, a_finishing, a_codes, an_f wi, an_f wo, a_headers, an_f hc, a_entries, a_kinds, a_repeats, a_messageCount, an_f tx, a_nodeCount, a_nodeTypes, a_valueCount, a_valueOwners, a_values, a_skippedCount, a_reader, a_chainNode, a_chainEnd, an_f Q, an_f ql, an_f z.1, a_nodeSize, a_nodePlace) (yf_down, yf_heads, yf_paid, yf_payload, yf_wants, yf_name, yf_first, yf_counts, yf_enters, yf_most, yf_many, yf_sent, yf_last, yf_nodes, yf_values, yf_skipped, yf_pos, yf_there, yf_number, yf_at, ya_kind, ya_repeated, ya_how, ya_code, ya_coming, ya_going, ya_type, ya_headers, ya_header, ya_queued, ya_otherEnded, ya_ended, ya_finishing, ya_queue, ya_prefix, ya_length, ya_got, ya_high, ya_whole, ya_has, ya_bytes, ya_frame, ya_payloads, ya_table, ya_out, ya_nodeType, ya_valueNode, ya_valueNumber, ya_value, ya_from, ya_limit, ya_inside, ya_sizes)))) (nI a) (nI q) v4 r_1 yf_down yf_heads yf_paid yf_payload yf_wants yf_name yf_first yf_counts yf_enters yf_most yf_many yf_sent yf_last yf_nodes yf_values yf_skipped yf_pos yf_there yf_number yf_at ya_kind ya_repeated ya_how ya_code ya_coming ya_going ya_type ya_headers ya_header ya_queued ya_otherEnded ya_ended ya_finishing ya_queue ya_prefix ya_length ya_got ya_high ya_whole ya_has ya_bytes ya_frame ya_payloads ya_table ya_out ya_nodeType ya_valueNode ya_valueNumber ya_value ya_from ya_limit ya_inside ya_sizes n13 0 0) (f_down, nI h, nI p, yf_payload, yf_wants, yf_name, yf_first, yf_counts, yf_enters, nI M, nI m, nI z.2, nI (if l = 0 then 7 else l), yf_nodes, yf_values, yf_skipped, yf_pos, yf_there, yf_number, yf_at, a_kinds, a_repeats, a_life, a_codes, an_f wi, an_f wo, ya_type, an_f hc, a_headers, an_f ql, ya_otherEnded, a_weEnded, a_finishing, an_g Q, ya_prefix, ya_length, ya_got, ya_high, a_messageCount, ya_has, an_g tx, ya_frame, ya_payloads, ya_table, an_g z.1, ya_nodeType, ya_valueNode, ya_valueNumber, ya_value, ya_from, ya_limit, ya_inside, ya_sizes) (nI s) := by
      intro r hr
      refine HO _ (fun z' hz => ⟨pm_nv (pm_d c) + 1, lo_nth hz hv (pm_nv (pm_d c)) 0 0 (by omega) ?_⟩)
      by_cases g : lo_f (pm_d c) (nI a) (nI q) v4 (pm_nv (pm_d c)) 0 0 < pm_nv (pm_d c)
      · rw [if_pos g] at hr ⊢
        refine br_t (nI_pos' (by omega)) ⟨vp_in_nI (by omega) (by omega), ?_, lo_J hC z'⟩
        rw [nI_clamp (by omega), hr]
        exact (hz.2.2.2.2.2.1.2 _ g).2.2.1
      · rw [if_neg g] at hr ⊢
        exact br_f (by decide) ⟨hr.symm, lo_J hC z'⟩
    generalize lo_f (pm_d c) (nI a) (nI q) v4 (pm_nv (pm_d c)) 0 0 = i at *
    by_cases g : i < pm_nv (pm_d c)
    · rw [if_pos g] at HY ⊢
      obtain ⟨e4, e5⟩ := lo_val d3 d2.1 l1 ha q2 g (hsp (by omega))
      have hty := (d2.1.2.2.2.2.1 a ha).1
      have hj : 16 * pm_nt (pm_d c) a + q < 64 := by omega
      refine br_t (nI_pos' (by omega)) (lo_fo s8 d3 ha (by omega) ⟨vp_in_nI hj (by omega), nm_r (by rw [nI_clamp (by omega), hK.2.1 _ hj]) ?_⟩)
      obtain ⟨c1, c2, c3⟩ := xr_c48 (s := s) (a := i) s8 (by omega)
      rw [c3]
      refine br_c (fun w => ⟨c2, ?_⟩) (fun w => ⟨c2, ?_⟩)
      · have h4 := (yr_k _ (hK.1 _)).2.2.2.2.2.1.mp w
        obtain ⟨mm, m1, m2, m3, m4⟩ := e4 h4
        rw [m4, lo_and (by omega) m1]
        exact HY _ m2.symm
      · have h4 : K (16 * pm_nt (pm_d c) a + q) ≠ 4 := fun y => w ((yr_k _ (hK.1 _)).2.2.2.2.2.1.mpr y)
        rw [e5 h4]
        exact HY _ rfl
    · rw [if_neg g] at HY ⊢
      exact br_f (by decide) (HY _ rfl)
end
end
section
/-! Y5: byteOf -/
section
variable {f_frameAt f_frameLength f_frameSort f_frameFlags f_frameStream f_down f_entryCount f_most f_typeSeen f_lastSender f_sentLength : Int32} {a_payload a_life a_theyEnded a_weEnded a_finishing a_codes a_windowIn a_windowOut a_headers a_headerCount a_entries a_kinds a_repeats a_messageCount a_text a_nodeCount a_nodeTypes a_valueCount a_valueOwners a_values a_skippedCount a_reader a_chainNode a_chainEnd a_queue a_queueLength a_sent a_nodeSize a_nodePlace : Nat → Int32} {yf_down yf_heads yf_paid yf_payload yf_wants yf_name yf_first yf_counts yf_enters yf_most yf_many yf_sent yf_last yf_nodes yf_values yf_skipped yf_pos yf_there yf_number yf_at : Int32} {ya_kind ya_repeated ya_how ya_code ya_coming ya_going ya_type ya_headers ya_header ya_queued ya_otherEnded ya_ended ya_finishing ya_queue ya_prefix ya_length ya_got ya_high ya_whole ya_has ya_bytes ya_frame ya_payloads ya_table ya_out ya_nodeType ya_valueNode ya_valueNumber ya_value ya_from ya_limit ya_inside ya_sizes : Nat → Int32}
theorem i_vc_byteOf {k : Nat} {u : SX} {v : SY} (I : i_Rel k u v) (hk : k + 6 ≤ 3072) (v1 : Int32) (v2 : Int32) (v3 : Int32) (v4 : Int32) (v5 : Int32) : wpX_byteOf (fun r => wpY_byteOf (fun r' v' => r' = r ∧ i_Rel (k + 6) u v') v v1 v2 v3 v4 v5) u v1 v2 v3 v4 v5 := by
  have J := i_up I
  obtain ⟨⟨⟨K, R, z⟩, ⟨fAt, n, so, fl, st, h, p, m, M, l⟩, ⟨wi, wo, ql, hc, Q, tx⟩, ⟨f_down, f_typeSeen, yf_payload, yf_wants, yf_name, yf_first, yf_counts, yf_enters, yf_nodes, yf_values, yf_skipped, yf_pos, yf_there, yf_number, yf_at⟩, ⟨a_payload, a_life, a_theyEnded, a_weEnded, a_finishing, a_codes, a_headers, a_entries, a_kinds, a_repeats, a_messageCount⟩, ⟨a_nodeCount, a_nodeTypes, a_valueCount, a_valueOwners, a_values, a_skippedCount, a_reader, a_chainNode, a_chainEnd, a_nodeSize, a_nodePlace⟩, ⟨ya_type, ya_otherEnded, ya_prefix, ya_length, ya_got, ya_high, ya_has, ya_frame, ya_payloads⟩, ⟨ya_table, ya_nodeType, ya_valueNode, ya_valueNumber, ya_value, ya_from, ya_limit, ya_inside, ya_sizes⟩⟩, rfl, rfl, hD, hl, hH, hO, hQ, hX, hS, hq, hT, hK, hF, hM⟩ := I
  have hC : cr_C k ((K, R, z), (fAt, n, so, fl, st, h, p, m, M, l), (wi, wo, ql, hc, Q, tx), (f_down, f_typeSeen, yf_payload, yf_wants, yf_name, yf_first, yf_counts, yf_enters, yf_nodes, yf_values, yf_skipped, yf_pos, yf_there, yf_number, yf_at), (a_payload, a_life, a_theyEnded, a_weEnded, a_finishing, a_codes, a_headers, a_entries, a_kinds, a_repeats, a_messageCount), (a_nodeCount, a_nodeTypes, a_valueCount, a_valueOwners, a_values, a_skippedCount, a_reader, a_chainNode, a_chainEnd, a_nodeSize, a_nodePlace), (ya_type, ya_otherEnded, ya_prefix, ya_length, ya_got, ya_high, ya_has, ya_frame, ya_payloads), (ya_table, ya_nodeType, ya_valueNode, ya_valueNumber, ya_value, ya_from, ya_limit, ya_inside, ya_sizes)) := ⟨hD, hl, hH, hO, hQ, hX, hS, hq, hT, hK, hF, hM⟩
  dsimp only [cr_x, cr_y] at J ⊢
  unfold wpX_byteOf wpY_byteOf wpY_nth
  dsimp only
  rcases lo_field (by omega) hC v1 v2 v3 with ⟨hx, hy⟩ | ⟨s, c, dep, L, s1, s8, rfl, l1, d2, d3, HO, hh⟩
  · exact hx _ (br_t rfl (hy _ ⟨1, lo_nth0 (br_t (by decide) ⟨rfl, J⟩)⟩))
  have hv := d2.1.2.2.1
  rcases hh with ⟨hx, hno⟩ | ⟨hx, a, q, rfl, rfl, ha, q1, q2⟩
  · refine hx _ (br_t rfl (HO _ (fun z' hz => ⟨pm_nv (pm_d c) + 1, lo_nth hz hv (pm_nv (pm_d c)) 0 0 (by omega) ?_⟩)))
    rw [(lo_none hno).2 v4, if_neg (by omega)]
    exact br_t (by decide) ⟨rfl, lo_J hC z'⟩
  · have hnn := d2.1.2.1
    have hty := (d2.1.2.2.2.2.1 a ha).1
    have hj : 16 * pm_nt (pm_d c) a + q < 64 := by omega
    refine hx _ (br_f (by decide) ?_)
    unfold wpX_findValue
    refine ⟨pm_nv (pm_d c) + 1, lo_fv s8 d3 hv q2 (by omega) (xr_DB d2.1) (pm_nv (pm_d c)) 0 0 (by omega) ?_⟩
    have hle := lo_f_le (D := pm_d c) (x := nI a) (y := nI q) (w := v4) (pm_nv (pm_d c)) 0 0
    have hsp := lo_f_s (D := pm_d c) (x := nI a) (y := nI q) (w := v4) (pm_nv (pm_d c)) 0 0
    refine lo_fo s8 d3 ha (by omega) ⟨vp_in_nI hj (by omega), nm_r (by rw [nI_clamp (by omega), hK.2.1 _ hj]) ?_⟩
    have HN : ¬ lo_f (pm_d c) (nI a) (nI q) v4 (pm_nv (pm_d c)) 0 0 < pm_nv (pm_d c) → ∀ (z' : yr_Z), yr_ok c (pm_pos c) z' → ∀ (post : Int32 → SY → Prop), post (-1) (f_down, nI h, nI p, yf_payload, yf_wants, yf_name, yf_first, yf_counts, yf_enters, nI M, nI m, nI z.2, nI (if l = 0 then 7 else l), z'.1, z'.2.1, z'.2.2.1, z'.2.2.2.1, nI L, z'.2.2.2.2.1, z'.2.2.2.2.2.1, a_kinds, a_repeats, a_life, a_codes, an_f wi, an_f wo, ya_type, an_f hc, a_headers, an_f ql, ya_otherEnded, a_weEnded, a_finishing, an_g Q, ya_prefix, ya_length, ya_got, ya_high, a_messageCount, ya_has, an_g tx, ya_frame, ya_payloads, ya_table, an_g z.1, z'.2.2.2.2.2.2.1, z'.2.2.2.2.2.2.2.1, z'.2.2.2.2.2.2.2.2.1, z'.2.2.2.2.2.2.2.2.2.1, z'.2.2.2.2.2.2.2.2.2.2.1, z'.2.2.2.2.2.2.2.2.2.2.2.1, z'.2.2.2.2.2.2.2.2.2.2.2.2, ya_sizes) → ∃ n13, wY_nth_13 post (nI a) (nI q) v4 1 (f_down) (nI h) (nI p) yf_payload yf_wants yf_name yf_first yf_counts yf_enters (nI M) (nI m) (nI z.2) (nI (if l = 0 then 7 else l)) (z'.1) (z'.2.1) (z'.2.2.1) (z'.2.2.2.1) (nI L) (z'.2.2.2.2.1) (z'.2.2.2.2.2.1) (a_kinds) (a_repeats) (a_life) (a_codes) (an_f wi) (an_f wo) ya_type (an_f hc) (a_headers) (an_f ql) ya_otherEnded (a_weEnded) (a_finishing) (an_g Q) ya_prefix ya_length ya_got ya_high (a_messageCount) ya_has (an_g tx) ya_frame ya_payloads ya_table (an_g z.1) (z'.2.2.2.2.2.2.1) (z'.2.2.2.2.2.2.2.1) (z'.2.2.2.2.2.2.2.2.1) (z'.2.2.2.2.2.2.2.2.2.1) (z'.2.2.2.2.2.2.2.2.2.2.1) (z'.2.2.2.2.2.2.2.2.2.2.2.1) (z'.2.2.2.2.2.2.2.2.2.2.2.2) ya_sizes n13 0 0 := by
      intro g z' hz post H
      refine ⟨pm_nv (pm_d c) + 1, lo_nth hz hv (pm_nv (pm_d c)) 0 0 (by omega) ?_⟩
      rw [if_neg g]; exact H
    have HP : lo_f (pm_d c) (nI a) (nI q) v4 (pm_nv (pm_d c)) 0 0 < pm_nv (pm_d c) → ∀ (z' : yr_Z), yr_ok c (pm_pos c) z' → ∀ (post : Int32 → SY → Prop), post (nI (lo_f (pm_d c) (nI a) (nI q) v4 (pm_nv (pm_d c)) 0 0)) (f_down, nI h, nI p, yf_payload, yf_wants, yf_name, yf_first, yf_counts, yf_enters, nI M, nI m, nI z.2, nI (if l = 0 then 7 else l), z'.1, z'.2.1, z'.2.2.1, z'.2.2.2.1, nI L, z'.2.2.2.2.1, z'.2.2.2.2.2.1, a_kinds, a_repeats, a_life, a_codes, an_f wi, an_f wo, ya_type, an_f hc, a_headers, an_f ql, ya_otherEnded, a_weEnded, a_finishing, an_g Q, ya_prefix, ya_length, ya_got, ya_high, a_messageCount, ya_has, an_g tx, ya_frame, ya_payloads, ya_table, an_g z.1, z'.2.2.2.2.2.2.1, z'.2.2.2.2.2.2.2.1, z'.2.2.2.2.2.2.2.2.1, z'.2.2.2.2.2.2.2.2.2.1, z'.2.2.2.2.2.2.2.2.2.2.1, z'.2.2.2.2.2.2.2.2.2.2.2.1, z'.2.2.2.2.2.2.2.2.2.2.2.2, ya_sizes) → ∃ n13, wY_nth_13 post (nI a) (nI q) v4 1 (f_down) (nI h) (nI p) yf_payload yf_wants yf_name yf_first yf_counts yf_enters (nI M) (nI m) (nI z.2) (nI (if l = 0 then 7 else l)) (z'.1) (z'.2.1) (z'.2.2.1) (z'.2.2.2.1) (nI L) (z'.2.2.2.2.1) (z'.2.2.2.2.2.1) (a_kinds) (a_repeats) (a_life) (a_codes) (an_f wi) (an_f wo) ya_type (an_f hc) (a_headers) (an_f ql) ya_otherEnded (a_weEnded) (a_finishing) (an_g Q) ya_prefix ya_length ya_got ya_high (a_messageCount) ya_has (an_g tx) ya_frame ya_payloads ya_table (an_g z.1) (z'.2.2.2.2.2.2.1) (z'.2.2.2.2.2.2.2.1) (z'.2.2.2.2.2.2.2.2.1) (z'.2.2.2.2.2.2.2.2.2.1) (z'.2.2.2.2.2.2.2.2.2.2.1) (z'.2.2.2.2.2.2.2.2.2.2.2.1) (z'.2.2.2.2.2.2.2.2.2.2.2.2) ya_sizes n13 0 0 := by
      intro g z' hz post H
      refine ⟨pm_nv (pm_d c) + 1, lo_nth hz hv (pm_nv (pm_d c)) 0 0 (by omega) ?_⟩
      rw [if_pos g]; exact H
    generalize lo_f (pm_d c) (nI a) (nI q) v4 (pm_nv (pm_d c)) 0 0 = i at *
    by_cases g : i < pm_nv (pm_d c)
    · rw [if_pos g]
      refine br_f (nI_pos (by omega)) ?_
      obtain ⟨e4, e5⟩ := lo_val d3 d2.1 l1 ha q2 g (hsp (by omega))
      obtain ⟨c1, c2, c3⟩ := xr_c48 (s := s) (a := i) s8 (by omega)
      have ej : 16 * nI (pm_nt (pm_d c) a) + nI q = nI (16 * pm_nt (pm_d c) a + q) := by
        rw [show (16 : Int32) = nI 16 from rfl, pk_mul, nI_add]
      -- the reference, to the field's kind
      have HK : ∀ (r : Int32), (∀ (z' : yr_Z), yr_ok c (pm_pos c) z' → z'.2.2.2.2.2.2.1 a = nI (pm_nt (pm_d c) a)) := by
        intro r z' hz
        exact hz.2.2.2.2.2.1.1 a ha
      rw [c3]
      refine br_c (fun w => ?_) (fun w => ?_)
      · have h4 := (yr_k _ (hK.1 _)).2.2.2.2.2.1.mp w
        obtain ⟨mm, m1, m2, m3, m4⟩ := e4 h4
        rw [m4, lo_and (by omega) m1, lo_shr (by omega) m1]
        rcases lk_ix (x := v5) mm (by omega) with x0 | ⟨x0, x1, x2⟩ | ⟨jj, hjj, rfl, x0, x1, x2⟩
        · refine br_t x0 (HO _ (fun z' hz => HP g z' hz _ ?_))
          refine br_f (nI_pos (by omega)) ⟨vp_in_nI (by omega) (by omega), ?_⟩
          dsimp only
          rw [nI_clamp (show a < 2 ^ 31 by omega), HK 0 z' hz, ej, nI_clamp (show 16 * pm_nt (pm_d c) a + q < 2 ^ 31 by omega), hK.2.1 _ hj]
          exact ⟨vp_in_nI hj (by omega), br_t w ⟨vp_in_nI (by omega) (by omega), yn_lo x0 (br_f (by decide) ⟨rfl, lo_J hC z'⟩)⟩⟩
        · refine br_f x0 ⟨c2, br_f (fun y => ?_) (HO _ (fun z' hz => HP g z' hz _ ?_))⟩
          · exact absurd (Int32.lt_of_le_of_lt x1 y) (Int32.lt_irrefl)
          refine br_f (nI_pos (by omega)) ⟨vp_in_nI (by omega) (by omega), ?_⟩
          dsimp only
          rw [nI_clamp (show a < 2 ^ 31 by omega), HK 0 z' hz, ej, nI_clamp (show 16 * pm_nt (pm_d c) a + q < 2 ^ 31 by omega), hK.2.1 _ hj]
          refine ⟨vp_in_nI hj (by omega), br_t w ⟨vp_in_nI (by omega) (by omega), yn_hi x0 ?_ (br_f (by decide) ⟨rfl, lo_J hC z'⟩)⟩⟩
          rw [nI_clamp (by omega), (hz.2.2.2.2.2.1.2 i g).2.2.1, m2]
          exact x2
        · have hB := yr_by (i := pm_fr (pm_d c) i + jj) (cr_by_B (s := s) hX) s8 (by omega)
          have hBt : cr_by tx s (pm_fr (pm_d c) i + jj) = tx (200 * s + (pm_fr (pm_d c) i + jj)) := by
            unfold cr_by; rw [if_pos (by omega)]
          have eX : nI s * 200 + nI (pm_fr (pm_d c) i) + nI jj = nI (200 * s + (pm_fr (pm_d c) i + jj)) := by
            rw [show (200 : Int32) = nI 200 from rfl, pk_mul, nI_add, nI_add]
            exact congrArg nI (by omega)
          have eY : 200 * nI s + nI (pm_fr (pm_d c) i) + nI jj = 200 * nI s + nI (pm_fr (pm_d c) i + jj) := by
            rw [Int32.add_assoc, nI_add]
          refine br_f x0 ⟨c2, br_t ?_ ⟨c2, ?_⟩⟩
          · exact (nI_ltI (by omega) (by omega)).mpr hjj
          rw [eX, nI_clamp (show 200 * s + (pm_fr (pm_d c) i + jj) < 2 ^ 31 by omega), an_fa, ← hBt]
          refine ⟨vp_in_nI (by omega) (by omega), HO _ (fun z' hz => HP g z' hz _ ?_)⟩
          refine br_f (nI_pos (by omega)) ⟨vp_in_nI (by omega) (by omega), ?_⟩
          dsimp only
          rw [nI_clamp (show a < 2 ^ 31 by omega), HK 0 z' hz, ej, nI_clamp (show 16 * pm_nt (pm_d c) a + q < 2 ^ 31 by omega), hK.2.1 _ hj]
          refine ⟨vp_in_nI hj (by omega), br_t w ⟨vp_in_nI (by omega) (by omega), yn_in x0 ?_ (br_t rfl ⟨vp_in_nI (by omega) (by omega), ?_⟩)⟩⟩
          · rw [nI_clamp (by omega), (hz.2.2.2.2.2.1.2 i g).2.2.1, m2]
            exact x2
          · rw [nI_clamp (show i < 2 ^ 31 by omega), (hz.2.2.2.2.2.1.2 i g).2.2.2, eY]
            exact ⟨hB.1, hB.2, lo_J hC z'⟩
      · refine HO _ (fun z' hz => HP g z' hz _ ?_)
        refine br_f (nI_pos (by omega)) ⟨vp_in_nI (by omega) (by omega), ?_⟩
        dsimp only
        rw [nI_clamp (show a < 2 ^ 31 by omega), HK 0 z' hz, ej, nI_clamp (show 16 * pm_nt (pm_d c) a + q < 2 ^ 31 by omega), hK.2.1 _ hj]
        exact ⟨vp_in_nI hj (by omega), br_f w ⟨rfl, lo_J hC z'⟩⟩
    · rw [if_neg g]
      exact br_t (by decide) (HO _ (fun z' hz => HN g z' hz _ (br_t (by decide) ⟨rfl, lo_J hC z'⟩)))
end
end
section
/-! Z1: the widths of numbers -/
section
def sz_ct : Nat → Nat → Nat
  | 0, _ => 0
  | f + 1, r => if r = 0 then 0 else 1 + sz_ct f (r / 128)
theorem sz_ct_0 : ∀ f, sz_ct f 0 = 0
  | 0 => rfl
  | f + 1 => by rw [sz_ct, if_pos rfl]
theorem sz_wd_ct : ∀ f x, sz_wd f x = 1 + sz_ct f (x / 128)
  | 0, x => rfl
  | f + 1, x => by
    rw [sz_wd, sz_ct]
    by_cases h : x / 128 = 0
    · rw [if_pos h, if_pos h]
    · rw [if_neg h, if_neg h, sz_wd_ct f (x / 128)]
variable {f_frameAt f_frameLength f_frameSort f_frameFlags f_frameStream f_down f_entryCount f_most f_typeSeen f_lastSender f_sentLength : Int32} {a_payload a_life a_theyEnded a_weEnded a_finishing a_codes a_windowIn a_windowOut a_headers a_headerCount a_entries a_kinds a_repeats a_messageCount a_text a_nodeCount a_nodeTypes a_valueCount a_valueOwners a_values a_skippedCount a_reader a_chainNode a_chainEnd a_queue a_queueLength a_sent a_nodeSize a_nodePlace : Nat → Int32}
theorem zx_sv {post : Int32 → Prop} : ∀ f j a r, j + f = 10 → r < 2 ^ 62 → post (nI (a + sz_ct f r)) → wX_sizeOfVarint_11 post f_frameAt f_frameLength f_frameSort f_frameFlags f_frameStream f_down f_entryCount f_most f_typeSeen f_lastSender f_sentLength a_payload a_life a_theyEnded a_weEnded a_finishing a_codes a_windowIn a_windowOut a_headers a_headerCount a_entries a_kinds a_repeats a_messageCount a_text a_nodeCount a_nodeTypes a_valueCount a_valueOwners a_values a_skippedCount a_reader a_chainNode a_chainEnd a_queue a_queueLength a_sent a_nodeSize a_nodePlace (f + 1) (nI a) (lN r) (nI j)
  | 0, j, a, r, hj, hr, H => by
    rw [wX_sizeOfVarint_11]
    exact pk_le 10 j (fun _ => H) (fun g => absurd g (by omega))
  | f + 1, j, a, r, hj, hr, H => by
    rw [wX_sizeOfVarint_11]
    refine pk_le 10 j (fun g => absurd g (by omega)) (fun g => ?_)
    rw [sz_ct] at H
    by_cases h0 : r = 0
    · subst h0
      rw [if_pos rfl] at H
      exact br_t rfl H
    · rw [if_neg h0] at H
      refine br_f (fun z => h0 ((pk_lEQ (a := r) (b := 0) (by omega) (by omega)).mp z)) (nm_r (nI_1 _) (nm_r (e' := lN (r / 128)) (wb_shr (k := 7) (by omega) (by omega)) (nm_r (nI_1 _) ?_)))
      refine zx_sv f (j + 1) (a + 1) (r / 128) (by omega) (by omega) ?_
      rw [show a + 1 + sz_ct f (r / 128) = a + (1 + sz_ct f (r / 128)) by omega]
      exact H
theorem zx_size {post : Int32 → Prop} {n : Nat} (hn : n < 2 ^ 64) (H : post (nI (sz_w n))) : wpX_sizeOfVarint post (f_frameAt, f_frameLength, f_frameSort, f_frameFlags, f_frameStream, f_down, f_entryCount, f_most, f_typeSeen, f_lastSender, f_sentLength, a_payload, a_life, a_theyEnded, a_weEnded, a_finishing, a_codes, a_windowIn, a_windowOut, a_headers, a_headerCount, a_entries, a_kinds, a_repeats, a_messageCount, a_text, a_nodeCount, a_nodeTypes, a_valueCount, a_valueOwners, a_values, a_skippedCount, a_reader, a_chainNode, a_chainEnd, a_queue, a_queueLength, a_sent, a_nodeSize, a_nodePlace) (lN n) := by
  unfold wpX_sizeOfVarint
  refine nm_r (e' := lN (n / 128)) (wb_shr (k := 7) hn (by omega)) ⟨10, zx_sv 9 1 1 (n / 128) rfl (by omega) ?_⟩
  rw [← sz_wd_ct]; exact H
theorem zy_w7 {post : Int32 → Prop} : ∀ f g a r, f ≤ g → r < 128 ^ f → r < 2 ^ 31 → post (nI (a + sz_ct g r)) → wY_width_7 post (f + 1) (nI a) (nI r)
  | 0, g, a, r, hg, hr, hr2, H => by
    have : r = 0 := by
      have : r < 1 := hr
      omega
    subst this
    rw [sz_ct_0] at H
    rw [wY_width_7]
    exact br_t rfl H
  | f + 1, g, a, r, hg, hr, hr2, H => by
    obtain ⟨g, rfl⟩ : ∃ g', g = g' + 1 := ⟨g - 1, by omega⟩
    rw [wY_width_7]
    rw [sz_ct] at H
    by_cases h0 : r = 0
    · subst h0
      rw [if_pos rfl] at H
      exact br_t rfl H
    · rw [if_neg h0] at H
      have hlt : r / 128 < 128 ^ f := by
        rw [Nat.pow_succ] at hr
        exact Nat.div_lt_of_lt_mul (by rw [Nat.mul_comm]; exact hr)
      refine br_f (fun z => h0 ((nI_eq (a := r) (b := 0) hr2 (by omega)).mp z)) (nm_r (nI_1 _) (nm_r (e' := nI (r / 128)) (pk_ushrN (by omega) 7 7 (by decide)) ?_))
      refine zy_w7 f g (a + 1) (r / 128) (by omega) hlt (by omega) ?_
      rw [show a + 1 + sz_ct g (r / 128) = a + (1 + sz_ct g (r / 128)) by omega]
      exact H
theorem zy_width {post : Int32 → Prop} {x : Int32} (H : post (nI (sz_w x.toBitVec.toNat))) : wpY_width post x := by
  obtain ⟨n, hn, rfl⟩ := wb_of32 x
  rw [pk_tn hn] at H
  unfold wpY_width
  refine nm_r (e' := nI (n / 128)) (pk_ushrN hn 7 7 (by decide)) ⟨5, zy_w7 4 9 1 (n / 128) (by omega) (by omega) (by omega) ?_⟩
  rw [← sz_wd_ct]; exact H
end
end
section
/-! Z2: the sizes of bodies -/
section
theorem sz_wd_big : ∀ f x, 128 ^ f ≤ x → sz_wd f x = f + 1
  | 0, _, _ => rfl
  | f + 1, x, h => by
    have h1 : 128 ^ f ≤ x / 128 := by
      rw [Nat.pow_succ] at h
      exact (Nat.le_div_iff_mul_le (by omega)).mpr h
    have h2 : 0 < 128 ^ f := by first | exact Nat.pow_pos (by omega) | exact Nat.pos_pow_of_pos f (by omega)
    rw [sz_wd, if_neg (by omega), sz_wd_big f (x / 128) h1]
    omega
theorem sz_5 {k : Nat} (h0 : k ≠ 0) (h1 : k ≠ 1) (h2 : k ≠ 2) (h3 : k ≠ 3) (h4 : k ≠ 4) : 4 < k := by omega
theorem sz_16 {m : Nat} (h : m < 16) : m < 2 ^ 31 := by omega
theorem sz_ux_n {x : Int32} (h : x < 0) : sz_w (sz_ux x) = 10 := by
  unfold sz_w
  refine sz_wd_big 9 _ ?_
  unfold sz_ux
  rw [if_pos h]
  have hx : 2 ^ 31 ≤ x.toBitVec.toNat := by
    rcases Nat.lt_or_ge x.toBitVec.toNat (2 ^ 31) with g | g
    · exact absurd h (by rw [yr_nI x]; exact nI_pos g)
    · exact g
  have : (128 : Nat) ^ 9 = 2 ^ 63 := by decide
  omega
theorem sz_ux_p {x : Int32} (h : ¬ x < 0) : sz_ux x = x.toBitVec.toNat := if_neg h
variable {yf_down yf_heads yf_paid yf_payload yf_wants yf_name yf_first yf_counts yf_enters yf_most yf_many yf_sent yf_last yf_nodes yf_values yf_skipped yf_pos yf_there yf_number yf_at : Int32} {ya_kind ya_repeated ya_how ya_code ya_coming ya_going ya_type ya_headers ya_header ya_queued ya_otherEnded ya_ended ya_finishing ya_queue ya_prefix ya_length ya_got ya_high ya_whole ya_has ya_bytes ya_frame ya_payloads ya_table ya_out ya_nodeType ya_valueNode ya_valueNumber ya_value ya_from ya_limit ya_inside ya_sizes : Nat → Int32}
/-- the width of a value's body, as the reference reckons it -/
theorem zy_of {k j : Nat} {S : Nat → Nat} {post : Int32 → Prop} (hj : j < 48) (hk : k ≤ 8) (hk0 : k ≠ 0) (h4 : k = 4 → ∃ m, m < 2 ^ 31 ∧ ya_value j = nI m) (h5 : 4 < k → ∃ m, m < 16 ∧ ya_value j = nI m ∧ ya_sizes m = nI (S m))
    (H : post (nI (sz_b k (ya_value j) S))) : wpY_widthOf post (yf_down, yf_heads, yf_paid, yf_payload, yf_wants, yf_name, yf_first, yf_counts, yf_enters, yf_most, yf_many, yf_sent, yf_last, yf_nodes, yf_values, yf_skipped, yf_pos, yf_there, yf_number, yf_at, ya_kind, ya_repeated, ya_how, ya_code, ya_coming, ya_going, ya_type, ya_headers, ya_header, ya_queued, ya_otherEnded, ya_ended, ya_finishing, ya_queue, ya_prefix, ya_length, ya_got, ya_high, ya_whole, ya_has, ya_bytes, ya_frame, ya_payloads, ya_table, ya_out, ya_nodeType, ya_valueNode, ya_valueNumber, ya_value, ya_from, ya_limit, ya_inside, ya_sizes) (nI k + (-1)) (nI j) := by
  have yk := xr_k2 k hk
  unfold wpY_widthOf
  dsimp only
  refine ⟨vp_in_nI hj (by omega), nm_r (by rw [nI_clamp (by omega)]) ?_⟩
  unfold sz_b at H
  refine br_c (fun z => ?_) (fun z => ?_)
  · rw [if_pos (yk.2.1.mp z)] at H
    refine br_c (fun w => zy_width ?_) (fun w => ?_)
    · have hn : ¬ ya_value j < 0 := fun y => absurd (Int32.lt_of_lt_of_le y w) (by intro g; exact absurd g (Int32.lt_irrefl))
      rw [sz_ux_p hn] at H; exact H
    · have hn : ya_value j < 0 := by
        rw [Int32.le_iff_toInt_le] at w
        rw [Int32.lt_iff_toInt_lt]
        omega
      rw [sz_ux_n hn] at H; exact H
  · have k1 : k ≠ 1 := fun y => z (yk.2.1.mpr y)
    rw [if_neg k1] at H
    refine br_c (fun z2 => ?_) (fun z2 => ?_)
    · rw [if_pos (yk.2.2.1.mp z2)] at H
      exact zy_width H
    · have k2 : k ≠ 2 := fun y => z2 (yk.2.2.1.mpr y)
      rw [if_neg k2] at H
      refine br_c (fun z3 => ?_) (fun z3 => ?_)
      · rw [if_pos (yk.2.2.2.1.mp z3)] at H; exact H
      · have k3 : k ≠ 3 := fun y => z3 (yk.2.2.2.1.mpr y)
        rw [if_neg k3] at H
        refine br_c (fun z4 => ?_) (fun z4 => ?_)
        · have k4 := yk.2.2.2.2.1.mp z4
          obtain ⟨m, m1, m2⟩ := h4 k4
          rw [if_pos k4, m2, nI_clamp m1] at H
          rw [m2]; exact H
        · have k4 : k ≠ 4 := fun y => z4 (yk.2.2.2.2.1.mpr y)
          obtain ⟨m, m1, m2, m3⟩ := h5 (sz_5 hk0 k1 k2 k3 k4)
          rw [if_neg k4, m2, nI_clamp (sz_16 m1)] at H
          rw [m2, nI_clamp (sz_16 m1), m3]
          exact ⟨vp_in_nI m1 (by decide), H⟩
end
end
section
/-! Z3: an int as a long -/
section
theorem zx_ext (x : Int32) : x.toInt64 = lN (sz_ux x) := by
  by_cases h : x < 0
  · apply wb_inj
    apply BitVec.eq_of_toNat_eq
    have hx : 2 ^ 31 ≤ x.toBitVec.toNat := by
      rcases Nat.lt_or_ge x.toBitVec.toNat (2 ^ 31) with g | g
      · exact absurd h (by rw [yr_nI x]; exact nI_pos g)
      · exact g
    have hlt : x.toBitVec.toNat < 2 ^ 32 := x.toBitVec.isLt
    have hu : sz_ux x = 2 ^ 64 - 2 ^ 32 + x.toBitVec.toNat := if_pos h
    rw [hu, wb_tn (by omega), Int32.toBitVec_toInt64, BitVec.toNat_signExtend]
    have hm : x.toBitVec.msb = true := by
      rw [BitVec.msb_eq_decide]; simp; omega
    rw [hm]
    simp only [if_true, BitVec.toNat_setWidth]
    omega
  · obtain ⟨n, hn, rfl⟩ := nI_of h
    rw [nI_l hn, sz_ux_p h, pk_tn (by omega)]
end
end
section
/-! Z4: the component's sizes of bodies -/
section
theorem zx_z (x : Int32) : x.toInt64 &&& 4294967295 = lN x.toBitVec.toNat := by
  have hlt : x.toBitVec.toNat < 2 ^ 32 := x.toBitVec.isLt
  have hu : sz_ux x < 2 ^ 64 ∧ sz_ux x % 2 ^ 32 = x.toBitVec.toNat := by
    unfold sz_ux
    split <;> omega
  rw [zx_ext, show (4294967295 : Int64) = lN (2 ^ 32 - 1) from rfl, wb_mask hu.1 (by omega), hu.2]
theorem sz_ux_lt (x : Int32) : sz_ux x < 2 ^ 64 := by
  have hlt : x.toBitVec.toNat < 2 ^ 32 := x.toBitVec.isLt
  unfold sz_ux
  split <;> omega
variable {f_frameAt f_frameLength f_frameSort f_frameFlags f_frameStream f_down f_entryCount f_most f_typeSeen f_lastSender f_sentLength : Int32} {a_payload a_life a_theyEnded a_weEnded a_finishing a_codes a_windowIn a_windowOut a_headers a_headerCount a_entries a_kinds a_repeats a_messageCount a_text a_nodeCount a_nodeTypes a_valueCount a_valueOwners a_values a_skippedCount a_reader a_chainNode a_chainEnd a_queue a_queueLength a_sent a_nodeSize a_nodePlace : Nat → Int32}
theorem zx_body {k : Nat} {xv v : Int32} {S : Nat → Nat} {post : Int32 → Prop} (hk : k ≤ 8) (hk0 : k ≠ 0) (h4 : k = 4 → ∃ m r, m ≤ 200 ∧ r ≤ 200 ∧ xv = nI (256 * r + m) ∧ v = nI m) (hn4 : k ≠ 4 → xv = v)
    (h5 : 4 < k → ∃ m, m < 16 ∧ v = nI m ∧ a_nodeSize m = nI (S m) ∧ S m < 2 ^ 31) (H : post (nI (sz_l k v S))) : wpX_sizeOfBody post (f_frameAt, f_frameLength, f_frameSort, f_frameFlags, f_frameStream, f_down, f_entryCount, f_most, f_typeSeen, f_lastSender, f_sentLength, a_payload, a_life, a_theyEnded, a_weEnded, a_finishing, a_codes, a_windowIn, a_windowOut, a_headers, a_headerCount, a_entries, a_kinds, a_repeats, a_messageCount, a_text, a_nodeCount, a_nodeTypes, a_valueCount, a_valueOwners, a_values, a_skippedCount, a_reader, a_chainNode, a_chainEnd, a_queue, a_queueLength, a_sent, a_nodeSize, a_nodePlace) (nI k + (-1)) xv := by
  have yk := xr_k2 k hk
  have yk2 := yr_k k hk
  unfold wpX_sizeOfBody
  dsimp only
  unfold sz_l sz_b at H
  refine br_f (fun z => hk0 (yk2.2.2.1.mp z)) (br_c (fun z => ?_) (fun z => ?_))
  · have k5 : 4 < k := by
      rcases Nat.lt_or_ge 4 k with w | w
      · exact w
      · exact absurd (Int32.lt_of_lt_of_le z (yk2.2.2.2.2.1.mpr w)) (by decide)
    have kn : k ≠ 1 ∧ k ≠ 2 ∧ k ≠ 3 ∧ k ≠ 4 ∧ 3 < k := ⟨by omega, by omega, by omega, by omega, by omega⟩
    obtain ⟨m, m1, m2, m3, m4⟩ := h5 k5
    have exv := hn4 kn.2.2.2.1
    have in16 : vp_in (nI m) 16 := vp_in_nI m1 (by decide)
    have hcl : (nI m).toNatClampNeg = m := nI_clamp (sz_16 m1)
    rw [if_neg kn.1, if_neg kn.2.1, if_neg kn.2.2.1, if_neg kn.2.2.2.1, if_pos kn.2.2.2.2, m2, hcl, Nat.add_comm, ← nI_add] at H
    rw [exv, m2, hcl, m3, nI_l m4]
    exact ⟨in16, zx_size (Nat.lt_trans m4 (by decide)) ⟨in16, H⟩⟩
  · refine br_c (fun z0 => ?_) (fun z0 => ?_)
    · have k1 := yk.2.1.mp z0
      subst k1
      rw [if_pos rfl, if_neg (by decide), Nat.add_zero] at H
      rw [hn4 (by decide), zx_ext]
      exact zx_size (sz_ux_lt v) H
    · have k1 : k ≠ 1 := fun w => z0 (yk.2.1.mpr w)
      rw [if_neg k1] at H
      refine br_c (fun z1 => ?_) (fun z1 => ?_)
      · have k2 := yk.2.2.1.mp z1
        subst k2
        rw [if_pos rfl, if_neg (by decide), Nat.add_zero] at H
        rw [hn4 (by decide)]
        unfold wpX_zigzag
        dsimp only
        rw [zx_z]
        exact zx_size (Nat.lt_trans (BitVec.isLt _) (by decide)) H
      · have k2 : k ≠ 2 := fun w => z1 (yk.2.2.1.mpr w)
        rw [if_neg k2] at H
        refine br_c (fun z2 => ?_) (fun z2 => ?_)
        · have k3 := yk.2.2.2.1.mp z2
          subst k3
          rw [if_pos rfl, if_neg (by decide), Nat.add_zero] at H
          exact H
        · have k3 : k ≠ 3 := fun w => z2 (yk.2.2.2.1.mpr w)
          rw [if_neg k3] at H
          refine br_c (fun z3 => ?_) (fun z3 => True.intro)
          have k4 := yk.2.2.2.2.1.mp z3
          obtain ⟨m, r, m1, m2, m3, m4⟩ := h4 k4
          subst k4
          have hm31 : m < 2 ^ 31 := Nat.lt_of_le_of_lt m1 (by decide)
          rw [if_pos rfl, if_pos (by decide), m4, nI_clamp hm31, Nat.add_comm, ← nI_add] at H
          rw [m3, lo_and m2 m1, nI_l hm31]
          exact zx_size (Nat.lt_trans hm31 (by decide)) H
end
end
section
/-! Z5: the component's sizes of fields -/
section
variable {f_frameAt f_frameLength f_frameSort f_frameFlags f_frameStream f_down f_entryCount f_most f_typeSeen f_lastSender f_sentLength : Int32} {a_payload a_life a_theyEnded a_weEnded a_finishing a_codes a_windowIn a_windowOut a_headers a_headerCount a_entries a_kinds a_repeats a_messageCount a_text a_nodeCount a_nodeTypes a_valueCount a_valueOwners a_values a_skippedCount a_reader a_chainNode a_chainEnd a_queue a_queueLength a_sent a_nodeSize a_nodePlace : Nat → Int32} {s a n L : Nat} {K : Nat → Nat} {R : Nat → Bool} {D : pm_D} {dep : Nat → Nat} {S : Nat → Nat}
theorem zx_b20 {post : Int32 → Prop} (hs : s < 8) (hD : cr_XD K s a_nodeCount a_nodeTypes a_valueCount a_valueOwners a_values D) (I : pm_DI K L dep D) (hL : L ≤ 200) (hn : n ≤ 15) (ha : a < pm_nn D) (hK8 : ∀ j, K j ≤ 8)
    (hS : ∀ m, a < m → m < pm_nn D → a_nodeSize m = nI (S m) ∧ S m < 2 ^ 31)
    (H : post (nI (sz_sm D a n (fun j => sz_l (K (sz_j D a n)) (pm_va D j) S) (pm_nv D)))) : ∀ f i, i + f = pm_nv D →
    wX_sizeOfBodies_20 post (nI s) (nI a) (nI n) (nI (K (sz_j D a n)) + (-1)) f_frameAt f_frameLength f_frameSort f_frameFlags f_frameStream f_down f_entryCount f_most f_typeSeen f_lastSender f_sentLength a_payload a_life a_theyEnded a_weEnded a_finishing a_codes a_windowIn a_windowOut a_headers a_headerCount a_entries a_kinds a_repeats a_messageCount a_text a_nodeCount a_nodeTypes a_valueCount a_valueOwners a_values a_skippedCount a_reader a_chainNode a_chainEnd a_queue a_queueLength a_sent a_nodeSize a_nodePlace (f + 1) (nI (sz_sm D a n (fun j => sz_l (K (sz_j D a n)) (pm_va D j) S) i)) (nI i)
  | 0, i, hi => by
    have hnv := I.2.2.1
    have : i = pm_nv D := by omega
    subst this
    rw [wX_sizeOfBodies_20]
    refine ⟨(xr_c8 hs).1, ?_⟩
    rw [(xr_c8 hs).2, hD.2.1]
    exact pk_le (pm_nv D) (pm_nv D) (fun _ => H) (fun g => absurd g (by omega))
  | f + 1, i, hi => by
    have hnv := I.2.2.1
    have hnn := I.2.1
    rw [wX_sizeOfBodies_20]
    refine ⟨(xr_c8 hs).1, ?_⟩
    rw [(xr_c8 hs).2, hD.2.1]
    refine pk_le (pm_nv D) i (fun g => absurd g (by omega)) (fun g => ?_)
    obtain ⟨c1, c2, c3⟩ := xr_c48 (s := s) (a := i) hs (by omega)
    rw [c1, c3, (hD.2.2.2 i g).1]
    obtain ⟨b1, b2⟩ := xr_DB I i g
    have ho := lo_own (D := D) (a := a) (n := n) (by omega) hn b1 b2
    have ih := zx_b20 hs hD I hL hn ha hK8 hS H f (i + 1) (by omega)
    rw [sz_sm] at ih
    refine ⟨c2, br_c (fun w => ⟨c2, ?_⟩) (fun w => ?_)⟩
    · have hw := ho.mp w
      have e1 : pm_vn D i = a := (nI_eq (by omega) (by omega)).mp hw.1
      have e2 : pm_vm D i = n := (nI_eq (by omega) (by omega)).mp hw.2
      have ek : pm_kk K D i = K (sz_j D a n) := by
        unfold sz_j; simp only [pm_kk]; rw [e1, e2]
      rw [if_pos ⟨e1, e2⟩] at ih
      have hv := (hD.2.2.2 i g).2
      obtain ⟨v1, v2, v3, v4, v5, v6⟩ := I.2.2.2.2.2.1 i g
      rw [ek] at hv v4 v5 v6
      refine zx_body (v := pm_va D i) (S := S) (hK8 _) v4 (fun z4 => ?_) (fun z4 => ?_) (fun z5 => ?_) (nm_r (nI_add _ _) (nm_r (nI_1 _) ih))
      · obtain ⟨m, m1, m2⟩ := v5 z4
        rw [if_pos z4, m1, nI_add] at hv
        exact ⟨m, pm_fr D i, by clear v5 v6; omega, by clear v5 v6; omega, hv, m1⟩
      · rw [if_neg z4] at hv; exact hv
      · obtain ⟨m, m1, m2, m3, m4⟩ := v6 z5
        rw [e1] at m2
        obtain ⟨s1, s2⟩ := hS m m2 m3
        exact ⟨m, Nat.lt_of_lt_of_le m3 hnn, m1, s1, s2⟩
    · rw [if_neg (fun z => w (ho.mpr ⟨by rw [z.1], by rw [z.2]⟩)), Nat.add_zero] at ih
      exact nm_r (nI_1 _) ih
end
end
section
/-! Z6: sizeOfBodies, isPacked, countValues -/
section
variable {f_frameAt f_frameLength f_frameSort f_frameFlags f_frameStream f_down f_entryCount f_most f_typeSeen f_lastSender f_sentLength : Int32} {a_payload a_life a_theyEnded a_weEnded a_finishing a_codes a_windowIn a_windowOut a_headers a_headerCount a_entries a_kinds a_repeats a_messageCount a_text a_nodeCount a_nodeTypes a_valueCount a_valueOwners a_values a_skippedCount a_reader a_chainNode a_chainEnd a_queue a_queueLength a_sent a_nodeSize a_nodePlace : Nat → Int32} {s a n L : Nat} {K : Nat → Nat} {R : Nat → Bool} {D : pm_D} {dep : Nat → Nat} {S : Nat → Nat}
theorem zx_bodies {post : Int32 → Prop} (hs : s < 8) (hK : cr_K a_kinds a_repeats K R) (hD : cr_XD K s a_nodeCount a_nodeTypes a_valueCount a_valueOwners a_values D) (I : pm_DI K L dep D) (hL : L ≤ 200) (hn : n ≤ 15) (ha : a < pm_nn D)
    (hS : ∀ m, a < m → m < pm_nn D → a_nodeSize m = nI (S m) ∧ S m < 2 ^ 31)
    (H : post (nI (sz_sm D a n (fun j => sz_l (K (sz_j D a n)) (pm_va D j) S) (pm_nv D)))) : wpX_sizeOfBodies post (f_frameAt, f_frameLength, f_frameSort, f_frameFlags, f_frameStream, f_down, f_entryCount, f_most, f_typeSeen, f_lastSender, f_sentLength, a_payload, a_life, a_theyEnded, a_weEnded, a_finishing, a_codes, a_windowIn, a_windowOut, a_headers, a_headerCount, a_entries, a_kinds, a_repeats, a_messageCount, a_text, a_nodeCount, a_nodeTypes, a_valueCount, a_valueOwners, a_values, a_skippedCount, a_reader, a_chainNode, a_chainEnd, a_queue, a_queueLength, a_sent, a_nodeSize, a_nodePlace) (nI s) (nI a) (nI n) := by
  have hnn := I.2.1
  have hty := (I.2.2.2.2.1 a ha).1
  have hj : 16 * pm_nt D a + n < 64 := by omega
  unfold wpX_sizeOfBodies
  refine xw_fo hs hD ha (by omega) ⟨vp_in_nI hj (by omega), nm_r (e' := nI (K (sz_j D a n)) + (-1)) (by rw [nI_clamp (by omega)]; exact hK.2.1 _ hj) ⟨pm_nv D + 1, ?_⟩⟩
  exact zx_b20 hs hD I hL hn ha hK.1 hS H (pm_nv D) 0 (by omega)
theorem zx_packed {post : Int32 → Prop} (hs : s < 8) (hK : cr_K a_kinds a_repeats K R) (hD : cr_XD K s a_nodeCount a_nodeTypes a_valueCount a_valueOwners a_values D) (I : pm_DI K L dep D) (hn : n ≤ 15) (ha : a < pm_nn D)
    (H1 : K (sz_j D a n) < 4 ∧ R (sz_j D a n) = true → post 1) (H0 : ¬ (K (sz_j D a n) < 4 ∧ R (sz_j D a n) = true) → post 0) : wpX_isPacked post (f_frameAt, f_frameLength, f_frameSort, f_frameFlags, f_frameStream, f_down, f_entryCount, f_most, f_typeSeen, f_lastSender, f_sentLength, a_payload, a_life, a_theyEnded, a_weEnded, a_finishing, a_codes, a_windowIn, a_windowOut, a_headers, a_headerCount, a_entries, a_kinds, a_repeats, a_messageCount, a_text, a_nodeCount, a_nodeTypes, a_valueCount, a_valueOwners, a_values, a_skippedCount, a_reader, a_chainNode, a_chainEnd, a_queue, a_queueLength, a_sent, a_nodeSize, a_nodePlace) (nI s) (nI a) (nI n) := by
  have hnn := I.2.1
  have hty := (I.2.2.2.2.1 a ha).1
  have hj : 16 * pm_nt D a + n < 64 := by omega
  have yk := yr_k _ (hK.1 (sz_j D a n))
  unfold wpX_isPacked
  refine xw_fo hs hD ha (by omega) ⟨vp_in_nI hj (by omega), ?_⟩
  have e : (nI (16 * pm_nt D a + n)).toNatClampNeg = sz_j D a n := nI_clamp (by omega)
  have hjj : sz_j D a n < 64 := hj
  rw [e, hK.2.2 _ hjj, hK.2.1 _ hjj]
  by_cases hr : R (sz_j D a n) = true
  · rw [if_pos hr]
    refine br_f (by decide) ⟨vp_in_nI hj (by omega), br_c (fun z => H0 (fun w => ?_)) (fun z => H1 ⟨?_, hr⟩)⟩
    · have := yk.2.2.2.1.mp z
      omega
    · rcases Nat.lt_or_ge (K (sz_j D a n)) 4 with w | w
      · exact w
      · exact absurd (yk.2.2.2.1.mpr w) z
  · rw [if_neg hr]
    exact br_t rfl (H0 (fun w => hr w.2))
theorem lo_c_sm (hb : ∀ j, j < pm_nv D → pm_vn D j < 16 ∧ pm_vm D j ≤ 15) (ha : a < 16) (hn : n ≤ 15) : ∀ i, i ≤ pm_nv D → lo_c D (nI a) (nI n) i = sz_sm D a n (fun _ => 1) i
  | 0, _ => rfl
  | i + 1, hi => by
    rw [lo_c, sz_sm, lo_c_sm hb ha hn i (by omega)]
    obtain ⟨b1, b2⟩ := hb i (by omega)
    by_cases z : pm_vn D i = a ∧ pm_vm D i = n
    · rw [if_pos z, if_pos ⟨by rw [z.1], by rw [z.2]⟩]
    · rw [if_neg z, if_neg (fun w => z ⟨(nI_eq (by omega) (by omega)).mp w.1, (nI_eq (by omega) (by omega)).mp w.2⟩)]
end
end
section
/-! Z7: the component's measure -/
section
variable {K : Nat → Nat} {R : Nat → Bool} {L : Nat} {dep : Nat → Nat} {D : pm_D} {a n : Nat} {S : Nat → Nat}
theorem sz_sm_add (h h' : Nat → Nat) : ∀ c, sz_sm D a n (fun j => h j + h' j) c = sz_sm D a n h c + sz_sm D a n h' c
  | 0 => rfl
  | c + 1 => by
    rw [sz_sm, sz_sm, sz_sm, sz_sm_add h h' c]
    split <;> omega
theorem sz_ns_1 {h : Nat → Nat} : ∀ m i, 1 ≤ i → i ≤ m → h i ≤ sz_ns h m
  | 0, i, h1, h2 => absurd h1 (by omega)
  | m + 1, i, h1, h2 => by
    rw [sz_ns]
    by_cases z : i = m + 1
    · subst z; omega
    · have := sz_ns_1 (h := h) m i h1 (by omega)
      omega
theorem sz_b_1 {k : Nat} {x : Int32} (h0 : k ≠ 0) (h4 : k < 4) : 1 ≤ sz_b k x S := by
  unfold sz_b
  split
  · exact (sz_w_le _).2
  split
  · exact (sz_w_le _).2
  split
  · omega
  · omega
theorem sz_l_1 {k : Nat} {x : Int32} (h0 : k ≠ 0) : 1 ≤ sz_l k x S := by
  unfold sz_l
  by_cases h : 3 < k
  · rw [if_pos h]
    have := (sz_w_le (sz_b k x S)).2
    omega
  · rw [if_neg h]
    have := sz_b_1 (x := x) (S := S) h0 (by omega)
    omega
theorem sz_l_s {k : Nat} {x : Int32} (h : k < 4) : sz_l k x S = sz_b k x S := by
  unfold sz_l; rw [if_neg (by omega)]; rfl
/-- the bodies of a field -/
def sz_bd (K : Nat → Nat) (D : pm_D) (S : Nat → Nat) (a n : Nat) : Nat := sz_sm D a n (fun j => sz_l (K (sz_j D a n)) (pm_va D j) S) (pm_nv D)
theorem sz_bd_r (h : K (sz_j D a n) < 4) : sz_bd K D S a n = sz_row K D S a n := sz_sm_g _ (fun j _ _ _ => sz_l_s h)
theorem sz_kk {j : Nat} (h1 : pm_vn D j = a) (h2 : pm_vm D j = n) : pm_kk K D j = K (sz_j D a n) := by
  unfold sz_j; simp only [pm_kk]; rw [h1, h2]
theorem sz_bd_f (I : pm_DI K L dep D) : sz_f K R D S a n = if sz_bd K D S a n = 0 then 0 else if K (sz_j D a n) < 4 ∧ R (sz_j D a n) = true then 1 + sz_w (sz_bd K D S a n) + sz_bd K D S a n else sz_sm D a n (fun _ => 1) (pm_nv D) + sz_bd K D S a n := by
  unfold sz_f
  by_cases p : K (sz_j D a n) < 4 ∧ R (sz_j D a n) = true
  · rw [if_pos p, if_pos p, sz_bd_r p.1]
  · rw [if_neg p, if_neg p, sz_sm_add]
    show _ + sz_bd K D S a n = _
    have hm : sz_sm D a n (fun _ => 1) (pm_nv D) ≤ sz_bd K D S a n := sz_sm_mono _ (fun j hj z1 z2 => by
      refine sz_l_1 ?_
      rw [← sz_kk (K := K) z1 z2]
      exact (I.2.2.2.2.2.1 j hj).2.2.2.1)
    split <;> omega
theorem sz_bd_le (I : pm_DI K L dep D) (hL : L ≤ 200) (ha : a < pm_nn D) (h1 : 1 ≤ n) (h2 : n ≤ 15) : sz_bd K D (sz_S K R D) a n ≤ sz_f K R D (sz_S K R D) a n ∧ sz_f K R D (sz_S K R D) a n < 2 ^ 31 := by
  have e := sz_S_e (R := R) I ha
  have e2 := sz_ns_1 (h := sz_f K R D (sz_S K R D) a) 15 n h1 h2
  have e3 := sz_S_le (R := R) I hL a
  have e4 : sz_n K R D (sz_S K R D) a = sz_ns (sz_f K R D (sz_S K R D) a) 15 := rfl
  refine ⟨?_, by omega⟩
  rw [sz_bd_f I]
  split
  · omega
  split <;> omega
variable {f_frameAt f_frameLength f_frameSort f_frameFlags f_frameStream f_down f_entryCount f_most f_typeSeen f_lastSender f_sentLength : Int32} {a_payload a_life a_theyEnded a_weEnded a_finishing a_codes a_windowIn a_windowOut a_headers a_headerCount a_entries a_kinds a_repeats a_messageCount a_text a_nodeCount a_nodeTypes a_valueCount a_valueOwners a_values a_skippedCount a_reader a_chainNode a_chainEnd a_queue a_queueLength a_sent a_nodeSize a_nodePlace : Nat → Int32} {s : Nat}
theorem zx_bd {post : Int32 → Prop} (hs : s < 8) (hK : cr_K a_kinds a_repeats K R) (hD : cr_XD K s a_nodeCount a_nodeTypes a_valueCount a_valueOwners a_values D) (I : pm_DI K L dep D) (hL : L ≤ 200) (hn : n ≤ 15) (ha : a < pm_nn D)
    (hS : ∀ m, a < m → m < pm_nn D → a_nodeSize m = nI (sz_S K R D m)) (H : post (nI (sz_bd K D (sz_S K R D) a n))) : wpX_sizeOfBodies post (f_frameAt, f_frameLength, f_frameSort, f_frameFlags, f_frameStream, f_down, f_entryCount, f_most, f_typeSeen, f_lastSender, f_sentLength, a_payload, a_life, a_theyEnded, a_weEnded, a_finishing, a_codes, a_windowIn, a_windowOut, a_headers, a_headerCount, a_entries, a_kinds, a_repeats, a_messageCount, a_text, a_nodeCount, a_nodeTypes, a_valueCount, a_valueOwners, a_values, a_skippedCount, a_reader, a_chainNode, a_chainEnd, a_queue, a_queueLength, a_sent, a_nodeSize, a_nodePlace) (nI s) (nI a) (nI n) :=
  zx_bodies hs hK hD I hL hn ha (fun m g1 g2 => ⟨hS m g1 g2, by have := sz_S_le (R := R) I hL m; omega⟩) H
theorem zx_field {post : Int32 → Prop} (hs : s < 8) (hK : cr_K a_kinds a_repeats K R) (hD : cr_XD K s a_nodeCount a_nodeTypes a_valueCount a_valueOwners a_values D) (I : pm_DI K L dep D) (hL : L ≤ 200) (h1 : 1 ≤ n) (hn : n ≤ 15) (ha : a < pm_nn D)
    (hS : ∀ m, a < m → m < pm_nn D → a_nodeSize m = nI (sz_S K R D m))
    (H : post (nI (sz_f K R D (sz_S K R D) a n))) : wpX_sizeOfField post (f_frameAt, f_frameLength, f_frameSort, f_frameFlags, f_frameStream, f_down, f_entryCount, f_most, f_typeSeen, f_lastSender, f_sentLength, a_payload, a_life, a_theyEnded, a_weEnded, a_finishing, a_codes, a_windowIn, a_windowOut, a_headers, a_headerCount, a_entries, a_kinds, a_repeats, a_messageCount, a_text, a_nodeCount, a_nodeTypes, a_valueCount, a_valueOwners, a_values, a_skippedCount, a_reader, a_chainNode, a_chainEnd, a_queue, a_queueLength, a_sent, a_nodeSize, a_nodePlace) (nI s) (nI a) (nI n) := by
  have hnn := I.2.1
  have hnv := I.2.2.1
  obtain ⟨b1, b2⟩ := sz_bd_le (R := R) I hL ha h1 hn
  rw [sz_bd_f I] at H
  unfold wpX_sizeOfField
  refine zx_bd (R := R) hs hK hD I hL hn ha hS ?_
  refine pk_eq (sz_bd K D (sz_S K R D) a n) 0 (fun z => ?_) (fun z => ?_)
  · rw [if_pos z] at H; exact H
  · rw [if_neg z] at H
    refine zx_packed hs hK hD I hn ha (fun p => br_f (by decide) ?_) (fun p => br_t rfl ?_)
    · rw [if_pos p] at H
      rw [nI_l (by omega)]
      refine zx_size (by omega) ?_
      rw [show (1 : Int32) = nI 1 from rfl, nI_add, nI_add]
      exact H
    · rw [if_neg p] at H
      unfold wpX_countValues
      refine ⟨pm_nv D + 1, lo_cnt hs hD hnv hn (by omega) (xr_DB I) ?_ (pm_nv D) 0 (by omega)⟩
      rw [lo_c_sm (xr_DB I) (by omega) hn _ (Nat.le_refl _), nI_add]
      exact H
theorem zx_m22 {post : Int32 → SX → Prop} {J : Int32 → (Nat → Int32) → (Nat → Int32) → (Nat → Int32) → (Nat → Int32) → (Nat → Int32) → (Nat → Int32) → (Nat → Int32) → (Nat → Int32) → (Nat → Int32) → (Nat → Int32) → (Nat → Int32) → (Nat → Int32) → (Nat → Int32) → (Nat → Int32) → (Nat → Int32) → (Nat → Int32) → (Nat → Int32) → (Nat → Int32) → (Nat → Int32) → (Nat → Int32) → (Nat → Int32) → (Nat → Int32) → (Nat → Int32) → (Nat → Int32) → (Nat → Int32) → (Nat → Int32) → (Nat → Int32) → (Nat → Int32) → (Nat → Int32) → Prop} (hs : s < 8) (hK : cr_K a_kinds a_repeats K R) (hD : cr_XD K s a_nodeCount a_nodeTypes a_valueCount a_valueOwners a_values D) (I : pm_DI K L dep D) (hL : L ≤ 200) (ha : a < pm_nn D)
    (H : ∀ ns : Nat → Int32, (∀ m, a ≤ m → m < pm_nn D → ns m = nI (sz_S K R D m)) → J (nI a + (-1)) a_payload a_life a_theyEnded a_weEnded a_finishing a_codes a_windowIn a_windowOut a_headers a_headerCount a_entries a_kinds a_repeats a_messageCount a_text a_nodeCount a_nodeTypes a_valueCount a_valueOwners a_values a_skippedCount a_reader a_chainNode a_chainEnd a_queue a_queueLength a_sent (ns) a_nodePlace) : ∀ f j ns, j + f = 15 → (∀ m, a < m → m < pm_nn D → ns m = nI (sz_S K R D m)) → ns a = nI (sz_ns (sz_f K R D (sz_S K R D) a) j) →
    wX_measure_22 post J (nI s) (nI a) f_frameAt f_frameLength f_frameSort f_frameFlags f_frameStream f_down f_entryCount f_most f_typeSeen f_lastSender f_sentLength (f + 1) (nI (j + 1)) a_payload a_life a_theyEnded a_weEnded a_finishing a_codes a_windowIn a_windowOut a_headers a_headerCount a_entries a_kinds a_repeats a_messageCount a_text a_nodeCount a_nodeTypes a_valueCount a_valueOwners a_values a_skippedCount a_reader a_chainNode a_chainEnd a_queue a_queueLength a_sent (ns) a_nodePlace
  | 0, j, ns, hj, h1, h2 => by
    have : j = 15 := by omega
    subst this
    rw [wX_measure_22]
    refine pk_le 16 16 (fun _ => nm_r rfl (H ns (fun m g1 g2 => ?_))) (fun g => absurd g (by omega))
    by_cases z : m = a
    · subst z
      rw [h2, sz_S_e (R := R) I ha]; rfl
    · exact h1 m (by omega) g2
  | f + 1, j, ns, hj, h1, h2 => by
    have hnn := I.2.1
    rw [wX_measure_22]
    have in16 : vp_in (nI a) 16 := vp_in_nI (by omega) (by omega)
    have cl : (nI a).toNatClampNeg = a := nI_clamp (by omega)
    refine pk_le 16 (j + 1) (fun g => absurd g (by omega)) (fun g => ⟨in16, zx_field hs hK hD I hL (by omega) (by omega) ha h1 ⟨in16, nm_r rfl (nm_r (nI_1 _) ?_)⟩⟩)
    refine zx_m22 hs hK hD I hL ha H f (j + 1) _ (by omega) (fun m g1 g2 => ?_) ?_
    · rw [cl, pk_un (by omega)]; exact h1 m g1 g2
    · rw [cl, pk_us, h2, nI_add]; rfl
theorem zx_m9 {post : Int32 → SX → Prop} (hs : s < 8) (hK : cr_K a_kinds a_repeats K R) (hD : cr_XD K s a_nodeCount a_nodeTypes a_valueCount a_valueOwners a_values D) (I : pm_DI K L dep D) (hL : L ≤ 200)
    (H : ∀ ns : Nat → Int32, (∀ m, m < pm_nn D → ns m = nI (sz_S K R D m)) → post (nI (sz_S K R D 0)) (f_frameAt, f_frameLength, f_frameSort, f_frameFlags, f_frameStream, f_down, f_entryCount, f_most, f_typeSeen, f_lastSender, f_sentLength, a_payload, a_life, a_theyEnded, a_weEnded, a_finishing, a_codes, a_windowIn, a_windowOut, a_headers, a_headerCount, a_entries, a_kinds, a_repeats, a_messageCount, a_text, a_nodeCount, a_nodeTypes, a_valueCount, a_valueOwners, a_values, a_skippedCount, a_reader, a_chainNode, a_chainEnd, a_queue, a_queueLength, a_sent, ns, a_nodePlace)) : ∀ b ns, b ≤ pm_nn D → (∀ m, b ≤ m → m < pm_nn D → ns m = nI (sz_S K R D m)) →
    wX_measure_9 post (nI s) f_frameAt f_frameLength f_frameSort f_frameFlags f_frameStream f_down f_entryCount f_most f_typeSeen f_lastSender f_sentLength (b + 1) (nI b + (-1)) a_payload a_life a_theyEnded a_weEnded a_finishing a_codes a_windowIn a_windowOut a_headers a_headerCount a_entries a_kinds a_repeats a_messageCount a_text a_nodeCount a_nodeTypes a_valueCount a_valueOwners a_values a_skippedCount a_reader a_chainNode a_chainEnd a_queue a_queueLength a_sent (ns) a_nodePlace
  | 0, ns, hb, h1 => by
    rw [wX_measure_9]
    have h0 := I.1
    have e := h1 0 (by omega) (by omega)
    have := H ns (fun m hm => h1 m (by omega) hm)
    rw [← e] at this
    exact br_t (by decide) this
  | b + 1, ns, hb, h1 => by
    have hnn := I.2.1
    rw [wX_measure_9, pk_m1]
    refine br_f (nI_pos (by omega)) ⟨vp_in_nI (by omega) (by omega), nm_r rfl ⟨16, ?_⟩⟩
    have cl : (nI b).toNatClampNeg = b := nI_clamp (by omega)
    refine zx_m22 hs hK hD I hL (by omega) (fun ns' h' => zx_m9 hs hK hD I hL H b ns' (by omega) h') 15 0 _ rfl (fun m g1 g2 => ?_) ?_
    · rw [cl, pk_un (by omega)]; exact h1 m (by omega) g2
    · rw [cl, pk_us]; rfl
theorem zx_measure {post : Int32 → SX → Prop} (hs : s < 8) (hK : cr_K a_kinds a_repeats K R) (hD : cr_XD K s a_nodeCount a_nodeTypes a_valueCount a_valueOwners a_values D) (I : pm_DI K L dep D) (hL : L ≤ 200)
    (H : ∀ ns : Nat → Int32, (∀ m, m < pm_nn D → ns m = nI (sz_S K R D m)) → post (nI (sz_S K R D 0)) (f_frameAt, f_frameLength, f_frameSort, f_frameFlags, f_frameStream, f_down, f_entryCount, f_most, f_typeSeen, f_lastSender, f_sentLength, a_payload, a_life, a_theyEnded, a_weEnded, a_finishing, a_codes, a_windowIn, a_windowOut, a_headers, a_headerCount, a_entries, a_kinds, a_repeats, a_messageCount, a_text, a_nodeCount, a_nodeTypes, a_valueCount, a_valueOwners, a_values, a_skippedCount, a_reader, a_chainNode, a_chainEnd, a_queue, a_queueLength, a_sent, ns, a_nodePlace)) : wpX_measure post (f_frameAt, f_frameLength, f_frameSort, f_frameFlags, f_frameStream, f_down, f_entryCount, f_most, f_typeSeen, f_lastSender, f_sentLength, a_payload, a_life, a_theyEnded, a_weEnded, a_finishing, a_codes, a_windowIn, a_windowOut, a_headers, a_headerCount, a_entries, a_kinds, a_repeats, a_messageCount, a_text, a_nodeCount, a_nodeTypes, a_valueCount, a_valueOwners, a_values, a_skippedCount, a_reader, a_chainNode, a_chainEnd, a_queue, a_queueLength, a_sent, a_nodeSize, a_nodePlace) (nI s) := by
  unfold wpX_measure
  refine ⟨(xr_c8 hs).1, nm_r (e' := nI (pm_nn D) + (-1)) (by rw [(xr_c8 hs).2, hD.1, Int32.sub_eq_add_neg]) ⟨pm_nn D + 1, ?_⟩⟩
  exact zx_m9 hs hK hD I hL H (pm_nn D) _ (Nat.le_refl _) (fun m g1 g2 => absurd g1 (by omega))
end
end
section
/-! Z8: the reference's measure -/
section
theorem zy_k2 : ∀ k, k ≤ 8 → (nI k + (-1) ≤ 2 ↔ k ≤ 3) := by decide +kernel
variable {K : Nat → Nat} {R : Nat → Bool} {L : Nat} {dep : Nat → Nat} {D : pm_D} {a n : Nat} {S : Nat → Nat}
theorem sz_sm_1 {h : Nat → Nat} : ∀ c j, j < c → pm_vn D j = a → pm_vm D j = n → h j ≤ sz_sm D a n h c
  | 0, j, hj, _, _ => absurd hj (by omega)
  | c + 1, j, hj, z1, z2 => by
    rw [sz_sm]
    by_cases z : j = c
    · subst z
      rw [if_pos ⟨z1, z2⟩]; omega
    · have := sz_sm_1 (h := h) c j (by omega) z1 z2
      omega
theorem sz_sm_0 {h : Nat → Nat} : ∀ c, (∀ j, j < c → ¬ (pm_vn D j = a ∧ pm_vm D j = n)) → sz_sm D a n h c = 0
  | 0, _ => rfl
  | c + 1, H => by
    rw [sz_sm, if_neg (H c (by omega)), sz_sm_0 c (fun j hj => H j (by omega))]
theorem pm_ix_s (h : pm_ix D a n < pm_nv D) : pm_vn D (pm_ix D a n) = a ∧ pm_vm D (pm_ix D a n) = n :=
  (pm_fi_s (vn := pm_vn D) (vm := pm_vm D) (a := a) (n := n) (pm_nv D) 0).2.2.1 (by unfold pm_ix at h; omega)
theorem pm_ix_n (h : ¬ pm_ix D a n < pm_nv D) : ∀ j, j < pm_nv D → ¬ (pm_vn D j = a ∧ pm_vm D j = n) :=
  fun j hj => (pm_fi_s (vn := pm_vn D) (vm := pm_vm D) (a := a) (n := n) (pm_nv D) 0).2.2.2 j (by omega) (by unfold pm_ix at h; omega)
theorem sz_w1 {x : Nat} (h : x < 128) : sz_w x = 1 := by
  unfold sz_w
  rw [sz_wd, if_pos (by omega)]
variable {yf_down yf_heads yf_paid yf_payload yf_wants yf_name yf_first yf_counts yf_enters yf_most yf_many yf_sent yf_last yf_nodes yf_values yf_skipped yf_pos yf_there yf_number yf_at : Int32} {ya_kind ya_repeated ya_how ya_code ya_coming ya_going ya_type ya_headers ya_header ya_queued ya_otherEnded ya_ended ya_finishing ya_queue ya_prefix ya_length ya_got ya_high ya_whole ya_has ya_bytes ya_frame ya_payloads ya_table ya_out ya_nodeType ya_valueNode ya_valueNumber ya_value ya_from ya_limit ya_inside ya_sizes : Nat → Int32}
theorem zy_v {post : Int32 → Prop} {j : Nat} (hK8 : ∀ j, K j ≤ 8) (hD : yr_D D ya_nodeType ya_valueNode ya_valueNumber ya_value ya_from) (I : pm_DI K L dep D) (hL : L ≤ 200) (hj : j < pm_nv D) (e1 : pm_vn D j = a) (e2 : pm_vm D j = n)
    (hS : ∀ m, a < m → m < pm_nn D → ya_sizes m = nI (S m)) (H : post (nI (sz_b (K (sz_j D a n)) (pm_va D j) S))) : wpY_widthOf post (yf_down, yf_heads, yf_paid, yf_payload, yf_wants, yf_name, yf_first, yf_counts, yf_enters, yf_most, yf_many, yf_sent, yf_last, yf_nodes, yf_values, yf_skipped, yf_pos, yf_there, yf_number, yf_at, ya_kind, ya_repeated, ya_how, ya_code, ya_coming, ya_going, ya_type, ya_headers, ya_header, ya_queued, ya_otherEnded, ya_ended, ya_finishing, ya_queue, ya_prefix, ya_length, ya_got, ya_high, ya_whole, ya_has, ya_bytes, ya_frame, ya_payloads, ya_table, ya_out, ya_nodeType, ya_valueNode, ya_valueNumber, ya_value, ya_from, ya_limit, ya_inside, ya_sizes) (nI (K (sz_j D a n)) + (-1)) (nI j) := by
  have hnv := I.2.2.1
  have hnn := I.2.1
  obtain ⟨v1, v2, v3, v4, v5, v6⟩ := I.2.2.2.2.2.1 j hj
  rw [sz_kk e1 e2] at v4 v5 v6
  obtain ⟨_, _, w3, _⟩ := hD.2 j hj
  refine zy_of (S := S) (by omega) (hK8 _) v4 (fun z => ?_) (fun z => ?_) (by rw [w3]; exact H)
  · obtain ⟨m, m1, m2⟩ := v5 z
    exact ⟨m, by omega, by rw [w3, m1]⟩
  · obtain ⟨m, m1, m2, m3, m4⟩ := v6 z
    exact ⟨m, by omega, by rw [w3, m1], hS m (by omega) m3⟩
theorem zy_r6 {post : Int32 → Prop} (hK8 : ∀ j, K j ≤ 8) (hD : yr_D D ya_nodeType ya_valueNode ya_valueNumber ya_value ya_from) (I : pm_DI K L dep D) (hL : L ≤ 200) (ha : a < 16) (hn : n ≤ 15)
    (hS : ∀ m, a < m → m < pm_nn D → ya_sizes m = nI (S m)) (H : post (nI (sz_row K D S a n))) : ∀ f i, i + f = pm_nv D →
    wY_rowWidth_6 post (nI a) (nI n) (nI (K (sz_j D a n)) + (-1)) yf_down yf_heads yf_paid yf_payload yf_wants yf_name yf_first yf_counts yf_enters yf_most yf_many yf_sent yf_last yf_nodes (nI (pm_nv D)) yf_skipped yf_pos yf_there yf_number yf_at ya_kind ya_repeated ya_how ya_code ya_coming ya_going ya_type ya_headers ya_header ya_queued ya_otherEnded ya_ended ya_finishing ya_queue ya_prefix ya_length ya_got ya_high ya_whole ya_has ya_bytes ya_frame ya_payloads ya_table ya_out ya_nodeType ya_valueNode ya_valueNumber ya_value ya_from ya_limit ya_inside ya_sizes (f + 1) (nI (sz_sm D a n (fun j => sz_b (K (sz_j D a n)) (pm_va D j) S) i)) (nI i)
  | 0, i, hi => by
    have hnv := I.2.2.1
    have : i = pm_nv D := by omega
    subst this
    rw [wY_rowWidth_6]
    exact pk_le (pm_nv D) (pm_nv D) (fun _ => H) (fun g => absurd g (by omega))
  | f + 1, i, hi => by
    have hnv := I.2.2.1
    have hnn := I.2.1
    rw [wY_rowWidth_6]
    have in48 : vp_in (nI i) 48 := vp_in_nI (by omega) (by omega)
    have cl : (nI i).toNatClampNeg = i := nI_clamp (by omega)
    refine pk_le (pm_nv D) i (fun g => absurd g (by omega)) (fun g => ⟨in48, ?_⟩)
    obtain ⟨b1, b2⟩ := xr_DB I i g
    have ih := zy_r6 hK8 hD I hL ha hn hS H f (i + 1) (by omega)
    rw [sz_sm] at ih
    rw [cl, (hD.2 i g).1, (hD.2 i g).2.1]
    refine pk_eq (pm_vn D i) a (fun z1 => ⟨in48, pk_eq (pm_vm D i) n (fun z2 => ?_) (fun z2 => ?_)⟩) (fun z1 => ?_)
    · rw [if_pos ⟨z1, z2⟩] at ih
      exact zy_v hK8 hD I hL g z1 z2 hS (nm_r (nI_add _ _) (nm_r (nI_1 _) ih))
    · rw [if_neg (fun z => z2 z.2), Nat.add_zero] at ih
      exact nm_r (nI_1 _) ih
    · rw [if_neg (fun z => z1 z.1), Nat.add_zero] at ih
      exact nm_r (nI_1 _) ih
theorem zy_row {post : Int32 → Prop} (hK8 : ∀ j, K j ≤ 8) (hD : yr_D D ya_nodeType ya_valueNode ya_valueNumber ya_value ya_from) (I : pm_DI K L dep D) (hL : L ≤ 200) (ha : a < 16) (hn : n ≤ 15)
    (hS : ∀ m, a < m → m < pm_nn D → ya_sizes m = nI (S m)) (H : post (nI (sz_row K D S a n))) : wpY_rowWidth post (yf_down, yf_heads, yf_paid, yf_payload, yf_wants, yf_name, yf_first, yf_counts, yf_enters, yf_most, yf_many, yf_sent, yf_last, yf_nodes, nI (pm_nv D), yf_skipped, yf_pos, yf_there, yf_number, yf_at, ya_kind, ya_repeated, ya_how, ya_code, ya_coming, ya_going, ya_type, ya_headers, ya_header, ya_queued, ya_otherEnded, ya_ended, ya_finishing, ya_queue, ya_prefix, ya_length, ya_got, ya_high, ya_whole, ya_has, ya_bytes, ya_frame, ya_payloads, ya_table, ya_out, ya_nodeType, ya_valueNode, ya_valueNumber, ya_value, ya_from, ya_limit, ya_inside, ya_sizes) (nI a) (nI n) (nI (K (sz_j D a n)) + (-1)) := by
  unfold wpY_rowWidth
  exact ⟨pm_nv D + 1, zy_r6 hK8 hD I hL ha hn hS H (pm_nv D) 0 (by omega)⟩
theorem zy_w {post : Int32 → Prop} {x : Nat} (hx : x < 2 ^ 32) (H : post (nI (sz_w x))) : wpY_width post (nI x) := zy_width (by rw [pk_tn hx]; exact H)
theorem zy_w8 {post : Int32 → Prop} (hn : n ≤ 15) (H : post 1) : wpY_width post (8 * nI n) := by
  rw [show (8 : Int32) = nI 8 from rfl, pk_mul]
  refine zy_w (by omega) ?_
  rw [sz_w1 (by omega)]; exact H
theorem zy_120e {post : SY → Prop} {J7 : Int32 → (Nat → Int32) → (Nat → Int32) → (Nat → Int32) → (Nat → Int32) → (Nat → Int32) → (Nat → Int32) → (Nat → Int32) → (Nat → Int32) → (Nat → Int32) → (Nat → Int32) → (Nat → Int32) → (Nat → Int32) → (Nat → Int32) → (Nat → Int32) → (Nat → Int32) → (Nat → Int32) → (Nat → Int32) → (Nat → Int32) → (Nat → Int32) → (Nat → Int32) → (Nat → Int32) → (Nat → Int32) → (Nat → Int32) → (Nat → Int32) → (Nat → Int32) → (Nat → Int32) → (Nat → Int32) → (Nat → Int32) → (Nat → Int32) → (Nat → Int32) → (Nat → Int32) → (Nat → Int32) → (Nat → Int32) → Prop} {J : Int32 → Int32 → Prop} {x1 x2 x4 x6 : Int32} (h6 : ¬ x6 = 0) (H : J x2 (nI (n + 1))) :
    wY_measure_120 post J7 J x1 (nI n) x4 x6 yf_down yf_heads yf_paid yf_payload yf_wants yf_name yf_first yf_counts yf_enters yf_most yf_many yf_sent yf_last yf_nodes yf_values yf_skipped yf_pos yf_there yf_number yf_at ya_kind ya_repeated ya_how ya_code ya_coming ya_going ya_type ya_headers ya_header ya_queued ya_otherEnded ya_ended ya_finishing ya_queue ya_prefix ya_length ya_got ya_high ya_whole ya_has ya_bytes ya_frame ya_payloads ya_table ya_out ya_nodeType ya_valueNode ya_valueNumber ya_value ya_from ya_limit ya_inside ya_sizes 1 x2 0 := by
  rw [wY_measure_120]
  exact br_c (fun _ => nm_r (nI_1 _) H) (fun _ => br_f h6 (nm_r (nI_1 _) H))
theorem zy_120 {post : SY → Prop} {J7 : Int32 → (Nat → Int32) → (Nat → Int32) → (Nat → Int32) → (Nat → Int32) → (Nat → Int32) → (Nat → Int32) → (Nat → Int32) → (Nat → Int32) → (Nat → Int32) → (Nat → Int32) → (Nat → Int32) → (Nat → Int32) → (Nat → Int32) → (Nat → Int32) → (Nat → Int32) → (Nat → Int32) → (Nat → Int32) → (Nat → Int32) → (Nat → Int32) → (Nat → Int32) → (Nat → Int32) → (Nat → Int32) → (Nat → Int32) → (Nat → Int32) → (Nat → Int32) → (Nat → Int32) → (Nat → Int32) → (Nat → Int32) → (Nat → Int32) → (Nat → Int32) → (Nat → Int32) → (Nat → Int32) → (Nat → Int32) → Prop} {J : Int32 → Int32 → Prop} {w : Nat} (hK : cr_K ya_kind ya_repeated K R) (hD : yr_D D ya_nodeType ya_valueNode ya_valueNumber ya_value ya_from) (I : pm_DI K L dep D) (hL : L ≤ 200) (ha : a < pm_nn D) (h1 : 1 ≤ n) (hn : n ≤ 15)
    (hp : ¬ (K (sz_j D a n) < 4 ∧ R (sz_j D a n) = true))
    (hS : ∀ m, a < m → m < pm_nn D → ya_sizes m = nI (sz_S K R D m)) (H : J (nI (w + sz_f K R D (sz_S K R D) a n)) (nI (n + 1))) : ∀ f i, i + f = pm_nv D →
    wY_measure_120 post J7 J (nI a) (nI n) (nI (sz_j D a n)) 0 yf_down yf_heads yf_paid yf_payload yf_wants yf_name yf_first yf_counts yf_enters yf_most yf_many yf_sent yf_last yf_nodes (nI (pm_nv D)) yf_skipped yf_pos yf_there yf_number yf_at ya_kind ya_repeated ya_how ya_code ya_coming ya_going ya_type ya_headers ya_header ya_queued ya_otherEnded ya_ended ya_finishing ya_queue ya_prefix ya_length ya_got ya_high ya_whole ya_has ya_bytes ya_frame ya_payloads ya_table ya_out ya_nodeType ya_valueNode ya_valueNumber ya_value ya_from ya_limit ya_inside ya_sizes (f + 1) (nI (w + sz_sm D a n (fun j => 1 + sz_l (K (sz_j D a n)) (pm_va D j) (sz_S K R D)) i)) (nI i)
  | 0, i, hi => by
    have hnv := I.2.2.1
    have : i = pm_nv D := by omega
    subst this
    rw [wY_measure_120]
    unfold sz_f at H
    rw [if_neg hp] at H
    exact pk_le (pm_nv D) (pm_nv D) (fun _ => nm_r (nI_1 _) H) (fun g => absurd g (by omega))
  | f + 1, i, hi => by
    have hnv := I.2.2.1
    have hnn := I.2.1
    have hty := (I.2.2.2.2.1 a ha).1
    have hj : sz_j D a n < 64 := by unfold sz_j; omega
    rw [wY_measure_120]
    have in48 : vp_in (nI i) 48 := vp_in_nI (by omega) (by omega)
    have in64 : vp_in (nI (sz_j D a n)) 64 := vp_in_nI hj (by omega)
    have cl : (nI i).toNatClampNeg = i := nI_clamp (by omega)
    have cj : (nI (sz_j D a n)).toNatClampNeg = sz_j D a n := nI_clamp (by omega)
    refine pk_le (pm_nv D) i (fun g => absurd g (by omega)) (fun g => br_t rfl ⟨in48, ?_⟩)
    obtain ⟨b1, b2⟩ := xr_DB I i g
    have ih := zy_120 (post := post) (J7 := J7) hK hD I hL ha h1 hn hp hS H f (i + 1) (by omega)
    rw [sz_sm] at ih
    rw [cl, (hD.2 i g).1, (hD.2 i g).2.1, cj, hK.2.1 _ hj]
    refine pk_eq (pm_vn D i) a (fun z1 => ⟨in48, pk_eq (pm_vm D i) n (fun z2 => ⟨in64, ?_⟩) (fun z2 => ?_)⟩) (fun z1 => ?_)
    · rw [if_pos ⟨z1, z2⟩] at ih
      have hb : sz_b (K (sz_j D a n)) (pm_va D i) (sz_S K R D) < 2 ^ 31 := by
        have q1 := (sz_bd_le (R := R) I hL ha h1 hn).2
        unfold sz_f at q1
        rw [if_neg hp] at q1
        have q2 := sz_sm_1 (h := fun j => 1 + sz_l (K (sz_j D a n)) (pm_va D j) (sz_S K R D)) (pm_nv D) i g z1 z2
        have q3 : sz_b (K (sz_j D a n)) (pm_va D i) (sz_S K R D) ≤ sz_l (K (sz_j D a n)) (pm_va D i) (sz_S K R D) := by unfold sz_l; omega
        have q4 : 1 + sz_l (K (sz_j D a n)) (pm_va D i) (sz_S K R D) ≤ sz_sm D a n (fun j => 1 + sz_l (K (sz_j D a n)) (pm_va D j) (sz_S K R D)) (pm_nv D) := q2
        omega
      refine zy_v hK.1 hD I hL g z1 z2 hS (zy_w8 hn ⟨in64, br_c (fun z3 => ?_) (fun z3 => zy_w (by omega) ?_)⟩)
      · have k3 := (zy_k2 _ (hK.1 (sz_j D a n))).mp z3
        have el : sz_l (K (sz_j D a n)) (pm_va D i) (sz_S K R D) = sz_b (K (sz_j D a n)) (pm_va D i) (sz_S K R D) := sz_l_s (by omega)
        rw [el] at ih
        refine nm_r ?_ (nm_r (nI_1 _) ih)
        rw [show (0 : Int32) = nI 0 from rfl, show (1 : Int32) = nI 1 from rfl, nI_add, nI_add, nI_add]
        exact congrArg nI (by omega)
      · have k3 : 3 < K (sz_j D a n) := by
          rcases Nat.lt_or_ge 3 (K (sz_j D a n)) with q | q
          · exact q
          · exact absurd ((zy_k2 _ (hK.1 (sz_j D a n))).mpr q) z3
        have el : sz_l (K (sz_j D a n)) (pm_va D i) (sz_S K R D) = sz_b (K (sz_j D a n)) (pm_va D i) (sz_S K R D) + sz_w (sz_b (K (sz_j D a n)) (pm_va D i) (sz_S K R D)) := by
          unfold sz_l; rw [if_pos k3]
        rw [el] at ih
        refine nm_r ?_ (nm_r (nI_1 _) ih)
        rw [show (1 : Int32) = nI 1 from rfl, nI_add, nI_add, nI_add]
        exact congrArg nI (by omega)
    · rw [if_neg (fun z => z2 z.2), Nat.add_zero] at ih
      exact nm_r (nI_1 _) ih
    · rw [if_neg (fun z => z1 z.1), Nat.add_zero] at ih
      exact nm_r (nI_1 _) ih
theorem zy_15 {post : SY → Prop} {J7 : Int32 → (Nat → Int32) → (Nat → Int32) → (Nat → Int32) → (Nat → Int32) → (Nat → Int32) → (Nat → Int32) → (Nat → Int32) → (Nat → Int32) → (Nat → Int32) → (Nat → Int32) → (Nat → Int32) → (Nat → Int32) → (Nat → Int32) → (Nat → Int32) → (Nat → Int32) → (Nat → Int32) → (Nat → Int32) → (Nat → Int32) → (Nat → Int32) → (Nat → Int32) → (Nat → Int32) → (Nat → Int32) → (Nat → Int32) → (Nat → Int32) → (Nat → Int32) → (Nat → Int32) → (Nat → Int32) → (Nat → Int32) → (Nat → Int32) → (Nat → Int32) → (Nat → Int32) → (Nat → Int32) → (Nat → Int32) → Prop} (hK : cr_K ya_kind ya_repeated K R) (hD : yr_D D ya_nodeType ya_valueNode ya_valueNumber ya_value ya_from) (I : pm_DI K L dep D) (hL : L ≤ 200) (ha : a < pm_nn D)
    (hS : ∀ m, a < m → m < pm_nn D → ya_sizes m = nI (sz_S K R D m))
    (H : ∀ ns : Nat → Int32, (∀ m, a ≤ m → m < pm_nn D → ns m = nI (sz_S K R D m)) → J7 (nI a + (-1)) ya_kind ya_repeated ya_how ya_code ya_coming ya_going ya_type ya_headers ya_header ya_queued ya_otherEnded ya_ended ya_finishing ya_queue ya_prefix ya_length ya_got ya_high ya_whole ya_has ya_bytes ya_frame ya_payloads ya_table ya_out ya_nodeType ya_valueNode ya_valueNumber ya_value ya_from ya_limit ya_inside (ns)) : ∀ f j, j + f = 15 →
    wY_measure_15 post J7 (nI a) yf_down yf_heads yf_paid yf_payload yf_wants yf_name yf_first yf_counts yf_enters yf_most yf_many yf_sent yf_last yf_nodes (nI (pm_nv D)) yf_skipped yf_pos yf_there yf_number yf_at ya_kind ya_repeated ya_how ya_code ya_coming ya_going ya_type ya_headers ya_header ya_queued ya_otherEnded ya_ended ya_finishing ya_queue ya_prefix ya_length ya_got ya_high ya_whole ya_has ya_bytes ya_frame ya_payloads ya_table ya_out ya_nodeType ya_valueNode ya_valueNumber ya_value ya_from ya_limit ya_inside ya_sizes (f + 1) (nI (sz_ns (sz_f K R D (sz_S K R D) a) j)) (nI (j + 1))
  | 0, j, hj => by
    have hnn := I.2.1
    have : j = 15 := by omega
    subst this
    rw [wY_measure_15]
    refine pk_le 16 16 (fun _ => ⟨vp_in_nI (by omega) (by omega), nm_r rfl (nm_r rfl (H _ (fun m g1 g2 => ?_)))⟩) (fun g => absurd g (by omega))
    rw [nI_clamp (by omega)]
    by_cases z : m = a
    · subst z
      rw [pk_us, sz_S_e (R := R) I ha]; rfl
    · rw [pk_un z]; exact hS m (by omega) g2
  | f + 1, j, hj => by
    have hnn := I.2.1
    have hnv := I.2.2.1
    have hty := (I.2.2.2.2.1 a ha).1
    have hj64 : sz_j D a (j + 1) < 64 := by unfold sz_j; omega
    have in64 : vp_in (nI (sz_j D a (j + 1))) 64 := vp_in_nI hj64 (by omega)
    have cj : (nI (sz_j D a (j + 1))).toNatClampNeg = sz_j D a (j + 1) := nI_clamp (by omega)
    have ih := zy_15 (post := post) hK hD I hL ha hS H f (j + 1) (by omega)
    rw [sz_ns] at ih
    rw [wY_measure_15]
    refine pk_le 16 (j + 1) (fun g => absurd g (by omega)) (fun g => ⟨vp_in_nI (by omega) (by omega), nm_r (e' := nI (sz_j D a (j + 1))) ?_ ?_⟩)
    · rw [nI_clamp (by omega), hD.1 a ha, show (16 : Int32) = nI 16 from rfl, pk_mul, nI_add]; rfl
    refine yr_find hD hnv (fun i hi => by have := xr_DB I i hi; omega) (by omega) (by omega) ?_
    by_cases hx : pm_ix D a (j + 1) < pm_nv D
    · rw [if_pos hx]
      refine br_t (nI_pos' (by omega)) ⟨in64, ?_⟩
      rw [cj, hK.2.1 _ hj64, hK.2.2 _ hj64]
      have hw : ∀ (p : ¬ (K (sz_j D a (j + 1)) < 4 ∧ R (sz_j D a (j + 1)) = true)), wY_measure_75 post J7 (wY_measure_15 post J7 (nI a) yf_down yf_heads yf_paid yf_payload yf_wants yf_name yf_first yf_counts yf_enters yf_most yf_many yf_sent yf_last yf_nodes (nI (pm_nv D)) yf_skipped yf_pos yf_there yf_number yf_at ya_kind ya_repeated ya_how ya_code ya_coming ya_going ya_type ya_headers ya_header ya_queued ya_otherEnded ya_ended ya_finishing ya_queue ya_prefix ya_length ya_got ya_high ya_whole ya_has ya_bytes ya_frame ya_payloads ya_table ya_out ya_nodeType ya_valueNode ya_valueNumber ya_value ya_from ya_limit ya_inside ya_sizes (f + 1)) (nI a) (nI (sz_ns (sz_f K R D (sz_S K R D) a) j)) (nI (j + 1)) (nI (sz_j D a (j + 1))) yf_down yf_heads yf_paid yf_payload yf_wants yf_name yf_first yf_counts yf_enters yf_most yf_many yf_sent yf_last yf_nodes (nI (pm_nv D)) yf_skipped yf_pos yf_there yf_number yf_at ya_kind ya_repeated ya_how ya_code ya_coming ya_going ya_type ya_headers ya_header ya_queued ya_otherEnded ya_ended ya_finishing ya_queue ya_prefix ya_length ya_got ya_high ya_whole ya_has ya_bytes ya_frame ya_payloads ya_table ya_out ya_nodeType ya_valueNode ya_valueNumber ya_value ya_from ya_limit ya_inside ya_sizes := by
        intro p
        unfold wY_measure_75 wY_measure_76
        exact br_t rfl ⟨pm_nv D + 1, zy_120 hK hD I hL ha (by omega) (by omega) p hS ih (pm_nv D) 0 (by omega)⟩
      refine br_c (fun z => hw (fun p => ?_)) (fun z => ⟨in64, ?_⟩)
      · have := (yr_k _ (hK.1 _)).2.2.2.1.mp z
        omega
      · have k4 : K (sz_j D a (j + 1)) < 4 := by
          rcases Nat.lt_or_ge (K (sz_j D a (j + 1))) 4 with q | q
          · exact q
          · exact absurd ((yr_k _ (hK.1 _)).2.2.2.1.mpr q) z
        by_cases hr : R (sz_j D a (j + 1)) = true
        · rw [if_pos hr]
          refine br_f (by decide) ?_
          have hbd := sz_bd_le (R := R) I hL ha (show 1 ≤ j + 1 by omega) (show j + 1 ≤ 15 by omega)
          rw [sz_bd_r k4] at hbd
          have hr0 : sz_row K D (sz_S K R D) a (j + 1) ≠ 0 := by
            have q1 := sz_sm_1 (D := D) (a := a) (n := j + 1) (h := fun i => sz_b (K (sz_j D a (j + 1))) (pm_va D i) (sz_S K R D)) (pm_nv D) (pm_ix D a (j + 1)) hx (pm_ix_s hx).1 (pm_ix_s hx).2
            have q2 : 1 ≤ sz_b (K (sz_j D a (j + 1))) (pm_va D (pm_ix D a (j + 1))) (sz_S K R D) := by
              refine sz_b_1 ?_ k4
              rw [← sz_kk (K := K) (pm_ix_s hx).1 (pm_ix_s hx).2]
              exact (I.2.2.2.2.2.1 _ hx).2.2.2.1
            have q3 : sz_b (K (sz_j D a (j + 1))) (pm_va D (pm_ix D a (j + 1))) (sz_S K R D) ≤ sz_row K D (sz_S K R D) a (j + 1) := q1
            omega
          have ef : sz_f K R D (sz_S K R D) a (j + 1) = 1 + sz_w (sz_row K D (sz_S K R D) a (j + 1)) + sz_row K D (sz_S K R D) a (j + 1) := by
            unfold sz_f
            rw [if_pos ⟨k4, hr⟩, if_neg hr0]
          unfold wY_measure_76
          refine br_f (by decide) ⟨in64, ?_⟩
          rw [cj, hK.2.1 _ hj64]
          refine zy_row hK.1 hD I hL (by omega) (by omega) hS (zy_w8 (by omega) (zy_w (by omega) (nm_r (e' := nI (sz_ns (sz_f K R D (sz_S K R D) a) j + sz_f K R D (sz_S K R D) a (j + 1))) ?_ ⟨1, zy_120e (by decide) ih⟩)))
          rw [show (1 : Int32) = nI 1 from rfl, nI_add, nI_add, nI_add, ef]
        · rw [if_neg hr]
          exact br_t rfl (hw (fun p => hr p.2))
    · rw [if_neg hx]
      have e0 : sz_f K R D (sz_S K R D) a (j + 1) = 0 := by
        have hno := pm_ix_n (D := D) (a := a) (n := j + 1) hx
        unfold sz_f sz_row
        rw [sz_sm_0 _ hno, sz_sm_0 _ hno]
        split <;> rfl
      rw [e0, Nat.add_zero] at ih
      exact br_f (by decide) (nm_r (nI_1 _) ih)
theorem zy_7 {post : SY → Prop} (hK : cr_K ya_kind ya_repeated K R) (hD : yr_D D ya_nodeType ya_valueNode ya_valueNumber ya_value ya_from) (I : pm_DI K L dep D) (hL : L ≤ 200)
    (H : ∀ ns : Nat → Int32, (∀ m, m < pm_nn D → ns m = nI (sz_S K R D m)) → post (yf_down, yf_heads, yf_paid, yf_payload, yf_wants, yf_name, yf_first, yf_counts, yf_enters, yf_most, yf_many, yf_sent, yf_last, yf_nodes, nI (pm_nv D), yf_skipped, yf_pos, yf_there, yf_number, yf_at, ya_kind, ya_repeated, ya_how, ya_code, ya_coming, ya_going, ya_type, ya_headers, ya_header, ya_queued, ya_otherEnded, ya_ended, ya_finishing, ya_queue, ya_prefix, ya_length, ya_got, ya_high, ya_whole, ya_has, ya_bytes, ya_frame, ya_payloads, ya_table, ya_out, ya_nodeType, ya_valueNode, ya_valueNumber, ya_value, ya_from, ya_limit, ya_inside, ns)) : ∀ b ns, b ≤ pm_nn D → (∀ m, b ≤ m → m < pm_nn D → ns m = nI (sz_S K R D m)) →
    wY_measure_7 post yf_down yf_heads yf_paid yf_payload yf_wants yf_name yf_first yf_counts yf_enters yf_most yf_many yf_sent yf_last yf_nodes (nI (pm_nv D)) yf_skipped yf_pos yf_there yf_number yf_at (b + 1) (nI b + (-1)) ya_kind ya_repeated ya_how ya_code ya_coming ya_going ya_type ya_headers ya_header ya_queued ya_otherEnded ya_ended ya_finishing ya_queue ya_prefix ya_length ya_got ya_high ya_whole ya_has ya_bytes ya_frame ya_payloads ya_table ya_out ya_nodeType ya_valueNode ya_valueNumber ya_value ya_from ya_limit ya_inside (ns)
  | 0, ns, hb, h1 => by
    rw [wY_measure_7]
    exact br_t (by decide) (H ns (fun m hm => h1 m (by omega) hm))
  | b + 1, ns, hb, h1 => by
    have hnn := I.2.1
    rw [wY_measure_7, pk_m1]
    exact br_f (nI_pos (by omega)) ⟨16, zy_15 hK hD I hL (by omega) (fun m g1 g2 => h1 m (by omega) g2) (fun ns' h' => zy_7 hK hD I hL H b ns' (by omega) h') 15 0 rfl⟩
theorem zy_measure {post : SY → Prop} (hK : cr_K ya_kind ya_repeated K R) (hD : yr_D D ya_nodeType ya_valueNode ya_valueNumber ya_value ya_from) (I : pm_DI K L dep D) (hL : L ≤ 200) (h1 : yf_nodes = nI (pm_nn D)) (h2 : yf_values = nI (pm_nv D))
    (H : ∀ ns : Nat → Int32, (∀ m, m < pm_nn D → ns m = nI (sz_S K R D m)) → post (yf_down, yf_heads, yf_paid, yf_payload, yf_wants, yf_name, yf_first, yf_counts, yf_enters, yf_most, yf_many, yf_sent, yf_last, yf_nodes, yf_values, yf_skipped, yf_pos, yf_there, yf_number, yf_at, ya_kind, ya_repeated, ya_how, ya_code, ya_coming, ya_going, ya_type, ya_headers, ya_header, ya_queued, ya_otherEnded, ya_ended, ya_finishing, ya_queue, ya_prefix, ya_length, ya_got, ya_high, ya_whole, ya_has, ya_bytes, ya_frame, ya_payloads, ya_table, ya_out, ya_nodeType, ya_valueNode, ya_valueNumber, ya_value, ya_from, ya_limit, ya_inside, ns)) : wpY_measure post (yf_down, yf_heads, yf_paid, yf_payload, yf_wants, yf_name, yf_first, yf_counts, yf_enters, yf_most, yf_many, yf_sent, yf_last, yf_nodes, yf_values, yf_skipped, yf_pos, yf_there, yf_number, yf_at, ya_kind, ya_repeated, ya_how, ya_code, ya_coming, ya_going, ya_type, ya_headers, ya_header, ya_queued, ya_otherEnded, ya_ended, ya_finishing, ya_queue, ya_prefix, ya_length, ya_got, ya_high, ya_whole, ya_has, ya_bytes, ya_frame, ya_payloads, ya_table, ya_out, ya_nodeType, ya_valueNode, ya_valueNumber, ya_value, ya_from, ya_limit, ya_inside, ya_sizes) := by
  subst h2
  unfold wpY_measure
  refine nm_r (e' := nI (pm_nn D) + (-1)) (by rw [h1, Int32.sub_eq_add_neg]) ⟨pm_nn D + 1, ?_⟩
  exact zy_7 hK hD I hL H (pm_nn D) _ (Nat.le_refl _) (fun m g1 g2 => absurd g1 (by omega))
end
end
section
/-! Z9: size -/
section
theorem i_vc_size {k : Nat} {u : SX} {v : SY} (I : i_Rel k u v) (hk : k + 6 ≤ 3072) (v1 : Int32) : wpX_size (fun r u' => wpY_size (fun r' v' => r' = r ∧ i_Rel (k + 6) u' v') v v1) u v1 := by
  have J := i_up I
  obtain ⟨⟨⟨K, R, z⟩, ⟨fAt, n, so, fl, st, h, p, m, M, l⟩, ⟨wi, wo, ql, hc, Q, tx⟩, ⟨f_down, f_typeSeen, yf_payload, yf_wants, yf_name, yf_first, yf_counts, yf_enters, yf_nodes, yf_values, yf_skipped, yf_pos, yf_there, yf_number, yf_at⟩, ⟨a_payload, a_life, a_theyEnded, a_weEnded, a_finishing, a_codes, a_headers, a_entries, a_kinds, a_repeats, a_messageCount⟩, ⟨a_nodeCount, a_nodeTypes, a_valueCount, a_valueOwners, a_values, a_skippedCount, a_reader, a_chainNode, a_chainEnd, a_nodeSize, a_nodePlace⟩, ⟨ya_type, ya_otherEnded, ya_prefix, ya_length, ya_got, ya_high, ya_has, ya_frame, ya_payloads⟩, ⟨ya_table, ya_nodeType, ya_valueNode, ya_valueNumber, ya_value, ya_from, ya_limit, ya_inside, ya_sizes⟩⟩, rfl, rfl, hD, hl, hH, hO, hQ, hX, hS, hq, hT, hK, hF, hM⟩ := I
  have hC : cr_C k ((K, R, z), (fAt, n, so, fl, st, h, p, m, M, l), (wi, wo, ql, hc, Q, tx), (f_down, f_typeSeen, yf_payload, yf_wants, yf_name, yf_first, yf_counts, yf_enters, yf_nodes, yf_values, yf_skipped, yf_pos, yf_there, yf_number, yf_at), (a_payload, a_life, a_theyEnded, a_weEnded, a_finishing, a_codes, a_headers, a_entries, a_kinds, a_repeats, a_messageCount), (a_nodeCount, a_nodeTypes, a_valueCount, a_valueOwners, a_values, a_skippedCount, a_reader, a_chainNode, a_chainEnd, a_nodeSize, a_nodePlace), (ya_type, ya_otherEnded, ya_prefix, ya_length, ya_got, ya_high, ya_has, ya_frame, ya_payloads), (ya_table, ya_nodeType, ya_valueNode, ya_valueNumber, ya_value, ya_from, ya_limit, ya_inside, ya_sizes)) := ⟨hD, hl, hH, hO, hQ, hX, hS, hq, hT, hK, hF, hM⟩
  dsimp only [cr_x, cr_y] at J ⊢
  unfold wpX_size wpY_size
  rcases lk_c v1 with ⟨h1, h2, h3, h4⟩ | ⟨h1, h2, h3, h4, h5⟩ | ⟨s, hs, rfl⟩
  · exact lo_Xn (Or.inl h2) (br_t rfl (lo_Yn (Or.inl h2) (br_t rfl ⟨rfl, J⟩)))
  · exact lo_Xn (Or.inr ⟨h2, h4⟩) (br_t rfl (lo_Yn (Or.inr ⟨h2, h3⟩) (br_t rfl ⟨rfl, J⟩)))
  · by_cases h0 : s = 0
    · subst h0
      exact lo_Xn (Or.inl (by decide)) (br_t rfl (lo_Yn (Or.inl (by decide)) (br_t rfl ⟨rfl, J⟩)))
    · refine lo_X (by omega) hs (by omega) (hM s (by omega) hs) (fun w => ?_) (fun w => br_t rfl (lo_Y0 (by omega) hs w (br_t rfl ⟨rfl, J⟩)))
      obtain ⟨c, dep, L, l1, d2, d3, d4, HO⟩ := lo_M hC (show 1 ≤ s by omega) hs w
      refine br_f (by decide) (zx_measure hs hK d3 d2.1 l1 (fun ns hns => ?_))
      refine HO _ (fun z' hz => br_f (by decide) (zy_measure hK hz.2.2.2.2.2.1 d2.1 l1 hz.1 hz.2.1 (fun ns' hns' => ⟨hns' 0 d2.1.1, ?_⟩)))
      have hC' : cr_C k ((K, R, z), (fAt, n, so, fl, st, h, p, m, M, l), (wi, wo, ql, hc, Q, tx), (f_down, f_typeSeen, yf_payload, yf_wants, yf_name, yf_first, yf_counts, yf_enters, yf_nodes, yf_values, yf_skipped, yf_pos, yf_there, yf_number, yf_at), (a_payload, a_life, a_theyEnded, a_weEnded, a_finishing, a_codes, a_headers, a_entries, a_kinds, a_repeats, a_messageCount), (a_nodeCount, a_nodeTypes, a_valueCount, a_valueOwners, a_values, a_skippedCount, a_reader, a_chainNode, a_chainEnd, ns, a_nodePlace), (ya_type, ya_otherEnded, ya_prefix, ya_length, ya_got, ya_high, ya_has, ya_frame, ya_payloads), (ya_table, ya_nodeType, ya_valueNode, ya_valueNumber, ya_value, ya_from, ya_limit, ya_inside, ns')) := hC
      exact lo_J hC' z'
end
end
section
/-! T1: a byte of data, on the reference's side -/
section
variable {yf_down yf_heads yf_paid yf_payload yf_wants yf_name yf_first yf_counts yf_enters yf_most yf_many yf_sent yf_last yf_nodes yf_values yf_skipped yf_pos yf_there yf_number yf_at : Int32} {ya_kind ya_repeated ya_how ya_code ya_coming ya_going ya_type ya_headers ya_header ya_queued ya_otherEnded ya_ended ya_finishing ya_queue ya_prefix ya_length ya_got ya_high ya_whole ya_has ya_bytes ya_frame ya_payloads ya_table ya_out ya_nodeType ya_valueNode ya_valueNumber ya_value ya_from ya_limit ya_inside ya_sizes : Nat → Int32} {z : (Nat → Nat) × Nat} {s b x c L : Nat}
theorem yf_fail {post : SY → Prop} (h0 : 0 < s) (hs : s < 8) (hz : z.2 ≤ 1200)
    (h : post (yf_down, yf_heads, yf_paid, yf_payload, yf_wants, yf_name, yf_first, 0, yf_enters, yf_most, yf_many, nI (ou_L z [1, 2, 0, s, c]).2, yf_last, yf_nodes, yf_values, yf_skipped, yf_pos, yf_there, yf_number, yf_at, ya_kind, ya_repeated, upd ya_how s 2, upd ya_code s (nI c), ya_coming, ya_going, ya_type, ya_headers, ya_header, upd ya_queued s 0, ya_otherEnded, ya_ended, ya_finishing, ya_queue, ya_prefix, ya_length, ya_got, ya_high, ya_whole, ya_has, ya_bytes, ya_frame, ya_payloads, ya_table, an_g (ou_L z [1, 2, 0, s, c]).1, ya_nodeType, ya_valueNode, ya_valueNumber, ya_value, ya_from, ya_limit, ya_inside, ya_sizes)) :
    wpY_fail post (yf_down, yf_heads, yf_paid, yf_payload, yf_wants, yf_name, yf_first, yf_counts, yf_enters, yf_most, yf_many, nI z.2, yf_last, yf_nodes, yf_values, yf_skipped, yf_pos, yf_there, yf_number, yf_at, ya_kind, ya_repeated, ya_how, ya_code, ya_coming, ya_going, ya_type, ya_headers, ya_header, ya_queued, ya_otherEnded, ya_ended, ya_finishing, ya_queue, ya_prefix, ya_length, ya_got, ya_high, ya_whole, ya_has, ya_bytes, ya_frame, ya_payloads, ya_table, an_g z.1, ya_nodeType, ya_valueNode, ya_valueNumber, ya_value, ya_from, ya_limit, ya_inside, ya_sizes) (nI s) (nI c) := by
  unfold wpY_fail
  exact yo_errS h0 hs hz h
theorem yf_ready {post : SY → Prop} (hs : s < 8)
    (h : post (yf_down, yf_heads, yf_paid, yf_payload, yf_wants, yf_name, yf_first, yf_counts, yf_enters, yf_most, yf_many, yf_sent, yf_last, yf_nodes, yf_values, yf_skipped, yf_pos, yf_there, yf_number, yf_at, ya_kind, ya_repeated, ya_how, ya_code, ya_coming, ya_going, ya_type, ya_headers, ya_header, ya_queued, ya_otherEnded, ya_ended, ya_finishing, ya_queue, upd ya_prefix s 0, ya_length, ya_got, ya_high, upd ya_whole s (ya_whole s + 1), upd ya_has s 1, ya_bytes, ya_frame, ya_payloads, ya_table, ya_out, ya_nodeType, ya_valueNode, ya_valueNumber, ya_value, ya_from, ya_limit, ya_inside, ya_sizes)) :
    wpY_ready post (yf_down, yf_heads, yf_paid, yf_payload, yf_wants, yf_name, yf_first, yf_counts, yf_enters, yf_most, yf_many, yf_sent, yf_last, yf_nodes, yf_values, yf_skipped, yf_pos, yf_there, yf_number, yf_at, ya_kind, ya_repeated, ya_how, ya_code, ya_coming, ya_going, ya_type, ya_headers, ya_header, ya_queued, ya_otherEnded, ya_ended, ya_finishing, ya_queue, ya_prefix, ya_length, ya_got, ya_high, ya_whole, ya_has, ya_bytes, ya_frame, ya_payloads, ya_table, ya_out, ya_nodeType, ya_valueNode, ya_valueNumber, ya_value, ya_from, ya_limit, ya_inside, ya_sizes) (nI s) := by
  obtain ⟨g1, g2⟩ := xr_c8 hs
  unfold wpY_ready
  exact ⟨g1, nm_r (e' := upd ya_has s 1) (by rw [g2]; rfl) ⟨g1, g1, nm_r (by rw [g2]) ⟨g1, nm_r (by rw [g2]) h⟩⟩⟩
theorem yd_t1 {post : SY → Prop} (hs : s < 8) (hp : ya_prefix s = nI 1) (H : post (yf_down, yf_heads, yf_paid, yf_payload, yf_wants, yf_name, yf_first, yf_counts, yf_enters, yf_most, yf_many, yf_sent, yf_last, yf_nodes, yf_values, yf_skipped, yf_pos, yf_there, yf_number, yf_at, ya_kind, ya_repeated, ya_how, ya_code, ya_coming, ya_going, ya_type, ya_headers, ya_header, ya_queued, ya_otherEnded, ya_ended, ya_finishing, ya_queue, ya_prefix, ya_length, ya_got, ya_high, ya_whole, ya_has, ya_bytes, ya_frame, ya_payloads, ya_table, ya_out, ya_nodeType, ya_valueNode, ya_valueNumber, ya_value, ya_from, ya_limit, ya_inside, ya_sizes)) : wY_data_41 post (nI s) (nI b) yf_down yf_heads yf_paid yf_payload yf_wants yf_name yf_first yf_counts yf_enters yf_most yf_many yf_sent yf_last yf_nodes yf_values yf_skipped yf_pos yf_there yf_number yf_at ya_kind ya_repeated ya_how ya_code ya_coming ya_going ya_type ya_headers ya_header ya_queued ya_otherEnded ya_ended ya_finishing ya_queue ya_prefix ya_length ya_got ya_high ya_whole ya_has ya_bytes ya_frame ya_payloads ya_table ya_out ya_nodeType ya_valueNode ya_valueNumber ya_value ya_from ya_limit ya_inside ya_sizes := by
  obtain ⟨g1, g2⟩ := xr_c8 hs
  unfold wY_data_41
  rw [g2, hp]
  refine ⟨g1, br_f (by decide) ?_⟩
  unfold wY_data_58
  rw [g2, hp]
  exact ⟨g1, br_f (by decide) H⟩
theorem yd_0 {post : SY → Prop} (hs : s < 8) (hp : ya_prefix s = nI 0) (H : post (yf_down, yf_heads, yf_paid, yf_payload, yf_wants, yf_name, yf_first, yf_counts, yf_enters, yf_most, yf_many, yf_sent, yf_last, yf_nodes, yf_values, yf_skipped, yf_pos, yf_there, yf_number, yf_at, ya_kind, ya_repeated, ya_how, ya_code, ya_coming, ya_going, ya_type, ya_headers, ya_header, ya_queued, ya_otherEnded, ya_ended, ya_finishing, ya_queue, upd ya_prefix s (nI 1), ya_length, ya_got, ya_high, ya_whole, ya_has, ya_bytes, ya_frame, ya_payloads, ya_table, ya_out, ya_nodeType, ya_valueNode, ya_valueNumber, ya_value, ya_from, ya_limit, ya_inside, ya_sizes)) : wpY_data post (yf_down, yf_heads, yf_paid, yf_payload, yf_wants, yf_name, yf_first, yf_counts, yf_enters, yf_most, yf_many, yf_sent, yf_last, yf_nodes, yf_values, yf_skipped, yf_pos, yf_there, yf_number, yf_at, ya_kind, ya_repeated, ya_how, ya_code, ya_coming, ya_going, ya_type, ya_headers, ya_header, ya_queued, ya_otherEnded, ya_ended, ya_finishing, ya_queue, ya_prefix, ya_length, ya_got, ya_high, ya_whole, ya_has, ya_bytes, ya_frame, ya_payloads, ya_table, ya_out, ya_nodeType, ya_valueNode, ya_valueNumber, ya_value, ya_from, ya_limit, ya_inside, ya_sizes) (nI s) (nI 0) := by
  obtain ⟨g1, g2⟩ := xr_c8 hs
  unfold wpY_data
  dsimp only
  rw [g2, hp]
  refine ⟨g1, br_f (by decide) ⟨g1, g1, nm_r (e' := upd ya_prefix s (nI 1)) rfl ⟨g1, ?_⟩⟩⟩
  rw [pk_us]
  exact br_t rfl (br_t rfl (yd_t1 hs pk_us H))
theorem yd_7 {post : SY → Prop} (h0 : 0 < s) (hs : s < 8) (hb : b < 256) (hz : z.2 ≤ 1200) (hb0 : b ≠ 0) (hp : ya_prefix s = nI 0)
    (H : post (yf_down, yf_heads, yf_paid, yf_payload, yf_wants, yf_name, yf_first, 0, yf_enters, yf_most, yf_many, nI (ou_L z [1, 2, 0, s, 7]).2, yf_last, yf_nodes, yf_values, yf_skipped, yf_pos, yf_there, yf_number, yf_at, ya_kind, ya_repeated, upd ya_how s 2, upd ya_code s (nI 7), ya_coming, ya_going, ya_type, ya_headers, ya_header, upd ya_queued s 0, ya_otherEnded, ya_ended, ya_finishing, ya_queue, upd ya_prefix s (nI 1), ya_length, ya_got, ya_high, ya_whole, ya_has, ya_bytes, ya_frame, ya_payloads, ya_table, an_g (ou_L z [1, 2, 0, s, 7]).1, ya_nodeType, ya_valueNode, ya_valueNumber, ya_value, ya_from, ya_limit, ya_inside, ya_sizes)) :
    wpY_data post (yf_down, yf_heads, yf_paid, yf_payload, yf_wants, yf_name, yf_first, yf_counts, yf_enters, yf_most, yf_many, nI z.2, yf_last, yf_nodes, yf_values, yf_skipped, yf_pos, yf_there, yf_number, yf_at, ya_kind, ya_repeated, ya_how, ya_code, ya_coming, ya_going, ya_type, ya_headers, ya_header, ya_queued, ya_otherEnded, ya_ended, ya_finishing, ya_queue, ya_prefix, ya_length, ya_got, ya_high, ya_whole, ya_has, ya_bytes, ya_frame, ya_payloads, ya_table, an_g z.1, ya_nodeType, ya_valueNode, ya_valueNumber, ya_value, ya_from, ya_limit, ya_inside, ya_sizes) (nI s) (nI b) := by
  obtain ⟨g1, g2⟩ := xr_c8 hs
  unfold wpY_data
  dsimp only
  rw [g2, hp]
  refine ⟨g1, br_f (by decide) ⟨g1, g1, nm_r (e' := upd ya_prefix s (nI 1)) rfl ⟨g1, ?_⟩⟩⟩
  rw [pk_us]
  refine br_t rfl (pk_eq b 0 (fun w => absurd w hb0) (fun _ => ?_))
  exact yf_fail (c := 7) h0 hs hz (yd_t1 hs pk_us H)
theorem yd_1 {post : SY → Prop} (hs : s < 8) (hp : ya_prefix s = nI 1) (H : post (yf_down, yf_heads, yf_paid, yf_payload, yf_wants, yf_name, yf_first, yf_counts, yf_enters, yf_most, yf_many, yf_sent, yf_last, yf_nodes, yf_values, yf_skipped, yf_pos, yf_there, yf_number, yf_at, ya_kind, ya_repeated, ya_how, ya_code, ya_coming, ya_going, ya_type, ya_headers, ya_header, ya_queued, ya_otherEnded, ya_ended, ya_finishing, ya_queue, upd ya_prefix s (nI 2), ya_length, ya_got, upd ya_high s (nI b), ya_whole, ya_has, ya_bytes, ya_frame, ya_payloads, ya_table, ya_out, ya_nodeType, ya_valueNode, ya_valueNumber, ya_value, ya_from, ya_limit, ya_inside, ya_sizes)) : wpY_data post (yf_down, yf_heads, yf_paid, yf_payload, yf_wants, yf_name, yf_first, yf_counts, yf_enters, yf_most, yf_many, yf_sent, yf_last, yf_nodes, yf_values, yf_skipped, yf_pos, yf_there, yf_number, yf_at, ya_kind, ya_repeated, ya_how, ya_code, ya_coming, ya_going, ya_type, ya_headers, ya_header, ya_queued, ya_otherEnded, ya_ended, ya_finishing, ya_queue, ya_prefix, ya_length, ya_got, ya_high, ya_whole, ya_has, ya_bytes, ya_frame, ya_payloads, ya_table, ya_out, ya_nodeType, ya_valueNode, ya_valueNumber, ya_value, ya_from, ya_limit, ya_inside, ya_sizes) (nI s) (nI b) := by
  obtain ⟨g1, g2⟩ := xr_c8 hs
  unfold wpY_data
  dsimp only
  rw [g2, hp]
  refine ⟨g1, br_f (by decide) ⟨g1, g1, nm_r (e' := upd ya_prefix s (nI 2)) rfl ⟨g1, ?_⟩⟩⟩
  rw [pk_us]
  refine br_f (by decide) ?_
  unfold wY_data_41
  rw [g2, pk_us]
  refine ⟨g1, br_t rfl ⟨g1, nm_e ?_⟩⟩
  unfold wY_data_58
  rw [g2, pk_us]
  exact ⟨g1, br_f (by decide) H⟩
theorem yd_2 {post : SY → Prop} (h0 : 0 < s) (hs : s < 8) (hb : b < 256) (hx : x < 256) (hz : z.2 ≤ 1200) (hL : L = 256 * x + b) (hp : ya_prefix s = nI 2) (hh : ya_high s = nI x)
    (H8 : 200 < L → post (yf_down, yf_heads, yf_paid, yf_payload, yf_wants, yf_name, yf_first, 0, yf_enters, yf_most, yf_many, nI (ou_L z [1, 2, 0, s, 8]).2, yf_last, yf_nodes, yf_values, yf_skipped, yf_pos, yf_there, yf_number, yf_at, ya_kind, ya_repeated, upd ya_how s 2, upd ya_code s (nI 8), ya_coming, ya_going, ya_type, ya_headers, ya_header, upd ya_queued s 0, ya_otherEnded, ya_ended, ya_finishing, ya_queue, upd ya_prefix s (nI 3), upd ya_length s (nI L), upd ya_got s (nI 0), ya_high, ya_whole, upd ya_has s 0, ya_bytes, ya_frame, ya_payloads, ya_table, an_g (ou_L z [1, 2, 0, s, 8]).1, ya_nodeType, ya_valueNode, ya_valueNumber, ya_value, ya_from, ya_limit, ya_inside, ya_sizes))
    (H0 : L = 0 → post (yf_down, yf_heads, yf_paid, yf_payload, yf_wants, yf_name, yf_first, yf_counts, yf_enters, yf_most, yf_many, nI z.2, yf_last, yf_nodes, yf_values, yf_skipped, yf_pos, yf_there, yf_number, yf_at, ya_kind, ya_repeated, ya_how, ya_code, ya_coming, ya_going, ya_type, ya_headers, ya_header, ya_queued, ya_otherEnded, ya_ended, ya_finishing, ya_queue, upd (upd ya_prefix s (nI 3)) s 0, upd ya_length s (nI L), upd ya_got s (nI 0), ya_high, upd ya_whole s (ya_whole s + 1), upd (upd ya_has s 0) s 1, ya_bytes, ya_frame, ya_payloads, ya_table, an_g z.1, ya_nodeType, ya_valueNode, ya_valueNumber, ya_value, ya_from, ya_limit, ya_inside, ya_sizes))
    (H1 : 0 < L → L ≤ 200 → post (yf_down, yf_heads, yf_paid, yf_payload, yf_wants, yf_name, yf_first, yf_counts, yf_enters, yf_most, yf_many, nI z.2, yf_last, yf_nodes, yf_values, yf_skipped, yf_pos, yf_there, yf_number, yf_at, ya_kind, ya_repeated, ya_how, ya_code, ya_coming, ya_going, ya_type, ya_headers, ya_header, ya_queued, ya_otherEnded, ya_ended, ya_finishing, ya_queue, upd ya_prefix s (nI 3), upd ya_length s (nI L), upd ya_got s (nI 0), ya_high, ya_whole, upd ya_has s 0, ya_bytes, ya_frame, ya_payloads, ya_table, an_g z.1, ya_nodeType, ya_valueNode, ya_valueNumber, ya_value, ya_from, ya_limit, ya_inside, ya_sizes)) :
    wpY_data post (yf_down, yf_heads, yf_paid, yf_payload, yf_wants, yf_name, yf_first, yf_counts, yf_enters, yf_most, yf_many, nI z.2, yf_last, yf_nodes, yf_values, yf_skipped, yf_pos, yf_there, yf_number, yf_at, ya_kind, ya_repeated, ya_how, ya_code, ya_coming, ya_going, ya_type, ya_headers, ya_header, ya_queued, ya_otherEnded, ya_ended, ya_finishing, ya_queue, ya_prefix, ya_length, ya_got, ya_high, ya_whole, ya_has, ya_bytes, ya_frame, ya_payloads, ya_table, an_g z.1, ya_nodeType, ya_valueNode, ya_valueNumber, ya_value, ya_from, ya_limit, ya_inside, ya_sizes) (nI s) (nI b) := by
  obtain ⟨g1, g2⟩ := xr_c8 hs
  unfold wpY_data
  dsimp only
  rw [g2, hp]
  refine ⟨g1, br_f (by decide) ⟨g1, g1, nm_r (e' := upd ya_prefix s (nI 3)) rfl ⟨g1, ?_⟩⟩⟩
  rw [pk_us]
  refine br_f (by decide) ?_
  unfold wY_data_41
  rw [g2, pk_us]
  refine ⟨g1, br_f (by decide) ?_⟩
  unfold wY_data_58
  rw [g2, pk_us, hh]
  refine ⟨g1, br_t (by decide) ⟨g1, g1, nm_r (e' := upd ya_length s (nI L)) (by rw [show (256 : Int32) = nI 256 from rfl, pk_mul, nI_add, hL]) ⟨g1, nm_r (e' := upd ya_got s (nI 0)) rfl ⟨g1, nm_r (e' := upd ya_has s 0) rfl ⟨g1, ?_⟩⟩⟩⟩⟩
  rw [pk_us]
  refine pk_le L 200 (fun w => ⟨g1, pk_eq L 0 (fun w0 => yf_ready hs (H0 w0)) (fun w0 => H1 (by omega) w)⟩) (fun w => ?_)
  exact yf_fail (c := 8) h0 hs hz (H8 w)
end
/-! T2: of a stream's message after a byte -/
section
variable {K : Nat → Nat} {R : Nat → Bool} {k s mm y p p' L t : Nat} {tx tx' : Nat → Nat} {life life' mc nc nt vc vo va sk rd cn ce mc' nc' nt' vc' vo' va' sk' rd' cn' ce' ty le go hi ha pr le' go' hi' ha' pr' : Nat → Int32}
theorem td_ha (h : p < 3) (h' : p' < 3) : (if mm ≠ 0 ∧ p < 3 then (1 : Int32) else 0) = if mm ≠ 0 ∧ p' < 3 then 1 else 0 := by
  by_cases e : mm = 0
  · rw [if_neg (fun w => w.1 e), if_neg (fun w => w.1 e)]
  · rw [if_pos ⟨e, h⟩, if_pos ⟨e, h'⟩]
theorem td_low (hp : p < 3) (hp' : p' < 3) (hl0 : life' s ≠ 0) (hl1 : life' s = 1 → life s = 1) (h2 : pr' s = nI p') (h3 : rd' (11 * s) = nI p') (g4 : mm ≤ k) (g5 : mc s = nI mm) (g6 : y < 4)
    (g7 : ha s = if mm ≠ 0 ∧ p < 3 then 1 else 0) (h9 : p' = 2 → ∃ x, x < 256 ∧ hi' s = nI x ∧ rd' (11 * s + 1) = nI (256 * x)) (g10 : life s = 1 ∨ ha s = 1 → ty s = nI y ∧ nt (16 * s) = nI y)
    (g11 : ha s = 1 → ∃ L, L ≤ 200 ∧ le s = nI L ∧ go s = nI L ∧ cr_done K R s y L (cr_by tx s) nc nt vc vo va sk) :
    cr_m (k + 1) K R s tx life' mc nc nt vc vo va sk rd' cn ce ty le go hi' ha pr' :=
  ⟨p', mm, y, by omega, h2, h3, by omega, g5, g6, g7.trans (td_ha hp hp'), fun w => absurd w hl0, h9, fun w => g10 (w.elim (fun w => Or.inl (hl1 w)) Or.inr), g11, fun w => absurd w (by omega)⟩
theorem td_bad (hl : life' s = 2) (h2 : pr' s = nI 3) (h3 : rd' (11 * s) = nI 3) (g4 : mm ≤ k) (g5 : mc' s = nI mm) (g6 : y < 4) (g7 : ha' s = 0) :
    cr_m (k + 1) K R s tx' life' mc' nc' nt' vc' vo' va' sk' rd' cn' ce' ty le' go' hi' ha' pr' :=
  ⟨3, mm, y, by omega, h2, h3, by omega, g5, g6, g7.trans (if_neg (fun w => absurd w.2 (by omega))).symm, fun w => absurd (hl.symm.trans w) (by decide), fun w => absurd w (by omega),
    fun w => w.elim (fun w => absurd (hl.symm.trans w) (by decide)) (fun w => absurd (g7.symm.trans w) (by decide)), fun w => absurd (g7.symm.trans w) (by decide), fun _ w => absurd (hl.symm.trans w) (by decide)⟩
theorem td_inc (hL : L ≤ 200) (hl : life' s = 1) (h2 : pr' s = nI 3) (h3 : rd' (11 * s) = nI 3) (g4 : mm ≤ k) (g5 : mc' s = nI mm) (g6 : y < 4) (g7 : ha' s = 0) (g10 : ty s = nI y ∧ nt' (16 * s) = nI y) (hle : le' s = nI L) (hgo : go' s = nI t)
    (hi : cr_inc K R s y L t (cr_by tx' s) nc' nt' vc' vo' va' sk' rd' cn' ce') :
    cr_m (k + 1) K R s tx' life' mc' nc' nt' vc' vo' va' sk' rd' cn' ce' ty le' go' hi' ha' pr' :=
  ⟨3, mm, y, by omega, h2, h3, by omega, g5, g6, g7.trans (if_neg (fun w => absurd w.2 (by omega))).symm, fun w => absurd (hl.symm.trans w) (by decide), fun w => absurd w (by omega),
    fun _ => g10, fun w => absurd (g7.symm.trans w) (by decide), fun _ _ => ⟨L, t, hL, hle, hgo, hi⟩⟩
theorem td_done (hL : L ≤ 200) (hl : life' s = 1) (h2 : pr' s = nI 0) (h3 : rd' (11 * s) = nI 0) (g4 : mm ≤ k) (g5 : mc' s = nI (mm + 1)) (g6 : y < 4) (g7 : ha' s = 1) (g10 : ty s = nI y ∧ nt' (16 * s) = nI y) (hle : le' s = nI L) (hgo : go' s = nI L)
    (hd : cr_done K R s y L (cr_by tx' s) nc' nt' vc' vo' va' sk') :
    cr_m (k + 1) K R s tx' life' mc' nc' nt' vc' vo' va' sk' rd' cn' ce' ty le' go' hi' ha' pr' :=
  ⟨0, mm + 1, y, by omega, h2, h3, by omega, g5, g6, g7.trans (if_pos ⟨by omega, by omega⟩).symm, fun w => absurd (hl.symm.trans w) (by decide), fun w => absurd w (by omega),
    fun _ => g10, fun _ => ⟨L, hL, hle, hgo, hd⟩, fun w => absurd w (by omega)⟩
/-- the stream itself and the others -/
theorem td_M (hM : cr_M k K R tx life mc nc nt vc vo va sk rd cn ce ty le go hi ha pr) (hs : s < 8)
    (hm : cr_m (k + 1) K R s tx' life' mc' nc' nt' vc' vo' va' sk' rd' cn' ce' ty le' go' hi' ha' pr')
    (hF : xr_fr s mc nc nt vc vo va sk rd cn ce mc' nc' nt' vc' vo' va' sk' rd' cn' ce') (htx : ∀ j, j < 200 * s ∨ 200 * s + 200 ≤ j → tx' j = tx j)
    (hl : ∀ i, i ≠ s → life' i = life i) (h1 : ∀ i, i ≠ s → le' i = le i) (h2 : ∀ i, i ≠ s → go' i = go i) (h3 : ∀ i, i ≠ s → hi' i = hi i) (h4 : ∀ i, i ≠ s → ha' i = ha i) (h5 : ∀ i, i ≠ s → pr' i = pr i) :
    cr_M (k + 1) K R tx' life' mc' nc' nt' vc' vo' va' sk' rd' cn' ce' ty le' go' hi' ha' pr' := by
  intro i i1 i8
  by_cases e : i = s
  · subst e; exact hm
  · exact cr_m_fr e hF (fun j hj => htx _ (by omega)) (h1 i e) (h2 i e) (h3 i e) (h4 i e) (h5 i e) rfl (hl i e) (cr_m_k (by omega) (hM i i1 i8))
theorem td_r {f : Nat → Int32} : ∀ i, i ≠ s → f i = f i := fun _ _ => rfl
theorem td_u {f : Nat → Int32} {x : Int32} : ∀ i, i ≠ s → upd f s x i = f i := fun _ h => pk_un h
theorem td_uu {f : Nat → Int32} {x x' : Int32} : ∀ i, i ≠ s → upd (upd f s x) s x' i = f i := fun _ h => (pk_un h).trans (pk_un h)
theorem td_fr0 (h : xr_O 11 s rd rd') : xr_fr s mc nc nt vc vo va sk rd cn ce mc nc nt vc vo va sk rd' cn ce :=
  ⟨xr_O_r, xr_O_r, xr_O_r, xr_O_r, xr_O_r, xr_O_r, xr_O_r, h, xr_O_r, xr_O_r, rfl⟩
theorem td_z {z : (Nat → Nat) × Nat} {c : Nat} (hO : ou_I z) (hs : s < 8) (hc : c < 256) : ou_I (ou_L z [1, 2, 0, s, c]) := by
  refine ou_L_I hO (fun b hb => ?_)
  simp only [List.mem_cons, List.not_mem_nil, or_false] at hb
  rcases hb with hb | hb | hb | hb | hb <;> omega
end
end
section
/-! T3: a byte of a message, on the reference's side -/
section
variable {yf_down yf_heads yf_paid yf_payload yf_wants yf_name yf_first yf_counts yf_enters yf_most yf_many yf_sent yf_last yf_nodes yf_values yf_skipped yf_pos yf_there yf_number yf_at : Int32} {ya_kind ya_repeated ya_how ya_code ya_coming ya_going ya_type ya_headers ya_header ya_queued ya_otherEnded ya_ended ya_finishing ya_queue ya_prefix ya_length ya_got ya_high ya_whole ya_has ya_bytes ya_frame ya_payloads ya_table ya_out ya_nodeType ya_valueNode ya_valueNumber ya_value ya_from ya_limit ya_inside ya_sizes : Nat → Int32} {z : (Nat → Nat) × Nat} {s b L t y : Nat} {tx : Nat → Nat} {K : Nat → Nat} {R : Nat → Bool}
theorem td_B (h : cr_B tx) : yr_B tx s (cr_by tx s) := by
  refine ⟨h, fun i => ?_, fun i hi => if_pos hi⟩
  unfold cr_by
  split
  · exact h _
  · omega
theorem td_BB {j : Nat} (hb : b < 256) (h : cr_B tx) : cr_B (pm_u tx j b) := by
  intro i
  unfold pm_u
  split
  · exact hb
  · exact h i
theorem yd_3 {post : SY → Prop} {r : Nat × pm_C} (h0 : 0 < s) (hs : s < 8) (hb : b < 256) (hy : y < 4) (hL : L ≤ 200) (ht : t < L) (hz : z.2 ≤ 1200) (hK : cr_K ya_kind ya_repeated K R) (hX : cr_B tx) (hp : ya_prefix s = nI 3)
    (hgo : ya_got s = nI t) (hle : ya_length s = nI L) (hty : ya_type s = nI y) (hrd : pm_Rd (cr_by (pm_u tx (200 * s + t) b) s) K R (t + 1) (cr_0 y L) r) (hr5 : r.1 ≤ 5 ∨ r.1 = 9)
    (HE : ∀ (a : yr_Z), r.1 ≠ 0 → r.1 ≠ 9 → post (yf_down, yf_heads, yf_paid, yf_payload, yf_wants, yf_name, yf_first, 0, yf_enters, yf_most, yf_many, nI (ou_L z [1, 2, 0, s, 10 + r.1]).2, yf_last, a.1, a.2.1, a.2.2.1, a.2.2.2.1, nI (t + 1), a.2.2.2.2.1, a.2.2.2.2.2.1, ya_kind, ya_repeated, upd ya_how s 2, upd ya_code s (nI (10 + r.1)), ya_coming, ya_going, ya_type, ya_headers, ya_header, upd ya_queued s 0, ya_otherEnded, ya_ended, ya_finishing, ya_queue, ya_prefix, ya_length, upd ya_got s (nI (t + 1)), ya_high, ya_whole, ya_has, an_g (pm_u tx (200 * s + t) b), ya_frame, ya_payloads, ya_table, an_g (ou_L z [1, 2, 0, s, 10 + r.1]).1, a.2.2.2.2.2.2.1, a.2.2.2.2.2.2.2.1, a.2.2.2.2.2.2.2.2.1, a.2.2.2.2.2.2.2.2.2.1, a.2.2.2.2.2.2.2.2.2.2.1, a.2.2.2.2.2.2.2.2.2.2.2.1, a.2.2.2.2.2.2.2.2.2.2.2.2, ya_sizes))
    (H1 : ∀ (a : yr_Z), r.1 = 0 ∨ r.1 = 9 → t + 1 ≠ L → post (yf_down, yf_heads, yf_paid, yf_payload, yf_wants, yf_name, yf_first, yf_counts, yf_enters, yf_most, yf_many, nI z.2, yf_last, a.1, a.2.1, a.2.2.1, a.2.2.2.1, nI (t + 1), a.2.2.2.2.1, a.2.2.2.2.2.1, ya_kind, ya_repeated, ya_how, ya_code, ya_coming, ya_going, ya_type, ya_headers, ya_header, ya_queued, ya_otherEnded, ya_ended, ya_finishing, ya_queue, ya_prefix, ya_length, upd ya_got s (nI (t + 1)), ya_high, ya_whole, ya_has, an_g (pm_u tx (200 * s + t) b), ya_frame, ya_payloads, ya_table, an_g z.1, a.2.2.2.2.2.2.1, a.2.2.2.2.2.2.2.1, a.2.2.2.2.2.2.2.2.1, a.2.2.2.2.2.2.2.2.2.1, a.2.2.2.2.2.2.2.2.2.2.1, a.2.2.2.2.2.2.2.2.2.2.2.1, a.2.2.2.2.2.2.2.2.2.2.2.2, ya_sizes))
    (H0 : ∀ (a : yr_Z), r.1 = 0 ∨ r.1 = 9 → t + 1 = L → post (yf_down, yf_heads, yf_paid, yf_payload, yf_wants, yf_name, yf_first, yf_counts, yf_enters, yf_most, yf_many, nI z.2, yf_last, a.1, a.2.1, a.2.2.1, a.2.2.2.1, nI (t + 1), a.2.2.2.2.1, a.2.2.2.2.2.1, ya_kind, ya_repeated, ya_how, ya_code, ya_coming, ya_going, ya_type, ya_headers, ya_header, ya_queued, ya_otherEnded, ya_ended, ya_finishing, ya_queue, upd ya_prefix s 0, ya_length, upd ya_got s (nI (t + 1)), ya_high, upd ya_whole s (ya_whole s + 1), upd ya_has s 1, an_g (pm_u tx (200 * s + t) b), ya_frame, ya_payloads, ya_table, an_g z.1, a.2.2.2.2.2.2.1, a.2.2.2.2.2.2.2.1, a.2.2.2.2.2.2.2.2.1, a.2.2.2.2.2.2.2.2.2.1, a.2.2.2.2.2.2.2.2.2.2.1, a.2.2.2.2.2.2.2.2.2.2.2.1, a.2.2.2.2.2.2.2.2.2.2.2.2, ya_sizes)) :
    wpY_data post (yf_down, yf_heads, yf_paid, yf_payload, yf_wants, yf_name, yf_first, yf_counts, yf_enters, yf_most, yf_many, nI z.2, yf_last, yf_nodes, yf_values, yf_skipped, yf_pos, yf_there, yf_number, yf_at, ya_kind, ya_repeated, ya_how, ya_code, ya_coming, ya_going, ya_type, ya_headers, ya_header, ya_queued, ya_otherEnded, ya_ended, ya_finishing, ya_queue, ya_prefix, ya_length, ya_got, ya_high, ya_whole, ya_has, an_g tx, ya_frame, ya_payloads, ya_table, an_g z.1, ya_nodeType, ya_valueNode, ya_valueNumber, ya_value, ya_from, ya_limit, ya_inside, ya_sizes) (nI s) (nI b) := by
  obtain ⟨g1, g2⟩ := xr_c8 hs
  have et : 200 * nI s + nI t = nI (200 * s + t) := by
    rw [show (200 : Int32) = nI 200 from rfl, pk_mul, nI_add]
  unfold wpY_data
  dsimp only
  rw [g2, hp, hgo, et]
  refine ⟨g1, br_t (by decide) ⟨g1, g1, nm_r (e' := upd ya_got s (nI (t + 1))) (by rw [nI_1]) ⟨vp_in_nI (by omega) (by omega), nm_r (e' := an_g (pm_u tx (200 * s + t) b)) (by rw [nI_clamp (by omega), an_b1, an_gu]) ?_⟩⟩⟩
  refine yr_read (B := cr_by (pm_u tx (200 * s + t) b) s) (T := t + 1) (L := L) (K := K) (R := R) hy hL hK (td_B (td_BB hb hX)) hs (by omega) hty hle pk_us hrd (fun c' a ha _ => ?_) (fun a ha => ?_)
  · dsimp only
    refine br_t (by decide) ⟨g1, g1, ?_⟩
    rw [pk_us, hle]
    exact pk_eq (t + 1) L (fun w => yf_ready hs (H0 a (Or.inl (by rw [ha])) w)) (fun w => H1 a (Or.inl (by rw [ha])) w)
  · by_cases h9 : r.1 = 9
    · have e9 : yr_a r.1 = 0 := if_pos h9
      dsimp only
      rw [e9]
      refine br_t (by decide) ⟨g1, g1, ?_⟩
      rw [pk_us, hle]
      exact pk_eq (t + 1) L (fun w => yf_ready hs (H0 a (Or.inr h9) w)) (fun w => H1 a (Or.inr h9) w)
    · have e9 : yr_a r.1 = nI r.1 := if_neg h9
      have h5 : r.1 ≤ 5 := by omega
      dsimp only
      rw [e9]
      refine pk_le r.1 0 (fun w => by omega) (fun _ => ?_)
      have e10 : (10 : Int32) + nI r.1 = nI (10 + r.1) := by
        rw [show (10 : Int32) = nI 10 from rfl, nI_add]
      rw [e10]
      exact yf_fail h0 hs hz (HE a ha h9)
end
end
section
/-! T4: a byte of data, both sides -/
section
/-- a stream stays, or is shut -/
def td_L (st : Nat) (life life' co co' : Nat → Int32) (ql ql' : Nat → Nat) (ct ct' : Int32) : Prop :=
  (life' = life ∧ co' = co ∧ ql' = ql ∧ ct' = ct) ∨ (∃ x, life' = upd life st 2 ∧ co' = upd co st x ∧ ql' = pm_u ql st 0 ∧ ct' = 0)
variable {K : Nat → Nat} {R : Nat → Bool} {z : (Nat → Nat) × Nat} {fAt n so fl st h p m M l : Nat} {wi wo ql hc Q tx : Nat → Nat} {f_down f_typeSeen yf_payload yf_wants yf_name yf_first yf_counts yf_enters yf_nodes yf_values yf_skipped yf_pos yf_there yf_number yf_at : Int32} {a_payload a_life a_theyEnded a_weEnded a_finishing a_codes a_headers a_entries a_kinds a_repeats a_messageCount a_nodeCount a_nodeTypes a_valueCount a_valueOwners a_values a_skippedCount a_reader a_chainNode a_chainEnd a_nodeSize a_nodePlace ya_type ya_otherEnded ya_prefix ya_length ya_got ya_high ya_has ya_frame ya_payloads ya_table ya_nodeType ya_valueNode ya_valueNumber ya_value ya_from ya_limit ya_inside ya_sizes : Nat → Int32} {k b : Nat}
theorem td_both {post : SX → Prop} (h1 : 1 ≤ st) (h8 : st < 8) (hb : b < 256) (ho : a_life st = 1) (hO : ou_I z) (hX : cr_B tx) (hK : cr_K a_kinds a_repeats K R)
    (hM : cr_M k K R tx a_life a_messageCount a_nodeCount a_nodeTypes a_valueCount a_valueOwners a_values a_skippedCount a_reader a_chainNode a_chainEnd ya_type ya_length ya_got ya_high ya_has ya_prefix)
    (H : ∀ (life' co' : Nat → Int32) (ql' : Nat → Nat) (z' : (Nat → Nat) × Nat) (tx' : Nat → Nat) (mc' nc' nt' vc' vo' va' sk' rd' cn' ce' le' go' hi' ha' pr' : Nat → Int32) (ct' : Int32),
      cr_M (k + 1) K R tx' life' mc' nc' nt' vc' vo' va' sk' rd' cn' ce' ya_type le' go' hi' ha' pr' → ou_I z' → cr_B tx' → td_L st a_life life' a_codes co' ql ql' yf_counts ct' →
      (∀ (a : yr_Z) (t : Int32) (q : SY → Prop), (∀ (a : yr_Z) (t : Int32), q (f_down, nI h, nI p, yf_payload, yf_wants, yf_name, yf_first, ct', yf_enters, nI M, nI m, nI z'.2, nI (if l = 0 then 7 else l), a.1, a.2.1, a.2.2.1, a.2.2.2.1, t, a.2.2.2.2.1, a.2.2.2.2.2.1, a_kinds, a_repeats, life', co', an_f wi, an_f wo, ya_type, an_f hc, a_headers, an_f ql', ya_otherEnded, a_weEnded, a_finishing, an_g Q, pr', le', go', hi', mc', ha', an_g tx', ya_frame, ya_payloads, ya_table, an_g z'.1, a.2.2.2.2.2.2.1, a.2.2.2.2.2.2.2.1, a.2.2.2.2.2.2.2.2.1, a.2.2.2.2.2.2.2.2.2.1, a.2.2.2.2.2.2.2.2.2.2.1, a.2.2.2.2.2.2.2.2.2.2.2.1, a.2.2.2.2.2.2.2.2.2.2.2.2, ya_sizes)) → wpY_data q (f_down, nI h, nI p, yf_payload, yf_wants, yf_name, yf_first, yf_counts, yf_enters, nI M, nI m, nI z.2, nI (if l = 0 then 7 else l), a.1, a.2.1, a.2.2.1, a.2.2.2.1, t, a.2.2.2.2.1, a.2.2.2.2.2.1, a_kinds, a_repeats, a_life, a_codes, an_f wi, an_f wo, ya_type, an_f hc, a_headers, an_f ql, ya_otherEnded, a_weEnded, a_finishing, an_g Q, ya_prefix, ya_length, ya_got, ya_high, a_messageCount, ya_has, an_g tx, ya_frame, ya_payloads, ya_table, an_g z.1, a.2.2.2.2.2.2.1, a.2.2.2.2.2.2.2.1, a.2.2.2.2.2.2.2.2.1, a.2.2.2.2.2.2.2.2.2.1, a.2.2.2.2.2.2.2.2.2.2.1, a.2.2.2.2.2.2.2.2.2.2.2.1, a.2.2.2.2.2.2.2.2.2.2.2.2, ya_sizes) (nI st) (nI b)) →
      post (nI fAt, nI n, nI so, nI fl, nI st, f_down, nI m, nI M, f_typeSeen, nI l, nI z'.2, a_payload, life', a_theyEnded, a_weEnded, a_finishing, co', an_f wi, an_f wo, a_headers, an_f hc, a_entries, a_kinds, a_repeats, mc', an_f tx', nc', nt', vc', vo', va', sk', rd', cn', ce', an_f Q, an_f ql', an_f z'.1, a_nodeSize, a_nodePlace)) :
    wpX_takeData post (nI fAt, nI n, nI so, nI fl, nI st, f_down, nI m, nI M, f_typeSeen, nI l, nI z.2, a_payload, a_life, a_theyEnded, a_weEnded, a_finishing, a_codes, an_f wi, an_f wo, a_headers, an_f hc, a_entries, a_kinds, a_repeats, a_messageCount, an_f tx, a_nodeCount, a_nodeTypes, a_valueCount, a_valueOwners, a_values, a_skippedCount, a_reader, a_chainNode, a_chainEnd, an_f Q, an_f ql, an_f z.1, a_nodeSize, a_nodePlace) (nI b) := by
  obtain ⟨p, mm, y, g1, g2, g3, g4, g5, g6, g7, g8, g9, g10, g11, g12⟩ := hM st h1 h8
  have g10' := g10 (Or.inl ho)
  obtain ⟨c1, c2⟩ := xr_c8 h8
  have i0 := xr_ix (s := st) (k := 0) h8 (by omega)
  have c0 : (nI (11 * st) + 0).toNatClampNeg = 11 * st := i0.2.2
  have eq : upd (an_f ql) st 0 = an_f (pm_u ql st 0) := an_fu ql st 0
  have l2 : upd a_life st 2 st = 2 := pk_us
  unfold wpX_takeData
  dsimp only
  rw [c2, i0.1, c0, g3]
  refine ⟨c1, br_t ho ⟨i0.2.1, ?_⟩⟩
  have hp : p = 0 ∨ p = 1 ∨ p = 2 ∨ p = 3 := by omega
  rcases hp with e | e | e | e
  · subst e
    refine br_f (by decide) (xp_1 h8 hb g3 (fun w => ?_) (fun w => ?_))
    · dsimp only
      unfold wX_takeData_48
      refine br_f (by decide) (xo_failS (c := 7) h8 hO.1 ?_)
      rw [eq]
      refine H (upd a_life st 2) (upd a_codes st (nI 7)) (pm_u ql st 0) (ou_L z [1, 2, 0, st, 7]) tx a_messageCount a_nodeCount a_nodeTypes a_valueCount a_valueOwners a_values a_skippedCount (upd a_reader (11 * st) (nI 1)) a_chainNode a_chainEnd ya_length ya_got ya_high ya_has (upd ya_prefix st (nI 1)) 0 ?_ (td_z hO h8 (by omega)) hX (Or.inr ⟨_, rfl, rfl, rfl, rfl⟩) (fun a t q hq => ?_)
      · exact td_M hM h8 (td_low (p := 0) (p' := 1) (life := a_life) (by omega) (by omega) (by rw [l2]; decide) (fun w => absurd (l2.symm.trans w) (by decide)) pk_us pk_us g4 g5 g6 g7 (fun w => absurd w (by omega)) g10 g11) (td_fr0 (xr_O_u (i := 0) (by omega))) (fun _ _ => rfl) td_u td_r td_r td_r td_r td_u
      · refine yd_7 (by omega) h8 hb hO.1 w g2 ?_
        rw [eq]
        exact hq a t
    · subst w
      dsimp only
      unfold wX_takeData_48
      refine br_t rfl ?_
      refine H a_life a_codes ql z tx a_messageCount a_nodeCount a_nodeTypes a_valueCount a_valueOwners a_values a_skippedCount (upd a_reader (11 * st) (nI 1)) a_chainNode a_chainEnd ya_length ya_got ya_high ya_has (upd ya_prefix st (nI 1)) yf_counts ?_ hO hX (Or.inl ⟨rfl, rfl, rfl, rfl⟩) (fun a t q hq => yd_0 h8 g2 (hq a t))
      exact td_M hM h8 (td_low (p := 0) (p' := 1) (life := a_life) (by omega) (by omega) (by rw [ho]; decide) id pk_us pk_us g4 g5 g6 g7 (fun w => absurd w (by omega)) g10 g11) (td_fr0 (xr_O_u (i := 0) (by omega))) (fun _ _ => rfl) td_r td_r td_r td_r td_r td_u
  · subst e
    refine br_f (by decide) (xp_2 h8 hb g3 ?_)
    dsimp only
    unfold wX_takeData_48
    refine br_t rfl ?_
    refine H a_life a_codes ql z tx a_messageCount a_nodeCount a_nodeTypes a_valueCount a_valueOwners a_values a_skippedCount (upd (upd a_reader (11 * st) (nI 2)) (11 * st + 1) (nI (256 * b))) a_chainNode a_chainEnd ya_length ya_got (upd ya_high st (nI b)) ya_has (upd ya_prefix st (nI 2)) yf_counts ?_ hO hX (Or.inl ⟨rfl, rfl, rfl, rfl⟩) (fun a t q hq => yd_1 h8 g2 (hq a t))
    exact td_M hM h8 (td_low (p := 1) (p' := 2) (life := a_life) (by omega) (by omega) (by rw [ho]; decide) id pk_us ((pk_un (by omega)).trans pk_us) g4 g5 g6 g7 (fun _ => ⟨b, hb, pk_us, pk_us⟩) g10 g11) (td_fr0 (xr_O_t (xr_O_u (i := 0) (by omega)) (xr_O_u (i := 1) (by omega)))) (fun _ _ => rfl) td_r td_r td_r td_u td_r td_u
  · subst e
    obtain ⟨x, x1, x2, x3⟩ := g9 rfl
    have r3 : upd (upd a_reader (11 * st) (nI 3)) (11 * st + 1) (nI (256 * x + b)) (11 * st) = nI 3 := (pk_un (by omega)).trans pk_us
    refine br_f (by decide) (xp_3 (B := cr_by tx st) (K := K) (R := R) (L := 256 * x + b) h8 hb x1 g6 g3 x3 rfl g10'.2 (fun w => ?_) (fun w mc' nc' vc' sk' rd' cn' ce' o1 o2 o3 o4 o5 o6 o7 sp => ?_))
    · dsimp only
      unfold wX_takeData_48
      refine br_f (by decide) (xo_failS (c := 8) h8 hO.1 ?_)
      rw [eq]
      refine H (upd a_life st 2) (upd a_codes st (nI 8)) (pm_u ql st 0) (ou_L z [1, 2, 0, st, 8]) tx a_messageCount a_nodeCount a_nodeTypes a_valueCount a_valueOwners a_values a_skippedCount (upd (upd a_reader (11 * st) (nI 3)) (11 * st + 1) (nI (256 * x + b))) a_chainNode a_chainEnd (upd ya_length st (nI (256 * x + b))) (upd ya_got st (nI 0)) ya_high (upd ya_has st 0) (upd ya_prefix st (nI 3)) 0 ?_ (td_z hO h8 (by omega)) hX (Or.inr ⟨_, rfl, rfl, rfl, rfl⟩) (fun a t q hq => ?_)
      · exact td_M hM h8 (td_bad l2 pk_us r3 g4 g5 g6 pk_us) (td_fr0 (xr_O_t (xr_O_u (i := 0) (by omega)) (xr_O_u (i := 1) (by omega)))) (fun _ _ => rfl) td_u td_u td_u td_r td_u td_u
      · refine yd_2 (by omega) h8 hb x1 hO.1 rfl g2 x2 (fun _ => ?_) (fun w' => by omega) (fun _ w' => by omega)
        rw [eq]
        exact hq a t
    · dsimp only
      unfold wX_takeData_48
      refine br_t rfl ?_
      rcases sp with ⟨s1, _⟩ | ⟨_, s2, s3, s4, _⟩ | ⟨_, s2, s3, s4, s5⟩
      · exact absurd rfl s1
      · subst s2
        have hpos : 0 < 256 * x + b := by
          obtain ⟨_, _, _, _, _, _, _, hlt, _⟩ := s4
          exact hlt
        refine H a_life a_codes ql z tx mc' nc' a_nodeTypes vc' a_valueOwners a_values sk' rd' cn' ce' (upd ya_length st (nI (256 * x + b))) (upd ya_got st (nI 0)) ya_high (upd ya_has st 0) (upd ya_prefix st (nI 3)) yf_counts ?_ hO hX (Or.inl ⟨rfl, rfl, rfl, rfl⟩) (fun a t q hq => ?_)
        · exact td_M hM h8 (td_inc w ho pk_us (s3.trans r3) g4 g5 g6 pk_us g10' pk_us pk_us s4) ⟨xr_O_r, o2, xr_O_r, o3, xr_O_r, xr_O_r, o4, o5, o6, o7, rfl⟩ (fun _ _ => rfl) td_r td_u td_u td_r td_u td_u
        · exact yd_2 (by omega) h8 hb x1 hO.1 rfl g2 x2 (fun w' => by omega) (fun w' => by omega) (fun _ _ => hq a t)
      · subst s3
        refine H a_life a_codes ql z tx (upd a_messageCount st (a_messageCount st + 1)) nc' a_nodeTypes vc' a_valueOwners a_values sk' rd' cn' ce' (upd ya_length st (nI (256 * x + b))) (upd ya_got st (nI 0)) ya_high (upd (upd ya_has st 0) st 1) (upd (upd ya_prefix st (nI 3)) st 0) yf_counts ?_ hO hX (Or.inl ⟨rfl, rfl, rfl, rfl⟩) (fun a t q hq => ?_)
        · exact td_M hM h8 (td_done w ho pk_us s4 g4 (by rw [pk_us, g5, nI_1]) g6 pk_us g10' pk_us (by rw [pk_us, ← s2]) s5) ⟨xr_O_1, o2, xr_O_r, o3, xr_O_r, xr_O_r, o4, o5, o6, o7, rfl⟩ (fun _ _ => rfl) td_r td_u td_u td_r td_uu td_uu
        · exact yd_2 (by omega) h8 hb x1 hO.1 rfl g2 x2 (fun w' => by omega) (fun _ => hq a t) (fun w' => by omega)
  · subst e
    obtain ⟨L, t, l1, l2', l3, inc⟩ := g12 rfl ho
    have htL : t < L := by
      obtain ⟨_, _, _, _, _, _, _, hlt, _⟩ := inc
      exact hlt
    have ha0 : ya_has st = 0 := by rw [g7, if_neg (fun w => absurd w.2 (by omega))]
    have hB : ∀ i, i < t → cr_by (pm_u tx (200 * st + t) b) st i = cr_by tx st i := by
      intro i hi
      unfold cr_by
      rw [if_pos (by omega), if_pos (by omega), pm_un (by omega)]
    have hb1 : cr_by (pm_u tx (200 * st + t) b) st t = b := by
      unfold cr_by
      rw [if_pos (by omega), pm_us]
    have htx : ∀ j, j < 200 * st ∨ 200 * st + 200 ≤ j → pm_u tx (200 * st + t) b j = tx j := fun j hj => pm_un (by omega)
    refine br_t (by decide) (xb_byte (B := cr_by tx st) (B1 := cr_by (pm_u tx (200 * st + t) b) st) h8 l1 hK hb hB hb1 inc (fun code mc' nc' nt' vc' vo' va' sk' rd' cn' ce' fr sp => ?_))
    have hnt : nt' (16 * st) = nI y := fr.2.2.2.2.2.2.2.2.2.2.trans g10'.2
    dsimp only
    unfold wX_takeData_48
    rcases sp with ⟨s1, s2, s3, s4, r, s5, s6⟩ | ⟨s1, s2, s3, s4, r, s5, s6⟩ | ⟨s1, s2, s3, s4, s5⟩
    · rw [if_neg s1]
      subst s3
      have hne : ¬ nI (10 + code) = 0 := by
        intro e
        have := (nI_eq (a := 10 + code) (b := 0) (by omega) (by omega)).mp e
        omega
      refine br_f hne (xo_failS (c := 10 + code) h8 hO.1 ?_)
      rw [eq]
      refine H (upd a_life st 2) (upd a_codes st (nI (10 + code))) (pm_u ql st 0) (ou_L z [1, 2, 0, st, 10 + code]) (pm_u tx (200 * st + t) b) mc' nc' nt' vc' vo' va' sk' rd' cn' ce' ya_length (upd ya_got st (nI (t + 1))) ya_high ya_has ya_prefix 0 ?_ (td_z hO h8 (by omega)) (td_BB hb hX) (Or.inr ⟨_, rfl, rfl, rfl, rfl⟩) (fun a t' q hq => ?_)
      · exact td_M hM h8 (td_bad l2 g2 (s4.trans g3) g4 g5 g6 ha0) fr htx td_u td_r td_u td_r td_r td_r
      · refine yd_3 (r := r) (by omega) h8 hb g6 l1 htL hO.1 hK hX g2 l3 l2' g10'.1 s5 (Or.inl (by omega)) (fun a' _ _ => ?_) (fun _ w _ => by omega) (fun _ w _ => by omega)
        rw [eq, s6]
        exact hq a' _
    · subst s1
      subst s2
      rw [if_pos rfl]
      refine br_t rfl ?_
      have hlt : t + 1 < L := by
        obtain ⟨_, _, _, _, _, _, _, hlt, _⟩ := s4
        exact hlt
      refine H a_life a_codes ql z (pm_u tx (200 * st + t) b) mc' nc' nt' vc' vo' va' sk' rd' cn' ce' ya_length (upd ya_got st (nI (t + 1))) ya_high ya_has ya_prefix yf_counts ?_ hO (td_BB hb hX) (Or.inl ⟨rfl, rfl, rfl, rfl⟩) (fun a t' q hq => ?_)
      · exact td_M hM h8 (td_inc l1 ho g2 (s3.trans g3) g4 g5 g6 ha0 ⟨g10'.1, hnt⟩ l2' pk_us s4) fr htx td_r td_r td_u td_r td_r td_r
      · exact yd_3 (r := r) (by omega) h8 hb g6 l1 htL hO.1 hK hX g2 l3 l2' g10'.1 s5 (Or.inr s6) (fun a' _ w => absurd s6 w) (fun a' _ _ => hq a' _) (fun _ _ w => by omega)
    · subst s1
      subst s3
      rw [if_pos rfl]
      refine br_t rfl ?_
      refine H a_life a_codes ql z (pm_u tx (200 * st + t) b) (upd a_messageCount st (a_messageCount st + 1)) nc' nt' vc' vo' va' sk' rd' cn' ce' ya_length (upd ya_got st (nI (t + 1))) ya_high (upd ya_has st 1) (upd ya_prefix st 0) yf_counts ?_ hO (td_BB hb hX) (Or.inl ⟨rfl, rfl, rfl, rfl⟩) (fun a t' q hq => ?_)
      · exact td_M hM h8 (td_done l1 ho pk_us s4 g4 (by rw [pk_us, g5, nI_1]) g6 pk_us ⟨g10'.1, hnt⟩ l2' (by rw [pk_us, s2]) s5) fr htx td_r td_r td_u td_r td_u td_u
      · obtain ⟨dep, c, d1, d2, d3⟩ := s5
        exact yd_3 (r := (0, c)) (by omega) h8 hb g6 l1 htL hO.1 hK hX g2 l3 l2' g10'.1 (by rw [s2]; exact d1) (Or.inl (Nat.zero_le _)) (fun a' w _ => absurd rfl w) (fun _ _ w => absurd s2 w) (fun a' _ _ => hq a' _)
end
end
section
/-! T5: the head of a frame -/
section
variable {f_frameAt f_frameLength f_frameSort f_frameFlags f_frameStream f_down f_entryCount f_most f_typeSeen f_lastSender f_sentLength : Int32} {a_payload a_life a_theyEnded a_weEnded a_finishing a_codes a_windowIn a_windowOut a_headers a_headerCount a_entries a_kinds a_repeats a_messageCount a_text a_nodeCount a_nodeTypes a_valueCount a_valueOwners a_values a_skippedCount a_reader a_chainNode a_chainEnd a_queue a_queueLength a_sent a_nodeSize a_nodePlace : Nat → Int32} {yf_down yf_heads yf_paid yf_payload yf_wants yf_name yf_first yf_counts yf_enters yf_most yf_many yf_sent yf_last yf_nodes yf_values yf_skipped yf_pos yf_there yf_number yf_at : Int32} {ya_kind ya_repeated ya_how ya_code ya_coming ya_going ya_type ya_headers ya_header ya_queued ya_otherEnded ya_ended ya_finishing ya_queue ya_prefix ya_length ya_got ya_high ya_whole ya_has ya_bytes ya_frame ya_payloads ya_table ya_out ya_nodeType ya_valueNode ya_valueNumber ya_value ya_from ya_limit ya_inside ya_sizes : Nat → Int32} {n so st : Nat} {wi : Nat → Nat} {z : (Nat → Nat) × Nat}
/-- a stream behind is no longer idle -/
def fb_q (life : Nat → Int32) : Nat → Nat → Bool
  | 0, _ => false
  | f + 1, t => if life t = 0 then fb_q life f (t + 1) else true
/-- the error of the connection, or 0 -/
def fb_c (life : Nat → Int32) (n so st w0 : Nat) : Nat :=
  if 63 < n then 1 else if 5 < so then 0 else if 7 < st then 2 else
  if so = 0 then (if st = 0 then 2 else if life st = 0 then 2 else if w0 < n then 3 else 0)
  else if so = 1 then (if st = 0 then 2 else if life st = 0 ∧ fb_q life (7 - st) (st + 1) = true then 2 else 0)
  else if so = 5 then 0 else if n ≠ 1 then 1 else if so = 4 then (if 0 < st then 2 else 0) else (if 0 < st ∧ life st = 0 then 2 else if st = 0 ∧ so = 2 then 2 else 0)
theorem xh_pass {post : Int32 → Prop} : ∀ f t m, t + f = 8 → f < m → post (if fb_q a_life f t = true then 1 else 0) → wX_isPassed_4 post f_frameAt f_frameLength f_frameSort f_frameFlags f_frameStream f_down f_entryCount f_most f_typeSeen f_lastSender f_sentLength a_payload a_life a_theyEnded a_weEnded a_finishing a_codes a_windowIn a_windowOut a_headers a_headerCount a_entries a_kinds a_repeats a_messageCount a_text a_nodeCount a_nodeTypes a_valueCount a_valueOwners a_values a_skippedCount a_reader a_chainNode a_chainEnd a_queue a_queueLength a_sent a_nodeSize a_nodePlace m (nI t)
  | _, _, 0, _, h, _ => absurd h (by omega)
  | 0, t, m + 1, ht, _, H => by
    rw [wX_isPassed_4]
    exact pk_le 8 t (fun _ => H) (fun w => absurd w (by omega))
  | f + 1, t, m + 1, ht, hm, H => by
    rw [wX_isPassed_4]
    refine pk_le 8 t (fun w => absurd w (by omega)) (fun _ => ⟨vp_in_nI (by omega) (by omega), ?_⟩)
    rw [nI_clamp (by omega)]
    refine br_c (fun y => nm_r (nI_1 t) (xh_pass f (t + 1) m (by omega) (by omega) ?_)) (fun y => ?_)
    · rw [fb_q, if_pos y] at H; exact H
    · rw [fb_q, if_neg y, if_pos rfl] at H; exact H
theorem yh_pass {post : Int32 → Prop} (hs : st < 8) : ∀ f t m, t + f = 8 → f < m → post (if ya_how st = 0 ∧ fb_q ya_how f t = true then 1 else 0) → wY_idleBelow_4 post (nI st) yf_down yf_heads yf_paid yf_payload yf_wants yf_name yf_first yf_counts yf_enters yf_most yf_many yf_sent yf_last yf_nodes yf_values yf_skipped yf_pos yf_there yf_number yf_at ya_kind ya_repeated ya_how ya_code ya_coming ya_going ya_type ya_headers ya_header ya_queued ya_otherEnded ya_ended ya_finishing ya_queue ya_prefix ya_length ya_got ya_high ya_whole ya_has ya_bytes ya_frame ya_payloads ya_table ya_out ya_nodeType ya_valueNode ya_valueNumber ya_value ya_from ya_limit ya_inside ya_sizes m (nI t)
  | _, _, 0, _, h, _ => absurd h (by omega)
  | 0, t, m + 1, ht, _, H => by
    rw [wY_idleBelow_4]
    rw [if_neg (fun w => absurd w.2 Bool.false_ne_true)] at H
    exact pk_le 8 t (fun _ => H) (fun w => absurd w (by omega))
  | f + 1, t, m + 1, ht, hm, H => by
    rw [wY_idleBelow_4]
    refine pk_le 8 t (fun w => absurd w (by omega)) (fun _ => ⟨vp_in_nI (by omega) (by omega), ?_⟩)
    rw [nI_clamp (by omega), nI_clamp (by omega)]
    refine br_c (fun y => nm_r (nI_1 t) (yh_pass hs f (t + 1) m (by omega) (by omega) ?_)) (fun y => ⟨vp_in_nI hs (by omega), br_c (fun y2 => ?_) (fun y2 => ?_)⟩)
    · rw [fb_q, if_pos y] at H; exact H
    · rw [fb_q, if_neg y, if_pos ⟨y2, rfl⟩] at H; exact H
    · rw [if_neg (fun w => y2 w.1)] at H; exact H
theorem xh_52 {post : Int32 → Prop} {x : Int32} (hn : n ≤ 63) (hso : so ≤ 5) (hs : st ≤ 7) (hw : wi 0 ≤ 255) (hx : (x = 0 ∧ ¬ (0 < st ∧ a_life st = 0)) ∨ (x = 1 ∧ 0 < st ∧ a_life st = 0))
    (H : post (nI (fb_c a_life n so st (wi 0)))) : wX_headFault_52 post (nI st) x f_frameAt (nI n) (nI so) f_frameFlags (nI st) f_down f_entryCount f_most f_typeSeen f_lastSender f_sentLength a_payload a_life a_theyEnded a_weEnded a_finishing a_codes (an_f wi) a_windowOut a_headers a_headerCount a_entries a_kinds a_repeats a_messageCount a_text a_nodeCount a_nodeTypes a_valueCount a_valueOwners a_values a_skippedCount a_reader a_chainNode a_chainEnd a_queue a_queueLength a_sent a_nodeSize a_nodePlace := by
  rw [fb_c, if_neg (by omega), if_neg (by omega), if_neg (by omega)] at H
  unfold wX_headFault_52
  refine pk_eq so 0 (fun e0 => ?_) (fun e0 => ?_)
  · rw [if_pos e0] at H
    refine pk_eq st 0 (fun f0 => ?_) (fun f0 => ?_)
    · rw [if_pos f0] at H; exact H
    · rw [if_neg f0] at H
      rcases hx with ⟨hx, y⟩ | ⟨hx, _, y⟩
      · rw [if_neg (fun w => y ⟨by omega, w⟩)] at H
        refine br_t hx (pk_le n (wi 0) (fun w => ?_) (fun w => ?_))
        · rw [if_neg (by omega)] at H; exact H
        · rw [if_pos w] at H; exact H
      · rw [if_pos y] at H
        exact br_f (by rw [hx]; decide) H
  · rw [if_neg e0] at H
    refine pk_eq so 1 (fun e1 => ?_) (fun e1 => ?_)
    · rw [if_pos e1] at H
      refine pk_eq st 0 (fun f0 => ?_) (fun f0 => ?_)
      · rw [if_pos f0] at H; exact H
      · rw [if_neg f0] at H
        rcases hx with ⟨hx, y⟩ | ⟨hx, _, y⟩
        · rw [if_neg (fun w => y ⟨by omega, w.1⟩)] at H
          exact br_t hx H
        · refine br_f (by rw [hx]; decide) ?_
          unfold wpX_isPassed
          refine nm_r (nI_1 st) ⟨9, xh_pass (7 - st) (st + 1) 9 (by omega) (by omega) ?_⟩
          by_cases hq : fb_q a_life (7 - st) (st + 1) = true
          · rw [if_pos ⟨y, hq⟩] at H
            rw [if_pos hq]
            exact br_f (by decide) H
          · rw [if_neg (fun w => hq w.2)] at H
            rw [if_neg hq]
            exact br_t rfl H
    · rw [if_neg e1] at H
      refine pk_eq so 5 (fun e5 => ?_) (fun e5 => ?_)
      · rw [if_pos e5] at H; exact H
      · rw [if_neg e5] at H
        refine pk_eq n 1 (fun en => ?_) (fun en => ?_)
        · rw [if_neg (by omega)] at H
          refine pk_eq so 4 (fun e4 => ?_) (fun e4 => ?_)
          · rw [if_pos e4] at H
            refine pk_le st 0 (fun w => ?_) (fun w => ?_)
            · rw [if_neg (by omega)] at H; exact H
            · rw [if_pos w] at H; exact H
          · rw [if_neg e4] at H
            rcases hx with ⟨hx, y⟩ | ⟨hx, y1, y⟩
            · rw [if_neg y] at H
              refine br_t hx (pk_eq st 0 (fun w => pk_eq so 2 (fun w2 => ?_) (fun w2 => ?_)) (fun w => ?_))
              · rw [if_pos ⟨w, w2⟩] at H; exact H
              · rw [if_neg (fun q => w2 q.2)] at H; exact H
              · rw [if_neg (fun q => w q.1)] at H; exact H
            · rw [if_pos ⟨y1, y⟩] at H
              exact br_f (by rw [hx]; decide) H
        · rw [if_pos en] at H; exact H
theorem xh_fault {post : Int32 → Prop} (hn : n < 256) (hso : so < 256) (hs : st < 256) (hw : wi 0 ≤ 255)
    (H : post (nI (fb_c a_life n so st (wi 0)))) : wpX_headFault post (f_frameAt, nI n, nI so, f_frameFlags, nI st, f_down, f_entryCount, f_most, f_typeSeen, f_lastSender, f_sentLength, a_payload, a_life, a_theyEnded, a_weEnded, a_finishing, a_codes, an_f wi, a_windowOut, a_headers, a_headerCount, a_entries, a_kinds, a_repeats, a_messageCount, a_text, a_nodeCount, a_nodeTypes, a_valueCount, a_valueOwners, a_values, a_skippedCount, a_reader, a_chainNode, a_chainEnd, a_queue, a_queueLength, a_sent, a_nodeSize, a_nodePlace) := by
  unfold wpX_headFault
  refine pk_le n 63 (fun w1 => pk_le so 5 (fun w2 => pk_le st 7 (fun w3 => pk_le st 0 (fun w4 => ?_) (fun w4 => ?_)) (fun w3 => ?_)) (fun w2 => ?_)) (fun w1 => ?_)
  · unfold wX_headFault_51
    exact xh_52 w1 w2 w3 hw (Or.inl ⟨rfl, fun q => by omega⟩) H
  · refine ⟨vp_in_nI (by omega) (by omega), ?_⟩
    rw [nI_clamp (by omega)]
    refine br_c (fun y => ?_) (fun y => ?_)
    · exact xh_52 w1 w2 w3 hw (Or.inr ⟨rfl, w4, y⟩) H
    · unfold wX_headFault_51
      exact xh_52 w1 w2 w3 hw (Or.inl ⟨rfl, fun q => y q.2⟩) H
  · rw [fb_c, if_neg (by omega), if_neg (by omega), if_pos w3] at H; exact H
  · rw [fb_c, if_neg (by omega), if_pos w2] at H; exact H
  · rw [fb_c, if_pos w1] at H; exact H
theorem yh_58 {post : SY → Prop} {x ct : Int32} (hct : ct = 0 ∨ ct = 1) (hn : n < 256) (hso : so < 256) (hs : st < 256) (hw : wi 0 ≤ 255) (hx : (x = 0 ∧ ¬ (0 < st ∧ st < 8 ∧ ya_how st = 0)) ∨ (x = 1 ∧ 0 < st ∧ ya_how st = 0))
    (H : wY_begin_212 post (nI n) (nI so) (nI st) (nI (fb_c ya_how n so st (wi 0))) yf_down yf_heads yf_paid yf_payload yf_wants yf_name yf_first (ct) yf_enters yf_most yf_many yf_sent yf_last yf_nodes yf_values yf_skipped yf_pos yf_there yf_number yf_at ya_kind ya_repeated ya_how ya_code (an_f wi) ya_going ya_type ya_headers ya_header ya_queued ya_otherEnded ya_ended ya_finishing ya_queue ya_prefix ya_length ya_got ya_high ya_whole ya_has ya_bytes ya_frame ya_payloads ya_table ya_out ya_nodeType ya_valueNode ya_valueNumber ya_value ya_from ya_limit ya_inside ya_sizes) : wY_begin_58 post (nI n) (nI so) (nI st) x ct yf_down yf_heads yf_paid yf_payload yf_wants yf_name yf_first yf_counts yf_enters yf_most yf_many yf_sent yf_last yf_nodes yf_values yf_skipped yf_pos yf_there yf_number yf_at ya_kind ya_repeated ya_how ya_code (an_f wi) ya_going ya_type ya_headers ya_header ya_queued ya_otherEnded ya_ended ya_finishing ya_queue ya_prefix ya_length ya_got ya_high ya_whole ya_has ya_bytes ya_frame ya_payloads ya_table ya_out ya_nodeType ya_valueNode ya_valueNumber ya_value ya_from ya_limit ya_inside ya_sizes := by
  unfold wY_begin_58
  refine ⟨?_, ?_, ?_⟩
  · rcases hct with e | e <;> rw [e] <;> rfl
  · rcases hct with e | e <;> rw [e] <;> rfl
  refine pk_le n 63 (fun w1 => pk_le so 5 (fun w2 => pk_le st 7 (fun w3 => ?_) (fun w3 => ?_)) (fun w2 => ?_)) (fun w1 => ?_)
  · rw [fb_c, if_neg (by omega), if_neg (by omega), if_neg (by omega)] at H
    refine pk_eq so 0 (fun e0 => ?_) (fun e0 => ?_)
    · rw [if_pos e0] at H
      refine pk_eq st 0 (fun f0 => ?_) (fun f0 => ?_)
      · rw [if_pos f0] at H; exact H
      · rw [if_neg f0] at H
        rcases hx with ⟨hx, y⟩ | ⟨hx, _, y⟩
        · rw [if_neg (fun w => y ⟨by omega, by omega, w⟩)] at H
          refine br_t hx (pk_le n (wi 0) (fun w => ?_) (fun w => ?_))
          · rw [if_neg (by omega)] at H; exact H
          · rw [if_pos w] at H; exact H
        · rw [if_pos y] at H
          exact br_f (by rw [hx]; decide) H
    · rw [if_neg e0] at H
      refine pk_eq so 1 (fun e1 => ?_) (fun e1 => ?_)
      · rw [if_pos e1] at H
        refine pk_eq st 0 (fun f0 => ?_) (fun f0 => ?_)
        · rw [if_pos f0] at H; exact H
        · rw [if_neg f0] at H
          unfold wpY_idleBelow
          refine nm_r (nI_1 st) ⟨9, yh_pass (by omega) (7 - st) (st + 1) 9 (by omega) (by omega) ?_⟩
          by_cases hq : ya_how st = 0 ∧ fb_q ya_how (7 - st) (st + 1) = true
          · rw [if_pos hq] at H
            rw [if_pos hq]
            exact br_f (by decide) H
          · rw [if_neg hq] at H
            rw [if_neg hq]
            exact br_t rfl H
      · rw [if_neg e1] at H
        refine pk_le 5 so (fun e5 => ?_) (fun e5 => ?_)
        · rw [if_pos (by omega)] at H; exact H
        · rw [if_neg (by omega)] at H
          refine pk_eq n 1 (fun en => ?_) (fun en => ?_)
          · rw [if_neg (by omega)] at H
            have h196 : (so = 4 → st = 0 → wY_begin_209 post (nI n) (nI so) (nI st) yf_down yf_heads yf_paid yf_payload yf_wants yf_name yf_first (ct) yf_enters yf_most yf_many yf_sent yf_last yf_nodes yf_values yf_skipped yf_pos yf_there yf_number yf_at ya_kind ya_repeated ya_how ya_code (an_f wi) ya_going ya_type ya_headers ya_header ya_queued ya_otherEnded ya_ended ya_finishing ya_queue ya_prefix ya_length ya_got ya_high ya_whole ya_has ya_bytes ya_frame ya_payloads ya_table ya_out ya_nodeType ya_valueNode ya_valueNumber ya_value ya_from ya_limit ya_inside ya_sizes) → (so = 4 → 0 < st → wY_begin_205 post (nI n) (nI so) (nI st) yf_down yf_heads yf_paid yf_payload yf_wants yf_name yf_first (ct) yf_enters yf_most yf_many yf_sent yf_last yf_nodes yf_values yf_skipped yf_pos yf_there yf_number yf_at ya_kind ya_repeated ya_how ya_code (an_f wi) ya_going ya_type ya_headers ya_header ya_queued ya_otherEnded ya_ended ya_finishing ya_queue ya_prefix ya_length ya_got ya_high ya_whole ya_has ya_bytes ya_frame ya_payloads ya_table ya_out ya_nodeType ya_valueNode ya_valueNumber ya_value ya_from ya_limit ya_inside ya_sizes) →
                (so ≠ 4 → wY_begin_209 post (nI n) (nI so) (nI st) yf_down yf_heads yf_paid yf_payload yf_wants yf_name yf_first (ct) yf_enters yf_most yf_many yf_sent yf_last yf_nodes yf_values yf_skipped yf_pos yf_there yf_number yf_at ya_kind ya_repeated ya_how ya_code (an_f wi) ya_going ya_type ya_headers ya_header ya_queued ya_otherEnded ya_ended ya_finishing ya_queue ya_prefix ya_length ya_got ya_high ya_whole ya_has ya_bytes ya_frame ya_payloads ya_table ya_out ya_nodeType ya_valueNode ya_valueNumber ya_value ya_from ya_limit ya_inside ya_sizes) → wY_begin_196 post (nI n) (nI so) (nI st) yf_down yf_heads yf_paid yf_payload yf_wants yf_name yf_first (ct) yf_enters yf_most yf_many yf_sent yf_last yf_nodes yf_values yf_skipped yf_pos yf_there yf_number yf_at ya_kind ya_repeated ya_how ya_code (an_f wi) ya_going ya_type ya_headers ya_header ya_queued ya_otherEnded ya_ended ya_finishing ya_queue ya_prefix ya_length ya_got ya_high ya_whole ya_has ya_bytes ya_frame ya_payloads ya_table ya_out ya_nodeType ya_valueNode ya_valueNumber ya_value ya_from ya_limit ya_inside ya_sizes := by
              intro k1 k2 k3
              unfold wY_begin_196
              exact pk_eq so 4 (fun w => pk_le st 0 (fun w' => k1 w (by omega)) (fun w' => k2 w w')) (fun w => k3 w)
            refine pk_eq so 2 (fun e2 => pk_eq st 0 (fun f0 => ?_) (fun f0 => ?_)) (fun e2 => ?_)
            · rw [if_neg (by omega), if_neg (by omega), if_pos ⟨f0, e2⟩] at H; exact H
            · rw [if_neg (by omega)] at H
              unfold wY_begin_186
              refine pk_le 4 so (fun w => by omega) (fun _ => ?_)
              rcases hx with ⟨hx, y⟩ | ⟨hx, y1, y⟩
              · rw [if_neg (fun w => y ⟨w.1, by omega, w.2⟩), if_neg (fun w => f0 w.1)] at H
                exact br_t hx (h196 (fun w => by omega) (fun w => by omega) (fun _ => H))
              · rw [if_pos ⟨y1, y⟩] at H
                exact br_f (by rw [hx]; decide) H
            · unfold wY_begin_186
              refine pk_le 4 so (fun w => ?_) (fun w => ?_)
              · rw [if_pos (by omega)] at H
                refine h196 (fun _ f0 => ?_) (fun _ f0 => ?_) (fun w' => by omega)
                · rw [if_neg (by omega)] at H; exact H
                · rw [if_pos f0] at H; exact H
              · rw [if_neg (by omega)] at H
                rcases hx with ⟨hx, y⟩ | ⟨hx, y1, y⟩
                · rw [if_neg (fun w => y ⟨w.1, by omega, w.2⟩), if_neg (fun w => e2 w.2)] at H
                  exact br_t hx (h196 (fun w => by omega) (fun w => by omega) (fun _ => H))
                · rw [if_pos ⟨y1, y⟩] at H
                  exact br_f (by rw [hx]; decide) H
          · rw [if_pos en] at H; exact H
  · rw [fb_c, if_neg (by omega), if_neg (by omega), if_pos w3] at H; exact H
  · rw [fb_c, if_neg (by omega), if_pos w2] at H; exact H
  · rw [fb_c, if_pos w1] at H; exact H
theorem yh_begin {post : SY → Prop} (hn : n < 256) (hso : so < 256) (hs : st < 256) (hw : wi 0 ≤ 255) (f0 : ya_frame 0 = nI n) (f1 : ya_frame 1 = nI so) (f3 : ya_frame 3 = nI st)
    (H : wY_begin_212 post (nI n) (nI so) (nI st) (nI (fb_c ya_how n so st (wi 0))) yf_down yf_heads yf_paid yf_payload yf_wants yf_name yf_first (if so < 5 then 1 else 0) yf_enters yf_most yf_many yf_sent yf_last yf_nodes yf_values yf_skipped yf_pos yf_there yf_number yf_at ya_kind ya_repeated ya_how ya_code (an_f wi) ya_going ya_type ya_headers ya_header ya_queued ya_otherEnded ya_ended ya_finishing ya_queue ya_prefix ya_length ya_got ya_high ya_whole ya_has ya_bytes ya_frame ya_payloads ya_table ya_out ya_nodeType ya_valueNode ya_valueNumber ya_value ya_from ya_limit ya_inside ya_sizes) : wpY_begin post (yf_down, yf_heads, yf_paid, yf_payload, yf_wants, yf_name, yf_first, yf_counts, yf_enters, yf_most, yf_many, yf_sent, yf_last, yf_nodes, yf_values, yf_skipped, yf_pos, yf_there, yf_number, yf_at, ya_kind, ya_repeated, ya_how, ya_code, an_f wi, ya_going, ya_type, ya_headers, ya_header, ya_queued, ya_otherEnded, ya_ended, ya_finishing, ya_queue, ya_prefix, ya_length, ya_got, ya_high, ya_whole, ya_has, ya_bytes, ya_frame, ya_payloads, ya_table, ya_out, ya_nodeType, ya_valueNode, ya_valueNumber, ya_value, ya_from, ya_limit, ya_inside, ya_sizes) := by
  have h45 : ∀ x : Int32, (x = 0 ∧ ¬ (0 < st ∧ st < 8 ∧ ya_how st = 0)) ∨ (x = 1 ∧ 0 < st ∧ ya_how st = 0) → wY_begin_45 post (nI n) (nI so) (nI st) x yf_down yf_heads yf_paid yf_payload yf_wants yf_name yf_first yf_counts yf_enters yf_most yf_many yf_sent yf_last yf_nodes yf_values yf_skipped yf_pos yf_there yf_number yf_at ya_kind ya_repeated ya_how ya_code (an_f wi) ya_going ya_type ya_headers ya_header ya_queued ya_otherEnded ya_ended ya_finishing ya_queue ya_prefix ya_length ya_got ya_high ya_whole ya_has ya_bytes ya_frame ya_payloads ya_table ya_out ya_nodeType ya_valueNode ya_valueNumber ya_value ya_from ya_limit ya_inside ya_sizes := by
    intro x hx
    unfold wY_begin_45
    refine pk_le 5 so (fun w => ?_) (fun w => ?_)
    · rw [if_neg (by omega)] at H
      exact yh_58 (Or.inl rfl) hn hso hs hw hx H
    · rw [if_pos w] at H
      exact yh_58 (Or.inr rfl) hn hso hs hw hx H
  unfold wpY_begin
  refine nm_r f0 (nm_r f1 (nm_r f3 (pk_le st 0 (fun w => ?_) (fun w => pk_le 8 st (fun w2 => ?_) (fun w2 => ⟨vp_in_nI w2 (by omega), ?_⟩)))))
  · exact h45 0 (Or.inl ⟨rfl, fun q => by omega⟩)
  · exact h45 0 (Or.inl ⟨rfl, fun q => by omega⟩)
  · rw [nI_clamp (by omega)]
    exact br_c (fun y => h45 1 (Or.inr ⟨rfl, w, y⟩)) (fun y => h45 0 (Or.inl ⟨rfl, fun q => y q.2.2⟩))
end
end
section
/-! T6: the head of a frame, both sides -/
section
variable {yf_down yf_heads yf_paid yf_payload yf_wants yf_name yf_first yf_counts yf_enters yf_most yf_many yf_sent yf_last yf_nodes yf_values yf_skipped yf_pos yf_there yf_number yf_at : Int32} {ya_kind ya_repeated ya_how ya_code ya_coming ya_going ya_type ya_headers ya_header ya_queued ya_otherEnded ya_ended ya_finishing ya_queue ya_prefix ya_length ya_got ya_high ya_whole ya_has ya_bytes ya_frame ya_payloads ya_table ya_out ya_nodeType ya_valueNode ya_valueNumber ya_value ya_from ya_limit ya_inside ya_sizes : Nat → Int32} {n so st c w : Nat} {z : (Nat → Nat) × Nat} {W : Nat → Int32} {x1 x2 x3 : Int32}
theorem fb_0 {life : Nat → Int32} {w0 : Nat} (h : fb_c life n so st w0 = 0) : n ≤ 63 ∧ (so ≤ 5 → st ≤ 7) ∧ (so = 0 → 1 ≤ st ∧ life st ≠ 0 ∧ n ≤ w0) ∧ (so = 1 → 1 ≤ st) ∧ (2 ≤ so → so ≤ 4 → n = 1) ∧ (so = 2 → 1 ≤ st) ∧ (so = 2 ∨ so = 3 → 0 < st → life st ≠ 0) ∧ (so = 4 → st = 0) := by
  unfold fb_c at h
  have h1 : ¬ 63 < n := fun w => by rw [if_pos w] at h; exact absurd h (by decide)
  rw [if_neg h1] at h
  by_cases h2 : 5 < so
  · exact ⟨by omega, fun _ => by omega, fun _ => by omega, fun _ => by omega, fun _ _ => by omega, fun _ => by omega, fun _ _ => by omega, fun _ => by omega⟩
  rw [if_neg h2] at h
  have h3 : ¬ 7 < st := fun w => by rw [if_pos w] at h; exact absurd h (by decide)
  rw [if_neg h3] at h
  by_cases e0 : so = 0
  · rw [if_pos e0] at h
    have a1 : ¬ st = 0 := fun w => by rw [if_pos w] at h; exact absurd h (by decide)
    rw [if_neg a1] at h
    have a2 : ¬ life st = 0 := fun w => by rw [if_pos w] at h; exact absurd h (by decide)
    rw [if_neg a2] at h
    have a3 : ¬ w0 < n := fun w => by rw [if_pos w] at h; exact absurd h (by decide)
    exact ⟨by omega, fun _ => by omega, fun _ => ⟨by omega, a2, by omega⟩, fun _ => by omega, fun _ _ => by omega, fun _ => by omega, fun _ _ => a2, fun _ => by omega⟩
  rw [if_neg e0] at h
  by_cases e1 : so = 1
  · rw [if_pos e1] at h
    have a1 : ¬ st = 0 := fun w => by rw [if_pos w] at h; exact absurd h (by decide)
    exact ⟨by omega, fun _ => by omega, fun _ => by omega, fun _ => by omega, fun _ _ => by omega, fun _ => by omega, fun _ _ => by omega, fun _ => by omega⟩
  rw [if_neg e1] at h
  by_cases e5 : so = 5
  · exact ⟨by omega, fun _ => by omega, fun _ => by omega, fun _ => by omega, fun _ _ => by omega, fun _ => by omega, fun _ _ => by omega, fun _ => by omega⟩
  rw [if_neg e5] at h
  have en : ¬ n ≠ 1 := fun w => by rw [if_pos w] at h; exact absurd h (by decide)
  rw [if_neg en] at h
  by_cases e4 : so = 4
  · rw [if_pos e4] at h
    have a1 : ¬ 0 < st := fun w => by rw [if_pos w] at h; exact absurd h (by decide)
    exact ⟨by omega, fun _ => by omega, fun _ => by omega, fun _ => by omega, fun _ _ => by omega, fun _ => by omega, fun _ _ => by omega, fun _ => by omega⟩
  rw [if_neg e4] at h
  have a1 : ¬ (0 < st ∧ life st = 0) := fun w => by rw [if_pos w] at h; exact absurd h (by decide)
  rw [if_neg a1] at h
  have a2 : ¬ (st = 0 ∧ so = 2) := fun w => by rw [if_pos w] at h; exact absurd h (by decide)
  exact ⟨by omega, fun _ => by omega, fun _ => by omega, fun _ => by omega, fun _ _ => by omega, fun _ => by omega, fun _ q e => a1 ⟨q, e⟩, fun _ => by omega⟩
theorem fb_le {life : Nat → Int32} {w0 : Nat} : fb_c life n so st w0 ≤ 3 := by
  unfold fb_c
  repeat' split
  all_goals omega
theorem yb_err {post : SY → Prop} (hc0 : 0 < c) (hc : c < 256) (hz : z.2 ≤ 1200)
    (H : post (1, yf_heads, yf_paid, yf_payload, 0, yf_name, -1, yf_counts, yf_enters, yf_most, yf_many, nI (ou_L z [1, 5, 0, 0, c]).2, yf_last, yf_nodes, yf_values, yf_skipped, yf_pos, yf_there, yf_number, yf_at, ya_kind, ya_repeated, ya_how, upd ya_code 0 (nI c), ya_coming, ya_going, ya_type, ya_headers, ya_header, ya_queued, ya_otherEnded, ya_ended, ya_finishing, ya_queue, ya_prefix, ya_length, ya_got, ya_high, ya_whole, ya_has, ya_bytes, ya_frame, ya_payloads, ya_table, an_g (ou_L z [1, 5, 0, 0, c]).1, ya_nodeType, ya_valueNode, ya_valueNumber, ya_value, ya_from, ya_limit, ya_inside, ya_sizes)) : wY_begin_212 post x1 x2 x3 (nI c) yf_down yf_heads yf_paid yf_payload yf_wants yf_name yf_first yf_counts yf_enters yf_most yf_many (nI z.2) yf_last yf_nodes yf_values yf_skipped yf_pos yf_there yf_number yf_at ya_kind ya_repeated ya_how ya_code ya_coming ya_going ya_type ya_headers ya_header ya_queued ya_otherEnded ya_ended ya_finishing ya_queue ya_prefix ya_length ya_got ya_high ya_whole ya_has ya_bytes ya_frame ya_payloads ya_table (an_g z.1) ya_nodeType ya_valueNode ya_valueNumber ya_value ya_from ya_limit ya_inside ya_sizes := by
  unfold wY_begin_212
  refine pk_le c 0 (fun w => by omega) (fun _ => yo_errC hz ?_)
  dsimp only
  unfold wY_begin_224
  exact pk_lt 0 c (fun _ => H) (fun w => by omega)
theorem yb_oth {post : SY → Prop} (hso : so < 256) (h0 : so ≠ 0) (H : post (yf_down, yf_heads, yf_paid, yf_payload, 0, yf_name, -1, yf_counts, yf_enters, yf_most, yf_many, yf_sent, yf_last, yf_nodes, yf_values, yf_skipped, yf_pos, yf_there, yf_number, yf_at, ya_kind, ya_repeated, ya_how, ya_code, ya_coming, ya_going, ya_type, ya_headers, ya_header, ya_queued, ya_otherEnded, ya_ended, ya_finishing, ya_queue, ya_prefix, ya_length, ya_got, ya_high, ya_whole, ya_has, ya_bytes, ya_frame, ya_payloads, ya_table, ya_out, ya_nodeType, ya_valueNode, ya_valueNumber, ya_value, ya_from, ya_limit, ya_inside, ya_sizes)) : wY_begin_212 post x1 (nI so) x3 (nI 0) yf_down yf_heads yf_paid yf_payload yf_wants yf_name yf_first yf_counts yf_enters yf_most yf_many yf_sent yf_last yf_nodes yf_values yf_skipped yf_pos yf_there yf_number yf_at ya_kind ya_repeated ya_how ya_code ya_coming ya_going ya_type ya_headers ya_header ya_queued ya_otherEnded ya_ended ya_finishing ya_queue ya_prefix ya_length ya_got ya_high ya_whole ya_has ya_bytes ya_frame ya_payloads ya_table ya_out ya_nodeType ya_valueNode ya_valueNumber ya_value ya_from ya_limit ya_inside ya_sizes := by
  unfold wY_begin_212
  refine br_t (by decide) ?_
  unfold wY_begin_224
  exact br_f (by decide) (pk_eq so 0 (fun w => absurd w h0) (fun _ => H))
theorem yb_d2 {post : SY → Prop} (h8 : st < 8) (hw : upd ya_coming 0 (ya_coming 0 - nI n) = W) (hl : ¬ ya_how st = 1) (H : post (yf_down, yf_heads, yf_paid, yf_payload, 0, yf_name, -1, 0, yf_enters, yf_most, yf_many, yf_sent, yf_last, yf_nodes, yf_values, yf_skipped, yf_pos, yf_there, yf_number, yf_at, ya_kind, ya_repeated, ya_how, ya_code, W, ya_going, ya_type, ya_headers, ya_header, ya_queued, ya_otherEnded, ya_ended, ya_finishing, ya_queue, ya_prefix, ya_length, ya_got, ya_high, ya_whole, ya_has, ya_bytes, ya_frame, ya_payloads, ya_table, ya_out, ya_nodeType, ya_valueNode, ya_valueNumber, ya_value, ya_from, ya_limit, ya_inside, ya_sizes)) : wY_begin_212 post (nI n) (nI 0) (nI st) (nI 0) yf_down yf_heads yf_paid yf_payload yf_wants yf_name yf_first yf_counts yf_enters yf_most yf_many yf_sent yf_last yf_nodes yf_values yf_skipped yf_pos yf_there yf_number yf_at ya_kind ya_repeated ya_how ya_code ya_coming ya_going ya_type ya_headers ya_header ya_queued ya_otherEnded ya_ended ya_finishing ya_queue ya_prefix ya_length ya_got ya_high ya_whole ya_has ya_bytes ya_frame ya_payloads ya_table ya_out ya_nodeType ya_valueNode ya_valueNumber ya_value ya_from ya_limit ya_inside ya_sizes := by
  obtain ⟨c1, c2⟩ := xr_c8 h8
  unfold wY_begin_212
  refine br_t (by decide) ?_
  unfold wY_begin_224
  rw [c2]
  refine br_f (by decide) (br_t rfl (nm_r hw ⟨c1, br_f hl ?_⟩))
  unfold wY_begin_270
  refine ⟨rfl, rfl, br_t rfl ?_⟩
  unfold wY_begin_312
  refine br_t (by decide) ?_
  unfold wY_begin_326
  refine br_t (by decide) ?_
  unfold wY_begin_336
  exact br_t rfl H
theorem yb_dE {post : SY → Prop} (hc0 : 0 < c) (hc : c < 256) (h1 : 1 ≤ st) (h8 : st < 8) (hz : z.2 ≤ 1200)
    (H : post (yf_down, yf_heads, yf_paid, yf_payload, yf_wants, yf_name, yf_first, 0, yf_enters, yf_most, yf_many, nI (ou_L z [1, 2, 0, st, c]).2, yf_last, yf_nodes, yf_values, yf_skipped, yf_pos, yf_there, yf_number, yf_at, ya_kind, ya_repeated, upd ya_how st 2, upd ya_code st (nI c), ya_coming, ya_going, ya_type, ya_headers, ya_header, upd ya_queued st 0, ya_otherEnded, ya_ended, ya_finishing, ya_queue, ya_prefix, ya_length, ya_got, ya_high, ya_whole, ya_has, ya_bytes, ya_frame, ya_payloads, ya_table, an_g (ou_L z [1, 2, 0, st, c]).1, ya_nodeType, ya_valueNode, ya_valueNumber, ya_value, ya_from, ya_limit, ya_inside, ya_sizes)) : wY_begin_312 post x1 (nI st) (nI c) yf_down yf_heads yf_paid yf_payload yf_wants yf_name yf_first yf_counts yf_enters yf_most yf_many (nI z.2) yf_last yf_nodes yf_values yf_skipped yf_pos yf_there yf_number yf_at ya_kind ya_repeated ya_how ya_code ya_coming ya_going ya_type ya_headers ya_header ya_queued ya_otherEnded ya_ended ya_finishing ya_queue ya_prefix ya_length ya_got ya_high ya_whole ya_has ya_bytes ya_frame ya_payloads ya_table (an_g z.1) ya_nodeType ya_valueNode ya_valueNumber ya_value ya_from ya_limit ya_inside ya_sizes := by
  unfold wY_begin_312
  refine pk_le c 0 (fun w => by omega) (fun _ => yo_errS (by omega) h8 hz ?_)
  dsimp only
  unfold wY_begin_326
  refine pk_le c 0 (fun w => by omega) (fun _ => ?_)
  unfold wY_begin_336
  exact br_t rfl H
theorem yb_d {post : SY → Prop} (h8 : st < 8) (hn : n < 256) (hw : upd ya_coming 0 (ya_coming 0 - nI n) = W) (hWs : W st = nI w) (hw5 : w ≤ 255) (hl : ya_how st = 1)
    (H5 : ¬ ya_otherEnded st = 0 → wY_begin_312 post (nI n) (nI st) (nI 5) yf_down yf_heads yf_paid yf_payload (0) yf_name (-1) (1) yf_enters yf_most yf_many yf_sent yf_last yf_nodes yf_values yf_skipped yf_pos yf_there yf_number yf_at ya_kind ya_repeated ya_how ya_code (W) ya_going ya_type ya_headers ya_header ya_queued ya_otherEnded ya_ended ya_finishing ya_queue ya_prefix ya_length ya_got ya_high ya_whole ya_has ya_bytes ya_frame ya_payloads ya_table ya_out ya_nodeType ya_valueNode ya_valueNumber ya_value ya_from ya_limit ya_inside ya_sizes)
    (H3 : ya_otherEnded st = 0 → w < n → wY_begin_312 post (nI n) (nI st) (nI 3) yf_down yf_heads yf_paid yf_payload (0) yf_name (-1) (1) yf_enters yf_most yf_many yf_sent yf_last yf_nodes yf_values yf_skipped yf_pos yf_there yf_number yf_at ya_kind ya_repeated ya_how ya_code (W) ya_going ya_type ya_headers ya_header ya_queued ya_otherEnded ya_ended ya_finishing ya_queue ya_prefix ya_length ya_got ya_high ya_whole ya_has ya_bytes ya_frame ya_payloads ya_table ya_out ya_nodeType ya_valueNode ya_valueNumber ya_value ya_from ya_limit ya_inside ya_sizes)
    (H0 : ya_otherEnded st = 0 → n ≤ w → post (yf_down, yf_heads, yf_paid, yf_payload, 0, yf_name, -1, 1, yf_enters, yf_most, yf_many, yf_sent, yf_last, yf_nodes, yf_values, yf_skipped, yf_pos, yf_there, yf_number, yf_at, ya_kind, ya_repeated, ya_how, ya_code, upd W st (nI (w - n)), ya_going, ya_type, ya_headers, ya_header, ya_queued, ya_otherEnded, ya_ended, ya_finishing, ya_queue, ya_prefix, ya_length, ya_got, ya_high, ya_whole, ya_has, ya_bytes, ya_frame, ya_payloads, ya_table, ya_out, ya_nodeType, ya_valueNode, ya_valueNumber, ya_value, ya_from, ya_limit, ya_inside, ya_sizes)) : wY_begin_212 post (nI n) (nI 0) (nI st) (nI 0) yf_down yf_heads yf_paid yf_payload yf_wants yf_name yf_first yf_counts yf_enters yf_most yf_many yf_sent yf_last yf_nodes yf_values yf_skipped yf_pos yf_there yf_number yf_at ya_kind ya_repeated ya_how ya_code ya_coming ya_going ya_type ya_headers ya_header ya_queued ya_otherEnded ya_ended ya_finishing ya_queue ya_prefix ya_length ya_got ya_high ya_whole ya_has ya_bytes ya_frame ya_payloads ya_table ya_out ya_nodeType ya_valueNode ya_valueNumber ya_value ya_from ya_limit ya_inside ya_sizes := by
  obtain ⟨c1, c2⟩ := xr_c8 h8
  unfold wY_begin_212
  refine br_t (by decide) ?_
  unfold wY_begin_224
  rw [c2]
  refine br_f (by decide) (br_t rfl (nm_r hw ⟨c1, br_t hl ?_⟩))
  unfold wY_begin_270
  rw [c2, hWs]
  refine ⟨rfl, rfl, br_f (by decide) ⟨c1, br_c (fun y => ⟨c1, pk_le n w (fun y2 => ?_) (fun y2 => H3 y y2)⟩) (fun y => H5 y)⟩⟩
  unfold wY_begin_312
  refine br_t (by decide) ?_
  unfold wY_begin_326
  refine br_t (by decide) ?_
  unfold wY_begin_336
  rw [c2, hWs, pk_sub y2]
  exact br_f (by decide) ⟨c1, c1, nm_e (H0 y y2)⟩
end
section
variable {K : Nat → Nat} {R : Nat → Bool} {z : (Nat → Nat) × Nat} {fAt n so fl st h p m M l : Nat} {wi wo ql hc Q tx : Nat → Nat} {f_down f_typeSeen yf_payload yf_wants yf_name yf_first yf_counts yf_enters yf_nodes yf_values yf_skipped yf_pos yf_there yf_number yf_at : Int32} {a_payload a_life a_theyEnded a_weEnded a_finishing a_codes a_headers a_entries a_kinds a_repeats a_messageCount a_nodeCount a_nodeTypes a_valueCount a_valueOwners a_values a_skippedCount a_reader a_chainNode a_chainEnd a_nodeSize a_nodePlace ya_type ya_otherEnded ya_prefix ya_length ya_got ya_high ya_has ya_frame ya_payloads ya_table ya_nodeType ya_valueNode ya_valueNumber ya_value ya_from ya_limit ya_inside ya_sizes : Nat → Int32}
/-- a frame that goes on -/
def bf_K (life : Nat → Int32) (n so st : Nat) (ct : Int32) : Prop :=
  n ≤ 63 ∧ (so ≤ 5 → st ≤ 7) ∧ (so = 0 → 1 ≤ st ∧ life st ≠ 0 ∧ (ct = 1 ∨ (ct = 0 ∧ life st = 2))) ∧ (1 ≤ so → so ≤ 4 → ct = 1) ∧ (5 ≤ so → ct = 0) ∧
  (so = 1 → 1 ≤ st) ∧ (2 ≤ so → so ≤ 4 → n = 1) ∧ (so = 2 → 1 ≤ st) ∧ (so = 2 ∨ so = 3 → 0 < st → life st ≠ 0) ∧ (so = 4 → st = 0)
theorem cr_S_wi {life th ot we fi co : Nat → Int32} {wi wi' wo ql : Nat → Nat} (hS : cr_S life th ot we fi co wi wo ql) (hW : ∀ i, i < 8 → wi' i ≤ 255) : cr_S life th ot we fi co wi' wo ql := by
  refine ⟨hS.1, fun i hi => ?_⟩
  obtain ⟨s1, s2, s3, s4, s5, s6, s7, s8, s9, s10⟩ := hS.2 i hi
  exact ⟨s1, s2, s3, s4, hW i hi, s6, s7, s8, s9, s10⟩
theorem cr_S_c0 {life th ot we fi co : Nat → Int32} {wi wo ql : Nat → Nat} {x : Int32} (hS : cr_S life th ot we fi co wi wo ql) : cr_S life th ot we fi (upd co 0 x) wi wo ql := by
  refine ⟨hS.1, fun i hi => ?_⟩
  obtain ⟨s1, s2, s3, s4, s5, s6, s7, s8, s9, s10⟩ := hS.2 i hi
  exact ⟨s1, s2, s3, s4, s5, s6, s7, s8, fun w w' => (pk_un (by omega)).trans (s9 w w'), s10⟩
theorem bf_z {c : Nat} (hO : ou_I z) (hc : c < 256) : ou_I (ou_L z [1, 5, 0, 0, c]) := by
  refine ou_L_I hO (fun b hb => ?_)
  simp only [List.mem_cons, List.not_mem_nil, or_false] at hb
  rcases hb with hb | hb | hb | hb | hb <;> omega
theorem bf_both {post : SX → Prop} (hd : f_down = 0) (hn : n < 256) (hso : so < 256) (hst : st < 256) (hS : cr_S a_life a_theyEnded ya_otherEnded a_weEnded a_finishing a_codes wi wo ql) (hO : ou_I z)
    (f0 : ya_frame 0 = nI n) (f1 : ya_frame 1 = nI so) (f3 : ya_frame 3 = nI st)
    (H : ∀ (wi' : Nat → Nat) (life' co' : Nat → Int32) (ql' : Nat → Nat) (z' : (Nat → Nat) × Nat) (dn' ct' : Int32), cr_S life' a_theyEnded ya_otherEnded a_weEnded a_finishing co' wi' wo ql' → ou_I z' →
      (∀ i, life' i = a_life i ∨ (a_life i ≠ 0 ∧ life' i = 2)) → (dn' = 0 ∨ dn' = 1) → (dn' = 0 → bf_K life' n so st ct') →
      (∀ (a : yr_Z) (t : Int32) (q : SY → Prop), (∀ (a : yr_Z) (t : Int32), q (dn', nI h, nI p, yf_payload, 0, yf_name, -1, ct', yf_enters, nI M, nI m, nI z'.2, nI (if l = 0 then 7 else l), a.1, a.2.1, a.2.2.1, a.2.2.2.1, t, a.2.2.2.2.1, a.2.2.2.2.2.1, a_kinds, a_repeats, life', co', an_f wi', an_f wo, ya_type, an_f hc, a_headers, an_f ql', ya_otherEnded, a_weEnded, a_finishing, an_g Q, ya_prefix, ya_length, ya_got, ya_high, a_messageCount, ya_has, an_g tx, ya_frame, ya_payloads, ya_table, an_g z'.1, a.2.2.2.2.2.2.1, a.2.2.2.2.2.2.2.1, a.2.2.2.2.2.2.2.2.1, a.2.2.2.2.2.2.2.2.2.1, a.2.2.2.2.2.2.2.2.2.2.1, a.2.2.2.2.2.2.2.2.2.2.2.1, a.2.2.2.2.2.2.2.2.2.2.2.2, ya_sizes)) → wpY_begin q (f_down, nI h, nI p, yf_payload, yf_wants, yf_name, yf_first, yf_counts, yf_enters, nI M, nI m, nI z.2, nI (if l = 0 then 7 else l), a.1, a.2.1, a.2.2.1, a.2.2.2.1, t, a.2.2.2.2.1, a.2.2.2.2.2.1, a_kinds, a_repeats, a_life, a_codes, an_f wi, an_f wo, ya_type, an_f hc, a_headers, an_f ql, ya_otherEnded, a_weEnded, a_finishing, an_g Q, ya_prefix, ya_length, ya_got, ya_high, a_messageCount, ya_has, an_g tx, ya_frame, ya_payloads, ya_table, an_g z.1, a.2.2.2.2.2.2.1, a.2.2.2.2.2.2.2.1, a.2.2.2.2.2.2.2.2.1, a.2.2.2.2.2.2.2.2.2.1, a.2.2.2.2.2.2.2.2.2.2.1, a.2.2.2.2.2.2.2.2.2.2.2.1, a.2.2.2.2.2.2.2.2.2.2.2.2, ya_sizes)) →
      post (nI fAt, nI n, nI so, nI fl, nI st, dn', nI m, nI M, f_typeSeen, nI l, nI z'.2, a_payload, life', a_theyEnded, a_weEnded, a_finishing, co', an_f wi', an_f wo, a_headers, an_f hc, a_entries, a_kinds, a_repeats, a_messageCount, an_f tx, a_nodeCount, a_nodeTypes, a_valueCount, a_valueOwners, a_values, a_skippedCount, a_reader, a_chainNode, a_chainEnd, an_f Q, an_f ql', an_f z'.1, a_nodeSize, a_nodePlace)) :
    wpX_beginFrame post (nI fAt, nI n, nI so, nI fl, nI st, f_down, nI m, nI M, f_typeSeen, nI l, nI z.2, a_payload, a_life, a_theyEnded, a_weEnded, a_finishing, a_codes, an_f wi, an_f wo, a_headers, an_f hc, a_entries, a_kinds, a_repeats, a_messageCount, an_f tx, a_nodeCount, a_nodeTypes, a_valueCount, a_valueOwners, a_values, a_skippedCount, a_reader, a_chainNode, a_chainEnd, an_f Q, an_f ql, an_f z.1, a_nodeSize, a_nodePlace) := by
  subst hd
  have hw0 := (hS.2 0 (by omega)).2.2.2.2.1
  have eq : upd (an_f ql) st 0 = an_f (pm_u ql st 0) := an_fu ql st 0
  unfold wpX_beginFrame
  dsimp only
  refine xh_fault hn hso hst hw0 ?_
  by_cases hcc : fb_c a_life n so st (wi 0) = 0
  · obtain ⟨k1, k2, k3, k4, k5, k6, k7, k8⟩ := fb_0 hcc
    rw [hcc]
    refine br_t rfl (pk_eq so 0 (fun e0 => ?_) (fun e0 => ?_))
    · subst e0
      obtain ⟨a1, a2, a3⟩ := k3 rfl
      have h8 : st < 8 := by
        have := k2 (by omega)
        omega
      obtain ⟨c1, c2⟩ := xr_c8 h8
      rw [c2]
      have hW : ∀ i, i < 8 → pm_u wi 0 (wi 0 - n) i ≤ 255 := by
        intro i hi
        unfold pm_u
        split
        · omega
        · exact (hS.2 i hi).2.2.2.2.1
      have hS' := cr_S_wi hS hW
      have eW : upd (an_f wi) 0 (an_f wi 0 - nI n) = an_f (pm_u wi 0 (wi 0 - n)) := by rw [an_fa, pk_sub a3, an_fu]
      have hYb : ∀ (a : yr_Z) (t : Int32) (q : SY → Prop), wY_begin_212 q (nI n) (nI 0) (nI st) (nI 0) (0) (nI h) (nI p) yf_payload yf_wants yf_name yf_first (1) yf_enters (nI M) (nI m) (nI z.2) (nI (if l = 0 then 7 else l)) (a.1) (a.2.1) (a.2.2.1) (a.2.2.2.1) (t) (a.2.2.2.2.1) (a.2.2.2.2.2.1) (a_kinds) (a_repeats) (a_life) (a_codes) (an_f wi) (an_f wo) ya_type (an_f hc) (a_headers) (an_f ql) ya_otherEnded (a_weEnded) (a_finishing) (an_g Q) ya_prefix ya_length ya_got ya_high (a_messageCount) ya_has (an_g tx) ya_frame ya_payloads ya_table (an_g z.1) (a.2.2.2.2.2.2.1) (a.2.2.2.2.2.2.2.1) (a.2.2.2.2.2.2.2.2.1) (a.2.2.2.2.2.2.2.2.2.1) (a.2.2.2.2.2.2.2.2.2.2.1) (a.2.2.2.2.2.2.2.2.2.2.2.1) (a.2.2.2.2.2.2.2.2.2.2.2.2) ya_sizes → wpY_begin q (0, nI h, nI p, yf_payload, yf_wants, yf_name, yf_first, yf_counts, yf_enters, nI M, nI m, nI z.2, nI (if l = 0 then 7 else l), a.1, a.2.1, a.2.2.1, a.2.2.2.1, t, a.2.2.2.2.1, a.2.2.2.2.2.1, a_kinds, a_repeats, a_life, a_codes, an_f wi, an_f wo, ya_type, an_f hc, a_headers, an_f ql, ya_otherEnded, a_weEnded, a_finishing, an_g Q, ya_prefix, ya_length, ya_got, ya_high, a_messageCount, ya_has, an_g tx, ya_frame, ya_payloads, ya_table, an_g z.1, a.2.2.2.2.2.2.1, a.2.2.2.2.2.2.2.1, a.2.2.2.2.2.2.2.2.1, a.2.2.2.2.2.2.2.2.2.1, a.2.2.2.2.2.2.2.2.2.2.1, a.2.2.2.2.2.2.2.2.2.2.2.1, a.2.2.2.2.2.2.2.2.2.2.2.2, ya_sizes) := by
        intro a t q hq
        refine yh_begin hn hso hst hw0 f0 f1 f3 ?_
        rw [hcc, if_pos (by omega)]
        exact hq
      refine nm_r eW ⟨c1, ?_⟩
      clear hW
      generalize pm_u wi 0 (wi 0 - n) = W at hS' eW ⊢
      have hW5 := (hS'.2 st h8).2.2.2.2.1
      refine br_c (fun y2 => ?_) (fun y2 => ⟨c1, ?_⟩)
      · refine H W a_life a_codes ql z 0 0 hS' hO (fun i => Or.inl rfl) (Or.inl rfl) (fun _ => ⟨k1, k2, fun _ => ⟨a1, a2, Or.inr ⟨rfl, y2⟩⟩, fun w => by omega, fun _ => rfl, k4, k5, k6, k7, k8⟩) (fun a t q hq => hYb a t q ?_)
        exact yb_d2 h8 eW (by rw [y2]; decide) (hq a t)
      · have y1 : a_life st = 1 := by
          rcases (hS.2 st h8).1 with e | e | e
          · exact absurd e a2
          · exact e
          · exact absurd e y2
        have hot : ya_otherEnded st = a_theyEnded st := (hS.2 st h8).2.2.2.2.2.2.2.1 y2
        have hl2 := cr_l2 (life := a_life) (s := st) a2
        have hBK : ∀ ct, ct = 0 → bf_K (upd a_life st 2) n 0 st ct := fun ct hct =>
          ⟨k1, k2, fun _ => ⟨a1, by rw [pk_us]; decide, Or.inr ⟨hct, pk_us⟩⟩, fun w => by omega, fun _ => hct, k4, k5, k6, fun w => by omega, k8⟩
        refine br_c (fun y3 => ⟨c1, pk_le n (W st) (fun y4 => ⟨c1, c1, nm_r (e' := an_f (pm_u W st (W st - n))) (by rw [an_fa, pk_sub y4, an_fu]) ?_⟩) (fun y4 => xo_failS (c := 3) h8 hO.1 ?_)⟩) (fun y3 => xo_failS (c := 5) h8 hO.1 ?_)
        · refine H (pm_u W st (W st - n)) a_life a_codes ql z 0 1 (cr_S_wi hS' (fun i hi => ?_)) hO (fun i => Or.inl rfl) (Or.inl rfl) (fun _ => ⟨k1, k2, fun _ => ⟨a1, a2, Or.inl rfl⟩, fun w => by omega, fun w => by omega, k4, k5, k6, k7, k8⟩) (fun a t q hq => hYb a t q ?_)
          · unfold pm_u
            split
            · omega
            · exact (hS'.2 i hi).2.2.2.2.1
          · refine yb_d (w := W st) h8 hn eW rfl hW5 y1 (fun w => absurd (hot.trans y3) w) (fun _ w => by omega) (fun _ _ => ?_)
            rw [an_fu]
            exact hq a t
        · rw [eq]
          refine H W (upd a_life st 2) (upd a_codes st (nI 3)) (pm_u ql st 0) (ou_L z [1, 2, 0, st, 3]) 0 0 (cr_S_shut (by omega) hS') (td_z hO h8 (by omega)) hl2 (Or.inl rfl) (fun _ => hBK 0 rfl) (fun a t q hq => hYb a t q ?_)
          refine yb_d (w := W st) h8 hn eW rfl hW5 y1 (fun w => absurd (hot.trans y3) w) (fun _ _ => yb_dE (by omega) (by omega) a1 h8 hO.1 ?_) (fun _ w => by omega)
          rw [eq]
          exact hq a t
        · rw [eq]
          refine H W (upd a_life st 2) (upd a_codes st (nI 5)) (pm_u ql st 0) (ou_L z [1, 2, 0, st, 5]) 0 0 (cr_S_shut (by omega) hS') (td_z hO h8 (by omega)) hl2 (Or.inl rfl) (fun _ => hBK 0 rfl) (fun a t q hq => hYb a t q ?_)
          refine yb_d (w := W st) h8 hn eW rfl hW5 y1 (fun _ => yb_dE (by omega) (by omega) a1 h8 hO.1 ?_) (fun w => absurd (hot.symm.trans w) y3) (fun w => absurd (hot.symm.trans w) y3)
          rw [eq]
          exact hq a t
    · refine H wi a_life a_codes ql z 0 (if so < 5 then 1 else 0) hS hO (fun i => Or.inl rfl) (Or.inl rfl) (fun _ => ⟨k1, k2, fun w => absurd w e0, fun _ w => if_pos (by omega), fun w => if_neg (by omega), k4, k5, k6, k7, k8⟩) (fun a t q hq => ?_)
      refine yh_begin hn hso hst hw0 f0 f1 f3 ?_
      rw [hcc]
      exact yb_oth hso e0 (hq a t)
  · have hle := fb_le (n := n) (so := so) (st := st) (life := a_life) (w0 := wi 0)
    have hne : ¬ nI (fb_c a_life n so st (wi 0)) = 0 := by
      intro e
      have := (nI_eq (a := fb_c a_life n so st (wi 0)) (b := 0) (by omega) (by omega)).mp e
      omega
    refine br_f hne (xo_failC hO.1 ?_)
    refine H wi a_life (upd a_codes 0 (nI (fb_c a_life n so st (wi 0)))) ql (ou_L z [1, 5, 0, 0, fb_c a_life n so st (wi 0)]) 1 (if so < 5 then 1 else 0) (cr_S_c0 hS) (bf_z hO (by omega)) (fun i => Or.inl rfl) (Or.inr rfl) (fun w => absurd w (by decide)) (fun a t q hq => ?_)
    exact yh_begin hn hso hst hw0 f0 f1 f3 (yb_err (by omega) (by omega) hO.1 (hq a t))
end
end
section
/-! T7: a frame ends: the side of the other end -/
section
variable {K : Nat → Nat} {R : Nat → Bool} {z : (Nat → Nat) × Nat} {fAt n so fl st h p m M l : Nat} {wi wo ql hc Q tx : Nat → Nat} {f_down f_typeSeen yf_payload yf_wants yf_name yf_first yf_counts yf_enters yf_nodes yf_values yf_skipped yf_pos yf_there yf_number yf_at : Int32} {a_payload a_life a_theyEnded a_weEnded a_finishing a_codes a_headers a_entries a_kinds a_repeats a_messageCount a_nodeCount a_nodeTypes a_valueCount a_valueOwners a_values a_skippedCount a_reader a_chainNode a_chainEnd a_nodeSize a_nodePlace ya_type ya_otherEnded ya_prefix ya_length ya_got ya_high ya_has ya_frame ya_payloads ya_table ya_nodeType ya_valueNode ya_valueNumber ya_value ya_from ya_limit ya_inside ya_sizes : Nat → Int32} {k : Nat}
theorem pk_id {f : Nat → Int32} {i : Nat} {x : Int32} (h : f i = x) : upd f i x = f := by
  funext j
  rw [pm_upd_eq]
  split
  · rename_i e; rw [e, h]
  · rfl
theorem pm_id {f : Nat → Nat} {i x : Nat} (h : f i = x) : pm_u f i x = f := by
  funext j
  unfold pm_u
  split
  · rename_i e; rw [e, h]
  · rfl
theorem fl_1 {x : Nat} (h : x < 256) : nI x &&& 1 = nI (x % 2) := pk_andN (by omega) 1 (by decide)
theorem cr_S_th {life th ot we fi co : Nat → Int32} {wi wo ql : Nat → Nat} {s : Nat} (hS : cr_S life th ot we fi co wi wo ql) : cr_S life (upd th s 1) (upd ot s 1) we fi co wi wo ql := by
  refine ⟨hS.1, fun i hi => ?_⟩
  obtain ⟨s1, s2, s3, s4, s5, s6, s7, s8, s9, s10⟩ := hS.2 i hi
  by_cases y : i = s
  · subst y
    rw [pk_us, pk_us]
    exact ⟨s1, Or.inr rfl, s3, s4, s5, s6, s7, fun _ => rfl, s9, s10⟩
  · rw [pk_un y, pk_un y]
    exact ⟨s1, s2, s3, s4, s5, s6, s7, s8, s9, s10⟩
theorem cr_S_ot {life th ot we fi co : Nat → Int32} {wi wo ql : Nat → Nat} {s : Nat} {x : Int32} (hl : life s = 2) (hS : cr_S life th ot we fi co wi wo ql) : cr_S life th (upd ot s x) we fi co wi wo ql := by
  refine ⟨hS.1, fun i hi => ?_⟩
  obtain ⟨s1, s2, s3, s4, s5, s6, s7, s8, s9, s10⟩ := hS.2 i hi
  by_cases y : i = s
  · subst y
    exact ⟨s1, s2, s3, s4, s5, s6, s7, fun w => absurd hl w, s9, s10⟩
  · rw [pk_un y]
    exact ⟨s1, s2, s3, s4, s5, s6, s7, s8, s9, s10⟩
theorem et_both {post : SX → Prop} (hD : f_down = 0 ∨ f_down = 1) (hst : so ≤ 1 → 1 ≤ st ∧ st < 8) (hso : so < 256) (hfl : fl < 256) (hS : cr_S a_life a_theyEnded ya_otherEnded a_weEnded a_finishing a_codes wi wo ql) (hO : ou_I z)
    (hM : cr_M k K R tx a_life a_messageCount a_nodeCount a_nodeTypes a_valueCount a_valueOwners a_values a_skippedCount a_reader a_chainNode a_chainEnd ya_type ya_length ya_got ya_high ya_has ya_prefix)
    (H : ∀ (th' ot' life' co' : Nat → Int32) (ql' : Nat → Nat) (z' : (Nat → Nat) × Nat), cr_S life' th' ot' a_weEnded a_finishing co' wi wo ql' → ou_I z' → (∀ i, life' i = a_life i ∨ (a_life i ≠ 0 ∧ life' i = 2)) →
      (a_life st ≠ 1 → th' = a_theyEnded ∧ ot' = ya_otherEnded ∧ life' = a_life ∧ co' = a_codes ∧ ql' = ql ∧ z' = z) →
      (∀ (a : yr_Z) (t : Int32) (q : SY → Prop), (∀ (a : yr_Z) (t : Int32), q (f_down, nI h, nI p, yf_payload, yf_wants, yf_name, yf_first, yf_counts, yf_enters, nI M, nI m, nI z'.2, nI (if l = 0 then 7 else l), a.1, a.2.1, a.2.2.1, a.2.2.2.1, t, a.2.2.2.2.1, a.2.2.2.2.2.1, a_kinds, a_repeats, life', co', an_f wi, an_f wo, ya_type, an_f hc, a_headers, an_f ql', ot', a_weEnded, a_finishing, an_g Q, ya_prefix, ya_length, ya_got, ya_high, a_messageCount, ya_has, an_g tx, ya_frame, ya_payloads, ya_table, an_g z'.1, a.2.2.2.2.2.2.1, a.2.2.2.2.2.2.2.1, a.2.2.2.2.2.2.2.2.1, a.2.2.2.2.2.2.2.2.2.1, a.2.2.2.2.2.2.2.2.2.2.1, a.2.2.2.2.2.2.2.2.2.2.2.1, a.2.2.2.2.2.2.2.2.2.2.2.2, ya_sizes)) → wY_end_164 q (nI st) (nI so) (if fl % 2 = 0 then 0 else 1) (f_down) (nI h) (nI p) yf_payload yf_wants yf_name yf_first yf_counts yf_enters (nI M) (nI m) (nI z.2) (nI (if l = 0 then 7 else l)) (a.1) (a.2.1) (a.2.2.1) (a.2.2.2.1) (t) (a.2.2.2.2.1) (a.2.2.2.2.2.1) (a_kinds) (a_repeats) (a_life) (a_codes) (an_f wi) (an_f wo) ya_type (an_f hc) (a_headers) (an_f ql) ya_otherEnded (a_weEnded) (a_finishing) (an_g Q) ya_prefix ya_length ya_got ya_high (a_messageCount) ya_has (an_g tx) ya_frame ya_payloads ya_table (an_g z.1) (a.2.2.2.2.2.2.1) (a.2.2.2.2.2.2.2.1) (a.2.2.2.2.2.2.2.2.1) (a.2.2.2.2.2.2.2.2.2.1) (a.2.2.2.2.2.2.2.2.2.2.1) (a.2.2.2.2.2.2.2.2.2.2.2.1) (a.2.2.2.2.2.2.2.2.2.2.2.2) ya_sizes) →
      post (nI fAt, nI n, nI so, nI fl, nI st, f_down, nI m, nI M, f_typeSeen, nI l, nI z'.2, a_payload, life', th', a_weEnded, a_finishing, co', an_f wi, an_f wo, a_headers, an_f hc, a_entries, a_kinds, a_repeats, a_messageCount, an_f tx, a_nodeCount, a_nodeTypes, a_valueCount, a_valueOwners, a_values, a_skippedCount, a_reader, a_chainNode, a_chainEnd, an_f Q, an_f ql', an_f z'.1, a_nodeSize, a_nodePlace)) :
    wX_endFrame_82 post (nI fAt) (nI n) (nI so) (nI fl) (nI st) f_down (nI m) (nI M) f_typeSeen (nI l) (nI z.2) a_payload a_life a_theyEnded a_weEnded a_finishing a_codes (an_f wi) (an_f wo) a_headers (an_f hc) a_entries a_kinds a_repeats a_messageCount (an_f tx) a_nodeCount a_nodeTypes a_valueCount a_valueOwners a_values a_skippedCount a_reader a_chainNode a_chainEnd (an_f Q) (an_f ql) (an_f z.1) a_nodeSize a_nodePlace := by
  have HN : (f_down = 0 → so ≤ 1 → a_life st = 1 → fl % 2 = 0) → post (nI fAt, nI n, nI so, nI fl, nI st, f_down, nI m, nI M, f_typeSeen, nI l, nI z.2, a_payload, a_life, a_theyEnded, a_weEnded, a_finishing, a_codes, an_f wi, an_f wo, a_headers, an_f hc, a_entries, a_kinds, a_repeats, a_messageCount, an_f tx, a_nodeCount, a_nodeTypes, a_valueCount, a_valueOwners, a_values, a_skippedCount, a_reader, a_chainNode, a_chainEnd, an_f Q, an_f ql, an_f z.1, a_nodeSize, a_nodePlace) := by
    intro hno
    refine H a_theyEnded ya_otherEnded a_life a_codes ql z hS hO (fun i => Or.inl rfl) (fun _ => ⟨rfl, rfl, rfl, rfl, rfl, rfl⟩) (fun a t q hq => ?_)
    unfold wY_end_164
    refine pk_lt 1 so (fun _ => hq a t) (fun w => br_c (fun d => ?_) (fun _ => hq a t))
    obtain ⟨c1, c2⟩ := xr_c8 (hst w).2
    rw [c2]
    refine ⟨c1, br_c (fun y => ?_) (fun _ => hq a t)⟩
    rw [if_pos (hno d w y)]
    exact br_t rfl (hq a t)
  unfold wX_endFrame_82
  refine br_c (fun d => pk_lt 1 so (fun w => HN (fun _ w' => by omega)) (fun w => ?_)) (fun d => HN (fun d' => absurd d' d))
  rw [fl_1 hfl]
  obtain ⟨h1, h8⟩ := hst w
  obtain ⟨c1, c2⟩ := xr_c8 h8
  have i0 := xr_ix (s := st) (k := 0) h8 (by omega)
  have c0 : (nI (11 * st) + 0).toNatClampNeg = 11 * st := i0.2.2
  rw [c2]
  refine pk_eq (fl % 2) 0 (fun y => HN (fun _ _ _ => y)) (fun y => ⟨c1, br_c (fun y1 => ?_) (fun y1 => HN (fun _ _ w' => absurd w' y1))⟩)
  obtain ⟨pp, mm, yy, g1, g2, g3, g4, g5, g6, g7, g8, g9, g10, g11, g12⟩ := hM st h1 h8
  have hne : a_life st ≠ 0 := by rw [y1]; decide
  have hne2 : a_life st ≠ 2 := by rw [y1]; decide
  have hl2 := cr_l2 (life := a_life) (s := st) hne
  obtain ⟨s1, s2, s3, s4, s5, s6, s7, s8, s9, s10⟩ := hS.2 st h8
  have eq : upd (an_f ql) st 0 = an_f (pm_u ql st 0) := an_fu ql st 0
  have HY : ∀ (a : yr_Z) (t : Int32) (q : SY → Prop), (pp = 0 → ((a_weEnded st = 0 → q (f_down, nI h, nI p, yf_payload, yf_wants, yf_name, yf_first, yf_counts, yf_enters, nI M, nI m, nI z.2, nI (if l = 0 then 7 else l), a.1, a.2.1, a.2.2.1, a.2.2.2.1, t, a.2.2.2.2.1, a.2.2.2.2.2.1, a_kinds, a_repeats, a_life, a_codes, an_f wi, an_f wo, ya_type, an_f hc, a_headers, an_f ql, upd ya_otherEnded st 1, a_weEnded, a_finishing, an_g Q, ya_prefix, ya_length, ya_got, ya_high, a_messageCount, ya_has, an_g tx, ya_frame, ya_payloads, ya_table, an_g z.1, a.2.2.2.2.2.2.1, a.2.2.2.2.2.2.2.1, a.2.2.2.2.2.2.2.2.1, a.2.2.2.2.2.2.2.2.2.1, a.2.2.2.2.2.2.2.2.2.2.1, a.2.2.2.2.2.2.2.2.2.2.2.1, a.2.2.2.2.2.2.2.2.2.2.2.2, ya_sizes)) ∧ (¬ a_weEnded st = 0 → wpY_shut q (f_down, nI h, nI p, yf_payload, yf_wants, yf_name, yf_first, yf_counts, yf_enters, nI M, nI m, nI z.2, nI (if l = 0 then 7 else l), a.1, a.2.1, a.2.2.1, a.2.2.2.1, t, a.2.2.2.2.1, a.2.2.2.2.2.1, a_kinds, a_repeats, a_life, a_codes, an_f wi, an_f wo, ya_type, an_f hc, a_headers, an_f ql, upd ya_otherEnded st 1, a_weEnded, a_finishing, an_g Q, ya_prefix, ya_length, ya_got, ya_high, a_messageCount, ya_has, an_g tx, ya_frame, ya_payloads, ya_table, an_g z.1, a.2.2.2.2.2.2.1, a.2.2.2.2.2.2.2.1, a.2.2.2.2.2.2.2.2.1, a.2.2.2.2.2.2.2.2.2.1, a.2.2.2.2.2.2.2.2.2.2.1, a.2.2.2.2.2.2.2.2.2.2.2.1, a.2.2.2.2.2.2.2.2.2.2.2.2, ya_sizes) (nI st) 0))) → (0 < pp → wpY_error q (f_down, nI h, nI p, yf_payload, yf_wants, yf_name, yf_first, yf_counts, yf_enters, nI M, nI m, nI z.2, nI (if l = 0 then 7 else l), a.1, a.2.1, a.2.2.1, a.2.2.2.1, t, a.2.2.2.2.1, a.2.2.2.2.2.1, a_kinds, a_repeats, a_life, a_codes, an_f wi, an_f wo, ya_type, an_f hc, a_headers, an_f ql, upd ya_otherEnded st 1, a_weEnded, a_finishing, an_g Q, ya_prefix, ya_length, ya_got, ya_high, a_messageCount, ya_has, an_g tx, ya_frame, ya_payloads, ya_table, an_g z.1, a.2.2.2.2.2.2.1, a.2.2.2.2.2.2.2.1, a.2.2.2.2.2.2.2.2.1, a.2.2.2.2.2.2.2.2.2.1, a.2.2.2.2.2.2.2.2.2.2.1, a.2.2.2.2.2.2.2.2.2.2.2.1, a.2.2.2.2.2.2.2.2.2.2.2.2, ya_sizes) (nI st) (nI 9)) →
      wY_end_164 q (nI st) (nI so) (if fl % 2 = 0 then 0 else 1) (f_down) (nI h) (nI p) yf_payload yf_wants yf_name yf_first yf_counts yf_enters (nI M) (nI m) (nI z.2) (nI (if l = 0 then 7 else l)) (a.1) (a.2.1) (a.2.2.1) (a.2.2.2.1) (t) (a.2.2.2.2.1) (a.2.2.2.2.2.1) (a_kinds) (a_repeats) (a_life) (a_codes) (an_f wi) (an_f wo) ya_type (an_f hc) (a_headers) (an_f ql) ya_otherEnded (a_weEnded) (a_finishing) (an_g Q) ya_prefix ya_length ya_got ya_high (a_messageCount) ya_has (an_g tx) ya_frame ya_payloads ya_table (an_g z.1) (a.2.2.2.2.2.2.1) (a.2.2.2.2.2.2.2.1) (a.2.2.2.2.2.2.2.2.1) (a.2.2.2.2.2.2.2.2.2.1) (a.2.2.2.2.2.2.2.2.2.2.1) (a.2.2.2.2.2.2.2.2.2.2.2.1) (a.2.2.2.2.2.2.2.2.2.2.2.2) ya_sizes := by
    intro a t q k1 k2
    unfold wY_end_164
    rw [c2, g2, if_neg y]
    refine pk_lt 1 so (fun w' => by omega) (fun _ => br_t d ⟨c1, br_t y1 (br_f (by decide) ⟨c1, nm_r (e' := upd ya_otherEnded st 1) rfl ⟨c1, pk_le pp 0 (fun w' => ⟨c1, k1 (by omega)⟩) (fun w' => k2 w')⟩⟩)⟩)
  unfold wpX_endTheirSide
  dsimp only
  rw [i0.1, c0, c2, g3]
  refine ⟨i0.2.1, pk_eq pp 0 (fun p0 => ⟨c1, nm_r (e' := upd a_theyEnded st 1) rfl ⟨c1, br_c (fun w0 => ?_) (fun w0 => ⟨c1, nm_e ?_⟩)⟩⟩) (fun p0 => xo_failS (c := 9) h8 hO.1 ?_)⟩
  · exact H (upd a_theyEnded st 1) (upd ya_otherEnded st 1) a_life a_codes ql z (cr_S_th hS) hO (fun i => Or.inl rfl) (fun w' => absurd y1 w') (fun a t q hq => HY a t q (fun _ => br_t w0 (hq a t)) (fun w' => by omega))
  · have hw1 : a_weEnded st = 1 := s3.resolve_left w0
    have eco : upd a_codes st 0 = a_codes := pk_id (s9 hne2 (by omega))
    have eql : pm_u ql st 0 = ql := pm_id (s10 hw1).2
    have hS' := cr_S_shut (x := 0) (show 0 < st by omega) (cr_S_th (s := st) hS)
    rw [eco, eql] at hS'
    refine H (upd a_theyEnded st 1) (upd ya_otherEnded st 1) (upd a_life st 2) a_codes ql z hS' hO hl2 (fun w' => absurd y1 w') (fun a t q hq => HY a t q (fun _ => br_f w0 (yo_shut h8 ?_)) (fun w' => by omega))
    rw [eq, eql, eco]
    exact hq a t
  · rw [eq]
    refine H a_theyEnded (upd ya_otherEnded st 1) (upd a_life st 2) (upd a_codes st (nI 9)) (pm_u ql st 0) (ou_L z [1, 2, 0, st, 9]) (cr_S_ot pk_us (cr_S_shut (by omega) hS)) (td_z hO h8 (by omega)) hl2 (fun w' => absurd y1 w') (fun a t q hq => HY a t q (fun w' => absurd w' p0) (fun _ => yo_errS (by omega) h8 hO.1 ?_))
    rw [eq]
    exact hq a t
end
end
section
/-! T8: the end of a frame that resets, grants or pings -/
section
variable {K : Nat → Nat} {R : Nat → Bool} {z : (Nat → Nat) × Nat} {fAt n so fl st h p m M l : Nat} {wi wo ql hc Q tx : Nat → Nat} {f_down f_typeSeen yf_payload yf_wants yf_name yf_first yf_counts yf_enters yf_nodes yf_values yf_skipped yf_pos yf_there yf_number yf_at : Int32} {a_payload a_life a_theyEnded a_weEnded a_finishing a_codes a_headers a_entries a_kinds a_repeats a_messageCount a_nodeCount a_nodeTypes a_valueCount a_valueOwners a_values a_skippedCount a_reader a_chainNode a_chainEnd a_nodeSize a_nodePlace ya_type ya_otherEnded ya_prefix ya_length ya_got ya_high ya_has ya_frame ya_payloads ya_table ya_nodeType ya_valueNode ya_valueNumber ya_value ya_from ya_limit ya_inside ya_sizes : Nat → Int32} {k b : Nat}
theorem ye_164 {yf_down yf_heads yf_paid yf_payload yf_wants yf_name yf_first yf_counts yf_enters yf_most yf_many yf_sent yf_last yf_nodes yf_values yf_skipped yf_pos yf_there yf_number yf_at : Int32} {ya_kind ya_repeated ya_how ya_code ya_coming ya_going ya_type ya_headers ya_header ya_queued ya_otherEnded ya_ended ya_finishing ya_queue ya_prefix ya_length ya_got ya_high ya_whole ya_has ya_bytes ya_frame ya_payloads ya_table ya_out ya_nodeType ya_valueNode ya_valueNumber ya_value ya_from ya_limit ya_inside ya_sizes : Nat → Int32} {so : Nat} {q : SY → Prop} {x1 x3 : Int32} (h : 2 ≤ so) (hso : so < 256) (H : q (yf_down, yf_heads, yf_paid, yf_payload, yf_wants, yf_name, yf_first, yf_counts, yf_enters, yf_most, yf_many, yf_sent, yf_last, yf_nodes, yf_values, yf_skipped, yf_pos, yf_there, yf_number, yf_at, ya_kind, ya_repeated, ya_how, ya_code, ya_coming, ya_going, ya_type, ya_headers, ya_header, ya_queued, ya_otherEnded, ya_ended, ya_finishing, ya_queue, ya_prefix, ya_length, ya_got, ya_high, ya_whole, ya_has, ya_bytes, ya_frame, ya_payloads, ya_table, ya_out, ya_nodeType, ya_valueNode, ya_valueNumber, ya_value, ya_from, ya_limit, ya_inside, ya_sizes)) : wY_end_164 q x1 (nI so) x3 yf_down yf_heads yf_paid yf_payload yf_wants yf_name yf_first yf_counts yf_enters yf_most yf_many yf_sent yf_last yf_nodes yf_values yf_skipped yf_pos yf_there yf_number yf_at ya_kind ya_repeated ya_how ya_code ya_coming ya_going ya_type ya_headers ya_header ya_queued ya_otherEnded ya_ended ya_finishing ya_queue ya_prefix ya_length ya_got ya_high ya_whole ya_has ya_bytes ya_frame ya_payloads ya_table ya_out ya_nodeType ya_valueNode ya_valueNumber ya_value ya_from ya_limit ya_inside ya_sizes := by
  unfold wY_end_164
  exact pk_lt 1 so (fun _ => H) (fun w => by omega)
theorem ye_153 {yf_down yf_heads yf_paid yf_payload yf_wants yf_name yf_first yf_counts yf_enters yf_most yf_many yf_sent yf_last yf_nodes yf_values yf_skipped yf_pos yf_there yf_number yf_at : Int32} {ya_kind ya_repeated ya_how ya_code ya_coming ya_going ya_type ya_headers ya_header ya_queued ya_otherEnded ya_ended ya_finishing ya_queue ya_prefix ya_length ya_got ya_high ya_whole ya_has ya_bytes ya_frame ya_payloads ya_table ya_out ya_nodeType ya_valueNode ya_valueNumber ya_value ya_from ya_limit ya_inside ya_sizes : Nat → Int32} {so : Nat} {q : SY → Prop} {x1 x3 : Int32} (h : 2 ≤ so) (hso : so < 256) (H : q (yf_down, yf_heads, yf_paid, yf_payload, yf_wants, yf_name, yf_first, yf_counts, yf_enters, yf_most, yf_many, yf_sent, yf_last, yf_nodes, yf_values, yf_skipped, yf_pos, yf_there, yf_number, yf_at, ya_kind, ya_repeated, ya_how, ya_code, ya_coming, ya_going, ya_type, ya_headers, ya_header, ya_queued, ya_otherEnded, ya_ended, ya_finishing, ya_queue, ya_prefix, ya_length, ya_got, ya_high, ya_whole, ya_has, ya_bytes, ya_frame, ya_payloads, ya_table, ya_out, ya_nodeType, ya_valueNode, ya_valueNumber, ya_value, ya_from, ya_limit, ya_inside, ya_sizes)) : wY_end_153 q x1 (nI so) x3 yf_down yf_heads yf_paid yf_payload yf_wants yf_name yf_first yf_counts yf_enters yf_most yf_many yf_sent yf_last yf_nodes yf_values yf_skipped yf_pos yf_there yf_number yf_at ya_kind ya_repeated ya_how ya_code ya_coming ya_going ya_type ya_headers ya_header ya_queued ya_otherEnded ya_ended ya_finishing ya_queue ya_prefix ya_length ya_got ya_high ya_whole ya_has ya_bytes ya_frame ya_payloads ya_table ya_out ya_nodeType ya_valueNode ya_valueNumber ya_value ya_from ya_limit ya_inside ya_sizes := by
  unfold wY_end_153
  exact pk_eq so 1 (fun w => by omega) (fun _ => ye_164 h hso H)
theorem ye_128 {yf_down yf_heads yf_paid yf_payload yf_wants yf_name yf_first yf_counts yf_enters yf_most yf_many yf_sent yf_last yf_nodes yf_values yf_skipped yf_pos yf_there yf_number yf_at : Int32} {ya_kind ya_repeated ya_how ya_code ya_coming ya_going ya_type ya_headers ya_header ya_queued ya_otherEnded ya_ended ya_finishing ya_queue ya_prefix ya_length ya_got ya_high ya_whole ya_has ya_bytes ya_frame ya_payloads ya_table ya_out ya_nodeType ya_valueNode ya_valueNumber ya_value ya_from ya_limit ya_inside ya_sizes : Nat → Int32} {so : Nat} {q : SY → Prop} {x1 x3 : Int32} (h : 2 ≤ so) (hso : so < 256) (h4 : so ≠ 4) (H : q (yf_down, yf_heads, yf_paid, yf_payload, yf_wants, yf_name, yf_first, yf_counts, yf_enters, yf_most, yf_many, yf_sent, yf_last, yf_nodes, yf_values, yf_skipped, yf_pos, yf_there, yf_number, yf_at, ya_kind, ya_repeated, ya_how, ya_code, ya_coming, ya_going, ya_type, ya_headers, ya_header, ya_queued, ya_otherEnded, ya_ended, ya_finishing, ya_queue, ya_prefix, ya_length, ya_got, ya_high, ya_whole, ya_has, ya_bytes, ya_frame, ya_payloads, ya_table, ya_out, ya_nodeType, ya_valueNode, ya_valueNumber, ya_value, ya_from, ya_limit, ya_inside, ya_sizes)) : wY_end_128 q x1 (nI so) x3 yf_down yf_heads yf_paid yf_payload yf_wants yf_name yf_first yf_counts yf_enters yf_most yf_many yf_sent yf_last yf_nodes yf_values yf_skipped yf_pos yf_there yf_number yf_at ya_kind ya_repeated ya_how ya_code ya_coming ya_going ya_type ya_headers ya_header ya_queued ya_otherEnded ya_ended ya_finishing ya_queue ya_prefix ya_length ya_got ya_high ya_whole ya_has ya_bytes ya_frame ya_payloads ya_table ya_out ya_nodeType ya_valueNode ya_valueNumber ya_value ya_from ya_limit ya_inside ya_sizes := by
  unfold wY_end_128
  exact pk_eq so 4 (fun w => absurd w h4) (fun _ => ye_153 h hso H)
theorem ye_58 {yf_down yf_heads yf_paid yf_payload yf_wants yf_name yf_first yf_counts yf_enters yf_most yf_many yf_sent yf_last yf_nodes yf_values yf_skipped yf_pos yf_there yf_number yf_at : Int32} {ya_kind ya_repeated ya_how ya_code ya_coming ya_going ya_type ya_headers ya_header ya_queued ya_otherEnded ya_ended ya_finishing ya_queue ya_prefix ya_length ya_got ya_high ya_whole ya_has ya_bytes ya_frame ya_payloads ya_table ya_out ya_nodeType ya_valueNode ya_valueNumber ya_value ya_from ya_limit ya_inside ya_sizes : Nat → Int32} {so : Nat} {q : SY → Prop} {x1 x3 : Int32} (h : 2 ≤ so) (hso : so < 256) (h4 : so ≠ 4) (h3 : so ≠ 3) (H : q (yf_down, yf_heads, yf_paid, yf_payload, yf_wants, yf_name, yf_first, yf_counts, yf_enters, yf_most, yf_many, yf_sent, yf_last, yf_nodes, yf_values, yf_skipped, yf_pos, yf_there, yf_number, yf_at, ya_kind, ya_repeated, ya_how, ya_code, ya_coming, ya_going, ya_type, ya_headers, ya_header, ya_queued, ya_otherEnded, ya_ended, ya_finishing, ya_queue, ya_prefix, ya_length, ya_got, ya_high, ya_whole, ya_has, ya_bytes, ya_frame, ya_payloads, ya_table, ya_out, ya_nodeType, ya_valueNode, ya_valueNumber, ya_value, ya_from, ya_limit, ya_inside, ya_sizes)) : wY_end_58 q x1 (nI so) x3 yf_down yf_heads yf_paid yf_payload yf_wants yf_name yf_first yf_counts yf_enters yf_most yf_many yf_sent yf_last yf_nodes yf_values yf_skipped yf_pos yf_there yf_number yf_at ya_kind ya_repeated ya_how ya_code ya_coming ya_going ya_type ya_headers ya_header ya_queued ya_otherEnded ya_ended ya_finishing ya_queue ya_prefix ya_length ya_got ya_high ya_whole ya_has ya_bytes ya_frame ya_payloads ya_table ya_out ya_nodeType ya_valueNode ya_valueNumber ya_value ya_from ya_limit ya_inside ya_sizes := by
  unfold wY_end_58
  exact pk_eq so 3 (fun w => absurd w h3) (fun _ => ye_128 h hso h4 H)
theorem ye_end {yf_down yf_heads yf_paid yf_payload yf_wants yf_name yf_first yf_counts yf_enters yf_most yf_many yf_sent yf_last yf_nodes yf_values yf_skipped yf_pos yf_there yf_number yf_at : Int32} {ya_kind ya_repeated ya_how ya_code ya_coming ya_going ya_type ya_headers ya_header ya_queued ya_otherEnded ya_ended ya_finishing ya_queue ya_prefix ya_length ya_got ya_high ya_whole ya_has ya_bytes ya_frame ya_payloads ya_table ya_out ya_nodeType ya_valueNode ya_valueNumber ya_value ya_from ya_limit ya_inside ya_sizes : Nat → Int32} {so st fl : Nat} {q : SY → Prop} (hfl : fl < 256) (f1 : ya_frame 1 = nI so) (f2 : ya_frame 2 = nI fl) (f3 : ya_frame 3 = nI st) (H : wY_end_30 q (nI st) (nI so) (if fl % 2 = 0 then 0 else 1) yf_down yf_heads yf_paid yf_payload yf_wants yf_name yf_first yf_counts yf_enters yf_most yf_many yf_sent yf_last yf_nodes yf_values yf_skipped yf_pos yf_there yf_number yf_at ya_kind ya_repeated ya_how ya_code ya_coming ya_going ya_type ya_headers ya_header ya_queued ya_otherEnded ya_ended ya_finishing ya_queue ya_prefix ya_length ya_got ya_high ya_whole ya_has ya_bytes ya_frame ya_payloads ya_table ya_out ya_nodeType ya_valueNode ya_valueNumber ya_value ya_from ya_limit ya_inside ya_sizes) : wpY_end q (yf_down, yf_heads, yf_paid, yf_payload, yf_wants, yf_name, yf_first, yf_counts, yf_enters, yf_most, yf_many, yf_sent, yf_last, yf_nodes, yf_values, yf_skipped, yf_pos, yf_there, yf_number, yf_at, ya_kind, ya_repeated, ya_how, ya_code, ya_coming, ya_going, ya_type, ya_headers, ya_header, ya_queued, ya_otherEnded, ya_ended, ya_finishing, ya_queue, ya_prefix, ya_length, ya_got, ya_high, ya_whole, ya_has, ya_bytes, ya_frame, ya_payloads, ya_table, ya_out, ya_nodeType, ya_valueNode, ya_valueNumber, ya_value, ya_from, ya_limit, ya_inside, ya_sizes) := by
  unfold wpY_end
  dsimp only
  rw [f2, fl_1 hfl]
  refine nm_r f3 (nm_r f1 (pk_eq (fl % 2) 0 (fun w => ?_) (fun w => ?_)))
  · rw [if_pos w] at H; exact H
  · rw [if_neg w] at H; exact H
theorem xe_82 {post : SX → Prop} (h : 2 ≤ so) (hso : so < 256) (H : post (nI fAt, nI n, nI so, nI fl, nI st, f_down, nI m, nI M, f_typeSeen, nI l, nI z.2, a_payload, a_life, a_theyEnded, a_weEnded, a_finishing, a_codes, an_f wi, an_f wo, a_headers, an_f hc, a_entries, a_kinds, a_repeats, a_messageCount, an_f tx, a_nodeCount, a_nodeTypes, a_valueCount, a_valueOwners, a_values, a_skippedCount, a_reader, a_chainNode, a_chainEnd, an_f Q, an_f ql, an_f z.1, a_nodeSize, a_nodePlace)) : wX_endFrame_82 post (nI fAt) (nI n) (nI so) (nI fl) (nI st) f_down (nI m) (nI M) f_typeSeen (nI l) (nI z.2) a_payload a_life a_theyEnded a_weEnded a_finishing a_codes (an_f wi) (an_f wo) a_headers (an_f hc) a_entries a_kinds a_repeats a_messageCount (an_f tx) a_nodeCount a_nodeTypes a_valueCount a_valueOwners a_values a_skippedCount a_reader a_chainNode a_chainEnd (an_f Q) (an_f ql) (an_f z.1) a_nodeSize a_nodePlace := by
  unfold wX_endFrame_82
  exact br_c (fun _ => pk_lt 1 so (fun _ => H) (fun w => by omega)) (fun _ => H)
theorem ex_24 {post : SX → Prop} (hd : f_down = 0) (h2 : 2 ≤ so) (h4 : so ≤ 4) (h8 : st < 8) (h21 : so = 2 → 1 ≤ st) (hln : so = 2 ∨ so = 3 → 0 < st → a_life st ≠ 0) (h40 : so = 4 → st = 0) (hfl : fl < 256) (hb : b < 256) (hp : a_payload 0 = nI b) (hyp : yf_payload = nI b)
    (hS : cr_S a_life a_theyEnded ya_otherEnded a_weEnded a_finishing a_codes wi wo ql) (hO : ou_I z) (f1 : ya_frame 1 = nI so) (f2 : ya_frame 2 = nI fl) (f3 : ya_frame 3 = nI st)
    (H : ∀ (wo' : Nat → Nat) (life' co' : Nat → Int32) (ql' : Nat → Nat) (z' : (Nat → Nat) × Nat) (dn' : Int32), cr_S life' a_theyEnded ya_otherEnded a_weEnded a_finishing co' wi wo' ql' → ou_I z' →
      (∀ i, life' i = a_life i ∨ (a_life i ≠ 0 ∧ life' i = 2)) → (dn' = 0 ∨ dn' = 1) →
      (∀ (a : yr_Z) (t : Int32) (q : SY → Prop), (∀ (a : yr_Z) (t : Int32), q (dn', nI 0, nI p, yf_payload, yf_wants, yf_name, yf_first, yf_counts, yf_enters, nI M, nI m, nI z'.2, nI (if l = 0 then 7 else l), a.1, a.2.1, a.2.2.1, a.2.2.2.1, t, a.2.2.2.2.1, a.2.2.2.2.2.1, a_kinds, a_repeats, life', co', an_f wi, an_f wo', ya_type, an_f hc, a_headers, an_f ql', ya_otherEnded, a_weEnded, a_finishing, an_g Q, ya_prefix, ya_length, ya_got, ya_high, a_messageCount, ya_has, an_g tx, ya_frame, ya_payloads, ya_table, an_g z'.1, a.2.2.2.2.2.2.1, a.2.2.2.2.2.2.2.1, a.2.2.2.2.2.2.2.2.1, a.2.2.2.2.2.2.2.2.2.1, a.2.2.2.2.2.2.2.2.2.2.1, a.2.2.2.2.2.2.2.2.2.2.2.1, a.2.2.2.2.2.2.2.2.2.2.2.2, ya_sizes)) → wpY_end q (f_down, nI 0, nI p, yf_payload, yf_wants, yf_name, yf_first, yf_counts, yf_enters, nI M, nI m, nI z.2, nI (if l = 0 then 7 else l), a.1, a.2.1, a.2.2.1, a.2.2.2.1, t, a.2.2.2.2.1, a.2.2.2.2.2.1, a_kinds, a_repeats, a_life, a_codes, an_f wi, an_f wo, ya_type, an_f hc, a_headers, an_f ql, ya_otherEnded, a_weEnded, a_finishing, an_g Q, ya_prefix, ya_length, ya_got, ya_high, a_messageCount, ya_has, an_g tx, ya_frame, ya_payloads, ya_table, an_g z.1, a.2.2.2.2.2.2.1, a.2.2.2.2.2.2.2.1, a.2.2.2.2.2.2.2.2.1, a.2.2.2.2.2.2.2.2.2.1, a.2.2.2.2.2.2.2.2.2.2.1, a.2.2.2.2.2.2.2.2.2.2.2.1, a.2.2.2.2.2.2.2.2.2.2.2.2, ya_sizes)) →
      post (nI fAt, nI n, nI so, nI fl, nI st, dn', nI m, nI M, f_typeSeen, nI l, nI z'.2, a_payload, life', a_theyEnded, a_weEnded, a_finishing, co', an_f wi, an_f wo', a_headers, an_f hc, a_entries, a_kinds, a_repeats, a_messageCount, an_f tx, a_nodeCount, a_nodeTypes, a_valueCount, a_valueOwners, a_values, a_skippedCount, a_reader, a_chainNode, a_chainEnd, an_f Q, an_f ql', an_f z'.1, a_nodeSize, a_nodePlace)) :
    wpX_endFrame post (nI fAt, nI n, nI so, nI fl, nI st, f_down, nI m, nI M, f_typeSeen, nI l, nI z.2, a_payload, a_life, a_theyEnded, a_weEnded, a_finishing, a_codes, an_f wi, an_f wo, a_headers, an_f hc, a_entries, a_kinds, a_repeats, a_messageCount, an_f tx, a_nodeCount, a_nodeTypes, a_valueCount, a_valueOwners, a_values, a_skippedCount, a_reader, a_chainNode, a_chainEnd, an_f Q, an_f ql, an_f z.1, a_nodeSize, a_nodePlace) := by
  subst hd
  obtain ⟨c1, c2⟩ := xr_c8 h8
  have eq : upd (an_f ql) st 0 = an_f (pm_u ql st 0) := an_fu ql st 0
  obtain ⟨s1, s2, s3, s4, s5, s6, s7, s8, s9, s10⟩ := hS.2 st h8
  have hso : so < 256 := by omega
  have HS : (∀ (a : yr_Z) (t : Int32) (q : SY → Prop), q (0, nI 0, nI p, yf_payload, yf_wants, yf_name, yf_first, yf_counts, yf_enters, nI M, nI m, nI z.2, nI (if l = 0 then 7 else l), a.1, a.2.1, a.2.2.1, a.2.2.2.1, t, a.2.2.2.2.1, a.2.2.2.2.2.1, a_kinds, a_repeats, a_life, a_codes, an_f wi, an_f wo, ya_type, an_f hc, a_headers, an_f ql, ya_otherEnded, a_weEnded, a_finishing, an_g Q, ya_prefix, ya_length, ya_got, ya_high, a_messageCount, ya_has, an_g tx, ya_frame, ya_payloads, ya_table, an_g z.1, a.2.2.2.2.2.2.1, a.2.2.2.2.2.2.2.1, a.2.2.2.2.2.2.2.2.1, a.2.2.2.2.2.2.2.2.2.1, a.2.2.2.2.2.2.2.2.2.2.1, a.2.2.2.2.2.2.2.2.2.2.2.1, a.2.2.2.2.2.2.2.2.2.2.2.2, ya_sizes) → wY_end_30 q (nI st) (nI so) (if fl % 2 = 0 then 0 else 1) (0) (nI 0) (nI p) yf_payload yf_wants yf_name yf_first yf_counts yf_enters (nI M) (nI m) (nI z.2) (nI (if l = 0 then 7 else l)) (a.1) (a.2.1) (a.2.2.1) (a.2.2.2.1) (t) (a.2.2.2.2.1) (a.2.2.2.2.2.1) (a_kinds) (a_repeats) (a_life) (a_codes) (an_f wi) (an_f wo) ya_type (an_f hc) (a_headers) (an_f ql) ya_otherEnded (a_weEnded) (a_finishing) (an_g Q) ya_prefix ya_length ya_got ya_high (a_messageCount) ya_has (an_g tx) ya_frame ya_payloads ya_table (an_g z.1) (a.2.2.2.2.2.2.1) (a.2.2.2.2.2.2.2.1) (a.2.2.2.2.2.2.2.2.1) (a.2.2.2.2.2.2.2.2.2.1) (a.2.2.2.2.2.2.2.2.2.2.1) (a.2.2.2.2.2.2.2.2.2.2.2.1) (a.2.2.2.2.2.2.2.2.2.2.2.2) ya_sizes) → post (nI fAt, nI n, nI so, nI fl, nI st, 0, nI m, nI M, f_typeSeen, nI l, nI z.2, a_payload, a_life, a_theyEnded, a_weEnded, a_finishing, a_codes, an_f wi, an_f wo, a_headers, an_f hc, a_entries, a_kinds, a_repeats, a_messageCount, an_f tx, a_nodeCount, a_nodeTypes, a_valueCount, a_valueOwners, a_values, a_skippedCount, a_reader, a_chainNode, a_chainEnd, an_f Q, an_f ql, an_f z.1, a_nodeSize, a_nodePlace) := fun hy =>
    H wo a_life a_codes ql z 0 hS hO (fun i => Or.inl rfl) (Or.inl rfl) (fun a t q hq => ye_end hfl f1 f2 f3 (hy a t q (hq a t)))
  unfold wpX_endFrame
  refine pk_lt so 1 (fun w => by omega) (fun _ => pk_lt 4 so (fun w => by omega) (fun _ => pk_eq so 1 (fun w => by omega) (fun _ => pk_eq so 2 (fun e2 => ?_) (fun e2 => pk_eq so 3 (fun e3 => ?_) (fun e3 => pk_eq so 4 (fun e4 => ?_) (fun w => by omega))))))
  · -- reset
    have h1 := h21 e2
    have hl0 := hln (Or.inl e2) (by omega)
    have hl2 := cr_l2 (life := a_life) (s := st) hl0
    unfold wpX_endReset
    dsimp only
    rw [c2, hp]
    refine ⟨c1, br_c (fun y => xe_82 h2 hso (HS (fun a t q hq => ?_))) (fun y => ⟨c1, nm_e ⟨c1, nm_r (e' := upd a_codes st (nI (100 + b))) (by rw [show (100 : Int32) = nI 100 from rfl, nI_add]) ⟨c1, nm_r eq (xe_82 h2 hso ?_)⟩⟩⟩)⟩
    · unfold wY_end_30
      rw [c2]
      exact pk_eq so 2 (fun _ => ⟨c1, br_t y (ye_58 h2 hso (by omega) (by omega) hq)⟩) (fun w => absurd e2 w)
    · refine H wo (upd a_life st 2) (upd a_codes st (nI (100 + b))) (pm_u ql st 0) z 0 (cr_S_shut (by omega) hS) hO hl2 (Or.inl rfl) (fun a t q hq => ye_end hfl f1 f2 f3 ?_)
      unfold wY_end_30
      rw [c2, hyp]
      refine pk_eq so 2 (fun _ => ⟨c1, br_f y ?_⟩) (fun w => absurd e2 w)
      have e100 : (100 : Int32) + nI b = nI (100 + b) := by rw [show (100 : Int32) = nI 100 from rfl, nI_add]
      rw [e100]
      refine yo_shut h8 (ye_58 h2 hso (by omega) (by omega) ?_)
      rw [eq, ← hyp]
      exact hq a t
  · -- a window
    have hY : ∀ (a : yr_Z) (t : Int32) (q : SY → Prop), wY_end_58 q (nI st) (nI so) (if fl % 2 = 0 then 0 else 1) (0) (nI 0) (nI p) yf_payload yf_wants yf_name yf_first yf_counts yf_enters (nI M) (nI m) (nI z.2) (nI (if l = 0 then 7 else l)) (a.1) (a.2.1) (a.2.2.1) (a.2.2.2.1) (t) (a.2.2.2.2.1) (a.2.2.2.2.2.1) (a_kinds) (a_repeats) (a_life) (a_codes) (an_f wi) (an_f wo) ya_type (an_f hc) (a_headers) (an_f ql) ya_otherEnded (a_weEnded) (a_finishing) (an_g Q) ya_prefix ya_length ya_got ya_high (a_messageCount) ya_has (an_g tx) ya_frame ya_payloads ya_table (an_g z.1) (a.2.2.2.2.2.2.1) (a.2.2.2.2.2.2.2.1) (a.2.2.2.2.2.2.2.2.1) (a.2.2.2.2.2.2.2.2.2.1) (a.2.2.2.2.2.2.2.2.2.2.1) (a.2.2.2.2.2.2.2.2.2.2.2.1) (a.2.2.2.2.2.2.2.2.2.2.2.2) ya_sizes → wY_end_30 q (nI st) (nI so) (if fl % 2 = 0 then 0 else 1) (0) (nI 0) (nI p) yf_payload yf_wants yf_name yf_first yf_counts yf_enters (nI M) (nI m) (nI z.2) (nI (if l = 0 then 7 else l)) (a.1) (a.2.1) (a.2.2.1) (a.2.2.2.1) (t) (a.2.2.2.2.1) (a.2.2.2.2.2.1) (a_kinds) (a_repeats) (a_life) (a_codes) (an_f wi) (an_f wo) ya_type (an_f hc) (a_headers) (an_f ql) ya_otherEnded (a_weEnded) (a_finishing) (an_g Q) ya_prefix ya_length ya_got ya_high (a_messageCount) ya_has (an_g tx) ya_frame ya_payloads ya_table (an_g z.1) (a.2.2.2.2.2.2.1) (a.2.2.2.2.2.2.2.1) (a.2.2.2.2.2.2.2.2.1) (a.2.2.2.2.2.2.2.2.2.1) (a.2.2.2.2.2.2.2.2.2.2.1) (a.2.2.2.2.2.2.2.2.2.2.2.1) (a.2.2.2.2.2.2.2.2.2.2.2.2) ya_sizes := by
      intro a t q hq
      unfold wY_end_30
      exact pk_eq so 2 (fun w => absurd w e2) (fun _ => hq)
    have hwo : an_f wo st + nI b = nI (wo st + b) := by rw [an_fa, nI_add]
    -- the error
    have HE : ∀ c, c < 256 → c ≠ 0 → a_life st ≠ 2 → (∀ (a : yr_Z) (t : Int32) (q : SY → Prop), (wpY_error (fun u => match u with | (yf_down, yf_heads, yf_paid, yf_payload, yf_wants, yf_name, yf_first, yf_counts, yf_enters, yf_most, yf_many, yf_sent, yf_last, yf_nodes, yf_values, yf_skipped, yf_pos, yf_there, yf_number, yf_at, ya_kind, ya_repeated, ya_how, ya_code, ya_coming, ya_going, ya_type, ya_headers, ya_header, ya_queued, ya_otherEnded, ya_ended, ya_finishing, ya_queue, ya_prefix, ya_length, ya_got, ya_high, ya_whole, ya_has, ya_bytes, ya_frame, ya_payloads, ya_table, ya_out, ya_nodeType, ya_valueNode, ya_valueNumber, ya_value, ya_from, ya_limit, ya_inside, ya_sizes) => wY_end_128 q (nI st) (nI so) (if fl % 2 = 0 then 0 else 1) yf_down yf_heads yf_paid yf_payload yf_wants yf_name yf_first yf_counts yf_enters yf_most yf_many yf_sent yf_last yf_nodes yf_values yf_skipped yf_pos yf_there yf_number yf_at ya_kind ya_repeated ya_how ya_code ya_coming ya_going ya_type ya_headers ya_header ya_queued ya_otherEnded ya_ended ya_finishing ya_queue ya_prefix ya_length ya_got ya_high ya_whole ya_has ya_bytes ya_frame ya_payloads ya_table ya_out ya_nodeType ya_valueNode ya_valueNumber ya_value ya_from ya_limit ya_inside ya_sizes) (0, nI 0, nI p, yf_payload, yf_wants, yf_name, yf_first, yf_counts, yf_enters, nI M, nI m, nI z.2, nI (if l = 0 then 7 else l), a.1, a.2.1, a.2.2.1, a.2.2.2.1, t, a.2.2.2.2.1, a.2.2.2.2.2.1, a_kinds, a_repeats, a_life, a_codes, an_f wi, an_f wo, ya_type, an_f hc, a_headers, an_f ql, ya_otherEnded, a_weEnded, a_finishing, an_g Q, ya_prefix, ya_length, ya_got, ya_high, a_messageCount, ya_has, an_g tx, ya_frame, ya_payloads, ya_table, an_g z.1, a.2.2.2.2.2.2.1, a.2.2.2.2.2.2.2.1, a.2.2.2.2.2.2.2.2.1, a.2.2.2.2.2.2.2.2.2.1, a.2.2.2.2.2.2.2.2.2.2.1, a.2.2.2.2.2.2.2.2.2.2.2.1, a.2.2.2.2.2.2.2.2.2.2.2.2, ya_sizes) (nI st) (nI c)) → wY_end_58 q (nI st) (nI so) (if fl % 2 = 0 then 0 else 1) (0) (nI 0) (nI p) yf_payload yf_wants yf_name yf_first yf_counts yf_enters (nI M) (nI m) (nI z.2) (nI (if l = 0 then 7 else l)) (a.1) (a.2.1) (a.2.2.1) (a.2.2.2.1) (t) (a.2.2.2.2.1) (a.2.2.2.2.2.1) (a_kinds) (a_repeats) (a_life) (a_codes) (an_f wi) (an_f wo) ya_type (an_f hc) (a_headers) (an_f ql) ya_otherEnded (a_weEnded) (a_finishing) (an_g Q) ya_prefix ya_length ya_got ya_high (a_messageCount) ya_has (an_g tx) ya_frame ya_payloads ya_table (an_g z.1) (a.2.2.2.2.2.2.1) (a.2.2.2.2.2.2.2.1) (a.2.2.2.2.2.2.2.2.1) (a.2.2.2.2.2.2.2.2.2.1) (a.2.2.2.2.2.2.2.2.2.2.1) (a.2.2.2.2.2.2.2.2.2.2.2.1) (a.2.2.2.2.2.2.2.2.2.2.2.2) ya_sizes) →
        wX_endWindow_53 (fun u => match u with | (f_frameAt, f_frameLength, f_frameSort, f_frameFlags, f_frameStream, f_down, f_entryCount, f_most, f_typeSeen, f_lastSender, f_sentLength, a_payload, a_life, a_theyEnded, a_weEnded, a_finishing, a_codes, a_windowIn, a_windowOut, a_headers, a_headerCount, a_entries, a_kinds, a_repeats, a_messageCount, a_text, a_nodeCount, a_nodeTypes, a_valueCount, a_valueOwners, a_values, a_skippedCount, a_reader, a_chainNode, a_chainEnd, a_queue, a_queueLength, a_sent, a_nodeSize, a_nodePlace) => wX_endFrame_82 post f_frameAt f_frameLength f_frameSort f_frameFlags f_frameStream f_down f_entryCount f_most f_typeSeen f_lastSender f_sentLength a_payload a_life a_theyEnded a_weEnded a_finishing a_codes a_windowIn a_windowOut a_headers a_headerCount a_entries a_kinds a_repeats a_messageCount a_text a_nodeCount a_nodeTypes a_valueCount a_valueOwners a_values a_skippedCount a_reader a_chainNode a_chainEnd a_queue a_queueLength a_sent a_nodeSize a_nodePlace) (nI st) (nI c) (nI fAt) (nI n) (nI so) (nI fl) (nI st) (0) (nI m) (nI M) f_typeSeen (nI l) (nI z.2) a_payload a_life a_theyEnded a_weEnded a_finishing a_codes (an_f wi) (an_f wo) a_headers (an_f hc) a_entries a_kinds a_repeats a_messageCount (an_f tx) a_nodeCount a_nodeTypes a_valueCount a_valueOwners a_values a_skippedCount a_reader a_chainNode a_chainEnd (an_f Q) (an_f ql) (an_f z.1) a_nodeSize a_nodePlace := by
      intro c hcl hc0 hl hy
      unfold wX_endWindow_53
      refine pk_eq c 0 (fun w => absurd w hc0) (fun _ => pk_eq st 0 (fun e0 => ?_) (fun e0 => xo_failS h8 hO.1 ?_))
      · subst e0
        refine xo_failC hO.1 (xe_82 h2 hso ?_)
        refine H wo a_life (upd a_codes 0 (nI c)) ql (ou_L z [1, 5, 0, 0, c]) 1 (cr_S_c0 hS) (bf_z hO hcl) (fun i => Or.inl rfl) (Or.inr rfl) (fun a t q hq => ye_end hfl f1 f2 f3 (hY a t q (hy a t q ?_)))
        exact yo_errC hO.1 (ye_128 h2 hso (by omega) (hq a t))
      · dsimp only
        rw [eq]
        refine xe_82 h2 hso ?_
        refine H wo (upd a_life st 2) (upd a_codes st (nI c)) (pm_u ql st 0) (ou_L z [1, 2, 0, st, c]) 0 (cr_S_shut (by omega) hS) (td_z hO h8 hcl) (cr_l2 (hln (Or.inr e3) (by omega))) (Or.inl rfl) (fun a t q hq => ye_end hfl f1 f2 f3 (hY a t q (hy a t q ?_)))
        refine yo_errS (by omega) h8 hO.1 (ye_128 h2 hso (by omega) ?_)
        rw [eq]
        exact hq a t
    unfold wpX_endWindow
    dsimp only
    rw [c2, hp, hwo]
    refine ⟨c1, br_c (fun y => xe_82 h2 hso (HS (fun a t q hq => hY a t q ?_))) (fun y => pk_eq b 0 (fun b0 => HE 2 (by omega) (by omega) y (fun a t q hq => ?_)) (fun b0 => ⟨c1, pk_le (wo st + b) 255 (fun w5 => ?_) (fun w5 => HE 3 (by omega) (by omega) y (fun a t q hq => ?_))⟩))⟩
    · unfold wY_end_58
      rw [c2]
      exact pk_eq so 3 (fun _ => ⟨c1, br_t y (ye_128 h2 hso (by omega) hq)⟩) (fun w => absurd e3 w)
    · unfold wY_end_58
      rw [c2]
      exact pk_eq so 3 (fun _ => ⟨c1, br_f y (br_t (by rw [hyp, b0]; rfl) hq)⟩) (fun w => absurd e3 w)
    · have hW : ∀ i, i < 8 → pm_u wo st (wo st + b) i ≤ 255 := by
        intro i hi
        unfold pm_u
        split
        · exact w5
        · exact (hS.2 i hi).2.2.2.2.2.1
      have hS' : cr_S a_life a_theyEnded ya_otherEnded a_weEnded a_finishing a_codes wi (pm_u wo st (wo st + b)) ql := by
        refine ⟨hS.1, fun i hi => ?_⟩
        obtain ⟨s1, s2, s3, s4, s5, s6, s7, s8, s9, s10⟩ := hS.2 i hi
        exact ⟨s1, s2, s3, s4, s5, hW i hi, s7, s8, s9, s10⟩
      have ewo : upd (an_f wo) st (nI (wo st + b)) = an_f (pm_u wo st (wo st + b)) := an_fu wo st (wo st + b)
      unfold wX_endWindow_53
      rw [c2, hp, hwo]
      refine br_t rfl ⟨c1, c1, nm_r ewo (xe_82 h2 hso ?_)⟩
      refine H (pm_u wo st (wo st + b)) a_life a_codes ql z 0 hS' hO (fun i => Or.inl rfl) (Or.inl rfl) (fun a t q hq => ye_end hfl f1 f2 f3 (hY a t q ?_))
      unfold wY_end_58
      rw [c2, hyp, hwo]
      refine pk_eq so 3 (fun _ => ⟨c1, br_f y (pk_eq b 0 (fun w => absurd w b0) (fun _ => ⟨c1, pk_le (wo st + b) 255 (fun _ => ⟨c1, c1, nm_r ewo (ye_128 h2 hso (by omega) ?_)⟩) (fun w => by omega)⟩))⟩) (fun w => absurd e3 w)
      rw [← hyp]
      exact hq a t
    · unfold wY_end_58
      rw [c2]
      refine pk_eq so 3 (fun _ => ⟨c1, br_f y (br_f (by rw [hyp]; intro e; exact b0 ((nI_eq (a := b) (b := 0) (by omega) (by omega)).mp e)) ⟨c1, ?_⟩)⟩) (fun w => absurd e3 w)
      have hw2 : an_f wo st + yf_payload = nI (wo st + b) := by rw [hyp, hwo]
      rw [hw2]
      exact pk_le (wo st + b) 255 (fun w => by omega) (fun _ => hq)
  · -- a ping
    have hY : ∀ (a : yr_Z) (t : Int32) (q : SY → Prop), wY_end_128 q (nI st) (nI so) (if fl % 2 = 0 then 0 else 1) (0) (nI 0) (nI p) yf_payload yf_wants yf_name yf_first yf_counts yf_enters (nI M) (nI m) (nI z.2) (nI (if l = 0 then 7 else l)) (a.1) (a.2.1) (a.2.2.1) (a.2.2.2.1) (t) (a.2.2.2.2.1) (a.2.2.2.2.2.1) (a_kinds) (a_repeats) (a_life) (a_codes) (an_f wi) (an_f wo) ya_type (an_f hc) (a_headers) (an_f ql) ya_otherEnded (a_weEnded) (a_finishing) (an_g Q) ya_prefix ya_length ya_got ya_high (a_messageCount) ya_has (an_g tx) ya_frame ya_payloads ya_table (an_g z.1) (a.2.2.2.2.2.2.1) (a.2.2.2.2.2.2.2.1) (a.2.2.2.2.2.2.2.2.1) (a.2.2.2.2.2.2.2.2.2.1) (a.2.2.2.2.2.2.2.2.2.2.1) (a.2.2.2.2.2.2.2.2.2.2.2.1) (a.2.2.2.2.2.2.2.2.2.2.2.2) ya_sizes → wY_end_30 q (nI st) (nI so) (if fl % 2 = 0 then 0 else 1) (0) (nI 0) (nI p) yf_payload yf_wants yf_name yf_first yf_counts yf_enters (nI M) (nI m) (nI z.2) (nI (if l = 0 then 7 else l)) (a.1) (a.2.1) (a.2.2.1) (a.2.2.2.1) (t) (a.2.2.2.2.1) (a.2.2.2.2.2.1) (a_kinds) (a_repeats) (a_life) (a_codes) (an_f wi) (an_f wo) ya_type (an_f hc) (a_headers) (an_f ql) ya_otherEnded (a_weEnded) (a_finishing) (an_g Q) ya_prefix ya_length ya_got ya_high (a_messageCount) ya_has (an_g tx) ya_frame ya_payloads ya_table (an_g z.1) (a.2.2.2.2.2.2.1) (a.2.2.2.2.2.2.2.1) (a.2.2.2.2.2.2.2.2.1) (a.2.2.2.2.2.2.2.2.2.1) (a.2.2.2.2.2.2.2.2.2.2.1) (a.2.2.2.2.2.2.2.2.2.2.2.1) (a.2.2.2.2.2.2.2.2.2.2.2.2) ya_sizes := by
      intro a t q hq
      unfold wY_end_30
      refine pk_eq so 2 (fun w => absurd w e2) (fun _ => ?_)
      unfold wY_end_58
      exact pk_eq so 3 (fun w => absurd w e3) (fun _ => hq)
    rw [fl_1 hfl, hp]
    refine pk_eq (fl % 2) 0 (fun y => ?_) (fun y => xe_82 h2 hso (HS (fun a t q hq => hY a t q ?_)))
    · refine xo_short (a := 4) (b := 1) (c := 0) (d := b) hO.1 (xe_82 h2 hso ?_)
      refine H wo a_life a_codes ql (ou_L z [1, 4, 1, 0, b]) 0 hS (ou_L_I hO (fun x hx => ?_)) (fun i => Or.inl rfl) (Or.inl rfl) (fun a t q hq => ye_end hfl f1 f2 f3 (hY a t q ?_))
      · simp only [List.mem_cons, List.not_mem_nil, or_false] at hx
        rcases hx with hx | hx | hx | hx | hx <;> omega
      · unfold wY_end_128
        rw [if_pos y]
        refine pk_eq so 4 (fun _ => br_t rfl (yo_frame (a := 1) (b := 4) (c := 1) (d := 0) hO.1 ?_)) (fun w => absurd e4 w)
        refine yo_put (b := b) (by rw [hyp]; exact an_b1 b) (ou_L_le [1, 4, 1, 0] hO.1) ?_
        dsimp only
        exact ye_153 h2 hso (hq a t)
    · unfold wY_end_128
      rw [if_neg y]
      exact pk_eq so 4 (fun _ => br_f (by decide) (ye_153 h2 hso hq)) (fun w => absurd e4 w)
end
end
section
/-! T9: headers: one is kept, one is put into the table -/
section
def kh_c (life : Nat → Int32) (st : Nat) (hc : Nat → Nat) : Nat → Nat := if life st ≠ 2 ∧ hc st < 8 then pm_u hc st (hc st + 1) else hc
def kh_h (life : Nat → Int32) (st : Nat) (hc : Nat → Nat) (hd : Nat → Int32) (e : Nat) : Nat → Int32 := if life st ≠ 2 ∧ hc st < 8 then upd hd (8 * st + hc st) (nI e) else hd
def kh_t (ts : Int32) (nm v : Nat) : Int32 := if 0 ≤ ts then ts else if nm = 1 then nI v else ts
def tb_s (f : Nat → Int32) (m c : Nat) : Nat → Int32 := fun j => if c < j ∧ j ≤ m then f (j - 1) else f j
def at_m (m M : Nat) : Nat := if m + 1 ≤ M then m + 1 else M
def at_e (en : Nat → Int32) (m M e : Nat) : Nat → Int32 := if M = 0 then en else upd (tb_s en (at_m m M - 1) 0) 0 (nI e)
variable {f_frameAt f_frameLength f_frameSort f_frameFlags f_frameStream f_down f_entryCount f_most f_typeSeen f_lastSender f_sentLength : Int32} {a_payload a_life a_theyEnded a_weEnded a_finishing a_codes a_windowIn a_windowOut a_headers a_headerCount a_entries a_kinds a_repeats a_messageCount a_text a_nodeCount a_nodeTypes a_valueCount a_valueOwners a_values a_skippedCount a_reader a_chainNode a_chainEnd a_queue a_queueLength a_sent a_nodeSize a_nodePlace : Nat → Int32} {yf_down yf_heads yf_paid yf_payload yf_wants yf_name yf_first yf_counts yf_enters yf_most yf_many yf_sent yf_last yf_nodes yf_values yf_skipped yf_pos yf_there yf_number yf_at : Int32} {ya_kind ya_repeated ya_how ya_code ya_coming ya_going ya_type ya_headers ya_header ya_queued ya_otherEnded ya_ended ya_finishing ya_queue ya_prefix ya_length ya_got ya_high ya_whole ya_has ya_bytes ya_frame ya_payloads ya_table ya_out ya_nodeType ya_valueNode ya_valueNumber ya_value ya_from ya_limit ya_inside ya_sizes : Nat → Int32} {st e nm v m M mm : Nat} {hc : Nat → Nat} {f en ta : Nat → Int32}
theorem tb_0 : tb_s f m m = f := by
  funext j
  exact if_neg (by omega)
theorem tb_1 {c : Nat} (h : c < m) : upd (tb_s f m (c + 1)) (c + 1) (tb_s f m (c + 1) c) = tb_s f m c := by
  funext j
  rw [pm_upd_eq]
  unfold tb_s
  by_cases y : j = c + 1
  · subst y
    rw [if_pos rfl, if_neg (by omega), if_pos (by omega)]
    rfl
  · rw [if_neg y]
    by_cases y2 : c + 1 < j ∧ j ≤ m
    · rw [if_pos y2, if_pos (by omega)]
    · rw [if_neg y2, if_neg (by omega)]
theorem kh_x {post : SX → Prop} (h8 : st < 8) (hc8 : hc st ≤ 8) (he : e = 256 * nm + v) (hnm : nm < 256) (hv : v < 256)
    (H : post (f_frameAt, f_frameLength, f_frameSort, f_frameFlags, f_frameStream, f_down, f_entryCount, f_most, kh_t f_typeSeen nm v, f_lastSender, f_sentLength, a_payload, a_life, a_theyEnded, a_weEnded, a_finishing, a_codes, a_windowIn, a_windowOut, kh_h a_life st hc a_headers e, an_f (kh_c a_life st hc), a_entries, a_kinds, a_repeats, a_messageCount, a_text, a_nodeCount, a_nodeTypes, a_valueCount, a_valueOwners, a_values, a_skippedCount, a_reader, a_chainNode, a_chainEnd, a_queue, a_queueLength, a_sent, a_nodeSize, a_nodePlace)) : wpX_keepHeader post (f_frameAt, f_frameLength, f_frameSort, f_frameFlags, f_frameStream, f_down, f_entryCount, f_most, f_typeSeen, f_lastSender, f_sentLength, a_payload, a_life, a_theyEnded, a_weEnded, a_finishing, a_codes, a_windowIn, a_windowOut, a_headers, an_f hc, a_entries, a_kinds, a_repeats, a_messageCount, a_text, a_nodeCount, a_nodeTypes, a_valueCount, a_valueOwners, a_values, a_skippedCount, a_reader, a_chainNode, a_chainEnd, a_queue, a_queueLength, a_sent, a_nodeSize, a_nodePlace) (nI st) (nI e) := by
  obtain ⟨c1, c2⟩ := xr_c8 h8
  have hix : nI st * 8 + an_f hc st = nI (8 * st + hc st) := by
    rw [an_fa, show (8 : Int32) = nI 8 from rfl, pk_mul, nI_add, Nat.mul_comm]
  have k24 : ∀ ts, post (f_frameAt, f_frameLength, f_frameSort, f_frameFlags, f_frameStream, f_down, f_entryCount, f_most, ts, f_lastSender, f_sentLength, a_payload, a_life, a_theyEnded, a_weEnded, a_finishing, a_codes, a_windowIn, a_windowOut, kh_h a_life st hc a_headers e, an_f (kh_c a_life st hc), a_entries, a_kinds, a_repeats, a_messageCount, a_text, a_nodeCount, a_nodeTypes, a_valueCount, a_valueOwners, a_values, a_skippedCount, a_reader, a_chainNode, a_chainEnd, a_queue, a_queueLength, a_sent, a_nodeSize, a_nodePlace) → wX_keepHeader_24 post (nI st) (nI e) f_frameAt f_frameLength f_frameSort f_frameFlags f_frameStream f_down f_entryCount f_most (ts) f_lastSender f_sentLength a_payload a_life a_theyEnded a_weEnded a_finishing a_codes a_windowIn a_windowOut a_headers (an_f hc) a_entries a_kinds a_repeats a_messageCount a_text a_nodeCount a_nodeTypes a_valueCount a_valueOwners a_values a_skippedCount a_reader a_chainNode a_chainEnd a_queue a_queueLength a_sent a_nodeSize a_nodePlace := by
    intro ts h
    unfold kh_h kh_c at h
    unfold wX_keepHeader_24
    rw [c2, hix]
    refine ⟨c1, br_c (fun y => ?_) (fun y => ⟨c1, pk_le 8 (hc st) (fun w => ?_) (fun w => ⟨c1, vp_in_nI (by omega) (by omega), nm_r (by rw [nI_clamp (by omega)]) ⟨c1, c1, nm_r (e' := an_f (pm_u hc st (hc st + 1))) (by rw [an_fa, nI_1, an_fu]) ?_⟩⟩)⟩)⟩
    · rw [if_neg (fun w => w.1 y), if_neg (fun w => w.1 y)] at h; exact h
    · rw [if_neg (by omega), if_neg (by omega)] at h; exact h
    · rw [if_pos ⟨y, w⟩, if_pos ⟨y, w⟩] at h; exact h
  have e8 : nI e >>> ((8 : Int32) &&& 31) = nI nm := by
    rw [pk_shrN (by omega) _ 8 (by decide)]
    exact congrArg nI (by omega)
  have e255 : nI e &&& 255 = nI v := by
    rw [pk_andN (by omega) 8 (by decide)]
    exact congrArg nI (by omega)
  unfold wpX_keepHeader
  dsimp only
  rw [e8, e255]
  unfold kh_t at H
  refine br_c (fun y => k24 _ ?_) (fun y => pk_eq nm 1 (fun w => nm_e (k24 _ ?_)) (fun w => k24 _ ?_))
  · rw [if_pos y] at H; exact H
  · rw [if_neg y, if_pos w] at H; exact H
  · rw [if_neg y, if_neg w] at H; exact H
theorem kh_y {post : SY → Prop} (h8 : st < 8) (hc8 : hc st ≤ 8) (he : e = 256 * nm + v) (hnm : nm < 256) (hv : v < 256)
    (H : post (yf_down, yf_heads, yf_paid, yf_payload, yf_wants, yf_name, if ya_how st = 2 then yf_first else kh_t yf_first nm v, yf_counts, yf_enters, yf_most, yf_many, yf_sent, yf_last, yf_nodes, yf_values, yf_skipped, yf_pos, yf_there, yf_number, yf_at, ya_kind, ya_repeated, ya_how, ya_code, ya_coming, ya_going, ya_type, an_f (kh_c ya_how st hc), kh_h ya_how st hc ya_header e, ya_queued, ya_otherEnded, ya_ended, ya_finishing, ya_queue, ya_prefix, ya_length, ya_got, ya_high, ya_whole, ya_has, ya_bytes, ya_frame, ya_payloads, ya_table, ya_out, ya_nodeType, ya_valueNode, ya_valueNumber, ya_value, ya_from, ya_limit, ya_inside, ya_sizes)) : wpY_known post (yf_down, yf_heads, yf_paid, yf_payload, yf_wants, yf_name, yf_first, yf_counts, yf_enters, yf_most, yf_many, yf_sent, yf_last, yf_nodes, yf_values, yf_skipped, yf_pos, yf_there, yf_number, yf_at, ya_kind, ya_repeated, ya_how, ya_code, ya_coming, ya_going, ya_type, an_f hc, ya_header, ya_queued, ya_otherEnded, ya_ended, ya_finishing, ya_queue, ya_prefix, ya_length, ya_got, ya_high, ya_whole, ya_has, ya_bytes, ya_frame, ya_payloads, ya_table, ya_out, ya_nodeType, ya_valueNode, ya_valueNumber, ya_value, ya_from, ya_limit, ya_inside, ya_sizes) (nI st) (nI nm) (nI v) := by
  obtain ⟨c1, c2⟩ := xr_c8 h8
  have hix : 8 * nI st + an_f hc st = nI (8 * st + hc st) := by
    rw [an_fa, show (8 : Int32) = nI 8 from rfl, pk_mul, nI_add]
  have he' : 256 * nI nm + nI v = nI e := by
    rw [show (256 : Int32) = nI 256 from rfl, pk_mul, nI_add, he]
  unfold wpY_known
  dsimp only
  rw [c2]
  by_cases y : ya_how st = 2
  · unfold kh_h kh_c at H
    rw [if_pos y, if_neg (fun w => w.1 y), if_neg (fun w => w.1 y)] at H
    exact ⟨c1, br_t y H⟩
  rw [if_neg y] at H
  have k28 : ∀ ts, post (yf_down, yf_heads, yf_paid, yf_payload, yf_wants, yf_name, ts, yf_counts, yf_enters, yf_most, yf_many, yf_sent, yf_last, yf_nodes, yf_values, yf_skipped, yf_pos, yf_there, yf_number, yf_at, ya_kind, ya_repeated, ya_how, ya_code, ya_coming, ya_going, ya_type, an_f (kh_c ya_how st hc), kh_h ya_how st hc ya_header e, ya_queued, ya_otherEnded, ya_ended, ya_finishing, ya_queue, ya_prefix, ya_length, ya_got, ya_high, ya_whole, ya_has, ya_bytes, ya_frame, ya_payloads, ya_table, ya_out, ya_nodeType, ya_valueNode, ya_valueNumber, ya_value, ya_from, ya_limit, ya_inside, ya_sizes) → wY_known_28 post (nI st) (nI nm) (nI v) yf_down yf_heads yf_paid yf_payload yf_wants yf_name (ts) yf_counts yf_enters yf_most yf_many yf_sent yf_last yf_nodes yf_values yf_skipped yf_pos yf_there yf_number yf_at ya_kind ya_repeated ya_how ya_code ya_coming ya_going ya_type (an_f hc) ya_header ya_queued ya_otherEnded ya_ended ya_finishing ya_queue ya_prefix ya_length ya_got ya_high ya_whole ya_has ya_bytes ya_frame ya_payloads ya_table ya_out ya_nodeType ya_valueNode ya_valueNumber ya_value ya_from ya_limit ya_inside ya_sizes := by
    intro ts h
    unfold kh_h kh_c at h
    unfold wY_known_28
    rw [c2, hix, he']
    refine ⟨c1, pk_le 8 (hc st) (fun w => ?_) (fun w => ⟨c1, c1, nm_r (e' := an_f (pm_u hc st (hc st + 1))) (by rw [an_fa, nI_1, an_fu]) ⟨vp_in_nI (by omega) (by omega), nm_r (by rw [nI_clamp (by omega)]) ?_⟩⟩)⟩
    · rw [if_neg (by omega), if_neg (by omega)] at h; exact h
    · rw [if_pos ⟨y, w⟩, if_pos ⟨y, w⟩] at h; exact h
  unfold kh_t at H
  refine ⟨c1, br_f y (pk_eq nm 1 (fun w => br_c (fun y2 => k28 _ ?_) (fun y2 => k28 _ ?_)) (fun w => k28 _ ?_))⟩
  · rw [if_pos y2] at H; exact H
  · rw [if_neg y2, if_pos w] at H; exact H
  · rw [if_neg w] at H
    have e' : (if 0 ≤ yf_first then yf_first else yf_first) = yf_first := by split <;> rfl
    rw [e'] at H; exact H
theorem at_x36 {post : SX → Prop} (hm : mm < 16) (H : post (f_frameAt, f_frameLength, f_frameSort, f_frameFlags, f_frameStream, f_down, f_entryCount, f_most, f_typeSeen, f_lastSender, f_sentLength, a_payload, a_life, a_theyEnded, a_weEnded, a_finishing, a_codes, a_windowIn, a_windowOut, a_headers, a_headerCount, upd (tb_s en mm 0) 0 (nI e), a_kinds, a_repeats, a_messageCount, a_text, a_nodeCount, a_nodeTypes, a_valueCount, a_valueOwners, a_values, a_skippedCount, a_reader, a_chainNode, a_chainEnd, a_queue, a_queueLength, a_sent, a_nodeSize, a_nodePlace)) : ∀ c fu, c < fu → c ≤ mm → wX_addToTable_36 post (nI e) f_frameAt f_frameLength f_frameSort f_frameFlags f_frameStream f_down f_entryCount f_most f_typeSeen f_lastSender f_sentLength fu (nI c) a_payload a_life a_theyEnded a_weEnded a_finishing a_codes a_windowIn a_windowOut a_headers a_headerCount (tb_s en mm c) a_kinds a_repeats a_messageCount a_text a_nodeCount a_nodeTypes a_valueCount a_valueOwners a_values a_skippedCount a_reader a_chainNode a_chainEnd a_queue a_queueLength a_sent a_nodeSize a_nodePlace
  | _, 0, h, _ => absurd h (by omega)
  | 0, fu + 1, _, _ => by
    rw [wX_addToTable_36]
    exact br_t (by decide) (nm_e H)
  | c + 1, fu + 1, h, h' => by
    rw [wX_addToTable_36]
    dsimp only
    have e1 : nI (c + 1) - 1 = nI c := by rw [show (1 : Int32) = nI 1 from rfl, pk_sub (by omega)]; rfl
    rw [e1]
    refine pk_le (c + 1) 0 (fun w => by omega) (fun _ => ⟨vp_in_nI (by omega) (by omega), vp_in_nI (by omega) (by omega), nm_r (e' := tb_s en mm c) ?_ (nm_r (pk_m1 c) (at_x36 hm H c fu (by omega) (by omega)))⟩)
    rw [nI_clamp (by omega), nI_clamp (by omega)]
    exact tb_1 (by omega)
theorem at_x {post : SX → Prop} (hT : m ≤ M) (hM : M ≤ 16) (H : post (f_frameAt, f_frameLength, f_frameSort, f_frameFlags, f_frameStream, f_down, nI (at_m m M), nI M, f_typeSeen, f_lastSender, f_sentLength, a_payload, a_life, a_theyEnded, a_weEnded, a_finishing, a_codes, a_windowIn, a_windowOut, a_headers, a_headerCount, at_e a_entries m M e, a_kinds, a_repeats, a_messageCount, a_text, a_nodeCount, a_nodeTypes, a_valueCount, a_valueOwners, a_values, a_skippedCount, a_reader, a_chainNode, a_chainEnd, a_queue, a_queueLength, a_sent, a_nodeSize, a_nodePlace)) : wpX_addToTable post (f_frameAt, f_frameLength, f_frameSort, f_frameFlags, f_frameStream, f_down, nI m, nI M, f_typeSeen, f_lastSender, f_sentLength, a_payload, a_life, a_theyEnded, a_weEnded, a_finishing, a_codes, a_windowIn, a_windowOut, a_headers, a_headerCount, a_entries, a_kinds, a_repeats, a_messageCount, a_text, a_nodeCount, a_nodeTypes, a_valueCount, a_valueOwners, a_values, a_skippedCount, a_reader, a_chainNode, a_chainEnd, a_queue, a_queueLength, a_sent, a_nodeSize, a_nodePlace) (nI e) := by
  unfold wpX_addToTable
  unfold at_e at H
  refine pk_eq M 0 (fun w => ?_) (fun w => pk_le M m (fun w2 => ?_) (fun w2 => ?_))
  · have em : at_m m M = m := by unfold at_m; rw [if_neg (by omega)]; omega
    rw [if_pos w, em] at H; exact H
  · have em : at_m m M = m := by unfold at_m; rw [if_neg (by omega)]; omega
    rw [if_neg w, em] at H
    refine nm_r (e' := nI (m - 1)) (by rw [show (1 : Int32) = nI 1 from rfl, pk_sub (by omega)]) ⟨17, ?_⟩
    have h36 := at_x36 (mm := m - 1) (en := a_entries) (f_entryCount := nI m) (f_most := nI M) (e := e) (post := post) (by omega) H (m - 1) 17 (by omega) (Nat.le_refl _)
    rw [tb_0] at h36
    exact h36
  · have em : at_m m M = m + 1 := by unfold at_m; rw [if_pos (by omega)]
    rw [if_neg w, em] at H
    refine nm_r (nI_1 m) (nm_r (e' := nI m) (by rw [show (1 : Int32) = nI 1 from rfl, pk_sub (by omega)]; rfl) ⟨17, ?_⟩)
    have h36 := at_x36 (mm := m) (en := a_entries) (f_entryCount := nI (m + 1)) (f_most := nI M) (e := e) (post := post) (by omega) H m 17 (by omega) (Nat.le_refl _)
    rw [tb_0] at h36
    exact h36
theorem at_y5 {post : SY → Prop} (hm : m ≤ M) (hM : M ≤ 16) (H : post (yf_down, yf_heads, yf_paid, yf_payload, yf_wants, yf_name, yf_first, yf_counts, yf_enters, nI M, nI (at_m m M), yf_sent, yf_last, yf_nodes, yf_values, yf_skipped, yf_pos, yf_there, yf_number, yf_at, ya_kind, ya_repeated, ya_how, ya_code, ya_coming, ya_going, ya_type, ya_headers, ya_header, ya_queued, ya_otherEnded, ya_ended, ya_finishing, ya_queue, ya_prefix, ya_length, ya_got, ya_high, ya_whole, ya_has, ya_bytes, ya_frame, ya_payloads, upd (tb_s ta m 0) 0 (nI e), ya_out, ya_nodeType, ya_valueNode, ya_valueNumber, ya_value, ya_from, ya_limit, ya_inside, ya_sizes)) : ∀ c fu, c < fu → c ≤ m → wY_enter_5 post (nI e) yf_down yf_heads yf_paid yf_payload yf_wants yf_name yf_first yf_counts yf_enters (nI M) (nI m) yf_sent yf_last yf_nodes yf_values yf_skipped yf_pos yf_there yf_number yf_at fu (nI c) ya_kind ya_repeated ya_how ya_code ya_coming ya_going ya_type ya_headers ya_header ya_queued ya_otherEnded ya_ended ya_finishing ya_queue ya_prefix ya_length ya_got ya_high ya_whole ya_has ya_bytes ya_frame ya_payloads (tb_s ta m c) ya_out ya_nodeType ya_valueNode ya_valueNumber ya_value ya_from ya_limit ya_inside ya_sizes
  | _, 0, h, _ => absurd h (by omega)
  | 0, fu + 1, _, _ => by
    rw [wY_enter_5]
    refine br_t (by decide) (nm_e (nm_r (nI_1 m) (pk_le (m + 1) M (fun w => ?_) (fun w => ?_))))
    · unfold at_m at H; rw [if_pos w] at H; exact H
    · unfold at_m at H; rw [if_neg (by omega)] at H; exact H
  | c + 1, fu + 1, h, h' => by
    rw [wY_enter_5]
    dsimp only
    have e1 : nI (c + 1) - 1 = nI c := by rw [show (1 : Int32) = nI 1 from rfl, pk_sub (by omega)]; rfl
    rw [e1]
    refine pk_le (c + 1) 0 (fun w => by omega) (fun _ => ⟨vp_in_nI (by omega) (by omega), vp_in_nI (by omega) (by omega), nm_r (e' := tb_s ta m c) ?_ (nm_r (pk_m1 c) (at_y5 hm hM H c fu (by omega) (by omega)))⟩)
    rw [nI_clamp (by omega), nI_clamp (by omega)]
    exact tb_1 (by omega)
theorem at_y {post : SY → Prop} (hm : m ≤ M) (hM : M ≤ 16) (H : post (yf_down, yf_heads, yf_paid, yf_payload, yf_wants, yf_name, yf_first, yf_counts, yf_enters, nI M, nI (at_m m M), yf_sent, yf_last, yf_nodes, yf_values, yf_skipped, yf_pos, yf_there, yf_number, yf_at, ya_kind, ya_repeated, ya_how, ya_code, ya_coming, ya_going, ya_type, ya_headers, ya_header, ya_queued, ya_otherEnded, ya_ended, ya_finishing, ya_queue, ya_prefix, ya_length, ya_got, ya_high, ya_whole, ya_has, ya_bytes, ya_frame, ya_payloads, upd (tb_s ya_table m 0) 0 (nI e), ya_out, ya_nodeType, ya_valueNode, ya_valueNumber, ya_value, ya_from, ya_limit, ya_inside, ya_sizes)) : wpY_enter post (yf_down, yf_heads, yf_paid, yf_payload, yf_wants, yf_name, yf_first, yf_counts, yf_enters, nI M, nI m, yf_sent, yf_last, yf_nodes, yf_values, yf_skipped, yf_pos, yf_there, yf_number, yf_at, ya_kind, ya_repeated, ya_how, ya_code, ya_coming, ya_going, ya_type, ya_headers, ya_header, ya_queued, ya_otherEnded, ya_ended, ya_finishing, ya_queue, ya_prefix, ya_length, ya_got, ya_high, ya_whole, ya_has, ya_bytes, ya_frame, ya_payloads, ya_table, ya_out, ya_nodeType, ya_valueNode, ya_valueNumber, ya_value, ya_from, ya_limit, ya_inside, ya_sizes) (nI e) := by
  unfold wpY_enter
  refine ⟨17, ?_⟩
  have h5 := at_y5 (ta := ya_table) (e := e) (post := post) hm hM H m 17 (by omega) (Nat.le_refl _)
  rw [tb_0] at h5
  exact h5
theorem at_T (he : e < 65536) (h : cr_T en ta m M) : cr_T (at_e en m M e) (upd (tb_s ta m 0) 0 (nI e)) (at_m m M) M := by
  obtain ⟨t1, t2, t3⟩ := h
  have hle : at_m m M ≤ M ∧ at_m m M ≤ m + 1 := by
    unfold at_m
    split <;> omega
  refine ⟨hle.1, t2, fun j hj => ?_⟩
  unfold at_e
  rw [if_neg (by omega)]
  by_cases y : j = 0
  · subst y
    rw [pk_us, pk_us]
    exact ⟨rfl, e, he, rfl⟩
  · rw [pk_un y, pk_un y]
    unfold tb_s
    rw [if_pos (by omega), if_pos (by omega)]
    exact t3 (j - 1) (by omega)
theorem lt_T {x : Nat} (hx : x ≤ 16) (h : cr_T en ta m M) : cr_T en ta (if m ≤ x then m else x) x := by
  obtain ⟨t1, t2, t3⟩ := h
  refine ⟨by split <;> omega, hx, fun j hj => t3 j (by split at hj <;> omega)⟩
theorem kh_c8 {life : Nat → Int32} (h : ∀ i, i < 8 → hc i ≤ 8) : ∀ i, i < 8 → kh_c life st hc i ≤ 8 := by
  intro i hi
  unfold kh_c
  split
  · rename_i w
    unfold pm_u
    split
    · omega
    · exact h i hi
  · exact h i hi
end
end
section
/-! T10: headers: a byte, on the reference's side -/
section
variable {yf_down yf_heads yf_paid yf_payload yf_wants yf_name yf_first yf_counts yf_enters yf_most yf_many yf_sent yf_last yf_nodes yf_values yf_skipped yf_pos yf_there yf_number yf_at : Int32} {ya_kind ya_repeated ya_how ya_code ya_coming ya_going ya_type ya_headers ya_header ya_queued ya_otherEnded ya_ended ya_finishing ya_queue ya_prefix ya_length ya_got ya_high ya_whole ya_has ya_bytes ya_frame ya_payloads ya_table ya_out ya_nodeType ya_valueNode ya_valueNumber ya_value ya_from ya_limit ya_inside ya_sizes : Nat → Int32} {st e nm v m M b n i fu : Nat} {hc : Nat → Nat} {z : (Nat → Nat) × Nat} {x x2 : Int32} {q : SY → Prop}
def hy_P (q : SY → Prop) (x2 : Int32) (fu i st : Nat) : SY → Prop
  | (yf_down, yf_heads, yf_paid, yf_payload, yf_wants, yf_name, yf_first, yf_counts, yf_enters, yf_most, yf_many, yf_sent, yf_last, yf_nodes, yf_values, yf_skipped, yf_pos, yf_there, yf_number, yf_at, ya_kind, ya_repeated, ya_how, ya_code, ya_coming, ya_going, ya_type, ya_headers, ya_header, ya_queued, ya_otherEnded, ya_ended, ya_finishing, ya_queue, ya_prefix, ya_length, ya_got, ya_high, ya_whole, ya_has, ya_bytes, ya_frame, ya_payloads, ya_table, ya_out, ya_nodeType, ya_valueNode, ya_valueNumber, ya_value, ya_from, ya_limit, ya_inside, ya_sizes) => ∀ x, x = nI i + 1 → wY_endHeaders_2 q (nI st) x2 fu x yf_down yf_heads yf_paid yf_payload yf_wants yf_name yf_first yf_counts yf_enters yf_most yf_many yf_sent yf_last yf_nodes yf_values yf_skipped yf_pos yf_there yf_number yf_at ya_kind ya_repeated ya_how ya_code ya_coming ya_going ya_type ya_headers ya_header ya_queued ya_otherEnded ya_ended ya_finishing ya_queue ya_prefix ya_length ya_got ya_high ya_whole ya_has ya_bytes ya_frame ya_payloads ya_table ya_out ya_nodeType ya_valueNode ya_valueNumber ya_value ya_from ya_limit ya_inside ya_sizes
theorem hy_1 (hd : yf_down = 0) (hi : i < n) (hn : n ≤ 63) (f0 : ya_frame 0 = nI n) (hp : ya_payloads i = nI b) (H : wpY_head (hy_P q x2 fu i st) (yf_down, yf_heads, yf_paid, yf_payload, yf_wants, yf_name, yf_first, yf_counts, yf_enters, yf_most, yf_many, yf_sent, yf_last, yf_nodes, yf_values, yf_skipped, yf_pos, yf_there, yf_number, yf_at, ya_kind, ya_repeated, ya_how, ya_code, ya_coming, ya_going, ya_type, ya_headers, ya_header, ya_queued, ya_otherEnded, ya_ended, ya_finishing, ya_queue, ya_prefix, ya_length, ya_got, ya_high, ya_whole, ya_has, ya_bytes, ya_frame, ya_payloads, ya_table, ya_out, ya_nodeType, ya_valueNode, ya_valueNumber, ya_value, ya_from, ya_limit, ya_inside, ya_sizes) (nI st) (nI b)) : wY_endHeaders_2 q (nI st) x2 (fu + 1) (nI i) yf_down yf_heads yf_paid yf_payload yf_wants yf_name yf_first yf_counts yf_enters yf_most yf_many yf_sent yf_last yf_nodes yf_values yf_skipped yf_pos yf_there yf_number yf_at ya_kind ya_repeated ya_how ya_code ya_coming ya_going ya_type ya_headers ya_header ya_queued ya_otherEnded ya_ended ya_finishing ya_queue ya_prefix ya_length ya_got ya_high ya_whole ya_has ya_bytes ya_frame ya_payloads ya_table ya_out ya_nodeType ya_valueNode ya_valueNumber ya_value ya_from ya_limit ya_inside ya_sizes := by
  rw [wY_endHeaders_2]
  dsimp only
  rw [f0]
  refine pk_le n i (fun w => by omega) (fun _ => br_t hd ⟨vp_in_nI (by omega) (by omega), ?_⟩)
  rw [nI_clamp (by omega), hp]
  exact H
theorem hy_0 (hi : i = n) (hn : n ≤ 63) (f0 : ya_frame 0 = nI n) (H : wY_endHeaders_36 q (nI st) x2 yf_down yf_heads yf_paid yf_payload yf_wants yf_name yf_first yf_counts yf_enters yf_most yf_many yf_sent yf_last yf_nodes yf_values yf_skipped yf_pos yf_there yf_number yf_at ya_kind ya_repeated ya_how ya_code ya_coming ya_going ya_type ya_headers ya_header ya_queued ya_otherEnded ya_ended ya_finishing ya_queue ya_prefix ya_length ya_got ya_high ya_whole ya_has ya_bytes ya_frame ya_payloads ya_table ya_out ya_nodeType ya_valueNode ya_valueNumber ya_value ya_from ya_limit ya_inside ya_sizes) : wY_endHeaders_2 q (nI st) x2 (fu + 1) (nI i) yf_down yf_heads yf_paid yf_payload yf_wants yf_name yf_first yf_counts yf_enters yf_most yf_many yf_sent yf_last yf_nodes yf_values yf_skipped yf_pos yf_there yf_number yf_at ya_kind ya_repeated ya_how ya_code ya_coming ya_going ya_type ya_headers ya_header ya_queued ya_otherEnded ya_ended ya_finishing ya_queue ya_prefix ya_length ya_got ya_high ya_whole ya_has ya_bytes ya_frame ya_payloads ya_table ya_out ya_nodeType ya_valueNode ya_valueNumber ya_value ya_from ya_limit ya_inside ya_sizes := by
  rw [wY_endHeaders_2]
  dsimp only
  rw [f0]
  exact pk_le n i (fun _ => H) (fun w => by omega)
theorem hy_f {w : Nat} (hd : yf_down = 0) (hi : i = n) (hn : n ≤ 63) (hz : z.2 ≤ 1200) (f0 : ya_frame 0 = nI n) (hw : 0 < w) (hw2 : w ≤ 2) (H : q (1, yf_heads, yf_paid, yf_payload, nI w, yf_name, yf_first, yf_counts, yf_enters, yf_most, yf_many, nI (ou_L z [1, 5, 0, 0, 4]).2, yf_last, yf_nodes, yf_values, yf_skipped, yf_pos, yf_there, yf_number, yf_at, ya_kind, ya_repeated, ya_how, upd ya_code 0 (nI 4), ya_coming, ya_going, ya_type, ya_headers, ya_header, ya_queued, ya_otherEnded, ya_ended, ya_finishing, ya_queue, ya_prefix, ya_length, ya_got, ya_high, ya_whole, ya_has, ya_bytes, ya_frame, ya_payloads, ya_table, an_g (ou_L z [1, 5, 0, 0, 4]).1, ya_nodeType, ya_valueNode, ya_valueNumber, ya_value, ya_from, ya_limit, ya_inside, ya_sizes)) :
    wY_endHeaders_2 q (nI st) x2 (fu + 1) (nI i) yf_down yf_heads yf_paid yf_payload (nI w) yf_name yf_first yf_counts yf_enters yf_most yf_many (nI z.2) yf_last yf_nodes yf_values yf_skipped yf_pos yf_there yf_number yf_at ya_kind ya_repeated ya_how ya_code ya_coming ya_going ya_type ya_headers ya_header ya_queued ya_otherEnded ya_ended ya_finishing ya_queue ya_prefix ya_length ya_got ya_high ya_whole ya_has ya_bytes ya_frame ya_payloads ya_table (an_g z.1) ya_nodeType ya_valueNode ya_valueNumber ya_value ya_from ya_limit ya_inside ya_sizes := by
  refine hy_0 hi hn f0 ?_
  unfold wY_endHeaders_36
  exact br_t hd (pk_le w 0 (fun w' => by omega) (fun _ => yo_errC (c := 4) hz H))
theorem yhd_l {post : SY → Prop} (hb : b < 128) (h : b < 32 ∨ 64 ≤ b) (H : post (yf_down, yf_heads, yf_paid, yf_payload, nI (if b % 64 = 0 then 2 else 1), nI (b % 64), yf_first, yf_counts, if 64 ≤ b then 1 else 0, yf_most, yf_many, yf_sent, yf_last, yf_nodes, yf_values, yf_skipped, yf_pos, yf_there, yf_number, yf_at, ya_kind, ya_repeated, ya_how, ya_code, ya_coming, ya_going, ya_type, ya_headers, ya_header, ya_queued, ya_otherEnded, ya_ended, ya_finishing, ya_queue, ya_prefix, ya_length, ya_got, ya_high, ya_whole, ya_has, ya_bytes, ya_frame, ya_payloads, ya_table, ya_out, ya_nodeType, ya_valueNode, ya_valueNumber, ya_value, ya_from, ya_limit, ya_inside, ya_sizes)) : wpY_head post (yf_down, yf_heads, yf_paid, yf_payload, 0, yf_name, yf_first, yf_counts, yf_enters, yf_most, yf_many, yf_sent, yf_last, yf_nodes, yf_values, yf_skipped, yf_pos, yf_there, yf_number, yf_at, ya_kind, ya_repeated, ya_how, ya_code, ya_coming, ya_going, ya_type, ya_headers, ya_header, ya_queued, ya_otherEnded, ya_ended, ya_finishing, ya_queue, ya_prefix, ya_length, ya_got, ya_high, ya_whole, ya_has, ya_bytes, ya_frame, ya_payloads, ya_table, ya_out, ya_nodeType, ya_valueNode, ya_valueNumber, ya_value, ya_from, ya_limit, ya_inside, ya_sizes) x (nI b) := by
  have e63 : nI b &&& 63 = nI (b % 64) := pk_andN (by omega) 6 (by decide)
  have k : ∀ es : Int32, es = 0 ∨ es = 1 → post (yf_down, yf_heads, yf_paid, yf_payload, nI (if b % 64 = 0 then 2 else 1), nI (b % 64), yf_first, yf_counts, es, yf_most, yf_many, yf_sent, yf_last, yf_nodes, yf_values, yf_skipped, yf_pos, yf_there, yf_number, yf_at, ya_kind, ya_repeated, ya_how, ya_code, ya_coming, ya_going, ya_type, ya_headers, ya_header, ya_queued, ya_otherEnded, ya_ended, ya_finishing, ya_queue, ya_prefix, ya_length, ya_got, ya_high, ya_whole, ya_has, ya_bytes, ya_frame, ya_payloads, ya_table, ya_out, ya_nodeType, ya_valueNode, ya_valueNumber, ya_value, ya_from, ya_limit, ya_inside, ya_sizes) → wY_head_181 post (nI b) es yf_down yf_heads yf_paid yf_payload (0) yf_name yf_first yf_counts yf_enters yf_most yf_many yf_sent yf_last yf_nodes yf_values yf_skipped yf_pos yf_there yf_number yf_at ya_kind ya_repeated ya_how ya_code ya_coming ya_going ya_type ya_headers ya_header ya_queued ya_otherEnded ya_ended ya_finishing ya_queue ya_prefix ya_length ya_got ya_high ya_whole ya_has ya_bytes ya_frame ya_payloads ya_table ya_out ya_nodeType ya_valueNode ya_valueNumber ya_value ya_from ya_limit ya_inside ya_sizes := by
    intro es hes h
    unfold wY_head_181
    rw [e63]
    refine ⟨?_, ?_, nm_e (pk_eq (b % 64) 0 (fun w => ?_) (fun w => ?_))⟩
    · rcases hes with e | e <;> rw [e] <;> rfl
    · rcases hes with e | e <;> rw [e] <;> rfl
    · rw [if_pos w] at h; exact h
    · rw [if_neg w] at h; exact h
  have k169 : wY_head_169 post (nI b) yf_down yf_heads yf_paid yf_payload (0) yf_name yf_first yf_counts yf_enters yf_most yf_many yf_sent yf_last yf_nodes yf_values yf_skipped yf_pos yf_there yf_number yf_at ya_kind ya_repeated ya_how ya_code ya_coming ya_going ya_type ya_headers ya_header ya_queued ya_otherEnded ya_ended ya_finishing ya_queue ya_prefix ya_length ya_got ya_high ya_whole ya_has ya_bytes ya_frame ya_payloads ya_table ya_out ya_nodeType ya_valueNode ya_valueNumber ya_value ya_from ya_limit ya_inside ya_sizes := by
    unfold wY_head_169
    refine pk_le b 63 (fun w => k 0 (Or.inl rfl) ?_) (fun w => k 1 (Or.inr rfl) ?_)
    · rw [if_neg (show ¬ 64 ≤ b by omega)] at H; exact H
    · rw [if_pos (show 64 ≤ b by omega)] at H; exact H
  unfold wpY_head
  exact br_f (by decide) (br_f (by decide) (pk_le b 127 (fun _ => pk_lt 63 b (fun _ => k169) (fun _ => pk_le 32 b (fun _ => by omega) (fun _ => k169))) (fun w => by omega)))
theorem yhd_w2 {post : SY → Prop} (H : post (yf_down, yf_heads, yf_paid, yf_payload, nI 1, nI b, yf_first, yf_counts, yf_enters, yf_most, yf_many, yf_sent, yf_last, yf_nodes, yf_values, yf_skipped, yf_pos, yf_there, yf_number, yf_at, ya_kind, ya_repeated, ya_how, ya_code, ya_coming, ya_going, ya_type, ya_headers, ya_header, ya_queued, ya_otherEnded, ya_ended, ya_finishing, ya_queue, ya_prefix, ya_length, ya_got, ya_high, ya_whole, ya_has, ya_bytes, ya_frame, ya_payloads, ya_table, ya_out, ya_nodeType, ya_valueNode, ya_valueNumber, ya_value, ya_from, ya_limit, ya_inside, ya_sizes)) : wpY_head post (yf_down, yf_heads, yf_paid, yf_payload, nI 2, yf_name, yf_first, yf_counts, yf_enters, yf_most, yf_many, yf_sent, yf_last, yf_nodes, yf_values, yf_skipped, yf_pos, yf_there, yf_number, yf_at, ya_kind, ya_repeated, ya_how, ya_code, ya_coming, ya_going, ya_type, ya_headers, ya_header, ya_queued, ya_otherEnded, ya_ended, ya_finishing, ya_queue, ya_prefix, ya_length, ya_got, ya_high, ya_whole, ya_has, ya_bytes, ya_frame, ya_payloads, ya_table, ya_out, ya_nodeType, ya_valueNode, ya_valueNumber, ya_value, ya_from, ya_limit, ya_inside, ya_sizes) x (nI b) := by
  unfold wpY_head
  exact br_t rfl H
theorem yhd_w1 {post : SY → Prop} (h8 : st < 8) (hc8 : hc st ≤ 8) (hmM : m ≤ M) (hM : M ≤ 16) (he : e = 256 * nm + v) (hnm : nm < 256) (hv : v < 256)
    (H0 : yf_enters = 0 → post (yf_down, yf_heads, yf_paid, yf_payload, 0, nI nm, if ya_how st = 2 then yf_first else kh_t yf_first nm v, yf_counts, yf_enters, nI M, nI m, yf_sent, yf_last, yf_nodes, yf_values, yf_skipped, yf_pos, yf_there, yf_number, yf_at, ya_kind, ya_repeated, ya_how, ya_code, ya_coming, ya_going, ya_type, an_f (kh_c ya_how st hc), kh_h ya_how st hc ya_header e, ya_queued, ya_otherEnded, ya_ended, ya_finishing, ya_queue, ya_prefix, ya_length, ya_got, ya_high, ya_whole, ya_has, ya_bytes, ya_frame, ya_payloads, ya_table, ya_out, ya_nodeType, ya_valueNode, ya_valueNumber, ya_value, ya_from, ya_limit, ya_inside, ya_sizes))
    (H1 : ¬ yf_enters = 0 → post (yf_down, yf_heads, yf_paid, yf_payload, 0, nI nm, if ya_how st = 2 then yf_first else kh_t yf_first nm v, yf_counts, yf_enters, nI M, nI (at_m m M), yf_sent, yf_last, yf_nodes, yf_values, yf_skipped, yf_pos, yf_there, yf_number, yf_at, ya_kind, ya_repeated, ya_how, ya_code, ya_coming, ya_going, ya_type, an_f (kh_c ya_how st hc), kh_h ya_how st hc ya_header e, ya_queued, ya_otherEnded, ya_ended, ya_finishing, ya_queue, ya_prefix, ya_length, ya_got, ya_high, ya_whole, ya_has, ya_bytes, ya_frame, ya_payloads, upd (tb_s ya_table m 0) 0 (nI e), ya_out, ya_nodeType, ya_valueNode, ya_valueNumber, ya_value, ya_from, ya_limit, ya_inside, ya_sizes)) :
    wpY_head post (yf_down, yf_heads, yf_paid, yf_payload, nI 1, nI nm, yf_first, yf_counts, yf_enters, nI M, nI m, yf_sent, yf_last, yf_nodes, yf_values, yf_skipped, yf_pos, yf_there, yf_number, yf_at, ya_kind, ya_repeated, ya_how, ya_code, ya_coming, ya_going, ya_type, an_f hc, ya_header, ya_queued, ya_otherEnded, ya_ended, ya_finishing, ya_queue, ya_prefix, ya_length, ya_got, ya_high, ya_whole, ya_has, ya_bytes, ya_frame, ya_payloads, ya_table, ya_out, ya_nodeType, ya_valueNode, ya_valueNumber, ya_value, ya_from, ya_limit, ya_inside, ya_sizes) (nI st) (nI v) := by
  have he' : 256 * nI nm + nI v = nI e := by
    rw [show (256 : Int32) = nI 256 from rfl, pk_mul, nI_add, he]
  unfold wpY_head
  refine br_f (by decide) (br_t rfl (kh_y h8 hc8 he hnm hv ?_))
  dsimp only
  rw [he']
  exact br_c (fun y => H0 y) (fun y => at_y hmM hM (H1 y))
theorem yhd_m {post : SY → Prop} (h1 : 32 ≤ b) (h2 : b ≤ 48) (hm : m ≤ 16) (H : post (yf_down, yf_heads, yf_paid, yf_payload, 0, yf_name, yf_first, yf_counts, yf_enters, nI (b - 32), nI (if m ≤ b - 32 then m else b - 32), yf_sent, yf_last, yf_nodes, yf_values, yf_skipped, yf_pos, yf_there, yf_number, yf_at, ya_kind, ya_repeated, ya_how, ya_code, ya_coming, ya_going, ya_type, ya_headers, ya_header, ya_queued, ya_otherEnded, ya_ended, ya_finishing, ya_queue, ya_prefix, ya_length, ya_got, ya_high, ya_whole, ya_has, ya_bytes, ya_frame, ya_payloads, ya_table, ya_out, ya_nodeType, ya_valueNode, ya_valueNumber, ya_value, ya_from, ya_limit, ya_inside, ya_sizes)) : wpY_head post (yf_down, yf_heads, yf_paid, yf_payload, 0, yf_name, yf_first, yf_counts, yf_enters, yf_most, nI m, yf_sent, yf_last, yf_nodes, yf_values, yf_skipped, yf_pos, yf_there, yf_number, yf_at, ya_kind, ya_repeated, ya_how, ya_code, ya_coming, ya_going, ya_type, ya_headers, ya_header, ya_queued, ya_otherEnded, ya_ended, ya_finishing, ya_queue, ya_prefix, ya_length, ya_got, ya_high, ya_whole, ya_has, ya_bytes, ya_frame, ya_payloads, ya_table, ya_out, ya_nodeType, ya_valueNode, ya_valueNumber, ya_value, ya_from, ya_limit, ya_inside, ya_sizes) x (nI b) := by
  unfold wpY_head
  refine br_f (by decide) (br_f (by decide) (pk_le b 127 (fun _ => pk_lt 63 b (fun w => by omega) (fun _ => pk_le 32 b (fun _ => pk_le b 48 (fun _ => ?_) (fun w => by omega)) (fun w => by omega))) (fun w => by omega)))
  refine nm_r (e' := nI (b - 32)) (by rw [show (32 : Int32) = nI 32 from rfl, pk_sub h1]) (pk_le m (b - 32) (fun w => ?_) (fun w => ?_))
  · rw [if_pos w] at H; exact H
  · rw [if_neg (by omega)] at H; exact H
theorem yhd_e {post : SY → Prop} (hb : b < 256) (hm : m ≤ 16) (hz : z.2 ≤ 1200) (h : b = 128 ∨ (132 < b ∧ m ≤ b - 133) ∨ (48 < b ∧ b < 64))
    (H : post (1, yf_heads, yf_paid, yf_payload, 0, yf_name, yf_first, yf_counts, yf_enters, yf_most, nI m, nI (ou_L z [1, 5, 0, 0, 4]).2, yf_last, yf_nodes, yf_values, yf_skipped, yf_pos, yf_there, yf_number, yf_at, ya_kind, ya_repeated, ya_how, upd ya_code 0 (nI 4), ya_coming, ya_going, ya_type, ya_headers, ya_header, ya_queued, ya_otherEnded, ya_ended, ya_finishing, ya_queue, ya_prefix, ya_length, ya_got, ya_high, ya_whole, ya_has, ya_bytes, ya_frame, ya_payloads, ya_table, an_g (ou_L z [1, 5, 0, 0, 4]).1, ya_nodeType, ya_valueNode, ya_valueNumber, ya_value, ya_from, ya_limit, ya_inside, ya_sizes)) : wpY_head post (yf_down, yf_heads, yf_paid, yf_payload, 0, yf_name, yf_first, yf_counts, yf_enters, yf_most, nI m, nI z.2, yf_last, yf_nodes, yf_values, yf_skipped, yf_pos, yf_there, yf_number, yf_at, ya_kind, ya_repeated, ya_how, ya_code, ya_coming, ya_going, ya_type, ya_headers, ya_header, ya_queued, ya_otherEnded, ya_ended, ya_finishing, ya_queue, ya_prefix, ya_length, ya_got, ya_high, ya_whole, ya_has, ya_bytes, ya_frame, ya_payloads, ya_table, an_g z.1, ya_nodeType, ya_valueNode, ya_valueNumber, ya_value, ya_from, ya_limit, ya_inside, ya_sizes) x (nI b) := by
  have k99 : wY_head_99 post yf_down yf_heads yf_paid yf_payload (0) yf_name yf_first yf_counts yf_enters yf_most (nI m) (nI z.2) yf_last yf_nodes yf_values yf_skipped yf_pos yf_there yf_number yf_at ya_kind ya_repeated ya_how ya_code ya_coming ya_going ya_type ya_headers ya_header ya_queued ya_otherEnded ya_ended ya_finishing ya_queue ya_prefix ya_length ya_got ya_high ya_whole ya_has ya_bytes ya_frame ya_payloads ya_table (an_g z.1) ya_nodeType ya_valueNode ya_valueNumber ya_value ya_from ya_limit ya_inside ya_sizes := by
    unfold wY_head_99
    exact yo_errC (c := 4) hz H
  unfold wpY_head
  refine br_f (by decide) (br_f (by decide) (pk_le b 127 (fun _ => pk_lt 63 b (fun w => by omega) (fun _ => pk_le 32 b (fun _ => pk_le b 48 (fun w => by omega) (fun w => yo_errC (c := 4) hz H)) (fun w => by omega))) (fun w => ?_)))
  refine nm_r (e' := nI (b - 128)) (by rw [show (128 : Int32) = nI 128 from rfl, pk_sub (by omega)]) (pk_eq (b - 128) 0 (fun _ => k99) (fun w0 => pk_le (b - 128) 4 (fun w4 => by omega) (fun w4 => ?_)))
  have e5 : nI (b - 128) - 5 = nI (b - 133) := by
    rw [show (5 : Int32) = nI 5 from rfl, pk_sub (by omega)]; exact congrArg nI (by omega)
  rw [e5]
  exact pk_lt (b - 133) m (fun w' => by omega) (fun _ => k99)
theorem yhd_i {post : SY → Prop} (h8 : st < 8) (hc8 : hc st ≤ 8) (h1 : 128 < b) (h2 : b ≤ 132)
    (H : post (yf_down, yf_heads, yf_paid, yf_payload, 0, yf_name, if ya_how st = 2 then yf_first else kh_t yf_first 1 (b - 129), yf_counts, yf_enters, yf_most, yf_many, yf_sent, yf_last, yf_nodes, yf_values, yf_skipped, yf_pos, yf_there, yf_number, yf_at, ya_kind, ya_repeated, ya_how, ya_code, ya_coming, ya_going, ya_type, an_f (kh_c ya_how st hc), kh_h ya_how st hc ya_header (256 + (b - 129)), ya_queued, ya_otherEnded, ya_ended, ya_finishing, ya_queue, ya_prefix, ya_length, ya_got, ya_high, ya_whole, ya_has, ya_bytes, ya_frame, ya_payloads, ya_table, ya_out, ya_nodeType, ya_valueNode, ya_valueNumber, ya_value, ya_from, ya_limit, ya_inside, ya_sizes)) : wpY_head post (yf_down, yf_heads, yf_paid, yf_payload, 0, yf_name, yf_first, yf_counts, yf_enters, yf_most, yf_many, yf_sent, yf_last, yf_nodes, yf_values, yf_skipped, yf_pos, yf_there, yf_number, yf_at, ya_kind, ya_repeated, ya_how, ya_code, ya_coming, ya_going, ya_type, an_f hc, ya_header, ya_queued, ya_otherEnded, ya_ended, ya_finishing, ya_queue, ya_prefix, ya_length, ya_got, ya_high, ya_whole, ya_has, ya_bytes, ya_frame, ya_payloads, ya_table, ya_out, ya_nodeType, ya_valueNode, ya_valueNumber, ya_value, ya_from, ya_limit, ya_inside, ya_sizes) (nI st) (nI b) := by
  unfold wpY_head
  refine br_f (by decide) (br_f (by decide) (pk_le b 127 (fun w => by omega) (fun w => ?_)))
  refine nm_r (e' := nI (b - 128)) (by rw [show (128 : Int32) = nI 128 from rfl, pk_sub (by omega)]) (pk_eq (b - 128) 0 (fun w0 => by omega) (fun w0 => pk_le (b - 128) 4 (fun w4 => ?_) (fun w4 => by omega)))
  unfold wY_head_108
  have e1 : nI (b - 128) - 1 = nI (b - 129) := by
    rw [show (1 : Int32) = nI 1 from rfl, pk_sub (by omega)]; exact congrArg nI (by omega)
  rw [e1]
  exact pk_le 5 (b - 128) (fun w => by omega) (fun _ => kh_y (nm := 1) h8 hc8 (by omega) (by omega) (by omega) H)
theorem yhd_t {post : SY → Prop} (h8 : st < 8) (hc8 : hc st ≤ 8) (hb : b < 256) (h1 : 132 < b) (h2 : b - 133 < m) (hm : m ≤ 16) (he : e < 65536) (ht : ya_table (b - 133) = nI e)
    (H : post (yf_down, yf_heads, yf_paid, yf_payload, 0, yf_name, if ya_how st = 2 then yf_first else kh_t yf_first (e / 256) (e % 256), yf_counts, yf_enters, yf_most, nI m, yf_sent, yf_last, yf_nodes, yf_values, yf_skipped, yf_pos, yf_there, yf_number, yf_at, ya_kind, ya_repeated, ya_how, ya_code, ya_coming, ya_going, ya_type, an_f (kh_c ya_how st hc), kh_h ya_how st hc ya_header e, ya_queued, ya_otherEnded, ya_ended, ya_finishing, ya_queue, ya_prefix, ya_length, ya_got, ya_high, ya_whole, ya_has, ya_bytes, ya_frame, ya_payloads, ya_table, ya_out, ya_nodeType, ya_valueNode, ya_valueNumber, ya_value, ya_from, ya_limit, ya_inside, ya_sizes)) : wpY_head post (yf_down, yf_heads, yf_paid, yf_payload, 0, yf_name, yf_first, yf_counts, yf_enters, yf_most, nI m, yf_sent, yf_last, yf_nodes, yf_values, yf_skipped, yf_pos, yf_there, yf_number, yf_at, ya_kind, ya_repeated, ya_how, ya_code, ya_coming, ya_going, ya_type, an_f hc, ya_header, ya_queued, ya_otherEnded, ya_ended, ya_finishing, ya_queue, ya_prefix, ya_length, ya_got, ya_high, ya_whole, ya_has, ya_bytes, ya_frame, ya_payloads, ya_table, ya_out, ya_nodeType, ya_valueNode, ya_valueNumber, ya_value, ya_from, ya_limit, ya_inside, ya_sizes) (nI st) (nI b) := by
  unfold wpY_head
  refine br_f (by decide) (br_f (by decide) (pk_le b 127 (fun w => by omega) (fun w => ?_)))
  refine nm_r (e' := nI (b - 128)) (by rw [show (128 : Int32) = nI 128 from rfl, pk_sub (by omega)]) (pk_eq (b - 128) 0 (fun w0 => by omega) (fun w0 => pk_le (b - 128) 4 (fun w4 => by omega) (fun w4 => ?_)))
  have e5 : nI (b - 128) - 5 = nI (b - 133) := by
    rw [show (5 : Int32) = nI 5 from rfl, pk_sub (by omega)]; exact congrArg nI (by omega)
  rw [e5]
  refine pk_lt (b - 133) m (fun _ => ?_) (fun w' => by omega)
  unfold wY_head_108
  rw [e5, nI_clamp (by omega), ht]
  have ed : nI e / 256 = nI (e / 256) := pk_div (by omega) (d := 256) (by omega) (by omega)
  have er : nI e - nI e / 256 * 256 = nI (e % 256) := pk_rem (by omega) (d := 256) (by omega) (by omega)
  rw [er, ed]
  exact pk_le 5 (b - 128) (fun _ => ⟨vp_in_nI (by omega) (by omega), by decide, vp_in_nI (by omega) (by omega), by decide, kh_y h8 hc8 (by omega) (by omega) (by omega) H⟩) (fun w => by omega)
end
end
section
/-! T11: headers: an entry of two or three bytes -/
section
variable {yf_down yf_heads yf_paid yf_payload yf_wants yf_name yf_first yf_counts yf_enters yf_most yf_many yf_sent yf_last yf_nodes yf_values yf_skipped yf_pos yf_there yf_number yf_at : Int32} {ya_kind ya_repeated ya_how ya_code ya_coming ya_going ya_type ya_headers ya_header ya_queued ya_otherEnded ya_ended ya_finishing ya_queue ya_prefix ya_length ya_got ya_high ya_whole ya_has ya_bytes ya_frame ya_payloads ya_table ya_out ya_nodeType ya_valueNode ya_valueNumber ya_value ya_from ya_limit ya_inside ya_sizes : Nat → Int32} {st e nm v m M b n i fu : Nat} {hc : Nat → Nat} {z : (Nat → Nat) × Nat} {x x2 : Int32} {q : SY → Prop}
theorem hy_dn (hd : yf_down = 1) (hi : i ≤ n) (hn : n ≤ 63) (f0 : ya_frame 0 = nI n) (H : q (yf_down, yf_heads, yf_paid, yf_payload, yf_wants, yf_name, yf_first, yf_counts, yf_enters, yf_most, yf_many, yf_sent, yf_last, yf_nodes, yf_values, yf_skipped, yf_pos, yf_there, yf_number, yf_at, ya_kind, ya_repeated, ya_how, ya_code, ya_coming, ya_going, ya_type, ya_headers, ya_header, ya_queued, ya_otherEnded, ya_ended, ya_finishing, ya_queue, ya_prefix, ya_length, ya_got, ya_high, ya_whole, ya_has, ya_bytes, ya_frame, ya_payloads, ya_table, ya_out, ya_nodeType, ya_valueNode, ya_valueNumber, ya_value, ya_from, ya_limit, ya_inside, ya_sizes)) : wY_endHeaders_2 q (nI st) x2 (fu + 1) (nI i) yf_down yf_heads yf_paid yf_payload yf_wants yf_name yf_first yf_counts yf_enters yf_most yf_many yf_sent yf_last yf_nodes yf_values yf_skipped yf_pos yf_there yf_number yf_at ya_kind ya_repeated ya_how ya_code ya_coming ya_going ya_type ya_headers ya_header ya_queued ya_otherEnded ya_ended ya_finishing ya_queue ya_prefix ya_length ya_got ya_high ya_whole ya_has ya_bytes ya_frame ya_payloads ya_table ya_out ya_nodeType ya_valueNode ya_valueNumber ya_value ya_from ya_limit ya_inside ya_sizes := by
  have h36 : wY_endHeaders_36 q (nI st) x2 yf_down yf_heads yf_paid yf_payload yf_wants yf_name yf_first yf_counts yf_enters yf_most yf_many yf_sent yf_last yf_nodes yf_values yf_skipped yf_pos yf_there yf_number yf_at ya_kind ya_repeated ya_how ya_code ya_coming ya_going ya_type ya_headers ya_header ya_queued ya_otherEnded ya_ended ya_finishing ya_queue ya_prefix ya_length ya_got ya_high ya_whole ya_has ya_bytes ya_frame ya_payloads ya_table ya_out ya_nodeType ya_valueNode ya_valueNumber ya_value ya_from ya_limit ya_inside ya_sizes := by
    unfold wY_endHeaders_36
    exact br_f (by rw [hd]; decide) H
  rw [wY_endHeaders_2]
  dsimp only
  rw [f0]
  exact pk_le n i (fun _ => h36) (fun _ => br_f (by rw [hd]; decide) h36)
theorem yl_1 (hd : yf_down = 0) (hn : n ≤ 63) (hi : i + 2 ≤ n) (h8 : st < 8) (hc8 : hc st ≤ 8) (hmM : m ≤ M) (hM : M ≤ 16) (f0 : ya_frame 0 = nI n) (hb : b < 128) (hb2 : b < 32 ∨ 64 ≤ b) (hnm : b % 64 = nm) (hnm0 : nm ≠ 0) (hv : v < 256) (he : e = 256 * nm + v)
    (p1 : ya_payloads i = nI b) (p2 : ya_payloads (i + 1) = nI v)
    (H0 : b < 64 → wY_endHeaders_2 q (nI st) x2 fu (nI (i + 2)) yf_down yf_heads yf_paid yf_payload (0) (nI nm) (if ya_how st = 2 then yf_first else kh_t yf_first nm v) yf_counts (0) (nI M) (nI m) yf_sent yf_last yf_nodes yf_values yf_skipped yf_pos yf_there yf_number yf_at ya_kind ya_repeated ya_how ya_code ya_coming ya_going ya_type (an_f (kh_c ya_how st hc)) (kh_h ya_how st hc ya_header e) ya_queued ya_otherEnded ya_ended ya_finishing ya_queue ya_prefix ya_length ya_got ya_high ya_whole ya_has ya_bytes ya_frame ya_payloads ya_table ya_out ya_nodeType ya_valueNode ya_valueNumber ya_value ya_from ya_limit ya_inside ya_sizes)
    (H1 : 64 ≤ b → wY_endHeaders_2 q (nI st) x2 fu (nI (i + 2)) yf_down yf_heads yf_paid yf_payload (0) (nI nm) (if ya_how st = 2 then yf_first else kh_t yf_first nm v) yf_counts (1) (nI M) (nI (at_m m M)) yf_sent yf_last yf_nodes yf_values yf_skipped yf_pos yf_there yf_number yf_at ya_kind ya_repeated ya_how ya_code ya_coming ya_going ya_type (an_f (kh_c ya_how st hc)) (kh_h ya_how st hc ya_header e) ya_queued ya_otherEnded ya_ended ya_finishing ya_queue ya_prefix ya_length ya_got ya_high ya_whole ya_has ya_bytes ya_frame ya_payloads (upd (tb_s ya_table m 0) 0 (nI e)) ya_out ya_nodeType ya_valueNode ya_valueNumber ya_value ya_from ya_limit ya_inside ya_sizes) :
    wY_endHeaders_2 q (nI st) x2 (fu + 1 + 1) (nI i) yf_down yf_heads yf_paid yf_payload (0) yf_name yf_first yf_counts yf_enters (nI M) (nI m) yf_sent yf_last yf_nodes yf_values yf_skipped yf_pos yf_there yf_number yf_at ya_kind ya_repeated ya_how ya_code ya_coming ya_going ya_type (an_f hc) ya_header ya_queued ya_otherEnded ya_ended ya_finishing ya_queue ya_prefix ya_length ya_got ya_high ya_whole ya_has ya_bytes ya_frame ya_payloads ya_table ya_out ya_nodeType ya_valueNode ya_valueNumber ya_value ya_from ya_limit ya_inside ya_sizes := by
  refine hy_1 hd (by omega) hn f0 p1 (yhd_l hb hb2 ?_)
  rw [if_neg (by omega), hnm]
  refine nm_r (nI_1 i) (hy_1 hd (by omega) hn f0 p2 (yhd_w1 h8 hc8 hmM hM he (by omega) hv (fun y => ?_) (fun y => ?_)))
  · have hlo : b < 64 := by
      by_cases w : 64 ≤ b
      · rw [if_pos w] at y; exact absurd y (by decide)
      · omega
    rw [if_neg (show ¬ 64 ≤ b by omega)]
    exact nm_r (nI_1 (i + 1)) (H0 hlo)
  · have hlo : 64 ≤ b := by
      by_cases w : 64 ≤ b
      · exact w
      · rw [if_neg w] at y; exact absurd rfl y
    rw [if_pos hlo]
    exact nm_r (nI_1 (i + 1)) (H1 hlo)
theorem yl_2 (hd : yf_down = 0) (hn : n ≤ 63) (hi : i + 3 ≤ n) (h8 : st < 8) (hc8 : hc st ≤ 8) (hmM : m ≤ M) (hM : M ≤ 16) (f0 : ya_frame 0 = nI n) (hb : b < 128) (hb2 : b < 32 ∨ 64 ≤ b) (hb0 : b % 64 = 0) (hnm : nm < 256) (hv : v < 256) (he : e = 256 * nm + v)
    (p1 : ya_payloads i = nI b) (p2 : ya_payloads (i + 1) = nI nm) (p3 : ya_payloads (i + 2) = nI v)
    (H0 : b < 64 → wY_endHeaders_2 q (nI st) x2 fu (nI (i + 3)) yf_down yf_heads yf_paid yf_payload (0) (nI nm) (if ya_how st = 2 then yf_first else kh_t yf_first nm v) yf_counts (0) (nI M) (nI m) yf_sent yf_last yf_nodes yf_values yf_skipped yf_pos yf_there yf_number yf_at ya_kind ya_repeated ya_how ya_code ya_coming ya_going ya_type (an_f (kh_c ya_how st hc)) (kh_h ya_how st hc ya_header e) ya_queued ya_otherEnded ya_ended ya_finishing ya_queue ya_prefix ya_length ya_got ya_high ya_whole ya_has ya_bytes ya_frame ya_payloads ya_table ya_out ya_nodeType ya_valueNode ya_valueNumber ya_value ya_from ya_limit ya_inside ya_sizes)
    (H1 : 64 ≤ b → wY_endHeaders_2 q (nI st) x2 fu (nI (i + 3)) yf_down yf_heads yf_paid yf_payload (0) (nI nm) (if ya_how st = 2 then yf_first else kh_t yf_first nm v) yf_counts (1) (nI M) (nI (at_m m M)) yf_sent yf_last yf_nodes yf_values yf_skipped yf_pos yf_there yf_number yf_at ya_kind ya_repeated ya_how ya_code ya_coming ya_going ya_type (an_f (kh_c ya_how st hc)) (kh_h ya_how st hc ya_header e) ya_queued ya_otherEnded ya_ended ya_finishing ya_queue ya_prefix ya_length ya_got ya_high ya_whole ya_has ya_bytes ya_frame ya_payloads (upd (tb_s ya_table m 0) 0 (nI e)) ya_out ya_nodeType ya_valueNode ya_valueNumber ya_value ya_from ya_limit ya_inside ya_sizes) :
    wY_endHeaders_2 q (nI st) x2 (fu + 1 + 1 + 1) (nI i) yf_down yf_heads yf_paid yf_payload (0) yf_name yf_first yf_counts yf_enters (nI M) (nI m) yf_sent yf_last yf_nodes yf_values yf_skipped yf_pos yf_there yf_number yf_at ya_kind ya_repeated ya_how ya_code ya_coming ya_going ya_type (an_f hc) ya_header ya_queued ya_otherEnded ya_ended ya_finishing ya_queue ya_prefix ya_length ya_got ya_high ya_whole ya_has ya_bytes ya_frame ya_payloads ya_table ya_out ya_nodeType ya_valueNode ya_valueNumber ya_value ya_from ya_limit ya_inside ya_sizes := by
  refine hy_1 hd (by omega) hn f0 p1 (yhd_l hb hb2 ?_)
  rw [if_pos hb0]
  refine nm_r (nI_1 i) (hy_1 hd (by omega) hn f0 p2 (yhd_w2 ?_))
  refine nm_r (nI_1 (i + 1)) (hy_1 hd (by omega) hn f0 p3 (yhd_w1 h8 hc8 hmM hM he hnm hv (fun y => ?_) (fun y => ?_)))
  · have hlo : b < 64 := by
      by_cases w : 64 ≤ b
      · rw [if_pos w] at y; exact absurd y (by decide)
      · omega
    rw [if_neg (show ¬ 64 ≤ b by omega)]
    exact nm_r (nI_1 (i + 2)) (H0 hlo)
  · have hlo : 64 ≤ b := by
      by_cases w : 64 ≤ b
      · exact w
      · rw [if_neg w] at y; exact absurd rfl y
    rw [if_pos hlo]
    exact nm_r (nI_1 (i + 2)) (H1 hlo)
/-- the frame ends within an entry -/
theorem yl_f1 (hd : yf_down = 0) (hn : n ≤ 63) (hi : i + 1 = n) (hz : z.2 ≤ 1200) (f0 : ya_frame 0 = nI n) (hb : b < 128) (hb2 : b < 32 ∨ 64 ≤ b) (p1 : ya_payloads i = nI b)
    (H : q (1, yf_heads, yf_paid, yf_payload, nI (if b % 64 = 0 then 2 else 1), nI (b % 64), yf_first, yf_counts, if 64 ≤ b then 1 else 0, yf_most, yf_many, nI (ou_L z [1, 5, 0, 0, 4]).2, yf_last, yf_nodes, yf_values, yf_skipped, yf_pos, yf_there, yf_number, yf_at, ya_kind, ya_repeated, ya_how, upd ya_code 0 (nI 4), ya_coming, ya_going, ya_type, ya_headers, ya_header, ya_queued, ya_otherEnded, ya_ended, ya_finishing, ya_queue, ya_prefix, ya_length, ya_got, ya_high, ya_whole, ya_has, ya_bytes, ya_frame, ya_payloads, ya_table, an_g (ou_L z [1, 5, 0, 0, 4]).1, ya_nodeType, ya_valueNode, ya_valueNumber, ya_value, ya_from, ya_limit, ya_inside, ya_sizes)) :
    wY_endHeaders_2 q (nI st) x2 (fu + 1 + 1) (nI i) yf_down yf_heads yf_paid yf_payload (0) yf_name yf_first yf_counts yf_enters yf_most yf_many (nI z.2) yf_last yf_nodes yf_values yf_skipped yf_pos yf_there yf_number yf_at ya_kind ya_repeated ya_how ya_code ya_coming ya_going ya_type ya_headers ya_header ya_queued ya_otherEnded ya_ended ya_finishing ya_queue ya_prefix ya_length ya_got ya_high ya_whole ya_has ya_bytes ya_frame ya_payloads ya_table (an_g z.1) ya_nodeType ya_valueNode ya_valueNumber ya_value ya_from ya_limit ya_inside ya_sizes := by
  refine hy_1 hd (by omega) hn f0 p1 (yhd_l hb hb2 ?_)
  exact nm_r (nI_1 i) (hy_f hd hi hn hz f0 (by split <;> omega) (by split <;> omega) H)
theorem yl_f2 (hd : yf_down = 0) (hn : n ≤ 63) (hi : i + 2 = n) (hz : z.2 ≤ 1200) (f0 : ya_frame 0 = nI n) (hb : b < 128) (hb2 : b < 32 ∨ 64 ≤ b) (hb0 : b % 64 = 0) (p1 : ya_payloads i = nI b) (p2 : ya_payloads (i + 1) = nI nm)
    (H : q (1, yf_heads, yf_paid, yf_payload, nI 1, nI nm, yf_first, yf_counts, if 64 ≤ b then 1 else 0, yf_most, yf_many, nI (ou_L z [1, 5, 0, 0, 4]).2, yf_last, yf_nodes, yf_values, yf_skipped, yf_pos, yf_there, yf_number, yf_at, ya_kind, ya_repeated, ya_how, upd ya_code 0 (nI 4), ya_coming, ya_going, ya_type, ya_headers, ya_header, ya_queued, ya_otherEnded, ya_ended, ya_finishing, ya_queue, ya_prefix, ya_length, ya_got, ya_high, ya_whole, ya_has, ya_bytes, ya_frame, ya_payloads, ya_table, an_g (ou_L z [1, 5, 0, 0, 4]).1, ya_nodeType, ya_valueNode, ya_valueNumber, ya_value, ya_from, ya_limit, ya_inside, ya_sizes)) :
    wY_endHeaders_2 q (nI st) x2 (fu + 1 + 1 + 1) (nI i) yf_down yf_heads yf_paid yf_payload (0) yf_name yf_first yf_counts yf_enters yf_most yf_many (nI z.2) yf_last yf_nodes yf_values yf_skipped yf_pos yf_there yf_number yf_at ya_kind ya_repeated ya_how ya_code ya_coming ya_going ya_type ya_headers ya_header ya_queued ya_otherEnded ya_ended ya_finishing ya_queue ya_prefix ya_length ya_got ya_high ya_whole ya_has ya_bytes ya_frame ya_payloads ya_table (an_g z.1) ya_nodeType ya_valueNode ya_valueNumber ya_value ya_from ya_limit ya_inside ya_sizes := by
  refine hy_1 hd (by omega) hn f0 p1 (yhd_l hb hb2 ?_)
  rw [if_pos hb0]
  refine nm_r (nI_1 i) (hy_1 hd (by omega) hn f0 p2 (yhd_w2 ?_))
  exact nm_r (nI_1 (i + 1)) (hy_f hd hi hn hz f0 (by omega) (by omega) H)
end
section
variable {f_frameAt f_frameLength f_frameSort f_frameFlags f_frameStream f_down f_entryCount f_most f_typeSeen f_lastSender f_sentLength : Int32} {a_payload a_life a_theyEnded a_weEnded a_finishing a_codes a_windowIn a_windowOut a_headers a_headerCount a_entries a_kinds a_repeats a_messageCount a_text a_nodeCount a_nodeTypes a_valueCount a_valueOwners a_values a_skippedCount a_reader a_chainNode a_chainEnd a_queue a_queueLength a_sent a_nodeSize a_nodePlace : Nat → Int32} {st e nm v m M b i1 rest row : Nat} {hc : Nat → Nat}
theorem xht {post : Int32 → Prop} (hb : b < 256) (hb1 : 128 ≤ b) (hm : m ≤ 16) (H1 : 128 < b → b ≤ 132 → post (nI (256 + (b - 129)))) (H2 : 132 < b → b - 133 < m → post (a_entries (b - 133))) (H3 : b = 128 ∨ (132 < b ∧ m ≤ b - 133) → post (-1)) :
    wpX_headerThere post (f_frameAt, f_frameLength, f_frameSort, f_frameFlags, f_frameStream, f_down, nI m, f_most, f_typeSeen, f_lastSender, f_sentLength, a_payload, a_life, a_theyEnded, a_weEnded, a_finishing, a_codes, a_windowIn, a_windowOut, a_headers, a_headerCount, a_entries, a_kinds, a_repeats, a_messageCount, a_text, a_nodeCount, a_nodeTypes, a_valueCount, a_valueOwners, a_values, a_skippedCount, a_reader, a_chainNode, a_chainEnd, a_queue, a_queueLength, a_sent, a_nodeSize, a_nodePlace) (nI (b - 128)) := by
  have k18 : b = 128 ∨ 132 < b → wX_headerThere_18 post (nI (b - 128)) f_frameAt f_frameLength f_frameSort f_frameFlags f_frameStream f_down (nI m) f_most f_typeSeen f_lastSender f_sentLength a_payload a_life a_theyEnded a_weEnded a_finishing a_codes a_windowIn a_windowOut a_headers a_headerCount a_entries a_kinds a_repeats a_messageCount a_text a_nodeCount a_nodeTypes a_valueCount a_valueOwners a_values a_skippedCount a_reader a_chainNode a_chainEnd a_queue a_queueLength a_sent a_nodeSize a_nodePlace := by
    intro h
    unfold wX_headerThere_18
    rcases h with h | h
    · subst h
      exact nm_e (br_t (by decide) (H3 (Or.inl rfl)))
    · have e5 : nI (b - 128) - 4 - 1 = nI (b - 133) := by
        rw [show (4 : Int32) = nI 4 from rfl, pk_sub (by omega), show (1 : Int32) = nI 1 from rfl, pk_sub (by omega)]; exact congrArg nI (by omega)
      refine nm_r e5 (pk_lt (b - 133) 0 (fun w => by omega) (fun _ => pk_le m (b - 133) (fun w => H3 (Or.inr ⟨h, w⟩)) (fun w => ⟨vp_in_nI (by omega) (by omega), ?_⟩)))
      rw [nI_clamp (by omega)]
      exact H2 h w
  unfold wpX_headerThere
  refine pk_lt (b - 128) 1 (fun w => k18 (Or.inl (by omega))) (fun w => pk_lt 4 (b - 128) (fun w4 => k18 (Or.inr (by omega))) (fun w4 => ?_))
  have e1 : 256 + nI (b - 128) - 1 = nI (256 + (b - 129)) := by
    rw [show (256 : Int32) = nI 256 from rfl, nI_add, show (1 : Int32) = nI 1 from rfl, pk_sub (by omega)]; exact congrArg nI (by omega)
  rw [e1]
  exact H1 (by omega) (by omega)
theorem xl_157 {post : Int32 → SX → Prop} {J9 : Int32 → Int32 → Int32 → Int32 → Int32 → Int32 → Int32 → Int32 → Int32 → Int32 → Int32 → Int32 → Int32 → (Nat → Int32) → (Nat → Int32) → (Nat → Int32) → (Nat → Int32) → (Nat → Int32) → (Nat → Int32) → (Nat → Int32) → (Nat → Int32) → (Nat → Int32) → (Nat → Int32) → (Nat → Int32) → (Nat → Int32) → (Nat → Int32) → (Nat → Int32) → (Nat → Int32) → (Nat → Int32) → (Nat → Int32) → (Nat → Int32) → (Nat → Int32) → (Nat → Int32) → (Nat → Int32) → (Nat → Int32) → (Nat → Int32) → (Nat → Int32) → (Nat → Int32) → (Nat → Int32) → (Nat → Int32) → (Nat → Int32) → (Nat → Int32) → Prop} (h8 : st < 8) (hc8 : hc st ≤ 8) (hmM : m ≤ M) (hM : M ≤ 16) (hb : b < 128) (hr : 1 ≤ rest) (hr2 : rest ≤ 2) (hi : i1 + rest ≤ 63) (hnm : nm < 256) (hv : v < 256) (he : e = 256 * nm + v) (hp : a_payload (i1 + rest - 1) = nI v)
    (H0 : b < 64 → ∀ x, x = nI row + 1 → J9 (nI (i1 + rest)) x f_frameAt f_frameLength f_frameSort f_frameFlags f_frameStream f_down (nI m) (nI M) (kh_t f_typeSeen nm v) f_lastSender f_sentLength a_payload a_life a_theyEnded a_weEnded a_finishing a_codes a_windowIn a_windowOut (kh_h a_life st hc a_headers e) (an_f (kh_c a_life st hc)) a_entries a_kinds a_repeats a_messageCount a_text a_nodeCount a_nodeTypes a_valueCount a_valueOwners a_values a_skippedCount a_reader a_chainNode a_chainEnd a_queue a_queueLength a_sent a_nodeSize a_nodePlace)
    (H1 : 64 ≤ b → ∀ x, x = nI row + 1 → J9 (nI (i1 + rest)) x f_frameAt f_frameLength f_frameSort f_frameFlags f_frameStream f_down (nI (at_m m M)) (nI M) (kh_t f_typeSeen nm v) f_lastSender f_sentLength a_payload a_life a_theyEnded a_weEnded a_finishing a_codes a_windowIn a_windowOut (kh_h a_life st hc a_headers e) (an_f (kh_c a_life st hc)) (at_e a_entries m M e) a_kinds a_repeats a_messageCount a_text a_nodeCount a_nodeTypes a_valueCount a_valueOwners a_values a_skippedCount a_reader a_chainNode a_chainEnd a_queue a_queueLength a_sent a_nodeSize a_nodePlace) :
    wX_readHeaders_157 post J9 (nI st) (nI i1) (nI row) (nI b) (nI rest) (nI nm) f_frameAt f_frameLength f_frameSort f_frameFlags f_frameStream f_down (nI m) (nI M) f_typeSeen f_lastSender f_sentLength a_payload a_life a_theyEnded a_weEnded a_finishing a_codes a_windowIn a_windowOut a_headers (an_f hc) a_entries a_kinds a_repeats a_messageCount a_text a_nodeCount a_nodeTypes a_valueCount a_valueOwners a_values a_skippedCount a_reader a_chainNode a_chainEnd a_queue a_queueLength a_sent a_nodeSize a_nodePlace := by
  unfold wX_readHeaders_157
  have e1 : nI (i1 + rest) - 1 = nI (i1 + rest - 1) := by
    rw [show (1 : Int32) = nI 1 from rfl, pk_sub (by omega)]
  rw [nI_add, e1, nI_clamp (by omega), hp]
  refine ⟨vp_in_nI (by omega) (by omega), nm_r (e' := nI e) (by rw [show (256 : Int32) = nI 256 from rfl, pk_mul, nI_add, he, Nat.mul_comm]) (nm_e (pk_lt b 64 (fun w => ?_) (fun w => ?_)))⟩
  · unfold wX_readHeaders_197
    exact kh_x h8 hc8 he hnm hv (H0 w)
  · refine at_x hmM hM ?_
    dsimp only
    unfold wX_readHeaders_197
    exact kh_x h8 hc8 he hnm hv (H1 w)
end
end
section
/-! T12: headers: all entries of a frame, both sides -/
section
abbrev hd_Z : Type := Nat × Nat × Int32 × Int32 × Int32 × Int32 × (Nat → Nat) × (Nat → Int32) × (Nat → Int32) × (Nat → Int32)
def hd_I (life : Nat → Int32) (st : Nat) (s : hd_Z) : Prop :=
  cr_T s.2.2.2.2.2.2.2.2.1 s.2.2.2.2.2.2.2.2.2 s.1 s.2.1 ∧ (∀ i, i < 8 → s.2.2.2.2.2.2.1 i ≤ 8) ∧ (life st ≠ 2 → s.2.2.1 = s.2.2.2.1)
/-- a header is kept -/
def hd_k (life : Nat → Int32) (st nm v e : Nat) (s : hd_Z) : hd_Z :=
  (s.1, s.2.1, kh_t s.2.2.1 nm v, (if life st = 2 then s.2.2.2.1 else kh_t s.2.2.2.1 nm v), s.2.2.2.2.1, s.2.2.2.2.2.1, kh_c life st s.2.2.2.2.2.2.1, kh_h life st s.2.2.2.2.2.2.1 s.2.2.2.2.2.2.2.1 e, s.2.2.2.2.2.2.2.2.1, s.2.2.2.2.2.2.2.2.2)
/-- .. of a name of its own -/
def hd_n (s : hd_Z) (nm : Nat) (es : Int32) : hd_Z := (s.1, s.2.1, s.2.2.1, s.2.2.2.1, nI nm, es, s.2.2.2.2.2.2)
/-- .. and put into the table -/
def hd_a (s : hd_Z) (e : Nat) : hd_Z :=
  (at_m s.1 s.2.1, s.2.1, s.2.2.1, s.2.2.2.1, s.2.2.2.2.1, s.2.2.2.2.2.1, s.2.2.2.2.2.2.1, s.2.2.2.2.2.2.2.1, at_e s.2.2.2.2.2.2.2.2.1 s.1 s.2.1 e, upd (tb_s s.2.2.2.2.2.2.2.2.2 s.1 0) 0 (nI e))
def hd_m (s : hd_Z) (x : Nat) : hd_Z := (if s.1 ≤ x then s.1 else x, x, s.2.2)
variable {K : Nat → Nat} {R : Nat → Bool} {z : (Nat → Nat) × Nat} {fAt n so fl st h p m M l : Nat} {wi wo ql hc Q tx : Nat → Nat} {f_down f_typeSeen yf_payload yf_wants yf_name yf_first yf_counts yf_enters yf_nodes yf_values yf_skipped yf_pos yf_there yf_number yf_at : Int32} {a_payload a_life a_theyEnded a_weEnded a_finishing a_codes a_headers a_entries a_kinds a_repeats a_messageCount a_nodeCount a_nodeTypes a_valueCount a_valueOwners a_values a_skippedCount a_reader a_chainNode a_chainEnd a_nodeSize a_nodePlace ya_type ya_otherEnded ya_prefix ya_length ya_got ya_high ya_has ya_frame ya_payloads ya_table ya_nodeType ya_valueNode ya_valueNumber ya_value ya_from ya_limit ya_inside ya_sizes : Nat → Int32}
theorem hd_k_I {nm v e : Nat} {s : hd_Z} (I : hd_I a_life st s) : hd_I a_life st (hd_k a_life st nm v e s) := by
  obtain ⟨i1, i2, i3⟩ := I
  refine ⟨i1, kh_c8 i2, fun w => ?_⟩
  show kh_t s.2.2.1 nm v = if a_life st = 2 then s.2.2.2.1 else kh_t s.2.2.2.1 nm v
  rw [if_neg w, i3 w]
theorem hd_a_I {e : Nat} {s : hd_Z} (he : e < 65536) (I : hd_I a_life st s) : hd_I a_life st (hd_a s e) := ⟨at_T he I.1, I.2.1, I.2.2⟩
theorem hd_n_I {nm : Nat} {es : Int32} {s : hd_Z} (I : hd_I a_life st s) : hd_I a_life st (hd_n s nm es) := I
theorem hd_m_I {x : Nat} {s : hd_Z} (hx : x ≤ 16) (I : hd_I a_life st s) : hd_I a_life st (hd_m s x) := ⟨lt_T hx I.1, I.2.1, I.2.2⟩
theorem hd_end {post : Int32 → SX → Prop} (hn : n ≤ 63) (f0 : ya_frame 0 = nI n) {i row fu : Nat} {σ : hd_Z} (hi : i = n) (hfu : 0 < fu) (I : hd_I a_life st σ) (hr : row ≤ i)
    (H1 : ∀ σ' : hd_Z, hd_I a_life st σ' → (∀ (a : yr_Z) (t : Int32) (q : SY → Prop) (x2 : Int32), wY_endHeaders_36 q (nI st) x2 (f_down) (nI h) (nI p) yf_payload (0) (σ'.2.2.2.2.1) (σ'.2.2.2.1) yf_counts (σ'.2.2.2.2.2.1) (nI σ'.2.1) (nI σ'.1) (nI z.2) (nI (if l = 0 then 7 else l)) (a.1) (a.2.1) (a.2.2.1) (a.2.2.2.1) (t) (a.2.2.2.2.1) (a.2.2.2.2.2.1) (a_kinds) (a_repeats) (a_life) (a_codes) (an_f wi) (an_f wo) ya_type (an_f σ'.2.2.2.2.2.2.1) (σ'.2.2.2.2.2.2.2.1) (an_f ql) ya_otherEnded (a_weEnded) (a_finishing) (an_g Q) ya_prefix ya_length ya_got ya_high (a_messageCount) ya_has (an_g tx) ya_frame ya_payloads (σ'.2.2.2.2.2.2.2.2.2) (an_g z.1) (a.2.2.2.2.2.2.1) (a.2.2.2.2.2.2.2.1) (a.2.2.2.2.2.2.2.2.1) (a.2.2.2.2.2.2.2.2.2.1) (a.2.2.2.2.2.2.2.2.2.2.1) (a.2.2.2.2.2.2.2.2.2.2.2.1) (a.2.2.2.2.2.2.2.2.2.2.2.2) ya_sizes → wY_endHeaders_2 q (nI st) x2 (0 + 1) (nI i) (f_down) (nI h) (nI p) yf_payload (0) (σ.2.2.2.2.1) (σ.2.2.2.1) yf_counts (σ.2.2.2.2.2.1) (nI σ.2.1) (nI σ.1) (nI z.2) (nI (if l = 0 then 7 else l)) (a.1) (a.2.1) (a.2.2.1) (a.2.2.2.1) (t) (a.2.2.2.2.1) (a.2.2.2.2.2.1) (a_kinds) (a_repeats) (a_life) (a_codes) (an_f wi) (an_f wo) ya_type (an_f σ.2.2.2.2.2.2.1) (σ.2.2.2.2.2.2.2.1) (an_f ql) ya_otherEnded (a_weEnded) (a_finishing) (an_g Q) ya_prefix ya_length ya_got ya_high (a_messageCount) ya_has (an_g tx) ya_frame ya_payloads (σ.2.2.2.2.2.2.2.2.2) (an_g z.1) (a.2.2.2.2.2.2.1) (a.2.2.2.2.2.2.2.1) (a.2.2.2.2.2.2.2.2.1) (a.2.2.2.2.2.2.2.2.2.1) (a.2.2.2.2.2.2.2.2.2.2.1) (a.2.2.2.2.2.2.2.2.2.2.2.1) (a.2.2.2.2.2.2.2.2.2.2.2.2) ya_sizes) → post 1 (nI fAt, nI n, nI so, nI fl, nI st, f_down, nI σ'.1, nI σ'.2.1, σ'.2.2.1, nI l, nI z.2, a_payload, a_life, a_theyEnded, a_weEnded, a_finishing, a_codes, an_f wi, an_f wo, σ'.2.2.2.2.2.2.2.1, an_f σ'.2.2.2.2.2.2.1, σ'.2.2.2.2.2.2.2.2.1, a_kinds, a_repeats, a_messageCount, an_f tx, a_nodeCount, a_nodeTypes, a_valueCount, a_valueOwners, a_values, a_skippedCount, a_reader, a_chainNode, a_chainEnd, an_f Q, an_f ql, an_f z.1, a_nodeSize, a_nodePlace)) :
    wX_readHeaders_9 post (nI st) fu (nI i) (nI row) (nI fAt) (nI n) (nI so) (nI fl) (nI st) f_down (nI σ.1) (nI σ.2.1) (σ.2.2.1) (nI l) (nI z.2) a_payload a_life a_theyEnded a_weEnded a_finishing a_codes (an_f wi) (an_f wo) (σ.2.2.2.2.2.2.2.1) (an_f σ.2.2.2.2.2.2.1) (σ.2.2.2.2.2.2.2.2.1) a_kinds a_repeats a_messageCount (an_f tx) a_nodeCount a_nodeTypes a_valueCount a_valueOwners a_values a_skippedCount a_reader a_chainNode a_chainEnd (an_f Q) (an_f ql) (an_f z.1) a_nodeSize a_nodePlace := by
  have HX := H1 σ I (fun a t q x2 hq => hy_0 hi hn f0 hq)
  cases fu with
  | zero => omega
  | succ fu =>
    rw [wX_readHeaders_9]
    exact br_c (fun _ => HX) (fun _ => pk_le n i (fun _ => HX) (fun w => by omega))
theorem hd_loop {post : Int32 → SX → Prop} (hd : f_down = 0) (h8 : st < 8) (hn : n ≤ 63) (hO : ou_I z) (f0 : ya_frame 0 = nI n) (hpl : ∀ i, i < n → ∃ b, b < 256 ∧ a_payload i = nI b ∧ ya_payloads i = nI b) :
    ∀ (F f i row fu : Nat) (σ : hd_Z), f ≤ F → i + f = n → row ≤ i → f < fu → hd_I a_life st σ →
    (∀ σ' : hd_Z, hd_I a_life st σ' → (∀ (a : yr_Z) (t : Int32) (q : SY → Prop) (x2 : Int32), wY_endHeaders_36 q (nI st) x2 (f_down) (nI h) (nI p) yf_payload (0) (σ'.2.2.2.2.1) (σ'.2.2.2.1) yf_counts (σ'.2.2.2.2.2.1) (nI σ'.2.1) (nI σ'.1) (nI z.2) (nI (if l = 0 then 7 else l)) (a.1) (a.2.1) (a.2.2.1) (a.2.2.2.1) (t) (a.2.2.2.2.1) (a.2.2.2.2.2.1) (a_kinds) (a_repeats) (a_life) (a_codes) (an_f wi) (an_f wo) ya_type (an_f σ'.2.2.2.2.2.2.1) (σ'.2.2.2.2.2.2.2.1) (an_f ql) ya_otherEnded (a_weEnded) (a_finishing) (an_g Q) ya_prefix ya_length ya_got ya_high (a_messageCount) ya_has (an_g tx) ya_frame ya_payloads (σ'.2.2.2.2.2.2.2.2.2) (an_g z.1) (a.2.2.2.2.2.2.1) (a.2.2.2.2.2.2.2.1) (a.2.2.2.2.2.2.2.2.1) (a.2.2.2.2.2.2.2.2.2.1) (a.2.2.2.2.2.2.2.2.2.2.1) (a.2.2.2.2.2.2.2.2.2.2.2.1) (a.2.2.2.2.2.2.2.2.2.2.2.2) ya_sizes → wY_endHeaders_2 q (nI st) x2 (f + 1) (nI i) (f_down) (nI h) (nI p) yf_payload (0) (σ.2.2.2.2.1) (σ.2.2.2.1) yf_counts (σ.2.2.2.2.2.1) (nI σ.2.1) (nI σ.1) (nI z.2) (nI (if l = 0 then 7 else l)) (a.1) (a.2.1) (a.2.2.1) (a.2.2.2.1) (t) (a.2.2.2.2.1) (a.2.2.2.2.2.1) (a_kinds) (a_repeats) (a_life) (a_codes) (an_f wi) (an_f wo) ya_type (an_f σ.2.2.2.2.2.2.1) (σ.2.2.2.2.2.2.2.1) (an_f ql) ya_otherEnded (a_weEnded) (a_finishing) (an_g Q) ya_prefix ya_length ya_got ya_high (a_messageCount) ya_has (an_g tx) ya_frame ya_payloads (σ.2.2.2.2.2.2.2.2.2) (an_g z.1) (a.2.2.2.2.2.2.1) (a.2.2.2.2.2.2.2.1) (a.2.2.2.2.2.2.2.2.1) (a.2.2.2.2.2.2.2.2.2.1) (a.2.2.2.2.2.2.2.2.2.2.1) (a.2.2.2.2.2.2.2.2.2.2.2.1) (a.2.2.2.2.2.2.2.2.2.2.2.2) ya_sizes) → post 1 (nI fAt, nI n, nI so, nI fl, nI st, f_down, nI σ'.1, nI σ'.2.1, σ'.2.2.1, nI l, nI z.2, a_payload, a_life, a_theyEnded, a_weEnded, a_finishing, a_codes, an_f wi, an_f wo, σ'.2.2.2.2.2.2.2.1, an_f σ'.2.2.2.2.2.2.1, σ'.2.2.2.2.2.2.2.2.1, a_kinds, a_repeats, a_messageCount, an_f tx, a_nodeCount, a_nodeTypes, a_valueCount, a_valueOwners, a_values, a_skippedCount, a_reader, a_chainNode, a_chainEnd, an_f Q, an_f ql, an_f z.1, a_nodeSize, a_nodePlace)) →
    (∀ (σ' : hd_Z) (wn : Int32), hd_I a_life st σ' → (∀ (a : yr_Z) (t : Int32) (q : SY → Prop) (x2 : Int32), q (1, nI h, nI p, yf_payload, wn, σ'.2.2.2.2.1, σ'.2.2.2.1, yf_counts, σ'.2.2.2.2.2.1, nI σ'.2.1, nI σ'.1, nI (ou_L z [1, 5, 0, 0, 4]).2, nI (if l = 0 then 7 else l), a.1, a.2.1, a.2.2.1, a.2.2.2.1, t, a.2.2.2.2.1, a.2.2.2.2.2.1, a_kinds, a_repeats, a_life, upd a_codes 0 (nI 4), an_f wi, an_f wo, ya_type, an_f σ'.2.2.2.2.2.2.1, σ'.2.2.2.2.2.2.2.1, an_f ql, ya_otherEnded, a_weEnded, a_finishing, an_g Q, ya_prefix, ya_length, ya_got, ya_high, a_messageCount, ya_has, an_g tx, ya_frame, ya_payloads, σ'.2.2.2.2.2.2.2.2.2, an_g (ou_L z [1, 5, 0, 0, 4]).1, a.2.2.2.2.2.2.1, a.2.2.2.2.2.2.2.1, a.2.2.2.2.2.2.2.2.1, a.2.2.2.2.2.2.2.2.2.1, a.2.2.2.2.2.2.2.2.2.2.1, a.2.2.2.2.2.2.2.2.2.2.2.1, a.2.2.2.2.2.2.2.2.2.2.2.2, ya_sizes) → wY_endHeaders_2 q (nI st) x2 (f + 1) (nI i) (f_down) (nI h) (nI p) yf_payload (0) (σ.2.2.2.2.1) (σ.2.2.2.1) yf_counts (σ.2.2.2.2.2.1) (nI σ.2.1) (nI σ.1) (nI z.2) (nI (if l = 0 then 7 else l)) (a.1) (a.2.1) (a.2.2.1) (a.2.2.2.1) (t) (a.2.2.2.2.1) (a.2.2.2.2.2.1) (a_kinds) (a_repeats) (a_life) (a_codes) (an_f wi) (an_f wo) ya_type (an_f σ.2.2.2.2.2.2.1) (σ.2.2.2.2.2.2.2.1) (an_f ql) ya_otherEnded (a_weEnded) (a_finishing) (an_g Q) ya_prefix ya_length ya_got ya_high (a_messageCount) ya_has (an_g tx) ya_frame ya_payloads (σ.2.2.2.2.2.2.2.2.2) (an_g z.1) (a.2.2.2.2.2.2.1) (a.2.2.2.2.2.2.2.1) (a.2.2.2.2.2.2.2.2.1) (a.2.2.2.2.2.2.2.2.2.1) (a.2.2.2.2.2.2.2.2.2.2.1) (a.2.2.2.2.2.2.2.2.2.2.2.1) (a.2.2.2.2.2.2.2.2.2.2.2.2) ya_sizes) → post 0 (nI fAt, nI n, nI so, nI fl, nI st, f_down, nI σ'.1, nI σ'.2.1, σ'.2.2.1, nI l, nI z.2, a_payload, a_life, a_theyEnded, a_weEnded, a_finishing, a_codes, an_f wi, an_f wo, σ'.2.2.2.2.2.2.2.1, an_f σ'.2.2.2.2.2.2.1, σ'.2.2.2.2.2.2.2.2.1, a_kinds, a_repeats, a_messageCount, an_f tx, a_nodeCount, a_nodeTypes, a_valueCount, a_valueOwners, a_values, a_skippedCount, a_reader, a_chainNode, a_chainEnd, an_f Q, an_f ql, an_f z.1, a_nodeSize, a_nodePlace)) →
    wX_readHeaders_9 post (nI st) fu (nI i) (nI row) (nI fAt) (nI n) (nI so) (nI fl) (nI st) f_down (nI σ.1) (nI σ.2.1) (σ.2.2.1) (nI l) (nI z.2) a_payload a_life a_theyEnded a_weEnded a_finishing a_codes (an_f wi) (an_f wo) (σ.2.2.2.2.2.2.2.1) (an_f σ.2.2.2.2.2.2.1) (σ.2.2.2.2.2.2.2.2.1) a_kinds a_repeats a_messageCount (an_f tx) a_nodeCount a_nodeTypes a_valueCount a_valueOwners a_values a_skippedCount a_reader a_chainNode a_chainEnd (an_f Q) (an_f ql) (an_f z.1) a_nodeSize a_nodePlace := by
  intro F
  induction F with
  | zero =>
    intro f i row fu σ hF hi hr hfu I H1 H0
    have e : f = 0 := by omega
    subst e
    exact hd_end hn f0 (by omega) (by omega) I hr H1
  | succ F ih =>
    intro f i row fu σ hF hi hr hfu I H1 H0
    cases f with
    | zero => exact hd_end hn f0 (by omega) (by omega) I hr H1
    | succ f =>
      cases fu with
      | zero => omega
      | succ fu =>
        obtain ⟨b, hb, p1, p2⟩ := hpl i (by omega)
        obtain ⟨⟨t1, t2, t3⟩, i8, its⟩ := I
        have I : hd_I a_life st σ := ⟨⟨t1, t2, t3⟩, i8, its⟩
        have NEXT : ∀ (i' f' : Nat) (σ1 : hd_Z), i' + f' = n → i < i' → f' ≤ f → hd_I a_life st σ1 →
            (∀ (a : yr_Z) (t : Int32) (q : SY → Prop) (x2 : Int32), wY_endHeaders_2 q (nI st) x2 (f' + 1) (nI i') (f_down) (nI h) (nI p) yf_payload (0) (σ1.2.2.2.2.1) (σ1.2.2.2.1) yf_counts (σ1.2.2.2.2.2.1) (nI σ1.2.1) (nI σ1.1) (nI z.2) (nI (if l = 0 then 7 else l)) (a.1) (a.2.1) (a.2.2.1) (a.2.2.2.1) (t) (a.2.2.2.2.1) (a.2.2.2.2.2.1) (a_kinds) (a_repeats) (a_life) (a_codes) (an_f wi) (an_f wo) ya_type (an_f σ1.2.2.2.2.2.2.1) (σ1.2.2.2.2.2.2.2.1) (an_f ql) ya_otherEnded (a_weEnded) (a_finishing) (an_g Q) ya_prefix ya_length ya_got ya_high (a_messageCount) ya_has (an_g tx) ya_frame ya_payloads (σ1.2.2.2.2.2.2.2.2.2) (an_g z.1) (a.2.2.2.2.2.2.1) (a.2.2.2.2.2.2.2.1) (a.2.2.2.2.2.2.2.2.1) (a.2.2.2.2.2.2.2.2.2.1) (a.2.2.2.2.2.2.2.2.2.2.1) (a.2.2.2.2.2.2.2.2.2.2.2.1) (a.2.2.2.2.2.2.2.2.2.2.2.2) ya_sizes → wY_endHeaders_2 q (nI st) x2 (f + 1 + 1) (nI i) (f_down) (nI h) (nI p) yf_payload (0) (σ.2.2.2.2.1) (σ.2.2.2.1) yf_counts (σ.2.2.2.2.2.1) (nI σ.2.1) (nI σ.1) (nI z.2) (nI (if l = 0 then 7 else l)) (a.1) (a.2.1) (a.2.2.1) (a.2.2.2.1) (t) (a.2.2.2.2.1) (a.2.2.2.2.2.1) (a_kinds) (a_repeats) (a_life) (a_codes) (an_f wi) (an_f wo) ya_type (an_f σ.2.2.2.2.2.2.1) (σ.2.2.2.2.2.2.2.1) (an_f ql) ya_otherEnded (a_weEnded) (a_finishing) (an_g Q) ya_prefix ya_length ya_got ya_high (a_messageCount) ya_has (an_g tx) ya_frame ya_payloads (σ.2.2.2.2.2.2.2.2.2) (an_g z.1) (a.2.2.2.2.2.2.1) (a.2.2.2.2.2.2.2.1) (a.2.2.2.2.2.2.2.2.1) (a.2.2.2.2.2.2.2.2.2.1) (a.2.2.2.2.2.2.2.2.2.2.1) (a.2.2.2.2.2.2.2.2.2.2.2.1) (a.2.2.2.2.2.2.2.2.2.2.2.2) ya_sizes) →
            ∀ x, x = nI row + 1 → wX_readHeaders_9 post (nI st) fu (nI i') x (nI fAt) (nI n) (nI so) (nI fl) (nI st) f_down (nI σ1.1) (nI σ1.2.1) (σ1.2.2.1) (nI l) (nI z.2) a_payload a_life a_theyEnded a_weEnded a_finishing a_codes (an_f wi) (an_f wo) (σ1.2.2.2.2.2.2.2.1) (an_f σ1.2.2.2.2.2.2.1) (σ1.2.2.2.2.2.2.2.2.1) a_kinds a_repeats a_messageCount (an_f tx) a_nodeCount a_nodeTypes a_valueCount a_valueOwners a_values a_skippedCount a_reader a_chainNode a_chainEnd (an_f Q) (an_f ql) (an_f z.1) a_nodeSize a_nodePlace := by
          intro i' f' σ1 e1 e2 e3 I1 yy
          exact nm_r (nI_1 row) (ih f' i' (row + 1) fu σ1 (by omega) e1 (by omega) (by omega) I1 (fun σ' I' y => H1 σ' I' (fun a t q x2 hq => yy a t q x2 (y a t q x2 hq))) (fun σ' wn I' y => H0 σ' wn I' (fun a t q x2 hq => yy a t q x2 (y a t q x2 hq))))
        have ERR : b = 128 ∨ (132 < b ∧ σ.1 ≤ b - 133) ∨ (48 < b ∧ b < 64) → post 0 (nI fAt, nI n, nI so, nI fl, nI st, f_down, nI σ.1, nI σ.2.1, σ.2.2.1, nI l, nI z.2, a_payload, a_life, a_theyEnded, a_weEnded, a_finishing, a_codes, an_f wi, an_f wo, σ.2.2.2.2.2.2.2.1, an_f σ.2.2.2.2.2.2.1, σ.2.2.2.2.2.2.2.2.1, a_kinds, a_repeats, a_messageCount, an_f tx, a_nodeCount, a_nodeTypes, a_valueCount, a_valueOwners, a_values, a_skippedCount, a_reader, a_chainNode, a_chainEnd, an_f Q, an_f ql, an_f z.1, a_nodeSize, a_nodePlace) := by
          intro he
          refine H0 σ 0 I (fun a t q x2 hq => hy_1 hd (by omega) hn f0 p2 (yhd_e hb (by omega) hO.1 he ?_))
          exact nm_r (nI_1 i) (hy_dn rfl (by omega) hn f0 hq)
        have LIT : b < 128 → (b < 32 ∨ 64 ≤ b) → wX_readHeaders_109 post (wX_readHeaders_9 post (nI st) fu) (nI st) (nI (i + 1)) (nI row) (nI b) (nI fAt) (nI n) (nI so) (nI fl) (nI st) f_down (nI σ.1) (nI σ.2.1) (σ.2.2.1) (nI l) (nI z.2) a_payload a_life a_theyEnded a_weEnded a_finishing a_codes (an_f wi) (an_f wo) (σ.2.2.2.2.2.2.2.1) (an_f σ.2.2.2.2.2.2.1) (σ.2.2.2.2.2.2.2.2.1) a_kinds a_repeats a_messageCount (an_f tx) a_nodeCount a_nodeTypes a_valueCount a_valueOwners a_values a_skippedCount a_reader a_chainNode a_chainEnd (an_f Q) (an_f ql) (an_f z.1) a_nodeSize a_nodePlace := by
          intro hb1 hb2
          have e63 : nI b &&& 63 = nI (b % 64) := pk_andN (by omega) 6 (by decide)
          have F1 : i + 1 = n → post 0 (nI fAt, nI n, nI so, nI fl, nI st, f_down, nI σ.1, nI σ.2.1, σ.2.2.1, nI l, nI z.2, a_payload, a_life, a_theyEnded, a_weEnded, a_finishing, a_codes, an_f wi, an_f wo, σ.2.2.2.2.2.2.2.1, an_f σ.2.2.2.2.2.2.1, σ.2.2.2.2.2.2.2.2.1, a_kinds, a_repeats, a_messageCount, an_f tx, a_nodeCount, a_nodeTypes, a_valueCount, a_valueOwners, a_values, a_skippedCount, a_reader, a_chainNode, a_chainEnd, an_f Q, an_f ql, an_f z.1, a_nodeSize, a_nodePlace) := by
            intro e1
            refine H0 (hd_n σ (b % 64) (if 64 ≤ b then 1 else 0)) (nI (if b % 64 = 0 then 2 else 1)) I (fun a t q x2 hq => ?_)
            exact yl_f1 hd hn e1 hO.1 f0 hb1 hb2 p2 hq
          unfold wX_readHeaders_109
          refine nm_r e63 (pk_eq (b % 64) 0 (fun w0 => ?_) (fun w0 => ?_))
          · unfold wX_readHeaders_126
            have ea : nI (i + 1) + 2 = nI (i + 1 + 2) := nI_add _ 2
            rw [ea]
            refine pk_le (i + 1 + 2) n (fun w => pk_eq (b % 64) 0 (fun _ => ⟨vp_in_nI (by omega) (by omega), ?_⟩) (fun w' => absurd w0 w')) (fun w => ?_)
            · rw [nI_clamp (by omega)]
              obtain ⟨nm, hnm, q1, q2⟩ := hpl (i + 1) (by omega)
              obtain ⟨v, hv, r1, r2⟩ := hpl (i + 2) (by omega)
              rw [q1]
              obtain ⟨f', rfl⟩ : ∃ f', f = f' + 2 := ⟨f - 2, by omega⟩
              refine xl_157 (v := v) (e := 256 * nm + v) (rest := 2) h8 (i8 st h8) t1 t2 hb1 (by omega) (by omega) (by omega) hnm hv rfl r1 (fun lo => ?_) (fun hi => ?_)
              · exact NEXT (i + 3) f' (hd_k a_life st nm v (256 * nm + v) (hd_n σ nm 0)) (by omega) (by omega) (by omega) (hd_k_I I) (fun a t q x2 hq => yl_2 hd hn (by omega) h8 (i8 st h8) t1 t2 f0 hb1 hb2 w0 hnm hv rfl p2 q2 r2 (fun _ => hq) (fun w' => by omega))
              · exact NEXT (i + 3) f' (hd_a (hd_k a_life st nm v (256 * nm + v) (hd_n σ nm 1)) (256 * nm + v)) (by omega) (by omega) (by omega) (hd_a_I (by omega) (hd_k_I I)) (fun a t q x2 hq => yl_2 hd hn (by omega) h8 (i8 st h8) t1 t2 f0 hb1 hb2 w0 hnm hv rfl p2 q2 r2 (fun w' => by omega) (fun _ => hq))
            · by_cases e1 : i + 1 = n
              · exact F1 e1
              · obtain ⟨nm, hnm, q1, q2⟩ := hpl (i + 1) (by omega)
                obtain ⟨f', rfl⟩ : ∃ f', f = f' + 1 := ⟨f - 1, by omega⟩
                refine H0 (hd_n σ nm (if 64 ≤ b then 1 else 0)) (nI 1) I (fun a t q x2 hq => ?_)
                exact yl_f2 hd hn (by omega) hO.1 f0 hb1 hb2 w0 p2 q2 hq
          · unfold wX_readHeaders_126
            have ea : nI (i + 1) + 1 = nI (i + 1 + 1) := nI_1 _
            rw [ea]
            refine pk_le (i + 1 + 1) n (fun w => pk_eq (b % 64) 0 (fun w' => absurd w' w0) (fun _ => ?_)) (fun w => F1 (by omega))
            obtain ⟨v, hv, r1, r2⟩ := hpl (i + 1) (by omega)
            obtain ⟨f', rfl⟩ : ∃ f', f = f' + 1 := ⟨f - 1, by omega⟩
            refine xl_157 (v := v) (e := 256 * (b % 64) + v) (rest := 1) h8 (i8 st h8) t1 t2 hb1 (by omega) (by omega) (by omega) (by omega) hv rfl r1 (fun lo => ?_) (fun hi => ?_)
            · exact NEXT (i + 2) f' (hd_k a_life st (b % 64) v (256 * (b % 64) + v) (hd_n σ (b % 64) 0)) (by omega) (by omega) (by omega) (hd_k_I I) (fun a t q x2 hq => yl_1 hd hn (by omega) h8 (i8 st h8) t1 t2 f0 hb1 hb2 rfl w0 hv rfl p2 r2 (fun _ => hq) (fun w' => by omega))
            · exact NEXT (i + 2) f' (hd_a (hd_k a_life st (b % 64) v (256 * (b % 64) + v) (hd_n σ (b % 64) 1)) (256 * (b % 64) + v)) (by omega) (by omega) (by omega) (hd_a_I (by omega) (hd_k_I I)) (fun a t q x2 hq => yl_1 hd hn (by omega) h8 (i8 st h8) t1 t2 f0 hb1 hb2 rfl w0 hv rfl p2 r2 (fun w' => by omega) (fun _ => hq))
        rw [wX_readHeaders_9]
        refine pk_le 63 row (fun w => by omega) (fun _ => pk_le n i (fun w => by omega) (fun _ => ⟨vp_in_nI (by omega) (by omega), nm_r (e' := nI b) (by rw [nI_clamp (by omega)]; exact p1) (nm_r (nI_1 i) ?_)⟩))
        refine pk_lt b 128 (fun hb1 => pk_lt b 32 (fun w => LIT hb1 (Or.inl w)) (fun w32 => pk_le 64 b (fun w => LIT hb1 (Or.inr w)) (fun w64 => ?_))) (fun hb1 => ?_)
        · have e32 : nI b - 32 = nI (b - 32) := by rw [show (32 : Int32) = nI 32 from rfl, pk_sub w32]
          rw [e32]
          refine pk_le (b - 32) 16 (fun w16 => ?_) (fun w16 => ERR (Or.inr (Or.inr ⟨by omega, w64⟩)))
          have hN := NEXT (i + 1) f (hd_m σ (b - 32)) (by omega) (by omega) (Nat.le_refl _) (hd_m_I w16 I) (fun a t q x2 hq => hy_1 hd (by omega) hn f0 p2 (yhd_m w32 (by omega) (by omega) (nm_r (nI_1 i) hq)))
          unfold wpX_limitTable
          have hmm : σ.1 ≤ 16 := by omega
          refine pk_le σ.1 (b - 32) (fun w => ?_) (fun w => ?_)
          · unfold hd_m at hN
            rw [if_pos w] at hN
            exact hN
          · unfold hd_m at hN
            rw [if_neg (by omega)] at hN
            exact hN
        · have e128 : nI b - 128 = nI (b - 128) := by rw [show (128 : Int32) = nI 128 from rfl, pk_sub hb1]
          rw [e128]
          refine xht hb hb1 (by omega) (fun w1 w2 => ?_) (fun w1 w2 => ?_) (fun w => br_f (by decide) (ERR (by omega)))
          · refine pk_le 0 (256 + (b - 129)) (fun _ => kh_x (nm := 1) (v := b - 129) h8 (i8 st h8) (by omega) (by omega) (by omega) ?_) (fun w => by omega)
            exact NEXT (i + 1) f (hd_k a_life st 1 (b - 129) (256 + (b - 129)) σ) (by omega) (by omega) (Nat.le_refl _) (hd_k_I I) (fun a t q x2 hq => hy_1 hd (by omega) hn f0 p2 (yhd_i h8 (i8 st h8) w1 w2 (nm_r (nI_1 i) hq)))
          · obtain ⟨e1, e, he, e2⟩ := t3 (b - 133) w2
            rw [e2]
            refine pk_le 0 e (fun _ => kh_x (nm := e / 256) (v := e % 256) h8 (i8 st h8) (by omega) (by omega) (by omega) ?_) (fun w => by omega)
            exact NEXT (i + 1) f (hd_k a_life st (e / 256) (e % 256) e σ) (by omega) (by omega) (Nat.le_refl _) (hd_k_I I) (fun a t q x2 hq => hy_1 hd (by omega) hn f0 p2 (yhd_t h8 (i8 st h8) hb w1 w2 (by omega) he (e1.symm.trans e2) (nm_r (nI_1 i) hq)))
end
end
section
/-! T13: a frame of headers ends, both sides -/
section
variable {k s y : Nat} {K : Nat → Nat} {R : Nat → Bool} {D : pm_D} {tx : Nat → Nat} {life life' mc nc nt nt' vc vo va sk rd cn ce ty ty' le go hi ha pr : Nat → Int32}
theorem cr_XD_nt (h : ∀ i, i < 16 → nt' (16 * s + i) = nt (16 * s + i)) (hn : pm_nn D ≤ 16) (H : cr_XD K s nc nt vc vo va D) : cr_XD K s nc nt' vc vo va D :=
  ⟨H.1, H.2.1, fun i hi => (h i (by omega)).trans (H.2.2.1 i hi), H.2.2.2⟩
theorem cr_m_nt (h : ∀ i, i < 16 → nt' (16 * s + i) = nt (16 * s + i)) (hty : ty' s = ty s) (hl : life' s = life s) (H : cr_m k K R s tx life mc nc nt vc vo va sk rd cn ce ty le go hi ha pr) : cr_m k K R s tx life' mc nc nt' vc vo va sk rd cn ce ty' le go hi ha pr := by
  obtain ⟨p, m, y, g1, g2, g3, g4, g5, g6, g7, g8, g9, g10, g11, g12⟩ := H
  have e0 : nt' (16 * s) = nt (16 * s) := h 0 (by omega)
  refine ⟨p, m, y, g1, g2, g3, g4, g5, g6, g7, by rw [hl]; exact g8, g9, by rw [hl, hty, e0]; exact g10, fun w => ?_, fun w w2 => ?_⟩
  · obtain ⟨L, l1, l2, l3, dep, c, d1, d2, d3, d4⟩ := g11 w
    exact ⟨L, l1, l2, l3, dep, c, d1, d2, cr_XD_nt h d2.1.2.1 d3, d4⟩
  · obtain ⟨L, t, l1, l2, l3, dep, c, h', f, q, d, w, i1, i2, i3, i4, i5, i6, i7⟩ := g12 w (hl.symm.trans w2)
    exact ⟨L, t, l1, l2, l3, dep, c, h', f, q, d, w, i1, i2, i3, i4, cr_XD_nt h (cr_D_le i2 i3).1 i5, i6, i7⟩
/-- a stream begins -/
theorem eh_M1 (hs : s < 8) (hy : y < 4) (hl : life s = 0) (H : cr_M k K R tx life mc nc nt vc vo va sk rd cn ce ty le go hi ha pr) :
    cr_M k K R tx (upd life s 1) mc nc (upd nt (16 * s) (nI y)) vc vo va sk rd cn ce (upd ty s (nI y)) le go hi ha pr := by
  intro i i1 i8
  by_cases e : i = s
  · subst e
    obtain ⟨p, m, y', g1, g2, g3, g4, g5, g6, g7, g8, g9, g10, g11, g12⟩ := H i i1 i8
    obtain ⟨p0, m0⟩ := g8 hl
    subst p0
    subst m0
    have h0 : ha i = 0 := by rw [g7, if_neg (fun w => w.1 rfl)]
    exact ⟨0, 0, y, g1, g2, g3, g4, g5, hy, g7, fun w => ⟨rfl, rfl⟩, fun w => absurd w (by omega), fun _ => ⟨pk_us, pk_us⟩, fun w => absurd (h0.symm.trans w) (by decide), fun w => absurd w (by omega)⟩
  · exact cr_m_nt (fun j hj => pk_un (by omega)) (pk_un e) (pk_un e) (H i i1 i8)
theorem eh_M2 {x : Int32} (hs : s < 8) (hl : life s = 0) (H : cr_M k K R tx life mc nc nt vc vo va sk rd cn ce ty le go hi ha pr) :
    cr_M k K R tx (upd (upd life s x) s 2) mc nc nt vc vo va sk rd cn ce ty le go hi ha pr := by
  intro i i1 i8
  by_cases e : i = s
  · subst e
    obtain ⟨p, m, y', g1, g2, g3, g4, g5, g6, g7, g8, g9, g10, g11, g12⟩ := H i i1 i8
    obtain ⟨p0, m0⟩ := g8 hl
    subst p0
    subst m0
    have h0 : ha i = 0 := by rw [g7, if_neg (fun w => w.1 rfl)]
    exact ⟨0, 0, y', g1, g2, g3, g4, g5, g6, g7, fun w => ⟨rfl, rfl⟩, fun w => absurd w (by omega), fun w => w.elim (fun w => absurd (pk_us.symm.trans w) (by decide)) (fun w => absurd (h0.symm.trans w) (by decide)), fun w => absurd (h0.symm.trans w) (by decide), fun w => absurd w (by omega)⟩
  · exact cr_m_nt (fun j hj => rfl) rfl ((pk_un e).trans (pk_un e)) (H i i1 i8)
theorem cr_S_open {th ot we fi co : Nat → Int32} {wi wo ql : Nat → Nat} (h0 : 0 < s) (hl : life s = 0) (hS : cr_S life th ot we fi co wi wo ql) : cr_S (upd life s 1) th ot we fi co (pm_u wi s 60) (pm_u wo s 60) ql := by
  refine ⟨(pk_un (by omega)).trans hS.1, fun i hi => ?_⟩
  obtain ⟨s1, s2, s3, s4, s5, s6, s7, s8, s9, s10⟩ := hS.2 i hi
  by_cases e : i = s
  · subst e
    rw [pk_us, pm_us, pm_us]
    have hne : life i ≠ 2 := by rw [hl]; decide
    exact ⟨Or.inr (Or.inl rfl), s2, s3, s4, by omega, by omega, s7, fun _ => s8 hne, fun _ => s9 hne, s10⟩
  · rw [pk_un e, pm_un e, pm_un e]
    exact ⟨s1, s2, s3, s4, s5, s6, s7, s8, s9, s10⟩
end
section
variable {K : Nat → Nat} {R : Nat → Bool} {z : (Nat → Nat) × Nat} {fAt n so fl st h p m M l : Nat} {wi wo ql hc Q tx : Nat → Nat} {f_down f_typeSeen yf_payload yf_wants yf_name yf_first yf_counts yf_enters yf_nodes yf_values yf_skipped yf_pos yf_there yf_number yf_at : Int32} {a_payload a_life a_theyEnded a_weEnded a_finishing a_codes a_headers a_entries a_kinds a_repeats a_messageCount a_nodeCount a_nodeTypes a_valueCount a_valueOwners a_values a_skippedCount a_reader a_chainNode a_chainEnd a_nodeSize a_nodePlace ya_type ya_otherEnded ya_prefix ya_length ya_got ya_high ya_has ya_frame ya_payloads ya_table ya_nodeType ya_valueNode ya_valueNumber ya_value ya_from ya_limit ya_inside ya_sizes : Nat → Int32} {k : Nat}
theorem eh_both {post : SX → Prop} (hd : f_down = 0) (h1 : 1 ≤ st) (h8 : st < 8) (hn : n ≤ 63) (hfl : fl < 256) (hO : ou_I z) (hH : ∀ s, s < 8 → hc s ≤ 8) (hT : cr_T a_entries ya_table m M) (hfs : yf_first = -1) (hwn : yf_wants = 0) (f0 : ya_frame 0 = nI n)
    (hpl : ∀ i, i < n → ∃ b, b < 256 ∧ a_payload i = nI b ∧ ya_payloads i = nI b) (hS : cr_S a_life a_theyEnded ya_otherEnded a_weEnded a_finishing a_codes wi wo ql)
    (hM : cr_M k K R tx a_life a_messageCount a_nodeCount a_nodeTypes a_valueCount a_valueOwners a_values a_skippedCount a_reader a_chainNode a_chainEnd ya_type ya_length ya_got ya_high ya_has ya_prefix)
    (H : ∀ (σ : hd_Z) (wn dn' : Int32) (life' co' nt' ty' : Nat → Int32) (wi' wo' ql' : Nat → Nat) (z' : (Nat → Nat) × Nat), cr_T σ.2.2.2.2.2.2.2.2.1 σ.2.2.2.2.2.2.2.2.2 σ.1 σ.2.1 → (∀ i, i < 8 → σ.2.2.2.2.2.2.1 i ≤ 8) →
      cr_S life' a_theyEnded ya_otherEnded a_weEnded a_finishing co' wi' wo' ql' → ou_I z' → cr_M k K R tx life' a_messageCount a_nodeCount nt' a_valueCount a_valueOwners a_values a_skippedCount a_reader a_chainNode a_chainEnd ty' ya_length ya_got ya_high ya_has ya_prefix →
      (dn' = 0 ∨ dn' = 1) →
      (∀ (a : yr_Z) (t : Int32) (q : SY → Prop), (∀ (a : yr_Z) (t : Int32), q (dn', nI h, nI p, yf_payload, wn, σ.2.2.2.2.1, σ.2.2.2.1, yf_counts, σ.2.2.2.2.2.1, nI σ.2.1, nI σ.1, nI z'.2, nI (if l = 0 then 7 else l), a.1, a.2.1, a.2.2.1, a.2.2.2.1, t, a.2.2.2.2.1, a.2.2.2.2.2.1, a_kinds, a_repeats, life', co', an_f wi', an_f wo', ty', an_f σ.2.2.2.2.2.2.1, σ.2.2.2.2.2.2.2.1, an_f ql', ya_otherEnded, a_weEnded, a_finishing, an_g Q, ya_prefix, ya_length, ya_got, ya_high, a_messageCount, ya_has, an_g tx, ya_frame, ya_payloads, σ.2.2.2.2.2.2.2.2.2, an_g z'.1, a.2.2.2.2.2.2.1, a.2.2.2.2.2.2.2.1, a.2.2.2.2.2.2.2.2.1, a.2.2.2.2.2.2.2.2.2.1, a.2.2.2.2.2.2.2.2.2.2.1, a.2.2.2.2.2.2.2.2.2.2.2.1, a.2.2.2.2.2.2.2.2.2.2.2.2, ya_sizes)) → wpY_endHeaders q (f_down, nI h, nI p, yf_payload, yf_wants, yf_name, yf_first, yf_counts, yf_enters, nI M, nI m, nI z.2, nI (if l = 0 then 7 else l), a.1, a.2.1, a.2.2.1, a.2.2.2.1, t, a.2.2.2.2.1, a.2.2.2.2.2.1, a_kinds, a_repeats, a_life, a_codes, an_f wi, an_f wo, ya_type, an_f hc, a_headers, an_f ql, ya_otherEnded, a_weEnded, a_finishing, an_g Q, ya_prefix, ya_length, ya_got, ya_high, a_messageCount, ya_has, an_g tx, ya_frame, ya_payloads, ya_table, an_g z.1, a.2.2.2.2.2.2.1, a.2.2.2.2.2.2.2.1, a.2.2.2.2.2.2.2.2.1, a.2.2.2.2.2.2.2.2.2.1, a.2.2.2.2.2.2.2.2.2.2.1, a.2.2.2.2.2.2.2.2.2.2.2.1, a.2.2.2.2.2.2.2.2.2.2.2.2, ya_sizes) (nI st) (if fl % 2 = 0 then 0 else 1)) →
      post (nI fAt, nI n, nI so, nI fl, nI st, dn', nI σ.1, nI σ.2.1, σ.2.2.1, nI l, nI z'.2, a_payload, life', a_theyEnded, a_weEnded, a_finishing, co', an_f wi', an_f wo', σ.2.2.2.2.2.2.2.1, an_f σ.2.2.2.2.2.2.1, σ.2.2.2.2.2.2.2.2.1, a_kinds, a_repeats, a_messageCount, an_f tx, a_nodeCount, nt', a_valueCount, a_valueOwners, a_values, a_skippedCount, a_reader, a_chainNode, a_chainEnd, an_f Q, an_f ql', an_f z'.1, a_nodeSize, a_nodePlace)) :
    wpX_endHeaders post (nI fAt, nI n, nI so, nI fl, nI st, f_down, nI m, nI M, f_typeSeen, nI l, nI z.2, a_payload, a_life, a_theyEnded, a_weEnded, a_finishing, a_codes, an_f wi, an_f wo, a_headers, an_f hc, a_entries, a_kinds, a_repeats, a_messageCount, an_f tx, a_nodeCount, a_nodeTypes, a_valueCount, a_valueOwners, a_values, a_skippedCount, a_reader, a_chainNode, a_chainEnd, an_f Q, an_f ql, an_f z.1, a_nodeSize, a_nodePlace) := by
  obtain ⟨c1, c2⟩ := xr_c8 h8
  have eq : upd (an_f ql) st 0 = an_f (pm_u ql st 0) := an_fu ql st 0
  have hI : hd_I a_life st (m, M, -1, yf_first, yf_name, yf_enters, hc, a_headers, a_entries, ya_table) := ⟨hT, hH, fun _ => hfs.symm⟩
  obtain ⟨s1, s2, s3, s4, s5, s6, s7, s8, s9, s10⟩ := hS.2 st h8
  unfold wpX_endHeaders
  dsimp only
  unfold wpX_readHeaders
  refine ⟨n + 1, hd_loop (h := h) (p := p) (yf_payload := yf_payload) (yf_counts := yf_counts) (ya_type := ya_type) (ya_otherEnded := ya_otherEnded) (ya_prefix := ya_prefix) (ya_length := ya_length) (ya_got := ya_got) (ya_high := ya_high) (ya_has := ya_has) (ya_frame := ya_frame) (ya_payloads := ya_payloads) (ya_sizes := ya_sizes) hd h8 hn hO f0 hpl n n 0 0 (n + 1) (m, M, -1, yf_first, yf_name, yf_enters, hc, a_headers, a_entries, ya_table) (Nat.le_refl _) (by omega) (Nat.le_refl _) (by omega) hI (fun σ I' yy => ?_) (fun σ wn I' yy => ?_)⟩
  · have HY : ∀ (a : yr_Z) (t : Int32) (q : SY → Prop), wY_endHeaders_36 q (nI st) (if fl % 2 = 0 then 0 else 1) (f_down) (nI h) (nI p) yf_payload (0) (σ.2.2.2.2.1) (σ.2.2.2.1) yf_counts (σ.2.2.2.2.2.1) (nI σ.2.1) (nI σ.1) (nI z.2) (nI (if l = 0 then 7 else l)) (a.1) (a.2.1) (a.2.2.1) (a.2.2.2.1) (t) (a.2.2.2.2.1) (a.2.2.2.2.2.1) (a_kinds) (a_repeats) (a_life) (a_codes) (an_f wi) (an_f wo) ya_type (an_f σ.2.2.2.2.2.2.1) (σ.2.2.2.2.2.2.2.1) (an_f ql) ya_otherEnded (a_weEnded) (a_finishing) (an_g Q) ya_prefix ya_length ya_got ya_high (a_messageCount) ya_has (an_g tx) ya_frame ya_payloads (σ.2.2.2.2.2.2.2.2.2) (an_g z.1) (a.2.2.2.2.2.2.1) (a.2.2.2.2.2.2.2.1) (a.2.2.2.2.2.2.2.2.1) (a.2.2.2.2.2.2.2.2.2.1) (a.2.2.2.2.2.2.2.2.2.2.1) (a.2.2.2.2.2.2.2.2.2.2.2.1) (a.2.2.2.2.2.2.2.2.2.2.2.2) ya_sizes → wpY_endHeaders q (f_down, nI h, nI p, yf_payload, yf_wants, yf_name, yf_first, yf_counts, yf_enters, nI M, nI m, nI z.2, nI (if l = 0 then 7 else l), a.1, a.2.1, a.2.2.1, a.2.2.2.1, t, a.2.2.2.2.1, a.2.2.2.2.2.1, a_kinds, a_repeats, a_life, a_codes, an_f wi, an_f wo, ya_type, an_f hc, a_headers, an_f ql, ya_otherEnded, a_weEnded, a_finishing, an_g Q, ya_prefix, ya_length, ya_got, ya_high, a_messageCount, ya_has, an_g tx, ya_frame, ya_payloads, ya_table, an_g z.1, a.2.2.2.2.2.2.1, a.2.2.2.2.2.2.2.1, a.2.2.2.2.2.2.2.2.1, a.2.2.2.2.2.2.2.2.2.1, a.2.2.2.2.2.2.2.2.2.2.1, a.2.2.2.2.2.2.2.2.2.2.2.1, a.2.2.2.2.2.2.2.2.2.2.2.2, ya_sizes) (nI st) (if fl % 2 = 0 then 0 else 1) := by
      intro a t q hq
      unfold wpY_endHeaders
      refine ⟨n + 1, ?_⟩
      rw [hwn]
      exact yy a t q _ hq
    obtain ⟨iT, i8, its⟩ := I'
    have HS : a_life st ≠ 0 → (∀ (a : yr_Z) (t : Int32) (q : SY → Prop), q (f_down, nI h, nI p, yf_payload, 0, σ.2.2.2.2.1, σ.2.2.2.1, yf_counts, σ.2.2.2.2.2.1, nI σ.2.1, nI σ.1, nI z.2, nI (if l = 0 then 7 else l), a.1, a.2.1, a.2.2.1, a.2.2.2.1, t, a.2.2.2.2.1, a.2.2.2.2.2.1, a_kinds, a_repeats, a_life, a_codes, an_f wi, an_f wo, ya_type, an_f σ.2.2.2.2.2.2.1, σ.2.2.2.2.2.2.2.1, an_f ql, ya_otherEnded, a_weEnded, a_finishing, an_g Q, ya_prefix, ya_length, ya_got, ya_high, a_messageCount, ya_has, an_g tx, ya_frame, ya_payloads, σ.2.2.2.2.2.2.2.2.2, an_g z.1, a.2.2.2.2.2.2.1, a.2.2.2.2.2.2.2.1, a.2.2.2.2.2.2.2.2.1, a.2.2.2.2.2.2.2.2.2.1, a.2.2.2.2.2.2.2.2.2.2.1, a.2.2.2.2.2.2.2.2.2.2.2.1, a.2.2.2.2.2.2.2.2.2.2.2.2, ya_sizes) → wY_endHeaders_36 q (nI st) (if fl % 2 = 0 then 0 else 1) (f_down) (nI h) (nI p) yf_payload (0) (σ.2.2.2.2.1) (σ.2.2.2.1) yf_counts (σ.2.2.2.2.2.1) (nI σ.2.1) (nI σ.1) (nI z.2) (nI (if l = 0 then 7 else l)) (a.1) (a.2.1) (a.2.2.1) (a.2.2.2.1) (t) (a.2.2.2.2.1) (a.2.2.2.2.2.1) (a_kinds) (a_repeats) (a_life) (a_codes) (an_f wi) (an_f wo) ya_type (an_f σ.2.2.2.2.2.2.1) (σ.2.2.2.2.2.2.2.1) (an_f ql) ya_otherEnded (a_weEnded) (a_finishing) (an_g Q) ya_prefix ya_length ya_got ya_high (a_messageCount) ya_has (an_g tx) ya_frame ya_payloads (σ.2.2.2.2.2.2.2.2.2) (an_g z.1) (a.2.2.2.2.2.2.1) (a.2.2.2.2.2.2.2.1) (a.2.2.2.2.2.2.2.2.1) (a.2.2.2.2.2.2.2.2.2.1) (a.2.2.2.2.2.2.2.2.2.2.1) (a.2.2.2.2.2.2.2.2.2.2.2.1) (a.2.2.2.2.2.2.2.2.2.2.2.2) ya_sizes) → post (nI fAt, nI n, nI so, nI fl, nI st, f_down, nI σ.1, nI σ.2.1, σ.2.2.1, nI l, nI z.2, a_payload, a_life, a_theyEnded, a_weEnded, a_finishing, a_codes, an_f wi, an_f wo, σ.2.2.2.2.2.2.2.1, an_f σ.2.2.2.2.2.2.1, σ.2.2.2.2.2.2.2.2.1, a_kinds, a_repeats, a_messageCount, an_f tx, a_nodeCount, a_nodeTypes, a_valueCount, a_valueOwners, a_values, a_skippedCount, a_reader, a_chainNode, a_chainEnd, an_f Q, an_f ql, an_f z.1, a_nodeSize, a_nodePlace) := fun _ hy =>
      H σ 0 f_down a_life a_codes a_nodeTypes ya_type wi wo ql z iT i8 hS hO hM (Or.inl hd) (fun a t q hq => HY a t q (hy a t q (hq a t)))
    have HE : a_life st = 1 → ∀ c, c < 256 → (∀ (a : yr_Z) (t : Int32) (q : SY → Prop), wpY_error q (f_down, nI h, nI p, yf_payload, 0, σ.2.2.2.2.1, σ.2.2.2.1, yf_counts, σ.2.2.2.2.2.1, nI σ.2.1, nI σ.1, nI z.2, nI (if l = 0 then 7 else l), a.1, a.2.1, a.2.2.1, a.2.2.2.1, t, a.2.2.2.2.1, a.2.2.2.2.2.1, a_kinds, a_repeats, a_life, a_codes, an_f wi, an_f wo, ya_type, an_f σ.2.2.2.2.2.2.1, σ.2.2.2.2.2.2.2.1, an_f ql, ya_otherEnded, a_weEnded, a_finishing, an_g Q, ya_prefix, ya_length, ya_got, ya_high, a_messageCount, ya_has, an_g tx, ya_frame, ya_payloads, σ.2.2.2.2.2.2.2.2.2, an_g z.1, a.2.2.2.2.2.2.1, a.2.2.2.2.2.2.2.1, a.2.2.2.2.2.2.2.2.1, a.2.2.2.2.2.2.2.2.2.1, a.2.2.2.2.2.2.2.2.2.2.1, a.2.2.2.2.2.2.2.2.2.2.2.1, a.2.2.2.2.2.2.2.2.2.2.2.2, ya_sizes) (nI st) (nI c) → wY_endHeaders_36 q (nI st) (if fl % 2 = 0 then 0 else 1) (f_down) (nI h) (nI p) yf_payload (0) (σ.2.2.2.2.1) (σ.2.2.2.1) yf_counts (σ.2.2.2.2.2.1) (nI σ.2.1) (nI σ.1) (nI z.2) (nI (if l = 0 then 7 else l)) (a.1) (a.2.1) (a.2.2.1) (a.2.2.2.1) (t) (a.2.2.2.2.1) (a.2.2.2.2.2.1) (a_kinds) (a_repeats) (a_life) (a_codes) (an_f wi) (an_f wo) ya_type (an_f σ.2.2.2.2.2.2.1) (σ.2.2.2.2.2.2.2.1) (an_f ql) ya_otherEnded (a_weEnded) (a_finishing) (an_g Q) ya_prefix ya_length ya_got ya_high (a_messageCount) ya_has (an_g tx) ya_frame ya_payloads (σ.2.2.2.2.2.2.2.2.2) (an_g z.1) (a.2.2.2.2.2.2.1) (a.2.2.2.2.2.2.2.1) (a.2.2.2.2.2.2.2.2.1) (a.2.2.2.2.2.2.2.2.2.1) (a.2.2.2.2.2.2.2.2.2.2.1) (a.2.2.2.2.2.2.2.2.2.2.2.1) (a.2.2.2.2.2.2.2.2.2.2.2.2) ya_sizes) → wpX_failStream post (nI fAt, nI n, nI so, nI fl, nI st, f_down, nI σ.1, nI σ.2.1, σ.2.2.1, nI l, nI z.2, a_payload, a_life, a_theyEnded, a_weEnded, a_finishing, a_codes, an_f wi, an_f wo, σ.2.2.2.2.2.2.2.1, an_f σ.2.2.2.2.2.2.1, σ.2.2.2.2.2.2.2.2.1, a_kinds, a_repeats, a_messageCount, an_f tx, a_nodeCount, a_nodeTypes, a_valueCount, a_valueOwners, a_values, a_skippedCount, a_reader, a_chainNode, a_chainEnd, an_f Q, an_f ql, an_f z.1, a_nodeSize, a_nodePlace) (nI st) (nI c) := by
      intro hl c hc' hy
      have hl2 := cr_l2 (life := a_life) (s := st) (by rw [hl]; decide)
      refine xo_failS h8 hO.1 ?_
      rw [eq]
      refine H σ 0 f_down (upd a_life st 2) (upd a_codes st (nI c)) a_nodeTypes ya_type wi wo (pm_u ql st 0) (ou_L z [1, 2, 0, st, c]) iT i8 (cr_S_shut (by omega) hS) (td_z hO h8 hc') (fun i i1 i8 => cr_m_life (hl2 i) (hM i i1 i8)) (Or.inl hd) (fun a t q hq => HY a t q (hy a t q (yo_errS (by omega) h8 hO.1 ?_)))
      rw [eq]
      exact hq a t
    dsimp only
    rw [c2]
    refine br_f (by decide) ⟨c1, br_c (fun y0 => ?_) (fun y0 => ⟨c1, br_c (fun y1 => ?_) (fun y1 => ?_)⟩)⟩
    · -- a stream begins
      have hne : a_life st ≠ 2 := by rw [y0]; decide
      have etf := its hne
      have ew1 : upd (an_f wi) st 60 = an_f (pm_u wi st 60) := an_fu wi st 60
      have ew2 : upd (an_f wo) st 60 = an_f (pm_u wo st 60) := an_fu wo st 60
      have hSo := cr_S_open (show 0 < st by omega) y0 hS
      have HY2 : ∀ (a : yr_Z) (t : Int32) (q : SY → Prop), wpY_no (fun r => ((r = 0 → (vp_in (nI st) 8 ∧ ∀ ty', ty' = upd ya_type st σ.2.2.2.1 → q (f_down, nI h, nI p, yf_payload, 0, σ.2.2.2.2.1, σ.2.2.2.1, yf_counts, σ.2.2.2.2.2.1, nI σ.2.1, nI σ.1, nI z.2, nI (if l = 0 then 7 else l), a.1, a.2.1, a.2.2.1, a.2.2.2.1, t, a.2.2.2.2.1, a.2.2.2.2.2.1, a_kinds, a_repeats, upd a_life st 1, a_codes, an_f (pm_u wi st 60), an_f (pm_u wo st 60), ty', an_f σ.2.2.2.2.2.2.1, σ.2.2.2.2.2.2.2.1, an_f ql, ya_otherEnded, a_weEnded, a_finishing, an_g Q, ya_prefix, ya_length, ya_got, ya_high, a_messageCount, ya_has, an_g tx, ya_frame, ya_payloads, σ.2.2.2.2.2.2.2.2.2, an_g z.1, a.2.2.2.2.2.2.1, a.2.2.2.2.2.2.2.1, a.2.2.2.2.2.2.2.2.1, a.2.2.2.2.2.2.2.2.2.1, a.2.2.2.2.2.2.2.2.2.2.1, a.2.2.2.2.2.2.2.2.2.2.2.1, a.2.2.2.2.2.2.2.2.2.2.2.2, ya_sizes))) ∧ (¬ r = 0 → wpY_error (fun u => match u with | (yf_down, yf_heads, yf_paid, yf_payload, yf_wants, yf_name, yf_first, yf_counts, yf_enters, yf_most, yf_many, yf_sent, yf_last, yf_nodes, yf_values, yf_skipped, yf_pos, yf_there, yf_number, yf_at, ya_kind, ya_repeated, ya_how, ya_code, ya_coming, ya_going, ya_type, ya_headers, ya_header, ya_queued, ya_otherEnded, ya_ended, ya_finishing, ya_queue, ya_prefix, ya_length, ya_got, ya_high, ya_whole, ya_has, ya_bytes, ya_frame, ya_payloads, ya_table, ya_out, ya_nodeType, ya_valueNode, ya_valueNumber, ya_value, ya_from, ya_limit, ya_inside, ya_sizes) => q (yf_down, yf_heads, yf_paid, yf_payload, yf_wants, yf_name, yf_first, yf_counts, yf_enters, yf_most, yf_many, yf_sent, yf_last, yf_nodes, yf_values, yf_skipped, yf_pos, yf_there, yf_number, yf_at, ya_kind, ya_repeated, ya_how, ya_code, ya_coming, ya_going, ya_type, ya_headers, ya_header, ya_queued, ya_otherEnded, ya_ended, ya_finishing, ya_queue, ya_prefix, ya_length, ya_got, ya_high, ya_whole, ya_has, ya_bytes, ya_frame, ya_payloads, ya_table, ya_out, ya_nodeType, ya_valueNode, ya_valueNumber, ya_value, ya_from, ya_limit, ya_inside, ya_sizes)) (f_down, nI h, nI p, yf_payload, 0, σ.2.2.2.2.1, σ.2.2.2.1, yf_counts, σ.2.2.2.2.2.1, nI σ.2.1, nI σ.1, nI z.2, nI (if l = 0 then 7 else l), a.1, a.2.1, a.2.2.1, a.2.2.2.1, t, a.2.2.2.2.1, a.2.2.2.2.2.1, a_kinds, a_repeats, upd a_life st 1, a_codes, an_f (pm_u wi st 60), an_f (pm_u wo st 60), ya_type, an_f σ.2.2.2.2.2.2.1, σ.2.2.2.2.2.2.2.1, an_f ql, ya_otherEnded, a_weEnded, a_finishing, an_g Q, ya_prefix, ya_length, ya_got, ya_high, a_messageCount, ya_has, an_g tx, ya_frame, ya_payloads, σ.2.2.2.2.2.2.2.2.2, an_g z.1, a.2.2.2.2.2.2.1, a.2.2.2.2.2.2.2.1, a.2.2.2.2.2.2.2.2.1, a.2.2.2.2.2.2.2.2.2.1, a.2.2.2.2.2.2.2.2.2.2.1, a.2.2.2.2.2.2.2.2.2.2.2.1, a.2.2.2.2.2.2.2.2.2.2.2.2, ya_sizes) (nI st) 6))) σ.2.2.2.1 0 3 →
          wpY_endHeaders q (f_down, nI h, nI p, yf_payload, yf_wants, yf_name, yf_first, yf_counts, yf_enters, nI M, nI m, nI z.2, nI (if l = 0 then 7 else l), a.1, a.2.1, a.2.2.1, a.2.2.2.1, t, a.2.2.2.2.1, a.2.2.2.2.2.1, a_kinds, a_repeats, a_life, a_codes, an_f wi, an_f wo, ya_type, an_f hc, a_headers, an_f ql, ya_otherEnded, a_weEnded, a_finishing, an_g Q, ya_prefix, ya_length, ya_got, ya_high, a_messageCount, ya_has, an_g tx, ya_frame, ya_payloads, ya_table, an_g z.1, a.2.2.2.2.2.2.1, a.2.2.2.2.2.2.2.1, a.2.2.2.2.2.2.2.2.1, a.2.2.2.2.2.2.2.2.2.1, a.2.2.2.2.2.2.2.2.2.2.1, a.2.2.2.2.2.2.2.2.2.2.2.1, a.2.2.2.2.2.2.2.2.2.2.2.2, ya_sizes) (nI st) (if fl % 2 = 0 then 0 else 1) := by
        intro a t q hq
        refine HY a t q ?_
        unfold wY_endHeaders_36
        rw [c2]
        exact br_t hd (br_t (by decide) ⟨c1, br_t y0 ⟨c1, nm_e ⟨c1, nm_r ew1 ⟨c1, nm_r ew2 hq⟩⟩⟩⟩)
      have H6 : (σ.2.2.2.1 < 0 ∨ (¬ σ.2.2.2.1 < 0 ∧ ¬ σ.2.2.2.1 ≤ 3)) → wX_endHeaders_55 post (nI st) 6 (nI fAt) (nI n) (nI so) (nI fl) (nI st) f_down (nI σ.1) (nI σ.2.1) (σ.2.2.1) (nI l) (nI z.2) a_payload (upd a_life st 1) a_theyEnded a_weEnded a_finishing a_codes (an_f (pm_u wi st 60)) (an_f (pm_u wo st 60)) (σ.2.2.2.2.2.2.2.1) (an_f σ.2.2.2.2.2.2.1) (σ.2.2.2.2.2.2.2.2.1) a_kinds a_repeats a_messageCount (an_f tx) a_nodeCount a_nodeTypes a_valueCount a_valueOwners a_values a_skippedCount a_reader a_chainNode a_chainEnd (an_f Q) (an_f ql) (an_f z.1) a_nodeSize a_nodePlace := by
        intro hbad
        unfold wX_endHeaders_55
        refine br_f (by decide) (xo_failS (c := 6) h8 hO.1 ?_)
        rw [eq]
        refine H σ 0 f_down (upd (upd a_life st 1) st 2) (upd a_codes st (nI 6)) a_nodeTypes ya_type (pm_u wi st 60) (pm_u wo st 60) (pm_u ql st 0) (ou_L z [1, 2, 0, st, 6]) iT i8 (cr_S_shut (by omega) hSo) (td_z hO h8 (by omega)) (eh_M2 h8 y0 hM) (Or.inl hd) (fun a t q hq => HY2 a t q ?_)
        have hY : wpY_error q (f_down, nI h, nI p, yf_payload, 0, σ.2.2.2.2.1, σ.2.2.2.1, yf_counts, σ.2.2.2.2.2.1, nI σ.2.1, nI σ.1, nI z.2, nI (if l = 0 then 7 else l), a.1, a.2.1, a.2.2.1, a.2.2.2.1, t, a.2.2.2.2.1, a.2.2.2.2.2.1, a_kinds, a_repeats, upd a_life st 1, a_codes, an_f (pm_u wi st 60), an_f (pm_u wo st 60), ya_type, an_f σ.2.2.2.2.2.2.1, σ.2.2.2.2.2.2.2.1, an_f ql, ya_otherEnded, a_weEnded, a_finishing, an_g Q, ya_prefix, ya_length, ya_got, ya_high, a_messageCount, ya_has, an_g tx, ya_frame, ya_payloads, σ.2.2.2.2.2.2.2.2.2, an_g z.1, a.2.2.2.2.2.2.1, a.2.2.2.2.2.2.2.1, a.2.2.2.2.2.2.2.2.1, a.2.2.2.2.2.2.2.2.2.1, a.2.2.2.2.2.2.2.2.2.2.1, a.2.2.2.2.2.2.2.2.2.2.2.1, a.2.2.2.2.2.2.2.2.2.2.2.2, ya_sizes) (nI st) 6 := by
          refine yo_errS (c := 6) (by omega) h8 hO.1 ?_
          rw [eq]
          exact hq a t
        rcases hbad with w | ⟨w1, w2⟩
        · exact yn_lo w (br_f (by decide) hY)
        · exact yn_hi w1 w2 (br_f (by decide) hY)
      unfold wpX_openStream
      dsimp only
      rw [c2]
      refine ⟨c1, nm_e ⟨c1, nm_r ew1 ⟨c1, nm_r ew2 (br_c (fun w => H6 (Or.inl (etf ▸ w))) (fun w => br_c (fun w4 => ?_) (fun w4 => H6 (Or.inr ⟨etf ▸ w, ?_⟩))))⟩⟩⟩
      · have hle3 : σ.2.2.1 ≤ 3 := by
          rw [Int32.le_iff_toInt_le]
          rw [Int32.lt_iff_toInt_lt] at w4
          have e4 : (4 : Int32).toInt = 4 := by decide
          have e3 : (3 : Int32).toInt = 3 := by decide
          omega
        obtain ⟨y, hy3, ey⟩ : ∃ y, y ≤ 3 ∧ σ.2.2.1 = nI y := nI_of2 (M := 3) (n := 3) (by decide) w hle3
        have e16 : nI st * 16 = nI (16 * st) := by rw [show (16 : Int32) = nI 16 from rfl, pk_mul, Nat.mul_comm]
        rw [e16, ey]
        refine ⟨vp_in_nI (by omega) (by omega), nm_r (e' := upd a_nodeTypes (16 * st) (nI y)) (by rw [nI_clamp (by omega)]) ?_⟩
        unfold wX_endHeaders_55
        refine br_t rfl ?_
        have hfin := H σ 0 f_down (upd a_life st 1) a_codes (upd a_nodeTypes (16 * st) (nI y)) (upd ya_type st (nI y)) (pm_u wi st 60) (pm_u wo st 60) ql z iT i8 hSo hO (eh_M1 h8 (by omega) y0 hM) (Or.inl hd) (fun a t q hq => HY2 a t q ?_)
        · rw [ey] at hfin
          exact hfin
        · have efy : σ.2.2.2.1 = nI y := etf.symm.trans ey
          refine yn_in (etf ▸ w) ?_ (br_t rfl ⟨c1, nm_r (e' := upd ya_type st (nI y)) (by rw [efy]) (hq a t)⟩)
          rw [efy]
          exact nI_le (by omega) (by decide)
      · rw [← etf]
        intro w3
        refine w4 ?_
        rw [Int32.le_iff_toInt_le] at w3
        rw [Int32.lt_iff_toInt_lt]
        have e4 : (4 : Int32).toInt = 4 := by decide
        have e3 : (3 : Int32).toInt = 3 := by decide
        omega
    · -- trailers
      have hne2 : a_life st ≠ 2 := by rw [y1]; decide
      have hot : ya_otherEnded st = a_theyEnded st := s8 hne2
      have HYt : ∀ (a : yr_Z) (t : Int32) (q : SY → Prop), ((a_theyEnded st = 0 → ((if fl % 2 = 0 then (0 : Int32) else 1) = 0 → wpY_error q (f_down, nI h, nI p, yf_payload, 0, σ.2.2.2.2.1, σ.2.2.2.1, yf_counts, σ.2.2.2.2.2.1, nI σ.2.1, nI σ.1, nI z.2, nI (if l = 0 then 7 else l), a.1, a.2.1, a.2.2.1, a.2.2.2.1, t, a.2.2.2.2.1, a.2.2.2.2.2.1, a_kinds, a_repeats, a_life, a_codes, an_f wi, an_f wo, ya_type, an_f σ.2.2.2.2.2.2.1, σ.2.2.2.2.2.2.2.1, an_f ql, ya_otherEnded, a_weEnded, a_finishing, an_g Q, ya_prefix, ya_length, ya_got, ya_high, a_messageCount, ya_has, an_g tx, ya_frame, ya_payloads, σ.2.2.2.2.2.2.2.2.2, an_g z.1, a.2.2.2.2.2.2.1, a.2.2.2.2.2.2.2.1, a.2.2.2.2.2.2.2.2.1, a.2.2.2.2.2.2.2.2.2.1, a.2.2.2.2.2.2.2.2.2.2.1, a.2.2.2.2.2.2.2.2.2.2.2.1, a.2.2.2.2.2.2.2.2.2.2.2.2, ya_sizes) (nI st) (nI 2)) ∧ (¬ (if fl % 2 = 0 then (0 : Int32) else 1) = 0 → q (f_down, nI h, nI p, yf_payload, 0, σ.2.2.2.2.1, σ.2.2.2.1, yf_counts, σ.2.2.2.2.2.1, nI σ.2.1, nI σ.1, nI z.2, nI (if l = 0 then 7 else l), a.1, a.2.1, a.2.2.1, a.2.2.2.1, t, a.2.2.2.2.1, a.2.2.2.2.2.1, a_kinds, a_repeats, a_life, a_codes, an_f wi, an_f wo, ya_type, an_f σ.2.2.2.2.2.2.1, σ.2.2.2.2.2.2.2.1, an_f ql, ya_otherEnded, a_weEnded, a_finishing, an_g Q, ya_prefix, ya_length, ya_got, ya_high, a_messageCount, ya_has, an_g tx, ya_frame, ya_payloads, σ.2.2.2.2.2.2.2.2.2, an_g z.1, a.2.2.2.2.2.2.1, a.2.2.2.2.2.2.2.1, a.2.2.2.2.2.2.2.2.1, a.2.2.2.2.2.2.2.2.2.1, a.2.2.2.2.2.2.2.2.2.2.1, a.2.2.2.2.2.2.2.2.2.2.2.1, a.2.2.2.2.2.2.2.2.2.2.2.2, ya_sizes))) ∧ (¬ a_theyEnded st = 0 → wpY_error q (f_down, nI h, nI p, yf_payload, 0, σ.2.2.2.2.1, σ.2.2.2.1, yf_counts, σ.2.2.2.2.2.1, nI σ.2.1, nI σ.1, nI z.2, nI (if l = 0 then 7 else l), a.1, a.2.1, a.2.2.1, a.2.2.2.1, t, a.2.2.2.2.1, a.2.2.2.2.2.1, a_kinds, a_repeats, a_life, a_codes, an_f wi, an_f wo, ya_type, an_f σ.2.2.2.2.2.2.1, σ.2.2.2.2.2.2.2.1, an_f ql, ya_otherEnded, a_weEnded, a_finishing, an_g Q, ya_prefix, ya_length, ya_got, ya_high, a_messageCount, ya_has, an_g tx, ya_frame, ya_payloads, σ.2.2.2.2.2.2.2.2.2, an_g z.1, a.2.2.2.2.2.2.1, a.2.2.2.2.2.2.2.1, a.2.2.2.2.2.2.2.2.1, a.2.2.2.2.2.2.2.2.2.1, a.2.2.2.2.2.2.2.2.2.2.1, a.2.2.2.2.2.2.2.2.2.2.2.1, a.2.2.2.2.2.2.2.2.2.2.2.2, ya_sizes) (nI st) (nI 5))) →
          wY_endHeaders_36 q (nI st) (if fl % 2 = 0 then 0 else 1) (f_down) (nI h) (nI p) yf_payload (0) (σ.2.2.2.2.1) (σ.2.2.2.1) yf_counts (σ.2.2.2.2.2.1) (nI σ.2.1) (nI σ.1) (nI z.2) (nI (if l = 0 then 7 else l)) (a.1) (a.2.1) (a.2.2.1) (a.2.2.2.1) (t) (a.2.2.2.2.1) (a.2.2.2.2.2.1) (a_kinds) (a_repeats) (a_life) (a_codes) (an_f wi) (an_f wo) ya_type (an_f σ.2.2.2.2.2.2.1) (σ.2.2.2.2.2.2.2.1) (an_f ql) ya_otherEnded (a_weEnded) (a_finishing) (an_g Q) ya_prefix ya_length ya_got ya_high (a_messageCount) ya_has (an_g tx) ya_frame ya_payloads (σ.2.2.2.2.2.2.2.2.2) (an_g z.1) (a.2.2.2.2.2.2.1) (a.2.2.2.2.2.2.2.1) (a.2.2.2.2.2.2.2.2.1) (a.2.2.2.2.2.2.2.2.2.1) (a.2.2.2.2.2.2.2.2.2.2.1) (a.2.2.2.2.2.2.2.2.2.2.2.1) (a.2.2.2.2.2.2.2.2.2.2.2.2) ya_sizes := by
        intro a t q hq
        unfold wY_endHeaders_36
        rw [c2, hot]
        exact br_t hd (br_t (by decide) ⟨c1, br_f y0 ⟨c1, br_t y1 ⟨c1, hq⟩⟩⟩)
      unfold wpX_trailerFault
      dsimp only
      rw [c2, fl_1 hfl]
      refine ⟨c1, br_c (fun w0 => pk_eq (fl % 2) 0 (fun w2 => ?_) (fun w2 => ?_)) (fun w0 => ?_)⟩
      · unfold wX_endHeaders_55
        refine br_f (by decide) (HE y1 2 (by omega) (fun a t q hq => HYt a t q (br_t w0 (br_t ?_ hq))))
        rw [if_pos w2]
      · unfold wX_endHeaders_55
        refine br_t rfl (HS y0 (fun a t q hq => HYt a t q (br_t w0 (br_f ?_ hq))))
        rw [if_neg w2]
        decide
      · unfold wX_endHeaders_55
        exact br_f (by decide) (HE y1 5 (by omega) (fun a t q hq => HYt a t q (br_f w0 hq)))
    · unfold wX_endHeaders_55
      refine br_t rfl (HS y0 (fun a t q hq => ?_))
      unfold wY_endHeaders_36
      rw [c2]
      exact br_t hd (br_t (by decide) ⟨c1, br_f y0 ⟨c1, br_f y1 hq⟩⟩)
  · dsimp only
    refine br_t rfl (xo_failC (c := 4) hO.1 ?_)
    refine H σ wn 1 a_life (upd a_codes 0 (nI 4)) a_nodeTypes ya_type wi wo ql (ou_L z [1, 5, 0, 0, 4]) I'.1 I'.2.1 (cr_S_c0 hS) (bf_z hO (by omega)) hM (Or.inr rfl) (fun a t q hq => ?_)
    unfold wpY_endHeaders
    refine ⟨n + 1, ?_⟩
    rw [hwn]
    exact yy a t q _ (hq a t)
end
end
section
/-! T14: a frame ends, both sides -/
section
def fd_C (k : Nat) : cr_G → Prop
  | ((K, R, z), (fAt, n, so, fl, st, h, p, m, M, l), (wi, wo, ql, hc, Q, tx), (f_down, f_typeSeen, yf_payload, yf_wants, yf_name, yf_first, yf_counts, yf_enters, yf_nodes, yf_values, yf_skipped, yf_pos, yf_there, yf_number, yf_at), (a_payload, a_life, a_theyEnded, a_weEnded, a_finishing, a_codes, a_headers, a_entries, a_kinds, a_repeats, a_messageCount), (a_nodeCount, a_nodeTypes, a_valueCount, a_valueOwners, a_values, a_skippedCount, a_reader, a_chainNode, a_chainEnd, a_nodeSize, a_nodePlace), (ya_type, ya_otherEnded, ya_prefix, ya_length, ya_got, ya_high, ya_has, ya_frame, ya_payloads), (ya_table, ya_nodeType, ya_valueNode, ya_valueNumber, ya_value, ya_from, ya_limit, ya_inside, ya_sizes)) =>
    (f_down = 0 ∨ f_down = 1) ∧ l ≤ 7 ∧ (∀ s, s < 8 → hc s ≤ 8) ∧ ou_I z ∧ cr_B Q ∧ cr_B tx ∧
    cr_S a_life a_theyEnded ya_otherEnded a_weEnded a_finishing a_codes wi wo ql ∧ cr_T a_entries ya_table m M ∧ cr_K a_kinds a_repeats K R ∧
    cr_M k K R tx a_life a_messageCount a_nodeCount a_nodeTypes a_valueCount a_valueOwners a_values a_skippedCount a_reader a_chainNode a_chainEnd ya_type ya_length ya_got ya_high ya_has ya_prefix
def fd_F : cr_G → Prop
  | ((K, R, z), (fAt, n, so, fl, st, h, p, m, M, l), (wi, wo, ql, hc, Q, tx), (f_down, f_typeSeen, yf_payload, yf_wants, yf_name, yf_first, yf_counts, yf_enters, yf_nodes, yf_values, yf_skipped, yf_pos, yf_there, yf_number, yf_at), (a_payload, a_life, a_theyEnded, a_weEnded, a_finishing, a_codes, a_headers, a_entries, a_kinds, a_repeats, a_messageCount), (a_nodeCount, a_nodeTypes, a_valueCount, a_valueOwners, a_values, a_skippedCount, a_reader, a_chainNode, a_chainEnd, a_nodeSize, a_nodePlace), (ya_type, ya_otherEnded, ya_prefix, ya_length, ya_got, ya_high, ya_has, ya_frame, ya_payloads), (ya_table, ya_nodeType, ya_valueNode, ya_valueNumber, ya_value, ya_from, ya_limit, ya_inside, ya_sizes)) => f_down = 0 → cr_F a_life ya_frame a_payload ya_payloads fAt n so fl st h p yf_counts yf_wants yf_first
def fd_Y : cr_G → SY → Prop
  | ((K, R, z), (fAt, n, so, fl, st, h, p, m, M, l), (wi, wo, ql, hc, Q, tx), (f_down, f_typeSeen, yf_payload, yf_wants, yf_name, yf_first, yf_counts, yf_enters, yf_nodes, yf_values, yf_skipped, yf_pos, yf_there, yf_number, yf_at), (a_payload, a_life, a_theyEnded, a_weEnded, a_finishing, a_codes, a_headers, a_entries, a_kinds, a_repeats, a_messageCount), (a_nodeCount, a_nodeTypes, a_valueCount, a_valueOwners, a_values, a_skippedCount, a_reader, a_chainNode, a_chainEnd, a_nodeSize, a_nodePlace), (ya_type, ya_otherEnded, ya_prefix, ya_length, ya_got, ya_high, ya_has, ya_frame, ya_payloads), (ya_table, ya_nodeType, ya_valueNode, ya_valueNumber, ya_value, ya_from, ya_limit, ya_inside, ya_sizes)) => fun v => ∃ (a : yr_Z) (t : Int32), v = (f_down, nI h, nI p, yf_payload, yf_wants, yf_name, yf_first, yf_counts, yf_enters, nI M, nI m, nI z.2, nI (if l = 0 then 7 else l), a.1, a.2.1, a.2.2.1, a.2.2.2.1, t, a.2.2.2.2.1, a.2.2.2.2.2.1, a_kinds, a_repeats, a_life, a_codes, an_f wi, an_f wo, ya_type, an_f hc, a_headers, an_f ql, ya_otherEnded, a_weEnded, a_finishing, an_g Q, ya_prefix, ya_length, ya_got, ya_high, a_messageCount, ya_has, an_g tx, ya_frame, ya_payloads, ya_table, an_g z.1, a.2.2.2.2.2.2.1, a.2.2.2.2.2.2.2.1, a.2.2.2.2.2.2.2.2.1, a.2.2.2.2.2.2.2.2.2.1, a.2.2.2.2.2.2.2.2.2.2.1, a.2.2.2.2.2.2.2.2.2.2.2.1, a.2.2.2.2.2.2.2.2.2.2.2.2, ya_sizes)
def fd_J (J : Int32 → Int32 → Int32 → Int32 → Int32 → Int32 → Int32 → Int32 → Int32 → Int32 → Int32 → Int32 → Int32 → (Nat → Int32) → (Nat → Int32) → (Nat → Int32) → (Nat → Int32) → (Nat → Int32) → (Nat → Int32) → (Nat → Int32) → (Nat → Int32) → (Nat → Int32) → (Nat → Int32) → (Nat → Int32) → (Nat → Int32) → (Nat → Int32) → (Nat → Int32) → (Nat → Int32) → (Nat → Int32) → (Nat → Int32) → (Nat → Int32) → (Nat → Int32) → (Nat → Int32) → (Nat → Int32) → (Nat → Int32) → (Nat → Int32) → (Nat → Int32) → (Nat → Int32) → (Nat → Int32) → (Nat → Int32) → (Nat → Int32) → (Nat → Int32) → Prop) (x y : Int32) : SX → Prop
  | (f_frameAt, f_frameLength, f_frameSort, f_frameFlags, f_frameStream, f_down, f_entryCount, f_most, f_typeSeen, f_lastSender, f_sentLength, a_payload, a_life, a_theyEnded, a_weEnded, a_finishing, a_codes, a_windowIn, a_windowOut, a_headers, a_headerCount, a_entries, a_kinds, a_repeats, a_messageCount, a_text, a_nodeCount, a_nodeTypes, a_valueCount, a_valueOwners, a_values, a_skippedCount, a_reader, a_chainNode, a_chainEnd, a_queue, a_queueLength, a_sent, a_nodeSize, a_nodePlace) => J x y f_frameAt f_frameLength f_frameSort f_frameFlags f_frameStream f_down f_entryCount f_most f_typeSeen f_lastSender f_sentLength a_payload a_life a_theyEnded a_weEnded a_finishing a_codes a_windowIn a_windowOut a_headers a_headerCount a_entries a_kinds a_repeats a_messageCount a_text a_nodeCount a_nodeTypes a_valueCount a_valueOwners a_values a_skippedCount a_reader a_chainNode a_chainEnd a_queue a_queueLength a_sent a_nodeSize a_nodePlace
theorem yt_end {yf_down yf_heads yf_paid yf_payload yf_wants yf_name yf_first yf_counts yf_enters yf_most yf_many yf_sent yf_last yf_nodes yf_values yf_skipped yf_pos yf_there yf_number yf_at : Int32} {ya_kind ya_repeated ya_how ya_code ya_coming ya_going ya_type ya_headers ya_header ya_queued ya_otherEnded ya_ended ya_finishing ya_queue ya_prefix ya_length ya_got ya_high ya_whole ya_has ya_bytes ya_frame ya_payloads ya_table ya_out ya_nodeType ya_valueNode ya_valueNumber ya_value ya_from ya_limit ya_inside ya_sizes : Nat → Int32} {n p : Nat} {q : Int32 → SY → Prop} (hd : yf_down = 0) (f0 : ya_frame 0 = nI n) (hp : n ≤ p) (hp2 : p < 2 ^ 31) (C0 : yf_counts = 0 → q 1 (yf_down, nI 0, nI p, yf_payload, yf_wants, yf_name, yf_first, yf_counts, yf_enters, yf_most, yf_many, yf_sent, yf_last, yf_nodes, yf_values, yf_skipped, yf_pos, yf_there, yf_number, yf_at, ya_kind, ya_repeated, ya_how, ya_code, ya_coming, ya_going, ya_type, ya_headers, ya_header, ya_queued, ya_otherEnded, ya_ended, ya_finishing, ya_queue, ya_prefix, ya_length, ya_got, ya_high, ya_whole, ya_has, ya_bytes, ya_frame, ya_payloads, ya_table, ya_out, ya_nodeType, ya_valueNode, ya_valueNumber, ya_value, ya_from, ya_limit, ya_inside, ya_sizes))
    (C1 : ¬ yf_counts = 0 → wpY_end (fun u => match u with | (yf_down, yf_heads, yf_paid, yf_payload, yf_wants, yf_name, yf_first, yf_counts, yf_enters, yf_most, yf_many, yf_sent, yf_last, yf_nodes, yf_values, yf_skipped, yf_pos, yf_there, yf_number, yf_at, ya_kind, ya_repeated, ya_how, ya_code, ya_coming, ya_going, ya_type, ya_headers, ya_header, ya_queued, ya_otherEnded, ya_ended, ya_finishing, ya_queue, ya_prefix, ya_length, ya_got, ya_high, ya_whole, ya_has, ya_bytes, ya_frame, ya_payloads, ya_table, ya_out, ya_nodeType, ya_valueNode, ya_valueNumber, ya_value, ya_from, ya_limit, ya_inside, ya_sizes) => q 1 (yf_down, yf_heads, yf_paid, yf_payload, yf_wants, yf_name, yf_first, yf_counts, yf_enters, yf_most, yf_many, yf_sent, yf_last, yf_nodes, yf_values, yf_skipped, yf_pos, yf_there, yf_number, yf_at, ya_kind, ya_repeated, ya_how, ya_code, ya_coming, ya_going, ya_type, ya_headers, ya_header, ya_queued, ya_otherEnded, ya_ended, ya_finishing, ya_queue, ya_prefix, ya_length, ya_got, ya_high, ya_whole, ya_has, ya_bytes, ya_frame, ya_payloads, ya_table, ya_out, ya_nodeType, ya_valueNode, ya_valueNumber, ya_value, ya_from, ya_limit, ya_inside, ya_sizes)) (yf_down, nI 0, nI p, yf_payload, yf_wants, yf_name, yf_first, yf_counts, yf_enters, yf_most, yf_many, yf_sent, yf_last, yf_nodes, yf_values, yf_skipped, yf_pos, yf_there, yf_number, yf_at, ya_kind, ya_repeated, ya_how, ya_code, ya_coming, ya_going, ya_type, ya_headers, ya_header, ya_queued, ya_otherEnded, ya_ended, ya_finishing, ya_queue, ya_prefix, ya_length, ya_got, ya_high, ya_whole, ya_has, ya_bytes, ya_frame, ya_payloads, ya_table, ya_out, ya_nodeType, ya_valueNode, ya_valueNumber, ya_value, ya_from, ya_limit, ya_inside, ya_sizes)) : wY_take_74 q yf_down yf_heads (nI p) yf_payload yf_wants yf_name yf_first yf_counts yf_enters yf_most yf_many yf_sent yf_last yf_nodes yf_values yf_skipped yf_pos yf_there yf_number yf_at ya_kind ya_repeated ya_how ya_code ya_coming ya_going ya_type ya_headers ya_header ya_queued ya_otherEnded ya_ended ya_finishing ya_queue ya_prefix ya_length ya_got ya_high ya_whole ya_has ya_bytes ya_frame ya_payloads ya_table ya_out ya_nodeType ya_valueNode ya_valueNumber ya_value ya_from ya_limit ya_inside ya_sizes := by
  unfold wY_take_74
  rw [f0]
  exact br_t hd (pk_le n p (fun _ => br_c (fun y => C0 y) (fun y => C1 y)) (fun w => by omega))
theorem ye_0 {yf_down yf_heads yf_paid yf_payload yf_wants yf_name yf_first yf_counts yf_enters yf_most yf_many yf_sent yf_last yf_nodes yf_values yf_skipped yf_pos yf_there yf_number yf_at : Int32} {ya_kind ya_repeated ya_how ya_code ya_coming ya_going ya_type ya_headers ya_header ya_queued ya_otherEnded ya_ended ya_finishing ya_queue ya_prefix ya_length ya_got ya_high ya_whole ya_has ya_bytes ya_frame ya_payloads ya_table ya_out ya_nodeType ya_valueNode ya_valueNumber ya_value ya_from ya_limit ya_inside ya_sizes : Nat → Int32} {q : SY → Prop} {x1 x3 : Int32} (H : wY_end_164 q x1 (nI 0) x3 yf_down yf_heads yf_paid yf_payload yf_wants yf_name yf_first yf_counts yf_enters yf_most yf_many yf_sent yf_last yf_nodes yf_values yf_skipped yf_pos yf_there yf_number yf_at ya_kind ya_repeated ya_how ya_code ya_coming ya_going ya_type ya_headers ya_header ya_queued ya_otherEnded ya_ended ya_finishing ya_queue ya_prefix ya_length ya_got ya_high ya_whole ya_has ya_bytes ya_frame ya_payloads ya_table ya_out ya_nodeType ya_valueNode ya_valueNumber ya_value ya_from ya_limit ya_inside ya_sizes) : wY_end_30 q x1 (nI 0) x3 yf_down yf_heads yf_paid yf_payload yf_wants yf_name yf_first yf_counts yf_enters yf_most yf_many yf_sent yf_last yf_nodes yf_values yf_skipped yf_pos yf_there yf_number yf_at ya_kind ya_repeated ya_how ya_code ya_coming ya_going ya_type ya_headers ya_header ya_queued ya_otherEnded ya_ended ya_finishing ya_queue ya_prefix ya_length ya_got ya_high ya_whole ya_has ya_bytes ya_frame ya_payloads ya_table ya_out ya_nodeType ya_valueNode ya_valueNumber ya_value ya_from ya_limit ya_inside ya_sizes := by
  unfold wY_end_30
  refine br_f (by decide) ?_
  unfold wY_end_58
  refine br_f (by decide) ?_
  unfold wY_end_128
  refine br_f (by decide) ?_
  unfold wY_end_153
  exact br_f (by decide) H
theorem ye_1 {yf_down yf_heads yf_paid yf_payload yf_wants yf_name yf_first yf_counts yf_enters yf_most yf_many yf_sent yf_last yf_nodes yf_values yf_skipped yf_pos yf_there yf_number yf_at : Int32} {ya_kind ya_repeated ya_how ya_code ya_coming ya_going ya_type ya_headers ya_header ya_queued ya_otherEnded ya_ended ya_finishing ya_queue ya_prefix ya_length ya_got ya_high ya_whole ya_has ya_bytes ya_frame ya_payloads ya_table ya_out ya_nodeType ya_valueNode ya_valueNumber ya_value ya_from ya_limit ya_inside ya_sizes : Nat → Int32} {q : SY → Prop} {x1 x3 : Int32} (H : wpY_endHeaders (fun u => match u with | (yf_down, yf_heads, yf_paid, yf_payload, yf_wants, yf_name, yf_first, yf_counts, yf_enters, yf_most, yf_many, yf_sent, yf_last, yf_nodes, yf_values, yf_skipped, yf_pos, yf_there, yf_number, yf_at, ya_kind, ya_repeated, ya_how, ya_code, ya_coming, ya_going, ya_type, ya_headers, ya_header, ya_queued, ya_otherEnded, ya_ended, ya_finishing, ya_queue, ya_prefix, ya_length, ya_got, ya_high, ya_whole, ya_has, ya_bytes, ya_frame, ya_payloads, ya_table, ya_out, ya_nodeType, ya_valueNode, ya_valueNumber, ya_value, ya_from, ya_limit, ya_inside, ya_sizes) => wY_end_164 q x1 (nI 1) x3 yf_down yf_heads yf_paid yf_payload yf_wants yf_name yf_first yf_counts yf_enters yf_most yf_many yf_sent yf_last yf_nodes yf_values yf_skipped yf_pos yf_there yf_number yf_at ya_kind ya_repeated ya_how ya_code ya_coming ya_going ya_type ya_headers ya_header ya_queued ya_otherEnded ya_ended ya_finishing ya_queue ya_prefix ya_length ya_got ya_high ya_whole ya_has ya_bytes ya_frame ya_payloads ya_table ya_out ya_nodeType ya_valueNode ya_valueNumber ya_value ya_from ya_limit ya_inside ya_sizes) (yf_down, yf_heads, yf_paid, yf_payload, yf_wants, yf_name, yf_first, yf_counts, yf_enters, yf_most, yf_many, yf_sent, yf_last, yf_nodes, yf_values, yf_skipped, yf_pos, yf_there, yf_number, yf_at, ya_kind, ya_repeated, ya_how, ya_code, ya_coming, ya_going, ya_type, ya_headers, ya_header, ya_queued, ya_otherEnded, ya_ended, ya_finishing, ya_queue, ya_prefix, ya_length, ya_got, ya_high, ya_whole, ya_has, ya_bytes, ya_frame, ya_payloads, ya_table, ya_out, ya_nodeType, ya_valueNode, ya_valueNumber, ya_value, ya_from, ya_limit, ya_inside, ya_sizes) x1 x3) : wY_end_30 q x1 (nI 1) x3 yf_down yf_heads yf_paid yf_payload yf_wants yf_name yf_first yf_counts yf_enters yf_most yf_many yf_sent yf_last yf_nodes yf_values yf_skipped yf_pos yf_there yf_number yf_at ya_kind ya_repeated ya_how ya_code ya_coming ya_going ya_type ya_headers ya_header ya_queued ya_otherEnded ya_ended ya_finishing ya_queue ya_prefix ya_length ya_got ya_high ya_whole ya_has ya_bytes ya_frame ya_payloads ya_table ya_out ya_nodeType ya_valueNode ya_valueNumber ya_value ya_from ya_limit ya_inside ya_sizes := by
  unfold wY_end_30
  refine br_f (by decide) ?_
  unfold wY_end_58
  refine br_f (by decide) ?_
  unfold wY_end_128
  refine br_f (by decide) ?_
  unfold wY_end_153
  exact br_t rfl H
variable {K : Nat → Nat} {R : Nat → Bool} {z : (Nat → Nat) × Nat} {fAt n so fl st h p m M l : Nat} {wi wo ql hc Q tx : Nat → Nat} {f_down f_typeSeen yf_payload yf_wants yf_name yf_first yf_counts yf_enters yf_nodes yf_values yf_skipped yf_pos yf_there yf_number yf_at : Int32} {a_payload a_life a_theyEnded a_weEnded a_finishing a_codes a_headers a_entries a_kinds a_repeats a_messageCount a_nodeCount a_nodeTypes a_valueCount a_valueOwners a_values a_skippedCount a_reader a_chainNode a_chainEnd a_nodeSize a_nodePlace ya_type ya_otherEnded ya_prefix ya_length ya_got ya_high ya_has ya_frame ya_payloads ya_table ya_nodeType ya_valueNode ya_valueNumber ya_value ya_from ya_limit ya_inside ya_sizes : Nat → Int32} {k : Nat}
theorem fe_both {post : Int32 → SX → Prop} {J : Int32 → Int32 → Int32 → Int32 → Int32 → Int32 → Int32 → Int32 → Int32 → Int32 → Int32 → Int32 → Int32 → (Nat → Int32) → (Nat → Int32) → (Nat → Int32) → (Nat → Int32) → (Nat → Int32) → (Nat → Int32) → (Nat → Int32) → (Nat → Int32) → (Nat → Int32) → (Nat → Int32) → (Nat → Int32) → (Nat → Int32) → (Nat → Int32) → (Nat → Int32) → (Nat → Int32) → (Nat → Int32) → (Nat → Int32) → (Nat → Int32) → (Nat → Int32) → (Nat → Int32) → (Nat → Int32) → (Nat → Int32) → (Nat → Int32) → (Nat → Int32) → (Nat → Int32) → (Nat → Int32) → (Nat → Int32) → (Nat → Int32) → (Nat → Int32) → Prop} {x1 x2 x3 x4 : Int32} (hd : f_down = 0) (C : fd_C k ((K, R, z), (fAt, n, so, fl, st, h, p, m, M, l), (wi, wo, ql, hc, Q, tx), (f_down, f_typeSeen, yf_payload, yf_wants, yf_name, yf_first, yf_counts, yf_enters, yf_nodes, yf_values, yf_skipped, yf_pos, yf_there, yf_number, yf_at), (a_payload, a_life, a_theyEnded, a_weEnded, a_finishing, a_codes, a_headers, a_entries, a_kinds, a_repeats, a_messageCount), (a_nodeCount, a_nodeTypes, a_valueCount, a_valueOwners, a_values, a_skippedCount, a_reader, a_chainNode, a_chainEnd, a_nodeSize, a_nodePlace), (ya_type, ya_otherEnded, ya_prefix, ya_length, ya_got, ya_high, ya_has, ya_frame, ya_payloads), (ya_table, ya_nodeType, ya_valueNode, ya_valueNumber, ya_value, ya_from, ya_limit, ya_inside, ya_sizes))) (hn : n < 256) (hso : so < 256) (hfl : fl < 256) (hst : st < 256)
    (f0 : ya_frame 0 = nI n) (f1 : ya_frame 1 = nI so) (f2 : ya_frame 2 = nI fl) (f3 : ya_frame 3 = nI st) (hB : bf_K a_life n so st yf_counts) (hAt : fAt + 1 = 4 + n) (hp : p = n)
    (h1 : so = 1 → yf_wants = 0 ∧ yf_first = -1 ∧ ∀ i, i < n → ∃ b, b < 256 ∧ a_payload i = nI b ∧ ya_payloads i = nI b) (h24 : 2 ≤ so → so ≤ 4 → ∃ b, b < 256 ∧ a_payload 0 = nI b ∧ yf_payload = nI b)
    (H : ∀ g' : cr_G, fd_C k g' → fd_F g' → (∀ (a : yr_Z) (t : Int32) (q : Int32 → SY → Prop), (∀ v', fd_Y g' v' → q 1 v') → wY_take_74 q (f_down) (nI h) (nI p) yf_payload yf_wants yf_name yf_first yf_counts yf_enters (nI M) (nI m) (nI z.2) (nI (if l = 0 then 7 else l)) (a.1) (a.2.1) (a.2.2.1) (a.2.2.2.1) (t) (a.2.2.2.2.1) (a.2.2.2.2.2.1) (a_kinds) (a_repeats) (a_life) (a_codes) (an_f wi) (an_f wo) ya_type (an_f hc) (a_headers) (an_f ql) ya_otherEnded (a_weEnded) (a_finishing) (an_g Q) ya_prefix ya_length ya_got ya_high (a_messageCount) ya_has (an_g tx) ya_frame ya_payloads ya_table (an_g z.1) (a.2.2.2.2.2.2.1) (a.2.2.2.2.2.2.2.1) (a.2.2.2.2.2.2.2.2.1) (a.2.2.2.2.2.2.2.2.2.1) (a.2.2.2.2.2.2.2.2.2.2.1) (a.2.2.2.2.2.2.2.2.2.2.2.1) (a.2.2.2.2.2.2.2.2.2.2.2.2) ya_sizes) → fd_J J (x3 + 1) (x4 + 1) (cr_x g')) :
    wX_feed_89 post J x1 x2 x3 x4 (nI fAt) (nI n) (nI so) (nI fl) (nI st) f_down (nI m) (nI M) f_typeSeen (nI l) (nI z.2) a_payload a_life a_theyEnded a_weEnded a_finishing a_codes (an_f wi) (an_f wo) a_headers (an_f hc) a_entries a_kinds a_repeats a_messageCount (an_f tx) a_nodeCount a_nodeTypes a_valueCount a_valueOwners a_values a_skippedCount a_reader a_chainNode a_chainEnd (an_f Q) (an_f ql) (an_f z.1) a_nodeSize a_nodePlace := by
  obtain ⟨hD, hl, hH, hO, hQ, hX, hS, hT, hK, hM⟩ := C
  obtain ⟨k1, k2, k3, k4, k5, k6, k7, k8, k9, k10⟩ := hB
  have e4 : nI (fAt + 1) = 4 + nI n := by
    rw [show (4 : Int32) = nI 4 from rfl, nI_add]; exact congrArg nI hAt
  unfold wX_feed_89
  refine nm_r (nI_1 fAt) (br_t hd (br_t e4 ?_))
  have hc : so = 0 ∨ so = 1 ∨ (2 ≤ so ∧ so ≤ 4) ∨ 5 ≤ so := by omega
  rcases hc with e | e | ⟨e, e'⟩ | e
  · -- data
    subst e
    obtain ⟨a1, a2, a3⟩ := k3 rfl
    have h8 : st < 8 := by
      have := k2 (by omega)
      omega
    unfold wpX_endFrame
    refine br_t (by decide) (et_both (fAt := fAt + 1) (h := 0) (p := p) (yf_payload := yf_payload) (yf_wants := yf_wants) (yf_name := yf_name) (yf_first := yf_first) (yf_counts := yf_counts) (yf_enters := yf_enters) (ya_frame := ya_frame) (ya_payloads := ya_payloads) (ya_table := ya_table) (ya_sizes := ya_sizes) hD (fun _ => ⟨a1, h8⟩) (by omega) hfl hS hO hM (fun th' ot' life' co' ql' z' S' O' L' N' Y' => ?_))
    refine nm_e (nm_e (H ((K, R, z'), (0, n, 0, fl, st, 0, p, m, M, l), (wi, wo, ql', hc, Q, tx), (f_down, f_typeSeen, yf_payload, yf_wants, yf_name, yf_first, yf_counts, yf_enters, yf_nodes, yf_values, yf_skipped, yf_pos, yf_there, yf_number, yf_at), (a_payload, life', th', a_weEnded, a_finishing, co', a_headers, a_entries, a_kinds, a_repeats, a_messageCount), (a_nodeCount, a_nodeTypes, a_valueCount, a_valueOwners, a_values, a_skippedCount, a_reader, a_chainNode, a_chainEnd, a_nodeSize, a_nodePlace), (ya_type, ot', ya_prefix, ya_length, ya_got, ya_high, ya_has, ya_frame, ya_payloads), (ya_table, ya_nodeType, ya_valueNode, ya_valueNumber, ya_value, ya_from, ya_limit, ya_inside, ya_sizes)) ⟨hD, hl, hH, O', hQ, hX, S', hT, hK, fun i i1 i8 => cr_m_life (L' i) (hM i i1 i8)⟩ (fun _ => ⟨hn, hso, hfl, hst, f0, f1, f2, f3, Or.inl ⟨by omega, rfl⟩⟩) (fun a t q hq => ?_)))
    refine yt_end (yf_paid := 0) hd f0 (by omega) (by omega) (fun y => ?_) (fun y => ?_)
    · have hl2 : a_life st = 2 := by
        rcases a3 with w | ⟨_, w⟩
        · rw [y] at w; exact absurd w (by decide)
        · exact w
      obtain ⟨n1, n2, n3, n4, n5, n6⟩ := N' (by rw [hl2]; decide)
      subst n1
      subst n2
      subst n3
      subst n4
      subst n5
      subst n6
      exact hq _ ⟨a, t, rfl⟩
    · exact ye_end hfl f1 f2 f3 (ye_0 (Y' a t _ (fun a' t' => hq _ ⟨a', t', rfl⟩)))
  · -- headers
    subst e
    have a1 := k6 rfl
    have h8 : st < 8 := by
      have := k2 (by omega)
      omega
    have hc1 : ¬ yf_counts = 0 := by rw [k4 (by omega) (by omega)]; decide
    obtain ⟨w1, w2, w3⟩ := h1 rfl
    unfold wpX_endFrame
    refine br_f (by decide) (br_f (by decide) (br_t rfl (eh_both (fAt := fAt + 1) (h := 0) (p := p) (yf_payload := yf_payload) (yf_name := yf_name) (yf_counts := yf_counts) (yf_enters := yf_enters) (ya_sizes := ya_sizes) hd a1 h8 k1 hfl hO hH hT w2 w1 f0 w3 hS hM (fun σ wn dn' life' co' nt' ty' wi' wo' ql' z' T' C' S' O' M' D' Y' => ?_))))
    dsimp only
    refine et_both (fAt := fAt + 1) (h := 0) (p := p) (yf_payload := yf_payload) (yf_wants := wn) (yf_name := σ.2.2.2.2.1) (yf_first := σ.2.2.2.1) (yf_counts := yf_counts) (yf_enters := σ.2.2.2.2.2.1) (ya_frame := ya_frame) (ya_payloads := ya_payloads) (ya_table := σ.2.2.2.2.2.2.2.2.2) (ya_sizes := ya_sizes) D' (fun _ => ⟨a1, h8⟩) (by omega) hfl S' O' M' (fun th2 ot2 life2 co2 ql2 z2 S2 O2 L2 N2 Y2 => ?_)
    refine nm_e (nm_e (H ((K, R, z2), (0, n, 1, fl, st, 0, p, σ.1, σ.2.1, l), (wi', wo', ql2, σ.2.2.2.2.2.2.1, Q, tx), (dn', σ.2.2.1, yf_payload, wn, σ.2.2.2.2.1, σ.2.2.2.1, yf_counts, σ.2.2.2.2.2.1, yf_nodes, yf_values, yf_skipped, yf_pos, yf_there, yf_number, yf_at), (a_payload, life2, th2, a_weEnded, a_finishing, co2, σ.2.2.2.2.2.2.2.1, σ.2.2.2.2.2.2.2.2.1, a_kinds, a_repeats, a_messageCount), (a_nodeCount, nt', a_valueCount, a_valueOwners, a_values, a_skippedCount, a_reader, a_chainNode, a_chainEnd, a_nodeSize, a_nodePlace), (ty', ot2, ya_prefix, ya_length, ya_got, ya_high, ya_has, ya_frame, ya_payloads), (σ.2.2.2.2.2.2.2.2.2, ya_nodeType, ya_valueNode, ya_valueNumber, ya_value, ya_from, ya_limit, ya_inside, ya_sizes)) ⟨D', hl, C', O2, hQ, hX, S2, T', hK, fun i i1 i8 => cr_m_life (L2 i) (M' i i1 i8)⟩ (fun _ => ⟨hn, hso, hfl, hst, f0, f1, f2, f3, Or.inl ⟨by omega, rfl⟩⟩) (fun a t q hq => ?_)))
    refine yt_end (yf_paid := 0) hd f0 (by omega) (by omega) (fun y => absurd y hc1) (fun _ => ye_end hfl f1 f2 f3 (ye_1 (Y' a t _ (fun a' t' => ?_))))
    exact Y2 a' t' _ (fun a2 t2 => hq _ ⟨a2, t2, rfl⟩)
  · have h8 : st < 8 := by
      have := k2 (by omega)
      omega
    have hc1 : ¬ yf_counts = 0 := by rw [k4 (by omega) (by omega)]; decide
    obtain ⟨b, hb, w1, w2⟩ := h24 e e'
    refine ex_24 (fAt := fAt + 1) (p := p) (yf_wants := yf_wants) (yf_name := yf_name) (yf_first := yf_first) (yf_counts := yf_counts) (yf_enters := yf_enters) (ya_payloads := ya_payloads) (ya_table := ya_table) (ya_type := ya_type) (ya_prefix := ya_prefix) (ya_length := ya_length) (ya_got := ya_got) (ya_high := ya_high) (ya_has := ya_has) (ya_sizes := ya_sizes) hd e e' h8 k8 k9 k10 hfl hb w1 w2 hS hO f1 f2 f3 (fun wo' life' co' ql' z' dn' S' O' L' D' Y' => ?_)
    refine nm_e (nm_e (H ((K, R, z'), (0, n, so, fl, st, 0, p, m, M, l), (wi, wo', ql', hc, Q, tx), (dn', f_typeSeen, yf_payload, yf_wants, yf_name, yf_first, yf_counts, yf_enters, yf_nodes, yf_values, yf_skipped, yf_pos, yf_there, yf_number, yf_at), (a_payload, life', a_theyEnded, a_weEnded, a_finishing, co', a_headers, a_entries, a_kinds, a_repeats, a_messageCount), (a_nodeCount, a_nodeTypes, a_valueCount, a_valueOwners, a_values, a_skippedCount, a_reader, a_chainNode, a_chainEnd, a_nodeSize, a_nodePlace), (ya_type, ya_otherEnded, ya_prefix, ya_length, ya_got, ya_high, ya_has, ya_frame, ya_payloads), (ya_table, ya_nodeType, ya_valueNode, ya_valueNumber, ya_value, ya_from, ya_limit, ya_inside, ya_sizes)) ⟨D', hl, hH, O', hQ, hX, S', hT, hK, fun i i1 i8 => cr_m_life (L' i) (hM i i1 i8)⟩ (fun _ => ⟨hn, hso, hfl, hst, f0, f1, f2, f3, Or.inl ⟨by omega, rfl⟩⟩) (fun a t q hq => ?_)))
    exact yt_end (yf_paid := 0) hd f0 (by omega) (by omega) (fun y => absurd y hc1) (fun _ => Y' a t _ (fun a' t' => hq _ ⟨a', t', rfl⟩))
  · unfold wpX_endFrame
    refine pk_lt so 1 (fun w => by omega) (fun _ => pk_lt 4 so (fun _ => xe_82 (fAt := fAt + 1) (by omega) hso ?_) (fun w => by omega))
    refine nm_e (nm_e (H ((K, R, z), (0, n, so, fl, st, 0, p, m, M, l), (wi, wo, ql, hc, Q, tx), (f_down, f_typeSeen, yf_payload, yf_wants, yf_name, yf_first, yf_counts, yf_enters, yf_nodes, yf_values, yf_skipped, yf_pos, yf_there, yf_number, yf_at), (a_payload, a_life, a_theyEnded, a_weEnded, a_finishing, a_codes, a_headers, a_entries, a_kinds, a_repeats, a_messageCount), (a_nodeCount, a_nodeTypes, a_valueCount, a_valueOwners, a_values, a_skippedCount, a_reader, a_chainNode, a_chainEnd, a_nodeSize, a_nodePlace), (ya_type, ya_otherEnded, ya_prefix, ya_length, ya_got, ya_high, ya_has, ya_frame, ya_payloads), (ya_table, ya_nodeType, ya_valueNode, ya_valueNumber, ya_value, ya_from, ya_limit, ya_inside, ya_sizes)) ⟨hD, hl, hH, hO, hQ, hX, hS, hT, hK, hM⟩ (fun _ => ⟨hn, hso, hfl, hst, f0, f1, f2, f3, Or.inl ⟨by omega, rfl⟩⟩) (fun a t q hq => ?_)))
    exact yt_end (yf_paid := 0) hd f0 (by omega) (by omega) (fun _ => hq _ ⟨a, t, rfl⟩) (fun y => absurd (k5 e) y)
end
end
