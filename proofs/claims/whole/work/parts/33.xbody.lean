/-! Z3: an int as a long -/
section
theorem zx_ext (x : Int32) : x.toInt64 = lN (sz_ux x) := by
  by_cases h : x < 0
  · apply wb_inj
    apply BitVec.eq_of_toNat_eq
    have hx : 2 ^ 31 ≤ x.toBitVec.toNat := by
      rcases Nat.lt_or_ge x.toBitVec.toNat (2 ^ 31) with g | g
      · exact absurd h (by rw [yr_nI x]; exact nI_pos g)
      · exact g
    have hlt : x.toBitVec.toNat < 2 ^ 32 := x.toBitVec.isLt
    have hu : sz_ux x = 2 ^ 64 - 2 ^ 32 + x.toBitVec.toNat := if_pos h
    rw [hu, wb_tn (by omega), Int32.toBitVec_toInt64, BitVec.toNat_signExtend]
    have hm : x.toBitVec.msb = true := by
      rw [BitVec.msb_eq_decide]; simp; omega
    rw [hm]
    simp only [if_true, BitVec.toNat_setWidth]
    omega
  · obtain ⟨n, hn, rfl⟩ := nI_of h
    rw [nI_l hn, sz_ux_p h, pk_tn (by omega)]
end
