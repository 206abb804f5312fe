/-! N: how the component reads: its small steps -/
section
theorem xr_ix {s k : Nat} (hs : s < 8) (hk : k < 11) : nI s * 11 = nI (11 * s) ∧ vp_in (nI (11 * s) + nI k) 88 ∧ (nI (11 * s) + nI k).toNatClampNeg = 11 * s + k := by
  refine ⟨?_, ?_, ?_⟩
  · rw [show (11 : Int32) = nI 11 from rfl, pk_mul, Nat.mul_comm]
  · rw [nI_add]; exact vp_in_nI (by omega) (by omega)
  · rw [nI_add, nI_clamp (by omega)]
theorem xr_c4 {s a : Nat} (hs : s < 8) (ha : a ≤ 3) : vp_in (nI s * 4 + nI a) 32 ∧ (nI s * 4 + nI a).toNatClampNeg = 4 * s + a := by
  have e : nI s * 4 + nI a = nI (4 * s + a) := by
    rw [show (4 : Int32) = nI 4 from rfl, pk_mul, nI_add, Nat.mul_comm]
  rw [e]
  exact ⟨vp_in_nI (by omega) (by omega), nI_clamp (by omega)⟩
theorem xr_c48 {s a : Nat} (hs : s < 8) (ha : a < 48) : nI s * 48 + nI a = nI (48 * s + a) ∧ vp_in (nI (48 * s + a)) 384 ∧ (nI (48 * s + a)).toNatClampNeg = 48 * s + a := by
  refine ⟨?_, vp_in_nI (by omega) (by omega), nI_clamp (by omega)⟩
  rw [show (48 : Int32) = nI 48 from rfl, pk_mul, nI_add, Nat.mul_comm]
theorem xr_c16 {s a : Nat} (hs : s < 8) (ha : a < 16) : vp_in (nI s * 16 + nI a) 128 ∧ (nI s * 16 + nI a).toNatClampNeg = 16 * s + a := by
  have e : nI s * 16 + nI a = nI (16 * s + a) := by
    rw [show (16 : Int32) = nI 16 from rfl, pk_mul, nI_add, Nat.mul_comm]
  rw [e]
  exact ⟨vp_in_nI (by omega) (by omega), nI_clamp (by omega)⟩
theorem xr_c8 {s : Nat} (hs : s < 8) : vp_in (nI s) 8 ∧ (nI s).toNatClampNeg = s := ⟨vp_in_nI hs (by omega), nI_clamp (by omega)⟩
/-- a register -/
theorem xr_u {f : Nat → Int32} {s i j : Nat} {x : Int32} : upd f (11 * s + i) x (11 * s + j) = if j = i then x else f (11 * s + j) := by
  rw [pm_upd_eq]
  by_cases h : j = i
  · rw [if_pos h, if_pos (by omega)]
  · rw [if_neg h, if_neg (by omega)]
theorem xr_o {f : Nat → Int32} {s i j : Nat} {x : Int32} (hi : i < 11) (hj : j < 11 * s ∨ 11 * s + 11 ≤ j) : upd f (11 * s + i) x j = f j := by
  rw [pm_upd_eq, if_neg (by omega)]

def xr_bE (s : Nat) (f : Nat → Int32) : Nat → Int32 := upd (upd (upd (upd (upd f (11 * s + 3) 0) (11 * s + 4) 0) (11 * s + 5) 0) (11 * s + 8) 0) (11 * s + 9) (f (11 * s + 2))
theorem xr_bE_o {s j : Nat} {f : Nat → Int32} (hj : j < 11 * s ∨ 11 * s + 11 ≤ j) : xr_bE s f j = f j := by
  unfold xr_bE
  rw [xr_o (by omega) hj, xr_o (by omega) hj, xr_o (by omega) hj, xr_o (by omega) hj, xr_o (by omega) hj]
theorem xr_bE_k (s : Nat) (f : Nat → Int32) (j : Nat) : xr_bE s f (11 * s + j) = if j = 9 then f (11 * s + 2) else if j = 8 ∨ j = 5 ∨ j = 4 ∨ j = 3 then 0 else f (11 * s + j) := by
  unfold xr_bE
  rw [xr_u, xr_u, xr_u, xr_u, xr_u]
  by_cases h9 : j = 9
  · rw [if_pos h9, if_pos h9]
  · rw [if_neg h9, if_neg h9]
    by_cases h : j = 8 ∨ j = 5 ∨ j = 4 ∨ j = 3
    · rw [if_pos h]
      rcases h with h | h | h | h <;> subst h <;> rfl
    · rw [if_neg h, if_neg (fun y => h (Or.inl y)), if_neg (fun y => h (Or.inr (Or.inl y))), if_neg (fun y => h (Or.inr (Or.inr (Or.inl y)))), if_neg (fun y => h (Or.inr (Or.inr (Or.inr y))))]
def xr_bN (s : Nat) (h : Int32) (f : Nat → Int32) : Nat → Int32 := upd (upd (upd f (11 * s + 3) h) (11 * s + 4) 0) (11 * s + 5) 0
theorem xr_bN_o {s j : Nat} {h : Int32} {f : Nat → Int32} (hj : j < 11 * s ∨ 11 * s + 11 ≤ j) : xr_bN s h f j = f j := by
  unfold xr_bN
  rw [xr_o (by omega) hj, xr_o (by omega) hj, xr_o (by omega) hj]
theorem xr_bN_k (s : Nat) (h : Int32) (f : Nat → Int32) (j : Nat) : xr_bN s h f (11 * s + j) = if j = 5 ∨ j = 4 then 0 else if j = 3 then h else f (11 * s + j) := by
  unfold xr_bN
  rw [xr_u, xr_u, xr_u]
  by_cases h1 : j = 5
  · rw [if_pos h1, if_pos (Or.inl h1)]
  by_cases h2 : j = 4
  · rw [if_neg h1, if_pos h2, if_pos (Or.inr h2)]
  · rw [if_neg h1, if_neg h2, if_neg (show ¬ (j = 5 ∨ j = 4) from fun y => y.elim h1 h2)]

variable {f_frameAt f_frameLength f_frameSort f_frameFlags f_frameStream f_down f_entryCount f_most f_typeSeen f_lastSender f_sentLength : Int32} {a_payload a_life a_theyEnded a_weEnded a_finishing a_codes a_windowIn a_windowOut a_headers a_headerCount a_entries a_kinds a_repeats a_messageCount a_text a_nodeCount a_nodeTypes a_valueCount a_valueOwners a_values a_skippedCount a_reader a_chainNode a_chainEnd a_queue a_queueLength a_sent a_nodeSize a_nodePlace : Nat → Int32} {s : Nat}
theorem xw_bE {post : SX → Prop} (hs : s < 8) (h : post (f_frameAt, f_frameLength, f_frameSort, f_frameFlags, f_frameStream, f_down, f_entryCount, f_most, f_typeSeen, f_lastSender, f_sentLength, a_payload, a_life, a_theyEnded, a_weEnded, a_finishing, a_codes, a_windowIn, a_windowOut, a_headers, a_headerCount, a_entries, a_kinds, a_repeats, a_messageCount, a_text, a_nodeCount, a_nodeTypes, a_valueCount, a_valueOwners, a_values, a_skippedCount, xr_bE s a_reader, a_chainNode, a_chainEnd, a_queue, a_queueLength, a_sent, a_nodeSize, a_nodePlace)) : wpX_beginElement post (f_frameAt, f_frameLength, f_frameSort, f_frameFlags, f_frameStream, f_down, f_entryCount, f_most, f_typeSeen, f_lastSender, f_sentLength, a_payload, a_life, a_theyEnded, a_weEnded, a_finishing, a_codes, a_windowIn, a_windowOut, a_headers, a_headerCount, a_entries, a_kinds, a_repeats, a_messageCount, a_text, a_nodeCount, a_nodeTypes, a_valueCount, a_valueOwners, a_values, a_skippedCount, a_reader, a_chainNode, a_chainEnd, a_queue, a_queueLength, a_sent, a_nodeSize, a_nodePlace) (nI s) := by
  unfold wpX_beginElement
  have i2 := xr_ix (s := s) (k := 2) hs (by omega)
  have i3 := xr_ix (s := s) (k := 3) hs (by omega)
  have i4 := xr_ix (s := s) (k := 4) hs (by omega)
  have i5 := xr_ix (s := s) (k := 5) hs (by omega)
  have i8 := xr_ix (s := s) (k := 8) hs (by omega)
  have i9 := xr_ix (s := s) (k := 9) hs (by omega)
  refine nm_r i2.1 ⟨i3.2.1, nm_r (congrArg (fun k => upd a_reader k 0) i3.2.2) ⟨i4.2.1, nm_r (congrArg (fun k => upd _ k 0) i4.2.2) ⟨i5.2.1, nm_r (congrArg (fun k => upd _ k 0) i5.2.2) ⟨i8.2.1, nm_r (congrArg (fun k => upd _ k 0) i8.2.2) ⟨i2.2.1, i9.2.1, nm_r ?_ h⟩⟩⟩⟩⟩
  refine (congrArg (fun k => upd _ k _) i9.2.2).trans ?_
  refine (congrArg (fun x => upd _ (11 * s + 9) x) (congrArg _ i2.2.2)).trans ?_
  unfold xr_bE
  rw [xr_u, xr_u, xr_u, xr_u]
  rfl
theorem xw_bN {post : SX → Prop} {x : Int32} (hs : s < 8) (h : post (f_frameAt, f_frameLength, f_frameSort, f_frameFlags, f_frameStream, f_down, f_entryCount, f_most, f_typeSeen, f_lastSender, f_sentLength, a_payload, a_life, a_theyEnded, a_weEnded, a_finishing, a_codes, a_windowIn, a_windowOut, a_headers, a_headerCount, a_entries, a_kinds, a_repeats, a_messageCount, a_text, a_nodeCount, a_nodeTypes, a_valueCount, a_valueOwners, a_values, a_skippedCount, xr_bN s x a_reader, a_chainNode, a_chainEnd, a_queue, a_queueLength, a_sent, a_nodeSize, a_nodePlace)) : wpX_beginNumber post (f_frameAt, f_frameLength, f_frameSort, f_frameFlags, f_frameStream, f_down, f_entryCount, f_most, f_typeSeen, f_lastSender, f_sentLength, a_payload, a_life, a_theyEnded, a_weEnded, a_finishing, a_codes, a_windowIn, a_windowOut, a_headers, a_headerCount, a_entries, a_kinds, a_repeats, a_messageCount, a_text, a_nodeCount, a_nodeTypes, a_valueCount, a_valueOwners, a_values, a_skippedCount, a_reader, a_chainNode, a_chainEnd, a_queue, a_queueLength, a_sent, a_nodeSize, a_nodePlace) (nI s) x := by
  unfold wpX_beginNumber
  have i3 := xr_ix (s := s) (k := 3) hs (by omega)
  have i4 := xr_ix (s := s) (k := 4) hs (by omega)
  have i5 := xr_ix (s := s) (k := 5) hs (by omega)
  exact nm_r i3.1 ⟨i3.2.1, nm_r (congrArg (fun k => upd a_reader k x) i3.2.2) ⟨i4.2.1, nm_r (congrArg (fun k => upd _ k 0) i4.2.2) ⟨i5.2.1, nm_r (congrArg (fun k => upd _ k 0) i5.2.2) h⟩⟩⟩
/-- the end of an element -/
theorem xw_eE {post : SX → Prop} {f t p : Nat} (hs : s < 8) (hf : a_reader (11 * s + 7) = nI f) (hf' : f < 64) (ht : a_reader (11 * s + 2) = nI t) (hp : f = 0 → a_reader (11 * s + 9) = nI p ∧ p ≤ t)
    (h : post (f_frameAt, f_frameLength, f_frameSort, f_frameFlags, f_frameStream, f_down, f_entryCount, f_most, f_typeSeen, f_lastSender, f_sentLength, a_payload, a_life, a_theyEnded, a_weEnded, a_finishing, a_codes, a_windowIn, a_windowOut, a_headers, a_headerCount, a_entries, a_kinds, a_repeats, a_messageCount, a_text, a_nodeCount, a_nodeTypes, a_valueCount, a_valueOwners, a_values, if f = 0 then upd a_skippedCount s (a_skippedCount s + nI (t - p)) else a_skippedCount, xr_bE s a_reader, a_chainNode, a_chainEnd, a_queue, a_queueLength, a_sent, a_nodeSize, a_nodePlace)) : wpX_endElement post (f_frameAt, f_frameLength, f_frameSort, f_frameFlags, f_frameStream, f_down, f_entryCount, f_most, f_typeSeen, f_lastSender, f_sentLength, a_payload, a_life, a_theyEnded, a_weEnded, a_finishing, a_codes, a_windowIn, a_windowOut, a_headers, a_headerCount, a_entries, a_kinds, a_repeats, a_messageCount, a_text, a_nodeCount, a_nodeTypes, a_valueCount, a_valueOwners, a_values, a_skippedCount, a_reader, a_chainNode, a_chainEnd, a_queue, a_queueLength, a_sent, a_nodeSize, a_nodePlace) (nI s) := by
  unfold wpX_endElement
  have i2 := xr_ix (s := s) (k := 2) hs (by omega)
  have i7 := xr_ix (s := s) (k := 7) hs (by omega)
  have i9 := xr_ix (s := s) (k := 9) hs (by omega)
  have e7 : a_reader (nI (11 * s) + 7).toNatClampNeg = nI f := (congrArg a_reader i7.2.2).trans hf
  refine nm_r i2.1 ⟨i7.2.1, ?_⟩
  rw [e7]
  refine pk_eq f 0 (fun g => ?_) (fun g => ?_)
  · rw [if_pos g] at h
    obtain ⟨p1, p2⟩ := hp g
    have e2 : a_reader (nI (11 * s) + 2).toNatClampNeg = nI t := (congrArg a_reader i2.2.2).trans ht
    have e9 : a_reader (nI (11 * s) + 9).toNatClampNeg = nI p := (congrArg a_reader i9.2.2).trans p1
    refine ⟨(xr_c8 hs).1, i2.2.1, i9.2.1, (xr_c8 hs).1, nm_r (by rw [(xr_c8 hs).2, e2, e9, pk_sub p2]) ?_⟩
    unfold wX_endElement_44
    exact xw_bE hs h
  · rw [if_neg g] at h
    unfold wX_endElement_44
    exact xw_bE hs h
def xr_aD (s : Nat) (x : Int32) (d : Nat) (f : Nat → Int32) : Nat → Int32 := upd (upd f (11 * s + 4) x) (11 * s + 5) (nI (d + 1))
theorem xr_aD_o {s j d : Nat} {x : Int32} {f : Nat → Int32} (hj : j < 11 * s ∨ 11 * s + 11 ≤ j) : xr_aD s x d f j = f j := by
  unfold xr_aD
  rw [xr_o (by omega) hj, xr_o (by omega) hj]
theorem xr_aD_k (s : Nat) (x : Int32) (d : Nat) (f : Nat → Int32) (j : Nat) : xr_aD s x d f (11 * s + j) = if j = 5 then nI (d + 1) else if j = 4 then x else f (11 * s + j) := by
  unfold xr_aD
  rw [xr_u, xr_u]
/-- a digit: its place is below 32 bits, or it counts no more -/
theorem xw_aD {post : SX → Prop} {x y : Int32} {d b w : Nat} (hs : s < 8) (h5 : a_reader (11 * s + 5) = nI d) (hd : d < 10) (hb : b ≤ 8) (h4 : a_reader (11 * s + 4) = x)
    (hy : y = if b * d < 32 then x ||| (nI w <<< ((nI b * nI d) &&& 31)) else x) (h : post (f_frameAt, f_frameLength, f_frameSort, f_frameFlags, f_frameStream, f_down, f_entryCount, f_most, f_typeSeen, f_lastSender, f_sentLength, a_payload, a_life, a_theyEnded, a_weEnded, a_finishing, a_codes, a_windowIn, a_windowOut, a_headers, a_headerCount, a_entries, a_kinds, a_repeats, a_messageCount, a_text, a_nodeCount, a_nodeTypes, a_valueCount, a_valueOwners, a_values, a_skippedCount, xr_aD s y d a_reader, a_chainNode, a_chainEnd, a_queue, a_queueLength, a_sent, a_nodeSize, a_nodePlace)) : wpX_addDigit post (f_frameAt, f_frameLength, f_frameSort, f_frameFlags, f_frameStream, f_down, f_entryCount, f_most, f_typeSeen, f_lastSender, f_sentLength, a_payload, a_life, a_theyEnded, a_weEnded, a_finishing, a_codes, a_windowIn, a_windowOut, a_headers, a_headerCount, a_entries, a_kinds, a_repeats, a_messageCount, a_text, a_nodeCount, a_nodeTypes, a_valueCount, a_valueOwners, a_values, a_skippedCount, a_reader, a_chainNode, a_chainEnd, a_queue, a_queueLength, a_sent, a_nodeSize, a_nodePlace) (nI s) (nI w) (nI b) := by
  unfold wpX_addDigit
  have i4 := xr_ix (s := s) (k := 4) hs (by omega)
  have i5 := xr_ix (s := s) (k := 5) hs (by omega)
  have e4 : a_reader (nI (11 * s) + 4).toNatClampNeg = x := (congrArg a_reader i4.2.2).trans h4
  have e5 : a_reader (nI (11 * s) + 5).toNatClampNeg = nI d := (congrArg a_reader i5.2.2).trans h5
  have c4 : (nI (11 * s) + 4).toNatClampNeg = 11 * s + 4 := i4.2.2
  have c5 : (nI (11 * s) + 5).toNatClampNeg = 11 * s + 5 := i5.2.2
  have hm : nI b * nI d = nI (b * d) := pk_mul b d
  have hbd : b * d < 2 ^ 31 := Nat.lt_of_le_of_lt (Nat.mul_le_mul hb (Nat.le_of_lt hd)) (by omega)
  refine nm_r i4.1 ⟨i5.2.1, nm_r (congrArg _ e5) ?_⟩
  refine pk_le 32 (b * d) (fun g => ?_) (fun g => ?_) rfl hm (by omega) hbd
  · rw [if_neg (by omega)] at hy
    unfold wX_addDigit_42
    refine ⟨i5.2.1, i5.2.1, nm_r ?_ h⟩
    rw [c5, h5, nI_1]
    unfold xr_aD
    have : upd a_reader (11 * s + 4) y = a_reader := by
      funext j
      rw [pm_upd_eq]
      split
      · rename_i g2; rw [hy, ← h4, g2]
      · rfl
    rw [this]
  · rw [if_pos g] at hy
    refine ⟨i4.2.1, i4.2.1, nm_r (e' := upd a_reader (11 * s + 4) y) (by rw [c4, h4, hy]) ?_⟩
    unfold wX_addDigit_42
    refine ⟨i5.2.1, i5.2.1, nm_r ?_ h⟩
    rw [c5, xr_u, if_neg (by omega), h5, nI_1]
    rfl
end
