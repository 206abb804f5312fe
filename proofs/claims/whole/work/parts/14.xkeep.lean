/-! O: how the component keeps values -/
section
variable {f_frameAt f_frameLength f_frameSort f_frameFlags f_frameStream f_down f_entryCount f_most f_typeSeen f_lastSender f_sentLength : Int32} {a_payload a_life a_theyEnded a_weEnded a_finishing a_codes a_windowIn a_windowOut a_headers a_headerCount a_entries a_kinds a_repeats a_messageCount a_text a_nodeCount a_nodeTypes a_valueCount a_valueOwners a_values a_skippedCount a_reader a_chainNode a_chainEnd a_queue a_queueLength a_sent a_nodeSize a_nodePlace : Nat → Int32} {s : Nat} {K : Nat → Nat} {R : Nat → Bool} {L : Nat} {dep : Nat → Nat} {c : pm_C} {D : pm_D}
/-- owner of a value -/
theorem xr_own {a n b m : Nat} (hn : n ≤ 15) (hm : m ≤ 15) : 16 * a + n = 16 * b + m ↔ (a = b ∧ n = m) := by
  constructor
  · intro h; exact ⟨by omega, by omega⟩
  · rintro ⟨rfl, rfl⟩; rfl
theorem xr_mod {a t n : Nat} (ht : t < 4) (hn : n ≤ 15) : nI a * 16 + (nI (16 * t + n) - nI (16 * t + n) / 16 * 16) = nI (16 * a + n) := by
  have e : nI (16 * t + n) - nI (16 * t + n) / 16 * 16 = nI ((16 * t + n) % 16) := pk_rem (d := 16) (by omega) (by omega) (by omega)
  rw [e, show (16 : Int32) = nI 16 from rfl, pk_mul, nI_add]
  exact congrArg nI (by omega)
theorem xw_pt57 {a n : Nat} (hs : s < 8) (hD : cr_XD K s a_nodeCount a_nodeTypes a_valueCount a_valueOwners a_values D) (hv : pm_nv D ≤ 48) (hn : n ≤ 15) (ha : a < 16)
    (hb : ∀ j, j < pm_nv D → pm_vn D j < 16 ∧ pm_vm D j ≤ 15) {post : Int32 → Prop} : ∀ f i, i + f = pm_nv D →
    post (if pm_fi (pm_vn D) (pm_vm D) a n f i < pm_nv D then nI (48 * s + pm_fi (pm_vn D) (pm_vm D) a n f i) else -1) →
    wX_placeTaken_57 post (nI s) (nI (16 * a + n)) f_frameAt f_frameLength f_frameSort f_frameFlags f_frameStream f_down f_entryCount f_most f_typeSeen f_lastSender f_sentLength a_payload a_life a_theyEnded a_weEnded a_finishing a_codes a_windowIn a_windowOut a_headers a_headerCount a_entries a_kinds a_repeats a_messageCount a_text a_nodeCount a_nodeTypes a_valueCount a_valueOwners a_values a_skippedCount a_reader a_chainNode a_chainEnd a_queue a_queueLength a_sent a_nodeSize a_nodePlace (f + 1) (nI i)
  | 0, i, hi, H => by
    rw [wX_placeTaken_57]
    rw [pm_fi, if_neg (by omega)] at H
    refine ⟨(xr_c8 hs).1, ?_⟩
    rw [(xr_c8 hs).2, hD.2.1]
    exact pk_le (pm_nv D) i (fun _ => H) (fun g => absurd g (by omega))
  | f + 1, i, hi, H => by
    rw [wX_placeTaken_57]
    refine ⟨(xr_c8 hs).1, ?_⟩
    rw [(xr_c8 hs).2, hD.2.1]
    refine pk_le (pm_nv D) i (fun g => absurd g (by omega)) (fun g => ?_)
    obtain ⟨c1, c2, c3⟩ := xr_c48 (s := s) (a := i) hs (by omega)
    rw [c1, c3, (hD.2.2.2 i g).1]
    refine ⟨c2, ?_⟩
    obtain ⟨b1, b2⟩ := hb i g
    rw [pm_fi] at H
    refine pk_eq (16 * pm_vn D i + pm_vm D i) (16 * a + n) (fun y => ?_) (fun y => ?_)
    · rw [if_pos (show pm_vn D i = a ∧ pm_vm D i = n from (xr_own b2 hn).mp y), if_pos g] at H
      exact H
    · rw [if_neg (show ¬ (pm_vn D i = a ∧ pm_vm D i = n) from fun y2 => y ((xr_own b2 hn).mpr y2))] at H
      exact nm_r (nI_1 _) (xw_pt57 hs hD hv hn ha hb f (i + 1) (by omega) H)
theorem xr_DB (I : pm_DI K L dep D) : ∀ j, j < pm_nv D → pm_vn D j < 16 ∧ pm_vm D j ≤ 15 := by
  intro j hj
  obtain ⟨v1, v2, v3, _⟩ := I.2.2.2.2.2.1 j hj
  have := I.2.1
  exact ⟨by omega, by omega⟩
/-- where the field at hand, number n in node a of type t, has its value -/
theorem xw_pt {a n b : Nat} (hs : s < 8) (I : pm_DI K L dep D) (hK : cr_K a_kinds a_repeats K R) (hD : cr_XD K s a_nodeCount a_nodeTypes a_valueCount a_valueOwners a_values D) (ha : a < pm_nn D) (hn : 1 ≤ n) (hn' : n ≤ 15) (hb : b ≤ 3)
    (h7 : a_reader (11 * s + 7) = nI (16 * pm_nt D a + n)) (h10 : a_reader (11 * s + 10) = nI b) (hcn : a_chainNode (4 * s + b) = nI a) {post : Int32 → Prop}
    (H : post (if pm_pl R D a n < pm_nv D then nI (48 * s + pm_pl R D a n) else -1)) : wpX_placeTaken post (f_frameAt, f_frameLength, f_frameSort, f_frameFlags, f_frameStream, f_down, f_entryCount, f_most, f_typeSeen, f_lastSender, f_sentLength, a_payload, a_life, a_theyEnded, a_weEnded, a_finishing, a_codes, a_windowIn, a_windowOut, a_headers, a_headerCount, a_entries, a_kinds, a_repeats, a_messageCount, a_text, a_nodeCount, a_nodeTypes, a_valueCount, a_valueOwners, a_values, a_skippedCount, a_reader, a_chainNode, a_chainEnd, a_queue, a_queueLength, a_sent, a_nodeSize, a_nodePlace) (nI s) := by
  have i7 := xr_ix (s := s) (k := 7) hs (by omega)
  have i10 := xr_ix (s := s) (k := 10) hs (by omega)
  have hnn := I.2.1
  have hty := (I.2.2.2.2.1 a ha).1
  have hj : 16 * pm_nt D a + n < 64 := by omega
  have e7 : a_reader (nI (11 * s) + 7).toNatClampNeg = nI (16 * pm_nt D a + n) := (congrArg a_reader i7.2.2).trans h7
  have e10 : a_reader (nI (11 * s) + 10).toNatClampNeg = nI b := (congrArg a_reader i10.2.2).trans h10
  unfold wpX_placeTaken
  rw [i7.1]
  refine ⟨i7.2.1, nm_r e7 ⟨vp_in_nI hj (by omega), ?_⟩⟩
  rw [nI_clamp (by omega), hK.2.2 _ hj]
  by_cases hr : R (16 * pm_nt D a + n) = true
  · rw [if_pos hr]
    have : pm_pl R D a n = pm_nv D := by unfold pm_pl; exact if_pos hr
    rw [if_neg (by omega)] at H
    exact br_f (by decide) H
  · rw [if_neg hr]
    have : pm_pl R D a n = pm_ix D a n := by unfold pm_pl; exact if_neg hr
    rw [this] at H
    refine br_t rfl ⟨i10.2.1, ?_⟩
    rw [e10]
    obtain ⟨c1, c2⟩ := xr_c4 (s := s) (a := b) hs hb
    rw [c2, hcn]
    exact ⟨c1, by decide, nm_r (xr_mod hty hn') ⟨pm_nv D + 1, xw_pt57 hs hD I.2.2.1 hn' (by omega) (xr_DB I) (pm_nv D) 0 (by omega) H⟩⟩
/-- outside the places of one stream -/
def xr_O (w s : Nat) (f f' : Nat → Int32) : Prop := ∀ j, j < w * s ∨ w * s + w ≤ j → f' j = f j
theorem xr_O_u {w s i : Nat} {f : Nat → Int32} {x : Int32} (hi : i < w) : xr_O w s f (upd f (w * s + i) x) := by
  intro j hj
  rw [pm_upd_eq, if_neg (by omega)]
theorem xr_O_1 {s : Nat} {f : Nat → Int32} {x : Int32} : xr_O 1 s f (upd f s x) := by
  intro j hj
  rw [pm_upd_eq, if_neg (by omega)]
theorem xr_O_r {w s : Nat} {f : Nat → Int32} : xr_O w s f f := fun _ _ => rfl
theorem xr_O_t {w s : Nat} {f f' f'' : Nat → Int32} (h : xr_O w s f f') (h' : xr_O w s f' f'') : xr_O w s f f'' := fun j hj => (h' j hj).trans (h j hj)
/-- a value more -/
theorem xr_XD_add {a n st : Nat} {v xv : Int32} (hpl : pm_pl R D a n = pm_nv D) (hv : pm_nv D < 48) (hs : s < 8)
    (hD : cr_XD K s a_nodeCount a_nodeTypes a_valueCount a_valueOwners a_values D) (hxv : xv = if K (16 * pm_nt D a + n) = 4 then nI (256 * st) + v else v) :
    cr_XD K s a_nodeCount a_nodeTypes (upd a_valueCount s (nI (pm_nv D + 1))) (upd a_valueOwners (48 * s + pm_nv D) (nI (16 * a + n))) (upd a_values (48 * s + pm_nv D) xv) (pm_kp R D a n v st) := by
  obtain ⟨d1, d2, d3, d4⟩ := hD
  refine ⟨d1, ?_, d3, fun j hj => ?_⟩
  · simp only [pm_kp_nn, pm_kp_nt, pm_kp_nv, pm_kp_vn, pm_kp_vm, pm_kp_fr, pm_kp_va, hpl, pm_upd_eq, if_pos]
  · simp only [pm_kp_nn, pm_kp_nt, pm_kp_nv, pm_kp_vn, pm_kp_vm, pm_kp_fr, pm_kp_va, hpl, if_pos] at hj
    have hj : j < pm_nv D + 1 := hj
    by_cases g : j = pm_nv D
    · subst g
      simp only [pm_kk, pm_kp_nn, pm_kp_nt, pm_kp_nv, pm_kp_vn, pm_kp_vm, pm_kp_fr, pm_kp_va, hpl, pm_us, pm_upd_eq, if_pos]
      exact ⟨trivial, hxv⟩
    · have := d4 j (by omega)
      simp only [pm_kk, pm_kp_nn, pm_kp_nt, pm_kp_nv, pm_kp_vn, pm_kp_vm, pm_kp_fr, pm_kp_va, hpl, pm_un g, pm_upd_eq, if_neg g, if_neg (show 48 * s + j ≠ 48 * s + pm_nv D by omega)]
      exact this
/-- a value in the place of another -/
theorem xr_XD_set {a n st : Nat} {v xv : Int32} (hpl : pm_pl R D a n < pm_nv D)
    (hD : cr_XD K s a_nodeCount a_nodeTypes a_valueCount a_valueOwners a_values D) (hxv : xv = if K (16 * pm_nt D a + n) = 4 then nI (256 * st) + v else v) :
    cr_XD K s a_nodeCount a_nodeTypes a_valueCount a_valueOwners (upd a_values (48 * s + pm_pl R D a n) xv) (pm_kp R D a n v st) := by
  obtain ⟨d1, d2, d3, d4⟩ := hD
  obtain ⟨p1, p2, p3⟩ := pm_pl_lt hpl
  refine ⟨d1, ?_, d3, fun j hj => ?_⟩
  · simp only [pm_kp_nn, pm_kp_nt, pm_kp_nv, pm_kp_vn, pm_kp_vm, pm_kp_fr, pm_kp_va, if_neg (show pm_pl R D a n ≠ pm_nv D by omega)]
    exact d2
  · simp only [pm_kp_nn, pm_kp_nt, pm_kp_nv, pm_kp_vn, pm_kp_vm, pm_kp_fr, pm_kp_va, if_neg (show pm_pl R D a n ≠ pm_nv D by omega)] at hj
    have hj : j < pm_nv D := hj
    have hd := d4 j hj
    generalize hk : pm_pl R D a n = k at *
    by_cases g : j = k
    · subst g
      simp only [pm_kk, pm_kp_nn, pm_kp_nt, pm_kp_nv, pm_kp_vn, pm_kp_vm, pm_kp_fr, pm_kp_va, hk, pm_us, pm_upd_eq, if_pos]
      rw [p2, p3] at hd
      exact ⟨hd.1, hxv⟩
    · simp only [pm_kk, pm_kp_nn, pm_kp_nt, pm_kp_nv, pm_kp_vn, pm_kp_vm, pm_kp_fr, pm_kp_va, hk, pm_un g, pm_upd_eq, if_neg g, if_neg (show 48 * s + j ≠ 48 * s + k by omega)]
      exact hd
theorem xw_add {a n b : Nat} {xv : Int32} (hs : s < 8) (I : pm_DI K L dep D) (hD : cr_XD K s a_nodeCount a_nodeTypes a_valueCount a_valueOwners a_values D) (ha : a < pm_nn D) (hn' : n ≤ 15) (hb : b ≤ 3)
    (h7 : a_reader (11 * s + 7) = nI (16 * pm_nt D a + n)) (h10 : a_reader (11 * s + 10) = nI b) (hcn : a_chainNode (4 * s + b) = nI a) (hv : pm_nv D < 48) {post : SX → Prop}
    (H : post (f_frameAt, f_frameLength, f_frameSort, f_frameFlags, f_frameStream, f_down, f_entryCount, f_most, f_typeSeen, f_lastSender, f_sentLength, a_payload, a_life, a_theyEnded, a_weEnded, a_finishing, a_codes, a_windowIn, a_windowOut, a_headers, a_headerCount, a_entries, a_kinds, a_repeats, a_messageCount, a_text, a_nodeCount, a_nodeTypes, upd a_valueCount s (nI (pm_nv D + 1)), upd a_valueOwners (48 * s + pm_nv D) (nI (16 * a + n)), upd a_values (48 * s + pm_nv D) xv, a_skippedCount, a_reader, a_chainNode, a_chainEnd, a_queue, a_queueLength, a_sent, a_nodeSize, a_nodePlace)) :
    wpX_addValue post (f_frameAt, f_frameLength, f_frameSort, f_frameFlags, f_frameStream, f_down, f_entryCount, f_most, f_typeSeen, f_lastSender, f_sentLength, a_payload, a_life, a_theyEnded, a_weEnded, a_finishing, a_codes, a_windowIn, a_windowOut, a_headers, a_headerCount, a_entries, a_kinds, a_repeats, a_messageCount, a_text, a_nodeCount, a_nodeTypes, a_valueCount, a_valueOwners, a_values, a_skippedCount, a_reader, a_chainNode, a_chainEnd, a_queue, a_queueLength, a_sent, a_nodeSize, a_nodePlace) (nI s) xv := by
  have i7 := xr_ix (s := s) (k := 7) hs (by omega)
  have i10 := xr_ix (s := s) (k := 10) hs (by omega)
  have hnn := I.2.1
  have hty := (I.2.2.2.2.1 a ha).1
  have e7 : a_reader (nI (11 * s) + 7).toNatClampNeg = nI (16 * pm_nt D a + n) := (congrArg a_reader i7.2.2).trans h7
  have e10 : a_reader (nI (11 * s) + 10).toNatClampNeg = nI b := (congrArg a_reader i10.2.2).trans h10
  obtain ⟨c1, c2, c3⟩ := xr_c48 (s := s) (a := pm_nv D) hs hv
  obtain ⟨c4, c5⟩ := xr_c4 (s := s) (a := b) hs hb
  obtain ⟨g1, g2⟩ := xr_c8 hs
  unfold wpX_addValue
  refine nm_r i7.1 ⟨g1, nm_r (by rw [g2, hD.2.1, c1]) ⟨i10.2.1, ?_⟩⟩
  rw [e10, e7, c5, hcn, c3, g2, hD.2.1]
  exact ⟨c4, i7.2.1, by decide, c2, nm_r (by rw [xr_mod hty hn']) ⟨c2, nm_e ⟨g1, g1, nm_r (by rw [nI_1]) H⟩⟩⟩
/-- a value is kept, or there are too many -/
theorem xw_keep {a n b st : Nat} {v xv : Int32} (hs : s < 8) (I : pm_DI K L dep D) (hK : cr_K a_kinds a_repeats K R) (hD : cr_XD K s a_nodeCount a_nodeTypes a_valueCount a_valueOwners a_values D) (ha : a < pm_nn D) (hn : 1 ≤ n) (hn' : n ≤ 15) (hb : b ≤ 3)
    (h7 : a_reader (11 * s + 7) = nI (16 * pm_nt D a + n)) (h10 : a_reader (11 * s + 10) = nI b) (hcn : a_chainNode (4 * s + b) = nI a)
    (hxv : xv = if K (16 * pm_nt D a + n) = 4 then nI (256 * st) + v else v) {post : Int32 → SX → Prop}
    (H5 : pm_pl R D a n = 48 → post 15 (f_frameAt, f_frameLength, f_frameSort, f_frameFlags, f_frameStream, f_down, f_entryCount, f_most, f_typeSeen, f_lastSender, f_sentLength, a_payload, a_life, a_theyEnded, a_weEnded, a_finishing, a_codes, a_windowIn, a_windowOut, a_headers, a_headerCount, a_entries, a_kinds, a_repeats, a_messageCount, a_text, a_nodeCount, a_nodeTypes, a_valueCount, a_valueOwners, a_values, a_skippedCount, a_reader, a_chainNode, a_chainEnd, a_queue, a_queueLength, a_sent, a_nodeSize, a_nodePlace))
    (H0 : ∀ vc vo va, pm_pl R D a n ≠ 48 → cr_XD K s a_nodeCount a_nodeTypes vc vo va (pm_kp R D a n v st) → xr_O 1 s a_valueCount vc → xr_O 48 s a_valueOwners vo → xr_O 48 s a_values va → post 0 (f_frameAt, f_frameLength, f_frameSort, f_frameFlags, f_frameStream, f_down, f_entryCount, f_most, f_typeSeen, f_lastSender, f_sentLength, a_payload, a_life, a_theyEnded, a_weEnded, a_finishing, a_codes, a_windowIn, a_windowOut, a_headers, a_headerCount, a_entries, a_kinds, a_repeats, a_messageCount, a_text, a_nodeCount, a_nodeTypes, vc, vo, va, a_skippedCount, a_reader, a_chainNode, a_chainEnd, a_queue, a_queueLength, a_sent, a_nodeSize, a_nodePlace)) :
    wpX_keepValue post (f_frameAt, f_frameLength, f_frameSort, f_frameFlags, f_frameStream, f_down, f_entryCount, f_most, f_typeSeen, f_lastSender, f_sentLength, a_payload, a_life, a_theyEnded, a_weEnded, a_finishing, a_codes, a_windowIn, a_windowOut, a_headers, a_headerCount, a_entries, a_kinds, a_repeats, a_messageCount, a_text, a_nodeCount, a_nodeTypes, a_valueCount, a_valueOwners, a_values, a_skippedCount, a_reader, a_chainNode, a_chainEnd, a_queue, a_queueLength, a_sent, a_nodeSize, a_nodePlace) (nI s) xv := by
  have hnv := I.2.2.1
  have hle := pm_pl_le (R := R) (D := D) a n
  obtain ⟨g1, g2⟩ := xr_c8 hs
  unfold wpX_keepValue
  refine xw_pt hs I hK hD ha hn hn' hb h7 h10 hcn ?_
  by_cases g : pm_pl R D a n < pm_nv D
  · rw [if_pos g]
    refine br_f (nI_pos (by omega)) ?_
    obtain ⟨c1, c2, c3⟩ := xr_c48 (s := s) (a := pm_pl R D a n) hs (by omega)
    rw [c3]
    exact ⟨c2, nm_e (H0 _ _ _ (by omega) (xr_XD_set g hD hxv) xr_O_r xr_O_r (xr_O_u (by omega)))⟩
  · rw [if_neg g]
    refine br_t (by decide) ⟨g1, ?_⟩
    rw [g2, hD.2.1]
    refine pk_eq (pm_nv D) 48 (fun y => H5 (by omega)) (fun y => ?_)
    exact xw_add hs I hD ha hn' hb h7 h10 hcn (by omega) (H0 _ _ _ (by omega) (xr_XD_add (by omega) (by omega) hs hD hxv) xr_O_1 (xr_O_u (by omega)) (xr_O_u (by omega)))
end
