/-! P: ends that are closed -/
section
variable {f_frameAt f_frameLength f_frameSort f_frameFlags f_frameStream f_down f_entryCount f_most f_typeSeen f_lastSender f_sentLength : Int32} {a_payload a_life a_theyEnded a_weEnded a_finishing a_codes a_windowIn a_windowOut a_headers a_headerCount a_entries a_kinds a_repeats a_messageCount a_text a_nodeCount a_nodeTypes a_valueCount a_valueOwners a_values a_skippedCount a_reader a_chainNode a_chainEnd a_queue a_queueLength a_sent a_nodeSize a_nodePlace : Nat → Int32} {s : Nat} {K : Nat → Nat} {R : Nat → Bool} {L : Nat} {dep : Nat → Nat} {c : pm_C} {D : pm_D}
theorem xr_uu {f : Nat → Int32} {k : Nat} {x y : Int32} : upd (upd f k x) k y = upd f k y := by
  funext j
  rw [pm_upd_eq, pm_upd_eq, pm_upd_eq]
  split <;> rfl
theorem xr_ui {f : Nat → Int32} {k : Nat} {x : Int32} (h : f k = x) : upd f k x = f := by
  funext j
  rw [pm_upd_eq]
  split
  · rename_i g; rw [g, h]
  · rfl
/-- one turn of the loop over the chain -/
theorem xw_clS {t e a k n : Nat} {x3 x5 : Int32} (hs : s < 8) (ht : t ≤ 200) {post : Int32 → SX → Prop} (ha : a ≤ 3) (hk : k < 4)
    (h2 : a_reader (11 * s + 2) = nI t) (h3 : a_reader (11 * s + 3) = x3) (h5 : a_reader (11 * s + 5) = x5) (h10 : a_reader (11 * s + 10) = nI a) (he : a_chainEnd (4 * s + a) = nI e) (he' : e ≤ 200)
    (H0 : t < e → post 0 (f_frameAt, f_frameLength, f_frameSort, f_frameFlags, f_frameStream, f_down, f_entryCount, f_most, f_typeSeen, f_lastSender, f_sentLength, a_payload, a_life, a_theyEnded, a_weEnded, a_finishing, a_codes, a_windowIn, a_windowOut, a_headers, a_headerCount, a_entries, a_kinds, a_repeats, a_messageCount, a_text, a_nodeCount, a_nodeTypes, a_valueCount, a_valueOwners, a_values, a_skippedCount, a_reader, a_chainNode, a_chainEnd, a_queue, a_queueLength, a_sent, a_nodeSize, a_nodePlace))
    (H14 : e ≤ t → ¬ (x3 = 0 ∧ x5 = 0) → post 14 (f_frameAt, f_frameLength, f_frameSort, f_frameFlags, f_frameStream, f_down, f_entryCount, f_most, f_typeSeen, f_lastSender, f_sentLength, a_payload, a_life, a_theyEnded, a_weEnded, a_finishing, a_codes, a_windowIn, a_windowOut, a_headers, a_headerCount, a_entries, a_kinds, a_repeats, a_messageCount, a_text, a_nodeCount, a_nodeTypes, a_valueCount, a_valueOwners, a_values, a_skippedCount, a_reader, a_chainNode, a_chainEnd, a_queue, a_queueLength, a_sent, a_nodeSize, a_nodePlace))
    (H1 : e ≤ t → x3 = 0 → x5 = 0 → a = 0 → post 0 (f_frameAt, f_frameLength, f_frameSort, f_frameFlags, f_frameStream, f_down, f_entryCount, f_most, f_typeSeen, f_lastSender, f_sentLength, a_payload, a_life, a_theyEnded, a_weEnded, a_finishing, a_codes, a_windowIn, a_windowOut, a_headers, a_headerCount, a_entries, a_kinds, a_repeats, upd a_messageCount s (a_messageCount s + 1), a_text, a_nodeCount, a_nodeTypes, a_valueCount, a_valueOwners, a_values, a_skippedCount, upd a_reader (11 * s) 0, a_chainNode, a_chainEnd, a_queue, a_queueLength, a_sent, a_nodeSize, a_nodePlace))
    (H2 : ∀ b, e ≤ t → x3 = 0 → x5 = 0 → a = b + 1 → wX_closeEnds_58 post (nI s) (nI (11 * s)) f_frameAt f_frameLength f_frameSort f_frameFlags f_frameStream f_down f_entryCount f_most f_typeSeen f_lastSender f_sentLength n (nI (k + 1)) a_payload a_life a_theyEnded a_weEnded a_finishing a_codes a_windowIn a_windowOut a_headers a_headerCount a_entries a_kinds a_repeats a_messageCount a_text a_nodeCount a_nodeTypes a_valueCount a_valueOwners a_values a_skippedCount (upd a_reader (11 * s + 10) (nI b)) a_chainNode a_chainEnd a_queue a_queueLength a_sent a_nodeSize a_nodePlace) :
    wX_closeEnds_58 post (nI s) (nI (11 * s)) f_frameAt f_frameLength f_frameSort f_frameFlags f_frameStream f_down f_entryCount f_most f_typeSeen f_lastSender f_sentLength (n + 1) (nI k) a_payload a_life a_theyEnded a_weEnded a_finishing a_codes a_windowIn a_windowOut a_headers a_headerCount a_entries a_kinds a_repeats a_messageCount a_text a_nodeCount a_nodeTypes a_valueCount a_valueOwners a_values a_skippedCount a_reader a_chainNode a_chainEnd a_queue a_queueLength a_sent a_nodeSize a_nodePlace := by
  have i0 := xr_ix (s := s) (k := 0) hs (by omega)
  have i2 := xr_ix (s := s) (k := 2) hs (by omega)
  have i3 := xr_ix (s := s) (k := 3) hs (by omega)
  have i5 := xr_ix (s := s) (k := 5) hs (by omega)
  have i10 := xr_ix (s := s) (k := 10) hs (by omega)
  have e2 : a_reader (nI (11 * s) + 2).toNatClampNeg = nI t := (congrArg a_reader i2.2.2).trans h2
  have e3 : a_reader (nI (11 * s) + 3).toNatClampNeg = x3 := (congrArg a_reader i3.2.2).trans h3
  have e5 : a_reader (nI (11 * s) + 5).toNatClampNeg = x5 := (congrArg a_reader i5.2.2).trans h5
  have e10 : a_reader (nI (11 * s) + 10).toNatClampNeg = nI a := (congrArg a_reader i10.2.2).trans h10
  obtain ⟨c4, c5⟩ := xr_c4 (s := s) (a := a) hs ha
  obtain ⟨g1, g2⟩ := xr_c8 hs
  rw [wX_closeEnds_58]
  refine pk_le 4 k (fun y => absurd y (by omega)) (fun y => ⟨i2.2.1, i10.2.1, ?_⟩)
  rw [e10, e2, e3, e5, c5, he]
  refine ⟨c4, ?_⟩
  refine pk_le e t (fun y => ⟨i3.2.1, ?_⟩) (fun y => H0 y)
  refine br_c (fun z3 => ⟨i5.2.1, br_c (fun z5 => ⟨i10.2.1, ?_⟩) (fun z5 => H14 y (fun w => z5 w.2))⟩) (fun z3 => H14 y (fun w => z3 w.1))
  refine pk_eq a 0 (fun z => ?_) (fun z => ?_)
  · refine ⟨g1, g1, nm_r (by rw [g2]) ⟨i0.2.1, nm_r ?_ (H1 y z3 z5 z)⟩⟩
    exact congrArg (fun j => upd a_reader j 0) i0.2.2
  · obtain ⟨b, rfl⟩ : ∃ b, a = b + 1 := ⟨a - 1, by omega⟩
    refine ⟨i10.2.1, i10.2.1, nm_r (e' := upd a_reader (11 * s + 10) (nI b)) ?_ (nm_r (nI_1 _) (H2 b y z3 z5 rfl))⟩
    rw [nI_pred]
    exact congrArg (fun j => upd a_reader j (nI b)) i10.2.2
/-- an element has come to its end: the parts that end with it -/
theorem xw_clE {t : Nat} {lim : Nat → Nat} (hs : s < 8) (ht : t ≤ 200) (hl0 : lim 0 ≤ 200) {post : Int32 → SX → Prop} (a : Nat) : ∀ (a_reader : Nat → Int32) (k : Nat), k + a ≤ 3 →
    a_reader (11 * s + 2) = nI t → a_reader (11 * s + 3) = 0 → a_reader (11 * s + 5) = 0 → a_reader (11 * s + 10) = nI a →
    (∀ i, i ≤ a → a_chainEnd (4 * s + i) = nI (lim i) ∧ lim i ≤ lim 0 ∧ (i < a → lim (i + 1) ≤ lim i)) → t ≤ lim a →
    (t ≠ lim 0 → post 0 (f_frameAt, f_frameLength, f_frameSort, f_frameFlags, f_frameStream, f_down, f_entryCount, f_most, f_typeSeen, f_lastSender, f_sentLength, a_payload, a_life, a_theyEnded, a_weEnded, a_finishing, a_codes, a_windowIn, a_windowOut, a_headers, a_headerCount, a_entries, a_kinds, a_repeats, a_messageCount, a_text, a_nodeCount, a_nodeTypes, a_valueCount, a_valueOwners, a_values, a_skippedCount, upd a_reader (11 * s + 10) (nI (pm_pop lim t a)), a_chainNode, a_chainEnd, a_queue, a_queueLength, a_sent, a_nodeSize, a_nodePlace)) →
    (t = lim 0 → post 0 (f_frameAt, f_frameLength, f_frameSort, f_frameFlags, f_frameStream, f_down, f_entryCount, f_most, f_typeSeen, f_lastSender, f_sentLength, a_payload, a_life, a_theyEnded, a_weEnded, a_finishing, a_codes, a_windowIn, a_windowOut, a_headers, a_headerCount, a_entries, a_kinds, a_repeats, upd a_messageCount s (a_messageCount s + 1), a_text, a_nodeCount, a_nodeTypes, a_valueCount, a_valueOwners, a_values, a_skippedCount, upd (upd a_reader (11 * s + 10) (nI 0)) (11 * s) 0, a_chainNode, a_chainEnd, a_queue, a_queueLength, a_sent, a_nodeSize, a_nodePlace)) →
    wX_closeEnds_58 post (nI s) (nI (11 * s)) f_frameAt f_frameLength f_frameSort f_frameFlags f_frameStream f_down f_entryCount f_most f_typeSeen f_lastSender f_sentLength (a + 1) (nI k) a_payload a_life a_theyEnded a_weEnded a_finishing a_codes a_windowIn a_windowOut a_headers a_headerCount a_entries a_kinds a_repeats a_messageCount a_text a_nodeCount a_nodeTypes a_valueCount a_valueOwners a_values a_skippedCount a_reader a_chainNode a_chainEnd a_queue a_queueLength a_sent a_nodeSize a_nodePlace := by
  induction a with
  | zero =>
    intro a_reader k hk h2 h3 h5 h10 hl hta H1 H2
    refine xw_clS hs ht (by omega) (by omega) h2 h3 h5 h10 (hl 0 (Nat.le_refl _)).1 hl0 (fun y => ?_) (fun _ y => absurd ⟨rfl, rfl⟩ y) (fun y _ _ _ => ?_) (fun b _ _ _ y => absurd y (by omega))
    · have := H1 (by omega)
      rw [show pm_pop lim t 0 = 0 from rfl, xr_ui h10] at this
      exact this
    · have := H2 (by omega)
      rw [xr_ui h10] at this
      exact this
  | succ a ih =>
    intro a_reader k hk h2 h3 h5 h10 hl hta H1 H2
    have hla := hl (a + 1) (Nat.le_refl _)
    have hlb := hl a (by omega)
    refine xw_clS hs ht (by omega) (by omega) h2 h3 h5 h10 hla.1 (by omega) (fun y => ?_) (fun _ y => absurd ⟨rfl, rfl⟩ y) (fun y _ _ z => absurd z (by omega)) (fun b y _ _ z => ?_)
    · have := H1 (by omega)
      rw [pm_pop, if_neg (by omega), xr_ui h10] at this
      exact this
    · have hb : b = a := by omega
      subst hb
      refine ih (upd a_reader (11 * s + 10) (nI b)) (k + 1) (by omega) (by rw [xr_u, if_neg (by omega)]; exact h2) (by rw [xr_u, if_neg (by omega)]; exact h3) (by rw [xr_u, if_neg (by omega)]; exact h5) (by rw [xr_u, if_pos rfl]) (fun i hi => ⟨(hl i (by omega)).1, (hl i (by omega)).2.1, fun w => (hl i (by omega)).2.2 (by omega)⟩) ?_ (fun w => ?_) (fun w => ?_)
      · have := hlb.2.2 (by omega)
        omega
      · have := H1 w
        rw [pm_pop, if_pos (by omega)] at this
        rw [xr_uu]; exact this
      · rw [xr_uu]; exact H2 w
end
