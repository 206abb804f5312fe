/-! Z7: the component's measure -/
section
variable {K : Nat → Nat} {R : Nat → Bool} {L : Nat} {dep : Nat → Nat} {D : pm_D} {a n : Nat} {S : Nat → Nat}
theorem sz_sm_add (h h' : Nat → Nat) : ∀ c, sz_sm D a n (fun j => h j + h' j) c = sz_sm D a n h c + sz_sm D a n h' c
  | 0 => rfl
  | c + 1 => by
    rw [sz_sm, sz_sm, sz_sm, sz_sm_add h h' c]
    split <;> omega
theorem sz_ns_1 {h : Nat → Nat} : ∀ m i, 1 ≤ i → i ≤ m → h i ≤ sz_ns h m
  | 0, i, h1, h2 => absurd h1 (by omega)
  | m + 1, i, h1, h2 => by
    rw [sz_ns]
    by_cases z : i = m + 1
    · subst z; omega
    · have := sz_ns_1 (h := h) m i h1 (by omega)
      omega
theorem sz_b_1 {k : Nat} {x : Int32} (h0 : k ≠ 0) (h4 : k < 4) : 1 ≤ sz_b k x S := by
  unfold sz_b
  split
  · exact (sz_w_le _).2
  split
  · exact (sz_w_le _).2
  split
  · omega
  · omega
theorem sz_l_1 {k : Nat} {x : Int32} (h0 : k ≠ 0) : 1 ≤ sz_l k x S := by
  unfold sz_l
  by_cases h : 3 < k
  · rw [if_pos h]
    have := (sz_w_le (sz_b k x S)).2
    omega
  · rw [if_neg h]
    have := sz_b_1 (x := x) (S := S) h0 (by omega)
    omega
theorem sz_l_s {k : Nat} {x : Int32} (h : k < 4) : sz_l k x S = sz_b k x S := by
  unfold sz_l; rw [if_neg (by omega)]; rfl
/-- the bodies of a field -/
def sz_bd (K : Nat → Nat) (D : pm_D) (S : Nat → Nat) (a n : Nat) : Nat := sz_sm D a n (fun j => sz_l (K (sz_j D a n)) (pm_va D j) S) (pm_nv D)
theorem sz_bd_r (h : K (sz_j D a n) < 4) : sz_bd K D S a n = sz_row K D S a n := sz_sm_g _ (fun j _ _ _ => sz_l_s h)
theorem sz_kk {j : Nat} (h1 : pm_vn D j = a) (h2 : pm_vm D j = n) : pm_kk K D j = K (sz_j D a n) := by
  unfold sz_j; simp only [pm_kk]; rw [h1, h2]
theorem sz_bd_f (I : pm_DI K L dep D) : sz_f K R D S a n = if sz_bd K D S a n = 0 then 0 else if K (sz_j D a n) < 4 ∧ R (sz_j D a n) = true then 1 + sz_w (sz_bd K D S a n) + sz_bd K D S a n else sz_sm D a n (fun _ => 1) (pm_nv D) + sz_bd K D S a n := by
  unfold sz_f
  by_cases p : K (sz_j D a n) < 4 ∧ R (sz_j D a n) = true
  · rw [if_pos p, if_pos p, sz_bd_r p.1]
  · rw [if_neg p, if_neg p, sz_sm_add]
    show _ + sz_bd K D S a n = _
    have hm : sz_sm D a n (fun _ => 1) (pm_nv D) ≤ sz_bd K D S a n := sz_sm_mono _ (fun j hj z1 z2 => by
      refine sz_l_1 ?_
      rw [← sz_kk (K := K) z1 z2]
      exact (I.2.2.2.2.2.1 j hj).2.2.2.1)
    split <;> omega
theorem sz_bd_le (I : pm_DI K L dep D) (hL : L ≤ 200) (ha : a < pm_nn D) (h1 : 1 ≤ n) (h2 : n ≤ 15) : sz_bd K D (sz_S K R D) a n ≤ sz_f K R D (sz_S K R D) a n ∧ sz_f K R D (sz_S K R D) a n < 2 ^ 31 := by
  have e := sz_S_e (R := R) I ha
  have e2 := sz_ns_1 (h := sz_f K R D (sz_S K R D) a) 15 n h1 h2
  have e3 := sz_S_le (R := R) I hL a
  have e4 : sz_n K R D (sz_S K R D) a = sz_ns (sz_f K R D (sz_S K R D) a) 15 := rfl
  refine ⟨?_, by omega⟩
  rw [sz_bd_f I]
  split
  · omega
  split <;> omega
variable {f_frameAt f_frameLength f_frameSort f_frameFlags f_frameStream f_down f_entryCount f_most f_typeSeen f_lastSender f_sentLength : Int32} {a_payload a_life a_theyEnded a_weEnded a_finishing a_codes a_windowIn a_windowOut a_headers a_headerCount a_entries a_kinds a_repeats a_messageCount a_text a_nodeCount a_nodeTypes a_valueCount a_valueOwners a_values a_skippedCount a_reader a_chainNode a_chainEnd a_queue a_queueLength a_sent a_nodeSize a_nodePlace : Nat → Int32} {s : Nat}
theorem zx_bd {post : Int32 → Prop} (hs : s < 8) (hK : cr_K a_kinds a_repeats K R) (hD : cr_XD K s a_nodeCount a_nodeTypes a_valueCount a_valueOwners a_values D) (I : pm_DI K L dep D) (hL : L ≤ 200) (hn : n ≤ 15) (ha : a < pm_nn D)
    (hS : ∀ m, a < m → m < pm_nn D → a_nodeSize m = nI (sz_S K R D m)) (H : post (nI (sz_bd K D (sz_S K R D) a n))) : wpX_sizeOfBodies post (f_frameAt, f_frameLength, f_frameSort, f_frameFlags, f_frameStream, f_down, f_entryCount, f_most, f_typeSeen, f_lastSender, f_sentLength, a_payload, a_life, a_theyEnded, a_weEnded, a_finishing, a_codes, a_windowIn, a_windowOut, a_headers, a_headerCount, a_entries, a_kinds, a_repeats, a_messageCount, a_text, a_nodeCount, a_nodeTypes, a_valueCount, a_valueOwners, a_values, a_skippedCount, a_reader, a_chainNode, a_chainEnd, a_queue, a_queueLength, a_sent, a_nodeSize, a_nodePlace) (nI s) (nI a) (nI n) :=
  zx_bodies hs hK hD I hL hn ha (fun m g1 g2 => ⟨hS m g1 g2, by have := sz_S_le (R := R) I hL m; omega⟩) H
theorem zx_field {post : Int32 → Prop} (hs : s < 8) (hK : cr_K a_kinds a_repeats K R) (hD : cr_XD K s a_nodeCount a_nodeTypes a_valueCount a_valueOwners a_values D) (I : pm_DI K L dep D) (hL : L ≤ 200) (h1 : 1 ≤ n) (hn : n ≤ 15) (ha : a < pm_nn D)
    (hS : ∀ m, a < m → m < pm_nn D → a_nodeSize m = nI (sz_S K R D m))
    (H : post (nI (sz_f K R D (sz_S K R D) a n))) : wpX_sizeOfField post (f_frameAt, f_frameLength, f_frameSort, f_frameFlags, f_frameStream, f_down, f_entryCount, f_most, f_typeSeen, f_lastSender, f_sentLength, a_payload, a_life, a_theyEnded, a_weEnded, a_finishing, a_codes, a_windowIn, a_windowOut, a_headers, a_headerCount, a_entries, a_kinds, a_repeats, a_messageCount, a_text, a_nodeCount, a_nodeTypes, a_valueCount, a_valueOwners, a_values, a_skippedCount, a_reader, a_chainNode, a_chainEnd, a_queue, a_queueLength, a_sent, a_nodeSize, a_nodePlace) (nI s) (nI a) (nI n) := by
  have hnn := I.2.1
  have hnv := I.2.2.1
  obtain ⟨b1, b2⟩ := sz_bd_le (R := R) I hL ha h1 hn
  rw [sz_bd_f I] at H
  unfold wpX_sizeOfField
  refine zx_bd (R := R) hs hK hD I hL hn ha hS ?_
  refine pk_eq (sz_bd K D (sz_S K R D) a n) 0 (fun z => ?_) (fun z => ?_)
  · rw [if_pos z] at H; exact H
  · rw [if_neg z] at H
    refine zx_packed hs hK hD I hn ha (fun p => br_f (by decide) ?_) (fun p => br_t rfl ?_)
    · rw [if_pos p] at H
      rw [nI_l (by omega)]
      refine zx_size (by omega) ?_
      rw [show (1 : Int32) = nI 1 from rfl, nI_add, nI_add]
      exact H
    · rw [if_neg p] at H
      unfold wpX_countValues
      refine ⟨pm_nv D + 1, lo_cnt hs hD hnv hn (by omega) (xr_DB I) ?_ (pm_nv D) 0 (by omega)⟩
      rw [lo_c_sm (xr_DB I) (by omega) hn _ (Nat.le_refl _), nI_add]
      exact H
theorem zx_m22 {post : Int32 → SX → Prop} {J : Int32 → (Nat → Int32) → (Nat → Int32) → (Nat → Int32) → (Nat → Int32) → (Nat → Int32) → (Nat → Int32) → (Nat → Int32) → (Nat → Int32) → (Nat → Int32) → (Nat → Int32) → (Nat → Int32) → (Nat → Int32) → (Nat → Int32) → (Nat → Int32) → (Nat → Int32) → (Nat → Int32) → (Nat → Int32) → (Nat → Int32) → (Nat → Int32) → (Nat → Int32) → (Nat → Int32) → (Nat → Int32) → (Nat → Int32) → (Nat → Int32) → (Nat → Int32) → (Nat → Int32) → (Nat → Int32) → (Nat → Int32) → (Nat → Int32) → Prop} (hs : s < 8) (hK : cr_K a_kinds a_repeats K R) (hD : cr_XD K s a_nodeCount a_nodeTypes a_valueCount a_valueOwners a_values D) (I : pm_DI K L dep D) (hL : L ≤ 200) (ha : a < pm_nn D)
    (H : ∀ ns : Nat → Int32, (∀ m, a ≤ m → m < pm_nn D → ns m = nI (sz_S K R D m)) → J (nI a + (-1)) a_payload a_life a_theyEnded a_weEnded a_finishing a_codes a_windowIn a_windowOut a_headers a_headerCount a_entries a_kinds a_repeats a_messageCount a_text a_nodeCount a_nodeTypes a_valueCount a_valueOwners a_values a_skippedCount a_reader a_chainNode a_chainEnd a_queue a_queueLength a_sent (ns) a_nodePlace) : ∀ f j ns, j + f = 15 → (∀ m, a < m → m < pm_nn D → ns m = nI (sz_S K R D m)) → ns a = nI (sz_ns (sz_f K R D (sz_S K R D) a) j) →
    wX_measure_22 post J (nI s) (nI a) f_frameAt f_frameLength f_frameSort f_frameFlags f_frameStream f_down f_entryCount f_most f_typeSeen f_lastSender f_sentLength (f + 1) (nI (j + 1)) a_payload a_life a_theyEnded a_weEnded a_finishing a_codes a_windowIn a_windowOut a_headers a_headerCount a_entries a_kinds a_repeats a_messageCount a_text a_nodeCount a_nodeTypes a_valueCount a_valueOwners a_values a_skippedCount a_reader a_chainNode a_chainEnd a_queue a_queueLength a_sent (ns) a_nodePlace
  | 0, j, ns, hj, h1, h2 => by
    have : j = 15 := by omega
    subst this
    rw [wX_measure_22]
    refine pk_le 16 16 (fun _ => nm_r rfl (H ns (fun m g1 g2 => ?_))) (fun g => absurd g (by omega))
    by_cases z : m = a
    · subst z
      rw [h2, sz_S_e (R := R) I ha]; rfl
    · exact h1 m (by omega) g2
  | f + 1, j, ns, hj, h1, h2 => by
    have hnn := I.2.1
    rw [wX_measure_22]
    have in16 : vp_in (nI a) 16 := vp_in_nI (by omega) (by omega)
    have cl : (nI a).toNatClampNeg = a := nI_clamp (by omega)
    refine pk_le 16 (j + 1) (fun g => absurd g (by omega)) (fun g => ⟨in16, zx_field hs hK hD I hL (by omega) (by omega) ha h1 ⟨in16, nm_r rfl (nm_r (nI_1 _) ?_)⟩⟩)
    refine zx_m22 hs hK hD I hL ha H f (j + 1) _ (by omega) (fun m g1 g2 => ?_) ?_
    · rw [cl, pk_un (by omega)]; exact h1 m g1 g2
    · rw [cl, pk_us, h2, nI_add]; rfl
theorem zx_m9 {post : Int32 → SX → Prop} (hs : s < 8) (hK : cr_K a_kinds a_repeats K R) (hD : cr_XD K s a_nodeCount a_nodeTypes a_valueCount a_valueOwners a_values D) (I : pm_DI K L dep D) (hL : L ≤ 200)
    (H : ∀ ns : Nat → Int32, (∀ m, m < pm_nn D → ns m = nI (sz_S K R D m)) → post (nI (sz_S K R D 0)) (f_frameAt, f_frameLength, f_frameSort, f_frameFlags, f_frameStream, f_down, f_entryCount, f_most, f_typeSeen, f_lastSender, f_sentLength, a_payload, a_life, a_theyEnded, a_weEnded, a_finishing, a_codes, a_windowIn, a_windowOut, a_headers, a_headerCount, a_entries, a_kinds, a_repeats, a_messageCount, a_text, a_nodeCount, a_nodeTypes, a_valueCount, a_valueOwners, a_values, a_skippedCount, a_reader, a_chainNode, a_chainEnd, a_queue, a_queueLength, a_sent, ns, a_nodePlace)) : ∀ b ns, b ≤ pm_nn D → (∀ m, b ≤ m → m < pm_nn D → ns m = nI (sz_S K R D m)) →
    wX_measure_9 post (nI s) f_frameAt f_frameLength f_frameSort f_frameFlags f_frameStream f_down f_entryCount f_most f_typeSeen f_lastSender f_sentLength (b + 1) (nI b + (-1)) a_payload a_life a_theyEnded a_weEnded a_finishing a_codes a_windowIn a_windowOut a_headers a_headerCount a_entries a_kinds a_repeats a_messageCount a_text a_nodeCount a_nodeTypes a_valueCount a_valueOwners a_values a_skippedCount a_reader a_chainNode a_chainEnd a_queue a_queueLength a_sent (ns) a_nodePlace
  | 0, ns, hb, h1 => by
    rw [wX_measure_9]
    have h0 := I.1
    have e := h1 0 (by omega) (by omega)
    have := H ns (fun m hm => h1 m (by omega) hm)
    rw [← e] at this
    exact br_t (by decide) this
  | b + 1, ns, hb, h1 => by
    have hnn := I.2.1
    rw [wX_measure_9, pk_m1]
    refine br_f (nI_pos (by omega)) ⟨vp_in_nI (by omega) (by omega), nm_r rfl ⟨16, ?_⟩⟩
    have cl : (nI b).toNatClampNeg = b := nI_clamp (by omega)
    refine zx_m22 hs hK hD I hL (by omega) (fun ns' h' => zx_m9 hs hK hD I hL H b ns' (by omega) h') 15 0 _ rfl (fun m g1 g2 => ?_) ?_
    · rw [cl, pk_un (by omega)]; exact h1 m (by omega) g2
    · rw [cl, pk_us]; rfl
theorem zx_measure {post : Int32 → SX → Prop} (hs : s < 8) (hK : cr_K a_kinds a_repeats K R) (hD : cr_XD K s a_nodeCount a_nodeTypes a_valueCount a_valueOwners a_values D) (I : pm_DI K L dep D) (hL : L ≤ 200)
    (H : ∀ ns : Nat → Int32, (∀ m, m < pm_nn D → ns m = nI (sz_S K R D m)) → post (nI (sz_S K R D 0)) (f_frameAt, f_frameLength, f_frameSort, f_frameFlags, f_frameStream, f_down, f_entryCount, f_most, f_typeSeen, f_lastSender, f_sentLength, a_payload, a_life, a_theyEnded, a_weEnded, a_finishing, a_codes, a_windowIn, a_windowOut, a_headers, a_headerCount, a_entries, a_kinds, a_repeats, a_messageCount, a_text, a_nodeCount, a_nodeTypes, a_valueCount, a_valueOwners, a_values, a_skippedCount, a_reader, a_chainNode, a_chainEnd, a_queue, a_queueLength, a_sent, ns, a_nodePlace)) : wpX_measure post (f_frameAt, f_frameLength, f_frameSort, f_frameFlags, f_frameStream, f_down, f_entryCount, f_most, f_typeSeen, f_lastSender, f_sentLength, a_payload, a_life, a_theyEnded, a_weEnded, a_finishing, a_codes, a_windowIn, a_windowOut, a_headers, a_headerCount, a_entries, a_kinds, a_repeats, a_messageCount, a_text, a_nodeCount, a_nodeTypes, a_valueCount, a_valueOwners, a_values, a_skippedCount, a_reader, a_chainNode, a_chainEnd, a_queue, a_queueLength, a_sent, a_nodeSize, a_nodePlace) (nI s) := by
  unfold wpX_measure
  refine ⟨(xr_c8 hs).1, nm_r (e' := nI (pm_nn D) + (-1)) (by rw [(xr_c8 hs).2, hD.1, Int32.sub_eq_add_neg]) ⟨pm_nn D + 1, ?_⟩⟩
  exact zx_m9 hs hK hD I hL H (pm_nn D) _ (Nat.le_refl _) (fun m g1 g2 => absurd g1 (by omega))
end
