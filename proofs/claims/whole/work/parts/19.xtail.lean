/-! S4: what a byte leads to -/
section
/-- outside the stream nothing changes -/
def xr_fr (s : Nat) (mc nc nt vc vo va sk rd cn ce mc' nc' nt' vc' vo' va' sk' rd' cn' ce' : Nat → Int32) : Prop :=
  xr_O 1 s mc mc' ∧ xr_O 1 s nc nc' ∧ xr_O 16 s nt nt' ∧ xr_O 1 s vc vc' ∧ xr_O 48 s vo vo' ∧ xr_O 48 s va va' ∧ xr_O 1 s sk sk' ∧ xr_O 11 s rd rd' ∧ xr_O 4 s cn cn' ∧ xr_O 4 s ce ce' ∧ nt' (16 * s) = nt (16 * s)
/-- a byte more: an error, on the way, or whole -/
def xr_sp (K : Nat → Nat) (R : Nat → Bool) (s y L t : Nat) (B : Nat → Nat) (mc rd : Nat → Int32) (code : Nat) (mc' nc' nt' vc' vo' va' sk' rd' cn' ce' : Nat → Int32) : Prop :=
  (code ≠ 0 ∧ code ≤ 5 ∧ mc' = mc ∧ rd' (11 * s) = rd (11 * s) ∧ ∃ r, pm_Rd B K R t (cr_0 y L) r ∧ r.1 = code) ∨
  (code = 0 ∧ mc' = mc ∧ rd' (11 * s) = rd (11 * s) ∧ cr_inc K R s y L t B nc' nt' vc' vo' va' sk' rd' cn' ce' ∧ ∃ r, pm_Rd B K R t (cr_0 y L) r ∧ r.1 = 9) ∨
  (code = 0 ∧ t = L ∧ mc' = upd mc s (mc s + 1) ∧ rd' (11 * s) = 0 ∧ cr_done K R s y L B nc' nt' vc' vo' va' sk')
variable {B : Nat → Nat} {K : Nat → Nat} {R : Nat → Bool} {L t y : Nat} {dep : Nat → Nat} {c : pm_C} {h f q d w : Nat}
theorem pm_go_9 (hp : cr_ph K R t c h f q d w) : pm_go B K R t c h f q d w = (9, c) := by
  obtain ⟨p1, p2, p3⟩ := hp
  unfold pm_go
  rcases p3 with ⟨e, a1, a2, a3⟩ | ⟨e, a1, a2, a3, a4, a5⟩ | ⟨e, a1, a2, a3, a4, a5⟩ | ⟨e, a1, a2, a3, a4, a5, a6⟩ | ⟨e, a1, a2, a3, a4, a5, a6⟩
  · have he : pm_end c = pm_lim c (pm_at c) := by unfold pm_end; exact if_pos a3
    rw [if_pos e]
    exact pm_goT_9 a2 (by omega) (by omega)
  · have he : pm_end c = pm_lim c (pm_at c) := by unfold pm_end; exact if_pos a3
    rw [if_neg (by omega), if_pos e]
    exact pm_goL_9 a2 (by omega) (by omega)
  · rw [if_neg (by omega), if_neg (by omega), if_pos e]
    exact pm_goV_9 a2 (by omega) (by omega)
  · rw [if_neg (by omega), if_neg (by omega), if_neg (by omega), if_pos e]
    exact pm_goF_9 (by omega) p1
  · rw [if_neg (by omega), if_neg (by omega), if_neg (by omega), if_neg (by omega)]
    unfold pm_body
    by_cases f0 : f = 0
    · rw [if_pos f0, if_pos a2]
    · rw [if_neg f0, if_pos (a6 f0).1, if_neg (a6 f0).2, if_pos a2]
/-- what comes to the reference's end here -/
theorem cr_at {g : (Nat → Nat) → Nat → Nat × pm_C} {x : Nat} (H : cr_from K R y L t B g) (hg : g B t = (x, c)) (hx : x ≠ 0) : ∃ r, pm_Rd B K R t (cr_0 y L) r ∧ r.1 = x :=
  ⟨(x, c), H t B (Nat.le_refl _) (fun _ _ => rfl) _ (by rw [hg]; exact Or.inr ⟨hx, rfl⟩), rfl⟩
/-- one byte on -/
theorem cr_on {B1 : Nat → Nat} {g g1 : (Nat → Nat) → Nat → Nat × pm_C} (H : cr_from K R y L t B g) (hB : ∀ i, i < t → B1 i = B i)
    (hg : ∀ T B', t + 1 ≤ T → (∀ i, i < t + 1 → B' i = B1 i) → ∀ r, pm_Rp B' K R T (g1 B' T) r → pm_Rp B' K R T (g B' T) r) : cr_from K R y L (t + 1) B1 g1 := by
  intro T B' hT hB' r hr
  exact H T B' (by omega) (fun i hi => (hB' i (by omega)).trans (hB i hi)) r (hg T B' hT hB' r hr)
variable {f_frameAt f_frameLength f_frameSort f_frameFlags f_frameStream f_down f_entryCount f_most f_typeSeen f_lastSender f_sentLength : Int32} {a_payload a_life a_theyEnded a_weEnded a_finishing a_codes a_windowIn a_windowOut a_headers a_headerCount a_entries a_kinds a_repeats a_messageCount a_text a_nodeCount a_nodeTypes a_valueCount a_valueOwners a_values a_skippedCount a_reader a_chainNode a_chainEnd a_queue a_queueLength a_sent a_nodeSize a_nodePlace : Nat → Int32} {s : Nat} {mc0 rd0 : Nat → Int32}
/-- within an element -/
theorem xt_mid {post : Int32 → SX → Prop} (hs : s < 8) (hL : L ≤ 200) (I : pm_CI K R L dep c) (htL : t ≤ L)
    (hph : t < pm_end c → cr_ph K R t c h f q d w) (hte : t ≤ pm_end c) (h4 : t = pm_end c → pm_go B K R t c h f q d w = (4, c))
    (hne : h ≠ 0 ∨ d ≠ 0) (hh : h ≤ 4) (hd : d ≤ 10) (hrd : pm_row c ≠ 0 → h < 4 ∧ d ≠ 0)
    (hreg : cr_reg s t B c h f q d w a_reader a_chainNode a_chainEnd) (hXD : cr_XD K s a_nodeCount a_nodeTypes a_valueCount a_valueOwners a_values (cr_D R c h f q w)) (hsk : a_skippedCount s = nI (pm_sk c))
    (hfrom : cr_from K R y L t B (fun B' T => pm_go B' K R T c h f q d w)) (hmc : a_messageCount = mc0) (hr0 : a_reader (11 * s) = rd0 (11 * s))
    (H : ∀ code, xr_sp K R s y L t B mc0 rd0 code a_messageCount a_nodeCount a_nodeTypes a_valueCount a_valueOwners a_values a_skippedCount a_reader a_chainNode a_chainEnd → post (if code = 0 then 0 else nI (10 + code)) (f_frameAt, f_frameLength, f_frameSort, f_frameFlags, f_frameStream, f_down, f_entryCount, f_most, f_typeSeen, f_lastSender, f_sentLength, a_payload, a_life, a_theyEnded, a_weEnded, a_finishing, a_codes, a_windowIn, a_windowOut, a_headers, a_headerCount, a_entries, a_kinds, a_repeats, a_messageCount, a_text, a_nodeCount, a_nodeTypes, a_valueCount, a_valueOwners, a_values, a_skippedCount, a_reader, a_chainNode, a_chainEnd, a_queue, a_queueLength, a_sent, a_nodeSize, a_nodePlace)) :
    wX_readByte_212 post (nI s) 0 f_frameAt f_frameLength f_frameSort f_frameFlags f_frameStream f_down f_entryCount f_most f_typeSeen f_lastSender f_sentLength a_payload a_life a_theyEnded a_weEnded a_finishing a_codes a_windowIn a_windowOut a_headers a_headerCount a_entries a_kinds a_repeats a_messageCount a_text a_nodeCount a_nodeTypes a_valueCount a_valueOwners a_values a_skippedCount a_reader a_chainNode a_chainEnd a_queue a_queueLength a_sent a_nodeSize a_nodePlace := by
  obtain ⟨r2, r3, r45, r63, r64, r7, r8, r9, r10, rch⟩ := hreg
  unfold wX_readByte_212
  refine br_t rfl ?_
  refine xw_mid (x3 := nI h) (x5 := a_reader (11 * s + 5)) hs I hL r2 r3 rfl (fun z => ?_) r8 r10 (rch _ (Nat.le_refl _)).2 (fun z1 z2 => ?_) hte (fun z => ?_) (fun z => ?_)
  · have e3 := (nI_eq (a := h) (b := 0) (by omega) (by omega)).mp z.1
    have := (r45 (by omega)).2
    rw [this] at z
    have e5 := (nI_eq (a := d) (b := 0) (by omega) (by omega)).mp z.2
    omega
  · obtain ⟨y1, y2⟩ := hrd z1
    rw [(r45 y1).2] at z2
    have e5 := (nI_eq (a := d) (b := 0) (by omega) (by omega)).mp z2
    omega
  · have hp := hph z
    refine H 0 (Or.inr (Or.inl ⟨rfl, hmc, hr0, ?_, cr_at hfrom (pm_go_9 hp) (by omega)⟩))
    have hel := pm_end_le I
    exact ⟨dep, c, h, f, q, d, w, by omega, I, hp, ⟨r2, r3, r45, r63, r64, r7, r8, r9, r10, rch⟩, hXD, hsk, hfrom⟩
  · exact H 4 (Or.inl ⟨by omega, by omega, hmc, hr0, cr_at hfrom (h4 z) (by omega)⟩)
end
