/-! S9: a byte with which a length ends -/
section
variable {f_frameAt f_frameLength f_frameSort f_frameFlags f_frameStream f_down f_entryCount f_most f_typeSeen f_lastSender f_sentLength : Int32} {a_payload a_life a_theyEnded a_weEnded a_finishing a_codes a_windowIn a_windowOut a_headers a_headerCount a_entries a_kinds a_repeats a_messageCount a_text a_nodeCount a_nodeTypes a_valueCount a_valueOwners a_values a_skippedCount a_reader a_chainNode a_chainEnd a_queue a_queueLength a_sent a_nodeSize a_nodePlace : Nat → Int32} {B B1 : Nat → Nat} {K : Nat → Nat} {R : Nat → Bool} {L t y : Nat} {dep : Nat → Nat} {c : pm_C} {s f : Nat} {rd0 : Nat → Int32}
theorem xr_bd_k (s : Nat) (x : Int32) (rd : Nat → Int32) (k : Nat) : xr_bd s x rd (11 * s + k) = if k = 6 then x else if k = 3 then 4 else rd (11 * s + k) := by
  unfold xr_bd
  rw [xr_u, xr_u]
theorem xr_rw_k (s : Nat) (h e : Int32) (rd : Nat → Int32) (k : Nat) : xr_rw s h e rd (11 * s + k) = if k = 8 then e else if k = 6 then 4 else if k = 5 ∨ k = 4 then 0 else if k = 3 then h else rd (11 * s + k) := by
  unfold xr_rw
  rw [xr_u, xr_u, xr_bN_k]
theorem xb_len {x : Int32} {rd2 : Nat → Int32} {g : (Nat → Nat) → Nat → Nat × pm_C} {post : Int32 → SX → Prop} (hs : s < 8) (hL : L ≤ 200) (I : pm_CI K R L dep c) (hK : cr_K a_kinds a_repeats K R) (hr : pm_row c = 0) (hpt : pm_pos c ≤ t) (hte : t + 1 ≤ pm_end c)
    (hf15 : f ≤ 15) (hf : f ≠ 0 → K (pm_fj c f) ≠ 0 ∧ (K (pm_fj c f) ≤ 3 → R (pm_fj c f) = true))
    (r2 : rd2 (11 * s + 2) = nI (t + 1)) (r4 : rd2 (11 * s + 4) = x) (r7 : rd2 (11 * s + 7) = nI (if f = 0 then 0 else pm_fj c f)) (r8 : rd2 (11 * s + 8) = nI (pm_row c)) (r9 : rd2 (11 * s + 9) = nI (pm_pos c)) (r10 : rd2 (11 * s + 10) = nI (pm_at c))
    (r0 : rd2 (11 * s) = rd0 (11 * s)) (rO : xr_O 11 s rd0 rd2) (rch : ∀ i, i ≤ pm_at c → a_chainNode (4 * s + i) = nI (pm_ins c i) ∧ a_chainEnd (4 * s + i) = nI (pm_lim c i))
    (hXD : cr_XD K s a_nodeCount a_nodeTypes a_valueCount a_valueOwners a_values (pm_d c)) (hsk : a_skippedCount s = nI (pm_sk c))
    (hfrom : cr_from K R y L t B g) (hB : ∀ i, i < t → B1 i = B i) (hg : ∀ T B', t + 1 ≤ T → (∀ i, i < t + 1 → B' i = B1 i) → g B' T = pm_len K R T c f (t + 1) x)
    (H : ∀ code mc' nc' nt' vc' vo' va' sk' rd' cn' ce', xr_fr s a_messageCount a_nodeCount a_nodeTypes a_valueCount a_valueOwners a_values a_skippedCount rd0 a_chainNode a_chainEnd mc' nc' nt' vc' vo' va' sk' rd' cn' ce' →
      xr_sp K R s y L (t + 1) B1 a_messageCount rd0 code mc' nc' nt' vc' vo' va' sk' rd' cn' ce' →
      post (if code = 0 then 0 else nI (10 + code)) (f_frameAt, f_frameLength, f_frameSort, f_frameFlags, f_frameStream, f_down, f_entryCount, f_most, f_typeSeen, f_lastSender, f_sentLength, a_payload, a_life, a_theyEnded, a_weEnded, a_finishing, a_codes, a_windowIn, a_windowOut, a_headers, a_headerCount, a_entries, a_kinds, a_repeats, mc', a_text, nc', nt', vc', vo', va', sk', rd', cn', ce', a_queue, a_queueLength, a_sent, a_nodeSize, a_nodePlace)) :
    wpX_endLength (fun r u => match u with | (f_frameAt, f_frameLength, f_frameSort, f_frameFlags, f_frameStream, f_down, f_entryCount, f_most, f_typeSeen, f_lastSender, f_sentLength, a_payload, a_life, a_theyEnded, a_weEnded, a_finishing, a_codes, a_windowIn, a_windowOut, a_headers, a_headerCount, a_entries, a_kinds, a_repeats, a_messageCount, a_text, a_nodeCount, a_nodeTypes, a_valueCount, a_valueOwners, a_values, a_skippedCount, a_reader, a_chainNode, a_chainEnd, a_queue, a_queueLength, a_sent, a_nodeSize, a_nodePlace) => wX_readByte_212 post (nI s) r f_frameAt f_frameLength f_frameSort f_frameFlags f_frameStream f_down f_entryCount f_most f_typeSeen f_lastSender f_sentLength a_payload a_life a_theyEnded a_weEnded a_finishing a_codes a_windowIn a_windowOut a_headers a_headerCount a_entries a_kinds a_repeats a_messageCount a_text a_nodeCount a_nodeTypes a_valueCount a_valueOwners a_values a_skippedCount a_reader a_chainNode a_chainEnd a_queue a_queueLength a_sent a_nodeSize a_nodePlace) (f_frameAt, f_frameLength, f_frameSort, f_frameFlags, f_frameStream, f_down, f_entryCount, f_most, f_typeSeen, f_lastSender, f_sentLength, a_payload, a_life, a_theyEnded, a_weEnded, a_finishing, a_codes, a_windowIn, a_windowOut, a_headers, a_headerCount, a_entries, a_kinds, a_repeats, a_messageCount, a_text, a_nodeCount, a_nodeTypes, a_valueCount, a_valueOwners, a_values, a_skippedCount, rd2, a_chainNode, a_chainEnd, a_queue, a_queueLength, a_sent, a_nodeSize, a_nodePlace) (nI s) := by
  have he : pm_end c = pm_lim c (pm_at c) := by unfold pm_end; exact if_pos hr
  have hel := pm_end_le I
  have hin := I.2.2.2.2.1 (pm_at c) (Nat.le_refl _)
  have hty := (I.1.2.2.2.2.1 _ hin.1).1
  have bdO : ∀ z, xr_O 11 s rd0 (xr_bd s z rd2) := by
    intro z
    refine xr_O_t rO (fun j hj => ?_)
    unfold xr_bd
    rw [xr_o (by omega) hj, xr_o (by omega) hj]
  have bd0 : ∀ z, xr_bd s z rd2 (11 * s) = rd0 (11 * s) := by
    intro z
    refine (xr_bd_k s z rd2 0).trans ?_
    rw [if_neg (by omega), if_neg (by omega)]; exact r0
  have bEO : ∀ rd', xr_O 11 s rd0 rd' → xr_O 11 s rd0 (xr_bE s rd') := fun rd' h => xr_O_t h (fun j hj => xr_bE_o hj)
  -- errors
  have herr : ∀ (x' : Nat) rd', x' ≠ 0 → x' ≤ 5 → (∀ T B', t + 1 ≤ T → (∀ i, i < t + 1 → B' i = B1 i) → g B' T = (x', c)) → rd' (11 * s) = rd0 (11 * s) → xr_O 11 s rd0 rd' → wX_readByte_212 post (nI s) (nI (10 + x')) f_frameAt f_frameLength f_frameSort f_frameFlags f_frameStream f_down f_entryCount f_most f_typeSeen f_lastSender f_sentLength a_payload a_life a_theyEnded a_weEnded a_finishing a_codes a_windowIn a_windowOut a_headers a_headerCount a_entries a_kinds a_repeats a_messageCount a_text a_nodeCount a_nodeTypes a_valueCount a_valueOwners a_values a_skippedCount (rd') a_chainNode a_chainEnd a_queue a_queueLength a_sent a_nodeSize a_nodePlace := by
    intro x' rd' h1 h5 hgx hr0 hrO
    unfold wX_readByte_212
    refine br_f (fun z => ?_) ?_
    · have := (nI_eq (a := 10 + x') (b := 0) (by omega) (by omega)).mp z
      omega
    have := H x' a_messageCount a_nodeCount a_nodeTypes a_valueCount a_valueOwners a_values a_skippedCount rd' a_chainNode a_chainEnd ⟨xr_O_r, xr_O_r, xr_O_r, xr_O_r, xr_O_r, xr_O_r, xr_O_r, hrO, xr_O_r, xr_O_r, rfl⟩ (Or.inl ⟨h1, h5, rfl, hr0, (x', c), hfrom (t + 1) B1 (by omega) hB _ (by rw [hgx (t + 1) B1 (Nat.le_refl _) (fun _ _ => rfl)]; exact Or.inr ⟨h1, rfl⟩), rfl⟩)
    rw [if_neg h1] at this
    exact this
  have hlenE : ∀ len, x = nI len → t + 1 + len ≤ pm_lim c (pm_at c) → ∀ T, pm_len K R T c f (t + 1) x = pm_body K R T c f (t + 1) len := by
    intro len e hle T
    unfold pm_len
    rw [e, nI_clamp (by omega), if_neg (fun z => z.elim (fun z => nI_pos (by omega) z) (fun z => by omega))]
  have hfr0 : ∀ c', (∀ T B', t + 1 ≤ T → (∀ i, i < t + 1 → B' i = B1 i) → g B' T = (0, c')) → cr_from K R y L (t + 1) B1 (fun _ _ => (0, c')) := by
    intro c' h
    refine cr_on hfrom hB (fun T B' hT hB' r hr' => ?_)
    rw [h T B' hT hB']; exact hr'
  -- a body to come
  have hmid : ∀ len vc vo va, x = nI len → 1 ≤ len → t + 1 + len ≤ pm_lim c (pm_at c) → (f ≠ 0 → K (pm_fj c f) = 4 ∧ pm_pl R (pm_d c) (pm_nd c) f ≠ 48) → cr_XD K s a_nodeCount a_nodeTypes vc vo va (cr_D R c 4 f (t + 1) len) → xr_O 1 s a_valueCount vc → xr_O 48 s a_valueOwners vo → xr_O 48 s a_values va →
      wX_readByte_212 post (nI s) 0 f_frameAt f_frameLength f_frameSort f_frameFlags f_frameStream f_down f_entryCount f_most f_typeSeen f_lastSender f_sentLength a_payload a_life a_theyEnded a_weEnded a_finishing a_codes a_windowIn a_windowOut a_headers a_headerCount a_entries a_kinds a_repeats a_messageCount a_text a_nodeCount a_nodeTypes (vc) (vo) (va) a_skippedCount (xr_bd s (nI len) rd2) a_chainNode a_chainEnd a_queue a_queueLength a_sent a_nodeSize a_nodePlace := by
    intro len vc vo va e h1 hle hf4 hX o1 o2 o3
    have k := xr_bd_k s (nI len) rd2
    refine xt_mid (B := B1) (y := y) (dep := dep) (c := c) (h := 4) (f := f) (q := t + 1) (d := 0) (w := len) (mc0 := a_messageCount) (rd0 := rd0) hs hL I (by omega) (fun z => ⟨z, hf15, Or.inr (Or.inr (Or.inr (Or.inr ⟨rfl, by omega, by omega, hle, hr, by omega, hf4⟩)))⟩) hte (fun z => absurd z (by omega)) (Or.inl (by omega)) (by omega) (by omega) (fun z => absurd hr z) ⟨?_, ?_, fun z => absurd z (by omega), fun z => absurd z (by omega), ?_, ?_, ?_, ?_, ?_, rch⟩ hX hsk ?_ rfl (bd0 _) (fun code s1 => ?_)
    · rw [k, if_neg (by omega), if_neg (by omega)]; exact r2
    · rw [k, if_neg (by omega), if_pos rfl]; rfl
    · intro _
      rw [k, if_pos rfl]
      exact congrArg nI (by omega)
    · intro _
      rw [k, if_neg (by omega), if_neg (by omega)]; exact r7
    · rw [k, if_neg (by omega), if_neg (by omega)]; exact r8
    · intro _
      rw [k, if_neg (by omega), if_neg (by omega)]; exact r9
    · rw [k, if_neg (by omega), if_neg (by omega)]; exact r10
    · refine cr_on hfrom hB (fun T B' hT hB' r hr' => ?_)
      rw [hg T B' hT hB', hlenE len e hle T]
      exact hr'
    · exact H code a_messageCount a_nodeCount a_nodeTypes vc vo va a_skippedCount _ a_chainNode a_chainEnd ⟨xr_O_r, xr_O_r, xr_O_r, o1, o2, o3, xr_O_r, bdO _, xr_O_r, xr_O_r, rfl⟩ s1
  -- an element that is through
  have hel0 : ∀ c' rd' vc vo va sk', pm_CI K R L dep c' → pm_pos c' = t + 1 → pm_at c' = pm_at c → pm_row c' = 0 → pm_lim c' = pm_lim c → pm_ins c' = pm_ins c → cr_from K R y L (t + 1) B1 (fun _ _ => (0, c')) → cr_XD K s a_nodeCount a_nodeTypes vc vo va (pm_d c') → sk' s = nI (pm_sk c') →
      rd' (11 * s + 2) = nI (t + 1) → rd' (11 * s + 10) = nI (pm_at c) → rd' (11 * s) = rd0 (11 * s) → xr_O 11 s rd0 rd' → xr_O 1 s a_valueCount vc → xr_O 48 s a_valueOwners vo → xr_O 48 s a_values va → xr_O 1 s a_skippedCount sk' →
      wX_readByte_212 post (nI s) 0 f_frameAt f_frameLength f_frameSort f_frameFlags f_frameStream f_down f_entryCount f_most f_typeSeen f_lastSender f_sentLength a_payload a_life a_theyEnded a_weEnded a_finishing a_codes a_windowIn a_windowOut a_headers a_headerCount a_entries a_kinds a_repeats a_messageCount a_text a_nodeCount a_nodeTypes (vc) (vo) (va) (sk') (xr_bE s rd') a_chainNode a_chainEnd a_queue a_queueLength a_sent a_nodeSize a_nodePlace := by
    intro c' rd' vc vo va sk' i1 i2 i3 i4 i6 i7 hfr hX hs' q2 q10 q0 qO o1 o2 o3 o4
    have hF := xb_fresh (t := t + 1) (rd := rd') (cn := a_chainNode) (ce := a_chainEnd) (s := s) (c := c) (c' := c') i3 i6 i7 q2 q10 rch
    refine xt_el (c := c') (mc0 := a_messageCount) (rd0 := rd0) hs hL i1 i4 i2 hF hX hs' hfr rfl (by rw [xb_0]; exact q0) (fun mc' rd'' s1 s2 s3 => ?_)
    exact H 0 mc' a_nodeCount a_nodeTypes vc vo va sk' rd'' a_chainNode a_chainEnd ⟨s2, xr_O_r, xr_O_r, o1, o2, o3, o4, xr_O_t (bEO _ qO) s3, xr_O_r, xr_O_r, rfl⟩ s1
  have bd2 : ∀ z, xr_bd s z rd2 (11 * s + 2) = nI (t + 1) := fun z => by rw [xr_bd_k, if_neg (by omega), if_neg (by omega)]; exact r2
  have bd10 : ∀ z, xr_bd s z rd2 (11 * s + 10) = nI (pm_at c) := fun z => by rw [xr_bd_k, if_neg (by omega), if_neg (by omega)]; exact r10
  refine xw_len (f := f) (t := t + 1) (x := x) hs I hK hXD hL hr r2 r4 r7 r9 (by omega) (by omega) r10 rch (fun z => ⟨hf15, (hf z).1⟩) (fun z => ?_) (fun z zx => ?_) (fun len z zx z1 zl => ?_) (fun len rd' z zk z48 zx zl q0 qO => ?_) (fun vc vo va z zk z48 zx g1 g2 g3 g4 => ?_) (fun len vc vo va z zk z48 zx z1 zl g1 g2 g3 g4 => ?_) (fun len z zk zx zl => ?_) (fun z zk zx => ?_) (fun len z zk zx z1 zl => ?_)
  · refine herr 4 rd2 (by omega) (by omega) (fun T B' hT hB' => ?_) r0 rO
    rw [hg T B' hT hB']; unfold pm_len; rw [if_pos z]
  · -- nothing, skipped
    obtain ⟨c', hc'⟩ : ∃ c', pm_fin R c 0 (t + 1) 0 0 = (0, c') := by
      unfold pm_fin; rw [if_pos rfl]; exact ⟨_, rfl⟩
    obtain ⟨i1, i2, i3, i4, i5, i6, i7, i8, i9, i10⟩ := xb_fin (sk0 := a_skippedCount) (s := s) (f := 0) (st := 0) (v := 0) I hte (Or.inl rfl) hc' hsk (by omega)
    obtain ⟨k1, k2⟩ := i9 rfl
    refine hel0 c' (xr_bd s 0 rd2) a_valueCount a_valueOwners a_values _ i1 i2 i3 (by omega) i6 i7 (hfr0 c' (fun T B' hT hB' => ?_)) (by rw [k1]; exact hXD) k2 (bd2 _) (bd10 _) (bd0 _) (bdO _) xr_O_r xr_O_r xr_O_r xr_O_1
    rw [hg T B' hT hB', hlenE 0 zx (by omega) T]
    unfold pm_body
    rw [if_pos z, if_neg (by omega)]
    exact hc'
  · refine hmid len a_valueCount a_valueOwners a_values zx z1 zl (fun w => absurd z w) ?_ xr_O_r xr_O_r xr_O_r
    unfold cr_D; rw [if_neg (fun w => w.2 z)]; exact hXD
  · refine herr 5 rd' (by omega) (by omega) (fun T B' hT hB' => ?_) (q0.trans r0) (xr_O_t rO qO)
    rw [hg T B' hT hB', hlenE len zx zl T]
    unfold pm_body
    rw [if_neg z, if_pos zk, if_pos z48]
  · -- no bytes
    have hfok : pm_fok K L c f (nI 0) (t + 1) := Or.inr ⟨by omega, hf15, by omega, by omega, fun _ => ⟨0, rfl, by omega⟩⟩
    obtain ⟨c', hc'⟩ : ∃ c', pm_fin R c f (t + 1) (nI 0) (t + 1) = (0, c') := by
      unfold pm_fin; rw [if_neg z, if_neg z48]; exact ⟨_, rfl⟩
    obtain ⟨i1, i2, i3, i4, i5, i6, i7, i8, i9, i10⟩ := xb_fin (sk0 := a_skippedCount) (s := s) I hte hfok hc' hsk (by omega)
    obtain ⟨k1, k2⟩ := i10 z
    refine hel0 c' (xr_bd s 0 rd2) vc vo va a_skippedCount i1 i2 i3 (by omega) i6 i7 (hfr0 c' (fun T B' hT hB' => ?_)) (by rw [k1]; exact g1) k2 (bd2 _) (bd10 _) (bd0 _) (bdO _) g2 g3 g4 xr_O_r
    rw [hg T B' hT hB', hlenE 0 zx (by omega) T]
    unfold pm_body
    rw [if_neg z, if_pos zk, if_neg z48, if_neg (by omega)]
    exact hc'
  · refine hmid len vc vo va zx z1 zl (fun _ => ⟨zk, z48⟩) ?_ g2 g3 g4
    unfold cr_D; rw [if_pos ⟨rfl, z⟩]; exact g1
  · -- a part
    have hbody : ∀ T B', t + 1 ≤ T → (∀ i, i < t + 1 → B' i = B1 i) → g B' T = pm_part R c f (K (pm_fj c f) - 5) (t + 1) len := by
      intro T B' hT hB'
      rw [hg T B' hT hB', hlenE len zx zl T]
      unfold pm_body
      rw [if_neg z, if_neg (by omega), if_pos zk]
    refine xw_part (f := f) (ty := K (pm_fj c f) - 5) (t := t + 1) (len := len) hs I hK hXD r2 (by rw [r7, if_neg z]) r10 rch (by omega) hf15 zk (fun h5 => ?_) (fun c' nc nt vc vo va cn ce h0 e1 e2 e3 e4 g1 o1 o2 o3 o4 o5 o6 o7 o8 hch => ?_)
    · exact herr 5 rd2 (by omega) (by omega) (fun T B' hT hB' => by rw [hbody T B' hT hB', h5]) r0 rO
    · obtain ⟨dep', i1, _, _⟩ := pm_body_I (T := t + 1) (f := f) (q := t + 1) (len := len) (c' := c') I hr hK.1 (by omega) zl (Nat.le_refl _) hL (Or.inr ⟨by omega, hf15, (hf z).1, (hf z).2⟩) (by
        unfold pm_body
        rw [if_neg z, if_neg (by omega), if_pos zk]; exact h0)
      have uO : xr_O 11 s rd0 (upd rd2 (11 * s + 10) (nI (pm_at c'))) := xr_O_t rO (xr_O_u (by omega))
      have hF : xr_fresh s (t + 1) c' (xr_bE s (upd rd2 (11 * s + 10) (nI (pm_at c')))) cn ce :=
        xb_fresh (c := c') rfl rfl rfl (by rw [xr_u, if_neg (by omega)]; exact r2) (by rw [xr_u, if_pos rfl]) hch
      refine xt_el (c := c') (mc0 := a_messageCount) (rd0 := rd0) hs hL i1 e2 e3 hF g1 (by rw [e4]; exact hsk) (hfr0 c' (fun T B' hT hB' => by rw [hbody T B' hT hB', h0])) rfl (by rw [xb_0, xb_u0 (by omega)]; exact r0) (fun mc' rd'' s1 s2 s3 => ?_)
      exact H 0 mc' nc nt vc vo va a_skippedCount rd'' cn ce ⟨s2, o1, o2, o3, o4, o5, xr_O_r, xr_O_t (bEO _ uO) s3, o6, o7, o8⟩ s1
  · -- an empty row
    have hbody : ∀ T B', t + 1 ≤ T → (∀ i, i < t + 1 → B' i = B1 i) → g B' T = (0, (t + 1, pm_at c, t + 1 + 0, f, pm_sk c, pm_lim c, pm_ins c, pm_d c)) := by
      intro T B' hT hB'
      rw [hg T B' hT hB', hlenE 0 zx (by omega) T]
      unfold pm_body
      rw [if_neg z, if_neg (by omega), if_neg (by omega)]
    have hk1 := (hf z).1
    have I2 := pm_CI_row (q := t + 1) (len := 0) (f := f) I hr (by omega) (by omega) hf15 (by omega) zk ((hf z).2 zk) (by omega)
    have I3 := pm_CI_row0 I2 (by show t + 1 + 0 ≠ 0; omega) (by show t + 1 = t + 1 + 0; omega)
    have hfr : cr_from K R y L (t + 1) B1 (fun _ _ => (0, pm_row0 (t + 1, pm_at c, t + 1 + 0, f, pm_sk c, pm_lim c, pm_ins c, pm_d c))) := by
      intro T B' hT hB' r hr'
      have hw : pm_Rd B' K R T (pm_row0 (t + 1, pm_at c, t + 1 + 0, f, pm_sk c, pm_lim c, pm_ins c, pm_d c)) r := by
        rcases hr' with ⟨_, w⟩ | ⟨w, _⟩
        · exact w
        · exact absurd rfl w
      exact hfr0 _ hbody T B' hT hB' r (Or.inl ⟨rfl, pm_rd_row (by show t + 1 + 0 ≠ 0; omega) (by show t + 1 = t + 1 + 0; omega) hw⟩)
    refine hel0 _ (xr_rw s (if K (pm_fj c f) = 3 then 3 else 2) (nI (t + 1)) rd2) a_valueCount a_valueOwners a_values a_skippedCount I3 rfl rfl rfl rfl rfl hfr hXD hsk ?_ ?_ ?_ ?_ xr_O_r xr_O_r xr_O_r xr_O_r
    · rw [xr_rw_k, if_neg (by omega), if_neg (by omega), if_neg (by omega), if_neg (by omega)]; exact r2
    · rw [xr_rw_k, if_neg (by omega), if_neg (by omega), if_neg (by omega), if_neg (by omega)]; exact r10
    · refine (xr_rw_k s _ _ rd2 0).trans ?_
      rw [if_neg (by omega), if_neg (by omega), if_neg (by omega), if_neg (by omega)]; exact r0
    · refine xr_O_t rO (fun j hj => ?_)
      unfold xr_rw
      rw [xr_o (by omega) hj, xr_o (by omega) hj, xr_bN_o hj]
  · -- a row
    have hbody : ∀ T B', t + 1 ≤ T → (∀ i, i < t + 1 → B' i = B1 i) → g B' T = (0, (t + 1, pm_at c, t + 1 + len, f, pm_sk c, pm_lim c, pm_ins c, pm_d c)) := by
      intro T B' hT hB'
      rw [hg T B' hT hB', hlenE len zx zl T]
      unfold pm_body
      rw [if_neg z, if_neg (by omega), if_neg (by omega)]
    have hk1 := (hf z).1
    have I2 := pm_CI_row (q := t + 1) (len := len) (f := f) I hr zl (by omega) hf15 (by omega) zk ((hf z).2 zk) (by omega)
    have k := xr_rw_k s (if K (pm_fj c f) = 3 then 3 else 2) (nI (t + 1 + len)) rd2
    have qO : xr_O 11 s rd0 (xr_rw s (if K (pm_fj c f) = 3 then 3 else 2) (nI (t + 1 + len)) rd2) := by
      refine xr_O_t rO (fun j hj => ?_)
      unfold xr_rw
      rw [xr_o (by omega) hj, xr_o (by omega) hj, xr_bN_o hj]
    refine xt_row (c := (t + 1, pm_at c, t + 1 + len, f, pm_sk c, pm_lim c, pm_ins c, pm_d c)) (mc0 := a_messageCount) (rd0 := rd0) hs hL I2 (by show t + 1 + len ≠ 0; omega) rfl ?_ ?_ ?_ ?_ ?_ ?_ ?_ ?_ rch hXD hsk (hfr0 _ hbody) rfl ?_ (fun mc' rd'' s1 s2 s3 => ?_)
    · rw [k, if_neg (by omega), if_neg (by omega), if_neg (by omega), if_neg (by omega)]; exact r2
    · rw [k, if_neg (by omega), if_neg (by omega), if_neg (by omega), if_pos rfl]
      show (if K (pm_fj c f) = 3 then (3 : Int32) else 2) = nI (if K (pm_fj c f) = 3 then 3 else 2)
      split <;> rfl
    · rw [k, if_neg (by omega), if_neg (by omega), if_pos (by omega)]
    · rw [k, if_neg (by omega), if_neg (by omega), if_pos (by omega)]
    · intro _
      rw [k, if_neg (by omega), if_pos rfl]; rfl
    · rw [k, if_neg (by omega), if_neg (by omega), if_neg (by omega), if_neg (by omega), r7, if_neg z]; rfl
    · rw [k, if_pos rfl]
    · rw [k, if_neg (by omega), if_neg (by omega), if_neg (by omega), if_neg (by omega)]; exact r10
    · refine (k 0).trans ?_
      rw [if_neg (by omega), if_neg (by omega), if_neg (by omega), if_neg (by omega)]; exact r0
    · exact H 0 mc' a_nodeCount a_nodeTypes a_valueCount a_valueOwners a_values a_skippedCount rd'' a_chainNode a_chainEnd ⟨s2, xr_O_r, xr_O_r, xr_O_r, xr_O_r, xr_O_r, xr_O_r, xr_O_t qO s3, xr_O_r, xr_O_r, rfl⟩ s1
end
