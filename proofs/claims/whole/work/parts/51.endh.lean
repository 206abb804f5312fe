/-! T13: a frame of headers ends, both sides -/
section
variable {k s y : Nat} {K : Nat → Nat} {R : Nat → Bool} {D : pm_D} {tx : Nat → Nat} {life life' mc nc nt nt' vc vo va sk rd cn ce ty ty' le go hi ha pr : Nat → Int32}
theorem cr_XD_nt (h : ∀ i, i < 16 → nt' (16 * s + i) = nt (16 * s + i)) (hn : pm_nn D ≤ 16) (H : cr_XD K s nc nt vc vo va D) : cr_XD K s nc nt' vc vo va D :=
  ⟨H.1, H.2.1, fun i hi => (h i (by omega)).trans (H.2.2.1 i hi), H.2.2.2⟩
theorem cr_m_nt (h : ∀ i, i < 16 → nt' (16 * s + i) = nt (16 * s + i)) (hty : ty' s = ty s) (hl : life' s = life s) (H : cr_m k K R s tx life mc nc nt vc vo va sk rd cn ce ty le go hi ha pr) : cr_m k K R s tx life' mc nc nt' vc vo va sk rd cn ce ty' le go hi ha pr := by
  obtain ⟨p, m, y, g1, g2, g3, g4, g5, g6, g7, g8, g9, g10, g11, g12⟩ := H
  have e0 : nt' (16 * s) = nt (16 * s) := h 0 (by omega)
  refine ⟨p, m, y, g1, g2, g3, g4, g5, g6, g7, by rw [hl]; exact g8, g9, by rw [hl, hty, e0]; exact g10, fun w => ?_, fun w w2 => ?_⟩
  · obtain ⟨L, l1, l2, l3, dep, c, d1, d2, d3, d4⟩ := g11 w
    exact ⟨L, l1, l2, l3, dep, c, d1, d2, cr_XD_nt h d2.1.2.1 d3, d4⟩
  · obtain ⟨L, t, l1, l2, l3, dep, c, h', f, q, d, w, i1, i2, i3, i4, i5, i6, i7⟩ := g12 w (hl.symm.trans w2)
    exact ⟨L, t, l1, l2, l3, dep, c, h', f, q, d, w, i1, i2, i3, i4, cr_XD_nt h (cr_D_le i2 i3).1 i5, i6, i7⟩
/-- a stream begins -/
theorem eh_M1 (hs : s < 8) (hy : y < 4) (hl : life s = 0) (H : cr_M k K R tx life mc nc nt vc vo va sk rd cn ce ty le go hi ha pr) :
    cr_M k K R tx (upd life s 1) mc nc (upd nt (16 * s) (nI y)) vc vo va sk rd cn ce (upd ty s (nI y)) le go hi ha pr := by
  intro i i1 i8
  by_cases e : i = s
  · subst e
    obtain ⟨p, m, y', g1, g2, g3, g4, g5, g6, g7, g8, g9, g10, g11, g12⟩ := H i i1 i8
    obtain ⟨p0, m0⟩ := g8 hl
    subst p0
    subst m0
    have h0 : ha i = 0 := by rw [g7, if_neg (fun w => w.1 rfl)]
    exact ⟨0, 0, y, g1, g2, g3, g4, g5, hy, g7, fun w => ⟨rfl, rfl⟩, fun w => absurd w (by omega), fun _ => ⟨pk_us, pk_us⟩, fun w => absurd (h0.symm.trans w) (by decide), fun w => absurd w (by omega)⟩
  · exact cr_m_nt (fun j hj => pk_un (by omega)) (pk_un e) (pk_un e) (H i i1 i8)
theorem eh_M2 {x : Int32} (hs : s < 8) (hl : life s = 0) (H : cr_M k K R tx life mc nc nt vc vo va sk rd cn ce ty le go hi ha pr) :
    cr_M k K R tx (upd (upd life s x) s 2) mc nc nt vc vo va sk rd cn ce ty le go hi ha pr := by
  intro i i1 i8
  by_cases e : i = s
  · subst e
    obtain ⟨p, m, y', g1, g2, g3, g4, g5, g6, g7, g8, g9, g10, g11, g12⟩ := H i i1 i8
    obtain ⟨p0, m0⟩ := g8 hl
    subst p0
    subst m0
    have h0 : ha i = 0 := by rw [g7, if_neg (fun w => w.1 rfl)]
    exact ⟨0, 0, y', g1, g2, g3, g4, g5, g6, g7, fun w => ⟨rfl, rfl⟩, fun w => absurd w (by omega), fun w => w.elim (fun w => absurd (pk_us.symm.trans w) (by decide)) (fun w => absurd (h0.symm.trans w) (by decide)), fun w => absurd (h0.symm.trans w) (by decide), fun w => absurd w (by omega)⟩
  · exact cr_m_nt (fun j hj => rfl) rfl ((pk_un e).trans (pk_un e)) (H i i1 i8)
theorem cr_S_open {th ot we fi co : Nat → Int32} {wi wo ql : Nat → Nat} (h0 : 0 < s) (hl : life s = 0) (hS : cr_S life th ot we fi co wi wo ql) : cr_S (upd life s 1) th ot we fi co (pm_u wi s 60) (pm_u wo s 60) ql := by
  refine ⟨(pk_un (by omega)).trans hS.1, fun i hi => ?_⟩
  obtain ⟨s1, s2, s3, s4, s5, s6, s7, s8, s9, s10⟩ := hS.2 i hi
  by_cases e : i = s
  · subst e
    rw [pk_us, pm_us, pm_us]
    have hne : life i ≠ 2 := by rw [hl]; decide
    exact ⟨Or.inr (Or.inl rfl), s2, s3, s4, by omega, by omega, s7, fun _ => s8 hne, fun _ => s9 hne, s10⟩
  · rw [pk_un e, pm_un e, pm_un e]
    exact ⟨s1, s2, s3, s4, s5, s6, s7, s8, s9, s10⟩
end
section
variable {K : Nat → Nat} {R : Nat → Bool} {z : (Nat → Nat) × Nat} {fAt n so fl st h p m M l : Nat} {wi wo ql hc Q tx : Nat → Nat} {f_down f_typeSeen yf_payload yf_wants yf_name yf_first yf_counts yf_enters yf_nodes yf_values yf_skipped yf_pos yf_there yf_number yf_at : Int32} {a_payload a_life a_theyEnded a_weEnded a_finishing a_codes a_headers a_entries a_kinds a_repeats a_messageCount a_nodeCount a_nodeTypes a_valueCount a_valueOwners a_values a_skippedCount a_reader a_chainNode a_chainEnd a_nodeSize a_nodePlace ya_type ya_otherEnded ya_prefix ya_length ya_got ya_high ya_has ya_frame ya_payloads ya_table ya_nodeType ya_valueNode ya_valueNumber ya_value ya_from ya_limit ya_inside ya_sizes : Nat → Int32} {k : Nat}
theorem eh_both {post : SX → Prop} (hd : f_down = 0) (h1 : 1 ≤ st) (h8 : st < 8) (hn : n ≤ 63) (hfl : fl < 256) (hO : ou_I z) (hH : ∀ s, s < 8 → hc s ≤ 8) (hT : cr_T a_entries ya_table m M) (hfs : yf_first = -1) (hwn : yf_wants = 0) (f0 : ya_frame 0 = nI n)
    (hpl : ∀ i, i < n → ∃ b, b < 256 ∧ a_payload i = nI b ∧ ya_payloads i = nI b) (hS : cr_S a_life a_theyEnded ya_otherEnded a_weEnded a_finishing a_codes wi wo ql)
    (hM : cr_M k K R tx a_life a_messageCount a_nodeCount a_nodeTypes a_valueCount a_valueOwners a_values a_skippedCount a_reader a_chainNode a_chainEnd ya_type ya_length ya_got ya_high ya_has ya_prefix)
    (H : ∀ (σ : hd_Z) (wn dn' : Int32) (life' co' nt' ty' : Nat → Int32) (wi' wo' ql' : Nat → Nat) (z' : (Nat → Nat) × Nat), cr_T σ.2.2.2.2.2.2.2.2.1 σ.2.2.2.2.2.2.2.2.2 σ.1 σ.2.1 → (∀ i, i < 8 → σ.2.2.2.2.2.2.1 i ≤ 8) →
      cr_S life' a_theyEnded ya_otherEnded a_weEnded a_finishing co' wi' wo' ql' → ou_I z' → cr_M k K R tx life' a_messageCount a_nodeCount nt' a_valueCount a_valueOwners a_values a_skippedCount a_reader a_chainNode a_chainEnd ty' ya_length ya_got ya_high ya_has ya_prefix →
      (dn' = 0 ∨ dn' = 1) →
      (∀ (a : yr_Z) (t : Int32) (q : SY → Prop), (∀ (a : yr_Z) (t : Int32), q (dn', nI h, nI p, yf_payload, wn, σ.2.2.2.2.1, σ.2.2.2.1, yf_counts, σ.2.2.2.2.2.1, nI σ.2.1, nI σ.1, nI z'.2, nI (if l = 0 then 7 else l), a.1, a.2.1, a.2.2.1, a.2.2.2.1, t, a.2.2.2.2.1, a.2.2.2.2.2.1, a_kinds, a_repeats, life', co', an_f wi', an_f wo', ty', an_f σ.2.2.2.2.2.2.1, σ.2.2.2.2.2.2.2.1, an_f ql', ya_otherEnded, a_weEnded, a_finishing, an_g Q, ya_prefix, ya_length, ya_got, ya_high, a_messageCount, ya_has, an_g tx, ya_frame, ya_payloads, σ.2.2.2.2.2.2.2.2.2, an_g z'.1, a.2.2.2.2.2.2.1, a.2.2.2.2.2.2.2.1, a.2.2.2.2.2.2.2.2.1, a.2.2.2.2.2.2.2.2.2.1, a.2.2.2.2.2.2.2.2.2.2.1, a.2.2.2.2.2.2.2.2.2.2.2.1, a.2.2.2.2.2.2.2.2.2.2.2.2, ya_sizes)) → wpY_endHeaders q (f_down, nI h, nI p, yf_payload, yf_wants, yf_name, yf_first, yf_counts, yf_enters, nI M, nI m, nI z.2, nI (if l = 0 then 7 else l), a.1, a.2.1, a.2.2.1, a.2.2.2.1, t, a.2.2.2.2.1, a.2.2.2.2.2.1, a_kinds, a_repeats, a_life, a_codes, an_f wi, an_f wo, ya_type, an_f hc, a_headers, an_f ql, ya_otherEnded, a_weEnded, a_finishing, an_g Q, ya_prefix, ya_length, ya_got, ya_high, a_messageCount, ya_has, an_g tx, ya_frame, ya_payloads, ya_table, an_g z.1, a.2.2.2.2.2.2.1, a.2.2.2.2.2.2.2.1, a.2.2.2.2.2.2.2.2.1, a.2.2.2.2.2.2.2.2.2.1, a.2.2.2.2.2.2.2.2.2.2.1, a.2.2.2.2.2.2.2.2.2.2.2.1, a.2.2.2.2.2.2.2.2.2.2.2.2, ya_sizes) (nI st) (if fl % 2 = 0 then 0 else 1)) →
      post (nI fAt, nI n, nI so, nI fl, nI st, dn', nI σ.1, nI σ.2.1, σ.2.2.1, nI l, nI z'.2, a_payload, life', a_theyEnded, a_weEnded, a_finishing, co', an_f wi', an_f wo', σ.2.2.2.2.2.2.2.1, an_f σ.2.2.2.2.2.2.1, σ.2.2.2.2.2.2.2.2.1, a_kinds, a_repeats, a_messageCount, an_f tx, a_nodeCount, nt', a_valueCount, a_valueOwners, a_values, a_skippedCount, a_reader, a_chainNode, a_chainEnd, an_f Q, an_f ql', an_f z'.1, a_nodeSize, a_nodePlace)) :
    wpX_endHeaders post (nI fAt, nI n, nI so, nI fl, nI st, f_down, nI m, nI M, f_typeSeen, nI l, nI z.2, a_payload, a_life, a_theyEnded, a_weEnded, a_finishing, a_codes, an_f wi, an_f wo, a_headers, an_f hc, a_entries, a_kinds, a_repeats, a_messageCount, an_f tx, a_nodeCount, a_nodeTypes, a_valueCount, a_valueOwners, a_values, a_skippedCount, a_reader, a_chainNode, a_chainEnd, an_f Q, an_f ql, an_f z.1, a_nodeSize, a_nodePlace) := by
  obtain ⟨c1, c2⟩ := xr_c8 h8
  have eq : upd (an_f ql) st 0 = an_f (pm_u ql st 0) := an_fu ql st 0
  have hI : hd_I a_life st (m, M, -1, yf_first, yf_name, yf_enters, hc, a_headers, a_entries, ya_table) := ⟨hT, hH, fun _ => hfs.symm⟩
  obtain ⟨s1, s2, s3, s4, s5, s6, s7, s8, s9, s10⟩ := hS.2 st h8
  unfold wpX_endHeaders
  dsimp only
  unfold wpX_readHeaders
  refine ⟨n + 1, hd_loop (h := h) (p := p) (yf_payload := yf_payload) (yf_counts := yf_counts) (ya_type := ya_type) (ya_otherEnded := ya_otherEnded) (ya_prefix := ya_prefix) (ya_length := ya_length) (ya_got := ya_got) (ya_high := ya_high) (ya_has := ya_has) (ya_frame := ya_frame) (ya_payloads := ya_payloads) (ya_sizes := ya_sizes) hd h8 hn hO f0 hpl n n 0 0 (n + 1) (m, M, -1, yf_first, yf_name, yf_enters, hc, a_headers, a_entries, ya_table) (Nat.le_refl _) (by omega) (Nat.le_refl _) (by omega) hI (fun σ I' yy => ?_) (fun σ wn I' yy => ?_)⟩
  · have HY : ∀ (a : yr_Z) (t : Int32) (q : SY → Prop), wY_endHeaders_36 q (nI st) (if fl % 2 = 0 then 0 else 1) (f_down) (nI h) (nI p) yf_payload (0) (σ.2.2.2.2.1) (σ.2.2.2.1) yf_counts (σ.2.2.2.2.2.1) (nI σ.2.1) (nI σ.1) (nI z.2) (nI (if l = 0 then 7 else l)) (a.1) (a.2.1) (a.2.2.1) (a.2.2.2.1) (t) (a.2.2.2.2.1) (a.2.2.2.2.2.1) (a_kinds) (a_repeats) (a_life) (a_codes) (an_f wi) (an_f wo) ya_type (an_f σ.2.2.2.2.2.2.1) (σ.2.2.2.2.2.2.2.1) (an_f ql) ya_otherEnded (a_weEnded) (a_finishing) (an_g Q) ya_prefix ya_length ya_got ya_high (a_messageCount) ya_has (an_g tx) ya_frame ya_payloads (σ.2.2.2.2.2.2.2.2.2) (an_g z.1) (a.2.2.2.2.2.2.1) (a.2.2.2.2.2.2.2.1) (a.2.2.2.2.2.2.2.2.1) (a.2.2.2.2.2.2.2.2.2.1) (a.2.2.2.2.2.2.2.2.2.2.1) (a.2.2.2.2.2.2.2.2.2.2.2.1) (a.2.2.2.2.2.2.2.2.2.2.2.2) ya_sizes → wpY_endHeaders q (f_down, nI h, nI p, yf_payload, yf_wants, yf_name, yf_first, yf_counts, yf_enters, nI M, nI m, nI z.2, nI (if l = 0 then 7 else l), a.1, a.2.1, a.2.2.1, a.2.2.2.1, t, a.2.2.2.2.1, a.2.2.2.2.2.1, a_kinds, a_repeats, a_life, a_codes, an_f wi, an_f wo, ya_type, an_f hc, a_headers, an_f ql, ya_otherEnded, a_weEnded, a_finishing, an_g Q, ya_prefix, ya_length, ya_got, ya_high, a_messageCount, ya_has, an_g tx, ya_frame, ya_payloads, ya_table, an_g z.1, a.2.2.2.2.2.2.1, a.2.2.2.2.2.2.2.1, a.2.2.2.2.2.2.2.2.1, a.2.2.2.2.2.2.2.2.2.1, a.2.2.2.2.2.2.2.2.2.2.1, a.2.2.2.2.2.2.2.2.2.2.2.1, a.2.2.2.2.2.2.2.2.2.2.2.2, ya_sizes) (nI st) (if fl % 2 = 0 then 0 else 1) := by
      intro a t q hq
      unfold wpY_endHeaders
      refine ⟨n + 1, ?_⟩
      rw [hwn]
      exact yy a t q _ hq
    obtain ⟨iT, i8, its⟩ := I'
    have HS : a_life st ≠ 0 → (∀ (a : yr_Z) (t : Int32) (q : SY → Prop), q (f_down, nI h, nI p, yf_payload, 0, σ.2.2.2.2.1, σ.2.2.2.1, yf_counts, σ.2.2.2.2.2.1, nI σ.2.1, nI σ.1, nI z.2, nI (if l = 0 then 7 else l), a.1, a.2.1, a.2.2.1, a.2.2.2.1, t, a.2.2.2.2.1, a.2.2.2.2.2.1, a_kinds, a_repeats, a_life, a_codes, an_f wi, an_f wo, ya_type, an_f σ.2.2.2.2.2.2.1, σ.2.2.2.2.2.2.2.1, an_f ql, ya_otherEnded, a_weEnded, a_finishing, an_g Q, ya_prefix, ya_length, ya_got, ya_high, a_messageCount, ya_has, an_g tx, ya_frame, ya_payloads, σ.2.2.2.2.2.2.2.2.2, an_g z.1, a.2.2.2.2.2.2.1, a.2.2.2.2.2.2.2.1, a.2.2.2.2.2.2.2.2.1, a.2.2.2.2.2.2.2.2.2.1, a.2.2.2.2.2.2.2.2.2.2.1, a.2.2.2.2.2.2.2.2.2.2.2.1, a.2.2.2.2.2.2.2.2.2.2.2.2, ya_sizes) → wY_endHeaders_36 q (nI st) (if fl % 2 = 0 then 0 else 1) (f_down) (nI h) (nI p) yf_payload (0) (σ.2.2.2.2.1) (σ.2.2.2.1) yf_counts (σ.2.2.2.2.2.1) (nI σ.2.1) (nI σ.1) (nI z.2) (nI (if l = 0 then 7 else l)) (a.1) (a.2.1) (a.2.2.1) (a.2.2.2.1) (t) (a.2.2.2.2.1) (a.2.2.2.2.2.1) (a_kinds) (a_repeats) (a_life) (a_codes) (an_f wi) (an_f wo) ya_type (an_f σ.2.2.2.2.2.2.1) (σ.2.2.2.2.2.2.2.1) (an_f ql) ya_otherEnded (a_weEnded) (a_finishing) (an_g Q) ya_prefix ya_length ya_got ya_high (a_messageCount) ya_has (an_g tx) ya_frame ya_payloads (σ.2.2.2.2.2.2.2.2.2) (an_g z.1) (a.2.2.2.2.2.2.1) (a.2.2.2.2.2.2.2.1) (a.2.2.2.2.2.2.2.2.1) (a.2.2.2.2.2.2.2.2.2.1) (a.2.2.2.2.2.2.2.2.2.2.1) (a.2.2.2.2.2.2.2.2.2.2.2.1) (a.2.2.2.2.2.2.2.2.2.2.2.2) ya_sizes) → post (nI fAt, nI n, nI so, nI fl, nI st, f_down, nI σ.1, nI σ.2.1, σ.2.2.1, nI l, nI z.2, a_payload, a_life, a_theyEnded, a_weEnded, a_finishing, a_codes, an_f wi, an_f wo, σ.2.2.2.2.2.2.2.1, an_f σ.2.2.2.2.2.2.1, σ.2.2.2.2.2.2.2.2.1, a_kinds, a_repeats, a_messageCount, an_f tx, a_nodeCount, a_nodeTypes, a_valueCount, a_valueOwners, a_values, a_skippedCount, a_reader, a_chainNode, a_chainEnd, an_f Q, an_f ql, an_f z.1, a_nodeSize, a_nodePlace) := fun _ hy =>
      H σ 0 f_down a_life a_codes a_nodeTypes ya_type wi wo ql z iT i8 hS hO hM (Or.inl hd) (fun a t q hq => HY a t q (hy a t q (hq a t)))
    have HE : a_life st = 1 → ∀ c, c < 256 → (∀ (a : yr_Z) (t : Int32) (q : SY → Prop), wpY_error q (f_down, nI h, nI p, yf_payload, 0, σ.2.2.2.2.1, σ.2.2.2.1, yf_counts, σ.2.2.2.2.2.1, nI σ.2.1, nI σ.1, nI z.2, nI (if l = 0 then 7 else l), a.1, a.2.1, a.2.2.1, a.2.2.2.1, t, a.2.2.2.2.1, a.2.2.2.2.2.1, a_kinds, a_repeats, a_life, a_codes, an_f wi, an_f wo, ya_type, an_f σ.2.2.2.2.2.2.1, σ.2.2.2.2.2.2.2.1, an_f ql, ya_otherEnded, a_weEnded, a_finishing, an_g Q, ya_prefix, ya_length, ya_got, ya_high, a_messageCount, ya_has, an_g tx, ya_frame, ya_payloads, σ.2.2.2.2.2.2.2.2.2, an_g z.1, a.2.2.2.2.2.2.1, a.2.2.2.2.2.2.2.1, a.2.2.2.2.2.2.2.2.1, a.2.2.2.2.2.2.2.2.2.1, a.2.2.2.2.2.2.2.2.2.2.1, a.2.2.2.2.2.2.2.2.2.2.2.1, a.2.2.2.2.2.2.2.2.2.2.2.2, ya_sizes) (nI st) (nI c) → wY_endHeaders_36 q (nI st) (if fl % 2 = 0 then 0 else 1) (f_down) (nI h) (nI p) yf_payload (0) (σ.2.2.2.2.1) (σ.2.2.2.1) yf_counts (σ.2.2.2.2.2.1) (nI σ.2.1) (nI σ.1) (nI z.2) (nI (if l = 0 then 7 else l)) (a.1) (a.2.1) (a.2.2.1) (a.2.2.2.1) (t) (a.2.2.2.2.1) (a.2.2.2.2.2.1) (a_kinds) (a_repeats) (a_life) (a_codes) (an_f wi) (an_f wo) ya_type (an_f σ.2.2.2.2.2.2.1) (σ.2.2.2.2.2.2.2.1) (an_f ql) ya_otherEnded (a_weEnded) (a_finishing) (an_g Q) ya_prefix ya_length ya_got ya_high (a_messageCount) ya_has (an_g tx) ya_frame ya_payloads (σ.2.2.2.2.2.2.2.2.2) (an_g z.1) (a.2.2.2.2.2.2.1) (a.2.2.2.2.2.2.2.1) (a.2.2.2.2.2.2.2.2.1) (a.2.2.2.2.2.2.2.2.2.1) (a.2.2.2.2.2.2.2.2.2.2.1) (a.2.2.2.2.2.2.2.2.2.2.2.1) (a.2.2.2.2.2.2.2.2.2.2.2.2) ya_sizes) → wpX_failStream post (nI fAt, nI n, nI so, nI fl, nI st, f_down, nI σ.1, nI σ.2.1, σ.2.2.1, nI l, nI z.2, a_payload, a_life, a_theyEnded, a_weEnded, a_finishing, a_codes, an_f wi, an_f wo, σ.2.2.2.2.2.2.2.1, an_f σ.2.2.2.2.2.2.1, σ.2.2.2.2.2.2.2.2.1, a_kinds, a_repeats, a_messageCount, an_f tx, a_nodeCount, a_nodeTypes, a_valueCount, a_valueOwners, a_values, a_skippedCount, a_reader, a_chainNode, a_chainEnd, an_f Q, an_f ql, an_f z.1, a_nodeSize, a_nodePlace) (nI st) (nI c) := by
      intro hl c hc' hy
      have hl2 := cr_l2 (life := a_life) (s := st) (by rw [hl]; decide)
      refine xo_failS h8 hO.1 ?_
      rw [eq]
      refine H σ 0 f_down (upd a_life st 2) (upd a_codes st (nI c)) a_nodeTypes ya_type wi wo (pm_u ql st 0) (ou_L z [1, 2, 0, st, c]) iT i8 (cr_S_shut (by omega) hS) (td_z hO h8 hc') (fun i i1 i8 => cr_m_life (hl2 i) (hM i i1 i8)) (Or.inl hd) (fun a t q hq => HY a t q (hy a t q (yo_errS (by omega) h8 hO.1 ?_)))
      rw [eq]
      exact hq a t
    dsimp only
    rw [c2]
    refine br_f (by decide) ⟨c1, br_c (fun y0 => ?_) (fun y0 => ⟨c1, br_c (fun y1 => ?_) (fun y1 => ?_)⟩)⟩
    · -- a stream begins
      have hne : a_life st ≠ 2 := by rw [y0]; decide
      have etf := its hne
      have ew1 : upd (an_f wi) st 60 = an_f (pm_u wi st 60) := an_fu wi st 60
      have ew2 : upd (an_f wo) st 60 = an_f (pm_u wo st 60) := an_fu wo st 60
      have hSo := cr_S_open (show 0 < st by omega) y0 hS
      have HY2 : ∀ (a : yr_Z) (t : Int32) (q : SY → Prop), wpY_no (fun r => ((r = 0 → (vp_in (nI st) 8 ∧ ∀ ty', ty' = upd ya_type st σ.2.2.2.1 → q (f_down, nI h, nI p, yf_payload, 0, σ.2.2.2.2.1, σ.2.2.2.1, yf_counts, σ.2.2.2.2.2.1, nI σ.2.1, nI σ.1, nI z.2, nI (if l = 0 then 7 else l), a.1, a.2.1, a.2.2.1, a.2.2.2.1, t, a.2.2.2.2.1, a.2.2.2.2.2.1, a_kinds, a_repeats, upd a_life st 1, a_codes, an_f (pm_u wi st 60), an_f (pm_u wo st 60), ty', an_f σ.2.2.2.2.2.2.1, σ.2.2.2.2.2.2.2.1, an_f ql, ya_otherEnded, a_weEnded, a_finishing, an_g Q, ya_prefix, ya_length, ya_got, ya_high, a_messageCount, ya_has, an_g tx, ya_frame, ya_payloads, σ.2.2.2.2.2.2.2.2.2, an_g z.1, a.2.2.2.2.2.2.1, a.2.2.2.2.2.2.2.1, a.2.2.2.2.2.2.2.2.1, a.2.2.2.2.2.2.2.2.2.1, a.2.2.2.2.2.2.2.2.2.2.1, a.2.2.2.2.2.2.2.2.2.2.2.1, a.2.2.2.2.2.2.2.2.2.2.2.2, ya_sizes))) ∧ (¬ r = 0 → wpY_error (fun u => match u with | (yf_down, yf_heads, yf_paid, yf_payload, yf_wants, yf_name, yf_first, yf_counts, yf_enters, yf_most, yf_many, yf_sent, yf_last, yf_nodes, yf_values, yf_skipped, yf_pos, yf_there, yf_number, yf_at, ya_kind, ya_repeated, ya_how, ya_code, ya_coming, ya_going, ya_type, ya_headers, ya_header, ya_queued, ya_otherEnded, ya_ended, ya_finishing, ya_queue, ya_prefix, ya_length, ya_got, ya_high, ya_whole, ya_has, ya_bytes, ya_frame, ya_payloads, ya_table, ya_out, ya_nodeType, ya_valueNode, ya_valueNumber, ya_value, ya_from, ya_limit, ya_inside, ya_sizes) => q (yf_down, yf_heads, yf_paid, yf_payload, yf_wants, yf_name, yf_first, yf_counts, yf_enters, yf_most, yf_many, yf_sent, yf_last, yf_nodes, yf_values, yf_skipped, yf_pos, yf_there, yf_number, yf_at, ya_kind, ya_repeated, ya_how, ya_code, ya_coming, ya_going, ya_type, ya_headers, ya_header, ya_queued, ya_otherEnded, ya_ended, ya_finishing, ya_queue, ya_prefix, ya_length, ya_got, ya_high, ya_whole, ya_has, ya_bytes, ya_frame, ya_payloads, ya_table, ya_out, ya_nodeType, ya_valueNode, ya_valueNumber, ya_value, ya_from, ya_limit, ya_inside, ya_sizes)) (f_down, nI h, nI p, yf_payload, 0, σ.2.2.2.2.1, σ.2.2.2.1, yf_counts, σ.2.2.2.2.2.1, nI σ.2.1, nI σ.1, nI z.2, nI (if l = 0 then 7 else l), a.1, a.2.1, a.2.2.1, a.2.2.2.1, t, a.2.2.2.2.1, a.2.2.2.2.2.1, a_kinds, a_repeats, upd a_life st 1, a_codes, an_f (pm_u wi st 60), an_f (pm_u wo st 60), ya_type, an_f σ.2.2.2.2.2.2.1, σ.2.2.2.2.2.2.2.1, an_f ql, ya_otherEnded, a_weEnded, a_finishing, an_g Q, ya_prefix, ya_length, ya_got, ya_high, a_messageCount, ya_has, an_g tx, ya_frame, ya_payloads, σ.2.2.2.2.2.2.2.2.2, an_g z.1, a.2.2.2.2.2.2.1, a.2.2.2.2.2.2.2.1, a.2.2.2.2.2.2.2.2.1, a.2.2.2.2.2.2.2.2.2.1, a.2.2.2.2.2.2.2.2.2.2.1, a.2.2.2.2.2.2.2.2.2.2.2.1, a.2.2.2.2.2.2.2.2.2.2.2.2, ya_sizes) (nI st) 6))) σ.2.2.2.1 0 3 →
          wpY_endHeaders q (f_down, nI h, nI p, yf_payload, yf_wants, yf_name, yf_first, yf_counts, yf_enters, nI M, nI m, nI z.2, nI (if l = 0 then 7 else l), a.1, a.2.1, a.2.2.1, a.2.2.2.1, t, a.2.2.2.2.1, a.2.2.2.2.2.1, a_kinds, a_repeats, a_life, a_codes, an_f wi, an_f wo, ya_type, an_f hc, a_headers, an_f ql, ya_otherEnded, a_weEnded, a_finishing, an_g Q, ya_prefix, ya_length, ya_got, ya_high, a_messageCount, ya_has, an_g tx, ya_frame, ya_payloads, ya_table, an_g z.1, a.2.2.2.2.2.2.1, a.2.2.2.2.2.2.2.1, a.2.2.2.2.2.2.2.2.1, a.2.2.2.2.2.2.2.2.2.1, a.2.2.2.2.2.2.2.2.2.2.1, a.2.2.2.2.2.2.2.2.2.2.2.1, a.2.2.2.2.2.2.2.2.2.2.2.2, ya_sizes) (nI st) (if fl % 2 = 0 then 0 else 1) := by
        intro a t q hq
        refine HY a t q ?_
        unfold wY_endHeaders_36
        rw [c2]
        exact br_t hd (br_t (by decide) ⟨c1, br_t y0 ⟨c1, nm_e ⟨c1, nm_r ew1 ⟨c1, nm_r ew2 hq⟩⟩⟩⟩)
      have H6 : (σ.2.2.2.1 < 0 ∨ (¬ σ.2.2.2.1 < 0 ∧ ¬ σ.2.2.2.1 ≤ 3)) → wX_endHeaders_55 post (nI st) 6 (nI fAt) (nI n) (nI so) (nI fl) (nI st) f_down (nI σ.1) (nI σ.2.1) (σ.2.2.1) (nI l) (nI z.2) a_payload (upd a_life st 1) a_theyEnded a_weEnded a_finishing a_codes (an_f (pm_u wi st 60)) (an_f (pm_u wo st 60)) (σ.2.2.2.2.2.2.2.1) (an_f σ.2.2.2.2.2.2.1) (σ.2.2.2.2.2.2.2.2.1) a_kinds a_repeats a_messageCount (an_f tx) a_nodeCount a_nodeTypes a_valueCount a_valueOwners a_values a_skippedCount a_reader a_chainNode a_chainEnd (an_f Q) (an_f ql) (an_f z.1) a_nodeSize a_nodePlace := by
        intro hbad
        unfold wX_endHeaders_55
        refine br_f (by decide) (xo_failS (c := 6) h8 hO.1 ?_)
        rw [eq]
        refine H σ 0 f_down (upd (upd a_life st 1) st 2) (upd a_codes st (nI 6)) a_nodeTypes ya_type (pm_u wi st 60) (pm_u wo st 60) (pm_u ql st 0) (ou_L z [1, 2, 0, st, 6]) iT i8 (cr_S_shut (by omega) hSo) (td_z hO h8 (by omega)) (eh_M2 h8 y0 hM) (Or.inl hd) (fun a t q hq => HY2 a t q ?_)
        have hY : wpY_error q (f_down, nI h, nI p, yf_payload, 0, σ.2.2.2.2.1, σ.2.2.2.1, yf_counts, σ.2.2.2.2.2.1, nI σ.2.1, nI σ.1, nI z.2, nI (if l = 0 then 7 else l), a.1, a.2.1, a.2.2.1, a.2.2.2.1, t, a.2.2.2.2.1, a.2.2.2.2.2.1, a_kinds, a_repeats, upd a_life st 1, a_codes, an_f (pm_u wi st 60), an_f (pm_u wo st 60), ya_type, an_f σ.2.2.2.2.2.2.1, σ.2.2.2.2.2.2.2.1, an_f ql, ya_otherEnded, a_weEnded, a_finishing, an_g Q, ya_prefix, ya_length, ya_got, ya_high, a_messageCount, ya_has, an_g tx, ya_frame, ya_payloads, σ.2.2.2.2.2.2.2.2.2, an_g z.1, a.2.2.2.2.2.2.1, a.2.2.2.2.2.2.2.1, a.2.2.2.2.2.2.2.2.1, a.2.2.2.2.2.2.2.2.2.1, a.2.2.2.2.2.2.2.2.2.2.1, a.2.2.2.2.2.2.2.2.2.2.2.1, a.2.2.2.2.2.2.2.2.2.2.2.2, ya_sizes) (nI st) 6 := by
          refine yo_errS (c := 6) (by omega) h8 hO.1 ?_
          rw [eq]
          exact hq a t
        rcases hbad with w | ⟨w1, w2⟩
        · exact yn_lo w (br_f (by decide) hY)
        · exact yn_hi w1 w2 (br_f (by decide) hY)
      unfold wpX_openStream
      dsimp only
      rw [c2]
      refine ⟨c1, nm_e ⟨c1, nm_r ew1 ⟨c1, nm_r ew2 (br_c (fun w => H6 (Or.inl (etf ▸ w))) (fun w => br_c (fun w4 => ?_) (fun w4 => H6 (Or.inr ⟨etf ▸ w, ?_⟩))))⟩⟩⟩
      · have hle3 : σ.2.2.1 ≤ 3 := by
          rw [Int32.le_iff_toInt_le]
          rw [Int32.lt_iff_toInt_lt] at w4
          have e4 : (4 : Int32).toInt = 4 := by decide
          have e3 : (3 : Int32).toInt = 3 := by decide
          omega
        obtain ⟨y, hy3, ey⟩ : ∃ y, y ≤ 3 ∧ σ.2.2.1 = nI y := nI_of2 (M := 3) (n := 3) (by decide) w hle3
        have e16 : nI st * 16 = nI (16 * st) := by rw [show (16 : Int32) = nI 16 from rfl, pk_mul, Nat.mul_comm]
        rw [e16, ey]
        refine ⟨vp_in_nI (by omega) (by omega), nm_r (e' := upd a_nodeTypes (16 * st) (nI y)) (by rw [nI_clamp (by omega)]) ?_⟩
        unfold wX_endHeaders_55
        refine br_t rfl ?_
        have hfin := H σ 0 f_down (upd a_life st 1) a_codes (upd a_nodeTypes (16 * st) (nI y)) (upd ya_type st (nI y)) (pm_u wi st 60) (pm_u wo st 60) ql z iT i8 hSo hO (eh_M1 h8 (by omega) y0 hM) (Or.inl hd) (fun a t q hq => HY2 a t q ?_)
        · rw [ey] at hfin
          exact hfin
        · have efy : σ.2.2.2.1 = nI y := etf.symm.trans ey
          refine yn_in (etf ▸ w) ?_ (br_t rfl ⟨c1, nm_r (e' := upd ya_type st (nI y)) (by rw [efy]) (hq a t)⟩)
          rw [efy]
          exact nI_le (by omega) (by decide)
      · rw [← etf]
        intro w3
        refine w4 ?_
        rw [Int32.le_iff_toInt_le] at w3
        rw [Int32.lt_iff_toInt_lt]
        have e4 : (4 : Int32).toInt = 4 := by decide
        have e3 : (3 : Int32).toInt = 3 := by decide
        omega
    · -- trailers
      have hne2 : a_life st ≠ 2 := by rw [y1]; decide
      have hot : ya_otherEnded st = a_theyEnded st := s8 hne2
      have HYt : ∀ (a : yr_Z) (t : Int32) (q : SY → Prop), ((a_theyEnded st = 0 → ((if fl % 2 = 0 then (0 : Int32) else 1) = 0 → wpY_error q (f_down, nI h, nI p, yf_payload, 0, σ.2.2.2.2.1, σ.2.2.2.1, yf_counts, σ.2.2.2.2.2.1, nI σ.2.1, nI σ.1, nI z.2, nI (if l = 0 then 7 else l), a.1, a.2.1, a.2.2.1, a.2.2.2.1, t, a.2.2.2.2.1, a.2.2.2.2.2.1, a_kinds, a_repeats, a_life, a_codes, an_f wi, an_f wo, ya_type, an_f σ.2.2.2.2.2.2.1, σ.2.2.2.2.2.2.2.1, an_f ql, ya_otherEnded, a_weEnded, a_finishing, an_g Q, ya_prefix, ya_length, ya_got, ya_high, a_messageCount, ya_has, an_g tx, ya_frame, ya_payloads, σ.2.2.2.2.2.2.2.2.2, an_g z.1, a.2.2.2.2.2.2.1, a.2.2.2.2.2.2.2.1, a.2.2.2.2.2.2.2.2.1, a.2.2.2.2.2.2.2.2.2.1, a.2.2.2.2.2.2.2.2.2.2.1, a.2.2.2.2.2.2.2.2.2.2.2.1, a.2.2.2.2.2.2.2.2.2.2.2.2, ya_sizes) (nI st) (nI 2)) ∧ (¬ (if fl % 2 = 0 then (0 : Int32) else 1) = 0 → q (f_down, nI h, nI p, yf_payload, 0, σ.2.2.2.2.1, σ.2.2.2.1, yf_counts, σ.2.2.2.2.2.1, nI σ.2.1, nI σ.1, nI z.2, nI (if l = 0 then 7 else l), a.1, a.2.1, a.2.2.1, a.2.2.2.1, t, a.2.2.2.2.1, a.2.2.2.2.2.1, a_kinds, a_repeats, a_life, a_codes, an_f wi, an_f wo, ya_type, an_f σ.2.2.2.2.2.2.1, σ.2.2.2.2.2.2.2.1, an_f ql, ya_otherEnded, a_weEnded, a_finishing, an_g Q, ya_prefix, ya_length, ya_got, ya_high, a_messageCount, ya_has, an_g tx, ya_frame, ya_payloads, σ.2.2.2.2.2.2.2.2.2, an_g z.1, a.2.2.2.2.2.2.1, a.2.2.2.2.2.2.2.1, a.2.2.2.2.2.2.2.2.1, a.2.2.2.2.2.2.2.2.2.1, a.2.2.2.2.2.2.2.2.2.2.1, a.2.2.2.2.2.2.2.2.2.2.2.1, a.2.2.2.2.2.2.2.2.2.2.2.2, ya_sizes))) ∧ (¬ a_theyEnded st = 0 → wpY_error q (f_down, nI h, nI p, yf_payload, 0, σ.2.2.2.2.1, σ.2.2.2.1, yf_counts, σ.2.2.2.2.2.1, nI σ.2.1, nI σ.1, nI z.2, nI (if l = 0 then 7 else l), a.1, a.2.1, a.2.2.1, a.2.2.2.1, t, a.2.2.2.2.1, a.2.2.2.2.2.1, a_kinds, a_repeats, a_life, a_codes, an_f wi, an_f wo, ya_type, an_f σ.2.2.2.2.2.2.1, σ.2.2.2.2.2.2.2.1, an_f ql, ya_otherEnded, a_weEnded, a_finishing, an_g Q, ya_prefix, ya_length, ya_got, ya_high, a_messageCount, ya_has, an_g tx, ya_frame, ya_payloads, σ.2.2.2.2.2.2.2.2.2, an_g z.1, a.2.2.2.2.2.2.1, a.2.2.2.2.2.2.2.1, a.2.2.2.2.2.2.2.2.1, a.2.2.2.2.2.2.2.2.2.1, a.2.2.2.2.2.2.2.2.2.2.1, a.2.2.2.2.2.2.2.2.2.2.2.1, a.2.2.2.2.2.2.2.2.2.2.2.2, ya_sizes) (nI st) (nI 5))) →
          wY_endHeaders_36 q (nI st) (if fl % 2 = 0 then 0 else 1) (f_down) (nI h) (nI p) yf_payload (0) (σ.2.2.2.2.1) (σ.2.2.2.1) yf_counts (σ.2.2.2.2.2.1) (nI σ.2.1) (nI σ.1) (nI z.2) (nI (if l = 0 then 7 else l)) (a.1) (a.2.1) (a.2.2.1) (a.2.2.2.1) (t) (a.2.2.2.2.1) (a.2.2.2.2.2.1) (a_kinds) (a_repeats) (a_life) (a_codes) (an_f wi) (an_f wo) ya_type (an_f σ.2.2.2.2.2.2.1) (σ.2.2.2.2.2.2.2.1) (an_f ql) ya_otherEnded (a_weEnded) (a_finishing) (an_g Q) ya_prefix ya_length ya_got ya_high (a_messageCount) ya_has (an_g tx) ya_frame ya_payloads (σ.2.2.2.2.2.2.2.2.2) (an_g z.1) (a.2.2.2.2.2.2.1) (a.2.2.2.2.2.2.2.1) (a.2.2.2.2.2.2.2.2.1) (a.2.2.2.2.2.2.2.2.2.1) (a.2.2.2.2.2.2.2.2.2.2.1) (a.2.2.2.2.2.2.2.2.2.2.2.1) (a.2.2.2.2.2.2.2.2.2.2.2.2) ya_sizes := by
        intro a t q hq
        unfold wY_endHeaders_36
        rw [c2, hot]
        exact br_t hd (br_t (by decide) ⟨c1, br_f y0 ⟨c1, br_t y1 ⟨c1, hq⟩⟩⟩)
      unfold wpX_trailerFault
      dsimp only
      rw [c2, fl_1 hfl]
      refine ⟨c1, br_c (fun w0 => pk_eq (fl % 2) 0 (fun w2 => ?_) (fun w2 => ?_)) (fun w0 => ?_)⟩
      · unfold wX_endHeaders_55
        refine br_f (by decide) (HE y1 2 (by omega) (fun a t q hq => HYt a t q (br_t w0 (br_t ?_ hq))))
        rw [if_pos w2]
      · unfold wX_endHeaders_55
        refine br_t rfl (HS y0 (fun a t q hq => HYt a t q (br_t w0 (br_f ?_ hq))))
        rw [if_neg w2]
        decide
      · unfold wX_endHeaders_55
        exact br_f (by decide) (HE y1 5 (by omega) (fun a t q hq => HYt a t q (br_f w0 hq)))
    · unfold wX_endHeaders_55
      refine br_t rfl (HS y0 (fun a t q hq => ?_))
      unfold wY_endHeaders_36
      rw [c2]
      exact br_t hd (br_t (by decide) ⟨c1, br_f y0 ⟨c1, br_f y1 hq⟩⟩)
  · dsimp only
    refine br_t rfl (xo_failC (c := 4) hO.1 ?_)
    refine H σ wn 1 a_life (upd a_codes 0 (nI 4)) a_nodeTypes ya_type wi wo ql (ou_L z [1, 5, 0, 0, 4]) I'.1 I'.2.1 (cr_S_c0 hS) (bf_z hO (by omega)) hM (Or.inr rfl) (fun a t q hq => ?_)
    unfold wpY_endHeaders
    refine ⟨n + 1, ?_⟩
    rw [hwn]
    exact yy a t q _ (hq a t)
end
