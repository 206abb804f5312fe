/-! T7: a frame ends: the side of the other end -/
section
variable {K : Nat → Nat} {R : Nat → Bool} {z : (Nat → Nat) × Nat} {fAt n so fl st h p m M l : Nat} {wi wo ql hc Q tx : Nat → Nat} {f_down f_typeSeen yf_payload yf_wants yf_name yf_first yf_counts yf_enters yf_nodes yf_values yf_skipped yf_pos yf_there yf_number yf_at : Int32} {a_payload a_life a_theyEnded a_weEnded a_finishing a_codes a_headers a_entries a_kinds a_repeats a_messageCount a_nodeCount a_nodeTypes a_valueCount a_valueOwners a_values a_skippedCount a_reader a_chainNode a_chainEnd a_nodeSize a_nodePlace ya_type ya_otherEnded ya_prefix ya_length ya_got ya_high ya_has ya_frame ya_payloads ya_table ya_nodeType ya_valueNode ya_valueNumber ya_value ya_from ya_limit ya_inside ya_sizes : Nat → Int32} {k : Nat}
theorem pk_id {f : Nat → Int32} {i : Nat} {x : Int32} (h : f i = x) : upd f i x = f := by
  funext j
  rw [pm_upd_eq]
  split
  · rename_i e; rw [e, h]
  · rfl
theorem pm_id {f : Nat → Nat} {i x : Nat} (h : f i = x) : pm_u f i x = f := by
  funext j
  unfold pm_u
  split
  · rename_i e; rw [e, h]
  · rfl
theorem fl_1 {x : Nat} (h : x < 256) : nI x &&& 1 = nI (x % 2) := pk_andN (by omega) 1 (by decide)
theorem cr_S_th {life th ot we fi co : Nat → Int32} {wi wo ql : Nat → Nat} {s : Nat} (hS : cr_S life th ot we fi co wi wo ql) : cr_S life (upd th s 1) (upd ot s 1) we fi co wi wo ql := by
  refine ⟨hS.1, fun i hi => ?_⟩
  obtain ⟨s1, s2, s3, s4, s5, s6, s7, s8, s9, s10⟩ := hS.2 i hi
  by_cases y : i = s
  · subst y
    rw [pk_us, pk_us]
    exact ⟨s1, Or.inr rfl, s3, s4, s5, s6, s7, fun _ => rfl, s9, s10⟩
  · rw [pk_un y, pk_un y]
    exact ⟨s1, s2, s3, s4, s5, s6, s7, s8, s9, s10⟩
theorem cr_S_ot {life th ot we fi co : Nat → Int32} {wi wo ql : Nat → Nat} {s : Nat} {x : Int32} (hl : life s = 2) (hS : cr_S life th ot we fi co wi wo ql) : cr_S life th (upd ot s x) we fi co wi wo ql := by
  refine ⟨hS.1, fun i hi => ?_⟩
  obtain ⟨s1, s2, s3, s4, s5, s6, s7, s8, s9, s10⟩ := hS.2 i hi
  by_cases y : i = s
  · subst y
    exact ⟨s1, s2, s3, s4, s5, s6, s7, fun w => absurd hl w, s9, s10⟩
  · rw [pk_un y]
    exact ⟨s1, s2, s3, s4, s5, s6, s7, s8, s9, s10⟩
theorem et_both {post : SX → Prop} (hD : f_down = 0 ∨ f_down = 1) (hst : so ≤ 1 → 1 ≤ st ∧ st < 8) (hso : so < 256) (hfl : fl < 256) (hS : cr_S a_life a_theyEnded ya_otherEnded a_weEnded a_finishing a_codes wi wo ql) (hO : ou_I z)
    (hM : cr_M k K R tx a_life a_messageCount a_nodeCount a_nodeTypes a_valueCount a_valueOwners a_values a_skippedCount a_reader a_chainNode a_chainEnd ya_type ya_length ya_got ya_high ya_has ya_prefix)
    (H : ∀ (th' ot' life' co' : Nat → Int32) (ql' : Nat → Nat) (z' : (Nat → Nat) × Nat), cr_S life' th' ot' a_weEnded a_finishing co' wi wo ql' → ou_I z' → (∀ i, life' i = a_life i ∨ (a_life i ≠ 0 ∧ life' i = 2)) →
      (a_life st ≠ 1 → th' = a_theyEnded ∧ ot' = ya_otherEnded ∧ life' = a_life ∧ co' = a_codes ∧ ql' = ql ∧ z' = z) →
      (∀ (a : yr_Z) (t : Int32) (q : SY → Prop), (∀ (a : yr_Z) (t : Int32), q (f_down, nI h, nI p, yf_payload, yf_wants, yf_name, yf_first, yf_counts, yf_enters, nI M, nI m, nI z'.2, nI (if l = 0 then 7 else l), a.1, a.2.1, a.2.2.1, a.2.2.2.1, t, a.2.2.2.2.1, a.2.2.2.2.2.1, a_kinds, a_repeats, life', co', an_f wi, an_f wo, ya_type, an_f hc, a_headers, an_f ql', ot', a_weEnded, a_finishing, an_g Q, ya_prefix, ya_length, ya_got, ya_high, a_messageCount, ya_has, an_g tx, ya_frame, ya_payloads, ya_table, an_g z'.1, a.2.2.2.2.2.2.1, a.2.2.2.2.2.2.2.1, a.2.2.2.2.2.2.2.2.1, a.2.2.2.2.2.2.2.2.2.1, a.2.2.2.2.2.2.2.2.2.2.1, a.2.2.2.2.2.2.2.2.2.2.2.1, a.2.2.2.2.2.2.2.2.2.2.2.2, ya_sizes)) → wY_end_164 q (nI st) (nI so) (if fl % 2 = 0 then 0 else 1) (f_down) (nI h) (nI p) yf_payload yf_wants yf_name yf_first yf_counts yf_enters (nI M) (nI m) (nI z.2) (nI (if l = 0 then 7 else l)) (a.1) (a.2.1) (a.2.2.1) (a.2.2.2.1) (t) (a.2.2.2.2.1) (a.2.2.2.2.2.1) (a_kinds) (a_repeats) (a_life) (a_codes) (an_f wi) (an_f wo) ya_type (an_f hc) (a_headers) (an_f ql) ya_otherEnded (a_weEnded) (a_finishing) (an_g Q) ya_prefix ya_length ya_got ya_high (a_messageCount) ya_has (an_g tx) ya_frame ya_payloads ya_table (an_g z.1) (a.2.2.2.2.2.2.1) (a.2.2.2.2.2.2.2.1) (a.2.2.2.2.2.2.2.2.1) (a.2.2.2.2.2.2.2.2.2.1) (a.2.2.2.2.2.2.2.2.2.2.1) (a.2.2.2.2.2.2.2.2.2.2.2.1) (a.2.2.2.2.2.2.2.2.2.2.2.2) ya_sizes) →
      post (nI fAt, nI n, nI so, nI fl, nI st, f_down, nI m, nI M, f_typeSeen, nI l, nI z'.2, a_payload, life', th', a_weEnded, a_finishing, co', an_f wi, an_f wo, a_headers, an_f hc, a_entries, a_kinds, a_repeats, a_messageCount, an_f tx, a_nodeCount, a_nodeTypes, a_valueCount, a_valueOwners, a_values, a_skippedCount, a_reader, a_chainNode, a_chainEnd, an_f Q, an_f ql', an_f z'.1, a_nodeSize, a_nodePlace)) :
    wX_endFrame_82 post (nI fAt) (nI n) (nI so) (nI fl) (nI st) f_down (nI m) (nI M) f_typeSeen (nI l) (nI z.2) a_payload a_life a_theyEnded a_weEnded a_finishing a_codes (an_f wi) (an_f wo) a_headers (an_f hc) a_entries a_kinds a_repeats a_messageCount (an_f tx) a_nodeCount a_nodeTypes a_valueCount a_valueOwners a_values a_skippedCount a_reader a_chainNode a_chainEnd (an_f Q) (an_f ql) (an_f z.1) a_nodeSize a_nodePlace := by
  have HN : (f_down = 0 → so ≤ 1 → a_life st = 1 → fl % 2 = 0) → post (nI fAt, nI n, nI so, nI fl, nI st, f_down, nI m, nI M, f_typeSeen, nI l, nI z.2, a_payload, a_life, a_theyEnded, a_weEnded, a_finishing, a_codes, an_f wi, an_f wo, a_headers, an_f hc, a_entries, a_kinds, a_repeats, a_messageCount, an_f tx, a_nodeCount, a_nodeTypes, a_valueCount, a_valueOwners, a_values, a_skippedCount, a_reader, a_chainNode, a_chainEnd, an_f Q, an_f ql, an_f z.1, a_nodeSize, a_nodePlace) := by
    intro hno
    refine H a_theyEnded ya_otherEnded a_life a_codes ql z hS hO (fun i => Or.inl rfl) (fun _ => ⟨rfl, rfl, rfl, rfl, rfl, rfl⟩) (fun a t q hq => ?_)
    unfold wY_end_164
    refine pk_lt 1 so (fun _ => hq a t) (fun w => br_c (fun d => ?_) (fun _ => hq a t))
    obtain ⟨c1, c2⟩ := xr_c8 (hst w).2
    rw [c2]
    refine ⟨c1, br_c (fun y => ?_) (fun _ => hq a t)⟩
    rw [if_pos (hno d w y)]
    exact br_t rfl (hq a t)
  unfold wX_endFrame_82
  refine br_c (fun d => pk_lt 1 so (fun w => HN (fun _ w' => by omega)) (fun w => ?_)) (fun d => HN (fun d' => absurd d' d))
  rw [fl_1 hfl]
  obtain ⟨h1, h8⟩ := hst w
  obtain ⟨c1, c2⟩ := xr_c8 h8
  have i0 := xr_ix (s := st) (k := 0) h8 (by omega)
  have c0 : (nI (11 * st) + 0).toNatClampNeg = 11 * st := i0.2.2
  rw [c2]
  refine pk_eq (fl % 2) 0 (fun y => HN (fun _ _ _ => y)) (fun y => ⟨c1, br_c (fun y1 => ?_) (fun y1 => HN (fun _ _ w' => absurd w' y1))⟩)
  obtain ⟨pp, mm, yy, g1, g2, g3, g4, g5, g6, g7, g8, g9, g10, g11, g12⟩ := hM st h1 h8
  have hne : a_life st ≠ 0 := by rw [y1]; decide
  have hne2 : a_life st ≠ 2 := by rw [y1]; decide
  have hl2 := cr_l2 (life := a_life) (s := st) hne
  obtain ⟨s1, s2, s3, s4, s5, s6, s7, s8, s9, s10⟩ := hS.2 st h8
  have eq : upd (an_f ql) st 0 = an_f (pm_u ql st 0) := an_fu ql st 0
  have HY : ∀ (a : yr_Z) (t : Int32) (q : SY → Prop), (pp = 0 → ((a_weEnded st = 0 → q (f_down, nI h, nI p, yf_payload, yf_wants, yf_name, yf_first, yf_counts, yf_enters, nI M, nI m, nI z.2, nI (if l = 0 then 7 else l), a.1, a.2.1, a.2.2.1, a.2.2.2.1, t, a.2.2.2.2.1, a.2.2.2.2.2.1, a_kinds, a_repeats, a_life, a_codes, an_f wi, an_f wo, ya_type, an_f hc, a_headers, an_f ql, upd ya_otherEnded st 1, a_weEnded, a_finishing, an_g Q, ya_prefix, ya_length, ya_got, ya_high, a_messageCount, ya_has, an_g tx, ya_frame, ya_payloads, ya_table, an_g z.1, a.2.2.2.2.2.2.1, a.2.2.2.2.2.2.2.1, a.2.2.2.2.2.2.2.2.1, a.2.2.2.2.2.2.2.2.2.1, a.2.2.2.2.2.2.2.2.2.2.1, a.2.2.2.2.2.2.2.2.2.2.2.1, a.2.2.2.2.2.2.2.2.2.2.2.2, ya_sizes)) ∧ (¬ a_weEnded st = 0 → wpY_shut q (f_down, nI h, nI p, yf_payload, yf_wants, yf_name, yf_first, yf_counts, yf_enters, nI M, nI m, nI z.2, nI (if l = 0 then 7 else l), a.1, a.2.1, a.2.2.1, a.2.2.2.1, t, a.2.2.2.2.1, a.2.2.2.2.2.1, a_kinds, a_repeats, a_life, a_codes, an_f wi, an_f wo, ya_type, an_f hc, a_headers, an_f ql, upd ya_otherEnded st 1, a_weEnded, a_finishing, an_g Q, ya_prefix, ya_length, ya_got, ya_high, a_messageCount, ya_has, an_g tx, ya_frame, ya_payloads, ya_table, an_g z.1, a.2.2.2.2.2.2.1, a.2.2.2.2.2.2.2.1, a.2.2.2.2.2.2.2.2.1, a.2.2.2.2.2.2.2.2.2.1, a.2.2.2.2.2.2.2.2.2.2.1, a.2.2.2.2.2.2.2.2.2.2.2.1, a.2.2.2.2.2.2.2.2.2.2.2.2, ya_sizes) (nI st) 0))) → (0 < pp → wpY_error q (f_down, nI h, nI p, yf_payload, yf_wants, yf_name, yf_first, yf_counts, yf_enters, nI M, nI m, nI z.2, nI (if l = 0 then 7 else l), a.1, a.2.1, a.2.2.1, a.2.2.2.1, t, a.2.2.2.2.1, a.2.2.2.2.2.1, a_kinds, a_repeats, a_life, a_codes, an_f wi, an_f wo, ya_type, an_f hc, a_headers, an_f ql, upd ya_otherEnded st 1, a_weEnded, a_finishing, an_g Q, ya_prefix, ya_length, ya_got, ya_high, a_messageCount, ya_has, an_g tx, ya_frame, ya_payloads, ya_table, an_g z.1, a.2.2.2.2.2.2.1, a.2.2.2.2.2.2.2.1, a.2.2.2.2.2.2.2.2.1, a.2.2.2.2.2.2.2.2.2.1, a.2.2.2.2.2.2.2.2.2.2.1, a.2.2.2.2.2.2.2.2.2.2.2.1, a.2.2.2.2.2.2.2.2.2.2.2.2, ya_sizes) (nI st) (nI 9)) →
      wY_end_164 q (nI st) (nI so) (if fl % 2 = 0 then 0 else 1) (f_down) (nI h) (nI p) yf_payload yf_wants yf_name yf_first yf_counts yf_enters (nI M) (nI m) (nI z.2) (nI (if l = 0 then 7 else l)) (a.1) (a.2.1) (a.2.2.1) (a.2.2.2.1) (t) (a.2.2.2.2.1) (a.2.2.2.2.2.1) (a_kinds) (a_repeats) (a_life) (a_codes) (an_f wi) (an_f wo) ya_type (an_f hc) (a_headers) (an_f ql) ya_otherEnded (a_weEnded) (a_finishing) (an_g Q) ya_prefix ya_length ya_got ya_high (a_messageCount) ya_has (an_g tx) ya_frame ya_payloads ya_table (an_g z.1) (a.2.2.2.2.2.2.1) (a.2.2.2.2.2.2.2.1) (a.2.2.2.2.2.2.2.2.1) (a.2.2.2.2.2.2.2.2.2.1) (a.2.2.2.2.2.2.2.2.2.2.1) (a.2.2.2.2.2.2.2.2.2.2.2.1) (a.2.2.2.2.2.2.2.2.2.2.2.2) ya_sizes := by
    intro a t q k1 k2
    unfold wY_end_164
    rw [c2, g2, if_neg y]
    refine pk_lt 1 so (fun w' => by omega) (fun _ => br_t d ⟨c1, br_t y1 (br_f (by decide) ⟨c1, nm_r (e' := upd ya_otherEnded st 1) rfl ⟨c1, pk_le pp 0 (fun w' => ⟨c1, k1 (by omega)⟩) (fun w' => k2 w')⟩⟩)⟩)
  unfold wpX_endTheirSide
  dsimp only
  rw [i0.1, c0, c2, g3]
  refine ⟨i0.2.1, pk_eq pp 0 (fun p0 => ⟨c1, nm_r (e' := upd a_theyEnded st 1) rfl ⟨c1, br_c (fun w0 => ?_) (fun w0 => ⟨c1, nm_e ?_⟩)⟩⟩) (fun p0 => xo_failS (c := 9) h8 hO.1 ?_)⟩
  · exact H (upd a_theyEnded st 1) (upd ya_otherEnded st 1) a_life a_codes ql z (cr_S_th hS) hO (fun i => Or.inl rfl) (fun w' => absurd y1 w') (fun a t q hq => HY a t q (fun _ => br_t w0 (hq a t)) (fun w' => by omega))
  · have hw1 : a_weEnded st = 1 := s3.resolve_left w0
    have eco : upd a_codes st 0 = a_codes := pk_id (s9 hne2 (by omega))
    have eql : pm_u ql st 0 = ql := pm_id (s10 hw1).2
    have hS' := cr_S_shut (x := 0) (show 0 < st by omega) (cr_S_th (s := st) hS)
    rw [eco, eql] at hS'
    refine H (upd a_theyEnded st 1) (upd ya_otherEnded st 1) (upd a_life st 2) a_codes ql z hS' hO hl2 (fun w' => absurd y1 w') (fun a t q hq => HY a t q (fun _ => br_f w0 (yo_shut h8 ?_)) (fun w' => by omega))
    rw [eq, eql, eco]
    exact hq a t
  · rw [eq]
    refine H a_theyEnded (upd ya_otherEnded st 1) (upd a_life st 2) (upd a_codes st (nI 9)) (pm_u ql st 0) (ou_L z [1, 2, 0, st, 9]) (cr_S_ot pk_us (cr_S_shut (by omega) hS)) (td_z hO h8 (by omega)) hl2 (fun w' => absurd y1 w') (fun a t q hq => HY a t q (fun w' => absurd w' p0) (fun _ => yo_errS (by omega) h8 hO.1 ?_))
    rw [eq]
    exact hq a t
end
