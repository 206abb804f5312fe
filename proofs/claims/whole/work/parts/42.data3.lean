/-! T4: a byte of data, both sides -/
section
/-- a stream stays, or is shut -/
def td_L (st : Nat) (life life' co co' : Nat → Int32) (ql ql' : Nat → Nat) (ct ct' : Int32) : Prop :=
  (life' = life ∧ co' = co ∧ ql' = ql ∧ ct' = ct) ∨ (∃ x, life' = upd life st 2 ∧ co' = upd co st x ∧ ql' = pm_u ql st 0 ∧ ct' = 0)
variable {K : Nat → Nat} {R : Nat → Bool} {z : (Nat → Nat) × Nat} {fAt n so fl st h p m M l : Nat} {wi wo ql hc Q tx : Nat → Nat} {f_down f_typeSeen yf_payload yf_wants yf_name yf_first yf_counts yf_enters yf_nodes yf_values yf_skipped yf_pos yf_there yf_number yf_at : Int32} {a_payload a_life a_theyEnded a_weEnded a_finishing a_codes a_headers a_entries a_kinds a_repeats a_messageCount a_nodeCount a_nodeTypes a_valueCount a_valueOwners a_values a_skippedCount a_reader a_chainNode a_chainEnd a_nodeSize a_nodePlace ya_type ya_otherEnded ya_prefix ya_length ya_got ya_high ya_has ya_frame ya_payloads ya_table ya_nodeType ya_valueNode ya_valueNumber ya_value ya_from ya_limit ya_inside ya_sizes : Nat → Int32} {k b : Nat}
theorem td_both {post : SX → Prop} (h1 : 1 ≤ st) (h8 : st < 8) (hb : b < 256) (ho : a_life st = 1) (hO : ou_I z) (hX : cr_B tx) (hK : cr_K a_kinds a_repeats K R)
    (hM : cr_M k K R tx a_life a_messageCount a_nodeCount a_nodeTypes a_valueCount a_valueOwners a_values a_skippedCount a_reader a_chainNode a_chainEnd ya_type ya_length ya_got ya_high ya_has ya_prefix)
    (H : ∀ (life' co' : Nat → Int32) (ql' : Nat → Nat) (z' : (Nat → Nat) × Nat) (tx' : Nat → Nat) (mc' nc' nt' vc' vo' va' sk' rd' cn' ce' le' go' hi' ha' pr' : Nat → Int32) (ct' : Int32),
      cr_M (k + 1) K R tx' life' mc' nc' nt' vc' vo' va' sk' rd' cn' ce' ya_type le' go' hi' ha' pr' → ou_I z' → cr_B tx' → td_L st a_life life' a_codes co' ql ql' yf_counts ct' →
      (∀ (a : yr_Z) (t : Int32) (q : SY → Prop), (∀ (a : yr_Z) (t : Int32), q (f_down, nI h, nI p, yf_payload, yf_wants, yf_name, yf_first, ct', yf_enters, nI M, nI m, nI z'.2, nI (if l = 0 then 7 else l), a.1, a.2.1, a.2.2.1, a.2.2.2.1, t, a.2.2.2.2.1, a.2.2.2.2.2.1, a_kinds, a_repeats, life', co', an_f wi, an_f wo, ya_type, an_f hc, a_headers, an_f ql', ya_otherEnded, a_weEnded, a_finishing, an_g Q, pr', le', go', hi', mc', ha', an_g tx', ya_frame, ya_payloads, ya_table, an_g z'.1, a.2.2.2.2.2.2.1, a.2.2.2.2.2.2.2.1, a.2.2.2.2.2.2.2.2.1, a.2.2.2.2.2.2.2.2.2.1, a.2.2.2.2.2.2.2.2.2.2.1, a.2.2.2.2.2.2.2.2.2.2.2.1, a.2.2.2.2.2.2.2.2.2.2.2.2, ya_sizes)) → wpY_data q (f_down, nI h, nI p, yf_payload, yf_wants, yf_name, yf_first, yf_counts, yf_enters, nI M, nI m, nI z.2, nI (if l = 0 then 7 else l), a.1, a.2.1, a.2.2.1, a.2.2.2.1, t, a.2.2.2.2.1, a.2.2.2.2.2.1, a_kinds, a_repeats, a_life, a_codes, an_f wi, an_f wo, ya_type, an_f hc, a_headers, an_f ql, ya_otherEnded, a_weEnded, a_finishing, an_g Q, ya_prefix, ya_length, ya_got, ya_high, a_messageCount, ya_has, an_g tx, ya_frame, ya_payloads, ya_table, an_g z.1, a.2.2.2.2.2.2.1, a.2.2.2.2.2.2.2.1, a.2.2.2.2.2.2.2.2.1, a.2.2.2.2.2.2.2.2.2.1, a.2.2.2.2.2.2.2.2.2.2.1, a.2.2.2.2.2.2.2.2.2.2.2.1, a.2.2.2.2.2.2.2.2.2.2.2.2, ya_sizes) (nI st) (nI b)) →
      post (nI fAt, nI n, nI so, nI fl, nI st, f_down, nI m, nI M, f_typeSeen, nI l, nI z'.2, a_payload, life', a_theyEnded, a_weEnded, a_finishing, co', an_f wi, an_f wo, a_headers, an_f hc, a_entries, a_kinds, a_repeats, mc', an_f tx', nc', nt', vc', vo', va', sk', rd', cn', ce', an_f Q, an_f ql', an_f z'.1, a_nodeSize, a_nodePlace)) :
    wpX_takeData post (nI fAt, nI n, nI so, nI fl, nI st, f_down, nI m, nI M, f_typeSeen, nI l, nI z.2, a_payload, a_life, a_theyEnded, a_weEnded, a_finishing, a_codes, an_f wi, an_f wo, a_headers, an_f hc, a_entries, a_kinds, a_repeats, a_messageCount, an_f tx, a_nodeCount, a_nodeTypes, a_valueCount, a_valueOwners, a_values, a_skippedCount, a_reader, a_chainNode, a_chainEnd, an_f Q, an_f ql, an_f z.1, a_nodeSize, a_nodePlace) (nI b) := by
  obtain ⟨p, mm, y, g1, g2, g3, g4, g5, g6, g7, g8, g9, g10, g11, g12⟩ := hM st h1 h8
  have g10' := g10 (Or.inl ho)
  obtain ⟨c1, c2⟩ := xr_c8 h8
  have i0 := xr_ix (s := st) (k := 0) h8 (by omega)
  have c0 : (nI (11 * st) + 0).toNatClampNeg = 11 * st := i0.2.2
  have eq : upd (an_f ql) st 0 = an_f (pm_u ql st 0) := an_fu ql st 0
  have l2 : upd a_life st 2 st = 2 := pk_us
  unfold wpX_takeData
  dsimp only
  rw [c2, i0.1, c0, g3]
  refine ⟨c1, br_t ho ⟨i0.2.1, ?_⟩⟩
  have hp : p = 0 ∨ p = 1 ∨ p = 2 ∨ p = 3 := by omega
  rcases hp with e | e | e | e
  · subst e
    refine br_f (by decide) (xp_1 h8 hb g3 (fun w => ?_) (fun w => ?_))
    · dsimp only
      unfold wX_takeData_48
      refine br_f (by decide) (xo_failS (c := 7) h8 hO.1 ?_)
      rw [eq]
      refine H (upd a_life st 2) (upd a_codes st (nI 7)) (pm_u ql st 0) (ou_L z [1, 2, 0, st, 7]) tx a_messageCount a_nodeCount a_nodeTypes a_valueCount a_valueOwners a_values a_skippedCount (upd a_reader (11 * st) (nI 1)) a_chainNode a_chainEnd ya_length ya_got ya_high ya_has (upd ya_prefix st (nI 1)) 0 ?_ (td_z hO h8 (by omega)) hX (Or.inr ⟨_, rfl, rfl, rfl, rfl⟩) (fun a t q hq => ?_)
      · exact td_M hM h8 (td_low (p := 0) (p' := 1) (life := a_life) (by omega) (by omega) (by rw [l2]; decide) (fun w => absurd (l2.symm.trans w) (by decide)) pk_us pk_us g4 g5 g6 g7 (fun w => absurd w (by omega)) g10 g11) (td_fr0 (xr_O_u (i := 0) (by omega))) (fun _ _ => rfl) td_u td_r td_r td_r td_r td_u
      · refine yd_7 (by omega) h8 hb hO.1 w g2 ?_
        rw [eq]
        exact hq a t
    · subst w
      dsimp only
      unfold wX_takeData_48
      refine br_t rfl ?_
      refine H a_life a_codes ql z tx a_messageCount a_nodeCount a_nodeTypes a_valueCount a_valueOwners a_values a_skippedCount (upd a_reader (11 * st) (nI 1)) a_chainNode a_chainEnd ya_length ya_got ya_high ya_has (upd ya_prefix st (nI 1)) yf_counts ?_ hO hX (Or.inl ⟨rfl, rfl, rfl, rfl⟩) (fun a t q hq => yd_0 h8 g2 (hq a t))
      exact td_M hM h8 (td_low (p := 0) (p' := 1) (life := a_life) (by omega) (by omega) (by rw [ho]; decide) id pk_us pk_us g4 g5 g6 g7 (fun w => absurd w (by omega)) g10 g11) (td_fr0 (xr_O_u (i := 0) (by omega))) (fun _ _ => rfl) td_r td_r td_r td_r td_r td_u
  · subst e
    refine br_f (by decide) (xp_2 h8 hb g3 ?_)
    dsimp only
    unfold wX_takeData_48
    refine br_t rfl ?_
    refine H a_life a_codes ql z tx a_messageCount a_nodeCount a_nodeTypes a_valueCount a_valueOwners a_values a_skippedCount (upd (upd a_reader (11 * st) (nI 2)) (11 * st + 1) (nI (256 * b))) a_chainNode a_chainEnd ya_length ya_got (upd ya_high st (nI b)) ya_has (upd ya_prefix st (nI 2)) yf_counts ?_ hO hX (Or.inl ⟨rfl, rfl, rfl, rfl⟩) (fun a t q hq => yd_1 h8 g2 (hq a t))
    exact td_M hM h8 (td_low (p := 1) (p' := 2) (life := a_life) (by omega) (by omega) (by rw [ho]; decide) id pk_us ((pk_un (by omega)).trans pk_us) g4 g5 g6 g7 (fun _ => ⟨b, hb, pk_us, pk_us⟩) g10 g11) (td_fr0 (xr_O_t (xr_O_u (i := 0) (by omega)) (xr_O_u (i := 1) (by omega)))) (fun _ _ => rfl) td_r td_r td_r td_u td_r td_u
  · subst e
    obtain ⟨x, x1, x2, x3⟩ := g9 rfl
    have r3 : upd (upd a_reader (11 * st) (nI 3)) (11 * st + 1) (nI (256 * x + b)) (11 * st) = nI 3 := (pk_un (by omega)).trans pk_us
    refine br_f (by decide) (xp_3 (B := cr_by tx st) (K := K) (R := R) (L := 256 * x + b) h8 hb x1 g6 g3 x3 rfl g10'.2 (fun w => ?_) (fun w mc' nc' vc' sk' rd' cn' ce' o1 o2 o3 o4 o5 o6 o7 sp => ?_))
    · dsimp only
      unfold wX_takeData_48
      refine br_f (by decide) (xo_failS (c := 8) h8 hO.1 ?_)
      rw [eq]
      refine H (upd a_life st 2) (upd a_codes st (nI 8)) (pm_u ql st 0) (ou_L z [1, 2, 0, st, 8]) tx a_messageCount a_nodeCount a_nodeTypes a_valueCount a_valueOwners a_values a_skippedCount (upd (upd a_reader (11 * st) (nI 3)) (11 * st + 1) (nI (256 * x + b))) a_chainNode a_chainEnd (upd ya_length st (nI (256 * x + b))) (upd ya_got st (nI 0)) ya_high (upd ya_has st 0) (upd ya_prefix st (nI 3)) 0 ?_ (td_z hO h8 (by omega)) hX (Or.inr ⟨_, rfl, rfl, rfl, rfl⟩) (fun a t q hq => ?_)
      · exact td_M hM h8 (td_bad l2 pk_us r3 g4 g5 g6 pk_us) (td_fr0 (xr_O_t (xr_O_u (i := 0) (by omega)) (xr_O_u (i := 1) (by omega)))) (fun _ _ => rfl) td_u td_u td_u td_r td_u td_u
      · refine yd_2 (by omega) h8 hb x1 hO.1 rfl g2 x2 (fun _ => ?_) (fun w' => by omega) (fun _ w' => by omega)
        rw [eq]
        exact hq a t
    · dsimp only
      unfold wX_takeData_48
      refine br_t rfl ?_
      rcases sp with ⟨s1, _⟩ | ⟨_, s2, s3, s4, _⟩ | ⟨_, s2, s3, s4, s5⟩
      · exact absurd rfl s1
      · subst s2
        have hpos : 0 < 256 * x + b := by
          obtain ⟨_, _, _, _, _, _, _, hlt, _⟩ := s4
          exact hlt
        refine H a_life a_codes ql z tx mc' nc' a_nodeTypes vc' a_valueOwners a_values sk' rd' cn' ce' (upd ya_length st (nI (256 * x + b))) (upd ya_got st (nI 0)) ya_high (upd ya_has st 0) (upd ya_prefix st (nI 3)) yf_counts ?_ hO hX (Or.inl ⟨rfl, rfl, rfl, rfl⟩) (fun a t q hq => ?_)
        · exact td_M hM h8 (td_inc w ho pk_us (s3.trans r3) g4 g5 g6 pk_us g10' pk_us pk_us s4) ⟨xr_O_r, o2, xr_O_r, o3, xr_O_r, xr_O_r, o4, o5, o6, o7, rfl⟩ (fun _ _ => rfl) td_r td_u td_u td_r td_u td_u
        · exact yd_2 (by omega) h8 hb x1 hO.1 rfl g2 x2 (fun w' => by omega) (fun w' => by omega) (fun _ _ => hq a t)
      · subst s3
        refine H a_life a_codes ql z tx (upd a_messageCount st (a_messageCount st + 1)) nc' a_nodeTypes vc' a_valueOwners a_values sk' rd' cn' ce' (upd ya_length st (nI (256 * x + b))) (upd ya_got st (nI 0)) ya_high (upd (upd ya_has st 0) st 1) (upd (upd ya_prefix st (nI 3)) st 0) yf_counts ?_ hO hX (Or.inl ⟨rfl, rfl, rfl, rfl⟩) (fun a t q hq => ?_)
        · exact td_M hM h8 (td_done w ho pk_us s4 g4 (by rw [pk_us, g5, nI_1]) g6 pk_us g10' pk_us (by rw [pk_us, ← s2]) s5) ⟨xr_O_1, o2, xr_O_r, o3, xr_O_r, xr_O_r, o4, o5, o6, o7, rfl⟩ (fun _ _ => rfl) td_r td_u td_u td_r td_uu td_uu
        · exact yd_2 (by omega) h8 hb x1 hO.1 rfl g2 x2 (fun w' => by omega) (fun _ => hq a t) (fun w' => by omega)
  · subst e
    obtain ⟨L, t, l1, l2', l3, inc⟩ := g12 rfl ho
    have htL : t < L := by
      obtain ⟨_, _, _, _, _, _, _, hlt, _⟩ := inc
      exact hlt
    have ha0 : ya_has st = 0 := by rw [g7, if_neg (fun w => absurd w.2 (by omega))]
    have hB : ∀ i, i < t → cr_by (pm_u tx (200 * st + t) b) st i = cr_by tx st i := by
      intro i hi
      unfold cr_by
      rw [if_pos (by omega), if_pos (by omega), pm_un (by omega)]
    have hb1 : cr_by (pm_u tx (200 * st + t) b) st t = b := by
      unfold cr_by
      rw [if_pos (by omega), pm_us]
    have htx : ∀ j, j < 200 * st ∨ 200 * st + 200 ≤ j → pm_u tx (200 * st + t) b j = tx j := fun j hj => pm_un (by omega)
    refine br_t (by decide) (xb_byte (B := cr_by tx st) (B1 := cr_by (pm_u tx (200 * st + t) b) st) h8 l1 hK hb hB hb1 inc (fun code mc' nc' nt' vc' vo' va' sk' rd' cn' ce' fr sp => ?_))
    have hnt : nt' (16 * st) = nI y := fr.2.2.2.2.2.2.2.2.2.2.trans g10'.2
    dsimp only
    unfold wX_takeData_48
    rcases sp with ⟨s1, s2, s3, s4, r, s5, s6⟩ | ⟨s1, s2, s3, s4, r, s5, s6⟩ | ⟨s1, s2, s3, s4, s5⟩
    · rw [if_neg s1]
      subst s3
      have hne : ¬ nI (10 + code) = 0 := by
        intro e
        have := (nI_eq (a := 10 + code) (b := 0) (by omega) (by omega)).mp e
        omega
      refine br_f hne (xo_failS (c := 10 + code) h8 hO.1 ?_)
      rw [eq]
      refine H (upd a_life st 2) (upd a_codes st (nI (10 + code))) (pm_u ql st 0) (ou_L z [1, 2, 0, st, 10 + code]) (pm_u tx (200 * st + t) b) mc' nc' nt' vc' vo' va' sk' rd' cn' ce' ya_length (upd ya_got st (nI (t + 1))) ya_high ya_has ya_prefix 0 ?_ (td_z hO h8 (by omega)) (td_BB hb hX) (Or.inr ⟨_, rfl, rfl, rfl, rfl⟩) (fun a t' q hq => ?_)
      · exact td_M hM h8 (td_bad l2 g2 (s4.trans g3) g4 g5 g6 ha0) fr htx td_u td_r td_u td_r td_r td_r
      · refine yd_3 (r := r) (by omega) h8 hb g6 l1 htL hO.1 hK hX g2 l3 l2' g10'.1 s5 (Or.inl (by omega)) (fun a' _ _ => ?_) (fun _ w _ => by omega) (fun _ w _ => by omega)
        rw [eq, s6]
        exact hq a' _
    · subst s1
      subst s2
      rw [if_pos rfl]
      refine br_t rfl ?_
      have hlt : t + 1 < L := by
        obtain ⟨_, _, _, _, _, _, _, hlt, _⟩ := s4
        exact hlt
      refine H a_life a_codes ql z (pm_u tx (200 * st + t) b) mc' nc' nt' vc' vo' va' sk' rd' cn' ce' ya_length (upd ya_got st (nI (t + 1))) ya_high ya_has ya_prefix yf_counts ?_ hO (td_BB hb hX) (Or.inl ⟨rfl, rfl, rfl, rfl⟩) (fun a t' q hq => ?_)
      · exact td_M hM h8 (td_inc l1 ho g2 (s3.trans g3) g4 g5 g6 ha0 ⟨g10'.1, hnt⟩ l2' pk_us s4) fr htx td_r td_r td_u td_r td_r td_r
      · exact yd_3 (r := r) (by omega) h8 hb g6 l1 htL hO.1 hK hX g2 l3 l2' g10'.1 s5 (Or.inr s6) (fun a' _ w => absurd s6 w) (fun a' _ _ => hq a' _) (fun _ _ w => by omega)
    · subst s1
      subst s3
      rw [if_pos rfl]
      refine br_t rfl ?_
      refine H a_life a_codes ql z (pm_u tx (200 * st + t) b) (upd a_messageCount st (a_messageCount st + 1)) nc' nt' vc' vo' va' sk' rd' cn' ce' ya_length (upd ya_got st (nI (t + 1))) ya_high (upd ya_has st 1) (upd ya_prefix st 0) yf_counts ?_ hO (td_BB hb hX) (Or.inl ⟨rfl, rfl, rfl, rfl⟩) (fun a t' q hq => ?_)
      · exact td_M hM h8 (td_done l1 ho pk_us s4 g4 (by rw [pk_us, g5, nI_1]) g6 pk_us ⟨g10'.1, hnt⟩ l2' (by rw [pk_us, s2]) s5) fr htx td_r td_r td_u td_r td_u td_u
      · obtain ⟨dep, c, d1, d2, d3⟩ := s5
        exact yd_3 (r := (0, c)) (by omega) h8 hb g6 l1 htL hO.1 hK hX g2 l3 l2' g10'.1 (by rw [s2]; exact d1) (Or.inl (Nat.zero_le _)) (fun a' w _ => absurd rfl w) (fun _ _ w => absurd s2 w) (fun a' _ _ => hq a' _)
end
