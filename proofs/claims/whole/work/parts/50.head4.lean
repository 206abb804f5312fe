/-! T12: headers: all entries of a frame, both sides -/
section
abbrev hd_Z : Type := Nat × Nat × Int32 × Int32 × Int32 × Int32 × (Nat → Nat) × (Nat → Int32) × (Nat → Int32) × (Nat → Int32)
def hd_I (life : Nat → Int32) (st : Nat) (s : hd_Z) : Prop :=
  cr_T s.2.2.2.2.2.2.2.2.1 s.2.2.2.2.2.2.2.2.2 s.1 s.2.1 ∧ (∀ i, i < 8 → s.2.2.2.2.2.2.1 i ≤ 8) ∧ (life st ≠ 2 → s.2.2.1 = s.2.2.2.1)
/-- a header is kept -/
def hd_k (life : Nat → Int32) (st nm v e : Nat) (s : hd_Z) : hd_Z :=
  (s.1, s.2.1, kh_t s.2.2.1 nm v, (if life st = 2 then s.2.2.2.1 else kh_t s.2.2.2.1 nm v), s.2.2.2.2.1, s.2.2.2.2.2.1, kh_c life st s.2.2.2.2.2.2.1, kh_h life st s.2.2.2.2.2.2.1 s.2.2.2.2.2.2.2.1 e, s.2.2.2.2.2.2.2.2.1, s.2.2.2.2.2.2.2.2.2)
/-- .. of a name of its own -/
def hd_n (s : hd_Z) (nm : Nat) (es : Int32) : hd_Z := (s.1, s.2.1, s.2.2.1, s.2.2.2.1, nI nm, es, s.2.2.2.2.2.2)
/-- .. and put into the table -/
def hd_a (s : hd_Z) (e : Nat) : hd_Z :=
  (at_m s.1 s.2.1, s.2.1, s.2.2.1, s.2.2.2.1, s.2.2.2.2.1, s.2.2.2.2.2.1, s.2.2.2.2.2.2.1, s.2.2.2.2.2.2.2.1, at_e s.2.2.2.2.2.2.2.2.1 s.1 s.2.1 e, upd (tb_s s.2.2.2.2.2.2.2.2.2 s.1 0) 0 (nI e))
def hd_m (s : hd_Z) (x : Nat) : hd_Z := (if s.1 ≤ x then s.1 else x, x, s.2.2)
variable {K : Nat → Nat} {R : Nat → Bool} {z : (Nat → Nat) × Nat} {fAt n so fl st h p m M l : Nat} {wi wo ql hc Q tx : Nat → Nat} {f_down f_typeSeen yf_payload yf_wants yf_name yf_first yf_counts yf_enters yf_nodes yf_values yf_skipped yf_pos yf_there yf_number yf_at : Int32} {a_payload a_life a_theyEnded a_weEnded a_finishing a_codes a_headers a_entries a_kinds a_repeats a_messageCount a_nodeCount a_nodeTypes a_valueCount a_valueOwners a_values a_skippedCount a_reader a_chainNode a_chainEnd a_nodeSize a_nodePlace ya_type ya_otherEnded ya_prefix ya_length ya_got ya_high ya_has ya_frame ya_payloads ya_table ya_nodeType ya_valueNode ya_valueNumber ya_value ya_from ya_limit ya_inside ya_sizes : Nat → Int32}
theorem hd_k_I {nm v e : Nat} {s : hd_Z} (I : hd_I a_life st s) : hd_I a_life st (hd_k a_life st nm v e s) := by
  obtain ⟨i1, i2, i3⟩ := I
  refine ⟨i1, kh_c8 i2, fun w => ?_⟩
  show kh_t s.2.2.1 nm v = if a_life st = 2 then s.2.2.2.1 else kh_t s.2.2.2.1 nm v
  rw [if_neg w, i3 w]
theorem hd_a_I {e : Nat} {s : hd_Z} (he : e < 65536) (I : hd_I a_life st s) : hd_I a_life st (hd_a s e) := ⟨at_T he I.1, I.2.1, I.2.2⟩
theorem hd_n_I {nm : Nat} {es : Int32} {s : hd_Z} (I : hd_I a_life st s) : hd_I a_life st (hd_n s nm es) := I
theorem hd_m_I {x : Nat} {s : hd_Z} (hx : x ≤ 16) (I : hd_I a_life st s) : hd_I a_life st (hd_m s x) := ⟨lt_T hx I.1, I.2.1, I.2.2⟩
theorem hd_end {post : Int32 → SX → Prop} (hn : n ≤ 63) (f0 : ya_frame 0 = nI n) {i row fu : Nat} {σ : hd_Z} (hi : i = n) (hfu : 0 < fu) (I : hd_I a_life st σ) (hr : row ≤ i)
    (H1 : ∀ σ' : hd_Z, hd_I a_life st σ' → (∀ (a : yr_Z) (t : Int32) (q : SY → Prop) (x2 : Int32), wY_endHeaders_36 q (nI st) x2 (f_down) (nI h) (nI p) yf_payload (0) (σ'.2.2.2.2.1) (σ'.2.2.2.1) yf_counts (σ'.2.2.2.2.2.1) (nI σ'.2.1) (nI σ'.1) (nI z.2) (nI (if l = 0 then 7 else l)) (a.1) (a.2.1) (a.2.2.1) (a.2.2.2.1) (t) (a.2.2.2.2.1) (a.2.2.2.2.2.1) (a_kinds) (a_repeats) (a_life) (a_codes) (an_f wi) (an_f wo) ya_type (an_f σ'.2.2.2.2.2.2.1) (σ'.2.2.2.2.2.2.2.1) (an_f ql) ya_otherEnded (a_weEnded) (a_finishing) (an_g Q) ya_prefix ya_length ya_got ya_high (a_messageCount) ya_has (an_g tx) ya_frame ya_payloads (σ'.2.2.2.2.2.2.2.2.2) (an_g z.1) (a.2.2.2.2.2.2.1) (a.2.2.2.2.2.2.2.1) (a.2.2.2.2.2.2.2.2.1) (a.2.2.2.2.2.2.2.2.2.1) (a.2.2.2.2.2.2.2.2.2.2.1) (a.2.2.2.2.2.2.2.2.2.2.2.1) (a.2.2.2.2.2.2.2.2.2.2.2.2) ya_sizes → wY_endHeaders_2 q (nI st) x2 (0 + 1) (nI i) (f_down) (nI h) (nI p) yf_payload (0) (σ.2.2.2.2.1) (σ.2.2.2.1) yf_counts (σ.2.2.2.2.2.1) (nI σ.2.1) (nI σ.1) (nI z.2) (nI (if l = 0 then 7 else l)) (a.1) (a.2.1) (a.2.2.1) (a.2.2.2.1) (t) (a.2.2.2.2.1) (a.2.2.2.2.2.1) (a_kinds) (a_repeats) (a_life) (a_codes) (an_f wi) (an_f wo) ya_type (an_f σ.2.2.2.2.2.2.1) (σ.2.2.2.2.2.2.2.1) (an_f ql) ya_otherEnded (a_weEnded) (a_finishing) (an_g Q) ya_prefix ya_length ya_got ya_high (a_messageCount) ya_has (an_g tx) ya_frame ya_payloads (σ.2.2.2.2.2.2.2.2.2) (an_g z.1) (a.2.2.2.2.2.2.1) (a.2.2.2.2.2.2.2.1) (a.2.2.2.2.2.2.2.2.1) (a.2.2.2.2.2.2.2.2.2.1) (a.2.2.2.2.2.2.2.2.2.2.1) (a.2.2.2.2.2.2.2.2.2.2.2.1) (a.2.2.2.2.2.2.2.2.2.2.2.2) ya_sizes) → post 1 (nI fAt, nI n, nI so, nI fl, nI st, f_down, nI σ'.1, nI σ'.2.1, σ'.2.2.1, nI l, nI z.2, a_payload, a_life, a_theyEnded, a_weEnded, a_finishing, a_codes, an_f wi, an_f wo, σ'.2.2.2.2.2.2.2.1, an_f σ'.2.2.2.2.2.2.1, σ'.2.2.2.2.2.2.2.2.1, a_kinds, a_repeats, a_messageCount, an_f tx, a_nodeCount, a_nodeTypes, a_valueCount, a_valueOwners, a_values, a_skippedCount, a_reader, a_chainNode, a_chainEnd, an_f Q, an_f ql, an_f z.1, a_nodeSize, a_nodePlace)) :
    wX_readHeaders_9 post (nI st) fu (nI i) (nI row) (nI fAt) (nI n) (nI so) (nI fl) (nI st) f_down (nI σ.1) (nI σ.2.1) (σ.2.2.1) (nI l) (nI z.2) a_payload a_life a_theyEnded a_weEnded a_finishing a_codes (an_f wi) (an_f wo) (σ.2.2.2.2.2.2.2.1) (an_f σ.2.2.2.2.2.2.1) (σ.2.2.2.2.2.2.2.2.1) a_kinds a_repeats a_messageCount (an_f tx) a_nodeCount a_nodeTypes a_valueCount a_valueOwners a_values a_skippedCount a_reader a_chainNode a_chainEnd (an_f Q) (an_f ql) (an_f z.1) a_nodeSize a_nodePlace := by
  have HX := H1 σ I (fun a t q x2 hq => hy_0 hi hn f0 hq)
  cases fu with
  | zero => omega
  | succ fu =>
    rw [wX_readHeaders_9]
    exact br_c (fun _ => HX) (fun _ => pk_le n i (fun _ => HX) (fun w => by omega))
theorem hd_loop {post : Int32 → SX → Prop} (hd : f_down = 0) (h8 : st < 8) (hn : n ≤ 63) (hO : ou_I z) (f0 : ya_frame 0 = nI n) (hpl : ∀ i, i < n → ∃ b, b < 256 ∧ a_payload i = nI b ∧ ya_payloads i = nI b) :
    ∀ (F f i row fu : Nat) (σ : hd_Z), f ≤ F → i + f = n → row ≤ i → f < fu → hd_I a_life st σ →
    (∀ σ' : hd_Z, hd_I a_life st σ' → (∀ (a : yr_Z) (t : Int32) (q : SY → Prop) (x2 : Int32), wY_endHeaders_36 q (nI st) x2 (f_down) (nI h) (nI p) yf_payload (0) (σ'.2.2.2.2.1) (σ'.2.2.2.1) yf_counts (σ'.2.2.2.2.2.1) (nI σ'.2.1) (nI σ'.1) (nI z.2) (nI (if l = 0 then 7 else l)) (a.1) (a.2.1) (a.2.2.1) (a.2.2.2.1) (t) (a.2.2.2.2.1) (a.2.2.2.2.2.1) (a_kinds) (a_repeats) (a_life) (a_codes) (an_f wi) (an_f wo) ya_type (an_f σ'.2.2.2.2.2.2.1) (σ'.2.2.2.2.2.2.2.1) (an_f ql) ya_otherEnded (a_weEnded) (a_finishing) (an_g Q) ya_prefix ya_length ya_got ya_high (a_messageCount) ya_has (an_g tx) ya_frame ya_payloads (σ'.2.2.2.2.2.2.2.2.2) (an_g z.1) (a.2.2.2.2.2.2.1) (a.2.2.2.2.2.2.2.1) (a.2.2.2.2.2.2.2.2.1) (a.2.2.2.2.2.2.2.2.2.1) (a.2.2.2.2.2.2.2.2.2.2.1) (a.2.2.2.2.2.2.2.2.2.2.2.1) (a.2.2.2.2.2.2.2.2.2.2.2.2) ya_sizes → wY_endHeaders_2 q (nI st) x2 (f + 1) (nI i) (f_down) (nI h) (nI p) yf_payload (0) (σ.2.2.2.2.1) (σ.2.2.2.1) yf_counts (σ.2.2.2.2.2.1) (nI σ.2.1) (nI σ.1) (nI z.2) (nI (if l = 0 then 7 else l)) (a.1) (a.2.1) (a.2.2.1) (a.2.2.2.1) (t) (a.2.2.2.2.1) (a.2.2.2.2.2.1) (a_kinds) (a_repeats) (a_life) (a_codes) (an_f wi) (an_f wo) ya_type (an_f σ.2.2.2.2.2.2.1) (σ.2.2.2.2.2.2.2.1) (an_f ql) ya_otherEnded (a_weEnded) (a_finishing) (an_g Q) ya_prefix ya_length ya_got ya_high (a_messageCount) ya_has (an_g tx) ya_frame ya_payloads (σ.2.2.2.2.2.2.2.2.2) (an_g z.1) (a.2.2.2.2.2.2.1) (a.2.2.2.2.2.2.2.1) (a.2.2.2.2.2.2.2.2.1) (a.2.2.2.2.2.2.2.2.2.1) (a.2.2.2.2.2.2.2.2.2.2.1) (a.2.2.2.2.2.2.2.2.2.2.2.1) (a.2.2.2.2.2.2.2.2.2.2.2.2) ya_sizes) → post 1 (nI fAt, nI n, nI so, nI fl, nI st, f_down, nI σ'.1, nI σ'.2.1, σ'.2.2.1, nI l, nI z.2, a_payload, a_life, a_theyEnded, a_weEnded, a_finishing, a_codes, an_f wi, an_f wo, σ'.2.2.2.2.2.2.2.1, an_f σ'.2.2.2.2.2.2.1, σ'.2.2.2.2.2.2.2.2.1, a_kinds, a_repeats, a_messageCount, an_f tx, a_nodeCount, a_nodeTypes, a_valueCount, a_valueOwners, a_values, a_skippedCount, a_reader, a_chainNode, a_chainEnd, an_f Q, an_f ql, an_f z.1, a_nodeSize, a_nodePlace)) →
    (∀ (σ' : hd_Z) (wn : Int32), hd_I a_life st σ' → (∀ (a : yr_Z) (t : Int32) (q : SY → Prop) (x2 : Int32), q (1, nI h, nI p, yf_payload, wn, σ'.2.2.2.2.1, σ'.2.2.2.1, yf_counts, σ'.2.2.2.2.2.1, nI σ'.2.1, nI σ'.1, nI (ou_L z [1, 5, 0, 0, 4]).2, nI (if l = 0 then 7 else l), a.1, a.2.1, a.2.2.1, a.2.2.2.1, t, a.2.2.2.2.1, a.2.2.2.2.2.1, a_kinds, a_repeats, a_life, upd a_codes 0 (nI 4), an_f wi, an_f wo, ya_type, an_f σ'.2.2.2.2.2.2.1, σ'.2.2.2.2.2.2.2.1, an_f ql, ya_otherEnded, a_weEnded, a_finishing, an_g Q, ya_prefix, ya_length, ya_got, ya_high, a_messageCount, ya_has, an_g tx, ya_frame, ya_payloads, σ'.2.2.2.2.2.2.2.2.2, an_g (ou_L z [1, 5, 0, 0, 4]).1, a.2.2.2.2.2.2.1, a.2.2.2.2.2.2.2.1, a.2.2.2.2.2.2.2.2.1, a.2.2.2.2.2.2.2.2.2.1, a.2.2.2.2.2.2.2.2.2.2.1, a.2.2.2.2.2.2.2.2.2.2.2.1, a.2.2.2.2.2.2.2.2.2.2.2.2, ya_sizes) → wY_endHeaders_2 q (nI st) x2 (f + 1) (nI i) (f_down) (nI h) (nI p) yf_payload (0) (σ.2.2.2.2.1) (σ.2.2.2.1) yf_counts (σ.2.2.2.2.2.1) (nI σ.2.1) (nI σ.1) (nI z.2) (nI (if l = 0 then 7 else l)) (a.1) (a.2.1) (a.2.2.1) (a.2.2.2.1) (t) (a.2.2.2.2.1) (a.2.2.2.2.2.1) (a_kinds) (a_repeats) (a_life) (a_codes) (an_f wi) (an_f wo) ya_type (an_f σ.2.2.2.2.2.2.1) (σ.2.2.2.2.2.2.2.1) (an_f ql) ya_otherEnded (a_weEnded) (a_finishing) (an_g Q) ya_prefix ya_length ya_got ya_high (a_messageCount) ya_has (an_g tx) ya_frame ya_payloads (σ.2.2.2.2.2.2.2.2.2) (an_g z.1) (a.2.2.2.2.2.2.1) (a.2.2.2.2.2.2.2.1) (a.2.2.2.2.2.2.2.2.1) (a.2.2.2.2.2.2.2.2.2.1) (a.2.2.2.2.2.2.2.2.2.2.1) (a.2.2.2.2.2.2.2.2.2.2.2.1) (a.2.2.2.2.2.2.2.2.2.2.2.2) ya_sizes) → post 0 (nI fAt, nI n, nI so, nI fl, nI st, f_down, nI σ'.1, nI σ'.2.1, σ'.2.2.1, nI l, nI z.2, a_payload, a_life, a_theyEnded, a_weEnded, a_finishing, a_codes, an_f wi, an_f wo, σ'.2.2.2.2.2.2.2.1, an_f σ'.2.2.2.2.2.2.1, σ'.2.2.2.2.2.2.2.2.1, a_kinds, a_repeats, a_messageCount, an_f tx, a_nodeCount, a_nodeTypes, a_valueCount, a_valueOwners, a_values, a_skippedCount, a_reader, a_chainNode, a_chainEnd, an_f Q, an_f ql, an_f z.1, a_nodeSize, a_nodePlace)) →
    wX_readHeaders_9 post (nI st) fu (nI i) (nI row) (nI fAt) (nI n) (nI so) (nI fl) (nI st) f_down (nI σ.1) (nI σ.2.1) (σ.2.2.1) (nI l) (nI z.2) a_payload a_life a_theyEnded a_weEnded a_finishing a_codes (an_f wi) (an_f wo) (σ.2.2.2.2.2.2.2.1) (an_f σ.2.2.2.2.2.2.1) (σ.2.2.2.2.2.2.2.2.1) a_kinds a_repeats a_messageCount (an_f tx) a_nodeCount a_nodeTypes a_valueCount a_valueOwners a_values a_skippedCount a_reader a_chainNode a_chainEnd (an_f Q) (an_f ql) (an_f z.1) a_nodeSize a_nodePlace := by
  intro F
  induction F with
  | zero =>
    intro f i row fu σ hF hi hr hfu I H1 H0
    have e : f = 0 := by omega
    subst e
    exact hd_end hn f0 (by omega) (by omega) I hr H1
  | succ F ih =>
    intro f i row fu σ hF hi hr hfu I H1 H0
    cases f with
    | zero => exact hd_end hn f0 (by omega) (by omega) I hr H1
    | succ f =>
      cases fu with
      | zero => omega
      | succ fu =>
        obtain ⟨b, hb, p1, p2⟩ := hpl i (by omega)
        obtain ⟨⟨t1, t2, t3⟩, i8, its⟩ := I
        have I : hd_I a_life st σ := ⟨⟨t1, t2, t3⟩, i8, its⟩
        have NEXT : ∀ (i' f' : Nat) (σ1 : hd_Z), i' + f' = n → i < i' → f' ≤ f → hd_I a_life st σ1 →
            (∀ (a : yr_Z) (t : Int32) (q : SY → Prop) (x2 : Int32), wY_endHeaders_2 q (nI st) x2 (f' + 1) (nI i') (f_down) (nI h) (nI p) yf_payload (0) (σ1.2.2.2.2.1) (σ1.2.2.2.1) yf_counts (σ1.2.2.2.2.2.1) (nI σ1.2.1) (nI σ1.1) (nI z.2) (nI (if l = 0 then 7 else l)) (a.1) (a.2.1) (a.2.2.1) (a.2.2.2.1) (t) (a.2.2.2.2.1) (a.2.2.2.2.2.1) (a_kinds) (a_repeats) (a_life) (a_codes) (an_f wi) (an_f wo) ya_type (an_f σ1.2.2.2.2.2.2.1) (σ1.2.2.2.2.2.2.2.1) (an_f ql) ya_otherEnded (a_weEnded) (a_finishing) (an_g Q) ya_prefix ya_length ya_got ya_high (a_messageCount) ya_has (an_g tx) ya_frame ya_payloads (σ1.2.2.2.2.2.2.2.2.2) (an_g z.1) (a.2.2.2.2.2.2.1) (a.2.2.2.2.2.2.2.1) (a.2.2.2.2.2.2.2.2.1) (a.2.2.2.2.2.2.2.2.2.1) (a.2.2.2.2.2.2.2.2.2.2.1) (a.2.2.2.2.2.2.2.2.2.2.2.1) (a.2.2.2.2.2.2.2.2.2.2.2.2) ya_sizes → wY_endHeaders_2 q (nI st) x2 (f + 1 + 1) (nI i) (f_down) (nI h) (nI p) yf_payload (0) (σ.2.2.2.2.1) (σ.2.2.2.1) yf_counts (σ.2.2.2.2.2.1) (nI σ.2.1) (nI σ.1) (nI z.2) (nI (if l = 0 then 7 else l)) (a.1) (a.2.1) (a.2.2.1) (a.2.2.2.1) (t) (a.2.2.2.2.1) (a.2.2.2.2.2.1) (a_kinds) (a_repeats) (a_life) (a_codes) (an_f wi) (an_f wo) ya_type (an_f σ.2.2.2.2.2.2.1) (σ.2.2.2.2.2.2.2.1) (an_f ql) ya_otherEnded (a_weEnded) (a_finishing) (an_g Q) ya_prefix ya_length ya_got ya_high (a_messageCount) ya_has (an_g tx) ya_frame ya_payloads (σ.2.2.2.2.2.2.2.2.2) (an_g z.1) (a.2.2.2.2.2.2.1) (a.2.2.2.2.2.2.2.1) (a.2.2.2.2.2.2.2.2.1) (a.2.2.2.2.2.2.2.2.2.1) (a.2.2.2.2.2.2.2.2.2.2.1) (a.2.2.2.2.2.2.2.2.2.2.2.1) (a.2.2.2.2.2.2.2.2.2.2.2.2) ya_sizes) →
            ∀ x, x = nI row + 1 → wX_readHeaders_9 post (nI st) fu (nI i') x (nI fAt) (nI n) (nI so) (nI fl) (nI st) f_down (nI σ1.1) (nI σ1.2.1) (σ1.2.2.1) (nI l) (nI z.2) a_payload a_life a_theyEnded a_weEnded a_finishing a_codes (an_f wi) (an_f wo) (σ1.2.2.2.2.2.2.2.1) (an_f σ1.2.2.2.2.2.2.1) (σ1.2.2.2.2.2.2.2.2.1) a_kinds a_repeats a_messageCount (an_f tx) a_nodeCount a_nodeTypes a_valueCount a_valueOwners a_values a_skippedCount a_reader a_chainNode a_chainEnd (an_f Q) (an_f ql) (an_f z.1) a_nodeSize a_nodePlace := by
          intro i' f' σ1 e1 e2 e3 I1 yy
          exact nm_r (nI_1 row) (ih f' i' (row + 1) fu σ1 (by omega) e1 (by omega) (by omega) I1 (fun σ' I' y => H1 σ' I' (fun a t q x2 hq => yy a t q x2 (y a t q x2 hq))) (fun σ' wn I' y => H0 σ' wn I' (fun a t q x2 hq => yy a t q x2 (y a t q x2 hq))))
        have ERR : b = 128 ∨ (132 < b ∧ σ.1 ≤ b - 133) ∨ (48 < b ∧ b < 64) → post 0 (nI fAt, nI n, nI so, nI fl, nI st, f_down, nI σ.1, nI σ.2.1, σ.2.2.1, nI l, nI z.2, a_payload, a_life, a_theyEnded, a_weEnded, a_finishing, a_codes, an_f wi, an_f wo, σ.2.2.2.2.2.2.2.1, an_f σ.2.2.2.2.2.2.1, σ.2.2.2.2.2.2.2.2.1, a_kinds, a_repeats, a_messageCount, an_f tx, a_nodeCount, a_nodeTypes, a_valueCount, a_valueOwners, a_values, a_skippedCount, a_reader, a_chainNode, a_chainEnd, an_f Q, an_f ql, an_f z.1, a_nodeSize, a_nodePlace) := by
          intro he
          refine H0 σ 0 I (fun a t q x2 hq => hy_1 hd (by omega) hn f0 p2 (yhd_e hb (by omega) hO.1 he ?_))
          exact nm_r (nI_1 i) (hy_dn rfl (by omega) hn f0 hq)
        have LIT : b < 128 → (b < 32 ∨ 64 ≤ b) → wX_readHeaders_109 post (wX_readHeaders_9 post (nI st) fu) (nI st) (nI (i + 1)) (nI row) (nI b) (nI fAt) (nI n) (nI so) (nI fl) (nI st) f_down (nI σ.1) (nI σ.2.1) (σ.2.2.1) (nI l) (nI z.2) a_payload a_life a_theyEnded a_weEnded a_finishing a_codes (an_f wi) (an_f wo) (σ.2.2.2.2.2.2.2.1) (an_f σ.2.2.2.2.2.2.1) (σ.2.2.2.2.2.2.2.2.1) a_kinds a_repeats a_messageCount (an_f tx) a_nodeCount a_nodeTypes a_valueCount a_valueOwners a_values a_skippedCount a_reader a_chainNode a_chainEnd (an_f Q) (an_f ql) (an_f z.1) a_nodeSize a_nodePlace := by
          intro hb1 hb2
          have e63 : nI b &&& 63 = nI (b % 64) := pk_andN (by omega) 6 (by decide)
          have F1 : i + 1 = n → post 0 (nI fAt, nI n, nI so, nI fl, nI st, f_down, nI σ.1, nI σ.2.1, σ.2.2.1, nI l, nI z.2, a_payload, a_life, a_theyEnded, a_weEnded, a_finishing, a_codes, an_f wi, an_f wo, σ.2.2.2.2.2.2.2.1, an_f σ.2.2.2.2.2.2.1, σ.2.2.2.2.2.2.2.2.1, a_kinds, a_repeats, a_messageCount, an_f tx, a_nodeCount, a_nodeTypes, a_valueCount, a_valueOwners, a_values, a_skippedCount, a_reader, a_chainNode, a_chainEnd, an_f Q, an_f ql, an_f z.1, a_nodeSize, a_nodePlace) := by
            intro e1
            refine H0 (hd_n σ (b % 64) (if 64 ≤ b then 1 else 0)) (nI (if b % 64 = 0 then 2 else 1)) I (fun a t q x2 hq => ?_)
            exact yl_f1 hd hn e1 hO.1 f0 hb1 hb2 p2 hq
          unfold wX_readHeaders_109
          refine nm_r e63 (pk_eq (b % 64) 0 (fun w0 => ?_) (fun w0 => ?_))
          · unfold wX_readHeaders_126
            have ea : nI (i + 1) + 2 = nI (i + 1 + 2) := nI_add _ 2
            rw [ea]
            refine pk_le (i + 1 + 2) n (fun w => pk_eq (b % 64) 0 (fun _ => ⟨vp_in_nI (by omega) (by omega), ?_⟩) (fun w' => absurd w0 w')) (fun w => ?_)
            · rw [nI_clamp (by omega)]
              obtain ⟨nm, hnm, q1, q2⟩ := hpl (i + 1) (by omega)
              obtain ⟨v, hv, r1, r2⟩ := hpl (i + 2) (by omega)
              rw [q1]
              obtain ⟨f', rfl⟩ : ∃ f', f = f' + 2 := ⟨f - 2, by omega⟩
              refine xl_157 (v := v) (e := 256 * nm + v) (rest := 2) h8 (i8 st h8) t1 t2 hb1 (by omega) (by omega) (by omega) hnm hv rfl r1 (fun lo => ?_) (fun hi => ?_)
              · exact NEXT (i + 3) f' (hd_k a_life st nm v (256 * nm + v) (hd_n σ nm 0)) (by omega) (by omega) (by omega) (hd_k_I I) (fun a t q x2 hq => yl_2 hd hn (by omega) h8 (i8 st h8) t1 t2 f0 hb1 hb2 w0 hnm hv rfl p2 q2 r2 (fun _ => hq) (fun w' => by omega))
              · exact NEXT (i + 3) f' (hd_a (hd_k a_life st nm v (256 * nm + v) (hd_n σ nm 1)) (256 * nm + v)) (by omega) (by omega) (by omega) (hd_a_I (by omega) (hd_k_I I)) (fun a t q x2 hq => yl_2 hd hn (by omega) h8 (i8 st h8) t1 t2 f0 hb1 hb2 w0 hnm hv rfl p2 q2 r2 (fun w' => by omega) (fun _ => hq))
            · by_cases e1 : i + 1 = n
              · exact F1 e1
              · obtain ⟨nm, hnm, q1, q2⟩ := hpl (i + 1) (by omega)
                obtain ⟨f', rfl⟩ : ∃ f', f = f' + 1 := ⟨f - 1, by omega⟩
                refine H0 (hd_n σ nm (if 64 ≤ b then 1 else 0)) (nI 1) I (fun a t q x2 hq => ?_)
                exact yl_f2 hd hn (by omega) hO.1 f0 hb1 hb2 w0 p2 q2 hq
          · unfold wX_readHeaders_126
            have ea : nI (i + 1) + 1 = nI (i + 1 + 1) := nI_1 _
            rw [ea]
            refine pk_le (i + 1 + 1) n (fun w => pk_eq (b % 64) 0 (fun w' => absurd w' w0) (fun _ => ?_)) (fun w => F1 (by omega))
            obtain ⟨v, hv, r1, r2⟩ := hpl (i + 1) (by omega)
            obtain ⟨f', rfl⟩ : ∃ f', f = f' + 1 := ⟨f - 1, by omega⟩
            refine xl_157 (v := v) (e := 256 * (b % 64) + v) (rest := 1) h8 (i8 st h8) t1 t2 hb1 (by omega) (by omega) (by omega) (by omega) hv rfl r1 (fun lo => ?_) (fun hi => ?_)
            · exact NEXT (i + 2) f' (hd_k a_life st (b % 64) v (256 * (b % 64) + v) (hd_n σ (b % 64) 0)) (by omega) (by omega) (by omega) (hd_k_I I) (fun a t q x2 hq => yl_1 hd hn (by omega) h8 (i8 st h8) t1 t2 f0 hb1 hb2 rfl w0 hv rfl p2 r2 (fun _ => hq) (fun w' => by omega))
            · exact NEXT (i + 2) f' (hd_a (hd_k a_life st (b % 64) v (256 * (b % 64) + v) (hd_n σ (b % 64) 1)) (256 * (b % 64) + v)) (by omega) (by omega) (by omega) (hd_a_I (by omega) (hd_k_I I)) (fun a t q x2 hq => yl_1 hd hn (by omega) h8 (i8 st h8) t1 t2 f0 hb1 hb2 rfl w0 hv rfl p2 r2 (fun w' => by omega) (fun _ => hq))
        rw [wX_readHeaders_9]
        refine pk_le 63 row (fun w => by omega) (fun _ => pk_le n i (fun w => by omega) (fun _ => ⟨vp_in_nI (by omega) (by omega), nm_r (e' := nI b) (by rw [nI_clamp (by omega)]; exact p1) (nm_r (nI_1 i) ?_)⟩))
        refine pk_lt b 128 (fun hb1 => pk_lt b 32 (fun w => LIT hb1 (Or.inl w)) (fun w32 => pk_le 64 b (fun w => LIT hb1 (Or.inr w)) (fun w64 => ?_))) (fun hb1 => ?_)
        · have e32 : nI b - 32 = nI (b - 32) := by rw [show (32 : Int32) = nI 32 from rfl, pk_sub w32]
          rw [e32]
          refine pk_le (b - 32) 16 (fun w16 => ?_) (fun w16 => ERR (Or.inr (Or.inr ⟨by omega, w64⟩)))
          have hN := NEXT (i + 1) f (hd_m σ (b - 32)) (by omega) (by omega) (Nat.le_refl _) (hd_m_I w16 I) (fun a t q x2 hq => hy_1 hd (by omega) hn f0 p2 (yhd_m w32 (by omega) (by omega) (nm_r (nI_1 i) hq)))
          unfold wpX_limitTable
          have hmm : σ.1 ≤ 16 := by omega
          refine pk_le σ.1 (b - 32) (fun w => ?_) (fun w => ?_)
          · unfold hd_m at hN
            rw [if_pos w] at hN
            exact hN
          · unfold hd_m at hN
            rw [if_neg (by omega)] at hN
            exact hN
        · have e128 : nI b - 128 = nI (b - 128) := by rw [show (128 : Int32) = nI 128 from rfl, pk_sub hb1]
          rw [e128]
          refine xht hb hb1 (by omega) (fun w1 w2 => ?_) (fun w1 w2 => ?_) (fun w => br_f (by decide) (ERR (by omega)))
          · refine pk_le 0 (256 + (b - 129)) (fun _ => kh_x (nm := 1) (v := b - 129) h8 (i8 st h8) (by omega) (by omega) (by omega) ?_) (fun w => by omega)
            exact NEXT (i + 1) f (hd_k a_life st 1 (b - 129) (256 + (b - 129)) σ) (by omega) (by omega) (Nat.le_refl _) (hd_k_I I) (fun a t q x2 hq => hy_1 hd (by omega) hn f0 p2 (yhd_i h8 (i8 st h8) w1 w2 (nm_r (nI_1 i) hq)))
          · obtain ⟨e1, e, he, e2⟩ := t3 (b - 133) w2
            rw [e2]
            refine pk_le 0 e (fun _ => kh_x (nm := e / 256) (v := e % 256) h8 (i8 st h8) (by omega) (by omega) (by omega) ?_) (fun w => by omega)
            exact NEXT (i + 1) f (hd_k a_life st (e / 256) (e % 256) e σ) (by omega) (by omega) (Nat.le_refl _) (hd_k_I I) (fun a t q x2 hq => hy_1 hd (by omega) hn f0 p2 (yhd_t h8 (i8 st h8) hb w1 w2 (by omega) he (e1.symm.trans e2) (nm_r (nI_1 i) hq)))
end
