/-! H: the relation -/
section
/-- of the streams -/
def cr_S (life th ot we fi co : Nat → Int32) (wi wo ql : Nat → Nat) : Prop :=
  life 0 = 0 ∧ ∀ s, s < 8 → (life s = 0 ∨ life s = 1 ∨ life s = 2) ∧ (th s = 0 ∨ th s = 1) ∧ (we s = 0 ∨ we s = 1) ∧ (fi s = 0 ∨ fi s = 1) ∧
    wi s ≤ 255 ∧ wo s ≤ 255 ∧ ql s ≤ 500 ∧ (life s ≠ 2 → ot s = th s) ∧ (life s ≠ 2 → 0 < s → co s = 0) ∧ (we s = 1 → fi s = 1 ∧ ql s = 0)
/-- a stream that may send -/
def cr_may (life we fi : Nat → Int32) (wo ql : Nat → Nat) (s : Nat) : Prop :=
  life s = 1 ∧ we s = 0 ∧ ((0 < ql s ∧ 0 < wo s ∧ 0 < wo 0) ∨ (ql s = 0 ∧ fi s = 1))
def cr_Q (life we fi : Nat → Int32) (wo ql : Nat → Nat) : Prop := ∀ s, 1 ≤ s → s < 8 → ¬ cr_may life we fi wo ql s
/-- of the table -/
def cr_T (en ta : Nat → Int32) (m M : Nat) : Prop :=
  m ≤ M ∧ M ≤ 16 ∧ ∀ j, j < m → en j = ta j ∧ ∃ e, e < 65536 ∧ en j = nI e
/-- of the fields -/
def cr_K (kinds rep : Nat → Int32) (K : Nat → Nat) (R : Nat → Bool) : Prop :=
  (∀ j, K j ≤ 8) ∧ (∀ j, j < 64 → kinds j = nI (K j) + (-1)) ∧ (∀ j, j < 64 → rep j = if R j = true then 1 else 0)
/-- of the frame that comes -/
def cr_F (life fr pl pls : Nat → Int32) (fAt n so fl st h p : Nat) (counts wants first : Int32) : Prop :=
  n < 256 ∧ so < 256 ∧ fl < 256 ∧ st < 256 ∧ fr 0 = nI n ∧ fr 1 = nI so ∧ fr 2 = nI fl ∧ fr 3 = nI st ∧
  ((h < 4 ∧ fAt = h) ∨ (h = 4 ∧ fAt = 4 + p ∧ p < n ∧ n ≤ 63 ∧ (so ≤ 5 → st ≤ 7) ∧
    (so = 0 → 1 ≤ st ∧ life st ≠ 0 ∧ (counts = 1 ∨ (counts = 0 ∧ life st = 2))) ∧ (1 ≤ so → so ≤ 4 → counts = 1) ∧ (5 ≤ so → counts = 0) ∧
    (so = 1 → 1 ≤ st ∧ wants = 0 ∧ first = -1 ∧ ∀ i, i < p → ∃ b, b < 256 ∧ pl i = nI b ∧ pls i = nI b) ∧
    (2 ≤ so → so ≤ 4 → n = 1) ∧ (so = 2 → 1 ≤ st) ∧ (so = 2 ∨ so = 3 → 0 < st → life st ≠ 0) ∧ (so = 4 → st = 0)))
/-- the reading of a message begins -/
def cr_0 (ty L : Nat) : pm_C := (0, 0, 0, 0, 0, (fun _ => L), (fun _ => 0), (1, (fun _ => ty), 0, (fun _ => 0), (fun _ => 0), (fun _ => 0), (fun _ => 0)))
/-- what the component keeps of a message -/
def cr_XD (K : Nat → Nat) (s : Nat) (nc nt vc vo va : Nat → Int32) (D : pm_D) : Prop :=
  nc s = nI (pm_nn D) ∧ vc s = nI (pm_nv D) ∧ (∀ i, i < pm_nn D → nt (16 * s + i) = nI (pm_nt D i)) ∧
  (∀ j, j < pm_nv D → vo (48 * s + j) = nI (16 * pm_vn D j + pm_vm D j) ∧ va (48 * s + j) = if pm_kk K D j = 4 then nI (256 * pm_fr D j) + pm_va D j else pm_va D j)
def cr_done (K : Nat → Nat) (R : Nat → Bool) (s ty L : Nat) (B : Nat → Nat) (nc nt vc vo va sk : Nat → Int32) : Prop :=
  ∃ dep c, pm_Rd B K R L (cr_0 ty L) (0, c) ∧ pm_CI K R L dep c ∧ cr_XD K s nc nt vc vo va (pm_d c) ∧ sk s = nI (pm_sk c)
/-- where a reading stands that isn't at its end -/
def cr_ph (K : Nat → Nat) (R : Nat → Bool) (t : Nat) (c : pm_C) (h f q d w : Nat) : Prop :=
  t < pm_end c ∧ f ≤ 15 ∧
  ((h = 0 ∧ t = pm_pos c + d ∧ d < 10 ∧ pm_row c = 0) ∨
   (h = 1 ∧ t = q + d ∧ d < 10 ∧ pm_row c = 0 ∧ pm_pos c < q ∧ (f ≠ 0 → K (pm_fj c f) ≠ 0 ∧ (K (pm_fj c f) ≤ 3 → R (pm_fj c f) = true))) ∨
   (h = 2 ∧ t = q + d ∧ d < 10 ∧ pm_pos c ≤ q ∧ (f ≠ 0 → 1 ≤ K (pm_fj c f) ∧ K (pm_fj c f) ≤ 2) ∧ (pm_row c ≠ 0 → f = pm_fld c)) ∨
   (h = 3 ∧ t = q + d ∧ d < w ∧ w ≤ 8 ∧ pm_pos c ≤ q ∧ (f ≠ 0 → w = 4 ∧ K (pm_fj c f) = 3) ∧ (pm_row c ≠ 0 → f = pm_fld c)) ∨
   (h = 4 ∧ q ≤ t ∧ t < q + w ∧ q + w ≤ pm_lim c (pm_at c) ∧ pm_row c = 0 ∧ pm_pos c < q ∧ (f ≠ 0 → K (pm_fj c f) = 4 ∧ pm_pl R (pm_d c) (pm_nd c) f ≠ 48)))
def cr_sum (B : Nat → Nat) (c : pm_C) (h q d : Nat) : Int32 :=
  if h = 0 then pm_vs B (pm_pos c) d else if h = 3 then pm_fs B q d else pm_vs B q d
def cr_D (R : Nat → Bool) (c : pm_C) (h f q w : Nat) : pm_D := if h = 4 ∧ f ≠ 0 then pm_kp R (pm_d c) (pm_nd c) f (nI w) q else pm_d c
def cr_reg (s t : Nat) (B : Nat → Nat) (c : pm_C) (h f q d w : Nat) (rd cn ce : Nat → Int32) : Prop :=
  rd (11 * s + 2) = nI t ∧ rd (11 * s + 3) = nI h ∧ (h < 4 → rd (11 * s + 4) = cr_sum B c h q d ∧ rd (11 * s + 5) = nI d) ∧
  (h = 3 → rd (11 * s + 6) = nI w) ∧ (h = 4 → rd (11 * s + 6) = nI (q + w - t)) ∧
  (1 ≤ h → rd (11 * s + 7) = nI (if f = 0 then 0 else pm_fj c f)) ∧ rd (11 * s + 8) = nI (pm_row c) ∧ (pm_row c = 0 → rd (11 * s + 9) = nI (pm_pos c)) ∧
  rd (11 * s + 10) = nI (pm_at c) ∧ (∀ i, i ≤ pm_at c → cn (4 * s + i) = nI (pm_ins c i) ∧ ce (4 * s + i) = nI (pm_lim c i))
/-- whatever the reference reads from here on, it reads from the start -/
def cr_from (K : Nat → Nat) (R : Nat → Bool) (ty L t : Nat) (B : Nat → Nat) (g : (Nat → Nat) → Nat → Nat × pm_C) : Prop :=
  ∀ T B', t ≤ T → (∀ i, i < t → B' i = B i) → ∀ r, pm_Rp B' K R T (g B' T) r → pm_Rd B' K R T (cr_0 ty L) r
def cr_inc (K : Nat → Nat) (R : Nat → Bool) (s ty L t : Nat) (B : Nat → Nat) (nc nt vc vo va sk rd cn ce : Nat → Int32) : Prop :=
  ∃ dep c h f q d w, t < L ∧ pm_CI K R L dep c ∧ cr_ph K R t c h f q d w ∧ cr_reg s t B c h f q d w rd cn ce ∧
    cr_XD K s nc nt vc vo va (cr_D R c h f q w) ∧ sk s = nI (pm_sk c) ∧ cr_from K R ty L t B (fun B' T => pm_go B' K R T c h f q d w)
/-- the bytes of one stream -/
def cr_by (tx : Nat → Nat) (s : Nat) : Nat → Nat := fun i => if i < 200 then tx (200 * s + i) else 0
/-- of the message of one stream -/
def cr_m (k : Nat) (K : Nat → Nat) (R : Nat → Bool) (s : Nat) (tx : Nat → Nat) (life mc nc nt vc vo va sk rd cn ce ty le go hi ha pr : Nat → Int32) : Prop :=
  ∃ p m y, p ≤ 3 ∧ pr s = nI p ∧ rd (11 * s) = nI p ∧ m ≤ k ∧ mc s = nI m ∧ y < 4 ∧
    (ha s = if m ≠ 0 ∧ p < 3 then 1 else 0) ∧ (life s = 0 → p = 0 ∧ m = 0) ∧ (p = 2 → ∃ x, x < 256 ∧ hi s = nI x ∧ rd (11 * s + 1) = nI (256 * x)) ∧
    (life s = 1 ∨ ha s = 1 → ty s = nI y ∧ nt (16 * s) = nI y) ∧
    (ha s = 1 → ∃ L, L ≤ 200 ∧ le s = nI L ∧ go s = nI L ∧ cr_done K R s y L (cr_by tx s) nc nt vc vo va sk) ∧
    (p = 3 → life s = 1 → ∃ L t, L ≤ 200 ∧ le s = nI L ∧ go s = nI t ∧ cr_inc K R s y L t (cr_by tx s) nc nt vc vo va sk rd cn ce)
def cr_M (k : Nat) (K : Nat → Nat) (R : Nat → Bool) (tx : Nat → Nat) (life mc nc nt vc vo va sk rd cn ce ty le go hi ha pr : Nat → Int32) : Prop :=
  ∀ s, 1 ≤ s → s < 8 → cr_m k K R s tx life mc nc nt vc vo va sk rd cn ce ty le go hi ha pr
/-- bytes -/
def cr_B (f : Nat → Nat) : Prop := ∀ j, f j < 256
abbrev cr_A : Type := Nat → Int32
abbrev cr_G : Type := ((Nat → Nat) × (Nat → Bool) × ((Nat → Nat) × Nat)) × (Nat × Nat × Nat × Nat × Nat × Nat × Nat × Nat × Nat × Nat) ×
  ((Nat → Nat) × (Nat → Nat) × (Nat → Nat) × (Nat → Nat) × (Nat → Nat) × (Nat → Nat)) ×
  (Int32 × Int32 × Int32 × Int32 × Int32 × Int32 × Int32 × Int32 × Int32 × Int32 × Int32 × Int32 × Int32 × Int32 × Int32) ×
  (cr_A × cr_A × cr_A × cr_A × cr_A × cr_A × cr_A × cr_A × cr_A × cr_A × cr_A) × (cr_A × cr_A × cr_A × cr_A × cr_A × cr_A × cr_A × cr_A × cr_A × cr_A × cr_A) ×
  (cr_A × cr_A × cr_A × cr_A × cr_A × cr_A × cr_A × cr_A × cr_A) × (cr_A × cr_A × cr_A × cr_A × cr_A × cr_A × cr_A × cr_A × cr_A)
def cr_x : cr_G → SX
  | ((K, R, z), (fAt, n, so, fl, st, h, p, m, M, l), (wi, wo, ql, hc, Q, tx), (f_down, f_typeSeen, yf_payload, yf_wants, yf_name, yf_first, yf_counts, yf_enters, yf_nodes, yf_values, yf_skipped, yf_pos, yf_there, yf_number, yf_at), (a_payload, a_life, a_theyEnded, a_weEnded, a_finishing, a_codes, a_headers, a_entries, a_kinds, a_repeats, a_messageCount), (a_nodeCount, a_nodeTypes, a_valueCount, a_valueOwners, a_values, a_skippedCount, a_reader, a_chainNode, a_chainEnd, a_nodeSize, a_nodePlace), (ya_type, ya_otherEnded, ya_prefix, ya_length, ya_got, ya_high, ya_has, ya_frame, ya_payloads), (ya_table, ya_nodeType, ya_valueNode, ya_valueNumber, ya_value, ya_from, ya_limit, ya_inside, ya_sizes)) => (nI fAt, nI n, nI so, nI fl, nI st, f_down, nI m, nI M, f_typeSeen, nI l, nI z.2, a_payload, a_life, a_theyEnded, a_weEnded, a_finishing, a_codes, an_f wi, an_f wo, a_headers, an_f hc, a_entries, a_kinds, a_repeats, a_messageCount, an_f tx, a_nodeCount, a_nodeTypes, a_valueCount, a_valueOwners, a_values, a_skippedCount, a_reader, a_chainNode, a_chainEnd, an_f Q, an_f ql, an_f z.1, a_nodeSize, a_nodePlace)
def cr_y : cr_G → SY
  | ((K, R, z), (fAt, n, so, fl, st, h, p, m, M, l), (wi, wo, ql, hc, Q, tx), (f_down, f_typeSeen, yf_payload, yf_wants, yf_name, yf_first, yf_counts, yf_enters, yf_nodes, yf_values, yf_skipped, yf_pos, yf_there, yf_number, yf_at), (a_payload, a_life, a_theyEnded, a_weEnded, a_finishing, a_codes, a_headers, a_entries, a_kinds, a_repeats, a_messageCount), (a_nodeCount, a_nodeTypes, a_valueCount, a_valueOwners, a_values, a_skippedCount, a_reader, a_chainNode, a_chainEnd, a_nodeSize, a_nodePlace), (ya_type, ya_otherEnded, ya_prefix, ya_length, ya_got, ya_high, ya_has, ya_frame, ya_payloads), (ya_table, ya_nodeType, ya_valueNode, ya_valueNumber, ya_value, ya_from, ya_limit, ya_inside, ya_sizes)) => (f_down, nI h, nI p, yf_payload, yf_wants, yf_name, yf_first, yf_counts, yf_enters, nI M, nI m, nI z.2, nI (if l = 0 then 7 else l), yf_nodes, yf_values, yf_skipped, yf_pos, yf_there, yf_number, yf_at, a_kinds, a_repeats, a_life, a_codes, an_f wi, an_f wo, ya_type, an_f hc, a_headers, an_f ql, ya_otherEnded, a_weEnded, a_finishing, an_g Q, ya_prefix, ya_length, ya_got, ya_high, a_messageCount, ya_has, an_g tx, ya_frame, ya_payloads, ya_table, an_g z.1, ya_nodeType, ya_valueNode, ya_valueNumber, ya_value, ya_from, ya_limit, ya_inside, ya_sizes)
def cr_C (k : Nat) : cr_G → Prop
  | ((K, R, z), (fAt, n, so, fl, st, h, p, m, M, l), (wi, wo, ql, hc, Q, tx), (f_down, f_typeSeen, yf_payload, yf_wants, yf_name, yf_first, yf_counts, yf_enters, yf_nodes, yf_values, yf_skipped, yf_pos, yf_there, yf_number, yf_at), (a_payload, a_life, a_theyEnded, a_weEnded, a_finishing, a_codes, a_headers, a_entries, a_kinds, a_repeats, a_messageCount), (a_nodeCount, a_nodeTypes, a_valueCount, a_valueOwners, a_values, a_skippedCount, a_reader, a_chainNode, a_chainEnd, a_nodeSize, a_nodePlace), (ya_type, ya_otherEnded, ya_prefix, ya_length, ya_got, ya_high, ya_has, ya_frame, ya_payloads), (ya_table, ya_nodeType, ya_valueNode, ya_valueNumber, ya_value, ya_from, ya_limit, ya_inside, ya_sizes)) =>
    (f_down = 0 ∨ f_down = 1) ∧ l ≤ 7 ∧ (∀ s, s < 8 → hc s ≤ 8) ∧ ou_I z ∧ cr_B Q ∧ cr_B tx ∧
    cr_S a_life a_theyEnded ya_otherEnded a_weEnded a_finishing a_codes wi wo ql ∧ (f_down = 0 → cr_Q a_life a_weEnded a_finishing wo ql) ∧
    cr_T a_entries ya_table m M ∧ cr_K a_kinds a_repeats K R ∧
    (f_down = 0 → cr_F a_life ya_frame a_payload ya_payloads fAt n so fl st h p yf_counts yf_wants yf_first) ∧
    cr_M k K R tx a_life a_messageCount a_nodeCount a_nodeTypes a_valueCount a_valueOwners a_values a_skippedCount a_reader a_chainNode a_chainEnd ya_type ya_length ya_got ya_high ya_has ya_prefix
def i_Rel (k : Nat) (u : SX) (v : SY) : Prop := ∃ g : cr_G, u = cr_x g ∧ v = cr_y g ∧ cr_C k g
end
