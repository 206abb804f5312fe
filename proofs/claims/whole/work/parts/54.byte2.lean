/-! T16: a byte of a frame's payload, both sides -/
section
variable {K : Nat → Nat} {R : Nat → Bool} {z : (Nat → Nat) × Nat} {fAt n so fl st h p m M l : Nat} {wi wo ql hc Q tx : Nat → Nat} {f_down f_typeSeen yf_payload yf_wants yf_name yf_first yf_counts yf_enters yf_nodes yf_values yf_skipped yf_pos yf_there yf_number yf_at : Int32} {a_payload a_life a_theyEnded a_weEnded a_finishing a_codes a_headers a_entries a_kinds a_repeats a_messageCount a_nodeCount a_nodeTypes a_valueCount a_valueOwners a_values a_skippedCount a_reader a_chainNode a_chainEnd a_nodeSize a_nodePlace ya_type ya_otherEnded ya_prefix ya_length ya_got ya_high ya_has ya_frame ya_payloads ya_table ya_nodeType ya_valueNode ya_valueNumber ya_value ya_from ya_limit ya_inside ya_sizes : Nat → Int32} {k b fu : Nat} {post : Int32 → SX → Prop} {x1 x2 x3 x4 : Int32}
/-- the byte is taken: the frame ends or goes on -/
theorem fd_q (hd : f_down = 0) (C : fd_C (k + 1) ((K, R, z), (fAt, n, so, fl, st, h, p, m, M, l), (wi, wo, ql, hc, Q, tx), (f_down, f_typeSeen, yf_payload, yf_wants, yf_name, yf_first, yf_counts, yf_enters, yf_nodes, yf_values, yf_skipped, yf_pos, yf_there, yf_number, yf_at), (a_payload, a_life, a_theyEnded, a_weEnded, a_finishing, a_codes, a_headers, a_entries, a_kinds, a_repeats, a_messageCount), (a_nodeCount, a_nodeTypes, a_valueCount, a_valueOwners, a_values, a_skippedCount, a_reader, a_chainNode, a_chainEnd, a_nodeSize, a_nodePlace), (ya_type, ya_otherEnded, ya_prefix, ya_length, ya_got, ya_high, ya_has, ya_frame, ya_payloads), (ya_table, ya_nodeType, ya_valueNode, ya_valueNumber, ya_value, ya_from, ya_limit, ya_inside, ya_sizes))) (hA : fAt = 4 + p) (hp : p < n) (n2 : so < 256) (n3 : fl < 256) (n4 : st < 256) (f0 : ya_frame 0 = nI n) (f1 : ya_frame 1 = nI so) (f2 : ya_frame 2 = nI fl) (f3 : ya_frame 3 = nI st)
    (hB : bf_K a_life n so st yf_counts) (h1 : so = 1 → yf_wants = 0 ∧ yf_first = -1 ∧ ∀ i, i < p + 1 → ∃ b, b < 256 ∧ a_payload i = nI b ∧ ya_payloads i = nI b) (h24 : 2 ≤ so → so ≤ 4 → ∃ b, b < 256 ∧ a_payload 0 = nI b ∧ yf_payload = nI b)
    (H : ∀ (g' : cr_G) (e : Bool), fd_C (k + 1) g' → fd_F g' → (∀ (a : yr_Z) (t : Int32) (q : Int32 → SY → Prop), (∀ v', fd_Y g' v' → q (cond e 1 0) v') → wY_take_74 q (f_down) (nI 4) (nI (p + 1)) yf_payload yf_wants yf_name yf_first yf_counts yf_enters (nI M) (nI m) (nI z.2) (nI (if l = 0 then 7 else l)) (a.1) (a.2.1) (a.2.2.1) (a.2.2.2.1) (t) (a.2.2.2.2.1) (a.2.2.2.2.2.1) (a_kinds) (a_repeats) (a_life) (a_codes) (an_f wi) (an_f wo) ya_type (an_f hc) (a_headers) (an_f ql) ya_otherEnded (a_weEnded) (a_finishing) (an_g Q) ya_prefix ya_length ya_got ya_high (a_messageCount) ya_has (an_g tx) ya_frame ya_payloads ya_table (an_g z.1) (a.2.2.2.2.2.2.1) (a.2.2.2.2.2.2.2.1) (a.2.2.2.2.2.2.2.2.1) (a.2.2.2.2.2.2.2.2.2.1) (a.2.2.2.2.2.2.2.2.2.2.1) (a.2.2.2.2.2.2.2.2.2.2.2.1) (a.2.2.2.2.2.2.2.2.2.2.2.2) ya_sizes) → fd_J (wX_feed_17 post x1 x2 fu) (cond e (x3 + 1) x3) (x4 + 1) (cr_x g')) :
    wX_feed_89 post (wX_feed_17 post x1 x2 fu) x1 x2 x3 x4 (nI fAt) (nI n) (nI so) (nI fl) (nI st) f_down (nI m) (nI M) f_typeSeen (nI l) (nI z.2) a_payload a_life a_theyEnded a_weEnded a_finishing a_codes (an_f wi) (an_f wo) a_headers (an_f hc) a_entries a_kinds a_repeats a_messageCount (an_f tx) a_nodeCount a_nodeTypes a_valueCount a_valueOwners a_values a_skippedCount a_reader a_chainNode a_chainEnd (an_f Q) (an_f ql) (an_f z.1) a_nodeSize a_nodePlace := by
  have hB' := hB
  obtain ⟨k1, k2, k3, k4, k5, k6, k7, k8, k9, k10⟩ := hB
  have hC := C
  obtain ⟨hD, hl, hH, hO, hQ, hX, hS, hT, hK, hM⟩ := C
  by_cases he : p + 1 = n
  · refine fe_both (k := k + 1) (h := 4) (p := p + 1) (K := K) (R := R) (ya_frame := ya_frame) (yf_counts := yf_counts) (yf_wants := yf_wants) (yf_first := yf_first) (yf_payload := yf_payload) (yf_name := yf_name) (yf_enters := yf_enters) (ya_payloads := ya_payloads) (ya_table := ya_table) (ya_type := ya_type) (ya_otherEnded := ya_otherEnded) (ya_prefix := ya_prefix) (ya_length := ya_length) (ya_got := ya_got) (ya_high := ya_high) (ya_has := ya_has) (ya_sizes := ya_sizes) (yf_nodes := yf_nodes) (yf_values := yf_values) (yf_skipped := yf_skipped) (yf_pos := yf_pos) (yf_there := yf_there) (yf_number := yf_number) (yf_at := yf_at) (ya_nodeType := ya_nodeType) (ya_valueNode := ya_valueNode) (ya_valueNumber := ya_valueNumber) (ya_value := ya_value) (ya_from := ya_from) (ya_limit := ya_limit) (ya_inside := ya_inside) hd ⟨hD, hl, hH, hO, hQ, hX, hS, hT, hK, hM⟩ (by omega) n2 n3 n4 f0 f1 f2 f3 hB' (by omega) he (fun w => ?_) h24 (fun g' C' F' y' => H g' true C' F' y')
    obtain ⟨w1, w2, w3⟩ := h1 w
    exact ⟨w1, w2, fun i hi => w3 i (by omega)⟩
  · refine xf_n (by omega) (by omega) (by omega) ?_
    refine H ((K, R, z), (fAt + 1, n, so, fl, st, 4, p + 1, m, M, l), (wi, wo, ql, hc, Q, tx), (f_down, f_typeSeen, yf_payload, yf_wants, yf_name, yf_first, yf_counts, yf_enters, yf_nodes, yf_values, yf_skipped, yf_pos, yf_there, yf_number, yf_at), (a_payload, a_life, a_theyEnded, a_weEnded, a_finishing, a_codes, a_headers, a_entries, a_kinds, a_repeats, a_messageCount), (a_nodeCount, a_nodeTypes, a_valueCount, a_valueOwners, a_values, a_skippedCount, a_reader, a_chainNode, a_chainEnd, a_nodeSize, a_nodePlace), (ya_type, ya_otherEnded, ya_prefix, ya_length, ya_got, ya_high, ya_has, ya_frame, ya_payloads), (ya_table, ya_nodeType, ya_valueNode, ya_valueNumber, ya_value, ya_from, ya_limit, ya_inside, ya_sizes)) false hC (fun _ => ⟨by omega, n2, n3, n4, f0, f1, f2, f3, Or.inr ⟨rfl, by omega, by omega, k1, k2, k3, k4, k5, fun w => ⟨k6 w, h1 w⟩, k7, k8, k9, k10⟩⟩) (fun a t q hq => ?_)
    exact yt_go f0 (by omega) (by omega) (hq _ ⟨a, t, rfl⟩)
theorem fd_p (hd : f_down = 0) (hb : b < 256) (C : fd_C k ((K, R, z), (fAt, n, so, fl, st, h, p, m, M, l), (wi, wo, ql, hc, Q, tx), (f_down, f_typeSeen, yf_payload, yf_wants, yf_name, yf_first, yf_counts, yf_enters, yf_nodes, yf_values, yf_skipped, yf_pos, yf_there, yf_number, yf_at), (a_payload, a_life, a_theyEnded, a_weEnded, a_finishing, a_codes, a_headers, a_entries, a_kinds, a_repeats, a_messageCount), (a_nodeCount, a_nodeTypes, a_valueCount, a_valueOwners, a_values, a_skippedCount, a_reader, a_chainNode, a_chainEnd, a_nodeSize, a_nodePlace), (ya_type, ya_otherEnded, ya_prefix, ya_length, ya_got, ya_high, ya_has, ya_frame, ya_payloads), (ya_table, ya_nodeType, ya_valueNode, ya_valueNumber, ya_value, ya_from, ya_limit, ya_inside, ya_sizes))) (hh : h = 4) (hA : fAt = 4 + p) (hp : p < n) (n2 : so < 256) (n3 : fl < 256) (n4 : st < 256) (f0 : ya_frame 0 = nI n) (f1 : ya_frame 1 = nI so) (f2 : ya_frame 2 = nI fl) (f3 : ya_frame 3 = nI st)
    (hB : bf_K a_life n so st yf_counts) (h1 : so = 1 → yf_wants = 0 ∧ yf_first = -1 ∧ ∀ i, i < p → ∃ b, b < 256 ∧ a_payload i = nI b ∧ ya_payloads i = nI b)
    (H : fd_H k b fu post x1 x2 x3 x4 ((K, R, z), (fAt, n, so, fl, st, h, p, m, M, l), (wi, wo, ql, hc, Q, tx), (f_down, f_typeSeen, yf_payload, yf_wants, yf_name, yf_first, yf_counts, yf_enters, yf_nodes, yf_values, yf_skipped, yf_pos, yf_there, yf_number, yf_at), (a_payload, a_life, a_theyEnded, a_weEnded, a_finishing, a_codes, a_headers, a_entries, a_kinds, a_repeats, a_messageCount), (a_nodeCount, a_nodeTypes, a_valueCount, a_valueOwners, a_values, a_skippedCount, a_reader, a_chainNode, a_chainEnd, a_nodeSize, a_nodePlace), (ya_type, ya_otherEnded, ya_prefix, ya_length, ya_got, ya_high, ya_has, ya_frame, ya_payloads), (ya_table, ya_nodeType, ya_valueNode, ya_valueNumber, ya_value, ya_from, ya_limit, ya_inside, ya_sizes))) :
    ((nI so = 0 → wpX_takeData (fun u => match u with | (f_frameAt, f_frameLength, f_frameSort, f_frameFlags, f_frameStream, f_down, f_entryCount, f_most, f_typeSeen, f_lastSender, f_sentLength, a_payload, a_life, a_theyEnded, a_weEnded, a_finishing, a_codes, a_windowIn, a_windowOut, a_headers, a_headerCount, a_entries, a_kinds, a_repeats, a_messageCount, a_text, a_nodeCount, a_nodeTypes, a_valueCount, a_valueOwners, a_values, a_skippedCount, a_reader, a_chainNode, a_chainEnd, a_queue, a_queueLength, a_sent, a_nodeSize, a_nodePlace) => wX_feed_89 post (wX_feed_17 post x1 x2 fu) x1 x2 x3 x4 f_frameAt f_frameLength f_frameSort f_frameFlags f_frameStream f_down f_entryCount f_most f_typeSeen f_lastSender f_sentLength a_payload a_life a_theyEnded a_weEnded a_finishing a_codes a_windowIn a_windowOut a_headers a_headerCount a_entries a_kinds a_repeats a_messageCount a_text a_nodeCount a_nodeTypes a_valueCount a_valueOwners a_values a_skippedCount a_reader a_chainNode a_chainEnd a_queue a_queueLength a_sent a_nodeSize a_nodePlace) (nI fAt, nI n, nI so, nI fl, nI st, f_down, nI m, nI M, f_typeSeen, nI l, nI z.2, a_payload, a_life, a_theyEnded, a_weEnded, a_finishing, a_codes, an_f wi, an_f wo, a_headers, an_f hc, a_entries, a_kinds, a_repeats, a_messageCount, an_f tx, a_nodeCount, a_nodeTypes, a_valueCount, a_valueOwners, a_values, a_skippedCount, a_reader, a_chainNode, a_chainEnd, an_f Q, an_f ql, an_f z.1, a_nodeSize, a_nodePlace) (nI b)) ∧ (¬ nI so = 0 → (vp_in (nI fAt - 4) 64 ∧ ∀ pl, pl = upd a_payload (nI fAt - 4).toNatClampNeg (nI b) → wX_feed_89 post (wX_feed_17 post x1 x2 fu) x1 x2 x3 x4 (nI fAt) (nI n) (nI so) (nI fl) (nI st) f_down (nI m) (nI M) f_typeSeen (nI l) (nI z.2) (pl) a_life a_theyEnded a_weEnded a_finishing a_codes (an_f wi) (an_f wo) a_headers (an_f hc) a_entries a_kinds a_repeats a_messageCount (an_f tx) a_nodeCount a_nodeTypes a_valueCount a_valueOwners a_values a_skippedCount a_reader a_chainNode a_chainEnd (an_f Q) (an_f ql) (an_f z.1) a_nodeSize a_nodePlace))) := by
  have hB' := hB
  obtain ⟨k1, k2, k3, k4, k5, k6, k7, k8, k9, k10⟩ := hB
  obtain ⟨hD, hl, hH, hO, hQ, hX, hS, hT, hK, hM⟩ := C
  have hM' : cr_M (k + 1) K R tx a_life a_messageCount a_nodeCount a_nodeTypes a_valueCount a_valueOwners a_values a_skippedCount a_reader a_chainNode a_chainEnd ya_type ya_length ya_got ya_high ya_has ya_prefix := fun i i1 i8 => cr_m_k (by omega) (hM i i1 i8)
  refine pk_eq so 0 (fun e0 => ?_) (fun e0 => ?_)
  · have f1' : ya_frame 1 = nI 0 := by rw [f1, e0]
    obtain ⟨a1, a2, a3⟩ := k3 e0
    have h8 : st < 8 := by
      have := k2 (by omega)
      omega
    by_cases hl1 : a_life st = 1
    · have hc1 : yf_counts = 1 := by
        rcases a3 with w | ⟨_, w⟩
        · exact w
        · rw [hl1] at w; exact absurd w (by decide)
      refine td_both (yf_wants := yf_wants) (yf_name := yf_name) (yf_first := yf_first) (yf_counts := yf_counts) (yf_enters := yf_enters) (ya_otherEnded := ya_otherEnded) (ya_frame := ya_frame) (ya_payloads := ya_payloads) (ya_table := ya_table) (ya_sizes := ya_sizes) (h := 4) (p := p + 1) (yf_payload := nI b) a1 h8 hb hl1 hO hX hK hM (fun life' co' ql' z' tx' mc' nc' nt' vc' vo' va' sk' rd' cn' ce' le' go' hi' ha' pr' ct' M' O' X' L' Y' => ?_)
      dsimp only
      have hLS : cr_S life' a_theyEnded ya_otherEnded a_weEnded a_finishing co' wi wo ql' ∧ bf_K life' n so st ct' := by
        rcases L' with ⟨e1, e2, e3, e4⟩ | ⟨x, e1, e2, e3, e4⟩
        · rw [e1, e2, e3, e4]; exact ⟨hS, hB'⟩
        · rw [e1, e2, e3, e4]
          exact ⟨cr_S_shut (by omega) hS, k1, k2, fun _ => ⟨a1, by rw [pk_us]; decide, Or.inr ⟨rfl, pk_us⟩⟩, fun w => by omega, fun _ => rfl, k6, k7, k8, fun w => by omega, k10⟩
      refine fd_q (k := k) (h := h) (p := p) (K := K) (R := R) (yf_wants := yf_wants) (yf_name := yf_name) (yf_first := yf_first) (yf_enters := yf_enters) (ya_type := ya_type) (ya_otherEnded := ya_otherEnded) (ya_frame := ya_frame) (ya_payloads := ya_payloads) (ya_table := ya_table) (ya_sizes := ya_sizes) (yf_nodes := yf_nodes) (yf_values := yf_values) (yf_skipped := yf_skipped) (yf_pos := yf_pos) (yf_there := yf_there) (yf_number := yf_number) (yf_at := yf_at) (ya_nodeType := ya_nodeType) (ya_valueNode := ya_valueNode) (ya_valueNumber := ya_valueNumber) (ya_value := ya_value) (ya_from := ya_from) (ya_limit := ya_limit) (ya_inside := ya_inside) (yf_payload := nI b) (yf_counts := ct') (ya_prefix := pr') (ya_length := le') (ya_got := go') (ya_high := hi') (ya_has := ha') hd ⟨hD, hl, hH, O', hQ, X', hLS.1, hT, hK, M'⟩ hA hp n2 n3 n4 f0 f1 f2 f3 hLS.2 (fun w => by omega) (fun w => by omega) (fun g' e C' F' y' => ?_)
      refine H g' e C' F' (fun a t q hq => ?_)
      rw [hh]
      refine yt_p1 (by rw [hc1]; decide) (by omega) (yc_d h8 f1' f3 hl1 (Y' a t _ (fun a t => ?_)))
      exact yc_35 f1' (by omega) (by omega) (y' a t q hq)
    · refine ?_
      obtain ⟨c1, c2⟩ := xr_c8 h8
      have hx : wX_feed_89 post (wX_feed_17 post x1 x2 fu) x1 x2 x3 x4 (nI fAt) (nI n) (nI so) (nI fl) (nI st) f_down (nI m) (nI M) f_typeSeen (nI l) (nI z.2) a_payload a_life a_theyEnded a_weEnded a_finishing a_codes (an_f wi) (an_f wo) a_headers (an_f hc) a_entries a_kinds a_repeats a_messageCount (an_f tx) a_nodeCount a_nodeTypes a_valueCount a_valueOwners a_values a_skippedCount a_reader a_chainNode a_chainEnd (an_f Q) (an_f ql) (an_f z.1) a_nodeSize a_nodePlace := by
        refine fd_q (k := k) (h := h) (p := p) (K := K) (R := R) (yf_wants := yf_wants) (yf_name := yf_name) (yf_first := yf_first) (yf_counts := yf_counts) (yf_enters := yf_enters) (ya_type := ya_type) (ya_otherEnded := ya_otherEnded) (ya_frame := ya_frame) (ya_payloads := ya_payloads) (ya_table := ya_table) (ya_sizes := ya_sizes) (yf_nodes := yf_nodes) (yf_values := yf_values) (yf_skipped := yf_skipped) (yf_pos := yf_pos) (yf_there := yf_there) (yf_number := yf_number) (yf_at := yf_at) (ya_nodeType := ya_nodeType) (ya_valueNode := ya_valueNode) (ya_valueNumber := ya_valueNumber) (ya_value := ya_value) (ya_from := ya_from) (ya_limit := ya_limit) (ya_inside := ya_inside) (ya_prefix := ya_prefix) (ya_length := ya_length) (ya_got := ya_got) (ya_high := ya_high) (ya_has := ya_has) (yf_payload := nI b) hd ⟨hD, hl, hH, hO, hQ, hX, hS, hT, hK, hM'⟩ hA hp n2 n3 n4 f0 f1 f2 f3 hB' (fun w => by omega) (fun w => by omega) (fun g' e C' F' y' => ?_)
        refine H g' e C' F' (fun a t q hq => ?_)
        rw [hh]
        by_cases hc0 : yf_counts = 0
        · exact yt_p0 hc0 (by omega) (y' a t q hq)
        · exact yt_p1 hc0 (by omega) (yc_n h8 f1' f3 hl1 (y' a t q hq))
      unfold wpX_takeData
      dsimp only
      rw [c2]
      exact ⟨c1, br_f hl1 hx⟩
  · have e4 : nI fAt - 4 = nI p := by
      rw [hA, show (4 : Int32) = nI 4 from rfl, pk_sub (by omega)]; exact congrArg nI (by omega)
    rw [e4, nI_clamp (by omega)]
    refine ⟨vp_in_nI (by omega) (by omega), nm_e ?_⟩
    by_cases e1 : so = 1
    · have hc1 : ¬ yf_counts = 0 := by rw [k4 (by omega) (by omega)]; decide
      obtain ⟨w1, w2, w3⟩ := h1 e1
      refine fd_q (k := k) (h := h) (p := p) (K := K) (R := R) (yf_wants := yf_wants) (yf_name := yf_name) (yf_first := yf_first) (yf_counts := yf_counts) (yf_enters := yf_enters) (ya_type := ya_type) (ya_otherEnded := ya_otherEnded) (ya_frame := ya_frame) (ya_table := ya_table) (ya_sizes := ya_sizes) (yf_nodes := yf_nodes) (yf_values := yf_values) (yf_skipped := yf_skipped) (yf_pos := yf_pos) (yf_there := yf_there) (yf_number := yf_number) (yf_at := yf_at) (ya_nodeType := ya_nodeType) (ya_valueNode := ya_valueNode) (ya_valueNumber := ya_valueNumber) (ya_value := ya_value) (ya_from := ya_from) (ya_limit := ya_limit) (ya_inside := ya_inside) (ya_prefix := ya_prefix) (ya_length := ya_length) (ya_got := ya_got) (ya_high := ya_high) (ya_has := ya_has) (a_payload := upd a_payload p (nI b)) (ya_payloads := upd ya_payloads p (nI b)) (yf_payload := nI b) hd ⟨hD, hl, hH, hO, hQ, hX, hS, hT, hK, hM'⟩ hA hp n2 n3 n4 f0 f1 f2 f3 hB' (fun _ => ⟨w1, w2, fun i hi => ?_⟩) (fun w => by omega) (fun g' e C' F' y' => ?_)
      · by_cases ei : i = p
        · subst ei
          exact ⟨b, hb, pk_us, pk_us⟩
        · rw [pk_un ei, pk_un ei]
          exact w3 i (by omega)
      · refine H g' e C' F' (fun a t q hq => ?_)
        rw [hh]
        exact yt_p1 hc1 (by omega) (yc_o n2 e0 f1 (fun w => absurd e1 w) (by omega) (fun _ => y' a t q hq))
    · refine fd_q (k := k) (h := h) (p := p) (K := K) (R := R) (yf_wants := yf_wants) (yf_name := yf_name) (yf_first := yf_first) (yf_counts := yf_counts) (yf_enters := yf_enters) (ya_type := ya_type) (ya_otherEnded := ya_otherEnded) (ya_frame := ya_frame) (ya_payloads := ya_payloads) (ya_table := ya_table) (ya_sizes := ya_sizes) (yf_nodes := yf_nodes) (yf_values := yf_values) (yf_skipped := yf_skipped) (yf_pos := yf_pos) (yf_there := yf_there) (yf_number := yf_number) (yf_at := yf_at) (ya_nodeType := ya_nodeType) (ya_valueNode := ya_valueNode) (ya_valueNumber := ya_valueNumber) (ya_value := ya_value) (ya_from := ya_from) (ya_limit := ya_limit) (ya_inside := ya_inside) (ya_prefix := ya_prefix) (ya_length := ya_length) (ya_got := ya_got) (ya_high := ya_high) (ya_has := ya_has) (a_payload := upd a_payload p (nI b)) (yf_payload := nI b) hd ⟨hD, hl, hH, hO, hQ, hX, hS, hT, hK, hM'⟩ hA hp n2 n3 n4 f0 f1 f2 f3 hB' (fun w => absurd w e1) (fun w w' => ⟨b, hb, ?_, rfl⟩) (fun g' e C' F' y' => ?_)
      · have := k7 w w'
        have ep : p = 0 := by omega
        rw [ep]; exact pk_us
      · refine H g' e C' F' (fun a t q hq => ?_)
        rw [hh]
        by_cases hc0 : yf_counts = 0
        · exact yt_p0 hc0 (by omega) (y' a t q hq)
        · exact yt_p1 hc0 (by omega) (yc_o n2 e0 f1 (fun _ => y' a t q hq) (by omega) (fun w => absurd w e1))
end
