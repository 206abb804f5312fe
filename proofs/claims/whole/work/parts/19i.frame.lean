/-! S12: the other streams -/
section
variable {K : Nat → Nat} {R : Nat → Bool} {s s' k : Nat} {D : pm_D} {mc nc nt vc vo va sk rd cn ce mc' nc' nt' vc' vo' va' sk' rd' cn' ce' : Nat → Int32}
theorem xr_O1 {f f' : Nat → Int32} (h : xr_O 1 s f f') (hne : s' ≠ s) : f' s' = f s' := h s' (by omega)
theorem xr_O4 {f f' : Nat → Int32} (h : xr_O 4 s f f') (hne : s' ≠ s) {i : Nat} (hi : i < 4) : f' (4 * s' + i) = f (4 * s' + i) := h _ (by omega)
theorem xr_O11 {f f' : Nat → Int32} (h : xr_O 11 s f f') (hne : s' ≠ s) {i : Nat} (hi : i < 11) : f' (11 * s' + i) = f (11 * s' + i) := h _ (by omega)
theorem xr_O16 {f f' : Nat → Int32} (h : xr_O 16 s f f') (hne : s' ≠ s) {i : Nat} (hi : i < 16) : f' (16 * s' + i) = f (16 * s' + i) := h _ (by omega)
theorem xr_O48 {f f' : Nat → Int32} (h : xr_O 48 s f f') (hne : s' ≠ s) {i : Nat} (hi : i < 48) : f' (48 * s' + i) = f (48 * s' + i) := h _ (by omega)
theorem cr_XD_fr (hne : s' ≠ s) (hF : xr_fr s mc nc nt vc vo va sk rd cn ce mc' nc' nt' vc' vo' va' sk' rd' cn' ce') (hn : pm_nn D ≤ 16) (hv : pm_nv D ≤ 48) (h : cr_XD K s' nc nt vc vo va D) : cr_XD K s' nc' nt' vc' vo' va' D := by
  obtain ⟨f1, f2, f3, f4, f5, f6, f7, f8, f9, f10, f11⟩ := hF
  obtain ⟨x1, x2, x3, x4⟩ := h
  refine ⟨(xr_O1 f2 hne).trans x1, (xr_O1 f4 hne).trans x2, fun i hi => (xr_O16 f3 hne (by omega)).trans (x3 i hi), fun j hj => ⟨(xr_O48 f5 hne (by omega)).trans (x4 j hj).1, (xr_O48 f6 hne (by omega)).trans (x4 j hj).2⟩⟩
theorem cr_D_le {L t h f q d w : Nat} {dep : Nat → Nat} {c : pm_C} (I : pm_CI K R L dep c) (hp : cr_ph K R t c h f q d w) : pm_nn (cr_D R c h f q w) ≤ 16 ∧ pm_nv (cr_D R c h f q w) ≤ 48 := by
  have hnn := I.1.2.1
  have hnv := I.1.2.2.1
  unfold cr_D
  split
  · rename_i z
    refine ⟨hnn, ?_⟩
    rw [pm_kp_nv]
    have hle := pm_pl_le (R := R) (D := pm_d c) (pm_nd c) f
    have h48 : pm_pl R (pm_d c) (pm_nd c) f ≠ 48 := by
      rcases hp.2.2 with ⟨e, _⟩ | ⟨e, _⟩ | ⟨e, _⟩ | ⟨e, _⟩ | ⟨e, a1, a2, a3, a4, a5, a6⟩
      · omega
      · omega
      · omega
      · omega
      · exact (a6 z.2).2
    split <;> omega
  · exact ⟨hnn, hnv⟩
theorem cr_m_fr {tx tx' : Nat → Nat} {life life' ty ty' le go hi ha pr le' go' hi' ha' pr' : Nat → Int32} (hne : s' ≠ s)
    (hF : xr_fr s mc nc nt vc vo va sk rd cn ce mc' nc' nt' vc' vo' va' sk' rd' cn' ce') (htx : ∀ i, i < 200 → tx' (200 * s' + i) = tx (200 * s' + i))
    (h1 : le' s' = le s') (h2 : go' s' = go s') (h3 : hi' s' = hi s') (h4 : ha' s' = ha s') (h5 : pr' s' = pr s') (h6 : ty' s' = ty s') (h7 : life' s' = life s')
    (h : cr_m k K R s' tx life mc nc nt vc vo va sk rd cn ce ty le go hi ha pr) : cr_m k K R s' tx' life' mc' nc' nt' vc' vo' va' sk' rd' cn' ce' ty' le' go' hi' ha' pr' := by
  have hF' := hF
  obtain ⟨f1, f2, f3, f4, f5, f6, f7, f8, f9, f10, f11⟩ := hF
  have hby : cr_by tx' s' = cr_by tx s' := by
    funext i
    unfold cr_by
    split
    · rename_i z; exact htx i z
    · rfl
  have e11 : ∀ i, i < 11 → rd' (11 * s' + i) = rd (11 * s' + i) := fun i hi => xr_O11 f8 hne hi
  have e0 : rd' (11 * s') = rd (11 * s') := e11 0 (by omega)
  have e16 : nt' (16 * s') = nt (16 * s') := xr_O16 f3 hne (i := 0) (by omega)
  obtain ⟨p, m, y, g1, g2, g3, g4, g5, g6, g7, g8, g9, g10, g11, g12⟩ := h
  refine ⟨p, m, y, g1, h5.trans g2, e0.trans g3, g4, (xr_O1 f1 hne).trans g5, g6, h4.trans g7, by rw [h7]; exact g8, fun z => ?_, ?_, ?_, ?_⟩
  · obtain ⟨x, x1, x2, x3⟩ := g9 z
    exact ⟨x, x1, h3.trans x2, (e11 1 (by omega)).trans x3⟩
  · rw [h7, h4, h6, e16]; exact g10
  · rw [h4, h1, h2, hby]
    intro z
    obtain ⟨L, l1, l2, l3, dep, c, d1, d2, d3, d4⟩ := g11 z
    exact ⟨L, l1, l2, l3, dep, c, d1, d2, cr_XD_fr hne hF' d2.1.2.1 d2.1.2.2.1 d3, (xr_O1 f7 hne).trans d4⟩
  · rw [h7, h1, h2, hby]
    intro z z2
    obtain ⟨L, t, l1, l2, l3, dep, c, h, f, q, d, w, i1, i2, i3, i4, i5, i6, i7⟩ := g12 z z2
    obtain ⟨r2, r3, r45, r63, r64, r7, r8, r9, r10, rch⟩ := i4
    have hat := i2.2.1
    have hD := cr_D_le i2 i3
    refine ⟨L, t, l1, l2, l3, dep, c, h, f, q, d, w, i1, i2, i3, ⟨?_, ?_, ?_, ?_, ?_, ?_, ?_, ?_, ?_, fun i hi => ?_⟩, cr_XD_fr hne hF' hD.1 hD.2 i5, (xr_O1 f7 hne).trans i6, i7⟩
    · rw [e11 2 (by omega)]; exact r2
    · rw [e11 3 (by omega)]; exact r3
    · rw [e11 4 (by omega), e11 5 (by omega)]; exact r45
    · rw [e11 6 (by omega)]; exact r63
    · rw [e11 6 (by omega)]; exact r64
    · rw [e11 7 (by omega)]; exact r7
    · rw [e11 8 (by omega)]; exact r8
    · rw [e11 9 (by omega)]; exact r9
    · rw [e11 10 (by omega)]; exact r10
    · exact ⟨(xr_O4 f9 hne (by omega)).trans (rch i hi).1, (xr_O4 f10 hne (by omega)).trans (rch i hi).2⟩
end
