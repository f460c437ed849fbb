/-! who is ready, both sides; the choice -/
theorem uk_cix (g l : Nat) : (nI g * 24 + nI l) * 3 = nI (3 * (24 * g + l)) := by rw [uk_m24, nI_add, uk_m3]
theorem uk_cix2 (g l : Nat) : (nI g * 24 + nI l) * 3 + 2 = nI (3 * (24 * g + l) + 2) := by rw [uk_cix]; exact nI_add _ 2
theorem uk_cix1 (g l : Nat) : (nI g * 24 + nI l) * 3 + 1 = nI (3 * (24 * g + l) + 1) := by rw [uk_cix]; exact nI_add _ 1
section
variable {x_changes x_saidCount x_time x_lastSlot x_sliceSteps x_latestPid x_greatestPid : Int32} {x_code x_codeLengths x_pids x_parents x_programs x_places x_states x_statuses x_stepCounts x_copyCounts x_wakeTimes x_registers x_pageCounts x_pageFrames x_held x_frameUsers x_frameWords x_openHolders x_openKinds x_openTargets x_openPlaces x_openModes x_pipeFirsts x_pipeCounts x_pipeWords x_nameFiles x_fileSizes x_fileWords x_safeNames x_safeSizes x_safeWords x_saidInts : Nat → Int32} {y_time y_last y_lastPid y_did y_killed : Int32} {y_ops y_as y_bs y_pages y_wake y_zombie y_blocked y_memory y_frame y_kind y_mode y_pipe y_size y_safeSize y_said : Nat → Int32}
theorem uk_gl (hPr : uk_Pr x_code x_codeLengths y_ops y_as y_bs) (hPs : uk_Ps x_pids x_parents x_programs x_places x_statuses x_states y_zombie y_blocked) {s : Nat} (hs : s < 8) : ∃ g l m, g < 6 ∧ l ≤ 24 ∧ m ≤ 24 ∧ x_programs s = nI g ∧ x_places s = nI l ∧ x_codeLengths g = nI m ∧ (∀ j, j < m → uk_val (x_code (3 * (24 * g + j))) (x_code (3 * (24 * g + j) + 1)) (x_code (3 * (24 * g + j) + 2))) := by
  obtain ⟨_, _, h3, h4, _⟩ := hPs s hs
  obtain ⟨g, hg, eg⟩ := vp_in_of h3 (by decide)
  obtain ⟨l, hl, el⟩ := vp_in_of h4 (by decide)
  obtain ⟨m, hm, em, hv⟩ := hPr.2 g hg
  exact ⟨g, l, m, hg, by omega, hm, eg, el, em, hv⟩
theorem xk_isReady {post : Int32 → Prop} {s t : Nat} (hs : s < 8) (hPr : uk_Pr x_code x_codeLengths y_ops y_as y_bs) (hPs : uk_Ps x_pids x_parents x_programs x_places x_statuses x_states y_zombie y_blocked) (hHd : uk_Hd x_pids y_zombie x_held) (hHo : uk_Ho x_pids y_zombie x_held x_openHolders) (hOk : uk_Ok x_openHolders x_openKinds y_kind x_openTargets x_openModes y_mode x_openPlaces) (hPi : uk_Pi x_pipeCounts x_pipeFirsts x_pipeWords y_pipe) (hWk : uk_Wk x_pids y_zombie y_blocked x_programs x_places x_codeLengths y_ops y_bs x_wakeTimes y_wake x_registers x_held y_kind t) (ht : uk_Rd x_pids x_parents y_zombie y_blocked x_programs x_places y_bs y_wake x_registers x_held y_kind x_openTargets x_pipeCounts x_time s → post 1) (hf : ¬ uk_Rd x_pids x_parents y_zombie y_blocked x_programs x_places y_bs y_wake x_registers x_held y_kind x_openTargets x_pipeCounts x_time s → post 0) : wpX_isReady post (x_changes, x_saidCount, x_time, x_lastSlot, x_sliceSteps, x_latestPid, x_greatestPid, x_code, x_codeLengths, x_pids, x_parents, x_programs, x_places, x_states, x_statuses, x_stepCounts, x_copyCounts, x_wakeTimes, x_registers, x_pageCounts, x_pageFrames, x_held, x_frameUsers, x_frameWords, x_openHolders, x_openKinds, x_openTargets, x_openPlaces, x_openModes, x_pipeFirsts, x_pipeCounts, x_pipeWords, x_nameFiles, x_fileSizes, x_fileWords, x_safeNames, x_safeSizes, x_safeWords, x_saidInts) (nI s) := by
  obtain ⟨_, vs, es⟩ := uk_lp 8 hs (by decide)
  unfold wpX_isReady
  refine ⟨vs, ?_⟩
  rw [es]
  refine ⟨fun a => hf (fun z => z.1 a), fun hp => ⟨vs, ?_⟩⟩
  rcases (hPs s hs).2.2.2.2.2.2 hp with ⟨a, b⟩ | ⟨hz, _, b⟩
  · rw [b]
    exact br_t rfl (hf (fun z => absurd (a.symm.trans z.2.1) (by decide)))
  rcases b with ⟨b1, b2⟩ | ⟨b1, b2⟩
  · rw [b2]
    exact br_f (by decide) ⟨vs, br_t rfl (ht ⟨hp, hz, Or.inl b1⟩)⟩
  rw [b2]
  refine br_f (by decide) ⟨vs, br_f (by decide) ⟨vs, vs, ?_⟩⟩
  rcases hWk s hs hp hz with ⟨w, _⟩ | ⟨_, w1, w2, w3⟩
  · exact absurd (b1.symm.trans w) (by decide)
  obtain ⟨g, l, m, hg, hl, hm, eg, el, em, _⟩ := uk_gl hPr hPs hs
  unfold wpX_codeIndex
  dsimp only
  rw [eg, el, nI_clamp (show g < 2 ^ 31 by omega), em, nI_clamp (show l < 2 ^ 31 by omega), nI_clamp (show m < 2 ^ 31 by omega)] at w1
  rw [eg, el, nI_clamp (show g < 2 ^ 31 by omega), nI_clamp (show l < 2 ^ 31 by omega)] at w3
  have hR : uk_Rd x_pids x_parents y_zombie y_blocked x_programs x_places y_bs y_wake x_registers x_held y_kind x_openTargets x_pipeCounts x_time s ↔ ((y_bs (24 * g + l) ≠ 14 ∧ ¬ uk_Bk x_pids x_parents y_zombie x_registers x_held y_kind x_openTargets x_pipeCounts s (y_bs (24 * g + l))) ∨ (y_bs (24 * g + l) = 14 ∧ y_wake s ≤ x_time)) := by
    unfold uk_Rd
    rw [eg, el, nI_clamp (show g < 2 ^ 31 by omega), nI_clamp (show l < 2 ^ 31 by omega)]
    exact ⟨fun z => z.2.2.resolve_left (fun w => absurd (b1.symm.trans w) (by decide)), fun z => ⟨hp, hz, Or.inr z⟩⟩
  rw [eg, el, uk_cix2, nI_clamp (show 3 * (24 * g + l) + 2 < 2 ^ 31 by omega), ← (hPr.1 (24 * g + l) (by omega)).2.1]
  refine ⟨vp_in_nI (by omega) (by decide), ?_⟩
  by_cases h14 : y_bs (24 * g + l) = 14
  · rcases w3 with ⟨_, w, hw, hw2, e1, e2⟩ | ⟨_, _, w3⟩
    · rw [h14]
      unfold wpX_wouldBlock
      refine br_f (by decide) (br_f (by decide) (br_f (by decide) (br_t rfl ⟨vs, ?_⟩)))
      rw [es, e1, ← e2]
      exact ⟨fun q => br_t rfl (ht (hR.mpr (Or.inr ⟨h14, q⟩))), fun q => br_f (by decide) (hf (fun z => by
        rcases hR.mp z with y | y
        · exact y.1 h14
        · exact q y.2))⟩
    · rw [h14] at w3
      rcases w3 with w3 | w3 | w3
      · exact absurd w3 (by decide)
      · exact absurd w3.1 (by decide)
      · exact absurd w3.1 (by decide)
  · exact xk_wouldBlock hPs hHd hHo hOk hPi hs hp hz h14 (fun q => br_f (by decide) (hf (fun z => by
      rcases hR.mp z with y | y
      · exact y.2 q
      · exact h14 y.1))) (fun q => br_t rfl (ht (hR.mpr (Or.inl ⟨h14, q⟩))))
theorem yk_isReady {post : Int32 → Prop} {s t : Nat} (hs : s < 8) (hPr : uk_Pr x_code x_codeLengths y_ops y_as y_bs) (hPs : uk_Ps x_pids x_parents x_programs x_places x_statuses x_states y_zombie y_blocked) (hHd : uk_Hd x_pids y_zombie x_held) (hHo : uk_Ho x_pids y_zombie x_held x_openHolders) (hOk : uk_Ok x_openHolders x_openKinds y_kind x_openTargets x_openModes y_mode x_openPlaces) (hPi : uk_Pi x_pipeCounts x_pipeFirsts x_pipeWords y_pipe) (hWk : uk_Wk x_pids y_zombie y_blocked x_programs x_places x_codeLengths y_ops y_bs x_wakeTimes y_wake x_registers x_held y_kind t) (ht : uk_Rd x_pids x_parents y_zombie y_blocked x_programs x_places y_bs y_wake x_registers x_held y_kind x_openTargets x_pipeCounts y_time s → post 1) (hf : ¬ uk_Rd x_pids x_parents y_zombie y_blocked x_programs x_places y_bs y_wake x_registers x_held y_kind x_openTargets x_pipeCounts y_time s → post 0) : wpY_isReady post (x_changes, y_time, y_last, y_lastPid, y_did, x_greatestPid, x_latestPid, x_saidCount, y_killed, y_ops, y_as, y_bs, x_codeLengths, x_pids, x_parents, x_programs, x_places, x_statuses, x_stepCounts, x_copyCounts, y_pages, y_wake, y_zombie, y_blocked, x_registers, y_memory, y_frame, x_held, y_kind, x_openTargets, y_mode, x_openPlaces, x_pipeCounts, y_pipe, x_nameFiles, y_size, x_fileWords, x_safeNames, y_safeSize, x_safeWords, y_said) (nI s) := by
  obtain ⟨_, vs, es⟩ := uk_lp 8 hs (by decide)
  unfold wpY_isReady
  refine ⟨vs, ?_⟩
  rw [es, uk_le0 (hPs s hs).1]
  refine ⟨fun a => hf (fun z => z.1 a), fun hp => ⟨vs, ?_⟩⟩
  rcases (hPs s hs).2.2.2.2.2.2 hp with ⟨a, b⟩ | ⟨hz, _, b⟩
  · rw [a]
    exact br_f (by decide) (hf (fun z => absurd (a.symm.trans z.2.1) (by decide)))
  rcases b with ⟨b1, b2⟩ | ⟨b1, b2⟩
  · rw [b1]
    exact br_t hz ⟨vs, br_t rfl (ht ⟨hp, hz, Or.inl b1⟩)⟩
  rw [b1]
  refine br_t hz ⟨vs, br_f (by decide) ?_⟩
  rcases hWk s hs hp hz with ⟨w, _⟩ | ⟨_, w1, w2, w3⟩
  · exact absurd (b1.symm.trans w) (by decide)
  obtain ⟨g, l, m, hg, hl, hm, eg, el, em, _⟩ := uk_gl hPr hPs hs
  rw [eg, el, nI_clamp (show g < 2 ^ 31 by omega), em, nI_clamp (show l < 2 ^ 31 by omega), nI_clamp (show m < 2 ^ 31 by omega)] at w1
  rw [eg, el, nI_clamp (show g < 2 ^ 31 by omega), nI_clamp (show l < 2 ^ 31 by omega)] at w3
  have hR : uk_Rd x_pids x_parents y_zombie y_blocked x_programs x_places y_bs y_wake x_registers x_held y_kind x_openTargets x_pipeCounts y_time s ↔ ((y_bs (24 * g + l) ≠ 14 ∧ ¬ uk_Bk x_pids x_parents y_zombie x_registers x_held y_kind x_openTargets x_pipeCounts s (y_bs (24 * g + l))) ∨ (y_bs (24 * g + l) = 14 ∧ y_wake s ≤ y_time)) := by
    unfold uk_Rd
    rw [eg, el, nI_clamp (show g < 2 ^ 31 by omega), nI_clamp (show l < 2 ^ 31 by omega)]
    exact ⟨fun z => z.2.2.resolve_left (fun w => absurd (b1.symm.trans w) (by decide)), fun z => ⟨hp, hz, Or.inr z⟩⟩
  unfold wpY_canGo
  dsimp only
  rw [es, eg, el, uk_24m, nI_add, nI_clamp (show 24 * g + l < 2 ^ 31 by omega)]
  refine ⟨vs, vs, vp_in_nI (by omega) (by decide), nm_e ?_⟩
  rcases w3 with ⟨h14, w, hw, hw2, e1, e2⟩ | ⟨_, _, w3⟩
  · rw [h14]
    refine br_f (by decide) (br_t rfl ⟨vs, fun q => br_t rfl (hf (fun z => ?_)), fun q => br_f (by decide) (ht (hR.mpr (Or.inr ⟨h14, Int32.not_lt.mp q⟩)))⟩)
    rcases hR.mp z with y | y
    · exact y.1 h14
    · exact Int32.not_lt.mpr y.2 q
  rcases w3 with c2 | ⟨c7, d, o, hd, ho, f1, f2, f3⟩ | ⟨c8, d, o, hd, ho, f1, f2, f3⟩
  · rw [c2] at hR ⊢
    refine br_t rfl (yk_child1 hPs hs ?_)
    rcases uk_bes x_pids (fun c => x_pids c ≠ 0 ∧ x_states c = 3 ∧ x_parents c = x_pids s) 8 with ⟨b, b3⟩ | ⟨i, hi, b, b3⟩
    · rw [b]
      refine br_f (by decide) (yk_child0 hs (fun q i hi => br_t (nI_pos' (by omega)) (br_t rfl (hf (fun z => ?_)))) (fun q => br_f (by decide) (br_f (by decide) (ht (hR.mpr (Or.inl ⟨by decide, fun z => ?_⟩))))))
      · rcases hR.mp z with y | y
        · exact y.2 (Or.inl ⟨rfl, q, fun k hk z => b3 k hk ⟨z.1, (uk_zst hPs hk z.1).mpr z.2.1, z.2.2⟩⟩)
        · exact absurd y.1 (by decide)
      · rcases z with z | z | z
        · obtain ⟨k, hk, z1⟩ := z.2.1
          exact q k hk z1
        · exact absurd z.1 (by decide)
        · exact absurd z.1 (by decide)
    · rw [b]
      refine br_t (nI_pos' (by omega)) (br_f (by decide) (ht (hR.mpr (Or.inl ⟨by decide, fun z => ?_⟩))))
      rcases z with z | z | z
      · exact z.2.2 i hi ⟨b3.1, (uk_zst hPs hi b3.1).mp b3.2.1, b3.2.2⟩
      · exact absurd z.1 (by decide)
      · exact absurd z.1 (by decide)
  · have vt : vp_in (x_openTargets o) 4 := by
      have := (uk_hk hHo hOk hs hp hz hd ho f2).2.2
      rw [f3] at this
      rcases this with q | q | q
      · exact absurd q.1 (by decide)
      · exact q.2.2
      · exact q.2.2
    have hu2 : ∀ d' o', d' < 6 → o' < 12 → x_registers (4 * s) = nI d' → x_held (6 * s + d') = nI o' → o' = o := fun d' o' hd' ho' g1 g2 => by
      have := uk_nIn (by omega) (by omega) (g1.symm.trans f1)
      subst this
      exact uk_nIn (by omega) (by omega) (g2.symm.trans f2)
    rw [c7] at hR ⊢
    refine br_f (by decide) (br_f (by decide) ?_)
    rw [uk_4m, nI_clamp (show 4 * s < 2 ^ 31 by omega), f1, uk_6m, nI_add, nI_clamp (show 6 * s + d < 2 ^ 31 by omega), f2, nI_clamp (show o < 2 ^ 31 by omega)]
    refine ⟨vp_in_nI (by omega) (by decide), vp_in_nI (by omega) (by decide), vp_in_nI ho (by decide), nm_e (br_t rfl ⟨vt, fun q => br_f (by decide) (ht (hR.mpr (Or.inl ⟨by decide, fun z => ?_⟩))), fun q => yk_hasEnd (fun y => br_f (by decide) (br_t rfl (hf (fun z => ?_)))) (fun y => br_t rfl (br_f (by decide) (ht (hR.mpr (Or.inl ⟨by decide, fun z => ?_⟩)))))⟩)⟩
    · rcases z with z | z | z
      · exact absurd z.1 (by decide)
      · obtain ⟨_, d', o', hd', ho', g1, g2, g3, g4, g5⟩ := z
        have := hu2 d' o' hd' ho' g1 g2
        subst this
        exact ((uk_c4 hPi vt).2.mpr g4) q
      · exact absurd z.1 (by decide)
    · rcases hR.mp z with w | w
      · exact w.2 (Or.inr (Or.inl ⟨rfl, d, o, hd, ho, f1, f2, f3, (uk_c4 hPi vt).2.mp q, y⟩))
      · exact absurd w.1 (by decide)
    · rcases z with z | z | z
      · exact absurd z.1 (by decide)
      · obtain ⟨_, d', o', hd', ho', g1, g2, g3, g4, ex, hx, g5⟩ := z
        have := hu2 d' o' hd' ho' g1 g2
        subst this
        exact y ex hx g5
      · exact absurd z.1 (by decide)
  · have vt : vp_in (x_openTargets o) 4 := by
      have := (uk_hk hHo hOk hs hp hz hd ho f2).2.2
      rw [f3] at this
      rcases this with q | q | q
      · exact absurd q.1 (by decide)
      · exact q.2.2
      · exact q.2.2
    have hu2 : ∀ d' o', d' < 6 → o' < 12 → x_registers (4 * s) = nI d' → x_held (6 * s + d') = nI o' → o' = o := fun d' o' hd' ho' g1 g2 => by
      have := uk_nIn (by omega) (by omega) (g1.symm.trans f1)
      subst this
      exact uk_nIn (by omega) (by omega) (g2.symm.trans f2)
    rw [c8] at hR ⊢
    refine br_f (by decide) (br_f (by decide) ?_)
    rw [uk_4m, nI_clamp (show 4 * s < 2 ^ 31 by omega), f1, uk_6m, nI_add, nI_clamp (show 6 * s + d < 2 ^ 31 by omega), f2, nI_clamp (show o < 2 ^ 31 by omega)]
    refine ⟨vp_in_nI (by omega) (by decide), vp_in_nI (by omega) (by decide), vp_in_nI ho (by decide), nm_e (br_f (by decide) ⟨vt, fun q => br_f (by decide) (ht (hR.mpr (Or.inl ⟨by decide, fun z => ?_⟩))), fun q => yk_hasEnd (fun y => br_f (by decide) (br_t rfl (hf (fun z => ?_)))) (fun y => br_t rfl (br_f (by decide) (ht (hR.mpr (Or.inl ⟨by decide, fun z => ?_⟩)))))⟩)⟩
    · rcases z with z | z | z
      · exact absurd z.1 (by decide)
      · exact absurd z.1 (by decide)
      · obtain ⟨_, d', o', hd', ho', g1, g2, g3, g4, g5⟩ := z
        have := hu2 d' o' hd' ho' g1 g2
        subst this
        exact (uk_c4 hPi vt).1.mp q g4
    · rcases hR.mp z with w | w
      · exact w.2 (Or.inr (Or.inr ⟨rfl, d, o, hd, ho, f1, f2, f3, Classical.byContradiction (fun y2 => q ((uk_c4 hPi vt).1.mpr y2)), y⟩))
      · exact absurd w.1 (by decide)
    · rcases z with z | z | z
      · exact absurd z.1 (by decide)
      · exact absurd z.1 (by decide)
      · obtain ⟨_, d', o', hd', ho', g1, g2, g3, g4, ex, hx, g5⟩ := z
        have := hu2 d' o' hd' ho' g1 g2
        subst this
        exact y ex hx g5
end
