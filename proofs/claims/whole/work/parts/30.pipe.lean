/-! PIPE -/
theorem uk_ff2 {P P' : Nat → Prop} {n i : Nat} (hi : i < n) (hf : ∀ k, k < i → ¬ P k) (h : ∀ j, j < n → (P' j ↔ (P j ∧ j ≠ i))) : uk_ff P' n = uk_fg P (n - (i + 1)) (i + 1) := by
  rcases uk_ffs P' n with ⟨e, e1⟩ | ⟨k, hk, e, e1, e2⟩ <;> rcases uk_fgs P (n - (i + 1)) (i + 1) with ⟨g, g1⟩ | ⟨l, hl, hl2, g, g1, g2⟩
  · rw [e, g]
  · exact absurd ((h l (by omega)).mpr ⟨g1, by omega⟩) (e1 l (by omega))
  · have q := (h k hk).mp e1
    by_cases c : k < i
    · exact absurd q.1 (hf k c)
    · exact absurd q.1 (g1 k (by omega) (by omega))
  · have q := (h k hk).mp e1
    have hki : i + 1 ≤ k := by
      by_cases c : k < i
      · exact absurd q.1 (hf k c)
      · omega
    have a : ¬ k < l := fun z => g2 k hki z q.1
    have b : ¬ l < k := fun z => e2 l z ((h l (by omega)).mpr ⟨g1, by omega⟩)
    rw [e, g]
    exact congrArg nI (by omega)
theorem uk_cnN (P : Nat → Prop) : ∀ n, uk_cn P n + uk_cn (fun i => ¬ P i) n = n
  | 0 => rfl
  | n + 1 => by
    have ih := uk_cnN P n
    by_cases h : P n
    · rw [uk_cnt h, uk_cnf (P := fun i => ¬ P i) (fun z => z h)]; omega
    · rw [uk_cnf h, uk_cnt (P := fun i => ¬ P i) h]; omega
/-- two of n at least -/
theorem uk_two {P : Nat → Prop} {n i : Nat} (hi : i < n) (hP : P i) (hf : ∀ k, k < i → ¬ P k) (hn : n < 2 ^ 31 := by decide) : uk_fg P (n - (i + 1)) (i + 1) = -1 ↔ uk_cn P n ≤ 1 := by
  rcases uk_fgs P (n - (i + 1)) (i + 1) with ⟨g, g1⟩ | ⟨l, hl, hl2, g, g1, g2⟩
  · refine ⟨fun _ => ?_, fun _ => g⟩
    have h0 : uk_cn (fun k => P k ∧ k ≠ i) n = 0 := uk_cn0 n (fun k hk z => by
      by_cases c : k < i
      · exact hf k c z.1
      · exact g1 k (by have := z.2; omega) (by omega) z.1)
    have h1 := uk_cnset (P := fun k => P k ∧ k ≠ i) (Q := P) (k := i) (fun z => z.2 rfl) hP n hi (fun j _ w => ⟨fun z => z.1, fun z => ⟨z, w⟩⟩)
    omega
  · refine ⟨fun z => absurd (g.symm.trans z) (uk_ne1 (by omega)), fun z => ?_⟩
    have := uk_cn2 hP g1 (show i < l by omega) n (by omega)
    omega
section
variable {x_changes x_saidCount x_time x_lastSlot x_sliceSteps x_latestPid x_greatestPid : Int32} {x_code x_codeLengths x_pids x_parents x_programs x_places x_states x_statuses x_stepCounts x_copyCounts x_wakeTimes x_registers x_pageCounts x_pageFrames x_held x_frameUsers x_frameWords x_openHolders x_openKinds x_openTargets x_openPlaces x_openModes x_pipeFirsts x_pipeCounts x_pipeWords x_nameFiles x_fileSizes x_fileWords x_safeNames x_safeSizes x_safeWords x_saidInts : Nat → Int32} {y_time y_last y_lastPid y_did y_killed : Int32} {y_ops y_as y_bs y_pages y_wake y_zombie y_blocked y_memory y_frame y_kind y_mode y_pipe y_size y_safeSize y_said : Nat → Int32}
theorem xk_take {post : SX → Prop} {s d o : Nat} {k tg m : Int32} (hs : s < 8) (hd : d < 6) (ho : o < 12) (h : post (x_changes, x_saidCount, x_time, x_lastSlot, x_sliceSteps, x_latestPid, x_greatestPid, x_code, x_codeLengths, x_pids, x_parents, x_programs, x_places, x_states, x_statuses, x_stepCounts, x_copyCounts, x_wakeTimes, x_registers, x_pageCounts, x_pageFrames, upd x_held (6 * s + d) (nI o), x_frameUsers, x_frameWords, upd x_openHolders o 1, upd x_openKinds o k, upd x_openTargets o tg, upd x_openPlaces o 0, upd x_openModes o m, x_pipeFirsts, x_pipeCounts, x_pipeWords, x_nameFiles, x_fileSizes, x_fileWords, x_safeNames, x_safeSizes, x_safeWords, x_saidInts)) : wpX_takeOpen post (x_changes, x_saidCount, x_time, x_lastSlot, x_sliceSteps, x_latestPid, x_greatestPid, x_code, x_codeLengths, x_pids, x_parents, x_programs, x_places, x_states, x_statuses, x_stepCounts, x_copyCounts, x_wakeTimes, x_registers, x_pageCounts, x_pageFrames, x_held, x_frameUsers, x_frameWords, x_openHolders, x_openKinds, x_openTargets, x_openPlaces, x_openModes, x_pipeFirsts, x_pipeCounts, x_pipeWords, x_nameFiles, x_fileSizes, x_fileWords, x_safeNames, x_safeSizes, x_safeWords, x_saidInts) (nI s) (nI d) (nI o) k tg m := by
  have vo : vp_in (nI o) 12 := vp_in_nI ho (by decide)
  unfold wpX_takeOpen
  dsimp only
  rw [uk_m6, nI_add, nI_clamp (show 6 * s + d < 2 ^ 31 by omega), nI_clamp (show o < 2 ^ 31 by omega)]
  exact ⟨vp_in_nI (by omega) (by decide), nm_e ⟨vo, nm_e ⟨vo, nm_e ⟨vo, nm_e ⟨vo, nm_e ⟨vo, nm_e h⟩⟩⟩⟩⟩⟩
theorem yk_take {post : SY → Prop} {s d o : Nat} {k tg m : Int32} (hs : s < 8) (hd : d < 6) (ho : o < 12) (h : post (x_changes, y_time, y_last, y_lastPid, y_did, x_greatestPid, x_latestPid, x_saidCount, y_killed, y_ops, y_as, y_bs, x_codeLengths, x_pids, x_parents, x_programs, x_places, x_statuses, x_stepCounts, x_copyCounts, y_pages, y_wake, y_zombie, y_blocked, x_registers, y_memory, y_frame, upd x_held (6 * s + d) (nI o), upd y_kind o k, upd x_openTargets o tg, upd y_mode o m, upd x_openPlaces o 0, x_pipeCounts, y_pipe, x_nameFiles, y_size, x_fileWords, x_safeNames, y_safeSize, x_safeWords, y_said)) : wpY_open post (x_changes, y_time, y_last, y_lastPid, y_did, x_greatestPid, x_latestPid, x_saidCount, y_killed, y_ops, y_as, y_bs, x_codeLengths, x_pids, x_parents, x_programs, x_places, x_statuses, x_stepCounts, x_copyCounts, y_pages, y_wake, y_zombie, y_blocked, x_registers, y_memory, y_frame, x_held, y_kind, x_openTargets, y_mode, x_openPlaces, x_pipeCounts, y_pipe, x_nameFiles, y_size, x_fileWords, x_safeNames, y_safeSize, x_safeWords, y_said) (nI s) (nI d) (nI o) k tg m := by
  have vo : vp_in (nI o) 12 := vp_in_nI ho (by decide)
  unfold wpY_open
  dsimp only
  rw [uk_6m, nI_add, nI_clamp (show 6 * s + d < 2 ^ 31 by omega), nI_clamp (show o < 2 ^ 31 by omega)]
  exact ⟨vp_in_nI (by omega) (by decide), nm_e ⟨vo, nm_e ⟨vo, nm_e ⟨vo, nm_e ⟨vo, nm_e h⟩⟩⟩⟩⟩
theorem uk_newo {t b s d o : Nat} {k tg xm ym : Int32} (A : uk_All t b x_changes x_saidCount x_time x_lastSlot x_sliceSteps x_latestPid x_greatestPid x_code x_codeLengths x_pids x_parents x_programs x_places x_states x_statuses x_stepCounts x_copyCounts x_wakeTimes x_registers x_pageCounts x_pageFrames x_held x_frameUsers x_frameWords x_openHolders x_openKinds x_openTargets x_openPlaces x_openModes x_pipeFirsts x_pipeCounts x_pipeWords x_nameFiles x_fileSizes x_fileWords x_safeNames x_safeSizes x_safeWords x_saidInts y_time y_last y_lastPid y_did y_killed y_ops y_as y_bs y_pages y_wake y_zombie y_blocked y_memory y_frame y_kind y_mode y_pipe y_size y_safeSize y_said) (hs : s < 8) (hp : x_pids s ≠ 0) (hz : y_zombie s = 0) (hb : y_blocked s = 0) (hd : d < 6) (ho : o < 12) (h1 : x_held (6 * s + d) = -1) (h0 : x_openHolders o = 0) (hv : (k = 1 ∧ xm = ym ∧ ym &&& 3 ≠ 0 ∧ vp_in tg 8) ∨ (k = 2 ∧ xm = 1 ∧ vp_in tg 4) ∨ (k = 3 ∧ xm = 2 ∧ vp_in tg 4)) (hFi : uk_Fi x_nameFiles (upd y_kind o k) (upd x_openTargets o tg) x_fileSizes y_size) : uk_All t b x_changes x_saidCount x_time x_lastSlot x_sliceSteps x_latestPid x_greatestPid x_code x_codeLengths x_pids x_parents x_programs x_places x_states x_statuses x_stepCounts x_copyCounts x_wakeTimes x_registers x_pageCounts x_pageFrames (upd x_held (6 * s + d) (nI o)) x_frameUsers x_frameWords (upd x_openHolders o 1) (upd x_openKinds o k) (upd x_openTargets o tg) (upd x_openPlaces o 0) (upd x_openModes o xm) x_pipeFirsts x_pipeCounts x_pipeWords x_nameFiles x_fileSizes x_fileWords x_safeNames x_safeSizes x_safeWords x_saidInts y_time y_last y_lastPid y_did y_killed y_ops y_as y_bs y_pages y_wake y_zombie y_blocked y_memory y_frame (upd y_kind o k) (upd y_mode o ym) y_pipe y_size y_safeSize y_said := by
  have hk0 : y_kind o = 0 := (uk_ki0 (P := x_pids) (zo := y_zombie) (H := x_held) (uk_aOk A) ho).mpr h0
  have hWk := uk_du_Wk (x := nI o) (ki' := upd y_kind o k) (uk_aWk A) hd (uk_run1 A hs hp hz hb) (fun o' _ w => pk_un (fun z => by
    subst z
    rw [hk0] at w
    rcases w with w | w <;> exact absurd w (by decide)))
  exact ⟨uk_aG A, uk_aN A, uk_aC A, uk_aeT A, uk_aPr A, uk_aPs A, uk_aMe A, uk_aFu A, uk_HdU (uk_aHd A) (Or.inr (vp_in_nI ho (by decide))), uk_nw_Ho (uk_aHo A) hs hp hz hd ho h1 h0, uk_nw_Ok (uk_aOk A) hv, uk_aPi A, hFi, uk_aSa A, uk_aSc A, hWk⟩
theorem uk_call6 {t b s : Nat} (A : uk_All t b x_changes x_saidCount x_time x_lastSlot x_sliceSteps x_latestPid x_greatestPid x_code x_codeLengths x_pids x_parents x_programs x_places x_states x_statuses x_stepCounts x_copyCounts x_wakeTimes x_registers x_pageCounts x_pageFrames x_held x_frameUsers x_frameWords x_openHolders x_openKinds x_openTargets x_openPlaces x_openModes x_pipeFirsts x_pipeCounts x_pipeWords x_nameFiles x_fileSizes x_fileWords x_safeNames x_safeSizes x_safeWords x_saidInts y_time y_last y_lastPid y_did y_killed y_ops y_as y_bs y_pages y_wake y_zombie y_blocked y_memory y_frame y_kind y_mode y_pipe y_size y_safeSize y_said) (hs : s < 8) (hp : x_pids s ≠ 0) (hz : y_zombie s = 0) (hb : y_blocked s = 0) :
  ∃ u' v', (∀ post : SX → Prop, post u' → wpX_doCall post (x_changes, x_saidCount, x_time, x_lastSlot, x_sliceSteps, x_latestPid, x_greatestPid, x_code, x_codeLengths, x_pids, x_parents, x_programs, x_places, x_states, x_statuses, x_stepCounts, x_copyCounts, x_wakeTimes, x_registers, x_pageCounts, x_pageFrames, x_held, x_frameUsers, x_frameWords, x_openHolders, x_openKinds, x_openTargets, x_openPlaces, x_openModes, x_pipeFirsts, x_pipeCounts, x_pipeWords, x_nameFiles, x_fileSizes, x_fileWords, x_safeNames, x_safeSizes, x_safeWords, x_saidInts) (nI s) 6) ∧ (∀ post : SY → Prop, post v' → wY_call_127 post (nI s) 6 (x_registers (4 * s)) (x_registers (4 * s + 1)) x_changes y_time y_last y_lastPid y_did x_greatestPid x_latestPid x_saidCount 0 y_ops y_as y_bs x_codeLengths x_pids x_parents x_programs x_places x_statuses x_stepCounts x_copyCounts y_pages y_wake y_zombie y_blocked x_registers y_memory y_frame x_held y_kind x_openTargets y_mode x_openPlaces x_pipeCounts y_pipe x_nameFiles y_size x_fileWords x_safeNames y_safeSize x_safeWords y_said) ∧ uk_R y_time t (b + 1) u' v' := by
  obtain ⟨_, vs, es⟩ := uk_lp 8 hs (by decide)
  obtain ⟨c, ec, hc⟩ := uk_aC A
  have hH := uk_aHd A s hs hp hz
  have hHo := uk_aHo A
  have hOk := uk_aOk A
  have hki0 : ∀ o, o < 12 → (y_kind o = 0 ↔ x_openHolders o = 0) := fun o ho => uk_ki0 (P := x_pids) (zo := y_zombie) (H := x_held) hOk ho
  have hkp : ∀ o, o < 12 → (¬ y_kind o ≤ 0 ↔ ¬ x_openHolders o = 0) := fun o ho => by
    rcases (hOk o ho).2 with ⟨a, b⟩ | ⟨a, b, c⟩
    · rw [a, b]; exact ⟨fun z => absurd (by decide) z, fun z => absurd rfl z⟩
    · refine ⟨fun _ => a, fun _ => ?_⟩
      rcases c with c | c | c <;> rw [c.1] <;> decide
  have hcnt : uk_cn (fun o => ¬ y_kind o ≤ 0) 12 + uk_cn (fun o => x_openHolders o = 0) 12 = 12 := by
    have h1 := uk_cnN (fun o => x_openHolders o = 0) 12
    have h2 := uk_cnc (P := fun o => ¬ y_kind o ≤ 0) (Q := fun o => ¬ x_openHolders o = 0) 12 hkp
    omega
  have hY0 : ∀ (post : SY → Prop), (uk_fg (fun d => x_held (6 * s + d) = -1) 6 0 = -1 ∨ (∃ i, i < 6 ∧ uk_fg (fun d => x_held (6 * s + d) = -1) 6 0 = nI i ∧ (uk_fg (fun d => x_held (6 * s + d) = -1) (6 - (i + 1)) (i + 1) = -1 ∨ uk_ff (fun p => uk_pfr y_kind x_openTargets (nI p)) 4 = -1 ∨ uk_cn (fun o => x_openHolders o = 0) 12 ≤ 1))) → post (x_changes, y_time, y_last, y_lastPid, y_did, x_greatestPid, x_latestPid, x_saidCount, 0, y_ops, y_as, y_bs, x_codeLengths, x_pids, x_parents, x_programs, x_places, x_statuses, x_stepCounts, x_copyCounts, y_pages, y_wake, y_zombie, y_blocked, upd x_registers (4 * s) (-1), y_memory, y_frame, x_held, y_kind, x_openTargets, y_mode, x_openPlaces, x_pipeCounts, y_pipe, x_nameFiles, y_size, x_fileWords, x_safeNames, y_safeSize, x_safeWords, y_said) → wY_call_127 post (nI s) 6 (x_registers (4 * s)) (x_registers (4 * s + 1)) x_changes y_time y_last y_lastPid y_did x_greatestPid x_latestPid x_saidCount 0 y_ops y_as y_bs x_codeLengths x_pids x_parents x_programs x_places x_statuses x_stepCounts x_copyCounts y_pages y_wake y_zombie y_blocked x_registers y_memory y_frame x_held y_kind x_openTargets y_mode x_openPlaces x_pipeCounts y_pipe x_nameFiles y_size x_fileWords x_safeNames y_safeSize x_safeWords y_said := fun post hc0 h => by
    unfold wY_call_127
    refine br_t (by decide) (br_f (by decide) ?_)
    unfold wpY_descriptors
    refine br_f (by decide) (br_t rfl ?_)
    unfold wpY_newPipe
    refine yk_freeDescriptor (j := 0) hs (by decide) hH ?_
    rcases hc0 with f | ⟨i, hi, f, hc0⟩
    · show _ ∧ _
      rw [show uk_fg (fun d => x_held (6 * s + d) = -1) (6 - 0) 0 = -1 from f]
      refine br_f (by decide) (yk_freePipe (br_t (by decide) (yk_tail0 hs h)))
    · show _ ∧ _
      rw [show uk_fg (fun d => x_held (6 * s + d) = -1) (6 - 0) 0 = nI i from f, nI_1]
      refine br_t (nI_pos' (by omega)) (yk_freeDescriptor (j := i + 1) hs (by omega) hH (yk_freePipe ?_))
      by_cases g1 : uk_fg (fun d => x_held (6 * s + d) = -1) (6 - (i + 1)) (i + 1) < 0
      · exact br_t g1 (yk_tail0 hs h)
      · refine br_f g1 ⟨fun _ => yk_tail0 hs h, fun g2 => yk_opens ⟨fun g3 => ?_, fun _ => yk_tail0 hs h⟩⟩
        exfalso
        rcases hc0 with z | z | z
        · rw [z] at g1; exact g1 (by decide)
        · rw [z] at g2; exact g2 (by decide)
        · have := (nI_leI (b := 10) (by omega) (by decide)).mp g3
          omega
  have hX0 : ∀ (post : SX → Prop) (j1 j2 : Nat) (r1 r2 r3 r4 : Int32), j1 ≤ 6 → j2 ≤ 12 → r1 = uk_fg (fun d => x_held (6 * s + d) = -1) 6 0 → r1 + 1 = nI j1 → r2 = uk_fg (fun d => x_held (6 * s + d) = -1) (6 - j1) j1 → r3 = uk_fg (fun o => x_openHolders o = 0) 12 0 → r3 + 1 = nI j2 → r4 = uk_fg (fun o => x_openHolders o = 0) (12 - j2) j2 → (r2 = -1 ∨ r4 = -1 ∨ uk_ff (fun p => uk_pfr y_kind x_openTargets (nI p)) 4 = -1) → post (x_changes, x_saidCount, x_time, x_lastSlot, x_sliceSteps, x_latestPid, x_greatestPid, x_code, x_codeLengths, x_pids, x_parents, x_programs, x_places, x_states, x_statuses, x_stepCounts, x_copyCounts, x_wakeTimes, upd x_registers (4 * s) (-1), x_pageCounts, x_pageFrames, x_held, x_frameUsers, x_frameWords, x_openHolders, x_openKinds, x_openTargets, x_openPlaces, x_openModes, x_pipeFirsts, x_pipeCounts, x_pipeWords, x_nameFiles, x_fileSizes, x_fileWords, x_safeNames, x_safeSizes, x_safeWords, x_saidInts) → wpX_doCall post (x_changes, x_saidCount, x_time, x_lastSlot, x_sliceSteps, x_latestPid, x_greatestPid, x_code, x_codeLengths, x_pids, x_parents, x_programs, x_places, x_states, x_statuses, x_stepCounts, x_copyCounts, x_wakeTimes, x_registers, x_pageCounts, x_pageFrames, x_held, x_frameUsers, x_frameWords, x_openHolders, x_openKinds, x_openTargets, x_openPlaces, x_openModes, x_pipeFirsts, x_pipeCounts, x_pipeWords, x_nameFiles, x_fileSizes, x_fileWords, x_safeNames, x_safeSizes, x_safeWords, x_saidInts) (nI s) 6 := fun post j1 j2 r1 r2 r3 r4 hj1 hj2 er1 ej1 er2 er3 ej2 er4 hn h => by
    unfold wpX_doCall
    refine nm_r (uk_m4 s) ⟨vp_in_nI (by omega) (by decide), nm_r (uk_rg0 x_registers hs) ⟨uk_rgv hs, nm_r (uk_rg1 x_registers hs) (br_f (by decide) (br_f (by decide) (br_f (by decide) (br_f (by decide) (br_f (by decide) (br_f (by decide) (br_f (by decide) (br_f (by decide) (br_t rfl ?_)))))))))⟩⟩
    unfold wpX_makePipe
    refine xk_freeDescriptor (j := 0) hs (by decide) ?_
    rw [show uk_fg (fun d => x_held (6 * s + d) = -1) (6 - 0) 0 = r1 from er1.symm, ej1]
    refine xk_freeDescriptor hs hj1 (xk_freeOpen (j := 0) (by decide) ?_)
    rw [show uk_fg (fun o => x_openHolders o = 0) (12 - 0) 0 = r3 from er3.symm, ej2]
    refine xk_freeOpen hj2 (xk_freePipe hOk hHo ?_)
    rw [← er2, ← er4]
    refine ⟨fun _ => xk_tail0 hs ec hc h, fun g1 => ⟨fun _ => xk_tail0 hs ec hc h, fun g2 => ⟨fun _ => xk_tail0 hs ec hc h, fun g3 => ?_⟩⟩⟩
    exfalso
    rcases hn with z | z | z
    · exact g1 z
    · exact g2 z
    · exact g3 z
  have m1 : (-1 : Int32) + 1 = nI 0 := by decide
  obtain ⟨j1, hj1, ej1, hd1⟩ : ∃ j1, j1 ≤ 6 ∧ uk_fg (fun d => x_held (6 * s + d) = -1) 6 0 + 1 = nI j1 ∧ ((uk_fg (fun d => x_held (6 * s + d) = -1) 6 0 = -1 ∧ uk_fg (fun d => x_held (6 * s + d) = -1) (6 - j1) j1 = -1) ∨ (∃ i, i < 6 ∧ j1 = i + 1 ∧ uk_fg (fun d => x_held (6 * s + d) = -1) 6 0 = nI i ∧ x_held (6 * s + i) = -1)) := by
    rcases uk_fgs (fun d => x_held (6 * s + d) = -1) 6 0 with ⟨f, _⟩ | ⟨i, _, hi, f, f1, _⟩
    · exact ⟨0, by decide, by rw [f]; exact m1, Or.inl ⟨f, f⟩⟩
    · exact ⟨i + 1, by omega, by rw [f]; exact nI_1 i, Or.inr ⟨i, by omega, rfl, f, f1⟩⟩
  obtain ⟨j2, hj2, ej2, ho1⟩ : ∃ j2, j2 ≤ 12 ∧ uk_fg (fun o => x_openHolders o = 0) 12 0 + 1 = nI j2 ∧ ((uk_fg (fun o => x_openHolders o = 0) 12 0 = -1 ∧ uk_fg (fun o => x_openHolders o = 0) (12 - j2) j2 = -1 ∧ uk_cn (fun o => x_openHolders o = 0) 12 = 0) ∨ (∃ i, i < 12 ∧ j2 = i + 1 ∧ uk_fg (fun o => x_openHolders o = 0) 12 0 = nI i ∧ x_openHolders i = 0 ∧ ∀ k, k < i → ¬ x_openHolders k = 0)) := by
    rcases uk_fgs (fun o => x_openHolders o = 0) 12 0 with ⟨f, f1⟩ | ⟨i, _, hi, f, f1, f2⟩
    · exact ⟨0, by decide, by rw [f]; exact m1, Or.inl ⟨f, f, uk_cn0 12 (fun i hi => f1 i (by omega) (by omega))⟩⟩
    · exact ⟨i + 1, by omega, by rw [f]; exact nI_1 i, Or.inr ⟨i, by omega, rfl, f, f1, fun k hk => f2 k (by omega) hk⟩⟩
  by_cases hall : uk_fg (fun d => x_held (6 * s + d) = -1) (6 - j1) j1 = -1 ∨ uk_fg (fun o => x_openHolders o = 0) (12 - j2) j2 = -1 ∨ uk_ff (fun p => uk_pfr y_kind x_openTargets (nI p)) 4 = -1
  · refine ⟨_, _, fun post h => hX0 post j1 j2 _ _ _ _ hj1 hj2 rfl ej1 rfl rfl ej2 rfl hall h, fun post h => hY0 post ?_ h, uk_end0 (g := -1) A hs hp hz hb⟩
    rcases hd1 with ⟨f, _⟩ | ⟨i, hi, rfl, f, f1⟩
    · exact Or.inl f
    · refine Or.inr ⟨i, hi, f, ?_⟩
      rcases hall with z | z | z
      · exact Or.inl z
      · refine Or.inr (Or.inr ?_)
        rcases ho1 with ⟨_, _, g⟩ | ⟨l, hl, rfl, g, g1, g2⟩
        · omega
        · exact (uk_two hl g1 g2).mp z
      · exact Or.inr (Or.inl z)
  · have n1 : ¬ uk_fg (fun d => x_held (6 * s + d) = -1) (6 - j1) j1 = -1 := fun z => hall (Or.inl z)
    have n2 : ¬ uk_fg (fun o => x_openHolders o = 0) (12 - j2) j2 = -1 := fun z => hall (Or.inr (Or.inl z))
    have n3 : ¬ uk_ff (fun p => uk_pfr y_kind x_openTargets (nI p)) 4 = -1 := fun z => hall (Or.inr (Or.inr z))
    rcases hd1 with ⟨_, f⟩ | ⟨i, hi, rfl, f, f1⟩
    · exact absurd f n1
    rcases ho1 with ⟨_, f, _⟩ | ⟨o, ho, rfl, fo, fo1, fo2⟩
    · exact absurd f n2
    rcases uk_fgs (fun d => x_held (6 * s + d) = -1) (6 - (i + 1)) (i + 1) with ⟨z, _⟩ | ⟨i2, hi2, hi2', g, g1, _⟩
    · exact absurd z n1
    rcases uk_fgs (fun o => x_openHolders o = 0) (12 - (o + 1)) (o + 1) with ⟨z, _⟩ | ⟨o2, ho2, ho2', go, go1, _⟩
    · exact absurd z n2
    rcases uk_ffs (fun p => uk_pfr y_kind x_openTargets (nI p)) 4 with ⟨z, _⟩ | ⟨pp, hpp, gp, gp1, _⟩
    · exact absurd z n3
    have i26 : i2 < 6 := by omega
    have o212 : o2 < 12 := by omega
    have vp4 : vp_in (nI pp) 4 := vp_in_nI hpp (by decide)
    have hk0 : y_kind o = 0 := (hki0 o ho).mpr fo1
    have A1 := uk_newo (k := 2) (tg := nI pp) (xm := 1) (ym := 0) A hs hp hz hb hi ho f1 fo1 (Or.inr (Or.inl ⟨rfl, rfl, vp4⟩)) (uk_nw_Fi1 (uk_aFi A) (by rw [hk0]; decide) (by decide))
    have g1' : upd x_held (6 * s + i) (nI o) (6 * s + i2) = -1 := by rw [pk_un (by omega)]; exact g1
    have go1' : upd x_openHolders o 1 o2 = 0 := by rw [pk_un (by omega)]; exact go1
    have hk02 : upd y_kind o 2 o2 = 0 := by rw [pk_un (by omega)]; exact (hki0 o2 o212).mpr go1
    have A2 := uk_newo (k := 3) (tg := nI pp) (xm := 2) (ym := 0) A1 hs hp hz hb i26 o212 g1' go1' (Or.inr (Or.inr ⟨rfl, rfl, vp4⟩)) (uk_nw_Fi1 (uk_aFi A1) (by rw [hk02]; decide) (by decide))
    have A3 : uk_All t b x_changes x_saidCount x_time x_lastSlot x_sliceSteps x_latestPid x_greatestPid x_code x_codeLengths x_pids x_parents x_programs x_places x_states x_statuses x_stepCounts x_copyCounts x_wakeTimes x_registers x_pageCounts x_pageFrames (upd (upd x_held (6 * s + i) (nI o)) (6 * s + i2) (nI o2)) x_frameUsers x_frameWords (upd (upd x_openHolders o 1) o2 1) (upd (upd x_openKinds o 2) o2 3) (upd (upd x_openTargets o (nI pp)) o2 (nI pp)) (upd (upd x_openPlaces o 0) o2 0) (upd (upd x_openModes o 1) o2 2) (upd x_pipeFirsts pp 0) (upd x_pipeCounts pp 0) x_pipeWords x_nameFiles x_fileSizes x_fileWords x_safeNames x_safeSizes x_safeWords x_saidInts y_time y_last y_lastPid y_did y_killed y_ops y_as y_bs y_pages y_wake y_zombie y_blocked y_memory y_frame (upd (upd y_kind o 2) o2 3) (upd (upd y_mode o 0) o2 0) y_pipe y_size y_safeSize y_said := ⟨uk_aG A2, uk_aN A2, uk_aC A2, uk_aeT A2, uk_aPr A2, uk_aPs A2, uk_aMe A2, uk_aFu A2, uk_aHd A2, uk_aHo A2, uk_aOk A2, uk_pi_nw pp (uk_aPi A2), uk_aFi A2, uk_aSa A2, uk_aSc A2, uk_aWk A2⟩
    have A4 := uk_All_reg (i := 1) (x := nI i2) A3 hs hp hz hb (by decide)
    refine ⟨_, _, fun post h => ?_, fun post h => ?_, uk_end0 (g := nI i) A4 hs hp hz hb⟩
    · unfold wpX_doCall
      refine nm_r (uk_m4 s) ⟨vp_in_nI (by omega) (by decide), nm_r (uk_rg0 x_registers hs) ⟨uk_rgv hs, nm_r (uk_rg1 x_registers hs) (br_f (by decide) (br_f (by decide) (br_f (by decide) (br_f (by decide) (br_f (by decide) (br_f (by decide) (br_f (by decide) (br_f (by decide) (br_t rfl ?_)))))))))⟩⟩
      unfold wpX_makePipe
      refine xk_freeDescriptor (j := 0) hs (by decide) ?_
      rw [show uk_fg (fun d => x_held (6 * s + d) = -1) (6 - 0) 0 = nI i from f, nI_1]
      refine xk_freeDescriptor hs (by omega) (xk_freeOpen (j := 0) (by decide) ?_)
      rw [show uk_fg (fun o => x_openHolders o = 0) (12 - 0) 0 = nI o from fo, nI_1]
      refine xk_freeOpen (by omega) (xk_freePipe hOk hHo ?_)
      rw [g, go, gp]
      refine br_f (uk_ne1 (by omega)) (br_f (uk_ne1 (by omega)) (br_f (uk_ne1 (by omega)) (xk_take hs hi ho (xk_take hs i26 o212 ⟨vp4, ?_⟩))))
      rw [nI_clamp (show pp < 2 ^ 31 by omega), uk_m4, nI_1, nI_clamp (show 4 * s + 1 < 2 ^ 31 by omega)]
      exact nm_e ⟨vp4, nm_e ⟨vp_in_nI (by omega) (by decide), nm_e (xk_tail0 hs ec hc h)⟩⟩
    · unfold wY_call_127
      refine br_t (by decide) (br_f (by decide) ?_)
      unfold wpY_descriptors
      refine br_f (by decide) (br_t rfl ?_)
      unfold wpY_newPipe
      refine yk_freeDescriptor (j := 0) hs (by decide) hH ?_
      show _ ∧ _
      rw [show uk_fg (fun d => x_held (6 * s + d) = -1) (6 - 0) 0 = nI i from f, nI_1]
      refine br_t (nI_pos' (by omega)) (yk_freeDescriptor (j := i + 1) hs (by omega) hH (yk_freePipe ?_))
      rw [g, gp]
      have htwo : ¬ uk_cn (fun o => x_openHolders o = 0) 12 ≤ 1 := fun z => n2 ((uk_two ho fo1 fo2).mpr z)
      refine br_f (nI_pos (by omega)) (br_f (nI_pos (by omega)) (yk_opens (br_t (nI_le (b := 10) (by omega) (by decide)) ⟨vp4, ?_⟩)))
      rw [nI_clamp (show pp < 2 ^ 31 by omega)]
      refine nm_e (yk_freeOpen ?_)
      have ef1 : uk_ff (fun o => y_kind o = 0) 12 = nI o := (uk_ffc 12 hki0).trans fo
      rw [ef1]
      refine yk_take hs hi ho (yk_freeOpen ?_)
      have ef2 : uk_ff (fun j => upd y_kind o 2 j = 0) 12 = nI o2 := (uk_ff2 (P := fun o => x_openHolders o = 0) ho fo2 (fun j hj => by
        by_cases w : j = o
        · subst w; rw [pk_us]; exact ⟨fun z => absurd z (by decide), fun z => absurd rfl z.2⟩
        · rw [pk_un w, hki0 j hj]; exact ⟨fun z => ⟨z, w⟩, fun z => z.1⟩)).trans go
      rw [ef2]
      refine yk_take hs i26 o212 ?_
      rw [uk_4m, nI_1, nI_clamp (show 4 * s + 1 < 2 ^ 31 by omega)]
      exact ⟨vp_in_nI (by omega) (by decide), nm_e (yk_tail0 hs h)⟩
end
