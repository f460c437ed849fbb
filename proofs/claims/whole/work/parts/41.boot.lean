/-! boot -/
section
variable {x_changes x_saidCount x_time x_lastSlot x_sliceSteps x_latestPid x_greatestPid : Int32} {x_code x_codeLengths x_pids x_parents x_programs x_places x_states x_statuses x_stepCounts x_copyCounts x_wakeTimes x_registers x_pageCounts x_pageFrames x_held x_frameUsers x_frameWords x_openHolders x_openKinds x_openTargets x_openPlaces x_openModes x_pipeFirsts x_pipeCounts x_pipeWords x_nameFiles x_fileSizes x_fileWords x_safeNames x_safeSizes x_safeWords x_saidInts : Nat → Int32} {y_time y_last y_lastPid y_did y_killed : Int32} {y_ops y_as y_bs y_pages y_wake y_zombie y_blocked y_memory y_frame y_kind y_mode y_pipe y_size y_safeSize y_said : Nat → Int32}
theorem xk_boot {post : Int32 → SX → Prop} {p : Int32} (hv : vp_in p 6) (hc : nI (uk_cn (fun s => x_pids s ≠ 0) 8) ≤ 0) (h : post 1 (x_changes, x_saidCount, x_time, 7, x_sliceSteps, 0, 1, x_code, x_codeLengths, upd x_pids 0 1, upd x_parents 0 0, upd x_programs 0 p, upd x_places 0 0, upd x_states 0 1, upd x_statuses 0 0, upd x_stepCounts 0 0, upd x_copyCounts 0 0, upd x_wakeTimes 0 0, uk_fl x_registers 0 (fun _ => 0) 4, upd x_pageCounts 0 1, upd x_pageFrames 0 0, uk_fl x_held 0 (fun _ => -1) 6, upd x_frameUsers 0 1, uk_fl x_frameWords 0 (fun _ => 0) 4, x_openHolders, x_openKinds, x_openTargets, x_openPlaces, x_openModes, x_pipeFirsts, x_pipeCounts, x_pipeWords, x_nameFiles, x_fileSizes, x_fileWords, x_safeNames, x_safeSizes, x_safeWords, x_saidInts)) : wpX_boot post (x_changes, x_saidCount, x_time, x_lastSlot, x_sliceSteps, x_latestPid, x_greatestPid, x_code, x_codeLengths, x_pids, x_parents, x_programs, x_places, x_states, x_statuses, x_stepCounts, x_copyCounts, x_wakeTimes, x_registers, x_pageCounts, x_pageFrames, x_held, x_frameUsers, x_frameWords, x_openHolders, x_openKinds, x_openTargets, x_openPlaces, x_openModes, x_pipeFirsts, x_pipeCounts, x_pipeWords, x_nameFiles, x_fileSizes, x_fileWords, x_safeNames, x_safeSizes, x_safeWords, x_saidInts) p := by
  have v8 : vp_in (nI 0) 8 := vp_in_nI (by decide) (by decide)
  have e0 : (0 : Int32).toNatClampNeg = 0 := nI_clamp (n := 0) (by decide)
  unfold wpX_boot
  refine xk_isProgram (fun _ => br_f (by decide) (xk_countProcesses (br_t hc ?_))) (fun z => absurd hv z)
  unfold wpX_beginProcess
  dsimp only
  rw [e0]
  refine ⟨v8, nm_e ⟨v8, nm_e ⟨v8, nm_e ⟨v8, nm_e ⟨v8, nm_e ⟨v8, nm_e ⟨v8, nm_e ⟨v8, nm_e ?_⟩⟩⟩⟩⟩⟩⟩⟩
  have kH := uk_run0 (fun m d (w : Nat → Int32) => wX_boot_42 post p x_changes x_saidCount x_time 7 x_sliceSteps 0 1 m (nI d) x_code x_codeLengths (upd x_pids 0 1) (upd x_parents 0 0) x_programs x_places (upd x_states 0 1) (upd x_statuses 0 0) (upd x_stepCounts 0 0) (upd x_copyCounts 0 0) (upd x_wakeTimes 0 0) x_registers (upd x_pageCounts 0 0) x_pageFrames w x_frameUsers x_frameWords x_openHolders x_openKinds x_openTargets x_openPlaces x_openModes x_pipeFirsts x_pipeCounts x_pipeWords x_nameFiles x_fileSizes x_fileWords x_safeNames x_safeSizes x_safeWords x_saidInts) (fun d => uk_fl x_held 0 (fun _ => -1) d) 6 (fun m => br_t (uk_refl 6) (by
    unfold wpX_startProgram
    refine xk_addPage (s := 0) (n := 0) (f := 0) (by decide) pk_us (by decide) (by decide) ?_
    have kR := uk_run0 (fun m k (w : Nat → Int32) => wX_startProgram_9 (fun u => match u with | (x_changes, x_saidCount, x_time, x_lastSlot, x_sliceSteps, x_latestPid, x_greatestPid, x_code, x_codeLengths, x_pids, x_parents, x_programs, x_places, x_states, x_statuses, x_stepCounts, x_copyCounts, x_wakeTimes, x_registers, x_pageCounts, x_pageFrames, x_held, x_frameUsers, x_frameWords, x_openHolders, x_openKinds, x_openTargets, x_openPlaces, x_openModes, x_pipeFirsts, x_pipeCounts, x_pipeWords, x_nameFiles, x_fileSizes, x_fileWords, x_safeNames, x_safeSizes, x_safeWords, x_saidInts) => post 1 (x_changes, x_saidCount, x_time, x_lastSlot, x_sliceSteps, x_latestPid, x_greatestPid, x_code, x_codeLengths, x_pids, x_parents, x_programs, x_places, x_states, x_statuses, x_stepCounts, x_copyCounts, x_wakeTimes, x_registers, x_pageCounts, x_pageFrames, x_held, x_frameUsers, x_frameWords, x_openHolders, x_openKinds, x_openTargets, x_openPlaces, x_openModes, x_pipeFirsts, x_pipeCounts, x_pipeWords, x_nameFiles, x_fileSizes, x_fileWords, x_safeNames, x_safeSizes, x_safeWords, x_saidInts)) (nI 0) p x_changes x_saidCount x_time 7 x_sliceSteps 0 1 m (nI k) x_code x_codeLengths (upd x_pids 0 1) (upd x_parents 0 0) x_programs x_places (upd x_states 0 1) (upd x_statuses 0 0) (upd x_stepCounts 0 0) (upd x_copyCounts 0 0) (upd x_wakeTimes 0 0) w (upd x_pageCounts 0 1) (upd x_pageFrames 0 0) (uk_fl x_held 0 (fun _ => -1) 6) (upd x_frameUsers 0 1) (uk_fl x_frameWords 0 (fun _ => 0) 4) x_openHolders x_openKinds x_openTargets x_openPlaces x_openModes x_pipeFirsts x_pipeCounts x_pipeWords x_nameFiles x_fileSizes x_fileWords x_safeNames x_safeSizes x_safeWords x_saidInts) (fun k => uk_fl x_registers 0 (fun _ => 0) k) 4 (fun m => by
      refine br_t (uk_refl 4) ⟨v8, ?_⟩
      rw [nI_clamp (show 0 < 2 ^ 31 by decide)]
      exact nm_e ⟨v8, nm_e h⟩) (fun m k hk ih => by
      refine br_f (nI_ge (b := 4) hk (by decide)) ?_
      rw [uk_m4, nI_add, nI_clamp (show 4 * 0 + k < 2 ^ 31 by omega), show 4 * 0 + k = k by omega]
      exact ⟨vp_in_nI (by omega) (by decide), nm_r (uk_fls0 (g := fun _ => 0)) (nm_r (nI_1 k) ih)⟩)
    rw [uk_fl0] at kR
    rw [uk_uu]
    exact kR)) (fun m d hd ih => by
    obtain ⟨_, _, e⟩ := uk_lp 6 hd (by decide)
    refine br_f (nI_ge (b := 6) hd (by decide)) ⟨vp_in_nI (by omega) (by decide), ?_⟩
    rw [e]
    exact nm_r (uk_fls0 (g := fun _ => -1)) (nm_r (nI_1 d) ih))
  rw [uk_fl0] at kH
  exact kH
end
