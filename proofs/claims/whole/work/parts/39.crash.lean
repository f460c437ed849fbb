/-! crash -/
section
variable {x_changes x_saidCount x_time x_lastSlot x_sliceSteps x_latestPid x_greatestPid : Int32} {x_code x_codeLengths x_pids x_parents x_programs x_places x_states x_statuses x_stepCounts x_copyCounts x_wakeTimes x_registers x_pageCounts x_pageFrames x_held x_frameUsers x_frameWords x_openHolders x_openKinds x_openTargets x_openPlaces x_openModes x_pipeFirsts x_pipeCounts x_pipeWords x_nameFiles x_fileSizes x_fileWords x_safeNames x_safeSizes x_safeWords x_saidInts : Nat → Int32} {y_time y_last y_lastPid y_did y_killed : Int32} {y_ops y_as y_bs y_pages y_wake y_zombie y_blocked y_memory y_frame y_kind y_mode y_pipe y_size y_safeSize y_said : Nat → Int32}
theorem xk_copy2 {post : SX → Prop} (h : post (x_changes, x_saidCount, x_time, x_lastSlot, x_sliceSteps, x_latestPid, x_greatestPid, x_code, x_codeLengths, x_pids, x_parents, x_programs, x_places, x_states, x_statuses, x_stepCounts, x_copyCounts, x_wakeTimes, x_registers, x_pageCounts, x_pageFrames, x_held, x_frameUsers, x_frameWords, x_openHolders, x_openKinds, x_openTargets, x_openPlaces, x_openModes, x_pipeFirsts, x_pipeCounts, x_pipeWords, uk_fl x_nameFiles 0 x_safeNames 8, uk_fl x_fileSizes 0 x_safeSizes 8, uk_fl x_fileWords 0 x_safeWords 128, x_safeNames, x_safeSizes, x_safeWords, x_saidInts)) : wpX_copyFiles__safeNames_safeSizes_safeWords_nameFiles_fileSizes_fileWords post (x_changes, x_saidCount, x_time, x_lastSlot, x_sliceSteps, x_latestPid, x_greatestPid, x_code, x_codeLengths, x_pids, x_parents, x_programs, x_places, x_states, x_statuses, x_stepCounts, x_copyCounts, x_wakeTimes, x_registers, x_pageCounts, x_pageFrames, x_held, x_frameUsers, x_frameWords, x_openHolders, x_openKinds, x_openTargets, x_openPlaces, x_openModes, x_pipeFirsts, x_pipeCounts, x_pipeWords, x_nameFiles, x_fileSizes, x_fileWords, x_safeNames, x_safeSizes, x_safeWords, x_saidInts) := by
  unfold wpX_copyFiles__safeNames_safeSizes_safeWords_nameFiles_fileSizes_fileWords
  have k1 := uk_run0 (fun m k (w : Nat → Int32) => wX_copyFiles__safeNames_safeSizes_safeWords_nameFiles_fileSizes_fileWords_3 post x_changes x_saidCount x_time x_lastSlot x_sliceSteps x_latestPid x_greatestPid m (nI k) x_code x_codeLengths x_pids x_parents x_programs x_places x_states x_statuses x_stepCounts x_copyCounts x_wakeTimes x_registers x_pageCounts x_pageFrames x_held x_frameUsers x_frameWords x_openHolders x_openKinds x_openTargets x_openPlaces x_openModes x_pipeFirsts x_pipeCounts x_pipeWords w x_fileSizes x_fileWords x_safeNames x_safeSizes x_safeWords x_saidInts) (fun k => uk_fl x_nameFiles 0 x_safeNames k) 8 (fun m => br_t (uk_refl 8) (by
    have k2 := uk_run0 (fun m k (w : Nat → Int32) => wX_copyFiles__safeNames_safeSizes_safeWords_nameFiles_fileSizes_fileWords_28 post x_changes x_saidCount x_time x_lastSlot x_sliceSteps x_latestPid x_greatestPid m (nI k) x_code x_codeLengths x_pids x_parents x_programs x_places x_states x_statuses x_stepCounts x_copyCounts x_wakeTimes x_registers x_pageCounts x_pageFrames x_held x_frameUsers x_frameWords x_openHolders x_openKinds x_openTargets x_openPlaces x_openModes x_pipeFirsts x_pipeCounts x_pipeWords (uk_fl x_nameFiles 0 x_safeNames 8) w x_fileWords x_safeNames x_safeSizes x_safeWords x_saidInts) (fun k => uk_fl x_fileSizes 0 x_safeSizes k) 8 (fun m => br_t (uk_refl 8) (by
      have k3 := uk_run0 (fun m k (w : Nat → Int32) => wX_copyFiles__safeNames_safeSizes_safeWords_nameFiles_fileSizes_fileWords_53 post x_changes x_saidCount x_time x_lastSlot x_sliceSteps x_latestPid x_greatestPid m (nI k) x_code x_codeLengths x_pids x_parents x_programs x_places x_states x_statuses x_stepCounts x_copyCounts x_wakeTimes x_registers x_pageCounts x_pageFrames x_held x_frameUsers x_frameWords x_openHolders x_openKinds x_openTargets x_openPlaces x_openModes x_pipeFirsts x_pipeCounts x_pipeWords (uk_fl x_nameFiles 0 x_safeNames 8) (uk_fl x_fileSizes 0 x_safeSizes 8) w x_safeNames x_safeSizes x_safeWords x_saidInts) (fun k => uk_fl x_fileWords 0 x_safeWords k) 128 (fun m => br_t (uk_refl 128) h) (fun m k hk ih => by
        obtain ⟨z, v, e⟩ := uk_lp 128 hk (by decide)
        refine br_f z ⟨v, v, ?_⟩
        rw [e]
        exact nm_r uk_fls0 (nm_r (nI_1 k) ih))
      rw [uk_fl0] at k3
      exact k3)) (fun m k hk ih => by
      obtain ⟨z, v, e⟩ := uk_lp 8 hk (by decide)
      refine br_f z ⟨v, v, ?_⟩
      rw [e]
      exact nm_r uk_fls0 (nm_r (nI_1 k) ih))
    rw [uk_fl0] at k2
    exact k2)) (fun m k hk ih => by
    obtain ⟨z, v, e⟩ := uk_lp 8 hk (by decide)
    refine br_f z ⟨v, v, ?_⟩
    rw [e]
    exact nm_r uk_fls0 (nm_r (nI_1 k) ih))
  rw [uk_fl0] at k1
  exact k1
theorem xk_crash {post : Int32 → SX → Prop} (h : post (nI (uk_cn (fun s => x_pids s ≠ 0) 8)) (0, x_saidCount, x_time, x_lastSlot, x_sliceSteps, x_latestPid, x_greatestPid, x_code, x_codeLengths, uk_fl x_pids 0 (fun _ => 0) 8, x_parents, x_programs, x_places, x_states, x_statuses, x_stepCounts, x_copyCounts, x_wakeTimes, x_registers, x_pageCounts, x_pageFrames, x_held, uk_fl x_frameUsers 0 (fun _ => 0) 20, x_frameWords, uk_fl x_openHolders 0 (fun _ => 0) 12, x_openKinds, x_openTargets, x_openPlaces, x_openModes, x_pipeFirsts, x_pipeCounts, x_pipeWords, uk_fl x_nameFiles 0 x_safeNames 8, uk_fl x_fileSizes 0 x_safeSizes 8, uk_fl x_fileWords 0 x_safeWords 128, x_safeNames, x_safeSizes, x_safeWords, x_saidInts)) : wpX_crash post (x_changes, x_saidCount, x_time, x_lastSlot, x_sliceSteps, x_latestPid, x_greatestPid, x_code, x_codeLengths, x_pids, x_parents, x_programs, x_places, x_states, x_statuses, x_stepCounts, x_copyCounts, x_wakeTimes, x_registers, x_pageCounts, x_pageFrames, x_held, x_frameUsers, x_frameWords, x_openHolders, x_openKinds, x_openTargets, x_openPlaces, x_openModes, x_pipeFirsts, x_pipeCounts, x_pipeWords, x_nameFiles, x_fileSizes, x_fileWords, x_safeNames, x_safeSizes, x_safeWords, x_saidInts) := by
  unfold wpX_crash
  refine xk_countProcesses ?_
  have k1 := uk_run0 (fun m k (w : Nat → Int32) => wX_crash_7 post (nI (uk_cn (fun s => x_pids s ≠ 0) 8)) x_changes x_saidCount x_time x_lastSlot x_sliceSteps x_latestPid x_greatestPid m (nI k) x_code x_codeLengths w x_parents x_programs x_places x_states x_statuses x_stepCounts x_copyCounts x_wakeTimes x_registers x_pageCounts x_pageFrames x_held x_frameUsers x_frameWords x_openHolders x_openKinds x_openTargets x_openPlaces x_openModes x_pipeFirsts x_pipeCounts x_pipeWords x_nameFiles x_fileSizes x_fileWords x_safeNames x_safeSizes x_safeWords x_saidInts) (fun k => uk_fl x_pids 0 (fun _ => 0) k) 8 (fun m => br_t (uk_refl 8) (by
    have k2 := uk_run0 (fun m k (w : Nat → Int32) => wX_crash_28 post (nI (uk_cn (fun s => x_pids s ≠ 0) 8)) x_changes x_saidCount x_time x_lastSlot x_sliceSteps x_latestPid x_greatestPid m (nI k) x_code x_codeLengths (uk_fl x_pids 0 (fun _ => 0) 8) x_parents x_programs x_places x_states x_statuses x_stepCounts x_copyCounts x_wakeTimes x_registers x_pageCounts x_pageFrames x_held x_frameUsers x_frameWords w x_openKinds x_openTargets x_openPlaces x_openModes x_pipeFirsts x_pipeCounts x_pipeWords x_nameFiles x_fileSizes x_fileWords x_safeNames x_safeSizes x_safeWords x_saidInts) (fun k => uk_fl x_openHolders 0 (fun _ => 0) k) 12 (fun m => br_t (uk_refl 12) (by
      have k3 := uk_run0 (fun m k (w : Nat → Int32) => wX_crash_49 post (nI (uk_cn (fun s => x_pids s ≠ 0) 8)) x_changes x_saidCount x_time x_lastSlot x_sliceSteps x_latestPid x_greatestPid m (nI k) x_code x_codeLengths (uk_fl x_pids 0 (fun _ => 0) 8) x_parents x_programs x_places x_states x_statuses x_stepCounts x_copyCounts x_wakeTimes x_registers x_pageCounts x_pageFrames x_held w x_frameWords (uk_fl x_openHolders 0 (fun _ => 0) 12) x_openKinds x_openTargets x_openPlaces x_openModes x_pipeFirsts x_pipeCounts x_pipeWords x_nameFiles x_fileSizes x_fileWords x_safeNames x_safeSizes x_safeWords x_saidInts) (fun k => uk_fl x_frameUsers 0 (fun _ => 0) k) 20 (fun m => br_t (uk_refl 20) (xk_copy2 h)) (fun m k hk ih => by
        obtain ⟨z, v, e⟩ := uk_lp 20 hk (by decide)
        refine br_f z ⟨v, ?_⟩
        rw [e]
        exact nm_r (uk_fls0 (g := fun _ => 0)) (nm_r (nI_1 k) ih))
      rw [uk_fl0] at k3
      exact k3)) (fun m k hk ih => by
      obtain ⟨z, v, e⟩ := uk_lp 12 hk (by decide)
      refine br_f z ⟨v, ?_⟩
      rw [e]
      exact nm_r (uk_fls0 (g := fun _ => 0)) (nm_r (nI_1 k) ih))
    rw [uk_fl0] at k2
    exact k2)) (fun m k hk ih => by
    obtain ⟨z, v, e⟩ := uk_lp 8 hk (by decide)
    refine br_f z ⟨v, ?_⟩
    rw [e]
    exact nm_r (uk_fls0 (g := fun _ => 0)) (nm_r (nI_1 k) ih))
  rw [uk_fl0] at k1
  exact k1
end
