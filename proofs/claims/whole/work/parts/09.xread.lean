/-! X's readers -/
theorem uk_lp {i : Nat} (N : Nat) (h : i < N) (hN : N < 2 ^ 31) : (¬ nI N ≤ nI i) ∧ vp_in (nI i) N ∧ (nI i).toNatClampNeg = i := ⟨nI_ge h hN, vp_in_nI h hN, nI_clamp (by omega)⟩
theorem uk_refl (a : Int32) : a ≤ a := Int32.le_refl a
theorem uk_inE {x : Int32} {n : Nat} {N : Int32} (hN : N = nI n) (hb : n < 2 ^ 31) : vp_in x n ↔ (¬ x < 0 ∧ ¬ N ≤ x) := by
  subst hN
  constructor
  · intro h
    obtain ⟨j, hj, rfl⟩ := vp_in_of h hb
    exact ⟨nI_pos (by omega), nI_ge hj hb⟩
  · rintro ⟨h1, h2⟩
    obtain ⟨j, hj, rfl⟩ := nI_of h1
    rw [nI_leI hb hj] at h2
    exact vp_in_nI (by omega) hb
section
variable {x_changes x_saidCount x_time x_lastSlot x_sliceSteps x_latestPid x_greatestPid : Int32} {x_code x_codeLengths x_pids x_parents x_programs x_places x_states x_statuses x_stepCounts x_copyCounts x_wakeTimes x_registers x_pageCounts x_pageFrames x_held x_frameUsers x_frameWords x_openHolders x_openKinds x_openTargets x_openPlaces x_openModes x_pipeFirsts x_pipeCounts x_pipeWords x_nameFiles x_fileSizes x_fileWords x_safeNames x_safeSizes x_safeWords x_saidInts : Nat → Int32}
theorem xk_isProgram {post : Int32 → Prop} {p : Int32} (ht : vp_in p 6 → post 1) (hf : ¬ vp_in p 6 → post 0) : wpX_isProgram post (x_changes, x_saidCount, x_time, x_lastSlot, x_sliceSteps, x_latestPid, x_greatestPid, x_code, x_codeLengths, x_pids, x_parents, x_programs, x_places, x_states, x_statuses, x_stepCounts, x_copyCounts, x_wakeTimes, x_registers, x_pageCounts, x_pageFrames, x_held, x_frameUsers, x_frameWords, x_openHolders, x_openKinds, x_openTargets, x_openPlaces, x_openModes, x_pipeFirsts, x_pipeCounts, x_pipeWords, x_nameFiles, x_fileSizes, x_fileWords, x_safeNames, x_safeSizes, x_safeWords, x_saidInts) p := by
  have e := uk_inE (x := p) (n := 6) (N := 6) rfl (by decide)
  unfold wpX_isProgram
  exact ⟨fun a => hf (fun z => (e.mp z).1 a), fun a => ⟨fun b => hf (fun z => (e.mp z).2 b), fun b => ht (e.mpr ⟨a, b⟩)⟩⟩
theorem xk_isRegister {post : Int32 → Prop} {p : Int32} (ht : vp_in p 4 → post 1) (hf : ¬ vp_in p 4 → post 0) : wpX_isRegister post (x_changes, x_saidCount, x_time, x_lastSlot, x_sliceSteps, x_latestPid, x_greatestPid, x_code, x_codeLengths, x_pids, x_parents, x_programs, x_places, x_states, x_statuses, x_stepCounts, x_copyCounts, x_wakeTimes, x_registers, x_pageCounts, x_pageFrames, x_held, x_frameUsers, x_frameWords, x_openHolders, x_openKinds, x_openTargets, x_openPlaces, x_openModes, x_pipeFirsts, x_pipeCounts, x_pipeWords, x_nameFiles, x_fileSizes, x_fileWords, x_safeNames, x_safeSizes, x_safeWords, x_saidInts) p := by
  have e := uk_inE (x := p) (n := 4) (N := 4) rfl (by decide)
  unfold wpX_isRegister
  exact ⟨fun a => hf (fun z => (e.mp z).1 a), fun a => ⟨fun b => hf (fun z => (e.mp z).2 b), fun b => ht (e.mpr ⟨a, b⟩)⟩⟩
theorem xk_isName {post : Int32 → Prop} {p : Int32} (ht : vp_in p 8 → post 1) (hf : ¬ vp_in p 8 → post 0) : wpX_isName post (x_changes, x_saidCount, x_time, x_lastSlot, x_sliceSteps, x_latestPid, x_greatestPid, x_code, x_codeLengths, x_pids, x_parents, x_programs, x_places, x_states, x_statuses, x_stepCounts, x_copyCounts, x_wakeTimes, x_registers, x_pageCounts, x_pageFrames, x_held, x_frameUsers, x_frameWords, x_openHolders, x_openKinds, x_openTargets, x_openPlaces, x_openModes, x_pipeFirsts, x_pipeCounts, x_pipeWords, x_nameFiles, x_fileSizes, x_fileWords, x_safeNames, x_safeSizes, x_safeWords, x_saidInts) p := by
  have e := uk_inE (x := p) (n := 8) (N := 8) rfl (by decide)
  unfold wpX_isName
  exact ⟨fun a => hf (fun z => (e.mp z).1 a), fun a => ⟨fun b => hf (fun z => (e.mp z).2 b), fun b => ht (e.mpr ⟨a, b⟩)⟩⟩
theorem xk_countProcesses {post : Int32 → Prop} (h : post (nI (uk_cn (fun s => x_pids s ≠ 0) 8))) : wpX_countProcesses post (x_changes, x_saidCount, x_time, x_lastSlot, x_sliceSteps, x_latestPid, x_greatestPid, x_code, x_codeLengths, x_pids, x_parents, x_programs, x_places, x_states, x_statuses, x_stepCounts, x_copyCounts, x_wakeTimes, x_registers, x_pageCounts, x_pageFrames, x_held, x_frameUsers, x_frameWords, x_openHolders, x_openKinds, x_openTargets, x_openPlaces, x_openModes, x_pipeFirsts, x_pipeCounts, x_pipeWords, x_nameFiles, x_fileSizes, x_fileWords, x_safeNames, x_safeSizes, x_safeWords, x_saidInts) := by
  unfold wpX_countProcesses
  refine uk_count (fun n i c => wX_countProcesses_4 post x_changes x_saidCount x_time x_lastSlot x_sliceSteps x_latestPid x_greatestPid x_code x_codeLengths x_pids x_parents x_programs x_places x_states x_statuses x_stepCounts x_copyCounts x_wakeTimes x_registers x_pageCounts x_pageFrames x_held x_frameUsers x_frameWords x_openHolders x_openKinds x_openTargets x_openPlaces x_openModes x_pipeFirsts x_pipeCounts x_pipeWords x_nameFiles x_fileSizes x_fileWords x_safeNames x_safeSizes x_safeWords x_saidInts n c (nI i)) (fun s => x_pids s ≠ 0) 8 (fun n => br_t (uk_refl 8) h) (fun n i c hi ht hf => ?_)
  obtain ⟨z, v, e⟩ := uk_lp 8 hi (by decide)
  refine br_f z ⟨v, ?_⟩
  rw [e]
  exact ⟨fun q => nm_r (nI_1 i) (hf (fun z => z q)), fun q => nm_r (nI_1 c) (nm_r (nI_1 i) (ht q))⟩
theorem xk_countFreeFrames {post : Int32 → Prop} (h : post (nI (uk_cn (fun f => x_frameUsers f = 0) 20))) : wpX_countFreeFrames post (x_changes, x_saidCount, x_time, x_lastSlot, x_sliceSteps, x_latestPid, x_greatestPid, x_code, x_codeLengths, x_pids, x_parents, x_programs, x_places, x_states, x_statuses, x_stepCounts, x_copyCounts, x_wakeTimes, x_registers, x_pageCounts, x_pageFrames, x_held, x_frameUsers, x_frameWords, x_openHolders, x_openKinds, x_openTargets, x_openPlaces, x_openModes, x_pipeFirsts, x_pipeCounts, x_pipeWords, x_nameFiles, x_fileSizes, x_fileWords, x_safeNames, x_safeSizes, x_safeWords, x_saidInts) := by
  unfold wpX_countFreeFrames
  refine uk_count (fun n i c => wX_countFreeFrames_4 post x_changes x_saidCount x_time x_lastSlot x_sliceSteps x_latestPid x_greatestPid x_code x_codeLengths x_pids x_parents x_programs x_places x_states x_statuses x_stepCounts x_copyCounts x_wakeTimes x_registers x_pageCounts x_pageFrames x_held x_frameUsers x_frameWords x_openHolders x_openKinds x_openTargets x_openPlaces x_openModes x_pipeFirsts x_pipeCounts x_pipeWords x_nameFiles x_fileSizes x_fileWords x_safeNames x_safeSizes x_safeWords x_saidInts n c (nI i)) (fun f => x_frameUsers f = 0) 20 (fun n => br_t (uk_refl 20) h) (fun n i c hi ht hf => ?_)
  obtain ⟨z, v, e⟩ := uk_lp 20 hi (by decide)
  refine br_f z ⟨v, ?_⟩
  rw [e]
  exact ⟨fun q => nm_r (nI_1 c) (nm_r (nI_1 i) (ht q)), fun q => nm_r (nI_1 i) (hf q)⟩
theorem xk_countOpens {post : Int32 → Prop} {k p : Int32} (h : post (nI (uk_cn (fun o => ¬ x_openHolders o ≤ 0 ∧ x_openKinds o = k ∧ x_openTargets o = p) 12))) : wpX_countOpens post (x_changes, x_saidCount, x_time, x_lastSlot, x_sliceSteps, x_latestPid, x_greatestPid, x_code, x_codeLengths, x_pids, x_parents, x_programs, x_places, x_states, x_statuses, x_stepCounts, x_copyCounts, x_wakeTimes, x_registers, x_pageCounts, x_pageFrames, x_held, x_frameUsers, x_frameWords, x_openHolders, x_openKinds, x_openTargets, x_openPlaces, x_openModes, x_pipeFirsts, x_pipeCounts, x_pipeWords, x_nameFiles, x_fileSizes, x_fileWords, x_safeNames, x_safeSizes, x_safeWords, x_saidInts) k p := by
  unfold wpX_countOpens
  refine uk_count (fun n i c => wX_countOpens_5 post k p x_changes x_saidCount x_time x_lastSlot x_sliceSteps x_latestPid x_greatestPid x_code x_codeLengths x_pids x_parents x_programs x_places x_states x_statuses x_stepCounts x_copyCounts x_wakeTimes x_registers x_pageCounts x_pageFrames x_held x_frameUsers x_frameWords x_openHolders x_openKinds x_openTargets x_openPlaces x_openModes x_pipeFirsts x_pipeCounts x_pipeWords x_nameFiles x_fileSizes x_fileWords x_safeNames x_safeSizes x_safeWords x_saidInts n c (nI i)) (fun o => ¬ x_openHolders o ≤ 0 ∧ x_openKinds o = k ∧ x_openTargets o = p) 12 (fun n => br_t (uk_refl 12) h) (fun n i c hi ht hf => ?_)
  obtain ⟨z, v, e⟩ := uk_lp 12 hi (by decide)
  refine br_f z ⟨v, ?_⟩
  rw [e]
  exact ⟨fun a => nm_r (nI_1 i) (hf (fun z => z.1 a)), fun a => ⟨v, fun b => ⟨v, fun d => nm_r (nI_1 c) (nm_r (nI_1 i) (ht ⟨a, b, d⟩)), fun d => nm_r (nI_1 i) (hf (fun z => d z.2.2))⟩, fun b => nm_r (nI_1 i) (hf (fun z => b z.2.1))⟩⟩
theorem xk_countOpenFiles {post : Int32 → Prop} (h : post (nI (uk_cn (fun o => ¬ x_openHolders o ≤ 0) 12))) : wpX_countOpenFiles post (x_changes, x_saidCount, x_time, x_lastSlot, x_sliceSteps, x_latestPid, x_greatestPid, x_code, x_codeLengths, x_pids, x_parents, x_programs, x_places, x_states, x_statuses, x_stepCounts, x_copyCounts, x_wakeTimes, x_registers, x_pageCounts, x_pageFrames, x_held, x_frameUsers, x_frameWords, x_openHolders, x_openKinds, x_openTargets, x_openPlaces, x_openModes, x_pipeFirsts, x_pipeCounts, x_pipeWords, x_nameFiles, x_fileSizes, x_fileWords, x_safeNames, x_safeSizes, x_safeWords, x_saidInts) := by
  unfold wpX_countOpenFiles
  refine uk_count (fun n i c => wX_countOpenFiles_4 post x_changes x_saidCount x_time x_lastSlot x_sliceSteps x_latestPid x_greatestPid x_code x_codeLengths x_pids x_parents x_programs x_places x_states x_statuses x_stepCounts x_copyCounts x_wakeTimes x_registers x_pageCounts x_pageFrames x_held x_frameUsers x_frameWords x_openHolders x_openKinds x_openTargets x_openPlaces x_openModes x_pipeFirsts x_pipeCounts x_pipeWords x_nameFiles x_fileSizes x_fileWords x_safeNames x_safeSizes x_safeWords x_saidInts n c (nI i)) (fun o => ¬ x_openHolders o ≤ 0) 12 (fun n => br_t (uk_refl 12) h) (fun n i c hi ht hf => ?_)
  obtain ⟨z, v, e⟩ := uk_lp 12 hi (by decide)
  refine br_f z ⟨v, ?_⟩
  rw [e]
  exact ⟨fun q => nm_r (nI_1 i) (hf (fun z => z q)), fun q => nm_r (nI_1 c) (nm_r (nI_1 i) (ht q))⟩
theorem xk_countNames {post : Int32 → Prop} {f : Int32} (h : post (nI (uk_cn (fun k => x_nameFiles k = f) 8))) : wpX_countNames post (x_changes, x_saidCount, x_time, x_lastSlot, x_sliceSteps, x_latestPid, x_greatestPid, x_code, x_codeLengths, x_pids, x_parents, x_programs, x_places, x_states, x_statuses, x_stepCounts, x_copyCounts, x_wakeTimes, x_registers, x_pageCounts, x_pageFrames, x_held, x_frameUsers, x_frameWords, x_openHolders, x_openKinds, x_openTargets, x_openPlaces, x_openModes, x_pipeFirsts, x_pipeCounts, x_pipeWords, x_nameFiles, x_fileSizes, x_fileWords, x_safeNames, x_safeSizes, x_safeWords, x_saidInts) f := by
  unfold wpX_countNames
  refine uk_count (fun n i c => wX_countNames_4 post f x_changes x_saidCount x_time x_lastSlot x_sliceSteps x_latestPid x_greatestPid x_code x_codeLengths x_pids x_parents x_programs x_places x_states x_statuses x_stepCounts x_copyCounts x_wakeTimes x_registers x_pageCounts x_pageFrames x_held x_frameUsers x_frameWords x_openHolders x_openKinds x_openTargets x_openPlaces x_openModes x_pipeFirsts x_pipeCounts x_pipeWords x_nameFiles x_fileSizes x_fileWords x_safeNames x_safeSizes x_safeWords x_saidInts n c (nI i)) (fun k => x_nameFiles k = f) 8 (fun n => br_t (uk_refl 8) h) (fun n i c hi ht hf => ?_)
  obtain ⟨z, v, e⟩ := uk_lp 8 hi (by decide)
  refine br_f z ⟨v, ?_⟩
  rw [e]
  exact ⟨fun q => nm_r (nI_1 c) (nm_r (nI_1 i) (ht q)), fun q => nm_r (nI_1 i) (hf q)⟩
theorem xk_findSlot {post : Int32 → Prop} {p : Int32} (h1 : p < 1 → post (-1)) (h2 : ¬ p < 1 → post (uk_ff (fun s => x_pids s = p) 8)) : wpX_findSlot post (x_changes, x_saidCount, x_time, x_lastSlot, x_sliceSteps, x_latestPid, x_greatestPid, x_code, x_codeLengths, x_pids, x_parents, x_programs, x_places, x_states, x_statuses, x_stepCounts, x_copyCounts, x_wakeTimes, x_registers, x_pageCounts, x_pageFrames, x_held, x_frameUsers, x_frameWords, x_openHolders, x_openKinds, x_openTargets, x_openPlaces, x_openModes, x_pipeFirsts, x_pipeCounts, x_pipeWords, x_nameFiles, x_fileSizes, x_fileWords, x_safeNames, x_safeSizes, x_safeWords, x_saidInts) p := by
  unfold wpX_findSlot
  refine ⟨fun a => ?_, fun a => h1 (Int32.not_le.mp a)⟩
  refine uk_first (fun n i => wX_findSlot_9 post p x_changes x_saidCount x_time x_lastSlot x_sliceSteps x_latestPid x_greatestPid x_code x_codeLengths x_pids x_parents x_programs x_places x_states x_statuses x_stepCounts x_copyCounts x_wakeTimes x_registers x_pageCounts x_pageFrames x_held x_frameUsers x_frameWords x_openHolders x_openKinds x_openTargets x_openPlaces x_openModes x_pipeFirsts x_pipeCounts x_pipeWords x_nameFiles x_fileSizes x_fileWords x_safeNames x_safeSizes x_safeWords x_saidInts n (nI i)) post (fun s => x_pids s = p) 8 (h2 (Int32.not_lt.mpr a)) (fun n h => br_t (uk_refl 8) h) (fun n i hi ht hf => ?_)
  obtain ⟨z, v, e⟩ := uk_lp 8 hi (by decide)
  refine br_f z ⟨v, ?_⟩
  rw [e]
  exact ⟨ht, fun q => nm_r (nI_1 i) (hf q)⟩
theorem xk_freeSlot {post : Int32 → Prop} (h : post (uk_ff (fun s => x_pids s = 0) 8)) : wpX_freeSlot post (x_changes, x_saidCount, x_time, x_lastSlot, x_sliceSteps, x_latestPid, x_greatestPid, x_code, x_codeLengths, x_pids, x_parents, x_programs, x_places, x_states, x_statuses, x_stepCounts, x_copyCounts, x_wakeTimes, x_registers, x_pageCounts, x_pageFrames, x_held, x_frameUsers, x_frameWords, x_openHolders, x_openKinds, x_openTargets, x_openPlaces, x_openModes, x_pipeFirsts, x_pipeCounts, x_pipeWords, x_nameFiles, x_fileSizes, x_fileWords, x_safeNames, x_safeSizes, x_safeWords, x_saidInts) := by
  unfold wpX_freeSlot
  refine uk_first (fun n i => wX_freeSlot_2 post x_changes x_saidCount x_time x_lastSlot x_sliceSteps x_latestPid x_greatestPid x_code x_codeLengths x_pids x_parents x_programs x_places x_states x_statuses x_stepCounts x_copyCounts x_wakeTimes x_registers x_pageCounts x_pageFrames x_held x_frameUsers x_frameWords x_openHolders x_openKinds x_openTargets x_openPlaces x_openModes x_pipeFirsts x_pipeCounts x_pipeWords x_nameFiles x_fileSizes x_fileWords x_safeNames x_safeSizes x_safeWords x_saidInts n (nI i)) post (fun s => x_pids s = 0) 8 h (fun n h => br_t (uk_refl 8) h) (fun n i hi ht hf => ?_)
  obtain ⟨z, v, e⟩ := uk_lp 8 hi (by decide)
  refine br_f z ⟨v, ?_⟩
  rw [e]
  exact ⟨ht, fun q => nm_r (nI_1 i) (hf q)⟩
theorem xk_freeFrame {post : Int32 → Prop} (h : post (uk_ff (fun f => x_frameUsers f = 0) 20)) : wpX_freeFrame post (x_changes, x_saidCount, x_time, x_lastSlot, x_sliceSteps, x_latestPid, x_greatestPid, x_code, x_codeLengths, x_pids, x_parents, x_programs, x_places, x_states, x_statuses, x_stepCounts, x_copyCounts, x_wakeTimes, x_registers, x_pageCounts, x_pageFrames, x_held, x_frameUsers, x_frameWords, x_openHolders, x_openKinds, x_openTargets, x_openPlaces, x_openModes, x_pipeFirsts, x_pipeCounts, x_pipeWords, x_nameFiles, x_fileSizes, x_fileWords, x_safeNames, x_safeSizes, x_safeWords, x_saidInts) := by
  unfold wpX_freeFrame
  refine uk_first (fun n i => wX_freeFrame_2 post x_changes x_saidCount x_time x_lastSlot x_sliceSteps x_latestPid x_greatestPid x_code x_codeLengths x_pids x_parents x_programs x_places x_states x_statuses x_stepCounts x_copyCounts x_wakeTimes x_registers x_pageCounts x_pageFrames x_held x_frameUsers x_frameWords x_openHolders x_openKinds x_openTargets x_openPlaces x_openModes x_pipeFirsts x_pipeCounts x_pipeWords x_nameFiles x_fileSizes x_fileWords x_safeNames x_safeSizes x_safeWords x_saidInts n (nI i)) post (fun f => x_frameUsers f = 0) 20 h (fun n h => br_t (uk_refl 20) h) (fun n i hi ht hf => ?_)
  obtain ⟨z, v, e⟩ := uk_lp 20 hi (by decide)
  refine br_f z ⟨v, ?_⟩
  rw [e]
  exact ⟨ht, fun q => nm_r (nI_1 i) (hf q)⟩
theorem xk_freeDescriptor {post : Int32 → Prop} {s j : Nat} (hs : s < 8) (hj : j ≤ 6) (h : post (uk_fg (fun d => x_held (6 * s + d) = -1) (6 - j) j)) : wpX_freeDescriptor post (x_changes, x_saidCount, x_time, x_lastSlot, x_sliceSteps, x_latestPid, x_greatestPid, x_code, x_codeLengths, x_pids, x_parents, x_programs, x_places, x_states, x_statuses, x_stepCounts, x_copyCounts, x_wakeTimes, x_registers, x_pageCounts, x_pageFrames, x_held, x_frameUsers, x_frameWords, x_openHolders, x_openKinds, x_openTargets, x_openPlaces, x_openModes, x_pipeFirsts, x_pipeCounts, x_pipeWords, x_nameFiles, x_fileSizes, x_fileWords, x_safeNames, x_safeSizes, x_safeWords, x_saidInts) (nI s) (nI j) := by
  unfold wpX_freeDescriptor
  refine ⟨6 - j + 1, uk_firstG (fun n i => wX_freeDescriptor_2 post (nI s) x_changes x_saidCount x_time x_lastSlot x_sliceSteps x_latestPid x_greatestPid x_code x_codeLengths x_pids x_parents x_programs x_places x_states x_statuses x_stepCounts x_copyCounts x_wakeTimes x_registers x_pageCounts x_pageFrames x_held x_frameUsers x_frameWords x_openHolders x_openKinds x_openTargets x_openPlaces x_openModes x_pipeFirsts x_pipeCounts x_pipeWords x_nameFiles x_fileSizes x_fileWords x_safeNames x_safeSizes x_safeWords x_saidInts n (nI i)) post (fun d => x_held (6 * s + d) = -1) 6 (fun n h => br_t (uk_refl 6) h) (fun n i hi ht hf => ?_) (6 - j) j (by omega) h⟩
  obtain ⟨z, v, e⟩ := uk_lp 6 hi (by decide)
  refine br_f z ?_
  rw [uk_m6, nI_add]
  refine ⟨vp_in_nI (by omega) (by omega), ?_⟩
  rw [nI_clamp (by omega)]
  exact ⟨ht, fun q => nm_r (nI_1 i) (hf q)⟩
theorem xk_freeOpen {post : Int32 → Prop} {j : Nat} (hj : j ≤ 12) (h : post (uk_fg (fun o => x_openHolders o = 0) (12 - j) j)) : wpX_freeOpen post (x_changes, x_saidCount, x_time, x_lastSlot, x_sliceSteps, x_latestPid, x_greatestPid, x_code, x_codeLengths, x_pids, x_parents, x_programs, x_places, x_states, x_statuses, x_stepCounts, x_copyCounts, x_wakeTimes, x_registers, x_pageCounts, x_pageFrames, x_held, x_frameUsers, x_frameWords, x_openHolders, x_openKinds, x_openTargets, x_openPlaces, x_openModes, x_pipeFirsts, x_pipeCounts, x_pipeWords, x_nameFiles, x_fileSizes, x_fileWords, x_safeNames, x_safeSizes, x_safeWords, x_saidInts) (nI j) := by
  unfold wpX_freeOpen
  refine ⟨12 - j + 1, uk_firstG (fun n i => wX_freeOpen_2 post x_changes x_saidCount x_time x_lastSlot x_sliceSteps x_latestPid x_greatestPid x_code x_codeLengths x_pids x_parents x_programs x_places x_states x_statuses x_stepCounts x_copyCounts x_wakeTimes x_registers x_pageCounts x_pageFrames x_held x_frameUsers x_frameWords x_openHolders x_openKinds x_openTargets x_openPlaces x_openModes x_pipeFirsts x_pipeCounts x_pipeWords x_nameFiles x_fileSizes x_fileWords x_safeNames x_safeSizes x_safeWords x_saidInts n (nI i)) post (fun o => x_openHolders o = 0) 12 (fun n h => br_t (uk_refl 12) h) (fun n i hi ht hf => ?_) (12 - j) j (by omega) h⟩
  obtain ⟨z, v, e⟩ := uk_lp 12 hi (by decide)
  refine br_f z ⟨v, ?_⟩
  rw [e]
  exact ⟨ht, fun q => nm_r (nI_1 i) (hf q)⟩
theorem xk_hasChild {post : Int32 → Prop} {s : Nat} (hs : s < 8) (ht : (∃ k, k < 8 ∧ x_pids k ≠ 0 ∧ x_parents k = x_pids s) → post 1) (hf : (∀ k, k < 8 → ¬ (x_pids k ≠ 0 ∧ x_parents k = x_pids s)) → post 0) : wpX_hasChild post (x_changes, x_saidCount, x_time, x_lastSlot, x_sliceSteps, x_latestPid, x_greatestPid, x_code, x_codeLengths, x_pids, x_parents, x_programs, x_places, x_states, x_statuses, x_stepCounts, x_copyCounts, x_wakeTimes, x_registers, x_pageCounts, x_pageFrames, x_held, x_frameUsers, x_frameWords, x_openHolders, x_openKinds, x_openTargets, x_openPlaces, x_openModes, x_pipeFirsts, x_pipeCounts, x_pipeWords, x_nameFiles, x_fileSizes, x_fileWords, x_safeNames, x_safeSizes, x_safeWords, x_saidInts) (nI s) := by
  unfold wpX_hasChild
  obtain ⟨_, vs, es⟩ := uk_lp 8 hs (by decide)
  refine uk_any (fun n i => wX_hasChild_2 post (nI s) x_changes x_saidCount x_time x_lastSlot x_sliceSteps x_latestPid x_greatestPid x_code x_codeLengths x_pids x_parents x_programs x_places x_states x_statuses x_stepCounts x_copyCounts x_wakeTimes x_registers x_pageCounts x_pageFrames x_held x_frameUsers x_frameWords x_openHolders x_openKinds x_openTargets x_openPlaces x_openModes x_pipeFirsts x_pipeCounts x_pipeWords x_nameFiles x_fileSizes x_fileWords x_safeNames x_safeSizes x_safeWords x_saidInts n (nI i)) (fun k => x_pids k ≠ 0 ∧ x_parents k = x_pids s) 8 (fun h n => br_t (uk_refl 8) (hf h)) (fun n i hi h => ?_) (fun n i hi h ih => ?_)
  · obtain ⟨z, v, e⟩ := uk_lp 8 hi (by decide)
    refine br_f z ⟨v, ?_⟩
    rw [e, es]
    exact br_f h.1 ⟨v, vs, br_t h.2 (ht ⟨i, hi, h⟩)⟩
  · obtain ⟨z, v, e⟩ := uk_lp 8 hi (by decide)
    refine br_f z ⟨v, ?_⟩
    rw [e, es]
    exact ⟨fun _ => nm_r (nI_1 i) ih, fun a => ⟨v, vs, fun b => absurd ⟨a, b⟩ h, fun _ => nm_r (nI_1 i) ih⟩⟩
theorem xk_isFreePipe {post : Int32 → Prop} {p : Int32} (ht : (∀ o, o < 12 → ¬ (¬ x_openHolders o ≤ 0 ∧ x_openKinds o ≠ 1 ∧ x_openTargets o = p)) → post 1) (hf : (∃ o, o < 12 ∧ ¬ x_openHolders o ≤ 0 ∧ x_openKinds o ≠ 1 ∧ x_openTargets o = p) → post 0) : wpX_isFreePipe post (x_changes, x_saidCount, x_time, x_lastSlot, x_sliceSteps, x_latestPid, x_greatestPid, x_code, x_codeLengths, x_pids, x_parents, x_programs, x_places, x_states, x_statuses, x_stepCounts, x_copyCounts, x_wakeTimes, x_registers, x_pageCounts, x_pageFrames, x_held, x_frameUsers, x_frameWords, x_openHolders, x_openKinds, x_openTargets, x_openPlaces, x_openModes, x_pipeFirsts, x_pipeCounts, x_pipeWords, x_nameFiles, x_fileSizes, x_fileWords, x_safeNames, x_safeSizes, x_safeWords, x_saidInts) p := by
  unfold wpX_isFreePipe
  refine uk_any (fun n i => wX_isFreePipe_2 post p x_changes x_saidCount x_time x_lastSlot x_sliceSteps x_latestPid x_greatestPid x_code x_codeLengths x_pids x_parents x_programs x_places x_states x_statuses x_stepCounts x_copyCounts x_wakeTimes x_registers x_pageCounts x_pageFrames x_held x_frameUsers x_frameWords x_openHolders x_openKinds x_openTargets x_openPlaces x_openModes x_pipeFirsts x_pipeCounts x_pipeWords x_nameFiles x_fileSizes x_fileWords x_safeNames x_safeSizes x_safeWords x_saidInts n (nI i)) (fun o => ¬ x_openHolders o ≤ 0 ∧ x_openKinds o ≠ 1 ∧ x_openTargets o = p) 12 (fun h n => br_t (uk_refl 12) (ht h)) (fun n i hi h => ?_) (fun n i hi h ih => ?_)
  · obtain ⟨z, v, e⟩ := uk_lp 12 hi (by decide)
    refine br_f z ⟨v, ?_⟩
    rw [e]
    exact br_f h.1 ⟨v, br_f h.2.1 ⟨v, br_t h.2.2 (hf ⟨i, hi, h⟩)⟩⟩
  · obtain ⟨z, v, e⟩ := uk_lp 12 hi (by decide)
    refine br_f z ⟨v, ?_⟩
    rw [e]
    exact ⟨fun _ => nm_r (nI_1 i) ih, fun a => ⟨v, fun _ => nm_r (nI_1 i) ih, fun b => ⟨v, fun c => absurd ⟨a, b, c⟩ h, fun _ => nm_r (nI_1 i) ih⟩⟩⟩
theorem xk_isFreeFile {post : Int32 → Prop} {f : Int32} (ht : (∀ k, k < 8 → x_nameFiles k ≠ f) → (∀ o, o < 12 → ¬ (¬ x_openHolders o ≤ 0 ∧ x_openKinds o = 1 ∧ x_openTargets o = f)) → post 1) (hf : ((∃ k, k < 8 ∧ x_nameFiles k = f) ∨ (∃ o, o < 12 ∧ ¬ x_openHolders o ≤ 0 ∧ x_openKinds o = 1 ∧ x_openTargets o = f)) → post 0) : wpX_isFreeFile post (x_changes, x_saidCount, x_time, x_lastSlot, x_sliceSteps, x_latestPid, x_greatestPid, x_code, x_codeLengths, x_pids, x_parents, x_programs, x_places, x_states, x_statuses, x_stepCounts, x_copyCounts, x_wakeTimes, x_registers, x_pageCounts, x_pageFrames, x_held, x_frameUsers, x_frameWords, x_openHolders, x_openKinds, x_openTargets, x_openPlaces, x_openModes, x_pipeFirsts, x_pipeCounts, x_pipeWords, x_nameFiles, x_fileSizes, x_fileWords, x_safeNames, x_safeSizes, x_safeWords, x_saidInts) f := by
  unfold wpX_isFreeFile
  refine uk_any (fun n i => wX_isFreeFile_2 post f x_changes x_saidCount x_time x_lastSlot x_sliceSteps x_latestPid x_greatestPid x_code x_codeLengths x_pids x_parents x_programs x_places x_states x_statuses x_stepCounts x_copyCounts x_wakeTimes x_registers x_pageCounts x_pageFrames x_held x_frameUsers x_frameWords x_openHolders x_openKinds x_openTargets x_openPlaces x_openModes x_pipeFirsts x_pipeCounts x_pipeWords x_nameFiles x_fileSizes x_fileWords x_safeNames x_safeSizes x_safeWords x_saidInts n (nI i)) (fun k => x_nameFiles k = f) 8 (fun hN n => br_t (uk_refl 8) ?_) (fun n i hi h => ?_) (fun n i hi h ih => ?_)
  · refine uk_any (fun n i => wX_isFreeFile_28 post f x_changes x_saidCount x_time x_lastSlot x_sliceSteps x_latestPid x_greatestPid x_code x_codeLengths x_pids x_parents x_programs x_places x_states x_statuses x_stepCounts x_copyCounts x_wakeTimes x_registers x_pageCounts x_pageFrames x_held x_frameUsers x_frameWords x_openHolders x_openKinds x_openTargets x_openPlaces x_openModes x_pipeFirsts x_pipeCounts x_pipeWords x_nameFiles x_fileSizes x_fileWords x_safeNames x_safeSizes x_safeWords x_saidInts n (nI i)) (fun o => ¬ x_openHolders o ≤ 0 ∧ x_openKinds o = 1 ∧ x_openTargets o = f) 12 (fun h n => br_t (uk_refl 12) (ht hN h)) (fun n i hi h => ?_) (fun n i hi h ih => ?_)
    · obtain ⟨z, v, e⟩ := uk_lp 12 hi (by decide)
      refine br_f z ⟨v, ?_⟩
      rw [e]
      exact br_f h.1 ⟨v, br_t h.2.1 ⟨v, br_t h.2.2 (hf (Or.inr ⟨i, hi, h⟩))⟩⟩
    · obtain ⟨z, v, e⟩ := uk_lp 12 hi (by decide)
      refine br_f z ⟨v, ?_⟩
      rw [e]
      exact ⟨fun _ => nm_r (nI_1 i) ih, fun a => ⟨v, fun b => ⟨v, fun c => absurd ⟨a, b, c⟩ h, fun _ => nm_r (nI_1 i) ih⟩, fun _ => nm_r (nI_1 i) ih⟩⟩
  · obtain ⟨z, v, e⟩ := uk_lp 8 hi (by decide)
    refine br_f z ⟨v, ?_⟩
    rw [e]
    exact br_t h (hf (Or.inl ⟨i, hi, h⟩))
  · obtain ⟨z, v, e⟩ := uk_lp 8 hi (by decide)
    refine br_f z ⟨v, ?_⟩
    rw [e]
    exact br_f h (nm_r (nI_1 i) ih)
end
