/-! readers of both sides over the same tables -/
def uk_fb (g : Nat → Nat) : Nat → Int32
  | 0 => 16
  | i + 1 => uk_fb g i - nI (g i)
def uk_pfr (ki T : Nat → Int32) (p : Int32) : Prop := ∀ o, o < 12 → ¬ ((ki o = 2 ∨ ki o = 3) ∧ T o = p)
theorem uk_okp {P zo H oh ok ki T om mo op : Nat → Int32} (hO : uk_Ok oh ok ki T om mo op) (hh : uk_Ho P zo H oh) {o : Nat} (ho : o < 12) : (¬ oh o ≤ 0 ∧ ok o ≠ 1) ↔ (ki o = 2 ∨ ki o = 3) := by
  rw [(uk_ohp hh ho).2.1]
  rcases (hO o ho).2 with ⟨a, b⟩ | ⟨a, b, c⟩
  · rw [b]; exact ⟨fun z => absurd a z.1, fun z => by rcases z with z | z <;> exact absurd z (by decide)⟩
  · rw [b]
    rcases c with c | c | c
    · rw [c.1]; exact ⟨fun z => absurd rfl z.2, fun z => by rcases z with z | z <;> exact absurd z (by decide)⟩
    · rw [c.1]; exact ⟨fun _ => Or.inl rfl, fun _ => ⟨a, by decide⟩⟩
    · rw [c.1]; exact ⟨fun _ => Or.inr rfl, fun _ => ⟨a, by decide⟩⟩
section
variable {x_changes x_saidCount x_time x_lastSlot x_sliceSteps x_latestPid x_greatestPid : Int32} {x_code x_codeLengths x_pids x_parents x_programs x_places x_states x_statuses x_stepCounts x_copyCounts x_wakeTimes x_registers x_pageCounts x_pageFrames x_held x_frameUsers x_frameWords x_openHolders x_openKinds x_openTargets x_openPlaces x_openModes x_pipeFirsts x_pipeCounts x_pipeWords x_nameFiles x_fileSizes x_fileWords x_safeNames x_safeSizes x_safeWords x_saidInts : Nat → Int32} {y_time y_last y_lastPid y_did y_killed : Int32} {y_ops y_as y_bs y_pages y_wake y_zombie y_blocked y_memory y_frame y_kind y_mode y_pipe y_size y_safeSize y_said : Nat → Int32}
theorem xk_isFree {post : Int32 → Prop} {f : Nat} (hO : uk_Ok x_openHolders x_openKinds y_kind x_openTargets x_openModes y_mode x_openPlaces) (hh : uk_Ho x_pids y_zombie x_held x_openHolders) (ht : uk_fre x_nameFiles y_kind x_openTargets f → post 1) (hf : ¬ uk_fre x_nameFiles y_kind x_openTargets f → post 0) : wpX_isFreeFile post (x_changes, x_saidCount, x_time, x_lastSlot, x_sliceSteps, x_latestPid, x_greatestPid, x_code, x_codeLengths, x_pids, x_parents, x_programs, x_places, x_states, x_statuses, x_stepCounts, x_copyCounts, x_wakeTimes, x_registers, x_pageCounts, x_pageFrames, x_held, x_frameUsers, x_frameWords, x_openHolders, x_openKinds, x_openTargets, x_openPlaces, x_openModes, x_pipeFirsts, x_pipeCounts, x_pipeWords, x_nameFiles, x_fileSizes, x_fileWords, x_safeNames, x_safeSizes, x_safeWords, x_saidInts) (nI f) := by
  refine xk_isFreeFile (fun a b => ht ⟨a, fun o ho z => ?_⟩) (fun a => hf (fun z => ?_))
  · have c := (uk_okk hO hh ho (k := 1) (by decide)).mpr z.1
    exact b o ho ⟨c.1, c.2, z.2⟩
  · rcases a with ⟨k, hk, e⟩ | ⟨o, ho, e1, e2, e3⟩
    · exact z.1 k hk e
    · exact z.2 o ho ⟨(uk_okk hO hh ho (k := 1) (by decide)).mp ⟨e1, e2⟩, e3⟩
theorem xk_freeFile {post : Int32 → Prop} (hO : uk_Ok x_openHolders x_openKinds y_kind x_openTargets x_openModes y_mode x_openPlaces) (hh : uk_Ho x_pids y_zombie x_held x_openHolders) (h : post (uk_ff (fun f => uk_fre x_nameFiles y_kind x_openTargets f) 8)) : wpX_freeFile post (x_changes, x_saidCount, x_time, x_lastSlot, x_sliceSteps, x_latestPid, x_greatestPid, x_code, x_codeLengths, x_pids, x_parents, x_programs, x_places, x_states, x_statuses, x_stepCounts, x_copyCounts, x_wakeTimes, x_registers, x_pageCounts, x_pageFrames, x_held, x_frameUsers, x_frameWords, x_openHolders, x_openKinds, x_openTargets, x_openPlaces, x_openModes, x_pipeFirsts, x_pipeCounts, x_pipeWords, x_nameFiles, x_fileSizes, x_fileWords, x_safeNames, x_safeSizes, x_safeWords, x_saidInts) := by
  unfold wpX_freeFile
  refine uk_first (fun n i => wX_freeFile_2 post x_changes x_saidCount x_time x_lastSlot x_sliceSteps x_latestPid x_greatestPid x_code x_codeLengths x_pids x_parents x_programs x_places x_states x_statuses x_stepCounts x_copyCounts x_wakeTimes x_registers x_pageCounts x_pageFrames x_held x_frameUsers x_frameWords x_openHolders x_openKinds x_openTargets x_openPlaces x_openModes x_pipeFirsts x_pipeCounts x_pipeWords x_nameFiles x_fileSizes x_fileWords x_safeNames x_safeSizes x_safeWords x_saidInts n (nI i)) post (fun f => uk_fre x_nameFiles y_kind x_openTargets f) 8 h (fun n h => br_t (uk_refl 8) h) (fun n i hi ht hf => ?_)
  obtain ⟨z, v, e⟩ := uk_lp 8 hi (by decide)
  exact br_f z (xk_isFree hO hh (fun a => br_f (by decide) (ht a)) (fun a => br_t rfl (nm_r (nI_1 i) (hf a))))
theorem xk_countFreeFiles {post : Int32 → Prop} (hO : uk_Ok x_openHolders x_openKinds y_kind x_openTargets x_openModes y_mode x_openPlaces) (hh : uk_Ho x_pids y_zombie x_held x_openHolders) (h : post (nI (uk_cn (fun f => uk_fre x_nameFiles y_kind x_openTargets f) 8))) : wpX_countFreeFiles post (x_changes, x_saidCount, x_time, x_lastSlot, x_sliceSteps, x_latestPid, x_greatestPid, x_code, x_codeLengths, x_pids, x_parents, x_programs, x_places, x_states, x_statuses, x_stepCounts, x_copyCounts, x_wakeTimes, x_registers, x_pageCounts, x_pageFrames, x_held, x_frameUsers, x_frameWords, x_openHolders, x_openKinds, x_openTargets, x_openPlaces, x_openModes, x_pipeFirsts, x_pipeCounts, x_pipeWords, x_nameFiles, x_fileSizes, x_fileWords, x_safeNames, x_safeSizes, x_safeWords, x_saidInts) := by
  unfold wpX_countFreeFiles
  refine uk_count (fun n i c => wX_countFreeFiles_4 post x_changes x_saidCount x_time x_lastSlot x_sliceSteps x_latestPid x_greatestPid x_code x_codeLengths x_pids x_parents x_programs x_places x_states x_statuses x_stepCounts x_copyCounts x_wakeTimes x_registers x_pageCounts x_pageFrames x_held x_frameUsers x_frameWords x_openHolders x_openKinds x_openTargets x_openPlaces x_openModes x_pipeFirsts x_pipeCounts x_pipeWords x_nameFiles x_fileSizes x_fileWords x_safeNames x_safeSizes x_safeWords x_saidInts n c (nI i)) (fun f => uk_fre x_nameFiles y_kind x_openTargets f) 8 (fun n => br_t (uk_refl 8) h) (fun n i c hi ht hf => ?_)
  obtain ⟨z, v, e⟩ := uk_lp 8 hi (by decide)
  exact br_f z (xk_isFree hO hh (fun a => br_f (by decide) (nm_r (nI_1 c) (nm_r (nI_1 i) (ht a)))) (fun a => br_t rfl (nm_r (nI_1 i) (hf a))))
theorem xk_isPipe {post : Int32 → Prop} {p : Int32} (hO : uk_Ok x_openHolders x_openKinds y_kind x_openTargets x_openModes y_mode x_openPlaces) (hh : uk_Ho x_pids y_zombie x_held x_openHolders) (ht : uk_pfr y_kind x_openTargets p → post 1) (hf : ¬ uk_pfr y_kind x_openTargets p → post 0) : wpX_isFreePipe post (x_changes, x_saidCount, x_time, x_lastSlot, x_sliceSteps, x_latestPid, x_greatestPid, x_code, x_codeLengths, x_pids, x_parents, x_programs, x_places, x_states, x_statuses, x_stepCounts, x_copyCounts, x_wakeTimes, x_registers, x_pageCounts, x_pageFrames, x_held, x_frameUsers, x_frameWords, x_openHolders, x_openKinds, x_openTargets, x_openPlaces, x_openModes, x_pipeFirsts, x_pipeCounts, x_pipeWords, x_nameFiles, x_fileSizes, x_fileWords, x_safeNames, x_safeSizes, x_safeWords, x_saidInts) p := by
  refine xk_isFreePipe (fun a => ht (fun o ho z => ?_)) (fun a => hf (fun z => ?_))
  · have c := (uk_okp hO hh ho).mpr z.1
    exact a o ho ⟨c.1, c.2, z.2⟩
  · obtain ⟨o, ho, e1, e2, e3⟩ := a
    exact z o ho ⟨(uk_okp hO hh ho).mp ⟨e1, e2⟩, e3⟩
theorem xk_freePipe {post : Int32 → Prop} (hO : uk_Ok x_openHolders x_openKinds y_kind x_openTargets x_openModes y_mode x_openPlaces) (hh : uk_Ho x_pids y_zombie x_held x_openHolders) (h : post (uk_ff (fun p => uk_pfr y_kind x_openTargets (nI p)) 4)) : wpX_freePipe post (x_changes, x_saidCount, x_time, x_lastSlot, x_sliceSteps, x_latestPid, x_greatestPid, x_code, x_codeLengths, x_pids, x_parents, x_programs, x_places, x_states, x_statuses, x_stepCounts, x_copyCounts, x_wakeTimes, x_registers, x_pageCounts, x_pageFrames, x_held, x_frameUsers, x_frameWords, x_openHolders, x_openKinds, x_openTargets, x_openPlaces, x_openModes, x_pipeFirsts, x_pipeCounts, x_pipeWords, x_nameFiles, x_fileSizes, x_fileWords, x_safeNames, x_safeSizes, x_safeWords, x_saidInts) := by
  unfold wpX_freePipe
  refine uk_first (fun n i => wX_freePipe_2 post x_changes x_saidCount x_time x_lastSlot x_sliceSteps x_latestPid x_greatestPid x_code x_codeLengths x_pids x_parents x_programs x_places x_states x_statuses x_stepCounts x_copyCounts x_wakeTimes x_registers x_pageCounts x_pageFrames x_held x_frameUsers x_frameWords x_openHolders x_openKinds x_openTargets x_openPlaces x_openModes x_pipeFirsts x_pipeCounts x_pipeWords x_nameFiles x_fileSizes x_fileWords x_safeNames x_safeSizes x_safeWords x_saidInts n (nI i)) post (fun p => uk_pfr y_kind x_openTargets (nI p)) 4 h (fun n h => br_t (uk_refl 4) h) (fun n i hi ht hf => ?_)
  obtain ⟨z, v, e⟩ := uk_lp 4 hi (by decide)
  exact br_f z (xk_isPipe hO hh (fun a => br_f (by decide) (ht a)) (fun a => br_t rfl (nm_r (nI_1 i) (hf a))))
theorem xk_countPipes {post : Int32 → Prop} (hO : uk_Ok x_openHolders x_openKinds y_kind x_openTargets x_openModes y_mode x_openPlaces) (hh : uk_Ho x_pids y_zombie x_held x_openHolders) (h : post (nI (uk_cn (fun p => ¬ uk_pfr y_kind x_openTargets (nI p)) 4))) : wpX_countPipes post (x_changes, x_saidCount, x_time, x_lastSlot, x_sliceSteps, x_latestPid, x_greatestPid, x_code, x_codeLengths, x_pids, x_parents, x_programs, x_places, x_states, x_statuses, x_stepCounts, x_copyCounts, x_wakeTimes, x_registers, x_pageCounts, x_pageFrames, x_held, x_frameUsers, x_frameWords, x_openHolders, x_openKinds, x_openTargets, x_openPlaces, x_openModes, x_pipeFirsts, x_pipeCounts, x_pipeWords, x_nameFiles, x_fileSizes, x_fileWords, x_safeNames, x_safeSizes, x_safeWords, x_saidInts) := by
  unfold wpX_countPipes
  refine uk_count (fun n i c => wX_countPipes_4 post x_changes x_saidCount x_time x_lastSlot x_sliceSteps x_latestPid x_greatestPid x_code x_codeLengths x_pids x_parents x_programs x_places x_states x_statuses x_stepCounts x_copyCounts x_wakeTimes x_registers x_pageCounts x_pageFrames x_held x_frameUsers x_frameWords x_openHolders x_openKinds x_openTargets x_openPlaces x_openModes x_pipeFirsts x_pipeCounts x_pipeWords x_nameFiles x_fileSizes x_fileWords x_safeNames x_safeSizes x_safeWords x_saidInts n c (nI i)) (fun p => ¬ uk_pfr y_kind x_openTargets (nI p)) 4 (fun n => br_t (uk_refl 4) h) (fun n i c hi ht hf => ?_)
  obtain ⟨z, v, e⟩ := uk_lp 4 hi (by decide)
  exact br_f z (xk_isPipe hO hh (fun a => br_f (by decide) (nm_r (nI_1 i) (hf (fun w => w a)))) (fun a => br_t rfl (nm_r (nI_1 c) (nm_r (nI_1 i) (ht a)))))
theorem xk_countFreeBlocks {post : Int32 → Prop} (hO : uk_Ok x_openHolders x_openKinds y_kind x_openTargets x_openModes y_mode x_openPlaces) (hh : uk_Ho x_pids y_zombie x_held x_openHolders) (hF : uk_Fi x_nameFiles y_kind x_openTargets x_fileSizes y_size) (h : post (uk_fb (fun f => ((y_size f).toNatClampNeg + 3) / 4) 8)) : wpX_countFreeBlocks post (x_changes, x_saidCount, x_time, x_lastSlot, x_sliceSteps, x_latestPid, x_greatestPid, x_code, x_codeLengths, x_pids, x_parents, x_programs, x_places, x_states, x_statuses, x_stepCounts, x_copyCounts, x_wakeTimes, x_registers, x_pageCounts, x_pageFrames, x_held, x_frameUsers, x_frameWords, x_openHolders, x_openKinds, x_openTargets, x_openPlaces, x_openModes, x_pipeFirsts, x_pipeCounts, x_pipeWords, x_nameFiles, x_fileSizes, x_fileWords, x_safeNames, x_safeSizes, x_safeWords, x_saidInts) := by
  unfold wpX_countFreeBlocks
  refine uk_run0 (fun m i (x : Int32) => wX_countFreeBlocks_5 post x_changes x_saidCount x_time x_lastSlot x_sliceSteps x_latestPid x_greatestPid x_code x_codeLengths x_pids x_parents x_programs x_places x_states x_statuses x_stepCounts x_copyCounts x_wakeTimes x_registers x_pageCounts x_pageFrames x_held x_frameUsers x_frameWords x_openHolders x_openKinds x_openTargets x_openPlaces x_openModes x_pipeFirsts x_pipeCounts x_pipeWords x_nameFiles x_fileSizes x_fileWords x_safeNames x_safeSizes x_safeWords x_saidInts m x (nI i)) (fun i => uk_fb (fun f => ((y_size f).toNatClampNeg + 3) / 4) i) 8 (fun m => br_t (uk_refl 8) h) (fun m i hi ih => ?_)
  obtain ⟨z, v, e⟩ := uk_lp 8 hi (by decide)
  obtain ⟨h1, h2, h3⟩ := hF.2 i hi
  obtain ⟨n, hn, en⟩ := vp_in_of h1 (by decide)
  have ih2 : wX_countFreeBlocks_5 post x_changes x_saidCount x_time x_lastSlot x_sliceSteps x_latestPid x_greatestPid x_code x_codeLengths x_pids x_parents x_programs x_places x_states x_statuses x_stepCounts x_copyCounts x_wakeTimes x_registers x_pageCounts x_pageFrames x_held x_frameUsers x_frameWords x_openHolders x_openKinds x_openTargets x_openPlaces x_openModes x_pipeFirsts x_pipeCounts x_pipeWords x_nameFiles x_fileSizes x_fileWords x_safeNames x_safeSizes x_safeWords x_saidInts m (uk_fb (fun f => ((y_size f).toNatClampNeg + 3) / 4) i - nI ((n + 3) / 4)) (nI (i + 1)) := by
    have ih3 := ih
    show wX_countFreeBlocks_5 post x_changes x_saidCount x_time x_lastSlot x_sliceSteps x_latestPid x_greatestPid x_code x_codeLengths x_pids x_parents x_programs x_places x_states x_statuses x_stepCounts x_copyCounts x_wakeTimes x_registers x_pageCounts x_pageFrames x_held x_frameUsers x_frameWords x_openHolders x_openKinds x_openTargets x_openPlaces x_openModes x_pipeFirsts x_pipeCounts x_pipeWords x_nameFiles x_fileSizes x_fileWords x_safeNames x_safeSizes x_safeWords x_saidInts m (uk_fb (fun f => ((y_size f).toNatClampNeg + 3) / 4) i - nI ((n + 3) / 4)) (nI (i + 1))
    have e4 : uk_fb (fun f => ((y_size f).toNatClampNeg + 3) / 4) (i + 1) = uk_fb (fun f => ((y_size f).toNatClampNeg + 3) / 4) i - nI ((n + 3) / 4) := by
      show uk_fb (fun f => ((y_size f).toNatClampNeg + 3) / 4) i - nI (((y_size i).toNatClampNeg + 3) / 4) = _
      rw [en, nI_clamp (by omega)]
    rw [e4] at ih3
    exact ih3
  refine br_f z (xk_isFree hO hh (fun a => ?_) (fun a => ?_))
  · have e0 : n = 0 := by
      have := h2 a
      rw [en] at this
      exact (nI_eq (b := 0) (by omega) (by decide)).mp this
    subst e0
    rw [show nI ((0 + 3) / 4) = 0 from rfl, Int32.sub_zero] at ih2
    exact br_f (by decide) (nm_r (nI_1 i) ih2)
  · refine br_t rfl ⟨v, by decide, ?_⟩
    have e1 : (x_fileSizes i + 4 - 1) / 4 = nI ((n + 3) / 4) := by
      rw [h3 a, en]
      have a1 : nI n + 4 - 1 = nI (n + 3) := (congrArg (· - 1) (nI_add n 4)).trans ((pk_sub (b := 1) (by omega)).trans (congrArg nI (by omega)))
      rw [a1]
      exact pk_div (d := 4) (by omega) (by decide) (by decide)
    rw [e, e1]
    exact nm_e (nm_r (nI_1 i) ih2)
theorem yk_isPipe {post : Int32 → Prop} {p : Int32} (ht : ¬ uk_pfr y_kind x_openTargets p → post 1) (hf : uk_pfr y_kind x_openTargets p → post 0) : wpY_isPipe post (x_changes, y_time, y_last, y_lastPid, y_did, x_greatestPid, x_latestPid, x_saidCount, y_killed, y_ops, y_as, y_bs, x_codeLengths, x_pids, x_parents, x_programs, x_places, x_statuses, x_stepCounts, x_copyCounts, y_pages, y_wake, y_zombie, y_blocked, x_registers, y_memory, y_frame, x_held, y_kind, x_openTargets, y_mode, x_openPlaces, x_pipeCounts, y_pipe, x_nameFiles, y_size, x_fileWords, x_safeNames, y_safeSize, x_safeWords, y_said) p := by
  unfold wpY_isPipe
  refine yk_hasEnd (fun a => br_f (by decide) (ht (fun z => ?_))) (fun a => br_t rfl (yk_hasEnd (fun b => br_f (by decide) (ht (fun z => ?_))) (fun b => br_t rfl (hf (fun o ho z => ?_)))))
  · obtain ⟨o, ho, e1, e2⟩ := a
    exact z o ho ⟨Or.inl e1, e2⟩
  · obtain ⟨o, ho, e1, e2⟩ := b
    exact z o ho ⟨Or.inr e1, e2⟩
  · rcases z.1 with y | y
    · exact a o ho ⟨y, z.2⟩
    · exact b o ho ⟨y, z.2⟩
theorem yk_freePipe {post : Int32 → Prop} (h : post (uk_ff (fun p => uk_pfr y_kind x_openTargets (nI p)) 4)) : wpY_freePipe post (x_changes, y_time, y_last, y_lastPid, y_did, x_greatestPid, x_latestPid, x_saidCount, y_killed, y_ops, y_as, y_bs, x_codeLengths, x_pids, x_parents, x_programs, x_places, x_statuses, x_stepCounts, x_copyCounts, y_pages, y_wake, y_zombie, y_blocked, x_registers, y_memory, y_frame, x_held, y_kind, x_openTargets, y_mode, x_openPlaces, x_pipeCounts, y_pipe, x_nameFiles, y_size, x_fileWords, x_safeNames, y_safeSize, x_safeWords, y_said) := by
  unfold wpY_freePipe
  refine uk_first (fun n i => wY_freePipe_2 post x_changes y_time y_last y_lastPid y_did x_greatestPid x_latestPid x_saidCount y_killed y_ops y_as y_bs x_codeLengths x_pids x_parents x_programs x_places x_statuses x_stepCounts x_copyCounts y_pages y_wake y_zombie y_blocked x_registers y_memory y_frame x_held y_kind x_openTargets y_mode x_openPlaces x_pipeCounts y_pipe x_nameFiles y_size x_fileWords x_safeNames y_safeSize x_safeWords y_said n (nI i)) post (fun p => uk_pfr y_kind x_openTargets (nI p)) 4 h (fun n h => br_t (uk_refl 4) h) (fun n i hi ht hf => ?_)
  obtain ⟨z, v, e⟩ := uk_lp 4 hi (by decide)
  exact br_f z (yk_isPipe (fun a => br_f (by decide) (nm_r (nI_1 i) (hf a))) (fun a => br_t rfl (ht a)))
theorem yk_freeBlocks {post : Int32 → Prop} (hF : uk_Fi x_nameFiles y_kind x_openTargets x_fileSizes y_size) (h : post (uk_fb (fun f => ((y_size f).toNatClampNeg + 3) / 4) 8)) : wpY_freeBlocks post (x_changes, y_time, y_last, y_lastPid, y_did, x_greatestPid, x_latestPid, x_saidCount, y_killed, y_ops, y_as, y_bs, x_codeLengths, x_pids, x_parents, x_programs, x_places, x_statuses, x_stepCounts, x_copyCounts, y_pages, y_wake, y_zombie, y_blocked, x_registers, y_memory, y_frame, x_held, y_kind, x_openTargets, y_mode, x_openPlaces, x_pipeCounts, y_pipe, x_nameFiles, y_size, x_fileWords, x_safeNames, y_safeSize, x_safeWords, y_said) := by
  unfold wpY_freeBlocks
  refine uk_run0 (fun m i (x : Int32) => wY_freeBlocks_5 post x_changes y_time y_last y_lastPid y_did x_greatestPid x_latestPid x_saidCount y_killed y_ops y_as y_bs x_codeLengths x_pids x_parents x_programs x_places x_statuses x_stepCounts x_copyCounts y_pages y_wake y_zombie y_blocked x_registers y_memory y_frame x_held y_kind x_openTargets y_mode x_openPlaces x_pipeCounts y_pipe x_nameFiles y_size x_fileWords x_safeNames y_safeSize x_safeWords y_said m x (nI i)) (fun i => uk_fb (fun f => ((y_size f).toNatClampNeg + 3) / 4) i) 8 (fun m => br_t (uk_refl 8) h) (fun m i hi ih => ?_)
  obtain ⟨z, v, e⟩ := uk_lp 8 hi (by decide)
  obtain ⟨n, hn, en⟩ := vp_in_of (hF.2 i hi).1 (by decide)
  refine br_f z ⟨v, by decide, ?_⟩
  have e1 : (y_size i + 3) / 4 = nI (((y_size i).toNatClampNeg + 3) / 4) := by
    rw [en, nI_clamp (by omega)]
    have a1 : nI n + 3 = nI (n + 3) := nI_add n 3
    rw [a1]
    exact pk_div (d := 4) (by omega) (by decide) (by decide)
  rw [e, e1]
  exact nm_e (nm_r (nI_1 i) ih)
theorem xk_leastZombie {post : Int32 → Prop} {s : Nat} (hs : s < 8) (h : post (uk_be x_pids (fun c => x_pids c ≠ 0 ∧ x_states c = 3 ∧ x_parents c = x_pids s) 8)) : wpX_leastZombie post (x_changes, x_saidCount, x_time, x_lastSlot, x_sliceSteps, x_latestPid, x_greatestPid, x_code, x_codeLengths, x_pids, x_parents, x_programs, x_places, x_states, x_statuses, x_stepCounts, x_copyCounts, x_wakeTimes, x_registers, x_pageCounts, x_pageFrames, x_held, x_frameUsers, x_frameWords, x_openHolders, x_openKinds, x_openTargets, x_openPlaces, x_openModes, x_pipeFirsts, x_pipeCounts, x_pipeWords, x_nameFiles, x_fileSizes, x_fileWords, x_safeNames, x_safeSizes, x_safeWords, x_saidInts) (nI s) := by
  unfold wpX_leastZombie
  obtain ⟨_, vs, es⟩ := uk_lp 8 hs (by decide)
  refine uk_run0 (fun m i (x : Int32) => wX_leastZombie_4 post (nI s) x_changes x_saidCount x_time x_lastSlot x_sliceSteps x_latestPid x_greatestPid x_code x_codeLengths x_pids x_parents x_programs x_places x_states x_statuses x_stepCounts x_copyCounts x_wakeTimes x_registers x_pageCounts x_pageFrames x_held x_frameUsers x_frameWords x_openHolders x_openKinds x_openTargets x_openPlaces x_openModes x_pipeFirsts x_pipeCounts x_pipeWords x_nameFiles x_fileSizes x_fileWords x_safeNames x_safeSizes x_safeWords x_saidInts m x (nI i)) (fun i => uk_be x_pids (fun c => x_pids c ≠ 0 ∧ x_states c = 3 ∧ x_parents c = x_pids s) i) 8 (fun m => br_t (uk_refl 8) h) (fun m i hi ih => ?_)
  obtain ⟨z, v, e⟩ := uk_lp 8 hi (by decide)
  refine br_f z ⟨v, ?_⟩
  rw [e, es]
  by_cases hZ : x_pids i ≠ 0 ∧ x_states i = 3 ∧ x_parents i = x_pids s
  · refine br_f hZ.1 ⟨v, br_t hZ.2.1 ⟨v, vs, br_t hZ.2.2 ?_⟩⟩
    refine br_f (by decide) ?_
    rw [e]
    refine ⟨fun a => ?_, fun a => ?_⟩
    · rw [uk_bet ⟨hZ, Or.inl a⟩] at ih
      exact nm_r (nI_1 i) ih
    · rcases uk_bes x_pids (fun c => x_pids c ≠ 0 ∧ x_states c = 3 ∧ x_parents c = x_pids s) i with ⟨b, _⟩ | ⟨j, hj, b, _⟩
      · exact absurd b a
      · refine ⟨v, by rw [b]; exact vp_in_nI (by omega) (by decide), fun d => ?_, fun d => ?_⟩
        · rw [uk_bef (fun w => by
            rcases w.2 with w | w
            · exact a w
            · exact Int32.not_lt.mpr d w)] at ih
          exact nm_r (nI_1 i) ih
        · rw [uk_bet ⟨hZ, Or.inr (Int32.not_le.mp d)⟩] at ih
          exact nm_r (nI_1 i) ih
  · rw [uk_bef (fun w => hZ w.1)] at ih
    have fin : wX_leastZombie_48 post (wX_leastZombie_4 post (nI s) x_changes x_saidCount x_time x_lastSlot x_sliceSteps x_latestPid x_greatestPid x_code x_codeLengths x_pids x_parents x_programs x_places x_states x_statuses x_stepCounts x_copyCounts x_wakeTimes x_registers x_pageCounts x_pageFrames x_held x_frameUsers x_frameWords x_openHolders x_openKinds x_openTargets x_openPlaces x_openModes x_pipeFirsts x_pipeCounts x_pipeWords x_nameFiles x_fileSizes x_fileWords x_safeNames x_safeSizes x_safeWords x_saidInts m) (nI s) (uk_be x_pids (fun c => x_pids c ≠ 0 ∧ x_states c = 3 ∧ x_parents c = x_pids s) i) (nI i) x_changes x_saidCount x_time x_lastSlot x_sliceSteps x_latestPid x_greatestPid x_code x_codeLengths x_pids x_parents x_programs x_places x_states x_statuses x_stepCounts x_copyCounts x_wakeTimes x_registers x_pageCounts x_pageFrames x_held x_frameUsers x_frameWords x_openHolders x_openKinds x_openTargets x_openPlaces x_openModes x_pipeFirsts x_pipeCounts x_pipeWords x_nameFiles x_fileSizes x_fileWords x_safeNames x_safeSizes x_safeWords x_saidInts := br_t rfl (nm_r (nI_1 i) ih)
    exact ⟨fun _ => fin, fun a => ⟨v, fun b => ⟨v, vs, fun c => absurd ⟨a, b, c⟩ hZ, fun _ => fin⟩, fun _ => fin⟩⟩
end
