/-! the calls, third part -/
section
variable {x_changes x_saidCount x_time x_lastSlot x_sliceSteps x_latestPid x_greatestPid : Int32} {x_code x_codeLengths x_pids x_parents x_programs x_places x_states x_statuses x_stepCounts x_copyCounts x_wakeTimes x_registers x_pageCounts x_pageFrames x_held x_frameUsers x_frameWords x_openHolders x_openKinds x_openTargets x_openPlaces x_openModes x_pipeFirsts x_pipeCounts x_pipeWords x_nameFiles x_fileSizes x_fileWords x_safeNames x_safeSizes x_safeWords x_saidInts : Nat → Int32} {y_time y_last y_lastPid y_did y_killed : Int32} {y_ops y_as y_bs y_pages y_wake y_zombie y_blocked y_memory y_frame y_kind y_mode y_pipe y_size y_safeSize y_said : Nat → Int32}
theorem uk_call3 {t b s : Nat} (A : uk_All t b x_changes x_saidCount x_time x_lastSlot x_sliceSteps x_latestPid x_greatestPid x_code x_codeLengths x_pids x_parents x_programs x_places x_states x_statuses x_stepCounts x_copyCounts x_wakeTimes x_registers x_pageCounts x_pageFrames x_held x_frameUsers x_frameWords x_openHolders x_openKinds x_openTargets x_openPlaces x_openModes x_pipeFirsts x_pipeCounts x_pipeWords x_nameFiles x_fileSizes x_fileWords x_safeNames x_safeSizes x_safeWords x_saidInts y_time y_last y_lastPid y_did y_killed y_ops y_as y_bs y_pages y_wake y_zombie y_blocked y_memory y_frame y_kind y_mode y_pipe y_size y_safeSize y_said) (hs : s < 8) (hp : x_pids s ≠ 0) (hz : y_zombie s = 0) (hb : y_blocked s = 0) :
  ∃ u' v', (∀ post : SX → Prop, post u' → wpX_doCall post (x_changes, x_saidCount, x_time, x_lastSlot, x_sliceSteps, x_latestPid, x_greatestPid, x_code, x_codeLengths, x_pids, x_parents, x_programs, x_places, x_states, x_statuses, x_stepCounts, x_copyCounts, x_wakeTimes, x_registers, x_pageCounts, x_pageFrames, x_held, x_frameUsers, x_frameWords, x_openHolders, x_openKinds, x_openTargets, x_openPlaces, x_openModes, x_pipeFirsts, x_pipeCounts, x_pipeWords, x_nameFiles, x_fileSizes, x_fileWords, x_safeNames, x_safeSizes, x_safeWords, x_saidInts) (nI s) 3) ∧ (∀ post : SY → Prop, post v' → wY_call_127 post (nI s) 3 (x_registers (4 * s)) (x_registers (4 * s + 1)) x_changes y_time y_last y_lastPid y_did x_greatestPid x_latestPid x_saidCount 0 y_ops y_as y_bs x_codeLengths x_pids x_parents x_programs x_places x_statuses x_stepCounts x_copyCounts y_pages y_wake y_zombie y_blocked x_registers y_memory y_frame x_held y_kind x_openTargets y_mode x_openPlaces x_pipeCounts y_pipe x_nameFiles y_size x_fileWords x_safeNames y_safeSize x_safeWords y_said) ∧ uk_R y_time t (b + 1) u' v' := by
  obtain ⟨_, vs, es⟩ := uk_lp 8 hs (by decide)
  obtain ⟨c, ec, hc⟩ := uk_aC A
  have A0 : uk_All t b x_changes x_saidCount x_time x_lastSlot x_sliceSteps x_latestPid x_greatestPid x_code x_codeLengths x_pids x_parents x_programs x_places x_states x_statuses x_stepCounts x_copyCounts x_wakeTimes x_registers x_pageCounts x_pageFrames x_held x_frameUsers x_frameWords x_openHolders x_openKinds x_openTargets x_openPlaces x_openModes x_pipeFirsts x_pipeCounts x_pipeWords x_nameFiles x_fileSizes x_fileWords x_safeNames x_safeSizes x_safeWords x_saidInts y_time y_last y_lastPid y_did 0 y_ops y_as y_bs y_pages y_wake y_zombie y_blocked y_memory y_frame y_kind y_mode y_pipe y_size y_safeSize y_said := A
  have hH := uk_aHd A s hs hp hz
  have hP : ∀ s, s < 8 → ¬ x_pids s < 0 := fun s hs => (uk_aPs A s hs).1
  have hXn : ∀ post : SX → Prop, (x_registers (4 * s) < 1 ∨ uk_ff (fun i => x_pids i = x_registers (4 * s)) 8 = -1) → post (x_changes, x_saidCount, x_time, x_lastSlot, x_sliceSteps, x_latestPid, x_greatestPid, x_code, x_codeLengths, x_pids, x_parents, x_programs, x_places, x_states, x_statuses, x_stepCounts, x_copyCounts, x_wakeTimes, upd x_registers (4 * s) (-1), x_pageCounts, x_pageFrames, x_held, x_frameUsers, x_frameWords, x_openHolders, x_openKinds, x_openTargets, x_openPlaces, x_openModes, x_pipeFirsts, x_pipeCounts, x_pipeWords, x_nameFiles, x_fileSizes, x_fileWords, x_safeNames, x_safeSizes, x_safeWords, x_saidInts) → wpX_doCall post (x_changes, x_saidCount, x_time, x_lastSlot, x_sliceSteps, x_latestPid, x_greatestPid, x_code, x_codeLengths, x_pids, x_parents, x_programs, x_places, x_states, x_statuses, x_stepCounts, x_copyCounts, x_wakeTimes, x_registers, x_pageCounts, x_pageFrames, x_held, x_frameUsers, x_frameWords, x_openHolders, x_openKinds, x_openTargets, x_openPlaces, x_openModes, x_pipeFirsts, x_pipeCounts, x_pipeWords, x_nameFiles, x_fileSizes, x_fileWords, x_safeNames, x_safeSizes, x_safeWords, x_saidInts) (nI s) 3 := fun post hn h => by
    unfold wpX_doCall
    refine nm_r (uk_m4 s) ⟨vp_in_nI (by omega) (by decide), nm_r (uk_rg0 x_registers hs) ⟨uk_rgv hs, nm_r (uk_rg1 x_registers hs) (br_f (by decide) (br_f (by decide) (br_f (by decide) (br_f (by decide) (br_f (by decide) (br_t rfl ?_))))))⟩⟩
    unfold wpX_killProcess
    refine xk_findSlot (fun _ => br_t rfl (xk_tail0 hs ec hc h)) (fun a => ?_)
    rcases hn with hn | hn
    · exact absurd hn a
    · rw [hn]
      exact br_t rfl (xk_tail0 hs ec hc h)
  have hYn : ∀ post : SY → Prop, (x_registers (4 * s) < 1 ∨ uk_ff (fun i => x_pids i = x_registers (4 * s)) 8 = -1) → post (x_changes, y_time, y_last, y_lastPid, y_did, x_greatestPid, x_latestPid, x_saidCount, 0, y_ops, y_as, y_bs, x_codeLengths, x_pids, x_parents, x_programs, x_places, x_statuses, x_stepCounts, x_copyCounts, y_pages, y_wake, y_zombie, y_blocked, upd x_registers (4 * s) (-1), y_memory, y_frame, x_held, y_kind, x_openTargets, y_mode, x_openPlaces, x_pipeCounts, y_pipe, x_nameFiles, y_size, x_fileWords, x_safeNames, y_safeSize, x_safeWords, y_said) → wY_call_127 post (nI s) 3 (x_registers (4 * s)) (x_registers (4 * s + 1)) x_changes y_time y_last y_lastPid y_did x_greatestPid x_latestPid x_saidCount 0 y_ops y_as y_bs x_codeLengths x_pids x_parents x_programs x_places x_statuses x_stepCounts x_copyCounts y_pages y_wake y_zombie y_blocked x_registers y_memory y_frame x_held y_kind x_openTargets y_mode x_openPlaces x_pipeCounts y_pipe x_nameFiles y_size x_fileWords x_safeNames y_safeSize x_safeWords y_said := fun post hn h => by
    unfold wY_call_127
    refine br_f (by decide) ?_
    unfold wpY_family
    refine br_f (by decide) (br_f (by decide) (br_t rfl (yk_slotOf (fun _ => br_t (by decide) (yk_tail0 hs h)) (fun a => ?_))))
    rcases hn with hn | hn
    · exact absurd hn a
    · rw [hn]
      exact br_t (by decide) (yk_tail0 hs h)
  by_cases hlt : x_registers (4 * s) < 1
  · exact ⟨_, _, fun post h => hXn post (Or.inl hlt) h, fun post h => hYn post (Or.inl hlt) h, uk_end0 (g := -1) A hs hp hz hb⟩
  rcases uk_slot (P := x_pids) hlt with hn | ⟨e, he, f, f1, f2⟩
  · exact ⟨_, _, fun post h => hXn post (Or.inr hn) h, fun post h => hYn post (Or.inr hn) h, uk_end0 (g := -1) A hs hp hz hb⟩
  obtain ⟨_, ve, ee⟩ := uk_lp 8 he (by decide)
  have hX1 : ∀ post : SX → Prop, (((x_states e = 3 → wX_doCall_344 post (nI (4 * s)) (-1) x_changes x_saidCount x_time x_lastSlot x_sliceSteps x_latestPid x_greatestPid x_code x_codeLengths x_pids x_parents x_programs x_places x_states x_statuses x_stepCounts x_copyCounts x_wakeTimes x_registers x_pageCounts x_pageFrames x_held x_frameUsers x_frameWords x_openHolders x_openKinds x_openTargets x_openPlaces x_openModes x_pipeFirsts x_pipeCounts x_pipeWords x_nameFiles x_fileSizes x_fileWords x_safeNames x_safeSizes x_safeWords x_saidInts) ∧ (¬ x_states e = 3 → wpX_endProcess (fun u => match u with | (x_changes, x_saidCount, x_time, x_lastSlot, x_sliceSteps, x_latestPid, x_greatestPid, x_code, x_codeLengths, x_pids, x_parents, x_programs, x_places, x_states, x_statuses, x_stepCounts, x_copyCounts, x_wakeTimes, x_registers, x_pageCounts, x_pageFrames, x_held, x_frameUsers, x_frameWords, x_openHolders, x_openKinds, x_openTargets, x_openPlaces, x_openModes, x_pipeFirsts, x_pipeCounts, x_pipeWords, x_nameFiles, x_fileSizes, x_fileWords, x_safeNames, x_safeSizes, x_safeWords, x_saidInts) => wX_doCall_344 post (nI (4 * s)) 0 x_changes x_saidCount x_time x_lastSlot x_sliceSteps x_latestPid x_greatestPid x_code x_codeLengths x_pids x_parents x_programs x_places x_states x_statuses x_stepCounts x_copyCounts x_wakeTimes x_registers x_pageCounts x_pageFrames x_held x_frameUsers x_frameWords x_openHolders x_openKinds x_openTargets x_openPlaces x_openModes x_pipeFirsts x_pipeCounts x_pipeWords x_nameFiles x_fileSizes x_fileWords x_safeNames x_safeSizes x_safeWords x_saidInts) (x_changes, x_saidCount, x_time, x_lastSlot, x_sliceSteps, x_latestPid, x_greatestPid, x_code, x_codeLengths, x_pids, x_parents, x_programs, x_places, x_states, x_statuses, x_stepCounts, x_copyCounts, x_wakeTimes, x_registers, x_pageCounts, x_pageFrames, x_held, x_frameUsers, x_frameWords, x_openHolders, x_openKinds, x_openTargets, x_openPlaces, x_openModes, x_pipeFirsts, x_pipeCounts, x_pipeWords, x_nameFiles, x_fileSizes, x_fileWords, x_safeNames, x_safeSizes, x_safeWords, x_saidInts) (nI e) (-1)))) → wpX_doCall post (x_changes, x_saidCount, x_time, x_lastSlot, x_sliceSteps, x_latestPid, x_greatestPid, x_code, x_codeLengths, x_pids, x_parents, x_programs, x_places, x_states, x_statuses, x_stepCounts, x_copyCounts, x_wakeTimes, x_registers, x_pageCounts, x_pageFrames, x_held, x_frameUsers, x_frameWords, x_openHolders, x_openKinds, x_openTargets, x_openPlaces, x_openModes, x_pipeFirsts, x_pipeCounts, x_pipeWords, x_nameFiles, x_fileSizes, x_fileWords, x_safeNames, x_safeSizes, x_safeWords, x_saidInts) (nI s) 3 := fun post h => by
    unfold wpX_doCall
    refine nm_r (uk_m4 s) ⟨vp_in_nI (by omega) (by decide), nm_r (uk_rg0 x_registers hs) ⟨uk_rgv hs, nm_r (uk_rg1 x_registers hs) (br_f (by decide) (br_f (by decide) (br_f (by decide) (br_f (by decide) (br_f (by decide) (br_t rfl ?_))))))⟩⟩
    unfold wpX_killProcess
    refine xk_findSlot (fun w => absurd w hlt) (fun _ => ?_)
    rw [f]
    refine br_f (uk_ne1 (by omega)) ⟨ve, ?_⟩
    rw [ee]
    exact h
  have hY1 : ∀ post : SY → Prop, ((y_zombie e = 0 → ((nI e = nI s → wpY_kill (fun u => match u with | (y_changes, y_time, y_last, y_lastPid, y_did, y_greatest, y_stepped, y_says, y_killed, y_ops, y_as, y_bs, y_length, y_pid, y_parent, y_program, y_pc, y_status, y_steps, y_copies, y_pages, y_wake, y_zombie, y_blocked, y_reg, y_memory, y_frame, y_descriptor, y_kind, y_of, y_mode, y_place, y_piped, y_pipe, y_names, y_size, y_words, y_safeNames, y_safeSize, y_safeWords, y_said) => wY_call_169 post (nI s) 0 y_changes y_time y_last y_lastPid y_did y_greatest y_stepped y_says y_killed y_ops y_as y_bs y_length y_pid y_parent y_program y_pc y_status y_steps y_copies y_pages y_wake y_zombie y_blocked y_reg y_memory y_frame y_descriptor y_kind y_of y_mode y_place y_piped y_pipe y_names y_size y_words y_safeNames y_safeSize y_safeWords y_said) (x_changes, y_time, y_last, y_lastPid, y_did, x_greatestPid, x_latestPid, x_saidCount, 0, y_ops, y_as, y_bs, x_codeLengths, x_pids, x_parents, x_programs, x_places, x_statuses, x_stepCounts, x_copyCounts, y_pages, y_wake, y_zombie, y_blocked, upd x_registers (4 * s) 0, y_memory, y_frame, x_held, y_kind, x_openTargets, y_mode, x_openPlaces, x_pipeCounts, y_pipe, x_nameFiles, y_size, x_fileWords, x_safeNames, y_safeSize, x_safeWords, y_said) (nI e)) ∧ (¬ nI e = nI s → wpY_exit (fun u => match u with | (y_changes, y_time, y_last, y_lastPid, y_did, y_greatest, y_stepped, y_says, y_killed, y_ops, y_as, y_bs, y_length, y_pid, y_parent, y_program, y_pc, y_status, y_steps, y_copies, y_pages, y_wake, y_zombie, y_blocked, y_reg, y_memory, y_frame, y_descriptor, y_kind, y_of, y_mode, y_place, y_piped, y_pipe, y_names, y_size, y_words, y_safeNames, y_safeSize, y_safeWords, y_said) => wY_call_169 post (nI s) 0 y_changes y_time y_last y_lastPid y_did y_greatest y_stepped y_says y_killed y_ops y_as y_bs y_length y_pid y_parent y_program y_pc y_status y_steps y_copies y_pages y_wake y_zombie y_blocked y_reg y_memory y_frame y_descriptor y_kind y_of y_mode y_place y_piped y_pipe y_names y_size y_words y_safeNames y_safeSize y_safeWords y_said) (x_changes, y_time, y_last, y_lastPid, y_did, x_greatestPid, x_latestPid, x_saidCount, 0, y_ops, y_as, y_bs, x_codeLengths, x_pids, x_parents, x_programs, x_places, x_statuses, x_stepCounts, x_copyCounts, y_pages, y_wake, y_zombie, y_blocked, upd x_registers (4 * s) 0, y_memory, y_frame, x_held, y_kind, x_openTargets, y_mode, x_openPlaces, x_pipeCounts, y_pipe, x_nameFiles, y_size, x_fileWords, x_safeNames, y_safeSize, x_safeWords, y_said) (nI e) (-1)))) ∧ (¬ y_zombie e = 0 → wY_call_169 post (nI s) (-1) x_changes y_time y_last y_lastPid y_did x_greatestPid x_latestPid x_saidCount 0 y_ops y_as y_bs x_codeLengths x_pids x_parents x_programs x_places x_statuses x_stepCounts x_copyCounts y_pages y_wake y_zombie y_blocked x_registers y_memory y_frame x_held y_kind x_openTargets y_mode x_openPlaces x_pipeCounts y_pipe x_nameFiles y_size x_fileWords x_safeNames y_safeSize x_safeWords y_said)) → wY_call_127 post (nI s) 3 (x_registers (4 * s)) (x_registers (4 * s + 1)) x_changes y_time y_last y_lastPid y_did x_greatestPid x_latestPid x_saidCount 0 y_ops y_as y_bs x_codeLengths x_pids x_parents x_programs x_places x_statuses x_stepCounts x_copyCounts y_pages y_wake y_zombie y_blocked x_registers y_memory y_frame x_held y_kind x_openTargets y_mode x_openPlaces x_pipeCounts y_pipe x_nameFiles y_size x_fileWords x_safeNames y_safeSize x_safeWords y_said := fun post h => by
    unfold wY_call_127
    refine br_f (by decide) ?_
    unfold wpY_family
    refine br_f (by decide) (br_f (by decide) (br_t rfl (yk_slotOf (fun w => absurd w hlt) (fun _ => ?_))))
    rw [f]
    refine br_f (nI_pos (by omega)) ⟨ve, ?_⟩
    rw [ee, uk_4m, nI_clamp (show 4 * s < 2 ^ 31 by omega)]
    exact ⟨fun a => ⟨vp_in_nI (by omega) (by decide), nm_e (h.1 a)⟩, h.2⟩
  by_cases hze : y_zombie e = 0
  · have hst : ¬ x_states e = 3 := fun w => absurd (((uk_zst (uk_aPs A) he f2).mp w).symm.trans hze) (by decide)
    obtain ⟨P', Q', zo', oh', ki', sz', fu', a1, a2, a3, a4, a5, a6, a7, a8, a9, a10, a11⟩ := uk_exit (x_changes := x_changes) (x_saidCount := x_saidCount) (x_time := x_time) (x_lastSlot := x_lastSlot) (x_sliceSteps := x_sliceSteps) (x_latestPid := x_latestPid) (x_greatestPid := x_greatestPid) (x_code := x_code) (x_codeLengths := x_codeLengths) (x_pids := x_pids) (x_parents := x_parents) (x_programs := x_programs) (x_places := x_places) (x_states := x_states) (x_statuses := x_statuses) (x_stepCounts := x_stepCounts) (x_copyCounts := x_copyCounts) (x_wakeTimes := x_wakeTimes) (x_registers := x_registers) (x_pageCounts := x_pageCounts) (x_pageFrames := x_pageFrames) (x_held := x_held) (x_frameUsers := x_frameUsers) (x_frameWords := x_frameWords) (x_openHolders := x_openHolders) (x_openKinds := x_openKinds) (x_openTargets := x_openTargets) (x_openPlaces := x_openPlaces) (x_openModes := x_openModes) (x_pipeFirsts := x_pipeFirsts) (x_pipeCounts := x_pipeCounts) (x_pipeWords := x_pipeWords) (x_nameFiles := x_nameFiles) (x_fileSizes := x_fileSizes) (x_fileWords := x_fileWords) (x_safeNames := x_safeNames) (x_safeSizes := x_safeSizes) (x_safeWords := x_safeWords) (x_saidInts := x_saidInts) (y_time := y_time) (y_last := y_last) (y_lastPid := y_lastPid) (y_did := y_did) (y_killed := 0) (y_ops := y_ops) (y_as := y_as) (y_bs := y_bs) (y_pages := y_pages) (y_wake := y_wake) (y_zombie := y_zombie) (y_blocked := y_blocked) (y_memory := y_memory) (y_frame := y_frame) (y_kind := y_kind) (y_mode := y_mode) (y_pipe := y_pipe) (y_size := y_size) (y_safeSize := y_safeSize) (y_said := y_said) (y_reg := upd x_registers (4 * s) 0) (-1) he f2 hze (uk_aPs A) (uk_aMe A) (uk_aFu A) (uk_aHd A) (uk_aHo A) (uk_aOk A) (uk_aFi A) (uk_aSc A) (uk_aWk A)
    have hr := uk_run1 A hs hp hz hb
    have hWk1 := uk_WkC (R' := upd x_registers (4 * s) 0) (Nat.le_refl t) a9 (P' := P') (zo' := zo') (bl' := upd y_blocked e 0) (G' := x_programs) (L' := x_places) (wt' := x_wakeTimes) (wk' := y_wake) (H' := uk_fl x_held (6 * e) (fun _ => -1) 6) (ki' := ki') (fun s' hs' hp' hz' => by
      by_cases w : s' = s
      · subst w
        by_cases w2 : s' = e
        · subst w2
          rcases (a1 s' hs').2.2.2.2.2.2 hp' with ⟨q1, _⟩ | ⟨_, _, q⟩
          · exact absurd (q1.symm.trans hz') (by decide)
          · have e3 : upd x_states s' 3 s' = 3 := pk_us
            rw [e3] at q
            rcases q with ⟨_, q⟩ | ⟨_, q⟩ <;> exact absurd q (by decide)
        · exact Or.inl ⟨(pk_un w2).trans hr.1, hr.2⟩
      · exact Or.inr ⟨hp', hz', rfl, rfl, rfl, rfl, rfl, pk_un (by omega), fun _ _ => rfl, fun _ _ _ _ _ _ => rfl⟩)
    have A' : uk_All t b x_changes x_saidCount x_time x_lastSlot x_sliceSteps x_latestPid x_greatestPid x_code x_codeLengths P' Q' x_programs x_places (upd x_states e 3) (upd x_statuses e (-1)) x_stepCounts x_copyCounts x_wakeTimes (upd x_registers (4 * s) 0) (upd x_pageCounts e 0) x_pageFrames (uk_fl x_held (6 * e) (fun _ => -1) 6) fu' x_frameWords oh' x_openKinds x_openTargets x_openPlaces x_openModes x_pipeFirsts x_pipeCounts x_pipeWords x_nameFiles x_fileSizes x_fileWords x_safeNames x_safeSizes x_safeWords x_saidInts y_time y_last y_lastPid y_did y_killed y_ops y_as y_bs (upd y_pages e 0) y_wake zo' (upd y_blocked e 0) y_memory y_frame ki' y_mode y_pipe sz' y_safeSize y_said := ⟨uk_aG A, uk_aN A, uk_aC A, uk_aeT A, uk_aPr A, a1, a2, a3, a4, a5, a6, uk_aPi A, a7, uk_aSa A, a8, hWk1⟩
    by_cases hes : nI e = nI s
    · refine ⟨_, _, fun post h => hX1 post (br_f hst (a10 _ (xk_tail0 hs ec hc h))), fun post h => hY1 post (br_t hze (br_t hes ?_)), uk_RmkK 1 (uk_up1 (Nat.le_succ b) A')⟩
      unfold wpY_kill
      refine a11 _ ?_
      exact br_f (by decide) h
    · refine ⟨_, _, fun post h => hX1 post (br_f hst (a10 _ (xk_tail0 hs ec hc h))), fun post h => hY1 post (br_t hze (br_f hes ?_)), uk_RmkK 0 (uk_up1 (Nat.le_succ b) A')⟩
      refine a11 _ (yk_tail0 hs ?_)
      rw [uk_uu]
      exact h
  · have hst := (uk_zst (uk_aPs A) he f2).mpr ((uk_aPs A e he).2.2.2.2.1.resolve_left hze)
    exact ⟨_, _, fun post h => hX1 post (br_t hst (xk_tail0 hs ec hc h)), fun post h => hY1 post (br_f hze (yk_tail0 hs h)), uk_end0 (g := -1) A hs hp hz hb⟩
theorem uk_nfre {t b f o : Nat} (A : uk_All t b x_changes x_saidCount x_time x_lastSlot x_sliceSteps x_latestPid x_greatestPid x_code x_codeLengths x_pids x_parents x_programs x_places x_states x_statuses x_stepCounts x_copyCounts x_wakeTimes x_registers x_pageCounts x_pageFrames x_held x_frameUsers x_frameWords x_openHolders x_openKinds x_openTargets x_openPlaces x_openModes x_pipeFirsts x_pipeCounts x_pipeWords x_nameFiles x_fileSizes x_fileWords x_safeNames x_safeSizes x_safeWords x_saidInts y_time y_last y_lastPid y_did y_killed y_ops y_as y_bs y_pages y_wake y_zombie y_blocked y_memory y_frame y_kind y_mode y_pipe y_size y_safeSize y_said) (ho : o < 12) (hf : f < 8) (hk : y_kind o = 1) (hT : x_openTargets o = nI f) : ¬ uk_fre x_nameFiles y_kind x_openTargets f ∧ x_fileSizes f = y_size f ∧ ∃ m, m ≤ 16 ∧ y_size f = nI m := by
  have h : ¬ uk_fre x_nameFiles y_kind x_openTargets f := fun z => z.2 o ho ⟨hk, hT⟩
  obtain ⟨h1, _, h3⟩ := (uk_aFi A).2 f hf
  obtain ⟨m, hm, em⟩ := vp_in_of h1 (by decide)
  exact ⟨h, h3 h, m, by omega, em⟩
theorem uk_call17 {t b s : Nat} (A : uk_All t b x_changes x_saidCount x_time x_lastSlot x_sliceSteps x_latestPid x_greatestPid x_code x_codeLengths x_pids x_parents x_programs x_places x_states x_statuses x_stepCounts x_copyCounts x_wakeTimes x_registers x_pageCounts x_pageFrames x_held x_frameUsers x_frameWords x_openHolders x_openKinds x_openTargets x_openPlaces x_openModes x_pipeFirsts x_pipeCounts x_pipeWords x_nameFiles x_fileSizes x_fileWords x_safeNames x_safeSizes x_safeWords x_saidInts y_time y_last y_lastPid y_did y_killed y_ops y_as y_bs y_pages y_wake y_zombie y_blocked y_memory y_frame y_kind y_mode y_pipe y_size y_safeSize y_said) (hs : s < 8) (hp : x_pids s ≠ 0) (hz : y_zombie s = 0) (hb : y_blocked s = 0) :
  ∃ u' v', (∀ post : SX → Prop, post u' → wpX_doCall post (x_changes, x_saidCount, x_time, x_lastSlot, x_sliceSteps, x_latestPid, x_greatestPid, x_code, x_codeLengths, x_pids, x_parents, x_programs, x_places, x_states, x_statuses, x_stepCounts, x_copyCounts, x_wakeTimes, x_registers, x_pageCounts, x_pageFrames, x_held, x_frameUsers, x_frameWords, x_openHolders, x_openKinds, x_openTargets, x_openPlaces, x_openModes, x_pipeFirsts, x_pipeCounts, x_pipeWords, x_nameFiles, x_fileSizes, x_fileWords, x_safeNames, x_safeSizes, x_safeWords, x_saidInts) (nI s) 17) ∧ (∀ post : SY → Prop, post v' → wY_call_127 post (nI s) 17 (x_registers (4 * s)) (x_registers (4 * s + 1)) x_changes y_time y_last y_lastPid y_did x_greatestPid x_latestPid x_saidCount 0 y_ops y_as y_bs x_codeLengths x_pids x_parents x_programs x_places x_statuses x_stepCounts x_copyCounts y_pages y_wake y_zombie y_blocked x_registers y_memory y_frame x_held y_kind x_openTargets y_mode x_openPlaces x_pipeCounts y_pipe x_nameFiles y_size x_fileWords x_safeNames y_safeSize x_safeWords y_said) ∧ uk_R y_time t (b + 1) u' v' := by
  obtain ⟨_, vs, es⟩ := uk_lp 8 hs (by decide)
  obtain ⟨c, ec, hc⟩ := uk_aC A
  have A0 : uk_All t b x_changes x_saidCount x_time x_lastSlot x_sliceSteps x_latestPid x_greatestPid x_code x_codeLengths x_pids x_parents x_programs x_places x_states x_statuses x_stepCounts x_copyCounts x_wakeTimes x_registers x_pageCounts x_pageFrames x_held x_frameUsers x_frameWords x_openHolders x_openKinds x_openTargets x_openPlaces x_openModes x_pipeFirsts x_pipeCounts x_pipeWords x_nameFiles x_fileSizes x_fileWords x_safeNames x_safeSizes x_safeWords x_saidInts y_time y_last y_lastPid y_did 0 y_ops y_as y_bs y_pages y_wake y_zombie y_blocked y_memory y_frame y_kind y_mode y_pipe y_size y_safeSize y_said := A
  have hH := uk_aHd A s hs hp hz
  have hP : ∀ s, s < 8 → ¬ x_pids s < 0 := fun s hs => (uk_aPs A s hs).1
  have hX0 : ∀ post : SX → Prop, ((∀ d, d < 6 → x_registers (4 * s) = nI d → x_held (6 * s + d) = -1) ∨ (∃ d o, d < 6 ∧ o < 12 ∧ x_registers (4 * s) = nI d ∧ x_held (6 * s + d) = nI o ∧ (y_kind o ≠ 1 ∨ (∃ f m, f < 8 ∧ m ≤ 16 ∧ x_openTargets o = nI f ∧ y_size f = nI m ∧ ¬ vp_in (x_registers (4 * s + 1)) (m + 1))))) → post (x_changes, x_saidCount, x_time, x_lastSlot, x_sliceSteps, x_latestPid, x_greatestPid, x_code, x_codeLengths, x_pids, x_parents, x_programs, x_places, x_states, x_statuses, x_stepCounts, x_copyCounts, x_wakeTimes, upd x_registers (4 * s) (-1), x_pageCounts, x_pageFrames, x_held, x_frameUsers, x_frameWords, x_openHolders, x_openKinds, x_openTargets, x_openPlaces, x_openModes, x_pipeFirsts, x_pipeCounts, x_pipeWords, x_nameFiles, x_fileSizes, x_fileWords, x_safeNames, x_safeSizes, x_safeWords, x_saidInts) → wpX_doCall post (x_changes, x_saidCount, x_time, x_lastSlot, x_sliceSteps, x_latestPid, x_greatestPid, x_code, x_codeLengths, x_pids, x_parents, x_programs, x_places, x_states, x_statuses, x_stepCounts, x_copyCounts, x_wakeTimes, x_registers, x_pageCounts, x_pageFrames, x_held, x_frameUsers, x_frameWords, x_openHolders, x_openKinds, x_openTargets, x_openPlaces, x_openModes, x_pipeFirsts, x_pipeCounts, x_pipeWords, x_nameFiles, x_fileSizes, x_fileWords, x_safeNames, x_safeSizes, x_safeWords, x_saidInts) (nI s) 17 := fun post hn h => by
    unfold wpX_doCall
    refine nm_r (uk_m4 s) ⟨vp_in_nI (by omega) (by decide), nm_r (uk_rg0 x_registers hs) ⟨uk_rgv hs, nm_r (uk_rg1 x_registers hs) (br_f (by decide) (br_f (by decide) (br_f (by decide) (br_f (by decide) (br_f (by decide) (br_f (by decide) (br_f (by decide) (br_f (by decide) (br_f (by decide) (br_f (by decide) (br_f (by decide) (br_f (by decide) (br_f (by decide) (br_f (by decide) (br_f (by decide) (br_f (by decide) (br_f (by decide) (br_f (by decide) (br_f (by decide) (br_t rfl ?_))))))))))))))))))))⟩⟩
    unfold wpX_seekPlace
    rcases hn with h0 | ⟨d, o, hd, ho, e1, e2, h0⟩
    · exact xk_of0 hs hH h0 (br_t rfl (xk_tail0 hs ec hc h))
    · obtain ⟨k1, k2, k3⟩ := uk_hk (uk_aHo A) (uk_aOk A) hs hp hz hd ho e2
      refine xk_of1 hs hH hd ho e1 e2 (fun _ => br_f (uk_ne1 (by omega)) ⟨vp_in_nI ho (by decide), ?_⟩) (fun _ => br_t rfl (xk_tail0 hs ec hc h))
      rw [nI_clamp (show o < 2 ^ 31 by omega), k2]
      refine ⟨fun a => ?_, fun _ => xk_tail0 hs ec hc h⟩
      rcases h0 with h0 | ⟨f, m, hf, hm, eT, eS, h0⟩
      · exact absurd a h0
      · obtain ⟨_, q2, _⟩ := uk_nfre A ho hf a eT
        refine ⟨fun _ => xk_tail0 hs ec hc h, fun g => ⟨vp_in_nI ho (by decide), ?_⟩⟩
        rw [eT, nI_clamp (show f < 2 ^ 31 by omega), q2, eS]
        refine ⟨vp_in_nI hf (by decide), fun w => absurd ?_ h0, fun _ => xk_tail0 hs ec hc h⟩
        obtain ⟨j, hj, ej⟩ := nI_of g
        rw [ej] at w ⊢
        exact vp_in_nI (by have := (nI_leI hj (by omega)).mp w; omega) (by omega)
  have hY0 : ∀ post : SY → Prop, ((∀ d, d < 6 → x_registers (4 * s) = nI d → x_held (6 * s + d) = -1) ∨ (∃ d o, d < 6 ∧ o < 12 ∧ x_registers (4 * s) = nI d ∧ x_held (6 * s + d) = nI o ∧ (y_kind o ≠ 1 ∨ (∃ f m, f < 8 ∧ m ≤ 16 ∧ x_openTargets o = nI f ∧ y_size f = nI m ∧ ¬ vp_in (x_registers (4 * s + 1)) (m + 1))))) → post (x_changes, y_time, y_last, y_lastPid, y_did, x_greatestPid, x_latestPid, x_saidCount, 0, y_ops, y_as, y_bs, x_codeLengths, x_pids, x_parents, x_programs, x_places, x_statuses, x_stepCounts, x_copyCounts, y_pages, y_wake, y_zombie, y_blocked, upd x_registers (4 * s) (-1), y_memory, y_frame, x_held, y_kind, x_openTargets, y_mode, x_openPlaces, x_pipeCounts, y_pipe, x_nameFiles, y_size, x_fileWords, x_safeNames, y_safeSize, x_safeWords, y_said) → wY_call_127 post (nI s) 17 (x_registers (4 * s)) (x_registers (4 * s + 1)) x_changes y_time y_last y_lastPid y_did x_greatestPid x_latestPid x_saidCount 0 y_ops y_as y_bs x_codeLengths x_pids x_parents x_programs x_places x_statuses x_stepCounts x_copyCounts y_pages y_wake y_zombie y_blocked x_registers y_memory y_frame x_held y_kind x_openTargets y_mode x_openPlaces x_pipeCounts y_pipe x_nameFiles y_size x_fileWords x_safeNames y_safeSize x_safeWords y_said := fun post hn h => by
    unfold wY_call_127
    refine br_t (by decide) (br_t (by decide) ?_)
    unfold wpY_others
    refine br_f (by decide) (br_f (by decide) (br_f (by decide) (br_f (by decide) (br_f (by decide) (br_f (by decide) (br_f (by decide) (br_f (by decide) (br_t rfl ?_))))))))
    unfold wpY_seek
    refine yk_no 5 rfl (by decide) (fun v => br_t rfl ?_) (fun v => br_f (by decide) (br_t (by decide) (yk_tail0 hs h)))
    obtain ⟨d, hd, ed⟩ := vp_in_of v (by decide)
    rw [ed, uk_6m, nI_add, nI_clamp (show 6 * s + d < 2 ^ 31 by omega)]
    refine ⟨vp_in_nI (by omega) (by decide), ?_⟩
    rcases hn with h0 | ⟨d', o, hd', ho, e1, e2, h0⟩
    · rw [h0 d hd ed]
      exact br_t (by decide) (yk_tail0 hs h)
    · have := uk_nIn (by omega) (by omega) (e1.symm.trans ed)
      subst this
      rw [e2]
      refine br_f (nI_pos (by omega)) ⟨vp_in_nI ho (by decide), ?_⟩
      rw [nI_clamp (show o < 2 ^ 31 by omega)]
      refine ⟨fun a => ⟨vp_in_nI ho (by decide), ?_⟩, fun _ => yk_tail0 hs h⟩
      rcases h0 with h0 | ⟨f, m, hf, hm, eT, eS, h0⟩
      · exact absurd a h0
      · rw [eT, nI_clamp (show f < 2 ^ 31 by omega), eS]
        exact ⟨vp_in_nI hf (by decide), yk_no m rfl (by omega) (fun w => absurd w h0) (fun _ => br_f (by decide) (yk_tail0 hs h))⟩
  rcases uk_desc A hs hp hz with h0 | ⟨d, o, hd, ho, e1, e2, k1, k2, k3, k4⟩
  · exact ⟨_, _, fun post h => hX0 post (Or.inl h0) h, fun post h => hY0 post (Or.inl h0) h, uk_end0 (g := -1) A hs hp hz hb⟩
  by_cases hk : y_kind o = 1
  · have vT : vp_in (x_openTargets o) 8 := by
      rcases k4 with q | q | q
      · exact q.2.2.2
      · exact absurd (hk.symm.trans q.1) (by decide)
      · exact absurd (hk.symm.trans q.1) (by decide)
    obtain ⟨f, hf, eT⟩ := vp_in_of vT (by decide)
    obtain ⟨q1, q2, m, hm, eS⟩ := uk_nfre A ho hf hk eT
    by_cases hv : vp_in (x_registers (4 * s + 1)) (m + 1)
    · obtain ⟨j, hj, ej⟩ := vp_in_of hv (by omega)
      have A1 : uk_All t b x_changes x_saidCount x_time x_lastSlot x_sliceSteps x_latestPid x_greatestPid x_code x_codeLengths x_pids x_parents x_programs x_places x_states x_statuses x_stepCounts x_copyCounts x_wakeTimes x_registers x_pageCounts x_pageFrames x_held x_frameUsers x_frameWords x_openHolders x_openKinds x_openTargets (upd x_openPlaces o (x_registers (4 * s + 1))) x_openModes x_pipeFirsts x_pipeCounts x_pipeWords x_nameFiles x_fileSizes x_fileWords x_safeNames x_safeSizes x_safeWords x_saidInts y_time y_last y_lastPid y_did y_killed y_ops y_as y_bs y_pages y_wake y_zombie y_blocked y_memory y_frame y_kind y_mode y_pipe y_size y_safeSize y_said := ⟨uk_aG A, uk_aN A, uk_aC A, uk_aeT A, uk_aPr A, uk_aPs A, uk_aMe A, uk_aFu A, uk_aHd A, uk_aHo A, uk_Ok_op o (uk_aOk A) (by rw [ej]; exact vp_in_nI (by omega) (by decide)), uk_aPi A, uk_aFi A, uk_aSa A, uk_aSc A, uk_aWk A⟩
      have vo : vp_in (nI o) 12 := vp_in_nI ho (by decide)
      refine ⟨_, _, fun post h => ?_, fun post h => ?_, uk_end0 (g := 0) A1 hs hp hz hb⟩
      · unfold wpX_doCall
        refine nm_r (uk_m4 s) ⟨vp_in_nI (by omega) (by decide), nm_r (uk_rg0 x_registers hs) ⟨uk_rgv hs, nm_r (uk_rg1 x_registers hs) (br_f (by decide) (br_f (by decide) (br_f (by decide) (br_f (by decide) (br_f (by decide) (br_f (by decide) (br_f (by decide) (br_f (by decide) (br_f (by decide) (br_f (by decide) (br_f (by decide) (br_f (by decide) (br_f (by decide) (br_f (by decide) (br_f (by decide) (br_f (by decide) (br_f (by decide) (br_f (by decide) (br_f (by decide) (br_t rfl ?_))))))))))))))))))))⟩⟩
        unfold wpX_seekPlace
        refine xk_of1 hs hH hd ho e1 e2 (fun _ => br_f (uk_ne1 (by omega)) ⟨vo, ?_⟩) (fun z => absurd z k3)
        rw [nI_clamp (show o < 2 ^ 31 by omega), k2, eT, nI_clamp (show f < 2 ^ 31 by omega), q2, eS]
        refine br_t hk (br_f (by rw [ej]; exact nI_pos (by omega)) ⟨vo, vp_in_nI hf (by decide), br_t (by rw [ej]; exact nI_le (by omega) (by omega)) ⟨vo, nm_e (xk_tail0 hs ec hc h)⟩⟩)
      · unfold wY_call_127
        refine br_t (by decide) (br_t (by decide) ?_)
        unfold wpY_others
        refine br_f (by decide) (br_f (by decide) (br_f (by decide) (br_f (by decide) (br_f (by decide) (br_f (by decide) (br_f (by decide) (br_f (by decide) (br_t rfl ?_))))))))
        unfold wpY_seek
        rw [e1]
        refine yk_no 5 rfl (by decide) (fun v => br_t rfl ?_) (fun v => absurd (vp_in_nI hd (by decide)) v)
        rw [uk_6m, nI_add, nI_clamp (show 6 * s + d < 2 ^ 31 by omega), e2]
        refine ⟨vp_in_nI (by omega) (by decide), br_f (nI_pos (by omega)) ⟨vo, ?_⟩⟩
        rw [nI_clamp (show o < 2 ^ 31 by omega), eT, nI_clamp (show f < 2 ^ 31 by omega), eS]
        exact br_t hk ⟨vo, vp_in_nI hf (by decide), yk_no m rfl (by omega) (fun _ => br_t rfl ⟨vo, nm_e (yk_tail0 hs h)⟩) (fun w => absurd hv w)⟩
    · exact ⟨_, _, fun post h => hX0 post (Or.inr ⟨d, o, hd, ho, e1, e2, Or.inr ⟨f, m, hf, hm, eT, eS, hv⟩⟩) h, fun post h => hY0 post (Or.inr ⟨d, o, hd, ho, e1, e2, Or.inr ⟨f, m, hf, hm, eT, eS, hv⟩⟩) h, uk_end0 (g := -1) A hs hp hz hb⟩
  · exact ⟨_, _, fun post h => hX0 post (Or.inr ⟨d, o, hd, ho, e1, e2, Or.inl hk⟩) h, fun post h => hY0 post (Or.inr ⟨d, o, hd, ho, e1, e2, Or.inl hk⟩) h, uk_end0 (g := -1) A hs hp hz hb⟩
theorem yk_say {post : Int32 → SY → Prop} {x : Int32} (h : post x (x_changes, y_time, y_last, y_lastPid, y_did, x_greatestPid, x_latestPid, x_saidCount + 1, y_killed, y_ops, y_as, y_bs, x_codeLengths, x_pids, x_parents, x_programs, x_places, x_statuses, x_stepCounts, x_copyCounts, y_pages, y_wake, y_zombie, y_blocked, x_registers, y_memory, y_frame, x_held, y_kind, x_openTargets, y_mode, x_openPlaces, x_pipeCounts, y_pipe, x_nameFiles, y_size, x_fileWords, x_safeNames, y_safeSize, x_safeWords, uk_sh y_said x)) : ∃ m, wY_others_186 post x x_changes y_time y_last y_lastPid y_did x_greatestPid x_latestPid x_saidCount y_killed m 15 y_ops y_as y_bs x_codeLengths x_pids x_parents x_programs x_places x_statuses x_stepCounts x_copyCounts y_pages y_wake y_zombie y_blocked x_registers y_memory y_frame x_held y_kind x_openTargets y_mode x_openPlaces x_pipeCounts y_pipe x_nameFiles y_size x_fileWords x_safeNames y_safeSize x_safeWords y_said := by
  have key : ∀ j, j ≤ 15 → wY_others_186 post x x_changes y_time y_last y_lastPid y_did x_greatestPid x_latestPid x_saidCount y_killed (j + 1) (nI j) y_ops y_as y_bs x_codeLengths x_pids x_parents x_programs x_places x_statuses x_stepCounts x_copyCounts y_pages y_wake y_zombie y_blocked x_registers y_memory y_frame x_held y_kind x_openTargets y_mode x_openPlaces x_pipeCounts y_pipe x_nameFiles y_size x_fileWords x_safeNames y_safeSize x_safeWords (fun i => if j < i ∧ i < 16 then y_said (i - 1) else y_said i) := by
    intro j
    induction j with
    | zero =>
      intro _
      refine br_t (uk_refl 0) (nm_r ?_ (nm_e h))
      funext i
      by_cases e : i = 0
      · subst e; rw [pk_us]; rfl
      · rw [pk_un e]
        show (if 0 < i ∧ i < 16 then y_said (i - 1) else y_said i) = (if i = 0 then x else if i < 16 then y_said (i - 1) else y_said i)
        rw [if_neg e]
        by_cases e2 : i < 16
        · rw [if_pos (by omega), if_pos e2]
        · rw [if_neg (by omega), if_neg e2]
    | succ j ih =>
      intro hj
      have ih2 := ih (by omega)
      refine br_f (nI_nle (by omega) (by omega)) ?_
      have e1 : nI (j + 1) - 1 = nI j := nI_pred j
      rw [e1, nI_clamp (show j < 2 ^ 31 by omega), nI_clamp (show j + 1 < 2 ^ 31 by omega)]
      refine ⟨vp_in_nI (by omega) (by decide), vp_in_nI (by omega) (by decide), nm_r ?_ (nm_r (pk_m1 j) ih2)⟩
      funext i
      by_cases e : i = j + 1
      · subst e
        rw [pk_us]
        show (if j + 1 < j ∧ j < 16 then y_said (j - 1) else y_said j) = (if j < j + 1 ∧ j + 1 < 16 then y_said (j + 1 - 1) else y_said (j + 1))
        rw [if_neg (by omega), if_pos (by omega)]
        rfl
      · rw [pk_un e]
        show (if j + 1 < i ∧ i < 16 then y_said (i - 1) else y_said i) = (if j < i ∧ i < 16 then y_said (i - 1) else y_said i)
        by_cases e2 : j < i ∧ i < 16
        · rw [if_pos e2, if_pos (by omega)]
        · rw [if_neg e2, if_neg (by omega)]
  have k := key 15 (by decide)
  have e : (fun i => if 15 < i ∧ i < 16 then y_said (i - 1) else y_said i) = y_said := by
    funext i
    exact if_neg (by omega)
  rw [e] at k
  exact ⟨_, k⟩
theorem uk_call16 {t b s : Nat} (A : uk_All t b x_changes x_saidCount x_time x_lastSlot x_sliceSteps x_latestPid x_greatestPid x_code x_codeLengths x_pids x_parents x_programs x_places x_states x_statuses x_stepCounts x_copyCounts x_wakeTimes x_registers x_pageCounts x_pageFrames x_held x_frameUsers x_frameWords x_openHolders x_openKinds x_openTargets x_openPlaces x_openModes x_pipeFirsts x_pipeCounts x_pipeWords x_nameFiles x_fileSizes x_fileWords x_safeNames x_safeSizes x_safeWords x_saidInts y_time y_last y_lastPid y_did y_killed y_ops y_as y_bs y_pages y_wake y_zombie y_blocked y_memory y_frame y_kind y_mode y_pipe y_size y_safeSize y_said) (hs : s < 8) (hp : x_pids s ≠ 0) (hz : y_zombie s = 0) (hb : y_blocked s = 0) (hbb : b < 2000000000) :
  ∃ u' v', (∀ post : SX → Prop, post u' → wpX_doCall post (x_changes, x_saidCount, x_time, x_lastSlot, x_sliceSteps, x_latestPid, x_greatestPid, x_code, x_codeLengths, x_pids, x_parents, x_programs, x_places, x_states, x_statuses, x_stepCounts, x_copyCounts, x_wakeTimes, x_registers, x_pageCounts, x_pageFrames, x_held, x_frameUsers, x_frameWords, x_openHolders, x_openKinds, x_openTargets, x_openPlaces, x_openModes, x_pipeFirsts, x_pipeCounts, x_pipeWords, x_nameFiles, x_fileSizes, x_fileWords, x_safeNames, x_safeSizes, x_safeWords, x_saidInts) (nI s) 16) ∧ (∀ post : SY → Prop, post v' → wY_call_127 post (nI s) 16 (x_registers (4 * s)) (x_registers (4 * s + 1)) x_changes y_time y_last y_lastPid y_did x_greatestPid x_latestPid x_saidCount 0 y_ops y_as y_bs x_codeLengths x_pids x_parents x_programs x_places x_statuses x_stepCounts x_copyCounts y_pages y_wake y_zombie y_blocked x_registers y_memory y_frame x_held y_kind x_openTargets y_mode x_openPlaces x_pipeCounts y_pipe x_nameFiles y_size x_fileWords x_safeNames y_safeSize x_safeWords y_said) ∧ uk_R y_time t (b + 1) u' v' := by
  obtain ⟨_, vs, es⟩ := uk_lp 8 hs (by decide)
  obtain ⟨c, ec, hc⟩ := uk_aC A
  have A0 : uk_All t b x_changes x_saidCount x_time x_lastSlot x_sliceSteps x_latestPid x_greatestPid x_code x_codeLengths x_pids x_parents x_programs x_places x_states x_statuses x_stepCounts x_copyCounts x_wakeTimes x_registers x_pageCounts x_pageFrames x_held x_frameUsers x_frameWords x_openHolders x_openKinds x_openTargets x_openPlaces x_openModes x_pipeFirsts x_pipeCounts x_pipeWords x_nameFiles x_fileSizes x_fileWords x_safeNames x_safeSizes x_safeWords x_saidInts y_time y_last y_lastPid y_did 0 y_ops y_as y_bs y_pages y_wake y_zombie y_blocked y_memory y_frame y_kind y_mode y_pipe y_size y_safeSize y_said := A
  have hH := uk_aHd A s hs hp hz
  have hP : ∀ s, s < 8 → ¬ x_pids s < 0 := fun s hs => (uk_aPs A s hs).1
  obtain ⟨n, en, hn, hSd⟩ := uk_aN A
  have A1 : uk_All t (b + 1) x_changes (x_saidCount + 1) x_time x_lastSlot x_sliceSteps x_latestPid x_greatestPid x_code x_codeLengths x_pids x_parents x_programs x_places x_states x_statuses x_stepCounts x_copyCounts x_wakeTimes x_registers x_pageCounts x_pageFrames x_held x_frameUsers x_frameWords x_openHolders x_openKinds x_openTargets x_openPlaces x_openModes x_pipeFirsts x_pipeCounts x_pipeWords x_nameFiles x_fileSizes x_fileWords x_safeNames x_safeSizes x_safeWords (upd x_saidInts (n % 16) (x_registers (4 * s))) y_time y_last y_lastPid y_did y_killed y_ops y_as y_bs y_pages y_wake y_zombie y_blocked y_memory y_frame y_kind y_mode y_pipe y_size y_safeSize (uk_sh y_said (x_registers (4 * s))) := by
    have Ab := uk_up1 (Nat.le_succ b) A
    exact ⟨uk_aG Ab, ⟨n + 1, by rw [en]; exact nI_1 n, by omega, uk_Sd_say _ hSd⟩, uk_aC Ab, uk_aeT Ab, uk_aPr Ab, uk_aPs Ab, uk_aMe Ab, uk_aFu Ab, uk_aHd Ab, uk_aHo Ab, uk_aOk Ab, uk_aPi Ab, uk_aFi Ab, uk_aSa Ab, uk_aSc Ab, uk_aWk Ab⟩
  refine ⟨_, _, fun post h => ?_, fun post h => ?_, uk_RmkK 0 (uk_All_reg (i := 0) (x := x_registers (4 * s)) A1 hs hp hz hb (by decide))⟩
  · unfold wpX_doCall
    refine nm_r (uk_m4 s) ⟨vp_in_nI (by omega) (by decide), nm_r (uk_rg0 x_registers hs) ⟨uk_rgv hs, nm_r (uk_rg1 x_registers hs) (br_f (by decide) (br_f (by decide) (br_f (by decide) (br_f (by decide) (br_f (by decide) (br_f (by decide) (br_f (by decide) (br_f (by decide) (br_f (by decide) (br_f (by decide) (br_f (by decide) (br_f (by decide) (br_f (by decide) (br_f (by decide) (br_f (by decide) (br_f (by decide) (br_f (by decide) (br_f (by decide) (br_t rfl ?_)))))))))))))))))))⟩⟩
    unfold wpX_keepSaid
    dsimp only
    have er : x_saidCount - x_saidCount / 16 * 16 = nI (n % 16) := by rw [en]; exact pk_rem (d := 16) (by omega) (by decide) (by decide)
    rw [er, nI_clamp (show n % 16 < 2 ^ 31 by omega)]
    exact ⟨by decide, vp_in_nI (by omega) (by decide), nm_e (nm_e (xk_tail0 hs ec hc h))⟩
  · unfold wY_call_127
    refine br_t (by decide) (br_t (by decide) ?_)
    unfold wpY_others
    exact br_f (by decide) (br_f (by decide) (br_f (by decide) (br_f (by decide) (br_f (by decide) (br_f (by decide) (br_f (by decide) (br_t rfl (yk_say (yk_tail0 hs h)))))))))
end
