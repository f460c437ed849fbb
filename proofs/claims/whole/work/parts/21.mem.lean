/-! LOAD and STORE -/
section
variable {x_changes x_saidCount x_time x_lastSlot x_sliceSteps x_latestPid x_greatestPid : Int32} {x_code x_codeLengths x_pids x_parents x_programs x_places x_states x_statuses x_stepCounts x_copyCounts x_wakeTimes x_registers x_pageCounts x_pageFrames x_held x_frameUsers x_frameWords x_openHolders x_openKinds x_openTargets x_openPlaces x_openModes x_pipeFirsts x_pipeCounts x_pipeWords x_nameFiles x_fileSizes x_fileWords x_safeNames x_safeSizes x_safeWords x_saidInts : Nat → Int32} {y_time y_last y_lastPid y_did y_killed : Int32} {y_ops y_as y_bs y_pages y_wake y_zombie y_blocked y_memory y_frame y_kind y_mode y_pipe y_size y_safeSize y_said : Nat → Int32}
theorem uk_exitA {t b e : Nat} (st : Int32) (A : uk_All t b x_changes x_saidCount x_time x_lastSlot x_sliceSteps x_latestPid x_greatestPid x_code x_codeLengths x_pids x_parents x_programs x_places x_states x_statuses x_stepCounts x_copyCounts x_wakeTimes x_registers x_pageCounts x_pageFrames x_held x_frameUsers x_frameWords x_openHolders x_openKinds x_openTargets x_openPlaces x_openModes x_pipeFirsts x_pipeCounts x_pipeWords x_nameFiles x_fileSizes x_fileWords x_safeNames x_safeSizes x_safeWords x_saidInts y_time y_last y_lastPid y_did y_killed y_ops y_as y_bs y_pages y_wake y_zombie y_blocked y_memory y_frame y_kind y_mode y_pipe y_size y_safeSize y_said) (he : e < 8) (hp : x_pids e ≠ 0) (hz : y_zombie e = 0) :
  ∃ P' Q' zo' oh' ki' sz' fu', uk_All t b x_changes x_saidCount x_time x_lastSlot x_sliceSteps x_latestPid x_greatestPid x_code x_codeLengths P' Q' x_programs x_places (upd x_states e 3) (upd x_statuses e st) x_stepCounts x_copyCounts x_wakeTimes x_registers (upd x_pageCounts e 0) x_pageFrames (uk_fl x_held (6 * e) (fun _ => -1) 6) fu' x_frameWords oh' x_openKinds x_openTargets x_openPlaces x_openModes x_pipeFirsts x_pipeCounts x_pipeWords x_nameFiles x_fileSizes x_fileWords x_safeNames x_safeSizes x_safeWords x_saidInts y_time y_last y_lastPid y_did y_killed y_ops y_as y_bs (upd y_pages e 0) y_wake zo' (upd y_blocked e 0) y_memory y_frame ki' y_mode y_pipe sz' y_safeSize y_said ∧
  (∀ post : SX → Prop, post (x_changes, x_saidCount, x_time, x_lastSlot, x_sliceSteps, x_latestPid, x_greatestPid, x_code, x_codeLengths, P', Q', x_programs, x_places, upd x_states e 3, upd x_statuses e st, x_stepCounts, x_copyCounts, x_wakeTimes, x_registers, upd x_pageCounts e 0, x_pageFrames, uk_fl x_held (6 * e) (fun _ => -1) 6, fu', x_frameWords, oh', x_openKinds, x_openTargets, x_openPlaces, x_openModes, x_pipeFirsts, x_pipeCounts, x_pipeWords, x_nameFiles, x_fileSizes, x_fileWords, x_safeNames, x_safeSizes, x_safeWords, x_saidInts) → wpX_endProcess post (x_changes, x_saidCount, x_time, x_lastSlot, x_sliceSteps, x_latestPid, x_greatestPid, x_code, x_codeLengths, x_pids, x_parents, x_programs, x_places, x_states, x_statuses, x_stepCounts, x_copyCounts, x_wakeTimes, x_registers, x_pageCounts, x_pageFrames, x_held, x_frameUsers, x_frameWords, x_openHolders, x_openKinds, x_openTargets, x_openPlaces, x_openModes, x_pipeFirsts, x_pipeCounts, x_pipeWords, x_nameFiles, x_fileSizes, x_fileWords, x_safeNames, x_safeSizes, x_safeWords, x_saidInts) (nI e) st) ∧
  (∀ post : SY → Prop, post (x_changes, y_time, y_last, y_lastPid, y_did, x_greatestPid, x_latestPid, x_saidCount, y_killed, y_ops, y_as, y_bs, x_codeLengths, P', Q', x_programs, x_places, upd x_statuses e st, x_stepCounts, x_copyCounts, upd y_pages e 0, y_wake, zo', upd y_blocked e 0, x_registers, y_memory, y_frame, uk_fl x_held (6 * e) (fun _ => -1) 6, ki', x_openTargets, y_mode, x_openPlaces, x_pipeCounts, y_pipe, x_nameFiles, sz', x_fileWords, x_safeNames, y_safeSize, x_safeWords, y_said) → wpY_exit post (x_changes, y_time, y_last, y_lastPid, y_did, x_greatestPid, x_latestPid, x_saidCount, y_killed, y_ops, y_as, y_bs, x_codeLengths, x_pids, x_parents, x_programs, x_places, x_statuses, x_stepCounts, x_copyCounts, y_pages, y_wake, y_zombie, y_blocked, x_registers, y_memory, y_frame, x_held, y_kind, x_openTargets, y_mode, x_openPlaces, x_pipeCounts, y_pipe, x_nameFiles, y_size, x_fileWords, x_safeNames, y_safeSize, x_safeWords, y_said) (nI e) st) := by
  obtain ⟨P', Q', zo', oh', ki', sz', fu', a1, a2, a3, a4, a5, a6, a7, a8, a9, a10, a11⟩ := uk_exit (x_changes := x_changes) (x_saidCount := x_saidCount) (x_time := x_time) (x_lastSlot := x_lastSlot) (x_sliceSteps := x_sliceSteps) (x_latestPid := x_latestPid) (x_greatestPid := x_greatestPid) (x_code := x_code) (x_codeLengths := x_codeLengths) (x_pids := x_pids) (x_parents := x_parents) (x_programs := x_programs) (x_places := x_places) (x_states := x_states) (x_statuses := x_statuses) (x_stepCounts := x_stepCounts) (x_copyCounts := x_copyCounts) (x_wakeTimes := x_wakeTimes) (x_registers := x_registers) (x_pageCounts := x_pageCounts) (x_pageFrames := x_pageFrames) (x_held := x_held) (x_frameUsers := x_frameUsers) (x_frameWords := x_frameWords) (x_openHolders := x_openHolders) (x_openKinds := x_openKinds) (x_openTargets := x_openTargets) (x_openPlaces := x_openPlaces) (x_openModes := x_openModes) (x_pipeFirsts := x_pipeFirsts) (x_pipeCounts := x_pipeCounts) (x_pipeWords := x_pipeWords) (x_nameFiles := x_nameFiles) (x_fileSizes := x_fileSizes) (x_fileWords := x_fileWords) (x_safeNames := x_safeNames) (x_safeSizes := x_safeSizes) (x_safeWords := x_safeWords) (x_saidInts := x_saidInts) (y_time := y_time) (y_last := y_last) (y_lastPid := y_lastPid) (y_did := y_did) (y_killed := y_killed) (y_ops := y_ops) (y_as := y_as) (y_bs := y_bs) (y_pages := y_pages) (y_wake := y_wake) (y_zombie := y_zombie) (y_blocked := y_blocked) (y_memory := y_memory) (y_frame := y_frame) (y_kind := y_kind) (y_mode := y_mode) (y_pipe := y_pipe) (y_size := y_size) (y_safeSize := y_safeSize) (y_said := y_said) (y_reg := x_registers) st he hp hz (uk_aPs A) (uk_aMe A) (uk_aFu A) (uk_aHd A) (uk_aHo A) (uk_aOk A) (uk_aFi A) (uk_aSc A) (uk_aWk A)
  exact ⟨P', Q', zo', oh', ki', sz', fu', ⟨uk_aG A, uk_aN A, uk_aC A, uk_aeT A, uk_aPr A, a1, a2, a3, a4, a5, a6, uk_aPi A, a7, uk_aSa A, a8, a9⟩, a10, a11⟩
theorem uk_load {t b s i j : Nat} {L0 : Nat → Int32} (A : uk_All t b x_changes x_saidCount x_time x_lastSlot x_sliceSteps x_latestPid x_greatestPid x_code x_codeLengths x_pids x_parents x_programs x_places x_states x_statuses x_stepCounts x_copyCounts x_wakeTimes x_registers x_pageCounts x_pageFrames x_held x_frameUsers x_frameWords x_openHolders x_openKinds x_openTargets x_openPlaces x_openModes x_pipeFirsts x_pipeCounts x_pipeWords x_nameFiles x_fileSizes x_fileWords x_safeNames x_safeSizes x_safeWords x_saidInts y_time y_last y_lastPid y_did y_killed y_ops y_as y_bs y_pages y_wake y_zombie y_blocked y_memory y_frame y_kind y_mode y_pipe y_size y_safeSize y_said) (hs : s < 8) (hp : x_pids s ≠ 0) (hz : y_zombie s = 0) (hb : y_blocked s = 0) (hi : i < 4) (hj : j < 4) (hL : upd L0 s (L0 s + 1) = x_places) :
  ∃ u' v', (∀ post : SX → Prop, post u' → wpX_compute post (x_changes, x_saidCount, x_time, x_lastSlot, x_sliceSteps, x_latestPid, x_greatestPid, x_code, x_codeLengths, x_pids, x_parents, x_programs, x_places, x_states, x_statuses, x_stepCounts, x_copyCounts, x_wakeTimes, x_registers, x_pageCounts, x_pageFrames, x_held, x_frameUsers, x_frameWords, x_openHolders, x_openKinds, x_openTargets, x_openPlaces, x_openModes, x_pipeFirsts, x_pipeCounts, x_pipeWords, x_nameFiles, x_fileSizes, x_fileWords, x_safeNames, x_safeSizes, x_safeWords, x_saidInts) (nI s) 4 (nI i) (nI j)) ∧ (∀ post : SY → Prop, post v' → wpY_plain post (x_changes, y_time, y_last, y_lastPid, y_did, x_greatestPid, x_latestPid, x_saidCount, y_killed, y_ops, y_as, y_bs, x_codeLengths, x_pids, x_parents, x_programs, L0, x_statuses, x_stepCounts, x_copyCounts, y_pages, y_wake, y_zombie, y_blocked, x_registers, y_memory, y_frame, x_held, y_kind, x_openTargets, y_mode, x_openPlaces, x_pipeCounts, y_pipe, x_nameFiles, y_size, x_fileWords, x_safeNames, y_safeSize, x_safeWords, y_said) (nI s) 4 (nI (4 * s + i)) (nI j)) ∧ uk_R y_time t b u' v' := by
  obtain ⟨_, vs, es⟩ := uk_lp 8 hs (by decide)
  obtain ⟨n, hn8, n2, n3, n4, n5⟩ := uk_aMe A s hs hp
  have hpf : ∀ p, p < n → vp_in (x_pageFrames (8 * s + p)) 20 := fun p hp => by rw [(n5 p hp).2.1]; exact (n5 p hp).1
  have vi : vp_in (nI (4 * s + i)) 32 := vp_in_nI (by omega) (by decide)
  have vj : vp_in (nI (4 * s + j)) 32 := vp_in_nI (by omega) (by decide)
  have hX : ∀ post : SX → Prop, wpX_loadWord post (x_changes, x_saidCount, x_time, x_lastSlot, x_sliceSteps, x_latestPid, x_greatestPid, x_code, x_codeLengths, x_pids, x_parents, x_programs, x_places, x_states, x_statuses, x_stepCounts, x_copyCounts, x_wakeTimes, x_registers, x_pageCounts, x_pageFrames, x_held, x_frameUsers, x_frameWords, x_openHolders, x_openKinds, x_openTargets, x_openPlaces, x_openModes, x_pipeFirsts, x_pipeCounts, x_pipeWords, x_nameFiles, x_fileSizes, x_fileWords, x_safeNames, x_safeSizes, x_safeWords, x_saidInts) (nI s) (nI (4 * s + i)) (x_registers (4 * s + j)) → wpX_compute post (x_changes, x_saidCount, x_time, x_lastSlot, x_sliceSteps, x_latestPid, x_greatestPid, x_code, x_codeLengths, x_pids, x_parents, x_programs, x_places, x_states, x_statuses, x_stepCounts, x_copyCounts, x_wakeTimes, x_registers, x_pageCounts, x_pageFrames, x_held, x_frameUsers, x_frameWords, x_openHolders, x_openKinds, x_openTargets, x_openPlaces, x_openModes, x_pipeFirsts, x_pipeCounts, x_pipeWords, x_nameFiles, x_fileSizes, x_fileWords, x_safeNames, x_safeSizes, x_safeWords, x_saidInts) (nI s) 4 (nI i) (nI j) := fun post h => by
    unfold wpX_compute
    dsimp only
    rw [uk_m4]
    refine nm_e ?_
    rw [nI_add, nI_add, nI_clamp (show 4 * s + j < 2 ^ 31 by omega)]
    exact br_f (by decide) (br_f (by decide) (br_f (by decide) (br_f (by decide) (br_f (by decide) (br_f (by decide) (br_t rfl ⟨vj, h⟩))))))
  have hY : ∀ post : SY → Prop, wY_plain_179 post (nI s) 4 (nI (4 * s + i)) (x_registers (4 * s + j)) x_changes y_time y_last y_lastPid y_did x_greatestPid x_latestPid x_saidCount y_killed y_ops y_as y_bs x_codeLengths x_pids x_parents x_programs x_places x_statuses x_stepCounts x_copyCounts y_pages y_wake y_zombie y_blocked x_registers y_memory y_frame x_held y_kind x_openTargets y_mode x_openPlaces x_pipeCounts y_pipe x_nameFiles y_size x_fileWords x_safeNames y_safeSize x_safeWords y_said → wpY_plain post (x_changes, y_time, y_last, y_lastPid, y_did, x_greatestPid, x_latestPid, x_saidCount, y_killed, y_ops, y_as, y_bs, x_codeLengths, x_pids, x_parents, x_programs, L0, x_statuses, x_stepCounts, x_copyCounts, y_pages, y_wake, y_zombie, y_blocked, x_registers, y_memory, y_frame, x_held, y_kind, x_openTargets, y_mode, x_openPlaces, x_pipeCounts, y_pipe, x_nameFiles, y_size, x_fileWords, x_safeNames, y_safeSize, x_safeWords, y_said) (nI s) 4 (nI (4 * s + i)) (nI j) := fun post h => by
    unfold wpY_plain
    dsimp only
    rw [uk_4m, nI_add, nI_clamp (show 4 * s + j < 2 ^ 31 by omega)]
    refine br_f (by decide) (br_f (by decide) ⟨vj, ?_⟩)
    unfold wY_plain_25
    rw [es]
    exact ⟨vs, vs, nm_r hL (br_f (by decide) (br_f (by decide) (br_f (by decide) (br_f (by decide) (br_f (by decide) (br_f (by decide) (br_t rfl h)))))))⟩
  by_cases hv : vp_in (x_registers (4 * s + j)) (4 * n)
  · obtain ⟨a, ha, ea⟩ := vp_in_of hv (by omega)
    obtain ⟨f1, f2, f3⟩ := n5 (a / 4) (by omega)
    have hfl := uk_inc f1
    refine ⟨(x_changes, x_saidCount, x_time, x_lastSlot, x_sliceSteps, x_latestPid, x_greatestPid, x_code, x_codeLengths, x_pids, x_parents, x_programs, x_places, x_states, x_statuses, x_stepCounts, x_copyCounts, x_wakeTimes, upd x_registers (4 * s + i) (y_memory (32 * s + a)), x_pageCounts, x_pageFrames, x_held, x_frameUsers, x_frameWords, x_openHolders, x_openKinds, x_openTargets, x_openPlaces, x_openModes, x_pipeFirsts, x_pipeCounts, x_pipeWords, x_nameFiles, x_fileSizes, x_fileWords, x_safeNames, x_safeSizes, x_safeWords, x_saidInts), (x_changes, y_time, y_last, y_lastPid, y_did, x_greatestPid, x_latestPid, x_saidCount, y_killed, y_ops, y_as, y_bs, x_codeLengths, x_pids, x_parents, x_programs, x_places, x_statuses, x_stepCounts, x_copyCounts, y_pages, y_wake, y_zombie, y_blocked, upd x_registers (4 * s + i) (y_memory (32 * s + a)), y_memory, y_frame, x_held, y_kind, x_openTargets, y_mode, x_openPlaces, x_pipeCounts, y_pipe, x_nameFiles, y_size, x_fileWords, x_safeNames, y_safeSize, x_safeWords, y_said), fun post h => hX post ?_, fun post h => hY post ?_, uk_Rmk (uk_All_reg A hs hp hz hb hi)⟩
    · unfold wpX_loadWord
      refine xk_wordIndex hs n2 hn8 hpf (fun z => absurd hv z) (fun k hk ek => ?_)
      have : k = a := uk_nIn (by omega) (by omega) (ek.symm.trans ea)
      subst this
      rw [f2]
      refine br_f (uk_ne1 (by omega)) ⟨vp_in_nI (by omega) (by decide), vi, ?_⟩
      rw [nI_clamp (show 4 * s + i < 2 ^ 31 by omega), nI_clamp (show 4 * (y_frame (8 * s + k / 4)).toNatClampNeg + k % 4 < 2 ^ 31 by omega), f3 (k % 4) (by omega), show 32 * s + 4 * (k / 4) + k % 4 = 32 * s + k by omega]
      exact nm_e h
    · unfold wY_plain_179
      refine ⟨vs, ?_⟩
      rw [es, n3, uk_4m, ea]
      refine yk_nom (4 * n) rfl (by omega) (fun _ => br_t rfl (br_t rfl ?_)) (fun z => absurd (vp_in_nI ha (by omega)) z)
      rw [uk_32m, nI_add, nI_clamp (show 4 * s + i < 2 ^ 31 by omega), nI_clamp (show 32 * s + a < 2 ^ 31 by omega)]
      exact ⟨vp_in_nI (by omega) (by decide), vi, nm_e h⟩
  · obtain ⟨P', Q', zo', oh', ki', sz', fu', A', x1, y1⟩ := uk_exitA (-1) A hs hp hz
    refine ⟨_, _, fun post h => hX post ?_, fun post h => hY post ?_, uk_RmkK 1 A'⟩
    · unfold wpX_loadWord
      exact xk_wordIndex hs n2 hn8 hpf (fun z => br_t rfl (x1 _ h)) (fun k hk ek => absurd (by rw [ek]; exact vp_in_nI hk (by omega)) hv)
    · unfold wY_plain_179
      refine ⟨vs, ?_⟩
      rw [es, n3, uk_4m]
      refine yk_nom (4 * n) rfl (by omega) (fun z => absurd z hv) (fun z => br_f (by decide) ?_)
      unfold wpY_kill
      exact y1 _ h
theorem xk_ownPage {post : Int32 → SX → Prop} {s p f0 : Nat} (hs : s < 8) (hp8 : p < 8) (hf0 : f0 < 20) (ef : x_pageFrames (8 * s + p) = nI f0) (h1 : x_frameUsers f0 = 1 → post 1 (x_changes, x_saidCount, x_time, x_lastSlot, x_sliceSteps, x_latestPid, x_greatestPid, x_code, x_codeLengths, x_pids, x_parents, x_programs, x_places, x_states, x_statuses, x_stepCounts, x_copyCounts, x_wakeTimes, x_registers, x_pageCounts, x_pageFrames, x_held, x_frameUsers, x_frameWords, x_openHolders, x_openKinds, x_openTargets, x_openPlaces, x_openModes, x_pipeFirsts, x_pipeCounts, x_pipeWords, x_nameFiles, x_fileSizes, x_fileWords, x_safeNames, x_safeSizes, x_safeWords, x_saidInts)) (h0 : x_frameUsers f0 ≠ 1 → uk_ff (fun f => x_frameUsers f = 0) 20 = -1 → post 0 (x_changes, x_saidCount, x_time, x_lastSlot, x_sliceSteps, x_latestPid, x_greatestPid, x_code, x_codeLengths, x_pids, x_parents, x_programs, x_places, x_states, x_statuses, x_stepCounts, x_copyCounts, x_wakeTimes, x_registers, x_pageCounts, x_pageFrames, x_held, x_frameUsers, x_frameWords, x_openHolders, x_openKinds, x_openTargets, x_openPlaces, x_openModes, x_pipeFirsts, x_pipeCounts, x_pipeWords, x_nameFiles, x_fileSizes, x_fileWords, x_safeNames, x_safeSizes, x_safeWords, x_saidInts)) (h2 : x_frameUsers f0 ≠ 1 → ∀ f, f < 20 → f ≠ f0 → uk_ff (fun f => x_frameUsers f = 0) 20 = nI f → post 1 (x_changes, x_saidCount, x_time, x_lastSlot, x_sliceSteps, x_latestPid, x_greatestPid, x_code, x_codeLengths, x_pids, x_parents, x_programs, x_places, x_states, x_statuses, x_stepCounts, upd x_copyCounts s (x_copyCounts s + 1), x_wakeTimes, x_registers, x_pageCounts, upd x_pageFrames (8 * s + p) (nI f), x_held, upd (upd x_frameUsers f0 (x_frameUsers f0 - 1)) f 1, uk_fl x_frameWords (4 * f) (fun k => x_frameWords (4 * f0 + k)) 4, x_openHolders, x_openKinds, x_openTargets, x_openPlaces, x_openModes, x_pipeFirsts, x_pipeCounts, x_pipeWords, x_nameFiles, x_fileSizes, x_fileWords, x_safeNames, x_safeSizes, x_safeWords, x_saidInts)) (hz0 : x_frameUsers f0 ≠ 0) : wpX_ownPage post (x_changes, x_saidCount, x_time, x_lastSlot, x_sliceSteps, x_latestPid, x_greatestPid, x_code, x_codeLengths, x_pids, x_parents, x_programs, x_places, x_states, x_statuses, x_stepCounts, x_copyCounts, x_wakeTimes, x_registers, x_pageCounts, x_pageFrames, x_held, x_frameUsers, x_frameWords, x_openHolders, x_openKinds, x_openTargets, x_openPlaces, x_openModes, x_pipeFirsts, x_pipeCounts, x_pipeWords, x_nameFiles, x_fileSizes, x_fileWords, x_safeNames, x_safeSizes, x_safeWords, x_saidInts) (nI s) (nI p) := by
  obtain ⟨_, vs, es⟩ := uk_lp 8 hs (by decide)
  have v64 : vp_in (nI (8 * s + p)) 64 := vp_in_nI (by omega) (by decide)
  have v0 : vp_in (nI f0) 20 := vp_in_nI hf0 (by decide)
  unfold wpX_ownPage
  dsimp only
  rw [uk_m8, nI_add]
  refine nm_e ⟨v64, ?_⟩
  rw [nI_clamp (show 8 * s + p < 2 ^ 31 by omega), ef]
  refine nm_e ⟨v0, ?_⟩
  rw [nI_clamp (show f0 < 2 ^ 31 by omega)]
  refine ⟨h1, fun hn => xk_freeFrame ?_⟩
  rcases uk_ffs (fun f => x_frameUsers f = 0) 20 with ⟨e, _⟩ | ⟨f, hf, e, e0, _⟩
  · rw [e]
    exact br_t rfl (h0 hn e)
  · have hff : f ≠ f0 := fun z => by subst z; exact hz0 e0
    have k2 := h2 hn f hf hff e
    rw [e]
    have vf : vp_in (nI f) 20 := vp_in_nI hf (by decide)
    refine br_f (uk_ne1 (by omega)) ?_
    have key := uk_run0 (fun m k (fw : Nat → Int32) => wX_ownPage_45 post (nI s) (nI (8 * s + p)) (nI f0) (nI f) x_changes x_saidCount x_time x_lastSlot x_sliceSteps x_latestPid x_greatestPid m (nI k) x_code x_codeLengths x_pids x_parents x_programs x_places x_states x_statuses x_stepCounts x_copyCounts x_wakeTimes x_registers x_pageCounts x_pageFrames x_held x_frameUsers fw x_openHolders x_openKinds x_openTargets x_openPlaces x_openModes x_pipeFirsts x_pipeCounts x_pipeWords x_nameFiles x_fileSizes x_fileWords x_safeNames x_safeSizes x_safeWords x_saidInts) (fun k => uk_fl x_frameWords (4 * f) (fun k => x_frameWords (4 * f0 + k)) k) 4 (fun m => by
      refine br_t (uk_refl 4) ⟨v0, v0, ?_⟩
      rw [es, nI_clamp (show f0 < 2 ^ 31 by omega), nI_clamp (show f < 2 ^ 31 by omega), nI_clamp (show 8 * s + p < 2 ^ 31 by omega)]
      exact nm_e ⟨vf, nm_e ⟨v64, nm_e ⟨vs, vs, nm_e k2⟩⟩⟩) (fun m k hk ih => by
      refine br_f (nI_ge (b := 4) hk (by decide)) ?_
      rw [uk_m4, uk_m4, nI_add, nI_add, nI_clamp (show 4 * f0 + k < 2 ^ 31 by omega), nI_clamp (show 4 * f + k < 2 ^ 31 by omega), uk_flout (show 4 * f0 + k < 4 * f ∨ 4 * f + k ≤ 4 * f0 + k by omega)]
      refine ⟨vp_in_nI (by omega) (by decide), vp_in_nI (by omega) (by decide), nm_r (uk_fls (g := fun k => x_frameWords (4 * f0 + k))) (nm_r (nI_1 k) ih)⟩)
    rw [uk_fl0] at key
    exact key
theorem uk_store {t b s i j : Nat} {L0 : Nat → Int32} (A : uk_All t b x_changes x_saidCount x_time x_lastSlot x_sliceSteps x_latestPid x_greatestPid x_code x_codeLengths x_pids x_parents x_programs x_places x_states x_statuses x_stepCounts x_copyCounts x_wakeTimes x_registers x_pageCounts x_pageFrames x_held x_frameUsers x_frameWords x_openHolders x_openKinds x_openTargets x_openPlaces x_openModes x_pipeFirsts x_pipeCounts x_pipeWords x_nameFiles x_fileSizes x_fileWords x_safeNames x_safeSizes x_safeWords x_saidInts y_time y_last y_lastPid y_did y_killed y_ops y_as y_bs y_pages y_wake y_zombie y_blocked y_memory y_frame y_kind y_mode y_pipe y_size y_safeSize y_said) (hs : s < 8) (hp : x_pids s ≠ 0) (hz : y_zombie s = 0) (hi : i < 4) (hj : j < 4) (hL : upd L0 s (L0 s + 1) = x_places) :
  ∃ u' v', (∀ post : SX → Prop, post u' → wpX_compute post (x_changes, x_saidCount, x_time, x_lastSlot, x_sliceSteps, x_latestPid, x_greatestPid, x_code, x_codeLengths, x_pids, x_parents, x_programs, x_places, x_states, x_statuses, x_stepCounts, x_copyCounts, x_wakeTimes, x_registers, x_pageCounts, x_pageFrames, x_held, x_frameUsers, x_frameWords, x_openHolders, x_openKinds, x_openTargets, x_openPlaces, x_openModes, x_pipeFirsts, x_pipeCounts, x_pipeWords, x_nameFiles, x_fileSizes, x_fileWords, x_safeNames, x_safeSizes, x_safeWords, x_saidInts) (nI s) 5 (nI i) (nI j)) ∧ (∀ post : SY → Prop, post v' → wpY_plain post (x_changes, y_time, y_last, y_lastPid, y_did, x_greatestPid, x_latestPid, x_saidCount, y_killed, y_ops, y_as, y_bs, x_codeLengths, x_pids, x_parents, x_programs, L0, x_statuses, x_stepCounts, x_copyCounts, y_pages, y_wake, y_zombie, y_blocked, x_registers, y_memory, y_frame, x_held, y_kind, x_openTargets, y_mode, x_openPlaces, x_pipeCounts, y_pipe, x_nameFiles, y_size, x_fileWords, x_safeNames, y_safeSize, x_safeWords, y_said) (nI s) 5 (nI (4 * s + i)) (nI j)) ∧ uk_R y_time t b u' v' := by
  obtain ⟨_, vs, es⟩ := uk_lp 8 hs (by decide)
  have hMe := uk_aMe A
  have hFu := uk_aFu A
  have hP : ∀ s, s < 8 → ¬ x_pids s < 0 := fun s hs => (uk_aPs A s hs).1
  have hN : ∀ s, s < 8 → x_pids s ≠ 0 → ∃ n, n ≤ 8 ∧ y_pages s = nI n := fun s hs hp => by
    obtain ⟨n, h1, _, h3, _⟩ := hMe s hs hp
    exact ⟨n, h1, h3⟩
  obtain ⟨n, hn8, n2, n3, n4, n5⟩ := hMe s hs hp
  have hpf : ∀ p, p < n → vp_in (x_pageFrames (8 * s + p)) 20 := fun p hp => by rw [(n5 p hp).2.1]; exact (n5 p hp).1
  have vi : vp_in (nI (4 * s + i)) 32 := vp_in_nI (by omega) (by decide)
  have vj : vp_in (nI (4 * s + j)) 32 := vp_in_nI (by omega) (by decide)
  have hX : ∀ post : SX → Prop, wpX_storeWord post (x_changes, x_saidCount, x_time, x_lastSlot, x_sliceSteps, x_latestPid, x_greatestPid, x_code, x_codeLengths, x_pids, x_parents, x_programs, x_places, x_states, x_statuses, x_stepCounts, x_copyCounts, x_wakeTimes, x_registers, x_pageCounts, x_pageFrames, x_held, x_frameUsers, x_frameWords, x_openHolders, x_openKinds, x_openTargets, x_openPlaces, x_openModes, x_pipeFirsts, x_pipeCounts, x_pipeWords, x_nameFiles, x_fileSizes, x_fileWords, x_safeNames, x_safeSizes, x_safeWords, x_saidInts) (nI s) (x_registers (4 * s + i)) (x_registers (4 * s + j)) → wpX_compute post (x_changes, x_saidCount, x_time, x_lastSlot, x_sliceSteps, x_latestPid, x_greatestPid, x_code, x_codeLengths, x_pids, x_parents, x_programs, x_places, x_states, x_statuses, x_stepCounts, x_copyCounts, x_wakeTimes, x_registers, x_pageCounts, x_pageFrames, x_held, x_frameUsers, x_frameWords, x_openHolders, x_openKinds, x_openTargets, x_openPlaces, x_openModes, x_pipeFirsts, x_pipeCounts, x_pipeWords, x_nameFiles, x_fileSizes, x_fileWords, x_safeNames, x_safeSizes, x_safeWords, x_saidInts) (nI s) 5 (nI i) (nI j) := fun post h => by
    unfold wpX_compute
    dsimp only
    rw [uk_m4]
    refine nm_e ?_
    rw [nI_add, nI_add, nI_clamp (show 4 * s + j < 2 ^ 31 by omega), nI_clamp (show 4 * s + i < 2 ^ 31 by omega)]
    exact br_f (by decide) (br_f (by decide) (br_f (by decide) (br_f (by decide) (br_f (by decide) (br_f (by decide) (br_f (by decide) (br_t rfl ⟨vi, vj, h⟩)))))))
  have hY : ∀ post : SY → Prop, wY_plain_179 post (nI s) 5 (nI (4 * s + i)) (x_registers (4 * s + j)) x_changes y_time y_last y_lastPid y_did x_greatestPid x_latestPid x_saidCount y_killed y_ops y_as y_bs x_codeLengths x_pids x_parents x_programs x_places x_statuses x_stepCounts x_copyCounts y_pages y_wake y_zombie y_blocked x_registers y_memory y_frame x_held y_kind x_openTargets y_mode x_openPlaces x_pipeCounts y_pipe x_nameFiles y_size x_fileWords x_safeNames y_safeSize x_safeWords y_said → wpY_plain post (x_changes, y_time, y_last, y_lastPid, y_did, x_greatestPid, x_latestPid, x_saidCount, y_killed, y_ops, y_as, y_bs, x_codeLengths, x_pids, x_parents, x_programs, L0, x_statuses, x_stepCounts, x_copyCounts, y_pages, y_wake, y_zombie, y_blocked, x_registers, y_memory, y_frame, x_held, y_kind, x_openTargets, y_mode, x_openPlaces, x_pipeCounts, y_pipe, x_nameFiles, y_size, x_fileWords, x_safeNames, y_safeSize, x_safeWords, y_said) (nI s) 5 (nI (4 * s + i)) (nI j) := fun post h => by
    unfold wpY_plain
    dsimp only
    rw [uk_4m, nI_add, nI_clamp (show 4 * s + j < 2 ^ 31 by omega)]
    refine br_f (by decide) (br_f (by decide) ⟨vj, ?_⟩)
    unfold wY_plain_25
    rw [es]
    exact ⟨vs, vs, nm_r hL (br_f (by decide) (br_f (by decide) (br_f (by decide) (br_f (by decide) (br_f (by decide) (br_f (by decide) (br_f (by decide) (br_t rfl h))))))))⟩
  by_cases hv : vp_in (x_registers (4 * s + j)) (4 * n)
  · obtain ⟨a, ha, ea⟩ := vp_in_of hv (by omega)
    obtain ⟨f1, f2, f3⟩ := n5 (a / 4) (by omega)
    obtain ⟨f0, hf0, ef⟩ := vp_in_of f1 (by decide)
    have epf : x_pageFrames (8 * s + a / 4) = nI f0 := f2.trans ef
    have hsum := hFu f0 hf0
    have hle := uk_rsle hMe f0
    have hge : 0 < uk_sm (uk_rw x_pids y_pages y_frame f0) 8 := by
      have h1 := uk_smle (g := uk_rw x_pids y_pages y_frame f0) 8 hs
      rw [uk_rwn hp n3 (by omega)] at h1
      have h2 := uk_cnp (P := fun p => y_frame (8 * s + p) = nI f0) ef n (show a / 4 < n by omega)
      omega
    have hn0 : x_frameUsers f0 ≠ 0 := fun z => by
      have := (uk_fun hMe hFu hf0).1.mp z
      omega
    have e4 : nI a / 4 = nI (a / 4) := pk_div (d := 4) (by omega) (by decide) (by decide)
    have ea4 : 32 * s + 4 * (a / 4) + a % 4 = 32 * s + a := by omega
    have hY2 : ∀ post : SY → Prop, wpY_store post (x_changes, y_time, y_last, y_lastPid, y_did, x_greatestPid, x_latestPid, x_saidCount, y_killed, y_ops, y_as, y_bs, x_codeLengths, x_pids, x_parents, x_programs, x_places, x_statuses, x_stepCounts, x_copyCounts, y_pages, y_wake, y_zombie, y_blocked, x_registers, y_memory, y_frame, x_held, y_kind, x_openTargets, y_mode, x_openPlaces, x_pipeCounts, y_pipe, x_nameFiles, y_size, x_fileWords, x_safeNames, y_safeSize, x_safeWords, y_said) (nI s) (nI a) (x_registers (4 * s + i)) → wY_plain_179 post (nI s) 5 (nI (4 * s + i)) (x_registers (4 * s + j)) x_changes y_time y_last y_lastPid y_did x_greatestPid x_latestPid x_saidCount y_killed y_ops y_as y_bs x_codeLengths x_pids x_parents x_programs x_places x_statuses x_stepCounts x_copyCounts y_pages y_wake y_zombie y_blocked x_registers y_memory y_frame x_held y_kind x_openTargets y_mode x_openPlaces x_pipeCounts y_pipe x_nameFiles y_size x_fileWords x_safeNames y_safeSize x_safeWords y_said := fun post h => by
      unfold wY_plain_179
      refine ⟨vs, ?_⟩
      rw [es, n3, uk_4m, ea]
      refine yk_nom (4 * n) rfl (by omega) (fun _ => br_t rfl (br_f (by decide) ⟨vi, ?_⟩)) (fun z => absurd (vp_in_nI ha (by omega)) z)
      rw [nI_clamp (show 4 * s + i < 2 ^ 31 by omega)]
      exact h
    have v64 : vp_in (nI (8 * s + a / 4)) 64 := vp_in_nI (by omega) (by decide)
    have v256 : vp_in (nI (32 * s + a)) 256 := vp_in_nI (by omega) (by decide)
    have hff : uk_ff (fun f => uk_sm (uk_rw x_pids y_pages y_frame f) 8 = 0) 20 = uk_ff (fun f => x_frameUsers f = 0) 20 := uk_ffc 20 (fun f hf => (uk_fun hMe hFu hf).1.symm)
    by_cases h1 : x_frameUsers f0 = 1
    · have hs1 := (uk_fun hMe hFu hf0).2.mp h1
      have hM' := uk_wr_Me (x_registers (4 * s + i)) hMe hs hp n3 hn8 (show a / 4 < n by omega) ef hf0 hs1 (show a % 4 < 4 by omega)
      rw [ea4] at hM'
      have A1 : uk_All t b x_changes x_saidCount x_time x_lastSlot x_sliceSteps x_latestPid x_greatestPid x_code x_codeLengths x_pids x_parents x_programs x_places x_states x_statuses x_stepCounts x_copyCounts x_wakeTimes x_registers x_pageCounts x_pageFrames x_held x_frameUsers (upd x_frameWords (4 * f0 + a % 4) (x_registers (4 * s + i))) x_openHolders x_openKinds x_openTargets x_openPlaces x_openModes x_pipeFirsts x_pipeCounts x_pipeWords x_nameFiles x_fileSizes x_fileWords x_safeNames x_safeSizes x_safeWords x_saidInts y_time y_last y_lastPid y_did y_killed y_ops y_as y_bs y_pages y_wake y_zombie y_blocked (upd y_memory (32 * s + a) (x_registers (4 * s + i))) y_frame y_kind y_mode y_pipe y_size y_safeSize y_said := ⟨uk_aG A, uk_aN A, uk_aC A, uk_aeT A, uk_aPr A, uk_aPs A, hM', uk_aFu A, uk_aHd A, uk_aHo A, uk_aOk A, uk_aPi A, uk_aFi A, uk_aSa A, uk_aSc A, uk_aWk A⟩
      refine ⟨_, _, fun post h => hX post ?_, fun post h => hY post (hY2 post ?_), uk_Rmk A1⟩
      · unfold wpX_storeWord
        refine xk_wordIndex hs n2 hn8 hpf (fun z => absurd hv z) (fun k hk ek => br_f (uk_ne1 ?_) ⟨by decide, ?_⟩)
        · have := uk_inc (hpf (k / 4) (by omega)); omega
        · rw [ea, e4]
          refine xk_ownPage hs (by omega) hf0 epf (fun _ => br_f (by decide) ?_) (fun z => absurd h1 z) (fun z => absurd h1 z) hn0
          refine xk_wordIndex hs n2 hn8 hpf (fun z => absurd (vp_in_nI ha (by omega)) z) (fun k2 hk2 ek2 => ?_)
          have : k2 = a := (uk_nIn (by omega) (by omega) ek2).symm
          subst this
          rw [epf, nI_clamp (show f0 < 2 ^ 31 by omega)]
          refine ⟨vp_in_nI (by omega) (by decide), ?_⟩
          rw [nI_clamp (show 4 * f0 + k2 % 4 < 2 ^ 31 by omega)]
          exact nm_e h
      · unfold wpY_store
        dsimp only
        rw [e4, uk_8m, nI_add]
        refine ⟨by decide, nm_e ⟨v64, ?_⟩⟩
        rw [nI_clamp (show 8 * s + a / 4 < 2 ^ 31 by omega), ef]
        refine yk_sharers hP hN (br_t (by rw [hs1]; decide) ?_)
        unfold wY_store_61
        rw [uk_32m, nI_add, nI_clamp (show 32 * s + a < 2 ^ 31 by omega)]
        exact ⟨v256, nm_e h⟩
    · have hs2 : ¬ nI (uk_sm (uk_rw x_pids y_pages y_frame f0) 8) ≤ 1 := fun z => by
        have z1 := (nI_leI (b := 1) (by omega) (by decide)).mp z
        exact h1 ((uk_fun hMe hFu hf0).2.mpr (by omega))
      have yS : ∀ post : SY → Prop, (wpY_freeFrame (fun r => ((0 ≤ r → (vp_in (nI (8 * s + a / 4)) 64 ∧ ∀ fr', fr' = upd y_frame (8 * s + a / 4) r → (vp_in (nI s) 8 ∧ (vp_in (nI s) 8 ∧ ∀ cp, cp = upd x_copyCounts s (x_copyCounts s + 1) → wY_store_61 post (nI s) (nI a) (x_registers (4 * s + i)) x_changes y_time y_last y_lastPid y_did x_greatestPid x_latestPid x_saidCount y_killed y_ops y_as y_bs x_codeLengths x_pids x_parents x_programs x_places x_statuses x_stepCounts cp y_pages y_wake y_zombie y_blocked x_registers y_memory fr' x_held y_kind x_openTargets y_mode x_openPlaces x_pipeCounts y_pipe x_nameFiles y_size x_fileWords x_safeNames y_safeSize x_safeWords y_said)))) ∧ (¬ 0 ≤ r → wpY_kill post (x_changes, y_time, y_last, y_lastPid, y_did, x_greatestPid, x_latestPid, x_saidCount, y_killed, y_ops, y_as, y_bs, x_codeLengths, x_pids, x_parents, x_programs, x_places, x_statuses, x_stepCounts, x_copyCounts, y_pages, y_wake, y_zombie, y_blocked, x_registers, y_memory, y_frame, x_held, y_kind, x_openTargets, y_mode, x_openPlaces, x_pipeCounts, y_pipe, x_nameFiles, y_size, x_fileWords, x_safeNames, y_safeSize, x_safeWords, y_said) (nI s)))) (x_changes, y_time, y_last, y_lastPid, y_did, x_greatestPid, x_latestPid, x_saidCount, y_killed, y_ops, y_as, y_bs, x_codeLengths, x_pids, x_parents, x_programs, x_places, x_statuses, x_stepCounts, x_copyCounts, y_pages, y_wake, y_zombie, y_blocked, x_registers, y_memory, y_frame, x_held, y_kind, x_openTargets, y_mode, x_openPlaces, x_pipeCounts, y_pipe, x_nameFiles, y_size, x_fileWords, x_safeNames, y_safeSize, x_safeWords, y_said)) → wpY_store post (x_changes, y_time, y_last, y_lastPid, y_did, x_greatestPid, x_latestPid, x_saidCount, y_killed, y_ops, y_as, y_bs, x_codeLengths, x_pids, x_parents, x_programs, x_places, x_statuses, x_stepCounts, x_copyCounts, y_pages, y_wake, y_zombie, y_blocked, x_registers, y_memory, y_frame, x_held, y_kind, x_openTargets, y_mode, x_openPlaces, x_pipeCounts, y_pipe, x_nameFiles, y_size, x_fileWords, x_safeNames, y_safeSize, x_safeWords, y_said) (nI s) (nI a) (x_registers (4 * s + i)) := fun post h => by
        unfold wpY_store
        dsimp only
        rw [e4, uk_8m, nI_add]
        refine ⟨by decide, nm_e ⟨v64, ?_⟩⟩
        rw [nI_clamp (show 8 * s + a / 4 < 2 ^ 31 by omega), ef, es]
        exact yk_sharers hP hN (br_f hs2 h)
      rcases uk_ffs (fun f => x_frameUsers f = 0) 20 with ⟨e, _⟩ | ⟨f, hf, e, e0, _⟩
      · obtain ⟨P', Q', zo', oh', ki', sz', fu', A', x1, y1⟩ := uk_exitA (-1) A hs hp hz
        refine ⟨_, _, fun post h => hX post ?_, fun post h => hY post (hY2 post (yS post ?_)), uk_RmkK 1 A'⟩
        · unfold wpX_storeWord
          refine xk_wordIndex hs n2 hn8 hpf (fun z => absurd hv z) (fun k hk ek => br_f (uk_ne1 ?_) ⟨by decide, ?_⟩)
          · have := uk_inc (hpf (k / 4) (by omega)); omega
          · rw [ea, e4]
            refine xk_ownPage hs (by omega) hf0 epf (fun z => absurd z h1) (fun _ _ => br_t rfl ?_) (fun _ f hf _ ee => absurd (ee.symm.trans e) (uk_ne1 (by omega))) hn0
            unfold wX_storeWord_21
            exact x1 _ h
        · refine yk_freeFrame hP hN ?_
          rw [hff, e]
          refine br_f (by decide) ?_
          unfold wpY_kill
          exact y1 _ h
      · have hs0 := (uk_fun hMe hFu hf).1.mp e0
        have hM1 := uk_ow_Me hMe hs n3 (by omega) (show a / 4 < n by omega) ef hf0 hf hs0
        have hF1 := uk_ow_Fu hMe hFu hs hp n3 hn8 (show a / 4 < n by omega) ef hf0 hf hs0
        have hs1 : uk_sm (uk_rw x_pids y_pages (upd y_frame (8 * s + a / 4) (nI f)) f) 8 = 1 := by
          have := (uk_fun hM1 hF1 hf).2
          exact this.mp pk_us
        have hM' := uk_wr_Me (x_registers (4 * s + i)) hM1 hs hp n3 hn8 (show a / 4 < n by omega) pk_us hf hs1 (show a % 4 < 4 by omega)
        rw [ea4] at hM'
        have A1 : uk_All t b x_changes x_saidCount x_time x_lastSlot x_sliceSteps x_latestPid x_greatestPid x_code x_codeLengths x_pids x_parents x_programs x_places x_states x_statuses x_stepCounts (upd x_copyCounts s (x_copyCounts s + 1)) x_wakeTimes x_registers x_pageCounts (upd x_pageFrames (8 * s + a / 4) (nI f)) x_held (upd (upd x_frameUsers f0 (x_frameUsers f0 - 1)) f 1) (upd (uk_fl x_frameWords (4 * f) (fun k => x_frameWords (4 * f0 + k)) 4) (4 * f + a % 4) (x_registers (4 * s + i))) x_openHolders x_openKinds x_openTargets x_openPlaces x_openModes x_pipeFirsts x_pipeCounts x_pipeWords x_nameFiles x_fileSizes x_fileWords x_safeNames x_safeSizes x_safeWords x_saidInts y_time y_last y_lastPid y_did y_killed y_ops y_as y_bs y_pages y_wake y_zombie y_blocked (upd y_memory (32 * s + a) (x_registers (4 * s + i))) (upd y_frame (8 * s + a / 4) (nI f)) y_kind y_mode y_pipe y_size y_safeSize y_said := ⟨uk_aG A, uk_aN A, uk_aC A, uk_aeT A, uk_aPr A, uk_aPs A, hM', hF1, uk_aHd A, uk_aHo A, uk_aOk A, uk_aPi A, uk_aFi A, uk_aSa A, uk_aSc A, uk_aWk A⟩
        refine ⟨_, _, fun post h => hX post ?_, fun post h => hY post (hY2 post (yS post ?_)), uk_Rmk A1⟩
        · unfold wpX_storeWord
          refine xk_wordIndex hs n2 hn8 hpf (fun z => absurd hv z) (fun k hk ek => br_f (uk_ne1 ?_) ⟨by decide, ?_⟩)
          · have := uk_inc (hpf (k / 4) (by omega)); omega
          · rw [ea, e4]
            refine xk_ownPage hs (by omega) hf0 epf (fun z => absurd z h1) (fun _ ee => absurd (e.symm.trans ee) (uk_ne1 (by omega))) (fun _ f' hf' _ ee => ?_) hn0
            have : f' = f := uk_nIn (by omega) (by omega) (ee.symm.trans e)
            subst this
            refine br_f (by decide) (xk_wordIndex hs n2 hn8 (fun p hp => ?_) (fun z => absurd (vp_in_nI ha (by omega)) z) (fun k2 hk2 ek2 => ?_))
            · by_cases w : p = a / 4
              · subst w; rw [pk_us]; exact vp_in_nI hf (by decide)
              · rw [pk_un (by omega)]; exact hpf p hp
            · have : k2 = a := (uk_nIn (by omega) (by omega) ek2).symm
              subst this
              rw [pk_us, nI_clamp (show f' < 2 ^ 31 by omega)]
              refine ⟨vp_in_nI (by omega) (by decide), ?_⟩
              rw [nI_clamp (show 4 * f' + k2 % 4 < 2 ^ 31 by omega)]
              exact nm_e h
        · refine yk_freeFrame hP hN ?_
          rw [hff, e]
          refine br_t (nI_pos' (by omega)) ⟨v64, nm_e ⟨vs, vs, nm_e ?_⟩⟩
          unfold wY_store_61
          rw [uk_32m, nI_add, nI_clamp (show 32 * s + a < 2 ^ 31 by omega)]
          exact ⟨v256, nm_e h⟩
  · obtain ⟨P', Q', zo', oh', ki', sz', fu', A', x1, y1⟩ := uk_exitA (-1) A hs hp hz
    refine ⟨_, _, fun post h => hX post ?_, fun post h => hY post ?_, uk_RmkK 1 A'⟩
    · unfold wpX_storeWord
      refine xk_wordIndex hs n2 hn8 hpf (fun z => br_t rfl ?_) (fun k hk ek => absurd (by rw [ek]; exact vp_in_nI hk (by omega)) hv)
      unfold wX_storeWord_21
      exact x1 _ h
    · unfold wY_plain_179
      refine ⟨vs, ?_⟩
      rw [es, n3, uk_4m]
      refine yk_nom (4 * n) rfl (by omega) (fun z => absurd z hv) (fun z => br_f (by decide) ?_)
      unfold wpY_kill
      exact y1 _ h
end
