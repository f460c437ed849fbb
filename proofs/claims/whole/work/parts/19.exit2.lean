/-! a process ends: the whole of it -/
section
variable {x_changes x_saidCount x_time x_lastSlot x_sliceSteps x_latestPid x_greatestPid : Int32} {x_code x_codeLengths x_pids x_parents x_programs x_places x_states x_statuses x_stepCounts x_copyCounts x_wakeTimes x_registers x_pageCounts x_pageFrames x_held x_frameUsers x_frameWords x_openHolders x_openKinds x_openTargets x_openPlaces x_openModes x_pipeFirsts x_pipeCounts x_pipeWords x_nameFiles x_fileSizes x_fileWords x_safeNames x_safeSizes x_safeWords x_saidInts : Nat → Int32} {y_time y_last y_lastPid y_did y_killed : Int32} {y_ops y_as y_bs y_pages y_wake y_zombie y_blocked y_reg y_memory y_frame y_kind y_mode y_pipe y_size y_safeSize y_said : Nat → Int32}
theorem uk_heir {e : Nat} {st : Int32} (he : e < 8) (hPs : uk_Ps x_pids x_parents x_programs x_places x_statuses x_states y_zombie y_blocked) {n : Nat} (hn : x_pageCounts e = nI n) (hn8 : n ≤ 8) (hpf : ∀ p, p < n → vp_in (x_pageFrames (8 * e + p)) 20) : ∃ heir : Int32, (heir = 0 ∨ heir = 1) ∧
  (∀ (post : SX → Prop) (m : Nat), wX_endProcess_86 post (nI e) st (x_pids e) heir x_changes x_saidCount x_time x_lastSlot x_sliceSteps x_latestPid x_greatestPid m 0 x_code x_codeLengths x_pids x_parents x_programs x_places x_states x_statuses x_stepCounts x_copyCounts x_wakeTimes x_registers (upd x_pageCounts e 0) x_pageFrames x_held (uk_dec x_frameUsers x_pageFrames (8 * e) n) x_frameWords x_openHolders x_openKinds x_openTargets x_openPlaces x_openModes x_pipeFirsts x_pipeCounts x_pipeWords x_nameFiles x_fileSizes x_fileWords x_safeNames x_safeSizes x_safeWords x_saidInts → wX_endProcess_10 post (nI e) st (x_pids e) 1 (nI 6) x_changes x_saidCount x_time x_lastSlot x_sliceSteps x_latestPid x_greatestPid x_code x_codeLengths x_pids x_parents x_programs x_places x_states x_statuses x_stepCounts x_copyCounts x_wakeTimes x_registers x_pageCounts x_pageFrames x_held x_frameUsers x_frameWords x_openHolders x_openKinds x_openTargets x_openPlaces x_openModes x_pipeFirsts x_pipeCounts x_pipeWords x_nameFiles x_fileSizes x_fileWords x_safeNames x_safeSizes x_safeWords x_saidInts) ∧
  (∀ (post : SY → Prop) (m : Nat), wY_exit_74 post (nI e) st (x_pids e) heir x_changes y_time y_last y_lastPid y_did x_greatestPid x_latestPid x_saidCount y_killed m 0 y_ops y_as y_bs x_codeLengths x_pids x_parents x_programs x_places x_statuses x_stepCounts x_copyCounts (upd y_pages e 0) y_wake y_zombie y_blocked y_reg y_memory y_frame x_held y_kind x_openTargets y_mode x_openPlaces x_pipeCounts y_pipe x_nameFiles y_size x_fileWords x_safeNames y_safeSize x_safeWords y_said → wY_exit_10 post (nI e) st (x_pids e) 1 (nI 6) x_changes y_time y_last y_lastPid y_did x_greatestPid x_latestPid x_saidCount y_killed y_ops y_as y_bs x_codeLengths x_pids x_parents x_programs x_places x_statuses x_stepCounts x_copyCounts y_pages y_wake y_zombie y_blocked y_reg y_memory y_frame x_held y_kind x_openTargets y_mode x_openPlaces x_pipeCounts y_pipe x_nameFiles y_size x_fileWords x_safeNames y_safeSize x_safeWords y_said) := by
  obtain ⟨_, vs, es⟩ := uk_lp 8 he (by decide)
  have n11 : ¬ (1 : Int32) < 1 := by decide
  have key : ∀ heir : Int32, ((x_pids e = 1 ∧ heir = 0) ∨ (x_pids e ≠ 1 ∧ ((uk_ff (fun s => x_pids s = 1) 8 = -1 ∧ heir = 0) ∨ (∃ i, i < 8 ∧ uk_ff (fun s => x_pids s = 1) 8 = nI i ∧ ((x_states i = 3 ∧ y_zombie i ≠ 0 ∧ heir = 0) ∨ (x_states i ≠ 3 ∧ y_zombie i = 0 ∧ heir = 1)))))) →
    (∀ (post : SX → Prop) (m : Nat), wX_endProcess_86 post (nI e) st (x_pids e) heir x_changes x_saidCount x_time x_lastSlot x_sliceSteps x_latestPid x_greatestPid m 0 x_code x_codeLengths x_pids x_parents x_programs x_places x_states x_statuses x_stepCounts x_copyCounts x_wakeTimes x_registers (upd x_pageCounts e 0) x_pageFrames x_held (uk_dec x_frameUsers x_pageFrames (8 * e) n) x_frameWords x_openHolders x_openKinds x_openTargets x_openPlaces x_openModes x_pipeFirsts x_pipeCounts x_pipeWords x_nameFiles x_fileSizes x_fileWords x_safeNames x_safeSizes x_safeWords x_saidInts → wX_endProcess_10 post (nI e) st (x_pids e) 1 (nI 6) x_changes x_saidCount x_time x_lastSlot x_sliceSteps x_latestPid x_greatestPid x_code x_codeLengths x_pids x_parents x_programs x_places x_states x_statuses x_stepCounts x_copyCounts x_wakeTimes x_registers x_pageCounts x_pageFrames x_held x_frameUsers x_frameWords x_openHolders x_openKinds x_openTargets x_openPlaces x_openModes x_pipeFirsts x_pipeCounts x_pipeWords x_nameFiles x_fileSizes x_fileWords x_safeNames x_safeSizes x_safeWords x_saidInts) ∧
    (∀ (post : SY → Prop) (m : Nat), wY_exit_74 post (nI e) st (x_pids e) heir x_changes y_time y_last y_lastPid y_did x_greatestPid x_latestPid x_saidCount y_killed m 0 y_ops y_as y_bs x_codeLengths x_pids x_parents x_programs x_places x_statuses x_stepCounts x_copyCounts (upd y_pages e 0) y_wake y_zombie y_blocked y_reg y_memory y_frame x_held y_kind x_openTargets y_mode x_openPlaces x_pipeCounts y_pipe x_nameFiles y_size x_fileWords x_safeNames y_safeSize x_safeWords y_said → wY_exit_10 post (nI e) st (x_pids e) 1 (nI 6) x_changes y_time y_last y_lastPid y_did x_greatestPid x_latestPid x_saidCount y_killed y_ops y_as y_bs x_codeLengths x_pids x_parents x_programs x_places x_statuses x_stepCounts x_copyCounts y_pages y_wake y_zombie y_blocked y_reg y_memory y_frame x_held y_kind x_openTargets y_mode x_openPlaces x_pipeCounts y_pipe x_nameFiles y_size x_fileWords x_safeNames y_safeSize x_safeWords y_said) := fun heir hc => by
    constructor
    · intro post m h
      refine br_t (uk_refl 6) (xk_dropPages he hn hn8 hpf (xk_findSlot (fun z => absurd z n11) (fun _ => ?_)))
      rcases hc with ⟨c1, rfl⟩ | ⟨c1, c2⟩
      · exact br_t c1 (br_f (by decide) ⟨m, h⟩)
      · refine br_f c1 ?_
        rcases c2 with ⟨c2, rfl⟩ | ⟨i, hi, c2, c3⟩
        · rw [c2]
          exact br_t rfl (br_f (by decide) ⟨m, h⟩)
        · rw [c2]
          refine br_f (uk_ne1 (by omega)) ⟨vp_in_nI hi (by decide), ?_⟩
          rw [nI_clamp (show i < 2 ^ 31 by omega)]
          rcases c3 with ⟨c3, _, rfl⟩ | ⟨c3, _, rfl⟩
          · exact br_t c3 (br_f (by decide) ⟨m, h⟩)
          · exact br_f c3 (br_t rfl ⟨m, h⟩)
    · intro post m h
      refine br_t (uk_refl 6) ⟨vs, ?_⟩
      rw [es]
      refine nm_e (yk_slotOf (fun z => absurd z n11) (fun _ => ?_))
      rcases hc with ⟨c1, rfl⟩ | ⟨c1, c2⟩
      · exact br_t c1 ⟨m, h⟩
      · refine br_f c1 ?_
        rcases c2 with ⟨c2, rfl⟩ | ⟨i, hi, c2, c3⟩
        · rw [c2]
          exact br_t (by decide) ⟨m, h⟩
        · rw [c2]
          refine br_f (nI_pos (by omega)) ⟨vp_in_nI hi (by decide), ?_⟩
          rw [nI_clamp (show i < 2 ^ 31 by omega)]
          rcases c3 with ⟨_, c3, rfl⟩ | ⟨_, c3, rfl⟩
          · exact br_f c3 ⟨m, h⟩
          · exact br_t c3 ⟨m, h⟩
  by_cases c1 : x_pids e = 1
  · exact ⟨0, Or.inl rfl, key 0 (Or.inl ⟨c1, rfl⟩)⟩
  · rcases uk_slot (P := x_pids) n11 with c2 | ⟨i, hi, c2, c3, c4⟩
    · exact ⟨0, Or.inl rfl, key 0 (Or.inr ⟨c1, Or.inl ⟨c2, rfl⟩⟩)⟩
    · by_cases c5 : y_zombie i = 0
      · exact ⟨1, Or.inr rfl, key 1 (Or.inr ⟨c1, Or.inr ⟨i, hi, c2, Or.inr ⟨fun w => absurd (((uk_zst hPs hi c4).mp w).symm.trans c5) (by decide), c5, rfl⟩⟩⟩)⟩
      · exact ⟨0, Or.inl rfl, key 0 (Or.inr ⟨c1, Or.inr ⟨i, hi, c2, Or.inl ⟨(uk_zst hPs hi c4).mpr ((hPs i hi).2.2.2.2.1.resolve_left c5), c5, rfl⟩⟩⟩)⟩
theorem uk_exit {t e : Nat} (st : Int32) (he : e < 8) (hp : x_pids e ≠ 0) (hz : y_zombie e = 0) (hPs : uk_Ps x_pids x_parents x_programs x_places x_statuses x_states y_zombie y_blocked) (hMe : uk_Me x_pids y_zombie x_pageCounts y_pages x_pageFrames y_frame x_frameWords y_memory) (hFu : uk_Fu x_pids y_pages y_frame x_frameUsers) (hHd : uk_Hd x_pids y_zombie x_held) (hHo : uk_Ho x_pids y_zombie x_held x_openHolders) (hOk : uk_Ok x_openHolders x_openKinds y_kind x_openTargets x_openModes y_mode x_openPlaces) (hFi : uk_Fi x_nameFiles y_kind x_openTargets x_fileSizes y_size) (hSc : uk_Sc x_pids x_lastSlot x_sliceSteps y_last y_lastPid y_did) (hWk : uk_Wk x_pids y_zombie y_blocked x_programs x_places x_codeLengths y_ops y_bs x_wakeTimes y_wake x_registers x_held y_kind t) :
  ∃ P' Q' zo' oh' ki' sz' fu', uk_Ps P' Q' x_programs x_places (upd x_statuses e st) (upd x_states e 3) zo' (upd y_blocked e 0) ∧ uk_Me P' zo' (upd x_pageCounts e 0) (upd y_pages e 0) x_pageFrames y_frame x_frameWords y_memory ∧ uk_Fu P' (upd y_pages e 0) y_frame fu' ∧ uk_Hd P' zo' (uk_fl x_held (6 * e) (fun _ => -1) 6) ∧ uk_Ho P' zo' (uk_fl x_held (6 * e) (fun _ => -1) 6) oh' ∧ uk_Ok oh' x_openKinds ki' x_openTargets x_openModes y_mode x_openPlaces ∧ uk_Fi x_nameFiles ki' x_openTargets x_fileSizes sz' ∧ uk_Sc P' x_lastSlot x_sliceSteps y_last y_lastPid y_did ∧ uk_Wk P' zo' (upd y_blocked e 0) x_programs x_places x_codeLengths y_ops y_bs x_wakeTimes y_wake x_registers (uk_fl x_held (6 * e) (fun _ => -1) 6) ki' t ∧
  (∀ post : SX → Prop, post (x_changes, x_saidCount, x_time, x_lastSlot, x_sliceSteps, x_latestPid, x_greatestPid, x_code, x_codeLengths, P', Q', x_programs, x_places, upd x_states e 3, upd x_statuses e st, x_stepCounts, x_copyCounts, x_wakeTimes, x_registers, upd x_pageCounts e 0, x_pageFrames, uk_fl x_held (6 * e) (fun _ => -1) 6, fu', x_frameWords, oh', x_openKinds, x_openTargets, x_openPlaces, x_openModes, x_pipeFirsts, x_pipeCounts, x_pipeWords, x_nameFiles, x_fileSizes, x_fileWords, x_safeNames, x_safeSizes, x_safeWords, x_saidInts) → wpX_endProcess post (x_changes, x_saidCount, x_time, x_lastSlot, x_sliceSteps, x_latestPid, x_greatestPid, x_code, x_codeLengths, x_pids, x_parents, x_programs, x_places, x_states, x_statuses, x_stepCounts, x_copyCounts, x_wakeTimes, x_registers, x_pageCounts, x_pageFrames, x_held, x_frameUsers, x_frameWords, x_openHolders, x_openKinds, x_openTargets, x_openPlaces, x_openModes, x_pipeFirsts, x_pipeCounts, x_pipeWords, x_nameFiles, x_fileSizes, x_fileWords, x_safeNames, x_safeSizes, x_safeWords, x_saidInts) (nI e) st) ∧
  (∀ post : SY → Prop, post (x_changes, y_time, y_last, y_lastPid, y_did, x_greatestPid, x_latestPid, x_saidCount, y_killed, y_ops, y_as, y_bs, x_codeLengths, P', Q', x_programs, x_places, upd x_statuses e st, x_stepCounts, x_copyCounts, upd y_pages e 0, y_wake, zo', upd y_blocked e 0, y_reg, y_memory, y_frame, uk_fl x_held (6 * e) (fun _ => -1) 6, ki', x_openTargets, y_mode, x_openPlaces, x_pipeCounts, y_pipe, x_nameFiles, sz', x_fileWords, x_safeNames, y_safeSize, x_safeWords, y_said) → wpY_exit post (x_changes, y_time, y_last, y_lastPid, y_did, x_greatestPid, x_latestPid, x_saidCount, y_killed, y_ops, y_as, y_bs, x_codeLengths, x_pids, x_parents, x_programs, x_places, x_statuses, x_stepCounts, x_copyCounts, y_pages, y_wake, y_zombie, y_blocked, y_reg, y_memory, y_frame, x_held, y_kind, x_openTargets, y_mode, x_openPlaces, x_pipeCounts, y_pipe, x_nameFiles, y_size, x_fileWords, x_safeNames, y_safeSize, x_safeWords, y_said) (nI e) st) := by
  obtain ⟨_, vs, es⟩ := uk_lp 8 he (by decide)
  have hP : ∀ s, s < 8 → ¬ x_pids s < 0 := fun s hs => (hPs s hs).1
  obtain ⟨n, hn8, n2, n3, n4, n5⟩ := hMe e he hp
  have hpf : ∀ p, p < n → vp_in (x_pageFrames (8 * e + p)) 20 := fun p hp => by rw [(n5 p hp).2.1]; exact (n5 p hp).1
  have hWk1 : uk_Wk x_pids (upd y_zombie e 1) y_blocked x_programs x_places x_codeLengths y_ops y_bs x_wakeTimes y_wake x_registers x_held y_kind t := uk_WkC (Nat.le_refl t) hWk (fun s' hs' hP' hz' => by
    by_cases w : s' = e
    · subst w; rw [pk_us] at hz'; exact absurd hz' (by decide)
    · rw [pk_un w] at hz'
      exact Or.inr ⟨hP', hz', rfl, rfl, rfl, rfl, rfl, rfl, fun _ _ => rfl, fun _ _ _ _ _ _ => rfl⟩)
  obtain ⟨oh', ki', sz', a1, a2, a3, a4, a5, a6, a7⟩ := uk_gos (x_changes := x_changes) (x_saidCount := x_saidCount) (x_time := x_time) (x_lastSlot := x_lastSlot) (x_sliceSteps := x_sliceSteps) (x_latestPid := x_latestPid) (x_greatestPid := x_greatestPid) (x_code := x_code) (x_codeLengths := x_codeLengths) (x_pids := x_pids) (x_parents := x_parents) (x_programs := x_programs) (x_places := x_places) (x_states := x_states) (x_statuses := x_statuses) (x_stepCounts := x_stepCounts) (x_copyCounts := x_copyCounts) (x_wakeTimes := x_wakeTimes) (x_registers := x_registers) (x_pageCounts := x_pageCounts) (x_pageFrames := x_pageFrames) (x_held := x_held) (x_frameUsers := x_frameUsers) (x_frameWords := x_frameWords) (x_openHolders := x_openHolders) (x_openKinds := x_openKinds) (x_openTargets := x_openTargets) (x_openPlaces := x_openPlaces) (x_openModes := x_openModes) (x_pipeFirsts := x_pipeFirsts) (x_pipeCounts := x_pipeCounts) (x_pipeWords := x_pipeWords) (x_nameFiles := x_nameFiles) (x_fileSizes := x_fileSizes) (x_fileWords := x_fileWords) (x_safeNames := x_safeNames) (x_safeSizes := x_safeSizes) (x_safeWords := x_safeWords) (x_saidInts := x_saidInts) (y_time := y_time) (y_last := y_last) (y_lastPid := y_lastPid) (y_did := y_did) (y_killed := y_killed) (y_ops := y_ops) (y_as := y_as) (y_bs := y_bs) (y_pages := y_pages) (y_wake := y_wake) (y_zombie := y_zombie) (y_blocked := y_blocked) (y_reg := y_reg) (y_memory := y_memory) (y_frame := y_frame) (y_kind := y_kind) (y_mode := y_mode) (y_pipe := y_pipe) (y_size := y_size) (y_safeSize := y_safeSize) (y_said := y_said) (zo1 := upd y_zombie e 1) he hp hz hP hHd hHo hOk hFi hWk1 (fun s' _ w z => by rw [pk_un w] at z; exact z) (fun z => by rw [pk_us] at z; exact absurd z (by decide)) 6 (Nat.le_refl 6)
  have hMe' := uk_drop_Me e hMe
  have hFu' := uk_drop_Fu hMe hFu he hp n3 (by omega)
  obtain ⟨heir, hh, b1, b2⟩ := uk_heir (x_changes := x_changes) (x_saidCount := x_saidCount) (x_time := x_time) (x_lastSlot := x_lastSlot) (x_sliceSteps := x_sliceSteps) (x_latestPid := x_latestPid) (x_greatestPid := x_greatestPid) (x_code := x_code) (x_codeLengths := x_codeLengths) (x_pids := x_pids) (x_parents := x_parents) (x_programs := x_programs) (x_places := x_places) (x_states := x_states) (x_statuses := x_statuses) (x_stepCounts := x_stepCounts) (x_copyCounts := x_copyCounts) (x_wakeTimes := x_wakeTimes) (x_registers := x_registers) (x_pageCounts := x_pageCounts) (x_pageFrames := x_pageFrames) (x_held := uk_fl x_held (6 * e) (fun _ => -1) 6) (x_frameUsers := x_frameUsers) (x_frameWords := x_frameWords) (x_openHolders := oh') (x_openKinds := x_openKinds) (x_openTargets := x_openTargets) (x_openPlaces := x_openPlaces) (x_openModes := x_openModes) (x_pipeFirsts := x_pipeFirsts) (x_pipeCounts := x_pipeCounts) (x_pipeWords := x_pipeWords) (x_nameFiles := x_nameFiles) (x_fileSizes := x_fileSizes) (x_fileWords := x_fileWords) (x_safeNames := x_safeNames) (x_safeSizes := x_safeSizes) (x_safeWords := x_safeWords) (x_saidInts := x_saidInts) (y_time := y_time) (y_last := y_last) (y_lastPid := y_lastPid) (y_did := y_did) (y_killed := y_killed) (y_ops := y_ops) (y_as := y_as) (y_bs := y_bs) (y_pages := y_pages) (y_wake := y_wake) (y_zombie := y_zombie) (y_blocked := y_blocked) (y_reg := y_reg) (y_memory := y_memory) (y_frame := y_frame) (y_kind := ki') (y_mode := y_mode) (y_pipe := y_pipe) (y_size := sz') (y_safeSize := y_safeSize) (y_said := y_said) (st := st) he hPs n2 hn8 hpf
  have hh0 : ¬ heir < 0 := by rcases hh with h | h <;> rw [h] <;> decide
  obtain ⟨P', Q', c1, c2, c3, c4, c5, c6, c7, c8, c9, c10⟩ := uk_orph (x_changes := x_changes) (x_saidCount := x_saidCount) (x_time := x_time) (x_lastSlot := x_lastSlot) (x_sliceSteps := x_sliceSteps) (x_latestPid := x_latestPid) (x_greatestPid := x_greatestPid) (x_code := x_code) (x_codeLengths := x_codeLengths) (x_pids := x_pids) (x_parents := x_parents) (x_programs := x_programs) (x_places := x_places) (x_states := x_states) (x_statuses := x_statuses) (x_stepCounts := x_stepCounts) (x_copyCounts := x_copyCounts) (x_wakeTimes := x_wakeTimes) (x_registers := x_registers) (x_pageCounts := upd x_pageCounts e 0) (x_pageFrames := x_pageFrames) (x_held := uk_fl x_held (6 * e) (fun _ => -1) 6) (x_frameUsers := uk_dec x_frameUsers x_pageFrames (8 * e) n) (x_frameWords := x_frameWords) (x_openHolders := oh') (x_openKinds := x_openKinds) (x_openTargets := x_openTargets) (x_openPlaces := x_openPlaces) (x_openModes := x_openModes) (x_pipeFirsts := x_pipeFirsts) (x_pipeCounts := x_pipeCounts) (x_pipeWords := x_pipeWords) (x_nameFiles := x_nameFiles) (x_fileSizes := x_fileSizes) (x_fileWords := x_fileWords) (x_safeNames := x_safeNames) (x_safeSizes := x_safeSizes) (x_safeWords := x_safeWords) (x_saidInts := x_saidInts) (y_time := y_time) (y_last := y_last) (y_lastPid := y_lastPid) (y_did := y_did) (y_killed := y_killed) (y_ops := y_ops) (y_as := y_as) (y_bs := y_bs) (y_pages := upd y_pages e 0) (y_wake := y_wake) (y_zombie := y_zombie) (y_blocked := y_blocked) (y_reg := y_reg) (y_memory := y_memory) (y_frame := y_frame) (y_kind := ki') (y_mode := y_mode) (y_pipe := y_pipe) (y_size := sz') (y_safeSize := y_safeSize) (y_said := y_said) (q := x_pids e) he hz hh0 hPs hMe' hFu' a1 a2 a5 hSc 8 (Nat.le_refl 8)
  have hH1 : ∀ d, d < 6 → uk_fl x_held (6 * e) (fun _ => -1) 6 (6 * e + d) = -1 := fun d hd => uk_flin hd
  have hpe : P' e ≠ 0 := by rw [c8]; exact hp
  have hq0 := (c1 e he).2.1
  have wX : ∀ post : SX → Prop, wX_endProcess_86 post (nI e) st (x_pids e) heir x_changes x_saidCount x_time x_lastSlot x_sliceSteps x_latestPid x_greatestPid 1 (nI 8) x_code x_codeLengths P' Q' x_programs x_places x_states x_statuses x_stepCounts x_copyCounts x_wakeTimes x_registers (upd x_pageCounts e 0) x_pageFrames (uk_fl x_held (6 * e) (fun _ => -1) 6) (uk_dec x_frameUsers x_pageFrames (8 * e) n) x_frameWords oh' x_openKinds x_openTargets x_openPlaces x_openModes x_pipeFirsts x_pipeCounts x_pipeWords x_nameFiles x_fileSizes x_fileWords x_safeNames x_safeSizes x_safeWords x_saidInts → wpX_endProcess post (x_changes, x_saidCount, x_time, x_lastSlot, x_sliceSteps, x_latestPid, x_greatestPid, x_code, x_codeLengths, x_pids, x_parents, x_programs, x_places, x_states, x_statuses, x_stepCounts, x_copyCounts, x_wakeTimes, x_registers, x_pageCounts, x_pageFrames, x_held, x_frameUsers, x_frameWords, x_openHolders, x_openKinds, x_openTargets, x_openPlaces, x_openModes, x_pipeFirsts, x_pipeCounts, x_pipeWords, x_nameFiles, x_fileSizes, x_fileWords, x_safeNames, x_safeSizes, x_safeWords, x_saidInts) (nI e) st := fun post h => by
    unfold wpX_endProcess
    refine ⟨vs, ?_⟩
    rw [es]
    exact nm_e ⟨1 + 6, a6 post st _ 1 (b1 post _ (c9 post st 1 h))⟩
  have wY : ∀ post : SY → Prop, wY_exit_74 post (nI e) st (x_pids e) heir x_changes y_time y_last y_lastPid y_did x_greatestPid x_latestPid x_saidCount y_killed 1 (nI 8) y_ops y_as y_bs x_codeLengths P' Q' x_programs x_places x_statuses x_stepCounts x_copyCounts (upd y_pages e 0) y_wake y_zombie y_blocked y_reg y_memory y_frame (uk_fl x_held (6 * e) (fun _ => -1) 6) ki' x_openTargets y_mode x_openPlaces x_pipeCounts y_pipe x_nameFiles sz' x_fileWords x_safeNames y_safeSize x_safeWords y_said → wpY_exit post (x_changes, y_time, y_last, y_lastPid, y_did, x_greatestPid, x_latestPid, x_saidCount, y_killed, y_ops, y_as, y_bs, x_codeLengths, x_pids, x_parents, x_programs, x_places, x_statuses, x_stepCounts, x_copyCounts, y_pages, y_wake, y_zombie, y_blocked, y_reg, y_memory, y_frame, x_held, y_kind, x_openTargets, y_mode, x_openPlaces, x_pipeCounts, y_pipe, x_nameFiles, y_size, x_fileWords, x_safeNames, y_safeSize, x_safeWords, y_said) (nI e) st := fun post h => by
    unfold wpY_exit
    refine ⟨vs, ?_⟩
    rw [es]
    exact nm_e ⟨1 + 6, a7 post st _ 1 (b2 post _ (c10 post st 1 h))⟩
  have c6' : ∀ P'', (∀ s, P'' s ≠ 0 → P' s ≠ 0) → ∀ zz : Int32, (P'' e ≠ 0 → zz = 1) → uk_Wk P'' (upd y_zombie e zz) (upd y_blocked e 0) x_programs x_places x_codeLengths y_ops y_bs x_wakeTimes y_wake x_registers (uk_fl x_held (6 * e) (fun _ => -1) 6) ki' t := fun P'' h1 zz h2 => uk_WkC (Nat.le_refl t) c6 (fun s' hs' hP' hz' => by
    by_cases w : s' = e
    · subst w; rw [pk_us, h2 hP'] at hz'; exact absurd hz' (by decide)
    · rw [pk_un w] at hz'
      exact Or.inr ⟨h1 s' hP', by rw [pk_un w]; exact hz', by rw [pk_un w], rfl, rfl, rfl, rfl, rfl, fun _ _ => rfl, fun _ _ _ _ _ _ => rfl⟩)
  by_cases hq : Q' e = 0
  · have k1 : ¬ upd P' e 0 e ≠ 0 := fun w => w pk_us
    refine ⟨upd P' e 0, Q', upd y_zombie e 0, oh', ki', sz', _, uk_end_Ps st 0 (uk_P0_Ps e c1) (Or.inl rfl) (fun w => absurd w k1), uk_end_Me 0 (uk_P0_Me e c2) pk_us, uk_P0_Fu e c3 (fun _ => pk_us), uk_end_Hd 0 (uk_P0_Hd e c4) (fun w => absurd w k1), uk_end_Ho 0 (uk_P0_Ho e c5 (fun o ho => ?_)) hH1, a3, a4, uk_P0_Sc e c7, c6' _ (fun s hs => (uk_P0n hs).2) 0 (fun w => absurd w k1), fun post h => wX post ?_, fun post h => wY post ?_⟩
    · rw [uk_hwn hpe hz]
      exact uk_cn0 6 (fun d hd w => uk_ne1 (n := o) (by omega) (w.symm.trans (hH1 d hd)))
    · refine br_t (uk_refl 8) ⟨vs, ?_⟩
      rw [es]
      exact nm_e ⟨vs, nm_e ⟨vs, br_t hq ⟨vs, nm_e h⟩⟩⟩
    · refine br_t (uk_refl 8) ⟨vs, ?_⟩
      rw [es]
      refine nm_e ⟨vs, br_t ((uk_le0 hq0).mpr hq) ⟨vs, ?_⟩⟩
      rw [es]
      exact nm_e ⟨vs, nm_e ⟨vs, br_t pk_us ⟨vs, nm_e h⟩⟩⟩
  · refine ⟨P', Q', upd y_zombie e 1, oh', ki', sz', _, uk_end_Ps st 1 c1 (Or.inr rfl) (fun _ => rfl), uk_end_Me 1 c2 pk_us, c3, uk_end_Hd 1 c4 (fun _ => rfl), uk_end_Ho 1 c5 hH1, a3, a4, c7, c6' _ (fun s hs => hs) 1 (fun _ => rfl), fun post h => wX post ?_, fun post h => wY post ?_⟩
    · refine br_t (uk_refl 8) ⟨vs, ?_⟩
      rw [es]
      exact nm_e ⟨vs, nm_e ⟨vs, br_f hq h⟩⟩
    · refine br_t (uk_refl 8) ⟨vs, ?_⟩
      rw [es]
      refine nm_e ⟨vs, br_f (fun w => hq ((uk_le0 hq0).mp w)) ⟨vs, ?_⟩⟩
      rw [es]
      exact nm_e ⟨vs, nm_e ⟨vs, br_f (by rw [pk_us]; decide) h⟩⟩
end
