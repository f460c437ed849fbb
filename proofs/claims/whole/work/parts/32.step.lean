/-! every call, and a step -/
section
variable {x_changes x_saidCount x_time x_lastSlot x_sliceSteps x_latestPid x_greatestPid : Int32} {x_code x_codeLengths x_pids x_parents x_programs x_places x_states x_statuses x_stepCounts x_copyCounts x_wakeTimes x_registers x_pageCounts x_pageFrames x_held x_frameUsers x_frameWords x_openHolders x_openKinds x_openTargets x_openPlaces x_openModes x_pipeFirsts x_pipeCounts x_pipeWords x_nameFiles x_fileSizes x_fileWords x_safeNames x_safeSizes x_safeWords x_saidInts : Nat → Int32} {y_time y_last y_lastPid y_did y_killed : Int32} {y_ops y_as y_bs y_pages y_wake y_zombie y_blocked y_memory y_frame y_kind y_mode y_pipe y_size y_safeSize y_said : Nat → Int32}
theorem uk_docall {t b s cc : Nat} {W0 : Nat → Int32} (A : uk_All t b x_changes x_saidCount x_time x_lastSlot x_sliceSteps x_latestPid x_greatestPid x_code x_codeLengths x_pids x_parents x_programs x_places x_states x_statuses x_stepCounts x_copyCounts x_wakeTimes x_registers x_pageCounts x_pageFrames x_held x_frameUsers x_frameWords x_openHolders x_openKinds x_openTargets x_openPlaces x_openModes x_pipeFirsts x_pipeCounts x_pipeWords x_nameFiles x_fileSizes x_fileWords x_safeNames x_safeSizes x_safeWords x_saidInts y_time y_last y_lastPid y_did y_killed y_ops y_as y_bs y_pages y_wake y_zombie y_blocked y_memory y_frame y_kind y_mode y_pipe y_size y_safeSize y_said) (hs : s < 8) (hp : x_pids s ≠ 0) (hz : y_zombie s = 0) (hb : y_blocked s = 0) (hcc : cc < 19) (hW : upd W0 s 0 = x_wakeTimes) (hW2 : cc ≠ 14 → W0 = x_wakeTimes) (hla : y_last.toNatClampNeg = s) (hbb : b < 2000000000) (hnb : cc = 8 → ¬ uk_Bk x_pids x_parents y_zombie x_registers x_held y_kind x_openTargets x_pipeCounts s 8) :
  ∃ u' v', (∀ post : SX → Prop, post u' → wpX_doCall post (x_changes, x_saidCount, x_time, x_lastSlot, x_sliceSteps, x_latestPid, x_greatestPid, x_code, x_codeLengths, x_pids, x_parents, x_programs, x_places, x_states, x_statuses, x_stepCounts, x_copyCounts, W0, x_registers, x_pageCounts, x_pageFrames, x_held, x_frameUsers, x_frameWords, x_openHolders, x_openKinds, x_openTargets, x_openPlaces, x_openModes, x_pipeFirsts, x_pipeCounts, x_pipeWords, x_nameFiles, x_fileSizes, x_fileWords, x_safeNames, x_safeSizes, x_safeWords, x_saidInts) (nI s) (nI cc)) ∧ (∀ (post : SY → Prop) (r0 r1 : Int32), r0 = x_registers (4 * s) → r1 = x_registers (4 * s + 1) → post v' → ((nI cc = 0 → wpY_exit (fun u => match u with | (y_changes, y_time, y_last, y_lastPid, y_did, y_greatest, y_stepped, y_says, y_killed, y_ops, y_as, y_bs, y_length, y_pid, y_parent, y_program, y_pc, y_status, y_steps, y_copies, y_pages, y_wake, y_zombie, y_blocked, y_reg, y_memory, y_frame, y_descriptor, y_kind, y_of, y_mode, y_place, y_piped, y_pipe, y_names, y_size, y_words, y_safeNames, y_safeSize, y_safeWords, y_said) => post (y_changes, y_time, y_last, y_lastPid, y_did, y_greatest, y_stepped, y_says, y_killed, y_ops, y_as, y_bs, y_length, y_pid, y_parent, y_program, y_pc, y_status, y_steps, y_copies, y_pages, y_wake, y_zombie, y_blocked, y_reg, y_memory, y_frame, y_descriptor, y_kind, y_of, y_mode, y_place, y_piped, y_pipe, y_names, y_size, y_words, y_safeNames, y_safeSize, y_safeWords, y_said)) (x_changes, y_time, y_last, y_lastPid, y_did, x_greatestPid, x_latestPid, x_saidCount, 0, y_ops, y_as, y_bs, x_codeLengths, x_pids, x_parents, x_programs, x_places, x_statuses, x_stepCounts, x_copyCounts, y_pages, y_wake, y_zombie, y_blocked, x_registers, y_memory, y_frame, x_held, y_kind, x_openTargets, y_mode, x_openPlaces, x_pipeCounts, y_pipe, x_nameFiles, y_size, x_fileWords, x_safeNames, y_safeSize, x_safeWords, y_said) (nI s) r0) ∧ (¬ nI cc = 0 → ((nI cc = 5 → wpY_no (fun r => ((r = 0 → wpY_begin (fun u => match u with | (y_changes, y_time, y_last, y_lastPid, y_did, y_greatest, y_stepped, y_says, y_killed, y_ops, y_as, y_bs, y_length, y_pid, y_parent, y_program, y_pc, y_status, y_steps, y_copies, y_pages, y_wake, y_zombie, y_blocked, y_reg, y_memory, y_frame, y_descriptor, y_kind, y_of, y_mode, y_place, y_piped, y_pipe, y_names, y_size, y_words, y_safeNames, y_safeSize, y_safeWords, y_said) => post (y_changes, y_time, y_last, y_lastPid, y_did, y_greatest, y_stepped, y_says, y_killed, y_ops, y_as, y_bs, y_length, y_pid, y_parent, y_program, y_pc, y_status, y_steps, y_copies, y_pages, y_wake, y_zombie, y_blocked, y_reg, y_memory, y_frame, y_descriptor, y_kind, y_of, y_mode, y_place, y_piped, y_pipe, y_names, y_size, y_words, y_safeNames, y_safeSize, y_safeWords, y_said)) (x_changes, y_time, y_last, y_lastPid, y_did, x_greatestPid, x_latestPid, x_saidCount, 0, y_ops, y_as, y_bs, x_codeLengths, x_pids, x_parents, x_programs, x_places, x_statuses, x_stepCounts, x_copyCounts, y_pages, y_wake, y_zombie, y_blocked, x_registers, y_memory, y_frame, x_held, y_kind, x_openTargets, y_mode, x_openPlaces, x_pipeCounts, y_pipe, x_nameFiles, y_size, x_fileWords, x_safeNames, y_safeSize, x_safeWords, y_said) (nI s) r0) ∧ (¬ r = 0 → wY_call_127 post (nI s) (nI cc) r0 r1 x_changes y_time y_last y_lastPid y_did x_greatestPid x_latestPid x_saidCount 0 y_ops y_as y_bs x_codeLengths x_pids x_parents x_programs x_places x_statuses x_stepCounts x_copyCounts y_pages y_wake y_zombie y_blocked x_registers y_memory y_frame x_held y_kind x_openTargets y_mode x_openPlaces x_pipeCounts y_pipe x_nameFiles y_size x_fileWords x_safeNames y_safeSize x_safeWords y_said))) r0 5) ∧ (¬ nI cc = 5 → wY_call_127 post (nI s) (nI cc) r0 r1 x_changes y_time y_last y_lastPid y_did x_greatestPid x_latestPid x_saidCount 0 y_ops y_as y_bs x_codeLengths x_pids x_parents x_programs x_places x_statuses x_stepCounts x_copyCounts y_pages y_wake y_zombie y_blocked x_registers y_memory y_frame x_held y_kind x_openTargets y_mode x_openPlaces x_pipeCounts y_pipe x_nameFiles y_size x_fileWords x_safeNames y_safeSize x_safeWords y_said))))) ∧ uk_R y_time t (b + 1) u' v' := by
  by_cases c14 : cc = 14
  · subst c14
    obtain ⟨u', v', h1, h2, h3⟩ := uk_call14 A hs hp hz hb hW
    exact ⟨u', v', h1, fun post r0 r1 e0 e1 h => by subst e0 e1; exact br_f (by decide) (br_f (by decide) (h2 post h)), h3⟩
  have eW := hW2 c14
  subst eW
  by_cases c5 : cc = 5
  · subst c5
    by_cases hv : vp_in (x_registers (4 * s)) 6
    · obtain ⟨u', v', h1, h2, h3⟩ := uk_call5a A hs hp hz hb hv
      exact ⟨u', v', h1, fun post r0 r1 e0 e1 h => by subst e0 e1; exact br_f (by decide) (br_t rfl (yk_no 5 rfl (by decide) (fun _ => br_t rfl (h2 _ h)) (fun z => absurd hv z))), h3⟩
    · obtain ⟨u', v', h1, h2, h3⟩ := uk_call5b A hs hp hz hb hv
      exact ⟨u', v', h1, fun post r0 r1 e0 e1 h => by subst e0 e1; exact br_f (by decide) (br_t rfl (yk_no 5 rfl (by decide) (fun z => absurd z hv) (fun _ => br_f (by decide) (h2 post h)))), h3⟩
  by_cases c0 : cc = 0
  · subst c0
    obtain ⟨u', v', h1, h2, h3⟩ := uk_call0 A hs hp hz hb
    exact ⟨u', v', h1, fun post r0 r1 e0 e1 h => by subst e0 e1; exact br_t rfl (h2 _ h), h3⟩
  by_cases c1 : cc = 1
  · subst c1
    obtain ⟨u', v', h1, h2, h3⟩ := uk_call1 A hs hp hz hb hla hbb
    exact ⟨u', v', h1, fun post r0 r1 e0 e1 h => by subst e0 e1; exact br_f (by decide) (br_f (by decide) (h2 post h)), h3⟩
  by_cases c2 : cc = 2
  · subst c2
    obtain ⟨u', v', h1, h2, h3⟩ := uk_call2 A hs hp hz hb
    exact ⟨u', v', h1, fun post r0 r1 e0 e1 h => by subst e0 e1; exact br_f (by decide) (br_f (by decide) (h2 post h)), h3⟩
  by_cases c3 : cc = 3
  · subst c3
    obtain ⟨u', v', h1, h2, h3⟩ := uk_call3 A hs hp hz hb
    exact ⟨u', v', h1, fun post r0 r1 e0 e1 h => by subst e0 e1; exact br_f (by decide) (br_f (by decide) (h2 post h)), h3⟩
  by_cases c4 : cc = 4
  · subst c4
    obtain ⟨u', v', h1, h2, h3⟩ := uk_call4 A hs hp hz hb
    exact ⟨u', v', h1, fun post r0 r1 e0 e1 h => by subst e0 e1; exact br_f (by decide) (br_f (by decide) (h2 post h)), h3⟩
  by_cases c6 : cc = 6
  · subst c6
    obtain ⟨u', v', h1, h2, h3⟩ := uk_call6 A hs hp hz hb
    exact ⟨u', v', h1, fun post r0 r1 e0 e1 h => by subst e0 e1; exact br_f (by decide) (br_f (by decide) (h2 post h)), h3⟩
  by_cases c7 : cc = 7
  · subst c7
    obtain ⟨u', v', h1, h2, h3⟩ := uk_call7 A hs hp hz hb
    exact ⟨u', v', h1, fun post r0 r1 e0 e1 h => by subst e0 e1; exact br_f (by decide) (br_f (by decide) (h2 post h)), h3⟩
  by_cases c8 : cc = 8
  · subst c8
    obtain ⟨u', v', h1, h2, h3⟩ := uk_call8 A hs hp hz hb (hnb rfl)
    exact ⟨u', v', h1, fun post r0 r1 e0 e1 h => by subst e0 e1; exact br_f (by decide) (br_f (by decide) (h2 post h)), h3⟩
  by_cases c9 : cc = 9
  · subst c9
    obtain ⟨u', v', h1, h2, h3⟩ := uk_call9 A hs hp hz hb
    exact ⟨u', v', h1, fun post r0 r1 e0 e1 h => by subst e0 e1; exact br_f (by decide) (br_f (by decide) (h2 post h)), h3⟩
  by_cases c10 : cc = 10
  · subst c10
    obtain ⟨u', v', h1, h2, h3⟩ := uk_call10 A hs hp hz hb
    exact ⟨u', v', h1, fun post r0 r1 e0 e1 h => by subst e0 e1; exact br_f (by decide) (br_f (by decide) (h2 post h)), h3⟩
  by_cases c11 : cc = 11
  · subst c11
    obtain ⟨u', v', h1, h2, h3⟩ := uk_call11 A hs hp hz hb
    exact ⟨u', v', h1, fun post r0 r1 e0 e1 h => by subst e0 e1; exact br_f (by decide) (br_f (by decide) (h2 post h)), h3⟩
  by_cases c12 : cc = 12
  · subst c12
    obtain ⟨u', v', h1, h2, h3⟩ := uk_call12 A hs hp hz hb
    exact ⟨u', v', h1, fun post r0 r1 e0 e1 h => by subst e0 e1; exact br_f (by decide) (br_f (by decide) (h2 post h)), h3⟩
  by_cases c13 : cc = 13
  · subst c13
    obtain ⟨u', v', h1, h2, h3⟩ := uk_call13 A hs hp hz hb
    exact ⟨u', v', h1, fun post r0 r1 e0 e1 h => by subst e0 e1; exact br_f (by decide) (br_f (by decide) (h2 post h)), h3⟩
  by_cases c15 : cc = 15
  · subst c15
    obtain ⟨u', v', h1, h2, h3⟩ := uk_call15 A hs hp hz hb
    exact ⟨u', v', h1, fun post r0 r1 e0 e1 h => by subst e0 e1; exact br_f (by decide) (br_f (by decide) (h2 post h)), h3⟩
  by_cases c16 : cc = 16
  · subst c16
    obtain ⟨u', v', h1, h2, h3⟩ := uk_call16 A hs hp hz hb hbb
    exact ⟨u', v', h1, fun post r0 r1 e0 e1 h => by subst e0 e1; exact br_f (by decide) (br_f (by decide) (h2 post h)), h3⟩
  by_cases c17 : cc = 17
  · subst c17
    obtain ⟨u', v', h1, h2, h3⟩ := uk_call17 A hs hp hz hb
    exact ⟨u', v', h1, fun post r0 r1 e0 e1 h => by subst e0 e1; exact br_f (by decide) (br_f (by decide) (h2 post h)), h3⟩
  by_cases c18 : cc = 18
  · subst c18
    obtain ⟨u', v', h1, h2, h3⟩ := uk_call18 A hs hp hz hb
    exact ⟨u', v', h1, fun post r0 r1 e0 e1 h => by subst e0 e1; exact br_f (by decide) (br_f (by decide) (h2 post h)), h3⟩
  omega
theorem uk_tick {yt : Int32} {t b : Nat} {u : SX} {v : SY} (h : uk_R yt t b u v) : ∃ v2, uk_R (yt + 1) t b u v2 ∧ ∀ post : SY → Prop, post v2 → (fun u => match u with | (y_changes, y_time, y_last, y_lastPid, y_did, y_greatest, y_stepped, y_says, y_killed, y_ops, y_as, y_bs, y_length, y_pid, y_parent, y_program, y_pc, y_status, y_steps, y_copies, y_pages, y_wake, y_zombie, y_blocked, y_reg, y_memory, y_frame, y_descriptor, y_kind, y_of, y_mode, y_place, y_piped, y_pipe, y_names, y_size, y_words, y_safeNames, y_safeSize, y_safeWords, y_said) => ∀ y, y = y_time + 1 → post (y_changes, y, y_last, y_lastPid, y_did, y_greatest, y_stepped, y_says, y_killed, y_ops, y_as, y_bs, y_length, y_pid, y_parent, y_program, y_pc, y_status, y_steps, y_copies, y_pages, y_wake, y_zombie, y_blocked, y_reg, y_memory, y_frame, y_descriptor, y_kind, y_of, y_mode, y_place, y_piped, y_pipe, y_names, y_size, y_words, y_safeNames, y_safeSize, y_safeWords, y_said)) v := by
  obtain ⟨x_changes, x_saidCount, x_time, x_lastSlot, x_sliceSteps, x_latestPid, x_greatestPid, x_code, x_codeLengths, x_pids, x_parents, x_programs, x_places, x_states, x_statuses, x_stepCounts, x_copyCounts, x_wakeTimes, x_registers, x_pageCounts, x_pageFrames, x_held, x_frameUsers, x_frameWords, x_openHolders, x_openKinds, x_openTargets, x_openPlaces, x_openModes, x_pipeFirsts, x_pipeCounts, x_pipeWords, x_nameFiles, x_fileSizes, x_fileWords, x_safeNames, x_safeSizes, x_safeWords, x_saidInts, y_time, y_last, y_lastPid, y_did, y_killed, y_ops, y_as, y_bs, y_pages, y_wake, y_zombie, y_blocked, y_memory, y_frame, y_kind, y_mode, y_pipe, y_size, y_safeSize, y_said, rfl, rfl, A⟩ := h
  exact ⟨(x_changes, yt + 1, y_last, y_lastPid, y_did, x_greatestPid, x_latestPid, x_saidCount, y_killed, y_ops, y_as, y_bs, x_codeLengths, x_pids, x_parents, x_programs, x_places, x_statuses, x_stepCounts, x_copyCounts, y_pages, y_wake, y_zombie, y_blocked, x_registers, y_memory, y_frame, x_held, y_kind, x_openTargets, y_mode, x_openPlaces, x_pipeCounts, y_pipe, x_nameFiles, y_size, x_fileWords, x_safeNames, y_safeSize, x_safeWords, y_said), ⟨x_changes, x_saidCount, x_time, x_lastSlot, x_sliceSteps, x_latestPid, x_greatestPid, x_code, x_codeLengths, x_pids, x_parents, x_programs, x_places, x_states, x_statuses, x_stepCounts, x_copyCounts, x_wakeTimes, x_registers, x_pageCounts, x_pageFrames, x_held, x_frameUsers, x_frameWords, x_openHolders, x_openKinds, x_openTargets, x_openPlaces, x_openModes, x_pipeFirsts, x_pipeCounts, x_pipeWords, x_nameFiles, x_fileSizes, x_fileWords, x_safeNames, x_safeSizes, x_safeWords, x_saidInts, y_time, y_last, y_lastPid, y_did, y_killed, y_ops, y_as, y_bs, y_pages, y_wake, y_zombie, y_blocked, y_memory, y_frame, y_kind, y_mode, y_pipe, y_size, y_safeSize, y_said, rfl, rfl, A⟩, fun post h => nm_e h⟩
/-- a step's plain instruction -/
theorem uk_plain {t b s k : Nat} {L0 : Nat → Int32} (A : uk_All t b x_changes x_saidCount x_time x_lastSlot x_sliceSteps x_latestPid x_greatestPid x_code x_codeLengths x_pids x_parents x_programs x_places x_states x_statuses x_stepCounts x_copyCounts x_wakeTimes x_registers x_pageCounts x_pageFrames x_held x_frameUsers x_frameWords x_openHolders x_openKinds x_openTargets x_openPlaces x_openModes x_pipeFirsts x_pipeCounts x_pipeWords x_nameFiles x_fileSizes x_fileWords x_safeNames x_safeSizes x_safeWords x_saidInts y_time y_last y_lastPid y_did y_killed y_ops y_as y_bs y_pages y_wake y_zombie y_blocked y_memory y_frame y_kind y_mode y_pipe y_size y_safeSize y_said) (hs : s < 8) (hp : x_pids s ≠ 0) (hz : y_zombie s = 0) (hb : y_blocked s = 0) (hL : upd L0 s (L0 s + 1) = x_places) (hk : k < 144) (h8 : y_ops k ≠ 8) (hval : uk_val (x_code (3 * k)) (x_code (3 * k + 1)) (x_code (3 * k + 2))) :
  ∃ u' v', (∀ post : SX → Prop, post u' → wpX_compute post (x_changes, x_saidCount, x_time, x_lastSlot, x_sliceSteps, x_latestPid, x_greatestPid, x_code, x_codeLengths, x_pids, x_parents, x_programs, x_places, x_states, x_statuses, x_stepCounts, x_copyCounts, x_wakeTimes, x_registers, x_pageCounts, x_pageFrames, x_held, x_frameUsers, x_frameWords, x_openHolders, x_openKinds, x_openTargets, x_openPlaces, x_openModes, x_pipeFirsts, x_pipeCounts, x_pipeWords, x_nameFiles, x_fileSizes, x_fileWords, x_safeNames, x_safeSizes, x_safeWords, x_saidInts) (nI s) (x_code (3 * k)) (x_code (3 * k + 1)) (x_code (3 * k + 2))) ∧ (∀ post : SY → Prop, post v' → wpY_plain post (x_changes, y_time, y_last, y_lastPid, y_did, x_greatestPid, x_latestPid, x_saidCount, y_killed, y_ops, y_as, y_bs, x_codeLengths, x_pids, x_parents, x_programs, L0, x_statuses, x_stepCounts, x_copyCounts, y_pages, y_wake, y_zombie, y_blocked, x_registers, y_memory, y_frame, x_held, y_kind, x_openTargets, y_mode, x_openPlaces, x_pipeCounts, y_pipe, x_nameFiles, y_size, x_fileWords, x_safeNames, y_safeSize, x_safeWords, y_said) (nI s) (y_ops k) ((4 * nI s) + (y_as k)) (y_bs k)) ∧ uk_R y_time t b u' v' := by
  obtain ⟨p1, p2, p3⟩ := (uk_aPr A).1 k hk
  rw [p2]
  have p3' := fun (w : x_code (3 * k) ≠ 6) => p3 (by rw [p1]; exact w) h8
  rw [p1] at h8 ⊢
  rw [uk_4m]
  rcases hval with ⟨e, va⟩ | ⟨e, va, vb⟩ | ⟨e, vb⟩ | ⟨e, va, vb⟩ | ⟨e, _⟩
  · have pa := p3' (by rw [e]; decide)
    obtain ⟨i, hi, ei⟩ := vp_in_of va (by decide)
    rw [pa, ei, e, nI_add]
    exact ⟨_, _, fun post h => xk_op0 hs hi h, fun post h => yk_op0 hi hs hL h, uk_Rmk (uk_All_reg A hs hp hz hb hi)⟩
  · obtain ⟨i, hi, ei⟩ := vp_in_of va (by decide)
    obtain ⟨j, hj, ej⟩ := vp_in_of vb (by decide)
    have pa := p3' (by rcases e with e | e | e | e | e <;> rw [e] <;> decide)
    rw [pa, ei, ej, nI_add]
    rcases e with e | e | e | e | e <;> rw [e]
    · exact ⟨_, _, fun post h => xk_op1 hs hi hj h, fun post h => yk_op1 hi hj hs hL h, uk_Rmk (uk_All_reg A hs hp hz hb hi)⟩
    · exact ⟨_, _, fun post h => xk_op2 hs hi hj h, fun post h => yk_op2 hi hj hs hL h, uk_Rmk (uk_All_reg A hs hp hz hb hi)⟩
    · by_cases w : x_registers (4 * s + j) ≤ x_registers (4 * s + i)
      · exact ⟨_, _, fun post h => xk_op3 hs hi hj (fun _ => h) (fun z => absurd w z), fun post h => yk_op3 hi hj hs hL (fun _ => h) (fun z => absurd w z), uk_Rmk (uk_All_reg (x := 0) A hs hp hz hb hi)⟩
      · exact ⟨_, _, fun post h => xk_op3 hs hi hj (fun z => absurd z w) (fun _ => h), fun post h => yk_op3 hi hj hs hL (fun z => absurd z w) (fun _ => h), uk_Rmk (uk_All_reg (x := 1) A hs hp hz hb hi)⟩
    · exact uk_load A hs hp hz hb hi hj hL
    · exact uk_store A hs hp hz hi hj hL
  · obtain ⟨j, hj, ej⟩ := vp_in_of vb (by decide)
    rw [ej, e]
    exact ⟨_, _, fun post h => xk_op6 hs h, fun post h => yk_op6 hs hL h, uk_Rmk (uk_All_pl (l := j) A hs hp hz hb (by omega))⟩
  · obtain ⟨i, hi, ei⟩ := vp_in_of va (by decide)
    obtain ⟨j, hj, ej⟩ := vp_in_of vb (by decide)
    have pa := p3' (by rw [e]; decide)
    rw [pa, ei, ej, e, nI_add]
    by_cases w : x_registers (4 * s + i) = 0
    · exact ⟨_, _, fun post h => xk_op7 hs hi (fun _ => h) (fun z => absurd w z), fun post h => yk_op7 hi hs hL (fun _ => h) (fun z => absurd w z), uk_Rmk (uk_All_pl (l := j) A hs hp hz hb (by omega))⟩
    · exact ⟨_, _, fun post h => xk_op7 hs hi (fun z => absurd z w) (fun _ => h), fun post h => yk_op7 hi hs hL (fun z => absurd z w) (fun _ => h), uk_Rmk A⟩
  · exact absurd e h8
end
