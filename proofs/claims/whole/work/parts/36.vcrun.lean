/-! run -/
theorem uk_fin {k : Nat} {t b : Nat} {u : SX} {v : SY} (ht : t ≤ 1001000000) (hb : b ≤ t) (h : uk_R (nI t) t b u v) : i_Rel k u v := by
  obtain ⟨x_changes, x_saidCount, x_time, x_lastSlot, x_sliceSteps, x_latestPid, x_greatestPid, x_code, x_codeLengths, x_pids, x_parents, x_programs, x_places, x_states, x_statuses, x_stepCounts, x_copyCounts, x_wakeTimes, x_registers, x_pageCounts, x_pageFrames, x_held, x_frameUsers, x_frameWords, x_openHolders, x_openKinds, x_openTargets, x_openPlaces, x_openModes, x_pipeFirsts, x_pipeCounts, x_pipeWords, x_nameFiles, x_fileSizes, x_fileWords, x_safeNames, x_safeSizes, x_safeWords, x_saidInts, y_time, y_last, y_lastPid, y_did, y_killed, y_ops, y_as, y_bs, y_pages, y_wake, y_zombie, y_blocked, y_memory, y_frame, y_kind, y_mode, y_pipe, y_size, y_safeSize, y_said, rfl, rfl, A⟩ := h
  have eT := uk_aeT A
  subst eT
  exact i_mk ht hb A
theorem uk_runs {k n : Nat} (hn : n ≤ 200) : ∀ (d done t b : Nat) (u : SX) (v : SY), done + d = n → t + 2000 * d ≤ 1000400000 → b ≤ t → uk_R (nI t) t b u v →
  ∃ r u' v', (∀ post : Int32 → SX → Prop, post r u' → (match u with | (x_changes, x_saidCount, x_time, x_lastSlot, x_sliceSteps, x_latestPid, x_greatestPid, x_code, x_codeLengths, x_pids, x_parents, x_programs, x_places, x_states, x_statuses, x_stepCounts, x_copyCounts, x_wakeTimes, x_registers, x_pageCounts, x_pageFrames, x_held, x_frameUsers, x_frameWords, x_openHolders, x_openKinds, x_openTargets, x_openPlaces, x_openModes, x_pipeFirsts, x_pipeCounts, x_pipeWords, x_nameFiles, x_fileSizes, x_fileWords, x_safeNames, x_safeSizes, x_safeWords, x_saidInts) => wX_run_25 post (nI n) (d + 1) (nI done) x_changes x_saidCount x_time x_lastSlot x_sliceSteps x_latestPid x_greatestPid x_code x_codeLengths x_pids x_parents x_programs x_places x_states x_statuses x_stepCounts x_copyCounts x_wakeTimes x_registers x_pageCounts x_pageFrames x_held x_frameUsers x_frameWords x_openHolders x_openKinds x_openTargets x_openPlaces x_openModes x_pipeFirsts x_pipeCounts x_pipeWords x_nameFiles x_fileSizes x_fileWords x_safeNames x_safeSizes x_safeWords x_saidInts)) ∧ (∃ m, ∀ post : Int32 → SY → Prop, post r v' → (match v with | (y_changes, y_time, y_last, y_lastPid, y_did, y_greatest, y_stepped, y_says, y_killed, y_ops, y_as, y_bs, y_length, y_pid, y_parent, y_program, y_pc, y_status, y_steps, y_copies, y_pages, y_wake, y_zombie, y_blocked, y_reg, y_memory, y_frame, y_descriptor, y_kind, y_of, y_mode, y_place, y_piped, y_pipe, y_names, y_size, y_words, y_safeNames, y_safeSize, y_safeWords, y_said) => wY_run_25 post (nI n) m (nI done) y_changes y_time y_last y_lastPid y_did y_greatest y_stepped y_says y_killed y_ops y_as y_bs y_length y_pid y_parent y_program y_pc y_status y_steps y_copies y_pages y_wake y_zombie y_blocked y_reg y_memory y_frame y_descriptor y_kind y_of y_mode y_place y_piped y_pipe y_names y_size y_words y_safeNames y_safeSize y_safeWords y_said)) ∧ i_Rel k u' v'
  | 0, done, t, b, u, v, hd, ht, hb, hR => by
    have e : done = n := by omega
    subst e
    have I := uk_fin (k := k) (by omega) hb hR
    obtain ⟨x_changes, x_saidCount, x_time, x_lastSlot, x_sliceSteps, x_latestPid, x_greatestPid, x_code, x_codeLengths, x_pids, x_parents, x_programs, x_places, x_states, x_statuses, x_stepCounts, x_copyCounts, x_wakeTimes, x_registers, x_pageCounts, x_pageFrames, x_held, x_frameUsers, x_frameWords, x_openHolders, x_openKinds, x_openTargets, x_openPlaces, x_openModes, x_pipeFirsts, x_pipeCounts, x_pipeWords, x_nameFiles, x_fileSizes, x_fileWords, x_safeNames, x_safeSizes, x_safeWords, x_saidInts, y_time, y_last, y_lastPid, y_did, y_killed, y_ops, y_as, y_bs, y_pages, y_wake, y_zombie, y_blocked, y_memory, y_frame, y_kind, y_mode, y_pipe, y_size, y_safeSize, y_said, rfl, rfl, A⟩ := hR
    exact ⟨nI done, _, _, fun post h => br_t (uk_refl _) h, ⟨1, fun post h => br_t (uk_refl _) h⟩, I⟩
  | d + 1, done, t, b, u, v, hd, ht, hb, hR => by
    have I := uk_fin (k := k) (by omega) hb hR
    obtain ⟨x_changes, x_saidCount, x_time, x_lastSlot, x_sliceSteps, x_latestPid, x_greatestPid, x_code, x_codeLengths, x_pids, x_parents, x_programs, x_places, x_states, x_statuses, x_stepCounts, x_copyCounts, x_wakeTimes, x_registers, x_pageCounts, x_pageFrames, x_held, x_frameUsers, x_frameWords, x_openHolders, x_openKinds, x_openTargets, x_openPlaces, x_openModes, x_pipeFirsts, x_pipeCounts, x_pipeWords, x_nameFiles, x_fileSizes, x_fileWords, x_safeNames, x_safeSizes, x_safeWords, x_saidInts, y_time, y_last, y_lastPid, y_did, y_killed, y_ops, y_as, y_bs, y_pages, y_wake, y_zombie, y_blocked, y_memory, y_frame, y_kind, y_mode, y_pipe, y_size, y_safeSize, y_said, rfl, rfl, A⟩ := hR
    have eT := uk_aeT A
    subst eT
    have nle : ¬ nI n ≤ nI done := nI_ge (by omega) (by omega)
    have go : ∀ {t2 s : Nat} {sl' : Int32}, t2 ≤ t + 1001 → b ≤ t2 → uk_All t2 b x_changes x_saidCount (nI t2) x_lastSlot x_sliceSteps x_latestPid x_greatestPid x_code x_codeLengths x_pids x_parents x_programs x_places x_states x_statuses x_stepCounts x_copyCounts x_wakeTimes x_registers x_pageCounts x_pageFrames x_held x_frameUsers x_frameWords x_openHolders x_openKinds x_openTargets x_openPlaces x_openModes x_pipeFirsts x_pipeCounts x_pipeWords x_nameFiles x_fileSizes x_fileWords x_safeNames x_safeSizes x_safeWords x_saidInts y_time y_last y_lastPid y_did y_killed y_ops y_as y_bs y_pages y_wake y_zombie y_blocked y_memory y_frame y_kind y_mode y_pipe y_size y_safeSize y_said → s < 8 → uk_Rd x_pids x_parents y_zombie y_blocked x_programs x_places y_bs y_wake x_registers x_held y_kind x_openTargets x_pipeCounts (nI t2) s →
      ∃ r u' v', (∀ post : Int32 → SX → Prop, post r u' → wpX_step (fun u => match u with | (x_changes, x_saidCount, x_time, x_lastSlot, x_sliceSteps, x_latestPid, x_greatestPid, x_code, x_codeLengths, x_pids, x_parents, x_programs, x_places, x_states, x_statuses, x_stepCounts, x_copyCounts, x_wakeTimes, x_registers, x_pageCounts, x_pageFrames, x_held, x_frameUsers, x_frameWords, x_openHolders, x_openKinds, x_openTargets, x_openPlaces, x_openModes, x_pipeFirsts, x_pipeCounts, x_pipeWords, x_nameFiles, x_fileSizes, x_fileWords, x_safeNames, x_safeSizes, x_safeWords, x_saidInts) => ∀ y, y = nI done + 1 → wX_run_25 post (nI n) (d + 1) y x_changes x_saidCount x_time x_lastSlot x_sliceSteps x_latestPid x_greatestPid x_code x_codeLengths x_pids x_parents x_programs x_places x_states x_statuses x_stepCounts x_copyCounts x_wakeTimes x_registers x_pageCounts x_pageFrames x_held x_frameUsers x_frameWords x_openHolders x_openKinds x_openTargets x_openPlaces x_openModes x_pipeFirsts x_pipeCounts x_pipeWords x_nameFiles x_fileSizes x_fileWords x_safeNames x_safeSizes x_safeWords x_saidInts) (x_changes, x_saidCount, nI t2, nI s, sl', x_latestPid, x_greatestPid, x_code, x_codeLengths, x_pids, x_parents, x_programs, x_places, x_states, x_statuses, x_stepCounts, x_copyCounts, x_wakeTimes, x_registers, x_pageCounts, x_pageFrames, x_held, x_frameUsers, x_frameWords, x_openHolders, x_openKinds, x_openTargets, x_openPlaces, x_openModes, x_pipeFirsts, x_pipeCounts, x_pipeWords, x_nameFiles, x_fileSizes, x_fileWords, x_safeNames, x_safeSizes, x_safeWords, x_saidInts) (nI s)) ∧ (∃ m, ∀ post : Int32 → SY → Prop, post r v' → wpY_step (fun u => match u with | (y_changes, y_time, y_last, y_lastPid, y_did, y_greatest, y_stepped, y_says, y_killed, y_ops, y_as, y_bs, y_length, y_pid, y_parent, y_program, y_pc, y_status, y_steps, y_copies, y_pages, y_wake, y_zombie, y_blocked, y_reg, y_memory, y_frame, y_descriptor, y_kind, y_of, y_mode, y_place, y_piped, y_pipe, y_names, y_size, y_words, y_safeNames, y_safeSize, y_safeWords, y_said) => ∀ y, y = nI done + 1 → wY_run_25 post (nI n) m y y_changes y_time y_last y_lastPid y_did y_greatest y_stepped y_says y_killed y_ops y_as y_bs y_length y_pid y_parent y_program y_pc y_status y_steps y_copies y_pages y_wake y_zombie y_blocked y_reg y_memory y_frame y_descriptor y_kind y_of y_mode y_place y_piped y_pipe y_names y_size y_words y_safeNames y_safeSize y_safeWords y_said) (x_changes, nI t2, y_last, y_lastPid, sl', x_greatestPid, x_latestPid, x_saidCount, y_killed, y_ops, y_as, y_bs, x_codeLengths, x_pids, x_parents, x_programs, x_places, x_statuses, x_stepCounts, x_copyCounts, y_pages, y_wake, y_zombie, y_blocked, x_registers, y_memory, y_frame, x_held, y_kind, x_openTargets, y_mode, x_openPlaces, x_pipeCounts, y_pipe, x_nameFiles, y_size, x_fileWords, x_safeNames, y_safeSize, x_safeWords, y_said) (nI s)) ∧ i_Rel k u' v' := fun {t2 s sl'} h1 h2 A2 hs hRd => by
      obtain ⟨u1, v1, s1, s2, s3⟩ := uk_step (x_time := nI t2) (x_lastSlot := nI s) (x_sliceSteps := sl') (y_did := sl') A2 (by omega) h2 hs hRd rfl rfl
      obtain ⟨r, u', v', r1, ⟨m, r2⟩, r3⟩ := uk_runs (k := k) hn d (done + 1) (t2 + 1) (b + 1) u1 v1 (by omega) (by omega) (by omega) s3
      refine ⟨r, u', v', fun post h => s1 _ ?_, ⟨m, fun post h => s2 _ ?_⟩, r3⟩
      · have := r1 post h
        exact nm_r (nI_1 done) this
      · have := r2 post h
        exact nm_r (nI_1 done) this
    rcases uk_choose A with ⟨s, sl', hs, hRd, cX, cY⟩ | ⟨hnone, cX, cY⟩
    · obtain ⟨r, u', v', g1, ⟨m, g2⟩, g3⟩ := go (sl' := sl') (by omega) hb A hs hRd
      refine ⟨r, u', v', fun post h => br_f nle (cX _ (br_f (uk_ne1 (by omega)) (br_f (uk_ne1 (by omega)) (g1 post h)))), ⟨m + 1, fun post h => br_f nle (cY _ (br_f (nI_pos (by omega)) (g2 post h)))⟩, g3⟩
    · rcases uk_skip A (by omega) hnone with ⟨kX, kY⟩ | ⟨w, i, hw1, hw2, hi, hRi, A2, kX, kY⟩
      · exact ⟨nI done, _, _, fun post h => br_f nle (cX _ (br_t rfl (kX _ (br_t rfl (br_t rfl h))))), ⟨1, fun post h => br_f nle (cY _ (br_t (by decide) (kY _ (br_f (by decide) h))))⟩, I⟩
      · rcases uk_choose A2 with ⟨s, sl', hs, hRd, dX, dY⟩ | ⟨hnone2, _⟩
        · obtain ⟨r, u', v', g1, ⟨m, g2⟩, g3⟩ := go (sl' := sl') hw2 (by omega) A2 hs hRd
          refine ⟨r, u', v', fun post h => br_f nle (cX _ (br_t rfl (kX _ (br_f (by decide) (dX _ (br_f (uk_ne1 (by omega)) (g1 post h))))))), ⟨m + 2, fun post h => br_f nle (cY _ (br_t (by decide) (kY _ (br_t (nI_pos' (by omega)) (br_f nle (dY _ (br_f (nI_pos (by omega)) (g2 post h))))))))⟩, g3⟩
        · exact absurd hRi (hnone2 i hi)
theorem i_vc_run {k : Nat} {u : SX} {v : SY} (I : i_Rel k u v) (hk : k + 5 ≤ 2560) (v1 : Int32) : wpX_run (fun r u' => wpY_run (fun r' v' => r' = r ∧ i_Rel (k + 5) u' v') v v1) u v1 := by
  refine i_elim (C := fun u v => i_Rel (k + 5) u v → wpX_run (fun r u' => wpY_run (fun r' v' => r' = r ∧ i_Rel (k + 5) u' v') v v1) u v1) I ?_ (i_up I)
  intro t b x_changes x_saidCount x_time x_lastSlot x_sliceSteps x_latestPid x_greatestPid x_code x_codeLengths x_pids x_parents x_programs x_places x_states x_statuses x_stepCounts x_copyCounts x_wakeTimes x_registers x_pageCounts x_pageFrames x_held x_frameUsers x_frameWords x_openHolders x_openKinds x_openTargets x_openPlaces x_openModes x_pipeFirsts x_pipeCounts x_pipeWords x_nameFiles x_fileSizes x_fileWords x_safeNames x_safeSizes x_safeWords x_saidInts y_time y_last y_lastPid y_did y_killed y_ops y_as y_bs y_pages y_wake y_zombie y_blocked y_memory y_frame y_kind y_mode y_pipe y_size y_safeSize y_said ht hbt hA J
  have eT := uk_aeT hA
  subst eT
  unfold wpX_run
  refine ⟨fun a => ?_, fun a => ⟨fun b2 => ?_, fun b2 => ⟨fun c => ?_, fun c => ?_⟩⟩⟩
  · unfold wpY_run
    exact br_t a ⟨rfl, J⟩
  · unfold wpY_run
    exact br_f a (br_t b2 ⟨rfl, J⟩)
  · have h0 : ¬ v1 < 0 := fun z => a (Int32.lt_trans z (by decide))
    obtain ⟨n, hn, rfl⟩ := nI_of h0
    have n200 : n ≤ 200 := by
      have : ¬ 200 < n := fun z => b2 (nI_lt (a := 200) z hn)
      omega
    have t1 : t ≤ 1000000000 := (nI_leI (b := 1000000000) (by omega) (by decide)).mp c
    obtain ⟨r, u', v', r1, ⟨m, r2⟩, r3⟩ := uk_runs (k := k + 5) n200 n 0 t b _ _ (by omega) (by omega) hbt (uk_RmkT (nI t) y_killed hA)
    refine ⟨n + 1, r1 _ ?_⟩
    unfold wpY_run
    exact br_f a (br_f b2 (br_t c ⟨m, r2 _ ⟨rfl, r3⟩⟩))
  · unfold wpY_run
    exact br_f a (br_f b2 (br_f c ⟨rfl, J⟩))
