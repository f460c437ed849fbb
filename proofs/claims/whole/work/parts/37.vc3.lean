/-! process, clear, the new object -/
theorem i_vc_process {k : Nat} {u : SX} {v : SY} (I : i_Rel k u v) (hk : k + 5 ≤ 2560) (v1 : Int32) (v2 : Int32) : wpX_process (fun r => wpY_process (fun r' => r' = r ∧ i_Rel (k + 5) u v) v v1 v2) u v1 v2 := by
  refine i_elim (C := fun u v => i_Rel (k + 5) u v → wpX_process (fun r => wpY_process (fun r' => r' = r ∧ i_Rel (k + 5) u v) v v1 v2) u v1 v2) I ?_ (i_up I)
  intro t b x_changes x_saidCount x_time x_lastSlot x_sliceSteps x_latestPid x_greatestPid x_code x_codeLengths x_pids x_parents x_programs x_places x_states x_statuses x_stepCounts x_copyCounts x_wakeTimes x_registers x_pageCounts x_pageFrames x_held x_frameUsers x_frameWords x_openHolders x_openKinds x_openTargets x_openPlaces x_openModes x_pipeFirsts x_pipeCounts x_pipeWords x_nameFiles x_fileSizes x_fileWords x_safeNames x_safeSizes x_safeWords x_saidInts y_time y_last y_lastPid y_did y_killed y_ops y_as y_bs y_pages y_wake y_zombie y_blocked y_memory y_frame y_kind y_mode y_pipe y_size y_safeSize y_said ht hbt hA J
  have eT := uk_aeT hA
  have hPr := uk_aPr hA
  have hPs := uk_aPs hA
  have hMe := uk_aMe hA
  have hFu := uk_aFu hA
  have hHd := uk_aHd hA
  have hHo := uk_aHo hA
  have hOk := uk_aOk hA
  have hFi := uk_aFi hA
  have hP : ∀ s, s < 8 → ¬ x_pids s < 0 := fun s hs => (hPs s hs).1
  have hN : ∀ s, s < 8 → x_pids s ≠ 0 → ∃ n, n ≤ 8 ∧ y_pages s = nI n := fun s hs hp => by
    obtain ⟨n, h1, _, h3, _⟩ := hMe s hs hp
    exact ⟨n, h1, h3⟩
  have yn : ∀ post : Int32 → Prop, post (-1) → (v1 < 1 ∨ uk_ff (fun s => x_pids s = v1) 8 = -1) → wpY_process post (x_changes, x_time, y_last, y_lastPid, y_did, x_greatestPid, x_latestPid, x_saidCount, y_killed, y_ops, y_as, y_bs, x_codeLengths, x_pids, x_parents, x_programs, x_places, x_statuses, x_stepCounts, x_copyCounts, y_pages, y_wake, y_zombie, y_blocked, x_registers, y_memory, y_frame, x_held, y_kind, x_openTargets, y_mode, x_openPlaces, x_pipeCounts, y_pipe, x_nameFiles, y_size, x_fileWords, x_safeNames, y_safeSize, x_safeWords, y_said) v1 v2 := fun post hp h => by
    unfold wpY_process
    refine yk_slotOf (fun _ => br_f (by decide) hp) (fun a => ?_)
    rcases h with h | h
    · exact absurd h a
    · rw [h]
      exact br_f (by decide) hp
  unfold wpX_process
  refine xk_findSlot (fun a => br_t rfl (yn _ ⟨rfl, J⟩ (Or.inl a))) (fun a => ?_)
  rcases uk_slot (P := x_pids) a with e | ⟨s, hs, e, eP, hp0⟩
  · rw [e]
    exact br_t rfl (yn _ ⟨rfl, J⟩ (Or.inr e))
  obtain ⟨_, vs, es⟩ := uk_lp 8 hs (by decide)
  obtain ⟨q, hq8, q2, q3, q4, q5⟩ := hMe s hs hp0
  have ns : ¬ nI s < 0 := nI_pos (by omega)
  have ns0 : 0 ≤ nI s := nI_pos' (by omega)
  have yS : ∀ post : Int32 → Prop, (∀ post', post' (nI s) → wpY_slotOf post' (x_changes, x_time, y_last, y_lastPid, y_did, x_greatestPid, x_latestPid, x_saidCount, y_killed, y_ops, y_as, y_bs, x_codeLengths, x_pids, x_parents, x_programs, x_places, x_statuses, x_stepCounts, x_copyCounts, y_pages, y_wake, y_zombie, y_blocked, x_registers, y_memory, y_frame, x_held, y_kind, x_openTargets, y_mode, x_openPlaces, x_pipeCounts, y_pipe, x_nameFiles, y_size, x_fileWords, x_safeNames, y_safeSize, x_safeWords, y_said) v1) := fun post post' hp => yk_slotOf (fun z => absurd z a) (fun _ => by rw [e]; exact hp)
  rw [e]
  refine br_f (uk_ne1 (by omega)) ?_
  have e14 := uk_inE (x := v2) (n := 14) (N := 14) rfl (by decide)
  by_cases hv : vp_in v2 14
  · obtain ⟨w, hw, rfl⟩ := vp_in_of hv (by decide)
    have hzs := uk_zst hPs hs hp0
    have hz01 := (hPs s hs).2.2.2.2.1
    by_cases c0 : w = 0
    · subst c0
      refine br_t (by decide) ?_
      unfold wX_process_39
      refine br_f (by decide) (br_f (by decide) (br_t rfl ?_))
      unfold wpX_stateOf
      refine ⟨vs, ?_⟩
      rw [es]
      have yP : ∀ post : Int32 → Prop, ((y_zombie s = 0 → wpY_isReady (fun r_49 => (((r_49 = 0 → (post 2)) ∧ (¬ r_49 = 0 → (post 1))))) (x_changes, x_time, y_last, y_lastPid, y_did, x_greatestPid, x_latestPid, x_saidCount, y_killed, y_ops, y_as, y_bs, x_codeLengths, x_pids, x_parents, x_programs, x_places, x_statuses, x_stepCounts, x_copyCounts, y_pages, y_wake, y_zombie, y_blocked, x_registers, y_memory, y_frame, x_held, y_kind, x_openTargets, y_mode, x_openPlaces, x_pipeCounts, y_pipe, x_nameFiles, y_size, x_fileWords, x_safeNames, y_safeSize, x_safeWords, y_said) (nI s)) ∧ (¬ y_zombie s = 0 → post 3)) → wpY_process post (x_changes, x_time, y_last, y_lastPid, y_did, x_greatestPid, x_latestPid, x_saidCount, y_killed, y_ops, y_as, y_bs, x_codeLengths, x_pids, x_parents, x_programs, x_places, x_statuses, x_stepCounts, x_copyCounts, y_pages, y_wake, y_zombie, y_blocked, x_registers, y_memory, y_frame, x_held, y_kind, x_openTargets, y_mode, x_openPlaces, x_pipeCounts, y_pipe, x_nameFiles, y_size, x_fileWords, x_safeNames, y_safeSize, x_safeWords, y_said) v1 (nI 0) := fun post h => by
        unfold wpY_process
        refine yS (fun _ => True) _ (br_t ns0 (br_f (by decide) (br_f (by decide) (br_t rfl ⟨vs, ?_⟩))))
        rw [es]
        exact h
      refine ⟨fun a => yP _ (br_f (by rw [hzs.mp a]; decide) ⟨rfl, J⟩), fun a => ?_⟩
      have z0 : y_zombie s = 0 := hz01.resolve_right (fun z => a (hzs.mpr z))
      exact uk_rdX hA hs (fun r => br_f (by decide) (yP _ (br_t z0 (uk_rdY hA hs (fun _ => br_f (by decide) ⟨rfl, J⟩) (fun z => absurd r z))))) (fun r => br_t rfl (yP _ (br_t z0 (uk_rdY hA hs (fun z => absurd z r) (fun _ => br_t rfl ⟨rfl, J⟩)))))
    by_cases c1 : w = 1
    · subst c1
      refine br_t (by decide) ?_
      unfold wX_process_39
      refine br_f (by decide) (br_f (by decide) (br_f (by decide) (br_t rfl ⟨vs, ?_⟩)))
      unfold wpY_process
      refine yS (fun _ => True) _ (br_t ns0 (br_f (by decide) (br_f (by decide) (br_f (by decide) (br_t rfl ⟨vs, ?_, J⟩)))))
      rfl
    by_cases c2 : w = 2
    · subst c2
      refine br_t (by decide) ?_
      unfold wX_process_39
      refine br_f (by decide) (br_f (by decide) (br_f (by decide) (br_f (by decide) (br_t rfl ⟨vs, ?_⟩))))
      unfold wpY_process
      refine yS (fun _ => True) _ (br_t ns0 (br_f (by decide) (br_f (by decide) (br_f (by decide) (br_f (by decide) (br_t rfl ⟨vs, ?_, J⟩))))))
      rfl
    by_cases c3 : w = 3
    · subst c3
      refine br_t (by decide) ?_
      unfold wX_process_39
      refine br_f (by decide) (br_f (by decide) (br_f (by decide) (br_f (by decide) (br_f (by decide) (br_t rfl ⟨vs, ?_⟩)))))
      unfold wpY_process
      refine yS (fun _ => True) _ (br_t ns0 (br_f (by decide) (br_f (by decide) (br_f (by decide) (br_f (by decide) (br_f (by decide) (br_t rfl ⟨vs, ?_, J⟩)))))))
      rfl
    by_cases c4 : w = 4
    · subst c4
      refine br_t (by decide) ?_
      unfold wX_process_39
      refine br_f (by decide) (br_f (by decide) (br_f (by decide) (br_f (by decide) (br_f (by decide) (br_f (by decide) (br_t rfl ⟨vs, ?_⟩))))))
      unfold wpY_process
      refine yS (fun _ => True) _ (br_t ns0 (br_f (by decide) (br_f (by decide) (br_f (by decide) (br_f (by decide) (br_f (by decide) (br_f (by decide) (br_t rfl ⟨vs, ?_, J⟩))))))))
      rw [es, q2, q3]
    by_cases c5 : w = 5
    · subst c5
      refine br_t (by decide) ?_
      unfold wX_process_39
      refine br_f (by decide) (br_f (by decide) (br_f (by decide) (br_f (by decide) (br_f (by decide) (br_f (by decide) (br_f (by decide) (br_t rfl ⟨vs, ?_⟩)))))))
      rw [es]
      unfold wpY_process
      refine yS (fun _ => True) _ (br_t ns0 (br_f (by decide) (br_f (by decide) (br_f (by decide) (br_f (by decide) (br_f (by decide) (br_f (by decide) (br_f (by decide) (br_t rfl ⟨vs, ?_⟩)))))))))
      rw [es]
      refine ⟨fun a => ⟨?_, J⟩, fun a => ⟨vs, rfl, J⟩⟩
      rcases (hPs s hs).2.2.2.2.2.2 hp0 with ⟨z, _⟩ | ⟨_, z, _⟩
      · exact absurd (a.symm.trans z) (by decide)
      · exact z.symm
    by_cases c6 : w = 6
    · subst c6
      refine br_t (by decide) ?_
      unfold wX_process_39
      refine br_f (by decide) (br_f (by decide) (br_f (by decide) (br_f (by decide) (br_f (by decide) (br_f (by decide) (br_f (by decide) (br_f (by decide) (br_t rfl ?_))))))))
      unfold wpY_process
      exact yS (fun _ => True) _ (br_t ns0 (br_f (by decide) (br_f (by decide) (br_f (by decide) (br_f (by decide) (br_f (by decide) (br_f (by decide) (br_f (by decide) (br_f (by decide) (br_t rfl ⟨rfl, J⟩))))))))))
    by_cases c7 : w = 7
    · subst c7
      refine br_t (by decide) ?_
      unfold wX_process_39
      refine br_f (by decide) (br_f (by decide) (br_f (by decide) (br_f (by decide) (br_f (by decide) (br_f (by decide) (br_f (by decide) (br_f (by decide) (br_f (by decide) (br_t rfl ⟨vs, ?_⟩)))))))))
      unfold wpY_process
      refine yS (fun _ => True) _ (br_t ns0 (br_f (by decide) (br_f (by decide) (br_f (by decide) (br_f (by decide) (br_f (by decide) (br_f (by decide) (br_f (by decide) (br_f (by decide) (br_f (by decide) (br_t rfl ⟨vs, ?_, J⟩)))))))))))
      rfl
    by_cases c8 : w = 8
    · subst c8
      refine br_t (by decide) ?_
      unfold wX_process_39
      refine br_f (by decide) (br_f (by decide) (br_f (by decide) (br_f (by decide) (br_f (by decide) (br_f (by decide) (br_f (by decide) (br_f (by decide) (br_f (by decide) (br_f (by decide) (br_t rfl ⟨vs, ?_⟩))))))))))
      unfold wpY_process
      refine yS (fun _ => True) _ (br_t ns0 (br_f (by decide) (br_f (by decide) (br_f (by decide) (br_f (by decide) (br_f (by decide) (br_f (by decide) (br_f (by decide) (br_f (by decide) (br_f (by decide) (br_f (by decide) (br_t rfl ⟨vs, ?_, J⟩))))))))))))
      rfl
    by_cases c9 : w = 9
    · subst c9
      refine br_t (by decide) ?_
      unfold wX_process_39
      refine br_f (by decide) (br_t (by decide) ?_)
      unfold wpY_process
      exact yS (fun _ => True) _ (br_t ns0 (br_f (by decide) (br_f (by decide) (br_f (by decide) (br_f (by decide) (br_f (by decide) (br_f (by decide) (br_f (by decide) (br_f (by decide) (br_f (by decide) (br_f (by decide) (br_f (by decide) (br_t rfl ⟨rfl, J⟩)))))))))))))
    by_cases c10 : w = 10
    · subst c10
      have ei : nI s * 4 + nI 10 - 10 = nI (4 * s + 0) := by
        rw [uk_m4, nI_add]
        exact (pk_sub (b := 10) (by omega)).trans (congrArg nI (by omega))
      have ei2 : 4 * nI s + nI 10 - 10 = nI (4 * s + 0) := by
        rw [uk_4m, nI_add]
        exact (pk_sub (b := 10) (by omega)).trans (congrArg nI (by omega))
      refine br_f (by decide) (br_f (by decide) ?_)
      rw [ei]
      refine ⟨vp_in_nI (by omega) (by decide), ?_⟩
      unfold wpY_process
      refine yS (fun _ => True) _ (br_t ns0 (br_f (by decide) (br_f (by decide) (br_f (by decide) (br_f (by decide) (br_f (by decide) (br_f (by decide) (br_f (by decide) (br_f (by decide) (br_f (by decide) (br_f (by decide) (br_f (by decide) (br_f (by decide) (br_t rfl ?_))))))))))))))
      unfold wY_process_173
      rw [ei2]
      exact ⟨vp_in_nI (by omega) (by decide), rfl, J⟩
    by_cases c11 : w = 11
    · subst c11
      have ei : nI s * 4 + nI 11 - 10 = nI (4 * s + 1) := by
        rw [uk_m4, nI_add]
        exact (pk_sub (b := 10) (by omega)).trans (congrArg nI (by omega))
      have ei2 : 4 * nI s + nI 11 - 10 = nI (4 * s + 1) := by
        rw [uk_4m, nI_add]
        exact (pk_sub (b := 10) (by omega)).trans (congrArg nI (by omega))
      refine br_f (by decide) (br_f (by decide) ?_)
      rw [ei]
      refine ⟨vp_in_nI (by omega) (by decide), ?_⟩
      unfold wpY_process
      refine yS (fun _ => True) _ (br_t ns0 (br_f (by decide) (br_f (by decide) (br_f (by decide) (br_f (by decide) (br_f (by decide) (br_f (by decide) (br_f (by decide) (br_f (by decide) (br_f (by decide) (br_f (by decide) (br_f (by decide) (br_f (by decide) (br_f (by decide) (br_t rfl ?_)))))))))))))))
      unfold wY_process_173
      rw [ei2]
      exact ⟨vp_in_nI (by omega) (by decide), rfl, J⟩
    by_cases c12 : w = 12
    · subst c12
      have ei : nI s * 4 + nI 12 - 10 = nI (4 * s + 2) := by
        rw [uk_m4, nI_add]
        exact (pk_sub (b := 10) (by omega)).trans (congrArg nI (by omega))
      have ei2 : 4 * nI s + nI 12 - 10 = nI (4 * s + 2) := by
        rw [uk_4m, nI_add]
        exact (pk_sub (b := 10) (by omega)).trans (congrArg nI (by omega))
      refine br_f (by decide) (br_f (by decide) ?_)
      rw [ei]
      refine ⟨vp_in_nI (by omega) (by decide), ?_⟩
      unfold wpY_process
      refine yS (fun _ => True) _ (br_t ns0 (br_f (by decide) (br_f (by decide) (br_f (by decide) (br_f (by decide) (br_f (by decide) (br_f (by decide) (br_f (by decide) (br_f (by decide) (br_f (by decide) (br_f (by decide) (br_f (by decide) (br_f (by decide) (br_f (by decide) (br_f (by decide) (br_t rfl ?_))))))))))))))))
      unfold wY_process_173
      rw [ei2]
      exact ⟨vp_in_nI (by omega) (by decide), rfl, J⟩
    by_cases c13 : w = 13
    · subst c13
      have ei : nI s * 4 + nI 13 - 10 = nI (4 * s + 3) := by
        rw [uk_m4, nI_add]
        exact (pk_sub (b := 10) (by omega)).trans (congrArg nI (by omega))
      have ei2 : 4 * nI s + nI 13 - 10 = nI (4 * s + 3) := by
        rw [uk_4m, nI_add]
        exact (pk_sub (b := 10) (by omega)).trans (congrArg nI (by omega))
      refine br_f (by decide) (br_f (by decide) ?_)
      rw [ei]
      refine ⟨vp_in_nI (by omega) (by decide), ?_⟩
      unfold wpY_process
      refine yS (fun _ => True) _ (br_t ns0 (br_f (by decide) (br_f (by decide) (br_f (by decide) (br_f (by decide) (br_f (by decide) (br_f (by decide) (br_f (by decide) (br_f (by decide) (br_f (by decide) (br_f (by decide) (br_f (by decide) (br_f (by decide) (br_f (by decide) (br_f (by decide) (br_f (by decide) (br_t rfl ?_)))))))))))))))))
      unfold wY_process_173
      rw [ei2]
      exact ⟨vp_in_nI (by omega) (by decide), rfl, J⟩
    omega
  · have y0 : wpY_process (fun r' => r' = -1 ∧ i_Rel (k + 5) (x_changes, x_saidCount, x_time, x_lastSlot, x_sliceSteps, x_latestPid, x_greatestPid, x_code, x_codeLengths, x_pids, x_parents, x_programs, x_places, x_states, x_statuses, x_stepCounts, x_copyCounts, x_wakeTimes, x_registers, x_pageCounts, x_pageFrames, x_held, x_frameUsers, x_frameWords, x_openHolders, x_openKinds, x_openTargets, x_openPlaces, x_openModes, x_pipeFirsts, x_pipeCounts, x_pipeWords, x_nameFiles, x_fileSizes, x_fileWords, x_safeNames, x_safeSizes, x_safeWords, x_saidInts) (x_changes, x_time, y_last, y_lastPid, y_did, x_greatestPid, x_latestPid, x_saidCount, y_killed, y_ops, y_as, y_bs, x_codeLengths, x_pids, x_parents, x_programs, x_places, x_statuses, x_stepCounts, x_copyCounts, y_pages, y_wake, y_zombie, y_blocked, x_registers, y_memory, y_frame, x_held, y_kind, x_openTargets, y_mode, x_openPlaces, x_pipeCounts, y_pipe, x_nameFiles, y_size, x_fileWords, x_safeNames, y_safeSize, x_safeWords, y_said)) (x_changes, x_time, y_last, y_lastPid, y_did, x_greatestPid, x_latestPid, x_saidCount, y_killed, y_ops, y_as, y_bs, x_codeLengths, x_pids, x_parents, x_programs, x_places, x_statuses, x_stepCounts, x_copyCounts, y_pages, y_wake, y_zombie, y_blocked, x_registers, y_memory, y_frame, x_held, y_kind, x_openTargets, y_mode, x_openPlaces, x_pipeCounts, y_pipe, x_nameFiles, y_size, x_fileWords, x_safeNames, y_safeSize, x_safeWords, y_said) v1 v2 := by
      unfold wpY_process
      refine yS (fun _ => True) _ (br_t ns0 ⟨fun _ => ⟨rfl, J⟩, fun a => ⟨fun _ => ⟨rfl, J⟩, fun a2 => absurd (e14.mpr ⟨a, fun z => a2 (Int32.lt_of_lt_of_le (by decide) z)⟩) hv⟩⟩)
    have k39 : ¬ vp_in v2 14 → wX_process_39 (fun r => wpY_process (fun r' => r' = r ∧ i_Rel (k + 5) (x_changes, x_saidCount, x_time, x_lastSlot, x_sliceSteps, x_latestPid, x_greatestPid, x_code, x_codeLengths, x_pids, x_parents, x_programs, x_places, x_states, x_statuses, x_stepCounts, x_copyCounts, x_wakeTimes, x_registers, x_pageCounts, x_pageFrames, x_held, x_frameUsers, x_frameWords, x_openHolders, x_openKinds, x_openTargets, x_openPlaces, x_openModes, x_pipeFirsts, x_pipeCounts, x_pipeWords, x_nameFiles, x_fileSizes, x_fileWords, x_safeNames, x_safeSizes, x_safeWords, x_saidInts) (x_changes, x_time, y_last, y_lastPid, y_did, x_greatestPid, x_latestPid, x_saidCount, y_killed, y_ops, y_as, y_bs, x_codeLengths, x_pids, x_parents, x_programs, x_places, x_statuses, x_stepCounts, x_copyCounts, y_pages, y_wake, y_zombie, y_blocked, x_registers, y_memory, y_frame, x_held, y_kind, x_openTargets, y_mode, x_openPlaces, x_pipeCounts, y_pipe, x_nameFiles, y_size, x_fileWords, x_safeNames, y_safeSize, x_safeWords, y_said)) (x_changes, x_time, y_last, y_lastPid, y_did, x_greatestPid, x_latestPid, x_saidCount, y_killed, y_ops, y_as, y_bs, x_codeLengths, x_pids, x_parents, x_programs, x_places, x_statuses, x_stepCounts, x_copyCounts, y_pages, y_wake, y_zombie, y_blocked, x_registers, y_memory, y_frame, x_held, y_kind, x_openTargets, y_mode, x_openPlaces, x_pipeCounts, y_pipe, x_nameFiles, y_size, x_fileWords, x_safeNames, y_safeSize, x_safeWords, y_said) v1 v2) v2 (nI s) x_changes x_saidCount x_time x_lastSlot x_sliceSteps x_latestPid x_greatestPid x_code x_codeLengths x_pids x_parents x_programs x_places x_states x_statuses x_stepCounts x_copyCounts x_wakeTimes x_registers x_pageCounts x_pageFrames x_held x_frameUsers x_frameWords x_openHolders x_openKinds x_openTargets x_openPlaces x_openModes x_pipeFirsts x_pipeCounts x_pipeWords x_nameFiles x_fileSizes x_fileWords x_safeNames x_safeSizes x_safeWords x_saidInts := fun _ => by
      unfold wX_process_39
      refine ⟨fun _ => y0, fun a => ⟨fun _ => y0, fun a2 => absurd (e14.mpr ⟨a, fun z => a2 (Int32.lt_of_lt_of_le (by decide) z)⟩) hv⟩⟩
    exact ⟨fun _ => k39 hv, fun a => ⟨fun _ => k39 hv, fun a2 => absurd (e14.mpr ⟨fun z => a (Int32.lt_trans z (by decide)), a2⟩) hv⟩⟩
theorem uk_noneI {P : Nat → Int32} : nI (uk_cn (fun s => P s ≠ 0) 8) ≤ 0 ↔ ∀ s, s < 8 → P s = 0 := by
  have h := uk_cnle (fun s => P s ≠ 0) 8
  rw [uk_le0 (nI_pos (by omega)), uk_cnz (by decide)]
  exact ⟨fun z s hs => Classical.byContradiction (fun w => z s hs w), fun z s hs w => w (z s hs)⟩
theorem i_vc_clear {k : Nat} {u : SX} {v : SY} (I : i_Rel k u v) (hk : k + 5 ≤ 2560) (v1 : Int32) : wpX_clear (fun r u' => wpY_clear (fun r' v' => r' = r ∧ i_Rel (k + 5) u' v') v v1) u v1 := by
  refine i_elim (C := fun u v => i_Rel (k + 5) u v → wpX_clear (fun r u' => wpY_clear (fun r' v' => r' = r ∧ i_Rel (k + 5) u' v') v v1) u v1) I ?_ (i_up I)
  intro t b x_changes x_saidCount x_time x_lastSlot x_sliceSteps x_latestPid x_greatestPid x_code x_codeLengths x_pids x_parents x_programs x_places x_states x_statuses x_stepCounts x_copyCounts x_wakeTimes x_registers x_pageCounts x_pageFrames x_held x_frameUsers x_frameWords x_openHolders x_openKinds x_openTargets x_openPlaces x_openModes x_pipeFirsts x_pipeCounts x_pipeWords x_nameFiles x_fileSizes x_fileWords x_safeNames x_safeSizes x_safeWords x_saidInts y_time y_last y_lastPid y_did y_killed y_ops y_as y_bs y_pages y_wake y_zombie y_blocked y_memory y_frame y_kind y_mode y_pipe y_size y_safeSize y_said ht hbt hA J
  have eT := uk_aeT hA
  have hPr := uk_aPr hA
  have hPs := uk_aPs hA
  have hMe := uk_aMe hA
  have hFu := uk_aFu hA
  have hHd := uk_aHd hA
  have hHo := uk_aHo hA
  have hOk := uk_aOk hA
  have hFi := uk_aFi hA
  have hP : ∀ s, s < 8 → ¬ x_pids s < 0 := fun s hs => (hPs s hs).1
  have hN : ∀ s, s < 8 → x_pids s ≠ 0 → ∃ n, n ≤ 8 ∧ y_pages s = nI n := fun s hs hp => by
    obtain ⟨n, h1, _, h3, _⟩ := hMe s hs hp
    exact ⟨n, h1, h3⟩
  unfold wpX_clear
  refine xk_isProgram (fun a => br_f (by decide) (xk_countProcesses ⟨fun c => ⟨a, nm_e ⟨a, nm_e ?_⟩⟩, fun c => ?_⟩)) (fun a => br_t rfl ?_)
  · have h0 := uk_noneI.mp c
    have A1 : uk_All t b x_changes x_saidCount x_time x_lastSlot x_sliceSteps x_latestPid x_greatestPid x_code (upd x_codeLengths v1.toNatClampNeg 0) x_pids x_parents x_programs x_places x_states x_statuses x_stepCounts x_copyCounts x_wakeTimes x_registers x_pageCounts x_pageFrames x_held x_frameUsers x_frameWords x_openHolders x_openKinds x_openTargets x_openPlaces x_openModes x_pipeFirsts x_pipeCounts x_pipeWords x_nameFiles x_fileSizes x_fileWords x_safeNames x_safeSizes x_safeWords x_saidInts y_time y_last y_lastPid y_did y_killed y_ops y_as y_bs y_pages y_wake y_zombie y_blocked y_memory y_frame y_kind y_mode y_pipe y_size y_safeSize y_said := ⟨uk_aG hA, uk_aN hA, uk_aC hA, uk_aeT hA, ⟨hPr.1, fun p hp => by
      by_cases w : p = v1.toNatClampNeg
      · subst w; exact ⟨0, by omega, pk_us, fun j hj => by omega⟩
      · rw [pk_un w]; exact hPr.2 p hp⟩, uk_aPs hA, uk_aMe hA, uk_aFu hA, uk_aHd hA, uk_aHo hA, uk_aOk hA, uk_aPi hA, uk_aFi hA, uk_aSa hA, uk_aSc hA, fun s hs w => absurd (h0 s hs) w⟩
    unfold wpY_clear
    exact yk_no 5 rfl (by decide) (fun _ => br_t rfl (yk_processes hP (br_t c ⟨a, nm_e ⟨a, nm_e ⟨rfl, i_mk ht hbt A1⟩⟩⟩))) (fun z => absurd a z)
  · unfold wpY_clear
    exact yk_no 5 rfl (by decide) (fun _ => br_t rfl (yk_processes hP (br_f c ⟨rfl, J⟩))) (fun z => absurd a z)
  · unfold wpY_clear
    exact yk_no 5 rfl (by decide) (fun z => absurd z a) (fun _ => br_f (by decide) ⟨rfl, J⟩)
