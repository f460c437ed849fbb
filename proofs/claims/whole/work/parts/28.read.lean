/-! READ -/
section
variable {x_changes x_saidCount x_time x_lastSlot x_sliceSteps x_latestPid x_greatestPid : Int32} {x_code x_codeLengths x_pids x_parents x_programs x_places x_states x_statuses x_stepCounts x_copyCounts x_wakeTimes x_registers x_pageCounts x_pageFrames x_held x_frameUsers x_frameWords x_openHolders x_openKinds x_openTargets x_openPlaces x_openModes x_pipeFirsts x_pipeCounts x_pipeWords x_nameFiles x_fileSizes x_fileWords x_safeNames x_safeSizes x_safeWords x_saidInts : Nat → Int32} {y_time y_last y_lastPid y_did y_killed : Int32} {y_ops y_as y_bs y_pages y_wake y_zombie y_blocked y_memory y_frame y_kind y_mode y_pipe y_size y_safeSize y_said : Nat → Int32}
theorem uk_call7 {t b s : Nat} (A : uk_All t b x_changes x_saidCount x_time x_lastSlot x_sliceSteps x_latestPid x_greatestPid x_code x_codeLengths x_pids x_parents x_programs x_places x_states x_statuses x_stepCounts x_copyCounts x_wakeTimes x_registers x_pageCounts x_pageFrames x_held x_frameUsers x_frameWords x_openHolders x_openKinds x_openTargets x_openPlaces x_openModes x_pipeFirsts x_pipeCounts x_pipeWords x_nameFiles x_fileSizes x_fileWords x_safeNames x_safeSizes x_safeWords x_saidInts y_time y_last y_lastPid y_did y_killed y_ops y_as y_bs y_pages y_wake y_zombie y_blocked y_memory y_frame y_kind y_mode y_pipe y_size y_safeSize y_said) (hs : s < 8) (hp : x_pids s ≠ 0) (hz : y_zombie s = 0) (hb : y_blocked s = 0) :
  ∃ u' v', (∀ post : SX → Prop, post u' → wpX_doCall post (x_changes, x_saidCount, x_time, x_lastSlot, x_sliceSteps, x_latestPid, x_greatestPid, x_code, x_codeLengths, x_pids, x_parents, x_programs, x_places, x_states, x_statuses, x_stepCounts, x_copyCounts, x_wakeTimes, x_registers, x_pageCounts, x_pageFrames, x_held, x_frameUsers, x_frameWords, x_openHolders, x_openKinds, x_openTargets, x_openPlaces, x_openModes, x_pipeFirsts, x_pipeCounts, x_pipeWords, x_nameFiles, x_fileSizes, x_fileWords, x_safeNames, x_safeSizes, x_safeWords, x_saidInts) (nI s) 7) ∧ (∀ post : SY → Prop, post v' → wY_call_127 post (nI s) 7 (x_registers (4 * s)) (x_registers (4 * s + 1)) x_changes y_time y_last y_lastPid y_did x_greatestPid x_latestPid x_saidCount 0 y_ops y_as y_bs x_codeLengths x_pids x_parents x_programs x_places x_statuses x_stepCounts x_copyCounts y_pages y_wake y_zombie y_blocked x_registers y_memory y_frame x_held y_kind x_openTargets y_mode x_openPlaces x_pipeCounts y_pipe x_nameFiles y_size x_fileWords x_safeNames y_safeSize x_safeWords y_said) ∧ uk_R y_time t (b + 1) u' v' := by
  obtain ⟨_, vs, es⟩ := uk_lp 8 hs (by decide)
  obtain ⟨c, ec, hc⟩ := uk_aC A
  have hH := uk_aHd A s hs hp hz
  have hHo := uk_aHo A
  have hOk := uk_aOk A
  have hPi := uk_aPi A
  have hFi := uk_aFi A
  rcases uk_desc A hs hp hz with h0 | ⟨d, o, hd, ho, e1, e2, k1, k2, k3, k4⟩
  · refine ⟨_, _, fun post h => ?_, fun post h => ?_, uk_end0 (g := -1) A hs hp hz hb⟩
    · unfold wpX_doCall
      refine nm_r (uk_m4 s) ⟨vp_in_nI (by omega) (by decide), nm_r (uk_rg0 x_registers hs) ⟨uk_rgv hs, nm_r (uk_rg1 x_registers hs) (br_f (by decide) (br_f (by decide) (br_f (by decide) (br_f (by decide) (br_f (by decide) (br_f (by decide) (br_f (by decide) (br_f (by decide) (br_f (by decide) (br_t rfl ?_))))))))))⟩⟩
      unfold wpX_readWord
      exact xk_of0 hs hH h0 (br_t rfl (xk_tail0 hs ec hc h))
    · unfold wY_call_127
      exact br_t (by decide) (br_f (by decide) (yk_ds0 hs (by decide) (by decide) h0 (yk_tail0 hs h)))
  have vo : vp_in (nI o) 12 := vp_in_nI ho (by decide)
  have eo : (nI o).toNatClampNeg = o := nI_clamp (by omega)
  have hX : ∀ post : SX → Prop, (x_openModes o &&& 1 = 0 → wX_doCall_344 post (nI (4 * s)) (-1) x_changes x_saidCount x_time x_lastSlot x_sliceSteps x_latestPid x_greatestPid x_code x_codeLengths x_pids x_parents x_programs x_places x_states x_statuses x_stepCounts x_copyCounts x_wakeTimes x_registers x_pageCounts x_pageFrames x_held x_frameUsers x_frameWords x_openHolders x_openKinds x_openTargets x_openPlaces x_openModes x_pipeFirsts x_pipeCounts x_pipeWords x_nameFiles x_fileSizes x_fileWords x_safeNames x_safeSizes x_safeWords x_saidInts) → (x_openModes o &&& 1 ≠ 0 → (((x_openKinds o = 2 → wpX_readPipe (fun r u => match u with | (x_changes, x_saidCount, x_time, x_lastSlot, x_sliceSteps, x_latestPid, x_greatestPid, x_code, x_codeLengths, x_pids, x_parents, x_programs, x_places, x_states, x_statuses, x_stepCounts, x_copyCounts, x_wakeTimes, x_registers, x_pageCounts, x_pageFrames, x_held, x_frameUsers, x_frameWords, x_openHolders, x_openKinds, x_openTargets, x_openPlaces, x_openModes, x_pipeFirsts, x_pipeCounts, x_pipeWords, x_nameFiles, x_fileSizes, x_fileWords, x_safeNames, x_safeSizes, x_safeWords, x_saidInts) => wX_doCall_344 post (nI (4 * s)) r x_changes x_saidCount x_time x_lastSlot x_sliceSteps x_latestPid x_greatestPid x_code x_codeLengths x_pids x_parents x_programs x_places x_states x_statuses x_stepCounts x_copyCounts x_wakeTimes x_registers x_pageCounts x_pageFrames x_held x_frameUsers x_frameWords x_openHolders x_openKinds x_openTargets x_openPlaces x_openModes x_pipeFirsts x_pipeCounts x_pipeWords x_nameFiles x_fileSizes x_fileWords x_safeNames x_safeSizes x_safeWords x_saidInts) (x_changes, x_saidCount, x_time, x_lastSlot, x_sliceSteps, x_latestPid, x_greatestPid, x_code, x_codeLengths, x_pids, x_parents, x_programs, x_places, x_states, x_statuses, x_stepCounts, x_copyCounts, x_wakeTimes, x_registers, x_pageCounts, x_pageFrames, x_held, x_frameUsers, x_frameWords, x_openHolders, x_openKinds, x_openTargets, x_openPlaces, x_openModes, x_pipeFirsts, x_pipeCounts, x_pipeWords, x_nameFiles, x_fileSizes, x_fileWords, x_safeNames, x_safeSizes, x_safeWords, x_saidInts) (nI s) (x_openTargets o)) ∧ (¬ x_openKinds o = 2 → (vp_in (nI o) 12 ∧ ∀ x4, x4 = x_openPlaces o → (vp_in (x_openTargets o) 8 ∧ ((x4 < x_fileSizes (x_openTargets o).toNatClampNeg → (vp_in ((x_openTargets o * 16) + x4) 128 ∧ (vp_in ((nI s * 4) + 1) 32 ∧ ∀ R', R' = upd x_registers ((nI s * 4) + 1).toNatClampNeg (x_fileWords ((x_openTargets o * 16) + x4).toNatClampNeg) → (vp_in (nI o) 12 ∧ ∀ op', op' = upd x_openPlaces o (x4 + 1) → wX_doCall_344 post (nI (4 * s)) 1 x_changes x_saidCount x_time x_lastSlot x_sliceSteps x_latestPid x_greatestPid x_code x_codeLengths x_pids x_parents x_programs x_places x_states x_statuses x_stepCounts x_copyCounts x_wakeTimes R' x_pageCounts x_pageFrames x_held x_frameUsers x_frameWords x_openHolders x_openKinds x_openTargets op' x_openModes x_pipeFirsts x_pipeCounts x_pipeWords x_nameFiles x_fileSizes x_fileWords x_safeNames x_safeSizes x_safeWords x_saidInts)))) ∧ (¬ x4 < x_fileSizes (x_openTargets o).toNatClampNeg → wX_doCall_344 post (nI (4 * s)) 0 x_changes x_saidCount x_time x_lastSlot x_sliceSteps x_latestPid x_greatestPid x_code x_codeLengths x_pids x_parents x_programs x_places x_states x_statuses x_stepCounts x_copyCounts x_wakeTimes x_registers x_pageCounts x_pageFrames x_held x_frameUsers x_frameWords x_openHolders x_openKinds x_openTargets x_openPlaces x_openModes x_pipeFirsts x_pipeCounts x_pipeWords x_nameFiles x_fileSizes x_fileWords x_safeNames x_safeSizes x_safeWords x_saidInts)))))))) → wpX_doCall post (x_changes, x_saidCount, x_time, x_lastSlot, x_sliceSteps, x_latestPid, x_greatestPid, x_code, x_codeLengths, x_pids, x_parents, x_programs, x_places, x_states, x_statuses, x_stepCounts, x_copyCounts, x_wakeTimes, x_registers, x_pageCounts, x_pageFrames, x_held, x_frameUsers, x_frameWords, x_openHolders, x_openKinds, x_openTargets, x_openPlaces, x_openModes, x_pipeFirsts, x_pipeCounts, x_pipeWords, x_nameFiles, x_fileSizes, x_fileWords, x_safeNames, x_safeSizes, x_safeWords, x_saidInts) (nI s) 7 := fun post h0 h1 => by
    unfold wpX_doCall
    refine nm_r (uk_m4 s) ⟨vp_in_nI (by omega) (by decide), nm_r (uk_rg0 x_registers hs) ⟨uk_rgv hs, nm_r (uk_rg1 x_registers hs) (br_f (by decide) (br_f (by decide) (br_f (by decide) (br_f (by decide) (br_f (by decide) (br_f (by decide) (br_f (by decide) (br_f (by decide) (br_f (by decide) (br_t rfl ?_))))))))))⟩⟩
    unfold wpX_readWord
    refine xk_of1 hs hH hd ho e1 e2 (fun w => br_f (uk_ne1 (by omega)) ⟨vo, ?_⟩) (fun w => br_t rfl (h0 w))
    rw [eo]
    exact nm_e ⟨vo, h1 w⟩
  have hY : ∀ post : SY → Prop, wpY_take (fun r u => match u with | (y_changes, y_time, y_last, y_lastPid, y_did, y_greatest, y_stepped, y_says, y_killed, y_ops, y_as, y_bs, y_length, y_pid, y_parent, y_program, y_pc, y_status, y_steps, y_copies, y_pages, y_wake, y_zombie, y_blocked, y_reg, y_memory, y_frame, y_descriptor, y_kind, y_of, y_mode, y_place, y_piped, y_pipe, y_names, y_size, y_words, y_safeNames, y_safeSize, y_safeWords, y_said) => wY_call_169 post (nI s) r y_changes y_time y_last y_lastPid y_did y_greatest y_stepped y_says y_killed y_ops y_as y_bs y_length y_pid y_parent y_program y_pc y_status y_steps y_copies y_pages y_wake y_zombie y_blocked y_reg y_memory y_frame y_descriptor y_kind y_of y_mode y_place y_piped y_pipe y_names y_size y_words y_safeNames y_safeSize y_safeWords y_said) (x_changes, y_time, y_last, y_lastPid, y_did, x_greatestPid, x_latestPid, x_saidCount, 0, y_ops, y_as, y_bs, x_codeLengths, x_pids, x_parents, x_programs, x_places, x_statuses, x_stepCounts, x_copyCounts, y_pages, y_wake, y_zombie, y_blocked, x_registers, y_memory, y_frame, x_held, y_kind, x_openTargets, y_mode, x_openPlaces, x_pipeCounts, y_pipe, x_nameFiles, y_size, x_fileWords, x_safeNames, y_safeSize, x_safeWords, y_said) (nI s) (nI o) → wY_call_127 post (nI s) 7 (x_registers (4 * s)) (x_registers (4 * s + 1)) x_changes y_time y_last y_lastPid y_did x_greatestPid x_latestPid x_saidCount 0 y_ops y_as y_bs x_codeLengths x_pids x_parents x_programs x_places x_statuses x_stepCounts x_copyCounts y_pages y_wake y_zombie y_blocked x_registers y_memory y_frame x_held y_kind x_openTargets y_mode x_openPlaces x_pipeCounts y_pipe x_nameFiles y_size x_fileWords x_safeNames y_safeSize x_safeWords y_said := fun post h => by
    unfold wY_call_127
    refine br_t (by decide) (br_f (by decide) (yk_ds1 hs (by decide) (by decide) hd e1 e2 ?_))
    exact br_t (nI_pos' (by omega)) (br_t rfl h)
  rcases k4 with ⟨q1, q2, q3, q4⟩ | ⟨q1, q2, q3⟩ | ⟨q1, q2, q3⟩
  ·
    obtain ⟨f, hf, eT⟩ := vp_in_of q4 (by decide)
    obtain ⟨r1, r2, m, hm, eS⟩ := uk_nfre A ho hf q1 eT
    obtain ⟨p, hp16, eP⟩ := vp_in_of (hOk o ho).1 (by decide)
    by_cases hmo : x_openModes o &&& 1 = 0
    · refine ⟨_, _, fun post h => hX post (fun _ => xk_tail0 hs ec hc h) (fun w => absurd hmo w), fun post h => hY post ?_, uk_end0 (g := -1) A hs hp hz hb⟩
      unfold wpY_take
      refine ⟨vo, ?_⟩
      rw [eo]
      refine nm_e ⟨vo, br_t q1 ⟨vo, br_t ?_ (yk_tail0 hs h)⟩⟩
      rw [← q2]; exact hmo
    · have hkn : ¬ x_openKinds o = 2 := by rw [k2, q1]; decide
      have hmo2 : ¬ y_mode o &&& 1 = 0 := by rw [← q2]; exact hmo
      by_cases hpl : p < m
      · have A1 : uk_All t b x_changes x_saidCount x_time x_lastSlot x_sliceSteps x_latestPid x_greatestPid x_code x_codeLengths x_pids x_parents x_programs x_places x_states x_statuses x_stepCounts x_copyCounts x_wakeTimes x_registers x_pageCounts x_pageFrames x_held x_frameUsers x_frameWords x_openHolders x_openKinds x_openTargets (upd x_openPlaces o (nI (p + 1))) x_openModes x_pipeFirsts x_pipeCounts x_pipeWords x_nameFiles x_fileSizes x_fileWords x_safeNames x_safeSizes x_safeWords x_saidInts y_time y_last y_lastPid y_did y_killed y_ops y_as y_bs y_pages y_wake y_zombie y_blocked y_memory y_frame y_kind y_mode y_pipe y_size y_safeSize y_said := ⟨uk_aG A, uk_aN A, uk_aC A, uk_aeT A, uk_aPr A, uk_aPs A, uk_aMe A, uk_aFu A, uk_aHd A, uk_aHo A, uk_Ok_op o hOk (vp_in_nI (by omega) (by decide)), uk_aPi A, uk_aFi A, uk_aSa A, uk_aSc A, uk_aWk A⟩
        have A2 := uk_All_reg (i := 1) (x := x_fileWords (16 * f + p)) A1 hs hp hz hb (by decide)
        refine ⟨_, _, fun post h => hX post (fun w => absurd w hmo) (fun _ => br_f hkn ⟨vo, ?_⟩), fun post h => hY post ?_, uk_end0 (g := 1) A2 hs hp hz hb⟩
        · rw [eP]
          refine nm_e ⟨q4, ?_⟩
          rw [eT, nI_clamp (show f < 2 ^ 31 by omega), r2, eS, uk_m16, nI_add, uk_m4, nI_1, nI_1, nI_clamp (show 16 * f + p < 2 ^ 31 by omega), nI_clamp (show 4 * s + 1 < 2 ^ 31 by omega)]
          exact br_t (nI_lt hpl (by omega)) ⟨vp_in_nI (by omega) (by decide), vp_in_nI (by omega) (by decide), nm_e ⟨vo, nm_e (xk_tail0 hs ec hc h)⟩⟩
        · unfold wpY_take
          refine ⟨vo, ?_⟩
          rw [eo, eT]
          refine nm_e ⟨vo, br_t q1 ⟨vo, br_f hmo2 ⟨vo, vp_in_nI hf (by decide), ?_⟩⟩⟩
          rw [nI_clamp (show f < 2 ^ 31 by omega), eS, eP, uk_16m, nI_add, uk_4m, nI_1, nI_1, nI_clamp (show 16 * f + p < 2 ^ 31 by omega), nI_clamp (show 4 * s + 1 < 2 ^ 31 by omega)]
          exact br_t (nI_lt hpl (by omega)) ⟨vo, vo, nm_e ⟨vp_in_nI (by omega) (by decide), vp_in_nI (by omega) (by decide), nm_e (yk_tail0 hs h)⟩⟩
      · refine ⟨_, _, fun post h => hX post (fun w => absurd w hmo) (fun _ => br_f hkn ⟨vo, ?_⟩), fun post h => hY post ?_, uk_end0 (g := 0) A hs hp hz hb⟩
        · rw [eP]
          refine nm_e ⟨q4, ?_⟩
          rw [eT, nI_clamp (show f < 2 ^ 31 by omega), r2, eS]
          exact br_f (nI_nlt (by omega) (by omega)) (xk_tail0 hs ec hc h)
        · unfold wpY_take
          refine ⟨vo, ?_⟩
          rw [eo, eT]
          refine nm_e ⟨vo, br_t q1 ⟨vo, br_f hmo2 ⟨vo, vp_in_nI hf (by decide), ?_⟩⟩⟩
          rw [nI_clamp (show f < 2 ^ 31 by omega), eS, eP]
          exact br_f (nI_nlt (by omega) (by omega)) (yk_tail0 hs h)
  ·
    have hmo : ¬ x_openModes o &&& 1 = 0 := by rw [q2]; decide
    have hk2 : x_openKinds o = 2 := k2.trans q1
    obtain ⟨pp, hpp, eT⟩ := vp_in_of q3 (by decide)
    obtain ⟨cc, ff, c1, c2, c3, c4, c5⟩ := hPi pp hpp
    have vp4 : vp_in (nI pp) 4 := vp_in_nI hpp (by decide)
    have yk1 : ¬ y_kind o = 1 := by rw [q1]; decide
    have yk3 : ¬ y_kind o = 3 := by rw [q1]; decide
    cases cc with
    | zero =>
      refine ⟨_, _, fun post h => hX post (fun w => absurd w hmo) (fun _ => br_t hk2 ?_), fun post h => hY post ?_, uk_end0 (g := 0) A hs hp hz hb⟩
      · unfold wpX_readPipe
        rw [eT]
        refine ⟨vp4, ?_⟩
        rw [nI_clamp (show pp < 2 ^ 31 by omega), c3]
        exact br_t rfl (xk_tail0 hs ec hc h)
      · unfold wpY_take
        refine ⟨vo, ?_⟩
        rw [eo, eT]
        refine nm_e ⟨vo, br_f yk1 ⟨vo, br_f yk3 ⟨vp4, ?_⟩⟩⟩
        rw [nI_clamp (show pp < 2 ^ 31 by omega), c3]
        exact br_t rfl (yk_tail0 hs h)
    | succ cc =>
      obtain ⟨w1, w2⟩ := uk_pi_rd hPi hpp c3 c4 (by omega) c2
      have A1 : uk_All t b x_changes x_saidCount x_time x_lastSlot x_sliceSteps x_latestPid x_greatestPid x_code x_codeLengths x_pids x_parents x_programs x_places x_states x_statuses x_stepCounts x_copyCounts x_wakeTimes x_registers x_pageCounts x_pageFrames x_held x_frameUsers x_frameWords x_openHolders x_openKinds x_openTargets x_openPlaces x_openModes (upd x_pipeFirsts pp (nI ((ff + 1) % 4))) (upd x_pipeCounts pp (nI cc)) x_pipeWords x_nameFiles x_fileSizes x_fileWords x_safeNames x_safeSizes x_safeWords x_saidInts y_time y_last y_lastPid y_did y_killed y_ops y_as y_bs y_pages y_wake y_zombie y_blocked y_memory y_frame y_kind y_mode (uk_fl y_pipe (4 * pp) (fun k => y_pipe (4 * pp + k + 1)) cc) y_size y_safeSize y_said := ⟨uk_aG A, uk_aN A, uk_aC A, uk_aeT A, uk_aPr A, uk_aPs A, uk_aMe A, uk_aFu A, uk_aHd A, uk_aHo A, uk_aOk A, w2, uk_aFi A, uk_aSa A, uk_aSc A, uk_aWk A⟩
      have A2 := uk_All_reg (i := 1) (x := y_pipe (4 * pp)) A1 hs hp hz hb (by decide)
      have n0 : ¬ nI (cc + 1) = 0 := nI_ne0 (by omega) (by omega)
      have epred : nI (cc + 1) - 1 = nI cc := nI_pred cc
      refine ⟨_, _, fun post h => hX post (fun w => absurd w hmo) (fun _ => br_t hk2 ?_), fun post h => hY post ?_, uk_end0 (g := 1) A2 hs hp hz hb⟩
      · unfold wpX_readPipe
        rw [eT]
        refine ⟨vp4, ?_⟩
        rw [nI_clamp (show pp < 2 ^ 31 by omega), c3, c4]
        refine br_f n0 ⟨vp4, nm_e ?_⟩
        have er : nI ff + 1 - (nI ff + 1) / 4 * 4 = nI ((ff + 1) % 4) := by rw [nI_1]; exact pk_rem (d := 4) (by omega) (by decide) (by decide)
        rw [er, uk_m4, uk_m4, nI_add, nI_1, nI_clamp (show 4 * pp + ff < 2 ^ 31 by omega), nI_clamp (show 4 * s + 1 < 2 ^ 31 by omega), w1, epred]
        exact ⟨vp_in_nI (by omega) (by decide), vp_in_nI (by omega) (by decide), nm_e ⟨by decide, vp4, nm_e ⟨vp4, vp4, nm_e (xk_tail0 hs ec hc h)⟩⟩⟩
      · unfold wpY_take
        refine ⟨vo, ?_⟩
        rw [eo, eT]
        refine nm_e ⟨vo, br_f yk1 ⟨vo, br_f yk3 ⟨vp4, ?_⟩⟩⟩
        rw [nI_clamp (show pp < 2 ^ 31 by omega), c3, uk_4m, uk_4m, nI_1, nI_clamp (show 4 * pp < 2 ^ 31 by omega), nI_clamp (show 4 * s + 1 < 2 ^ 31 by omega), epred]
        refine br_f n0 ⟨vp_in_nI (by omega) (by decide), vp_in_nI (by omega) (by decide), nm_e ⟨vp4, vp4, nm_e ?_⟩⟩
        have key := uk_run0 (fun m k (w : Nat → Int32) => wY_take_134 (fun r u => match u with | (y_changes, y_time, y_last, y_lastPid, y_did, y_greatest, y_stepped, y_says, y_killed, y_ops, y_as, y_bs, y_length, y_pid, y_parent, y_program, y_pc, y_status, y_steps, y_copies, y_pages, y_wake, y_zombie, y_blocked, y_reg, y_memory, y_frame, y_descriptor, y_kind, y_of, y_mode, y_place, y_piped, y_pipe, y_names, y_size, y_words, y_safeNames, y_safeSize, y_safeWords, y_said) => wY_call_169 post (nI s) r y_changes y_time y_last y_lastPid y_did y_greatest y_stepped y_says y_killed y_ops y_as y_bs y_length y_pid y_parent y_program y_pc y_status y_steps y_copies y_pages y_wake y_zombie y_blocked y_reg y_memory y_frame y_descriptor y_kind y_of y_mode y_place y_piped y_pipe y_names y_size y_words y_safeNames y_safeSize y_safeWords y_said) (nI pp) x_changes y_time y_last y_lastPid y_did x_greatestPid x_latestPid x_saidCount 0 m (nI k) y_ops y_as y_bs x_codeLengths x_pids x_parents x_programs x_places x_statuses x_stepCounts x_copyCounts y_pages y_wake y_zombie y_blocked (upd x_registers (4 * s + 1) (y_pipe (4 * pp))) y_memory y_frame x_held y_kind x_openTargets y_mode x_openPlaces (upd x_pipeCounts pp (nI cc)) w x_nameFiles y_size x_fileWords x_safeNames y_safeSize x_safeWords y_said) (fun k => uk_fl y_pipe (4 * pp) (fun k => y_pipe (4 * pp + k + 1)) k) cc (fun m => by
          refine ⟨vp4, ?_⟩
          rw [nI_clamp (show pp < 2 ^ 31 by omega), pk_us]
          exact br_t (uk_refl _) (yk_tail0 hs h)) (fun m k hk ih => by
          refine ⟨vp4, ?_⟩
          rw [nI_clamp (show pp < 2 ^ 31 by omega), pk_us]
          refine br_f (nI_ge hk (by omega)) ?_
          rw [uk_4m, nI_add, nI_1, nI_clamp (show 4 * pp + k < 2 ^ 31 by omega), nI_clamp (show 4 * pp + k + 1 < 2 ^ 31 by omega), uk_flout (show 4 * pp + k + 1 < 4 * pp ∨ 4 * pp + k ≤ 4 * pp + k + 1 by omega)]
          exact ⟨vp_in_nI (by omega) (by decide), vp_in_nI (by omega) (by decide), nm_r (uk_fls (g := fun k => y_pipe (4 * pp + k + 1))) (nm_r (nI_1 k) ih)⟩)
        rw [uk_fl0] at key
        exact key
  ·
    have hmo : x_openModes o &&& 1 = 0 := by rw [q2]; decide
    refine ⟨_, _, fun post h => hX post (fun _ => xk_tail0 hs ec hc h) (fun w => absurd hmo w), fun post h => hY post ?_, uk_end0 (g := -1) A hs hp hz hb⟩
    unfold wpY_take
    refine ⟨vo, ?_⟩
    rw [eo]
    exact nm_e ⟨vo, br_f (by rw [q1]; decide) ⟨vo, br_t q1 (yk_tail0 hs h)⟩⟩
end
