/-! FORK -/
theorem uk_flh {a g : Nat → Int32} {b N : Nat} {x : Int32} (hN : 0 < N) : upd (uk_fl a b g N) b x = uk_fl a b (fun r => if r = 0 then x else g r) N := by
  funext j
  by_cases e : j = b
  · subst e
    rw [pk_us]
    have := uk_flin (a := a) (b := j) (g := fun r => if r = 0 then x else g r) hN
    rw [Nat.add_zero] at this
    rw [this]
    rfl
  · rw [pk_un e]
    by_cases h : b ≤ j ∧ j < b + N
    · obtain ⟨i, rfl⟩ : ∃ i, j = b + i := ⟨j - b, by omega⟩
      rw [uk_flin (show i < N by omega), uk_flin (show i < N by omega)]
      exact (if_neg (by omega)).symm
    · rw [uk_flout (by omega), uk_flout (by omega)]
section
variable {x_changes x_saidCount x_time x_lastSlot x_sliceSteps x_latestPid x_greatestPid : Int32} {x_code x_codeLengths x_pids x_parents x_programs x_places x_states x_statuses x_stepCounts x_copyCounts x_wakeTimes x_registers x_pageCounts x_pageFrames x_held x_frameUsers x_frameWords x_openHolders x_openKinds x_openTargets x_openPlaces x_openModes x_pipeFirsts x_pipeCounts x_pipeWords x_nameFiles x_fileSizes x_fileWords x_safeNames x_safeSizes x_safeWords x_saidInts : Nat → Int32} {y_time y_last y_lastPid y_did y_killed : Int32} {y_ops y_as y_bs y_pages y_wake y_zombie y_blocked y_memory y_frame y_kind y_mode y_pipe y_size y_safeSize y_said : Nat → Int32}
theorem xk_share {post : SX → Prop} {s c n : Nat} (hs : s < 8) (hc : c < 8) (hsc : s ≠ c) (hn : x_pageCounts s = nI n) (hn8 : n ≤ 8) (hpf : ∀ p, p < n → vp_in (x_pageFrames (8 * s + p)) 20) (h : post (x_changes, x_saidCount, x_time, x_lastSlot, x_sliceSteps, x_latestPid, x_greatestPid, x_code, x_codeLengths, x_pids, x_parents, x_programs, x_places, x_states, x_statuses, x_stepCounts, x_copyCounts, x_wakeTimes, x_registers, upd x_pageCounts c (nI n), uk_fl x_pageFrames (8 * c) (fun p => x_pageFrames (8 * s + p)) n, x_held, uk_icc x_frameUsers x_pageFrames (8 * s) n, x_frameWords, x_openHolders, x_openKinds, x_openTargets, x_openPlaces, x_openModes, x_pipeFirsts, x_pipeCounts, x_pipeWords, x_nameFiles, x_fileSizes, x_fileWords, x_safeNames, x_safeSizes, x_safeWords, x_saidInts)) : wpX_sharePages post (x_changes, x_saidCount, x_time, x_lastSlot, x_sliceSteps, x_latestPid, x_greatestPid, x_code, x_codeLengths, x_pids, x_parents, x_programs, x_places, x_states, x_statuses, x_stepCounts, x_copyCounts, x_wakeTimes, x_registers, x_pageCounts, x_pageFrames, x_held, x_frameUsers, x_frameWords, x_openHolders, x_openKinds, x_openTargets, x_openPlaces, x_openModes, x_pipeFirsts, x_pipeCounts, x_pipeWords, x_nameFiles, x_fileSizes, x_fileWords, x_safeNames, x_safeSizes, x_safeWords, x_saidInts) (nI s) (nI c) := by
  obtain ⟨_, vs, es⟩ := uk_lp 8 hs (by decide)
  obtain ⟨_, vc, ecc⟩ := uk_lp 8 hc (by decide)
  unfold wpX_sharePages
  have key := uk_run0 (fun m p (w : (Nat → Int32) × (Nat → Int32)) => wX_sharePages_2 post (nI s) (nI c) x_changes x_saidCount x_time x_lastSlot x_sliceSteps x_latestPid x_greatestPid m (nI p) x_code x_codeLengths x_pids x_parents x_programs x_places x_states x_statuses x_stepCounts x_copyCounts x_wakeTimes x_registers x_pageCounts w.1 x_held w.2 x_frameWords x_openHolders x_openKinds x_openTargets x_openPlaces x_openModes x_pipeFirsts x_pipeCounts x_pipeWords x_nameFiles x_fileSizes x_fileWords x_safeNames x_safeSizes x_safeWords x_saidInts) (fun p => (uk_fl x_pageFrames (8 * c) (fun p => x_pageFrames (8 * s + p)) p, uk_icc x_frameUsers x_pageFrames (8 * s) p)) n (fun m => by
    refine ⟨vs, ?_⟩
    rw [es, ecc, hn]
    exact br_t (uk_refl _) ⟨vs, vc, nm_e h⟩) (fun m p hp ih => by
    refine ⟨vs, ?_⟩
    rw [es, hn]
    refine br_f (nI_ge hp (by omega)) ?_
    rw [uk_m8, uk_m8, nI_add, nI_add, nI_clamp (show 8 * s + p < 2 ^ 31 by omega), nI_clamp (show 8 * c + p < 2 ^ 31 by omega)]
    dsimp only
    have er : uk_fl x_pageFrames (8 * c) (fun p => x_pageFrames (8 * s + p)) p (8 * s + p) = x_pageFrames (8 * s + p) := uk_flout (by omega)
    exact ⟨vp_in_nI (by omega) (by decide), nm_r er ⟨vp_in_nI (by omega) (by decide), nm_r (uk_fls (g := fun p => x_pageFrames (8 * s + p))) ⟨hpf p hp, hpf p hp, nm_e (nm_r (nI_1 p) ih)⟩⟩⟩)
  dsimp only at key
  rw [uk_fl0] at key
  exact key
theorem xk_fork {post : Int32 → SX → Prop} {s c n g : Nat} (hs : s < 8) (hc : c < 8) (hsc : s ≠ c) (hff : uk_ff (fun i => x_pids i = 0) 8 = nI c) (eg : x_greatestPid = nI g) (hn : x_pageCounts s = nI n) (hn8 : n ≤ 8) (hpf : ∀ p, p < n → vp_in (x_pageFrames (8 * s + p)) 20) (hH : ∀ d, d < 6 → x_held (6 * s + d) = -1 ∨ vp_in (x_held (6 * s + d)) 12) (h : post (nI (g + 1)) (x_changes, x_saidCount, x_time, x_lastSlot, x_sliceSteps, x_latestPid, nI (g + 1), x_code, x_codeLengths, upd x_pids c (nI (g + 1)), upd x_parents c (x_pids s), upd x_programs c (x_programs s), upd x_places c (x_places s), upd x_states c 1, upd x_statuses c 0, upd x_stepCounts c 0, upd x_copyCounts c 0, upd x_wakeTimes c 0, uk_fl x_registers (4 * c) (fun r => if r = 0 then 0 else x_registers (4 * s + r)) 4, upd x_pageCounts c (nI n), uk_fl x_pageFrames (8 * c) (fun p => x_pageFrames (8 * s + p)) n, uk_fl x_held (6 * c) (fun d => x_held (6 * s + d)) 6, uk_icc x_frameUsers x_pageFrames (8 * s) n, x_frameWords, uk_hic x_openHolders x_held (6 * s) 6, x_openKinds, x_openTargets, x_openPlaces, x_openModes, x_pipeFirsts, x_pipeCounts, x_pipeWords, x_nameFiles, x_fileSizes, x_fileWords, x_safeNames, x_safeSizes, x_safeWords, x_saidInts)) : wpX_forkProcess post (x_changes, x_saidCount, x_time, x_lastSlot, x_sliceSteps, x_latestPid, x_greatestPid, x_code, x_codeLengths, x_pids, x_parents, x_programs, x_places, x_states, x_statuses, x_stepCounts, x_copyCounts, x_wakeTimes, x_registers, x_pageCounts, x_pageFrames, x_held, x_frameUsers, x_frameWords, x_openHolders, x_openKinds, x_openTargets, x_openPlaces, x_openModes, x_pipeFirsts, x_pipeCounts, x_pipeWords, x_nameFiles, x_fileSizes, x_fileWords, x_safeNames, x_safeSizes, x_safeWords, x_saidInts) (nI s) := by
  obtain ⟨_, vs, es⟩ := uk_lp 8 hs (by decide)
  obtain ⟨_, vc, ecc⟩ := uk_lp 8 hc (by decide)
  unfold wpX_forkProcess
  refine xk_freeSlot ?_
  rw [hff]
  refine br_f (uk_ne1 (by omega)) (nm_r (show x_greatestPid + 1 = nI (g + 1) by rw [eg]; exact nI_1 g) ⟨vs, ?_⟩)
  rw [es, ecc]
  unfold wpX_beginProcess
  dsimp only
  rw [ecc]
  refine ⟨vc, nm_e ⟨vc, nm_e ⟨vc, nm_e ⟨vc, nm_e ⟨vc, nm_e ⟨vc, nm_e ⟨vc, nm_e ⟨vc, nm_e ⟨vs, vc, nm_e ⟨vs, vc, nm_e ?_⟩⟩⟩⟩⟩⟩⟩⟩⟩⟩
  have kR := uk_run0 (fun m r (w : Nat → Int32) => wX_forkProcess_63 post (nI s) (nI c) x_changes x_saidCount x_time x_lastSlot x_sliceSteps x_latestPid (nI (g + 1)) m (nI r) x_code x_codeLengths (upd x_pids c (nI (g + 1))) (upd x_parents c (x_pids s)) (upd x_programs c (x_programs s)) (upd x_places c (x_places s)) (upd x_states c 1) (upd x_statuses c 0) (upd x_stepCounts c 0) (upd x_copyCounts c 0) (upd x_wakeTimes c 0) w (upd x_pageCounts c 0) x_pageFrames x_held x_frameUsers x_frameWords x_openHolders x_openKinds x_openTargets x_openPlaces x_openModes x_pipeFirsts x_pipeCounts x_pipeWords x_nameFiles x_fileSizes x_fileWords x_safeNames x_safeSizes x_safeWords x_saidInts) (fun r => uk_fl x_registers (4 * c) (fun r => x_registers (4 * s + r)) r) 4 (fun m => by
    refine br_t (uk_refl 4) ?_
    rw [uk_m4, nI_clamp (show 4 * c < 2 ^ 31 by omega)]
    refine ⟨vp_in_nI (by omega) (by decide), nm_r (uk_flh (by decide)) (xk_share (n := n) hs hc hsc ((pk_un hsc).trans hn) hn8 hpf ?_)⟩
    rw [uk_uu]
    have kH := uk_run0 (fun m d (w : (Nat → Int32) × (Nat → Int32)) => wX_forkProcess_111 post (nI s) (nI c) x_changes x_saidCount x_time x_lastSlot x_sliceSteps x_latestPid (nI (g + 1)) m (nI d) x_code x_codeLengths (upd x_pids c (nI (g + 1))) (upd x_parents c (x_pids s)) (upd x_programs c (x_programs s)) (upd x_places c (x_places s)) (upd x_states c 1) (upd x_statuses c 0) (upd x_stepCounts c 0) (upd x_copyCounts c 0) (upd x_wakeTimes c 0) (uk_fl x_registers (4 * c) (fun r => if r = 0 then 0 else x_registers (4 * s + r)) 4) (upd x_pageCounts c (nI n)) (uk_fl x_pageFrames (8 * c) (fun p => x_pageFrames (8 * s + p)) n) w.1 (uk_icc x_frameUsers x_pageFrames (8 * s) n) x_frameWords w.2 x_openKinds x_openTargets x_openPlaces x_openModes x_pipeFirsts x_pipeCounts x_pipeWords x_nameFiles x_fileSizes x_fileWords x_safeNames x_safeSizes x_safeWords x_saidInts) (fun d => (uk_fl x_held (6 * c) (fun d => x_held (6 * s + d)) d, uk_hic x_openHolders x_held (6 * s) d)) 6 (fun m => br_t (uk_refl 6) h) (fun m d hd ih => by
      refine br_f (nI_ge (b := 6) hd (by decide)) ?_
      rw [uk_m6, uk_m6, nI_add, nI_add, nI_clamp (show 6 * s + d < 2 ^ 31 by omega), nI_clamp (show 6 * c + d < 2 ^ 31 by omega)]
      dsimp only
      have er : uk_fl x_held (6 * c) (fun d => x_held (6 * s + d)) d (6 * s + d) = x_held (6 * s + d) := uk_flout (by omega)
      refine ⟨vp_in_nI (by omega) (by decide), nm_r er ⟨vp_in_nI (by omega) (by decide), nm_r (uk_fls (g := fun d => x_held (6 * s + d))) ?_⟩⟩
      by_cases e1 : x_held (6 * s + d) = -1
      · have ei : uk_hic x_openHolders x_held (6 * s) (d + 1) = uk_hic x_openHolders x_held (6 * s) d := if_pos e1
        dsimp only at ih
        rw [ei] at ih
        exact br_t e1 (nm_r (nI_1 d) ih)
      · have hv := (hH d hd).resolve_left e1
        have ei : uk_hic x_openHolders x_held (6 * s) (d + 1) = upd (uk_hic x_openHolders x_held (6 * s) d) (x_held (6 * s + d)).toNatClampNeg (uk_hic x_openHolders x_held (6 * s) d (x_held (6 * s + d)).toNatClampNeg + 1) := if_neg e1
        dsimp only at ih
        rw [ei] at ih
        exact br_f e1 ⟨hv, hv, nm_e (nm_r (nI_1 d) ih)⟩)
    dsimp only at kH
    rw [uk_fl0] at kH
    exact kH) (fun m r hr ih => by
    refine br_f (nI_ge (b := 4) hr (by decide)) ?_
    rw [uk_m4, uk_m4, nI_add, nI_add, nI_clamp (show 4 * s + r < 2 ^ 31 by omega), nI_clamp (show 4 * c + r < 2 ^ 31 by omega), uk_flout (show 4 * s + r < 4 * c ∨ 4 * c + r ≤ 4 * s + r by omega)]
    exact ⟨vp_in_nI (by omega) (by decide), vp_in_nI (by omega) (by decide), nm_r (uk_fls (g := fun r => x_registers (4 * s + r))) (nm_r (nI_1 r) ih)⟩)
  rw [uk_fl0] at kR
  exact kR
theorem yk_fork {post : Int32 → SY → Prop} {s c n g : Nat} (hs : s < 8) (hc : c < 8) (hsc : s ≠ c) (hP : ∀ s, s < 8 → ¬ x_pids s < 0) (hpc : x_pids c = 0) (hfirst : ∀ i, i < c → x_pids i ≠ 0) (eg : x_greatestPid = nI g) (hn : y_pages s = nI n) (h : post (nI (g + 1)) (x_changes, y_time, y_last, y_lastPid, y_did, nI (g + 1), x_latestPid, x_saidCount, y_killed, y_ops, y_as, y_bs, x_codeLengths, upd x_pids c (nI (g + 1)), upd x_parents c (x_pids s), upd x_programs c (x_programs s), upd x_places c (x_places s), upd x_statuses c 0, upd x_stepCounts c 0, upd x_copyCounts c 0, upd y_pages c (nI n), upd y_wake c (-1), upd y_zombie c 0, upd y_blocked c 0, uk_fl x_registers (4 * c) (fun r => if r = 0 then 0 else x_registers (4 * s + r)) 4, uk_fl y_memory (32 * c) (fun k => y_memory (32 * s + k)) 32, uk_fl y_frame (8 * c) (fun p => y_frame (8 * s + p)) 8, uk_fl x_held (6 * c) (fun d => x_held (6 * s + d)) 6, y_kind, x_openTargets, y_mode, x_openPlaces, x_pipeCounts, y_pipe, x_nameFiles, y_size, x_fileWords, x_safeNames, y_safeSize, x_safeWords, y_said)) : wpY_fork post (x_changes, y_time, y_last, y_lastPid, y_did, x_greatestPid, x_latestPid, x_saidCount, y_killed, y_ops, y_as, y_bs, x_codeLengths, x_pids, x_parents, x_programs, x_places, x_statuses, x_stepCounts, x_copyCounts, y_pages, y_wake, y_zombie, y_blocked, x_registers, y_memory, y_frame, x_held, y_kind, x_openTargets, y_mode, x_openPlaces, x_pipeCounts, y_pipe, x_nameFiles, y_size, x_fileWords, x_safeNames, y_safeSize, x_safeWords, y_said) (nI s) := by
  obtain ⟨_, vs, es⟩ := uk_lp 8 hs (by decide)
  obtain ⟨_, vc, ecc⟩ := uk_lp 8 hc (by decide)
  have k23 : wY_fork_23 post (nI s) (nI c) x_changes y_time y_last y_lastPid y_did x_greatestPid x_latestPid x_saidCount y_killed y_ops y_as y_bs x_codeLengths x_pids x_parents x_programs x_places x_statuses x_stepCounts x_copyCounts y_pages y_wake y_zombie y_blocked x_registers y_memory y_frame x_held y_kind x_openTargets y_mode x_openPlaces x_pipeCounts y_pipe x_nameFiles y_size x_fileWords x_safeNames y_safeSize x_safeWords y_said := by
    unfold wY_fork_23
    refine br_f (fun z => absurd (uk_nIn (b := 8) (by omega) (by decide) z) (by omega)) ⟨vs, vs, ?_⟩
    rw [es]
    unfold wpY_create
    dsimp only
    rw [ecc]
    have eg1 : x_greatestPid + 1 = nI (g + 1) := by rw [eg]; exact nI_1 g
    rw [eg1]
    refine nm_e ⟨vc, nm_e ⟨vc, nm_e ⟨vc, nm_e ⟨vc, nm_e ⟨vc, nm_e ⟨vc, nm_e ⟨vc, nm_e ⟨vc, nm_e ⟨vc, nm_e ⟨vs, vc, nm_e ⟨vs, vc, nm_r (congrArg (upd y_pages c) hn) ?_⟩⟩⟩⟩⟩⟩⟩⟩⟩⟩⟩
    have kM := uk_run0 (fun m k (w : Nat → Int32) => wY_fork_74 post (nI s) (nI c) x_changes y_time y_last y_lastPid y_did (nI (g + 1)) x_latestPid x_saidCount y_killed m (nI k) y_ops y_as y_bs x_codeLengths (upd x_pids c (nI (g + 1))) (upd x_parents c (x_pids s)) (upd x_programs c (x_programs s)) (upd x_places c (x_places s)) (upd x_statuses c 0) (upd x_stepCounts c 0) (upd x_copyCounts c 0) (upd y_pages c (nI n)) (upd y_wake c (-1)) (upd y_zombie c 0) (upd y_blocked c 0) x_registers w y_frame x_held y_kind x_openTargets y_mode x_openPlaces x_pipeCounts y_pipe x_nameFiles y_size x_fileWords x_safeNames y_safeSize x_safeWords y_said) (fun k => uk_fl y_memory (32 * c) (fun k => y_memory (32 * s + k)) k) 32 (fun m => br_t (uk_refl 32) (by
      have kF := uk_run0 (fun m k (w : Nat → Int32) => wY_fork_110 post (nI s) (nI c) x_changes y_time y_last y_lastPid y_did (nI (g + 1)) x_latestPid x_saidCount y_killed m (nI k) y_ops y_as y_bs x_codeLengths (upd x_pids c (nI (g + 1))) (upd x_parents c (x_pids s)) (upd x_programs c (x_programs s)) (upd x_places c (x_places s)) (upd x_statuses c 0) (upd x_stepCounts c 0) (upd x_copyCounts c 0) (upd y_pages c (nI n)) (upd y_wake c (-1)) (upd y_zombie c 0) (upd y_blocked c 0) x_registers (uk_fl y_memory (32 * c) (fun k => y_memory (32 * s + k)) 32) w x_held y_kind x_openTargets y_mode x_openPlaces x_pipeCounts y_pipe x_nameFiles y_size x_fileWords x_safeNames y_safeSize x_safeWords y_said) (fun k => uk_fl y_frame (8 * c) (fun p => y_frame (8 * s + p)) k) 8 (fun m => br_t (uk_refl 8) (by
        have kR := uk_run0 (fun m k (w : Nat → Int32) => wY_fork_146 post (nI s) (nI c) x_changes y_time y_last y_lastPid y_did (nI (g + 1)) x_latestPid x_saidCount y_killed m (nI k) y_ops y_as y_bs x_codeLengths (upd x_pids c (nI (g + 1))) (upd x_parents c (x_pids s)) (upd x_programs c (x_programs s)) (upd x_places c (x_places s)) (upd x_statuses c 0) (upd x_stepCounts c 0) (upd x_copyCounts c 0) (upd y_pages c (nI n)) (upd y_wake c (-1)) (upd y_zombie c 0) (upd y_blocked c 0) w (uk_fl y_memory (32 * c) (fun k => y_memory (32 * s + k)) 32) (uk_fl y_frame (8 * c) (fun p => y_frame (8 * s + p)) 8) x_held y_kind x_openTargets y_mode x_openPlaces x_pipeCounts y_pipe x_nameFiles y_size x_fileWords x_safeNames y_safeSize x_safeWords y_said) (fun k => uk_fl x_registers (4 * c) (fun r => if r = 0 then 0 else x_registers (4 * s + r)) k) 4 (fun m => br_t (uk_refl 4) (by
          have kD := uk_run0 (fun m k (w : Nat → Int32) => wY_fork_187 post (nI s) (nI c) x_changes y_time y_last y_lastPid y_did (nI (g + 1)) x_latestPid x_saidCount y_killed m (nI k) y_ops y_as y_bs x_codeLengths (upd x_pids c (nI (g + 1))) (upd x_parents c (x_pids s)) (upd x_programs c (x_programs s)) (upd x_places c (x_places s)) (upd x_statuses c 0) (upd x_stepCounts c 0) (upd x_copyCounts c 0) (upd y_pages c (nI n)) (upd y_wake c (-1)) (upd y_zombie c 0) (upd y_blocked c 0) (uk_fl x_registers (4 * c) (fun r => if r = 0 then 0 else x_registers (4 * s + r)) 4) (uk_fl y_memory (32 * c) (fun k => y_memory (32 * s + k)) 32) (uk_fl y_frame (8 * c) (fun p => y_frame (8 * s + p)) 8) w y_kind x_openTargets y_mode x_openPlaces x_pipeCounts y_pipe x_nameFiles y_size x_fileWords x_safeNames y_safeSize x_safeWords y_said) (fun k => uk_fl x_held (6 * c) (fun d => x_held (6 * s + d)) k) 6 (fun m => by
            refine br_t (uk_refl 6) ⟨vc, ?_⟩
            rw [ecc, pk_us]
            exact h) (fun m k hk ih => by
            refine br_f (nI_ge (b := 6) hk (by decide)) ?_
            rw [uk_6m, uk_6m, nI_add, nI_add, nI_clamp (show 6 * s + k < 2 ^ 31 by omega), nI_clamp (show 6 * c + k < 2 ^ 31 by omega), uk_flout (show 6 * s + k < 6 * c ∨ 6 * c + k ≤ 6 * s + k by omega)]
            exact ⟨vp_in_nI (by omega) (by decide), vp_in_nI (by omega) (by decide), nm_r (uk_fls (g := fun d => x_held (6 * s + d))) (nm_r (nI_1 k) ih)⟩)
          rw [uk_fl0] at kD
          exact kD)) (fun m k hk ih => by
          refine br_f (nI_ge (b := 4) hk (by decide)) ?_
          rw [uk_4m, uk_4m, nI_add, nI_add, nI_clamp (show 4 * s + k < 2 ^ 31 by omega), nI_clamp (show 4 * c + k < 2 ^ 31 by omega), uk_flout (show 4 * s + k < 4 * c ∨ 4 * c + k ≤ 4 * s + k by omega)]
          refine ⟨fun e0 => ⟨vp_in_nI (by omega) (by decide), nm_r ?_ (nm_r (nI_1 k) ih)⟩, fun e0 => ⟨vp_in_nI (by omega) (by decide), vp_in_nI (by omega) (by decide), nm_r ?_ (nm_r (nI_1 k) ih)⟩⟩
          · have k0 : k = 0 := uk_nIn (b := 0) (by omega) (by decide) e0
            subst k0
            exact uk_fls (g := fun r => if r = 0 then 0 else x_registers (4 * s + r))
          · have k0 : k ≠ 0 := fun z => e0 (by rw [z]; rfl)
            have eg2 : (if k = 0 then (0 : Int32) else x_registers (4 * s + k)) = x_registers (4 * s + k) := if_neg k0
            rw [← eg2]
            exact uk_fls (g := fun r => if r = 0 then 0 else x_registers (4 * s + r)))
        rw [uk_fl0] at kR
        exact kR)) (fun m k hk ih => by
        refine br_f (nI_ge (b := 8) hk (by decide)) ?_
        rw [uk_8m, uk_8m, nI_add, nI_add, nI_clamp (show 8 * s + k < 2 ^ 31 by omega), nI_clamp (show 8 * c + k < 2 ^ 31 by omega), uk_flout (show 8 * s + k < 8 * c ∨ 8 * c + k ≤ 8 * s + k by omega)]
        exact ⟨vp_in_nI (by omega) (by decide), vp_in_nI (by omega) (by decide), nm_r (uk_fls (g := fun p => y_frame (8 * s + p))) (nm_r (nI_1 k) ih)⟩)
      rw [uk_fl0] at kF
      exact kF)) (fun m k hk ih => by
      refine br_f (nI_ge (b := 32) hk (by decide)) ?_
      rw [uk_32m, uk_32m, nI_add, nI_add, nI_clamp (show 32 * s + k < 2 ^ 31 by omega), nI_clamp (show 32 * c + k < 2 ^ 31 by omega), uk_flout (show 32 * s + k < 32 * c ∨ 32 * c + k ≤ 32 * s + k by omega)]
      exact ⟨vp_in_nI (by omega) (by decide), vp_in_nI (by omega) (by decide), nm_r (uk_fls (g := fun k => y_memory (32 * s + k))) (nm_r (nI_1 k) ih)⟩)
    rw [uk_fl0] at kM
    exact kM
  unfold wpY_fork
  have key := uk_run0 (fun m i (_ : Unit) => wY_fork_2 post (nI s) x_changes y_time y_last y_lastPid y_did x_greatestPid x_latestPid x_saidCount y_killed y_ops y_as y_bs x_codeLengths x_pids x_parents x_programs x_places x_statuses x_stepCounts x_copyCounts y_pages y_wake y_zombie y_blocked x_registers y_memory y_frame x_held y_kind x_openTargets y_mode x_openPlaces x_pipeCounts y_pipe x_nameFiles y_size x_fileWords x_safeNames y_safeSize x_safeWords y_said m (nI i)) (fun _ => ()) c (fun m => by
    refine br_f (nI_ge (b := 8) hc (by decide)) ⟨vc, ?_⟩
    rw [ecc]
    exact br_t ((uk_le0 (hP c hc)).mpr hpc) k23) (fun m i hi ih => by
    obtain ⟨z, v, e⟩ := uk_lp 8 (show i < 8 by omega) (by decide)
    refine br_f z ⟨v, ?_⟩
    rw [e]
    exact br_f (fun w => hfirst i hi ((uk_le0 (hP i (by omega))).mp w)) (nm_r (nI_1 i) ih))
  exact key
theorem uk_call1 {t b s : Nat} (A : uk_All t b x_changes x_saidCount x_time x_lastSlot x_sliceSteps x_latestPid x_greatestPid x_code x_codeLengths x_pids x_parents x_programs x_places x_states x_statuses x_stepCounts x_copyCounts x_wakeTimes x_registers x_pageCounts x_pageFrames x_held x_frameUsers x_frameWords x_openHolders x_openKinds x_openTargets x_openPlaces x_openModes x_pipeFirsts x_pipeCounts x_pipeWords x_nameFiles x_fileSizes x_fileWords x_safeNames x_safeSizes x_safeWords x_saidInts y_time y_last y_lastPid y_did y_killed y_ops y_as y_bs y_pages y_wake y_zombie y_blocked y_memory y_frame y_kind y_mode y_pipe y_size y_safeSize y_said) (hs : s < 8) (hp : x_pids s ≠ 0) (hz : y_zombie s = 0) (hb : y_blocked s = 0) (hla : y_last.toNatClampNeg = s) (hbb : b < 2000000000) :
  ∃ u' v', (∀ post : SX → Prop, post u' → wpX_doCall post (x_changes, x_saidCount, x_time, x_lastSlot, x_sliceSteps, x_latestPid, x_greatestPid, x_code, x_codeLengths, x_pids, x_parents, x_programs, x_places, x_states, x_statuses, x_stepCounts, x_copyCounts, x_wakeTimes, x_registers, x_pageCounts, x_pageFrames, x_held, x_frameUsers, x_frameWords, x_openHolders, x_openKinds, x_openTargets, x_openPlaces, x_openModes, x_pipeFirsts, x_pipeCounts, x_pipeWords, x_nameFiles, x_fileSizes, x_fileWords, x_safeNames, x_safeSizes, x_safeWords, x_saidInts) (nI s) 1) ∧ (∀ post : SY → Prop, post v' → wY_call_127 post (nI s) 1 (x_registers (4 * s)) (x_registers (4 * s + 1)) x_changes y_time y_last y_lastPid y_did x_greatestPid x_latestPid x_saidCount 0 y_ops y_as y_bs x_codeLengths x_pids x_parents x_programs x_places x_statuses x_stepCounts x_copyCounts y_pages y_wake y_zombie y_blocked x_registers y_memory y_frame x_held y_kind x_openTargets y_mode x_openPlaces x_pipeCounts y_pipe x_nameFiles y_size x_fileWords x_safeNames y_safeSize x_safeWords y_said) ∧ uk_R y_time t (b + 1) u' v' := by
  obtain ⟨_, vs, es⟩ := uk_lp 8 hs (by decide)
  obtain ⟨c, ec, hc⟩ := uk_aC A
  have hH := uk_aHd A s hs hp hz
  have hP : ∀ s, s < 8 → ¬ x_pids s < 0 := fun s hs => (uk_aPs A s hs).1
  obtain ⟨g, eg, hg⟩ := uk_aG A
  obtain ⟨n, hn8, n2, n3, n4, n5⟩ := uk_aMe A s hs hp
  have hpf : ∀ p, p < n → vp_in (x_pageFrames (8 * s + p)) 20 := fun p hp => by rw [(n5 p hp).2.1]; exact (n5 p hp).1
  rcases uk_ffs (fun i => x_pids i = 0) 8 with ⟨f, f1⟩ | ⟨c', hc', f, f1, f2⟩
  · refine ⟨_, _, fun post h => ?_, fun post h => ?_, uk_end0 (g := -1) A hs hp hz hb⟩
    · unfold wpX_doCall
      refine nm_r (uk_m4 s) ⟨vp_in_nI (by omega) (by decide), nm_r (uk_rg0 x_registers hs) ⟨uk_rgv hs, nm_r (uk_rg1 x_registers hs) (br_f (by decide) (br_f (by decide) (br_f (by decide) (br_t rfl ?_))))⟩⟩
      unfold wpX_forkProcess
      refine xk_freeSlot ?_
      rw [f]
      exact br_t rfl (xk_tail0 hs ec hc h)
    · unfold wY_call_127
      refine br_f (by decide) ?_
      unfold wpY_family
      refine br_t rfl ?_
      unfold wpY_fork
      have key := uk_run0 (fun m i (_ : Unit) => wY_fork_2 (fun r_279 u => match u with | (y_changes, y_time, y_last, y_lastPid, y_did, y_greatest, y_stepped, y_says, y_killed, y_ops, y_as, y_bs, y_length, y_pid, y_parent, y_program, y_pc, y_status, y_steps, y_copies, y_pages, y_wake, y_zombie, y_blocked, y_reg, y_memory, y_frame, y_descriptor, y_kind, y_of, y_mode, y_place, y_piped, y_pipe, y_names, y_size, y_words, y_safeNames, y_safeSize, y_safeWords, y_said) => wY_call_169 post (nI s) r_279 y_changes y_time y_last y_lastPid y_did y_greatest y_stepped y_says y_killed y_ops y_as y_bs y_length y_pid y_parent y_program y_pc y_status y_steps y_copies y_pages y_wake y_zombie y_blocked y_reg y_memory y_frame y_descriptor y_kind y_of y_mode y_place y_piped y_pipe y_names y_size y_words y_safeNames y_safeSize y_safeWords y_said) (nI s) x_changes y_time y_last y_lastPid y_did x_greatestPid x_latestPid x_saidCount 0 y_ops y_as y_bs x_codeLengths x_pids x_parents x_programs x_places x_statuses x_stepCounts x_copyCounts y_pages y_wake y_zombie y_blocked x_registers y_memory y_frame x_held y_kind x_openTargets y_mode x_openPlaces x_pipeCounts y_pipe x_nameFiles y_size x_fileWords x_safeNames y_safeSize x_safeWords y_said m (nI i)) (fun _ => ()) 8 (fun m => br_t (uk_refl 8) (br_t rfl (yk_tail0 hs h))) (fun m i hi ih => by
        obtain ⟨z, v, e⟩ := uk_lp 8 hi (by decide)
        refine br_f z ⟨v, ?_⟩
        rw [e]
        exact br_f (fun w => f1 i hi ((uk_le0 (hP i hi)).mp w)) (nm_r (nI_1 i) ih))
      exact key
  · have hsc : s ≠ c' := fun z => by subst z; exact hp f1
    have x0 : nI (g + 1) ≠ 0 := nI_ne0 (by omega) (by omega)
    have hsg : ¬ nI (g + 1) < 0 := nI_pos (by omega)
    have hp1 : upd x_pids c' (nI (g + 1)) s ≠ 0 := by rw [pk_un hsc]; exact hp
    have hz1 : upd y_zombie c' 0 s = 0 := by rw [pk_un hsc]; exact hz
    have hb1 : upd y_blocked c' 0 s = 0 := by rw [pk_un hsc]; exact hb
    have hSc1 : uk_Sc (upd x_pids c' (nI (g + 1))) x_lastSlot x_sliceSteps y_last y_lastPid y_did := by
      obtain ⟨q1, q2, q3⟩ := uk_aSc A
      refine ⟨q1, q2, ?_⟩
      rcases q3 with q3 | ⟨q3, q4⟩
      · exact absurd (q3 s hs) hp
      · refine Or.inr ⟨q3, ?_⟩
        rw [hla, pk_un hsc]
        rw [hla] at q4
        exact q4
    have A1 : uk_All t (b + 1) x_changes x_saidCount x_time x_lastSlot x_sliceSteps x_latestPid (nI (g + 1)) x_code x_codeLengths (upd x_pids c' (nI (g + 1))) (upd x_parents c' (x_pids s)) (upd x_programs c' (x_programs s)) (upd x_places c' (x_places s)) (upd x_states c' 1) (upd x_statuses c' 0) (upd x_stepCounts c' 0) (upd x_copyCounts c' 0) (upd x_wakeTimes c' 0) (uk_fl x_registers (4 * c') (fun r => if r = 0 then 0 else x_registers (4 * s + r)) 4) (upd x_pageCounts c' (nI n)) (uk_fl x_pageFrames (8 * c') (fun p => x_pageFrames (8 * s + p)) n) (uk_fl x_held (6 * c') (fun d => x_held (6 * s + d)) 6) (uk_icc x_frameUsers x_pageFrames (8 * s) n) x_frameWords (uk_hic x_openHolders x_held (6 * s) 6) x_openKinds x_openTargets x_openPlaces x_openModes x_pipeFirsts x_pipeCounts x_pipeWords x_nameFiles x_fileSizes x_fileWords x_safeNames x_safeSizes x_safeWords x_saidInts y_time y_last y_lastPid y_did y_killed y_ops y_as y_bs (upd y_pages c' (nI n)) (upd y_wake c' (-1)) (upd y_zombie c' 0) (upd y_blocked c' 0) (uk_fl y_memory (32 * c') (fun k => y_memory (32 * s + k)) 32) (uk_fl y_frame (8 * c') (fun p => y_frame (8 * s + p)) 8) y_kind y_mode y_pipe y_size y_safeSize y_said := by
      have Ab := uk_up1 (Nat.le_succ b) A
      exact ⟨⟨g + 1, rfl, by omega⟩, uk_aN Ab, uk_aC Ab, uk_aeT Ab, uk_aPr Ab, uk_fk_Ps (uk_aPs A) hs hsg, uk_fk_Me (uk_aMe A) hs hp f1 n3 hn8, uk_fk_Fu (uk_aMe A) (uk_aFu A) hs hc' hp f1 x0 n3 hn8, uk_fk_Hd (uk_aHd A) hs hp hz, uk_fk_Ho (uk_aHd A) (uk_aHo A) hs hc' hp hz f1 x0, uk_fk_Ok (uk_aHd A) (uk_aHo A) (uk_aOk A) hs hp hz, uk_aPi Ab, uk_aFi Ab, uk_aSa Ab, hSc1, uk_fk_Wk (uk_aWk A) (fun s' _ w => uk_flout (by omega))⟩
    refine ⟨_, _, fun post h => ?_, fun post h => ?_, uk_RmkK 0 (uk_All_reg (i := 0) (x := nI (g + 1)) A1 hs hp1 hz1 hb1 (by decide))⟩
    · unfold wpX_doCall
      refine nm_r (uk_m4 s) ⟨vp_in_nI (by omega) (by decide), nm_r (uk_rg0 x_registers hs) ⟨uk_rgv hs, nm_r (uk_rg1 x_registers hs) (br_f (by decide) (br_f (by decide) (br_f (by decide) (br_t rfl ?_))))⟩⟩
      exact xk_fork hs hc' hsc f eg n2 hn8 hpf hH (xk_tail0 hs ec hc h)
    · unfold wY_call_127
      refine br_f (by decide) ?_
      unfold wpY_family
      exact br_t rfl (yk_fork hs hc' hsc hP f1 f2 eg n3 (yk_tail0 hs h))
end
