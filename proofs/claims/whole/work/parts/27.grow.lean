/-! GROW and EXEC -/
section
variable {x_changes x_saidCount x_time x_lastSlot x_sliceSteps x_latestPid x_greatestPid : Int32} {x_code x_codeLengths x_pids x_parents x_programs x_places x_states x_statuses x_stepCounts x_copyCounts x_wakeTimes x_registers x_pageCounts x_pageFrames x_held x_frameUsers x_frameWords x_openHolders x_openKinds x_openTargets x_openPlaces x_openModes x_pipeFirsts x_pipeCounts x_pipeWords x_nameFiles x_fileSizes x_fileWords x_safeNames x_safeSizes x_safeWords x_saidInts : Nat → Int32} {y_time y_last y_lastPid y_did y_killed : Int32} {y_ops y_as y_bs y_pages y_wake y_zombie y_blocked y_memory y_frame y_kind y_mode y_pipe y_size y_safeSize y_said : Nat → Int32}
theorem xk_addPage {post : SX → Prop} {s n f : Nat} (hs : s < 8) (hn : x_pageCounts s = nI n) (hn8 : n < 8) (hf : f < 20) (h : post (x_changes, x_saidCount, x_time, x_lastSlot, x_sliceSteps, x_latestPid, x_greatestPid, x_code, x_codeLengths, x_pids, x_parents, x_programs, x_places, x_states, x_statuses, x_stepCounts, x_copyCounts, x_wakeTimes, x_registers, upd x_pageCounts s (nI (n + 1)), upd x_pageFrames (8 * s + n) (nI f), x_held, upd x_frameUsers f 1, uk_fl x_frameWords (4 * f) (fun _ => 0) 4, x_openHolders, x_openKinds, x_openTargets, x_openPlaces, x_openModes, x_pipeFirsts, x_pipeCounts, x_pipeWords, x_nameFiles, x_fileSizes, x_fileWords, x_safeNames, x_safeSizes, x_safeWords, x_saidInts)) : wpX_addPage post (x_changes, x_saidCount, x_time, x_lastSlot, x_sliceSteps, x_latestPid, x_greatestPid, x_code, x_codeLengths, x_pids, x_parents, x_programs, x_places, x_states, x_statuses, x_stepCounts, x_copyCounts, x_wakeTimes, x_registers, x_pageCounts, x_pageFrames, x_held, x_frameUsers, x_frameWords, x_openHolders, x_openKinds, x_openTargets, x_openPlaces, x_openModes, x_pipeFirsts, x_pipeCounts, x_pipeWords, x_nameFiles, x_fileSizes, x_fileWords, x_safeNames, x_safeSizes, x_safeWords, x_saidInts) (nI s) (nI f) := by
  obtain ⟨_, vs, es⟩ := uk_lp 8 hs (by decide)
  unfold wpX_addPage
  have key := uk_run0 (fun m k (w : Nat → Int32) => wX_addPage_2 post (nI s) (nI f) x_changes x_saidCount x_time x_lastSlot x_sliceSteps x_latestPid x_greatestPid m (nI k) x_code x_codeLengths x_pids x_parents x_programs x_places x_states x_statuses x_stepCounts x_copyCounts x_wakeTimes x_registers x_pageCounts x_pageFrames x_held x_frameUsers w x_openHolders x_openKinds x_openTargets x_openPlaces x_openModes x_pipeFirsts x_pipeCounts x_pipeWords x_nameFiles x_fileSizes x_fileWords x_safeNames x_safeSizes x_safeWords x_saidInts) (fun k => uk_fl x_frameWords (4 * f) (fun _ => 0) k) 4 (fun m => by
    refine br_t (uk_refl 4) ⟨vp_in_nI hf (by decide), ?_⟩
    rw [es, hn, uk_m8, nI_add, nI_1, nI_clamp (show f < 2 ^ 31 by omega), nI_clamp (show 8 * s + n < 2 ^ 31 by omega)]
    exact nm_e ⟨vs, vp_in_nI (by omega) (by decide), nm_e ⟨vs, vs, nm_e h⟩⟩) (fun m k hk ih => by
    refine br_f (nI_ge (b := 4) hk (by decide)) ?_
    rw [uk_m4, nI_add, nI_clamp (show 4 * f + k < 2 ^ 31 by omega)]
    exact ⟨vp_in_nI (by omega) (by decide), nm_r (uk_fls (g := fun _ => 0)) (nm_r (nI_1 k) ih)⟩)
  rw [uk_fl0] at key
  exact key
theorem yk_morePages {post : Int32 → SY → Prop} {s n : Nat} (hs : s < 8) (hP : ∀ s, s < 8 → ¬ x_pids s < 0) (hN : ∀ s, s < 8 → x_pids s ≠ 0 → ∃ n, n ≤ 8 ∧ y_pages s = nI n) (hn : y_pages s = nI n) (hn8 : n < 8) (h0 : uk_ff (fun f => uk_sm (uk_rw x_pids y_pages y_frame f) 8 = 0) 20 = -1 → post 0 (x_changes, y_time, y_last, y_lastPid, y_did, x_greatestPid, x_latestPid, x_saidCount, y_killed, y_ops, y_as, y_bs, x_codeLengths, x_pids, x_parents, x_programs, x_places, x_statuses, x_stepCounts, x_copyCounts, y_pages, y_wake, y_zombie, y_blocked, x_registers, y_memory, y_frame, x_held, y_kind, x_openTargets, y_mode, x_openPlaces, x_pipeCounts, y_pipe, x_nameFiles, y_size, x_fileWords, x_safeNames, y_safeSize, x_safeWords, y_said)) (h1 : ∀ f, f < 20 → uk_ff (fun f => uk_sm (uk_rw x_pids y_pages y_frame f) 8 = 0) 20 = nI f → post 1 (x_changes, y_time, y_last, y_lastPid, y_did, x_greatestPid, x_latestPid, x_saidCount, y_killed, y_ops, y_as, y_bs, x_codeLengths, x_pids, x_parents, x_programs, x_places, x_statuses, x_stepCounts, x_copyCounts, upd y_pages s (nI (n + 1)), y_wake, y_zombie, y_blocked, x_registers, uk_fl y_memory (32 * s + 4 * n) (fun _ => 0) 4, upd y_frame (8 * s + n) (nI f), x_held, y_kind, x_openTargets, y_mode, x_openPlaces, x_pipeCounts, y_pipe, x_nameFiles, y_size, x_fileWords, x_safeNames, y_safeSize, x_safeWords, y_said)) : wpY_morePages post (x_changes, y_time, y_last, y_lastPid, y_did, x_greatestPid, x_latestPid, x_saidCount, y_killed, y_ops, y_as, y_bs, x_codeLengths, x_pids, x_parents, x_programs, x_places, x_statuses, x_stepCounts, x_copyCounts, y_pages, y_wake, y_zombie, y_blocked, x_registers, y_memory, y_frame, x_held, y_kind, x_openTargets, y_mode, x_openPlaces, x_pipeCounts, y_pipe, x_nameFiles, y_size, x_fileWords, x_safeNames, y_safeSize, x_safeWords, y_said) (nI s) := by
  obtain ⟨_, vs, es⟩ := uk_lp 8 hs (by decide)
  unfold wpY_morePages
  refine yk_freeFrame hP hN ?_
  rcases uk_ffs (fun f => uk_sm (uk_rw x_pids y_pages y_frame f) 8 = 0) 20 with ⟨e, _⟩ | ⟨f, hf, e, _, _⟩
  · rw [e]
    exact br_f (by decide) (h0 e)
  · have k := h1 f hf e
    rw [e]
    refine br_t (nI_pos' (by omega)) ⟨vs, vs, ?_⟩
    rw [es, hn, nI_1]
    refine nm_e (nm_e ?_)
    rw [uk_8m, nI_add, nI_clamp (show 8 * s + n < 2 ^ 31 by omega)]
    refine ⟨vp_in_nI (by omega) (by decide), nm_e ?_⟩
    have key := uk_run0 (fun m k (w : Nat → Int32) => wY_morePages_38 post (nI s) (nI n) x_changes y_time y_last y_lastPid y_did x_greatestPid x_latestPid x_saidCount y_killed m (nI k) y_ops y_as y_bs x_codeLengths x_pids x_parents x_programs x_places x_statuses x_stepCounts x_copyCounts (upd y_pages s (nI (n + 1))) y_wake y_zombie y_blocked x_registers w (upd y_frame (8 * s + n) (nI f)) x_held y_kind x_openTargets y_mode x_openPlaces x_pipeCounts y_pipe x_nameFiles y_size x_fileWords x_safeNames y_safeSize x_safeWords y_said) (fun k => uk_fl y_memory (32 * s + 4 * n) (fun _ => 0) k) 4 (fun m => br_t (uk_refl 4) k) (fun m k hk ih => by
      refine br_f (nI_ge (b := 4) hk (by decide)) ?_
      rw [uk_32m, uk_4m, nI_add, nI_add, nI_clamp (show 32 * s + 4 * n + k < 2 ^ 31 by omega)]
      exact ⟨vp_in_nI (by omega) (by decide), nm_r (uk_fls (g := fun _ => 0)) (nm_r (nI_1 k) ih)⟩)
    rw [uk_fl0] at key
    exact key
theorem uk_grow {s n x : Nat} (hs : s < 8) (hp : x_pids s ≠ 0) (hz : y_zombie s = 0) (hP : ∀ s, s < 8 → ¬ x_pids s < 0) (hMe : uk_Me x_pids y_zombie x_pageCounts y_pages x_pageFrames y_frame x_frameWords y_memory) (hFu : uk_Fu x_pids y_pages y_frame x_frameUsers) (n2 : x_pageCounts s = nI n) (n3 : y_pages s = nI n) (hnx : n + x ≤ 8) (hfree : x ≤ uk_cn (fun f => x_frameUsers f = 0) 20) : ∀ k, k ≤ x →
  ∃ pc' pg' pf' fr' fu' fw' me', uk_Me x_pids y_zombie pc' pg' pf' fr' fw' me' ∧ uk_Fu x_pids pg' fr' fu' ∧ pc' s = nI (n + k) ∧ pg' s = nI (n + k) ∧ x ≤ k + uk_cn (fun f => fu' f = 0) 20 ∧
  (∀ (post : Int32 → SX → Prop) (g : Int32) (m : Nat), wX_growPages_38 post (nI s) (nI x) g m (nI k) x_changes x_saidCount x_time x_lastSlot x_sliceSteps x_latestPid x_greatestPid x_code x_codeLengths x_pids x_parents x_programs x_places x_states x_statuses x_stepCounts x_copyCounts x_wakeTimes x_registers pc' pf' x_held fu' fw' x_openHolders x_openKinds x_openTargets x_openPlaces x_openModes x_pipeFirsts x_pipeCounts x_pipeWords x_nameFiles x_fileSizes x_fileWords x_safeNames x_safeSizes x_safeWords x_saidInts → wX_growPages_38 post (nI s) (nI x) g (m + k) 0 x_changes x_saidCount x_time x_lastSlot x_sliceSteps x_latestPid x_greatestPid x_code x_codeLengths x_pids x_parents x_programs x_places x_states x_statuses x_stepCounts x_copyCounts x_wakeTimes x_registers x_pageCounts x_pageFrames x_held x_frameUsers x_frameWords x_openHolders x_openKinds x_openTargets x_openPlaces x_openModes x_pipeFirsts x_pipeCounts x_pipeWords x_nameFiles x_fileSizes x_fileWords x_safeNames x_safeSizes x_safeWords x_saidInts) ∧
  (∀ (post : Int32 → SY → Prop) (g : Int32) (m : Nat), wY_family_173 post (nI s) (nI x) g m (nI k) x_changes y_time y_last y_lastPid y_did x_greatestPid x_latestPid x_saidCount y_killed y_ops y_as y_bs x_codeLengths x_pids x_parents x_programs x_places x_statuses x_stepCounts x_copyCounts pg' y_wake y_zombie y_blocked x_registers me' fr' x_held y_kind x_openTargets y_mode x_openPlaces x_pipeCounts y_pipe x_nameFiles y_size x_fileWords x_safeNames y_safeSize x_safeWords y_said → wY_family_173 post (nI s) (nI x) g (m + k) 0 x_changes y_time y_last y_lastPid y_did x_greatestPid x_latestPid x_saidCount y_killed y_ops y_as y_bs x_codeLengths x_pids x_parents x_programs x_places x_statuses x_stepCounts x_copyCounts y_pages y_wake y_zombie y_blocked x_registers y_memory y_frame x_held y_kind x_openTargets y_mode x_openPlaces x_pipeCounts y_pipe x_nameFiles y_size x_fileWords x_safeNames y_safeSize x_safeWords y_said)
  | 0, _ => ⟨_, _, _, _, _, _, _, hMe, hFu, n2, n3, by omega, fun _ _ _ h => h, fun _ _ _ h => h⟩
  | k + 1, hk => by
    obtain ⟨pc', pg', pf', fr', fu', fw', me', a1, a2, a3, a4, a5, a6, a7⟩ := uk_grow hs hp hz hP hMe hFu n2 n3 hnx hfree k (by omega)
    have hN : ∀ s, s < 8 → x_pids s ≠ 0 → ∃ n, n ≤ 8 ∧ pg' s = nI n := fun s hs hp => by
      obtain ⟨n, h1, _, h3, _⟩ := a1 s hs hp
      exact ⟨n, h1, h3⟩
    have hff : uk_ff (fun f => uk_sm (uk_rw x_pids pg' fr' f) 8 = 0) 20 = uk_ff (fun f => fu' f = 0) 20 := uk_ffc 20 (fun f hf => (uk_fun a1 a2 hf).1.symm)
    rcases uk_ffs (fun f => fu' f = 0) 20 with ⟨_, e0⟩ | ⟨f, hf, e, e0, _⟩
    · have := uk_cn0 (P := fun f => fu' f = 0) 20 e0
      omega
    · have hs0 := (uk_fun a1 a2 hf).1.mp e0
      have hM := uk_ad_Me a1 hs hz a4 (by omega) hf hs0
      have hF := uk_ad_Fu a1 a2 hs hp a4 (by omega) hf hs0
      have hcn : uk_cn (fun f => fu' f = 0) 20 = uk_cn (fun i => upd fu' f 1 i = 0) 20 + 1 := uk_cnset (P := fun i => upd fu' f 1 i = 0) (Q := fun f => fu' f = 0) (k := f) (by show ¬ upd fu' f 1 f = 0; rw [pk_us]; decide) e0 20 hf (fun i _ w => by rw [pk_un w])
      have epc : pc' s = nI (n + k) := a3
      refine ⟨upd pc' s (nI (n + k + 1)), upd pg' s (nI (n + k + 1)), _, _, upd fu' f 1, _, _, hM, hF, pk_us, pk_us, by omega, fun post g m h => ?_, fun post g m h => ?_⟩
      · rw [show m + (k + 1) = (m + 1) + k by omega]
        refine a6 post g (m + 1) (br_f (nI_ge (by omega) (by omega)) (xk_freeFrame ?_))
        rw [e]
        exact xk_addPage hs epc (by omega) hf (nm_r (nI_1 k) h)
      · rw [show m + (k + 1) = (m + 1) + k by omega]
        refine a7 post g (m + 1) (br_f (nI_ge (by omega) (by omega)) (yk_morePages hs hP hN a4 (by omega) (fun w => absurd (w.symm.trans (hff.trans e)).symm (uk_ne1 (by omega))) (fun f' hf' w => ?_)))
        have : f' = f := uk_nIn (by omega) (by omega) (w.symm.trans (hff.trans e))
        subst this
        exact nm_r (nI_1 k) h
theorem uk_call4 {t b s : Nat} (A : uk_All t b x_changes x_saidCount x_time x_lastSlot x_sliceSteps x_latestPid x_greatestPid x_code x_codeLengths x_pids x_parents x_programs x_places x_states x_statuses x_stepCounts x_copyCounts x_wakeTimes x_registers x_pageCounts x_pageFrames x_held x_frameUsers x_frameWords x_openHolders x_openKinds x_openTargets x_openPlaces x_openModes x_pipeFirsts x_pipeCounts x_pipeWords x_nameFiles x_fileSizes x_fileWords x_safeNames x_safeSizes x_safeWords x_saidInts y_time y_last y_lastPid y_did y_killed y_ops y_as y_bs y_pages y_wake y_zombie y_blocked y_memory y_frame y_kind y_mode y_pipe y_size y_safeSize y_said) (hs : s < 8) (hp : x_pids s ≠ 0) (hz : y_zombie s = 0) (hb : y_blocked s = 0) :
  ∃ u' v', (∀ post : SX → Prop, post u' → wpX_doCall post (x_changes, x_saidCount, x_time, x_lastSlot, x_sliceSteps, x_latestPid, x_greatestPid, x_code, x_codeLengths, x_pids, x_parents, x_programs, x_places, x_states, x_statuses, x_stepCounts, x_copyCounts, x_wakeTimes, x_registers, x_pageCounts, x_pageFrames, x_held, x_frameUsers, x_frameWords, x_openHolders, x_openKinds, x_openTargets, x_openPlaces, x_openModes, x_pipeFirsts, x_pipeCounts, x_pipeWords, x_nameFiles, x_fileSizes, x_fileWords, x_safeNames, x_safeSizes, x_safeWords, x_saidInts) (nI s) 4) ∧ (∀ post : SY → Prop, post v' → wY_call_127 post (nI s) 4 (x_registers (4 * s)) (x_registers (4 * s + 1)) x_changes y_time y_last y_lastPid y_did x_greatestPid x_latestPid x_saidCount 0 y_ops y_as y_bs x_codeLengths x_pids x_parents x_programs x_places x_statuses x_stepCounts x_copyCounts y_pages y_wake y_zombie y_blocked x_registers y_memory y_frame x_held y_kind x_openTargets y_mode x_openPlaces x_pipeCounts y_pipe x_nameFiles y_size x_fileWords x_safeNames y_safeSize x_safeWords y_said) ∧ uk_R y_time t (b + 1) u' v' := by
  obtain ⟨_, vs, es⟩ := uk_lp 8 hs (by decide)
  obtain ⟨c, ec, hc⟩ := uk_aC A
  have hP : ∀ s, s < 8 → ¬ x_pids s < 0 := fun s hs => (uk_aPs A s hs).1
  have hMe := uk_aMe A
  have hFu := uk_aFu A
  have hN : ∀ s, s < 8 → x_pids s ≠ 0 → ∃ n, n ≤ 8 ∧ y_pages s = nI n := fun s hs hp => by
    obtain ⟨n, h1, _, h3, _⟩ := hMe s hs hp
    exact ⟨n, h1, h3⟩
  obtain ⟨n, hn8, n2, n3, n4, n5⟩ := hMe s hs hp
  have hcnt : uk_cn (fun f => uk_sm (uk_rw x_pids y_pages y_frame f) 8 = 0) 20 = uk_cn (fun f => x_frameUsers f = 0) 20 := uk_cnc 20 (fun f hf => (uk_fun hMe hFu hf).1.symm)
  have hle := uk_cnle (fun f => x_frameUsers f = 0) 20
  have e8 := uk_inE (x := x_registers (4 * s)) (n := 8) (N := 8) rfl (by decide)
  by_cases hv : vp_in (x_registers (4 * s)) 8 ∧ n + (x_registers (4 * s)).toNatClampNeg ≤ 8 ∧ (x_registers (4 * s)).toNatClampNeg ≤ uk_cn (fun f => x_frameUsers f = 0) 20
  · obtain ⟨hv1, hv2, hv3⟩ := hv
    obtain ⟨x, hx, ex⟩ := vp_in_of hv1 (by decide)
    rw [ex, nI_clamp (show x < 2 ^ 31 by omega)] at hv2 hv3
    obtain ⟨pc', pg', pf', fr', fu', fw', me', a1, a2, a3, a4, a5, a6, a7⟩ := uk_grow (x_changes := x_changes) (x_saidCount := x_saidCount) (x_time := x_time) (x_lastSlot := x_lastSlot) (x_sliceSteps := x_sliceSteps) (x_latestPid := x_latestPid) (x_greatestPid := x_greatestPid) (x_code := x_code) (x_codeLengths := x_codeLengths) (x_pids := x_pids) (x_parents := x_parents) (x_programs := x_programs) (x_places := x_places) (x_states := x_states) (x_statuses := x_statuses) (x_stepCounts := x_stepCounts) (x_copyCounts := x_copyCounts) (x_wakeTimes := x_wakeTimes) (x_registers := x_registers) (x_pageCounts := x_pageCounts) (x_pageFrames := x_pageFrames) (x_held := x_held) (x_frameUsers := x_frameUsers) (x_frameWords := x_frameWords) (x_openHolders := x_openHolders) (x_openKinds := x_openKinds) (x_openTargets := x_openTargets) (x_openPlaces := x_openPlaces) (x_openModes := x_openModes) (x_pipeFirsts := x_pipeFirsts) (x_pipeCounts := x_pipeCounts) (x_pipeWords := x_pipeWords) (x_nameFiles := x_nameFiles) (x_fileSizes := x_fileSizes) (x_fileWords := x_fileWords) (x_safeNames := x_safeNames) (x_safeSizes := x_safeSizes) (x_safeWords := x_safeWords) (x_saidInts := x_saidInts) (y_time := y_time) (y_last := y_last) (y_lastPid := y_lastPid) (y_did := y_did) (y_killed := 0) (y_ops := y_ops) (y_as := y_as) (y_bs := y_bs) (y_pages := y_pages) (y_wake := y_wake) (y_zombie := y_zombie) (y_blocked := y_blocked) (y_memory := y_memory) (y_frame := y_frame) (y_kind := y_kind) (y_mode := y_mode) (y_pipe := y_pipe) (y_size := y_size) (y_safeSize := y_safeSize) (y_said := y_said) hs hp hz hP hMe hFu n2 n3 hv2 hv3 x (Nat.le_refl x)
    have A1 : uk_All t b x_changes x_saidCount x_time x_lastSlot x_sliceSteps x_latestPid x_greatestPid x_code x_codeLengths x_pids x_parents x_programs x_places x_states x_statuses x_stepCounts x_copyCounts x_wakeTimes x_registers pc' pf' x_held fu' fw' x_openHolders x_openKinds x_openTargets x_openPlaces x_openModes x_pipeFirsts x_pipeCounts x_pipeWords x_nameFiles x_fileSizes x_fileWords x_safeNames x_safeSizes x_safeWords x_saidInts y_time y_last y_lastPid y_did y_killed y_ops y_as y_bs pg' y_wake y_zombie y_blocked me' fr' y_kind y_mode y_pipe y_size y_safeSize y_said := ⟨uk_aG A, uk_aN A, uk_aC A, uk_aeT A, uk_aPr A, uk_aPs A, a1, a2, uk_aHd A, uk_aHo A, uk_aOk A, uk_aPi A, uk_aFi A, uk_aSa A, uk_aSc A, uk_aWk A⟩
    refine ⟨_, _, fun post h => ?_, fun post h => ?_, uk_end0 (g := nI n) A1 hs hp hz hb⟩
    · unfold wpX_doCall
      refine nm_r (uk_m4 s) ⟨vp_in_nI (by omega) (by decide), nm_r (uk_rg0 x_registers hs) ⟨uk_rgv hs, nm_r (uk_rg1 x_registers hs) (br_f (by decide) (br_f (by decide) (br_f (by decide) (br_f (by decide) (br_f (by decide) (br_f (by decide) (br_t rfl ?_)))))))⟩⟩
      unfold wpX_growPages
      refine ⟨vs, ?_⟩
      rw [es, n2, ex]
      refine nm_e (br_f (nI_pos (by omega)) (br_f (nI_nlt (a := 7) (by omega) (by decide)) ?_))
      rw [nI_add]
      refine br_f (nI_nlt (a := 8) (by omega) (by decide)) (xk_countFreeFrames (br_t (nI_le hv3 (by omega)) ⟨1 + x, a6 _ _ 1 (br_t (uk_refl _) (xk_tail0 hs ec hc h))⟩))
    · unfold wY_call_127
      refine br_f (by decide) ?_
      unfold wpY_family
      rw [ex]
      refine br_f (by decide) (br_f (by decide) (br_f (by decide) (yk_no 7 rfl (by decide) (fun _ => br_t rfl ⟨vs, ?_⟩) (fun z => absurd (vp_in_nI hx (by decide)) z))))
      rw [es, n3, nI_add]
      refine br_f (nI_nlt (a := 8) (by omega) (by decide)) (yk_freeFrames hP hN ?_)
      rw [hcnt]
      exact br_t (nI_le hv3 (by omega)) ⟨vs, nm_e ⟨1 + x, a7 _ _ 1 (br_t (uk_refl _) (yk_tail0 hs h))⟩⟩
  · refine ⟨_, _, fun post h => ?_, fun post h => ?_, uk_end0 (g := -1) A hs hp hz hb⟩
    · unfold wpX_doCall
      refine nm_r (uk_m4 s) ⟨vp_in_nI (by omega) (by decide), nm_r (uk_rg0 x_registers hs) ⟨uk_rgv hs, nm_r (uk_rg1 x_registers hs) (br_f (by decide) (br_f (by decide) (br_f (by decide) (br_f (by decide) (br_f (by decide) (br_f (by decide) (br_t rfl ?_)))))))⟩⟩
      unfold wpX_growPages
      refine ⟨vs, ?_⟩
      rw [es, n2]
      refine nm_e ⟨fun _ => xk_tail0 hs ec hc h, fun g1 => ⟨fun _ => xk_tail0 hs ec hc h, fun g2 => ⟨fun _ => xk_tail0 hs ec hc h, fun g3 => xk_countFreeFrames ⟨fun g4 => absurd ?_ hv, fun _ => xk_tail0 hs ec hc h⟩⟩⟩⟩
      obtain ⟨x, hx, ex⟩ := nI_of g1
      rw [ex] at g2 g3 g4
      have x8 : x < 8 := by
        have : ¬ 7 < x := fun z => g2 (nI_lt (a := 7) z hx)
        omega
      rw [nI_add] at g3
      have g5 : n + x ≤ 8 := by
        have : ¬ 8 < n + x := fun z => g3 (nI_lt (a := 8) z (by omega))
        omega
      have g6 := (nI_leI hx (by omega)).mp g4
      rw [ex, nI_clamp hx]
      exact ⟨vp_in_nI x8 (by decide), g5, g6⟩
    · unfold wY_call_127
      refine br_f (by decide) ?_
      unfold wpY_family
      refine br_f (by decide) (br_f (by decide) (br_f (by decide) (yk_no 7 rfl (by decide) (fun v => br_t rfl ⟨vs, ?_⟩) (fun z => br_f (by decide) (yk_tail0 hs h)))))
      rw [es, n3]
      refine ⟨fun _ => yk_tail0 hs h, fun g3 => yk_freeFrames hP hN ?_⟩
      rw [hcnt]
      refine ⟨fun g4 => absurd ?_ hv, fun _ => yk_tail0 hs h⟩
      obtain ⟨x, hx, ex⟩ := vp_in_of v (by decide)
      rw [ex] at g3 g4
      rw [nI_add] at g3
      have g5 : n + x ≤ 8 := by
        have : ¬ 8 < n + x := fun z => g3 (nI_lt (a := 8) z (by omega))
        omega
      have g6 := (nI_leI (by omega) (by omega)).mp g4
      rw [ex, nI_clamp (show x < 2 ^ 31 by omega)]
      exact ⟨vp_in_nI hx (by decide), g5, g6⟩
theorem uk_call5b {t b s : Nat} (A : uk_All t b x_changes x_saidCount x_time x_lastSlot x_sliceSteps x_latestPid x_greatestPid x_code x_codeLengths x_pids x_parents x_programs x_places x_states x_statuses x_stepCounts x_copyCounts x_wakeTimes x_registers x_pageCounts x_pageFrames x_held x_frameUsers x_frameWords x_openHolders x_openKinds x_openTargets x_openPlaces x_openModes x_pipeFirsts x_pipeCounts x_pipeWords x_nameFiles x_fileSizes x_fileWords x_safeNames x_safeSizes x_safeWords x_saidInts y_time y_last y_lastPid y_did y_killed y_ops y_as y_bs y_pages y_wake y_zombie y_blocked y_memory y_frame y_kind y_mode y_pipe y_size y_safeSize y_said) (hs : s < 8) (hp : x_pids s ≠ 0) (hz : y_zombie s = 0) (hb : y_blocked s = 0) (hv : ¬ vp_in (x_registers (4 * s)) 6) :
  ∃ u' v', (∀ post : SX → Prop, post u' → wpX_doCall post (x_changes, x_saidCount, x_time, x_lastSlot, x_sliceSteps, x_latestPid, x_greatestPid, x_code, x_codeLengths, x_pids, x_parents, x_programs, x_places, x_states, x_statuses, x_stepCounts, x_copyCounts, x_wakeTimes, x_registers, x_pageCounts, x_pageFrames, x_held, x_frameUsers, x_frameWords, x_openHolders, x_openKinds, x_openTargets, x_openPlaces, x_openModes, x_pipeFirsts, x_pipeCounts, x_pipeWords, x_nameFiles, x_fileSizes, x_fileWords, x_safeNames, x_safeSizes, x_safeWords, x_saidInts) (nI s) 5) ∧ (∀ post : SY → Prop, post v' → wY_call_127 post (nI s) 5 (x_registers (4 * s)) (x_registers (4 * s + 1)) x_changes y_time y_last y_lastPid y_did x_greatestPid x_latestPid x_saidCount 0 y_ops y_as y_bs x_codeLengths x_pids x_parents x_programs x_places x_statuses x_stepCounts x_copyCounts y_pages y_wake y_zombie y_blocked x_registers y_memory y_frame x_held y_kind x_openTargets y_mode x_openPlaces x_pipeCounts y_pipe x_nameFiles y_size x_fileWords x_safeNames y_safeSize x_safeWords y_said) ∧ uk_R y_time t (b + 1) u' v' := by
  obtain ⟨c, ec, hc⟩ := uk_aC A
  refine ⟨_, _, fun post h => ?_, fun post h => ?_, uk_end0 (g := -1) A hs hp hz hb⟩
  · unfold wpX_doCall
    refine nm_r (uk_m4 s) ⟨vp_in_nI (by omega) (by decide), nm_r (uk_rg0 x_registers hs) ⟨uk_rgv hs, nm_r (uk_rg1 x_registers hs) (br_f (by decide) (br_f (by decide) (br_f (by decide) (br_f (by decide) (br_f (by decide) (br_f (by decide) (br_f (by decide) (br_t rfl ?_))))))))⟩⟩
    unfold wpX_execProgram
    exact xk_isProgram (fun w => absurd w hv) (fun _ => br_t rfl (xk_tail0 hs ec hc h))
  · unfold wY_call_127
    refine br_t (by decide) (br_f (by decide) ?_)
    unfold wpY_descriptors
    exact br_t rfl (yk_tail0 hs h)
theorem uk_call5a {t b s : Nat} (A : uk_All t b x_changes x_saidCount x_time x_lastSlot x_sliceSteps x_latestPid x_greatestPid x_code x_codeLengths x_pids x_parents x_programs x_places x_states x_statuses x_stepCounts x_copyCounts x_wakeTimes x_registers x_pageCounts x_pageFrames x_held x_frameUsers x_frameWords x_openHolders x_openKinds x_openTargets x_openPlaces x_openModes x_pipeFirsts x_pipeCounts x_pipeWords x_nameFiles x_fileSizes x_fileWords x_safeNames x_safeSizes x_safeWords x_saidInts y_time y_last y_lastPid y_did y_killed y_ops y_as y_bs y_pages y_wake y_zombie y_blocked y_memory y_frame y_kind y_mode y_pipe y_size y_safeSize y_said) (hs : s < 8) (hp : x_pids s ≠ 0) (hz : y_zombie s = 0) (hb : y_blocked s = 0) (hv : vp_in (x_registers (4 * s)) 6) :
  ∃ u' v', (∀ post : SX → Prop, post u' → wpX_doCall post (x_changes, x_saidCount, x_time, x_lastSlot, x_sliceSteps, x_latestPid, x_greatestPid, x_code, x_codeLengths, x_pids, x_parents, x_programs, x_places, x_states, x_statuses, x_stepCounts, x_copyCounts, x_wakeTimes, x_registers, x_pageCounts, x_pageFrames, x_held, x_frameUsers, x_frameWords, x_openHolders, x_openKinds, x_openTargets, x_openPlaces, x_openModes, x_pipeFirsts, x_pipeCounts, x_pipeWords, x_nameFiles, x_fileSizes, x_fileWords, x_safeNames, x_safeSizes, x_safeWords, x_saidInts) (nI s) 5) ∧ (∀ post : SY → Prop, post v' → wpY_begin post (x_changes, y_time, y_last, y_lastPid, y_did, x_greatestPid, x_latestPid, x_saidCount, 0, y_ops, y_as, y_bs, x_codeLengths, x_pids, x_parents, x_programs, x_places, x_statuses, x_stepCounts, x_copyCounts, y_pages, y_wake, y_zombie, y_blocked, x_registers, y_memory, y_frame, x_held, y_kind, x_openTargets, y_mode, x_openPlaces, x_pipeCounts, y_pipe, x_nameFiles, y_size, x_fileWords, x_safeNames, y_safeSize, x_safeWords, y_said) (nI s) (x_registers (4 * s))) ∧ uk_R y_time t (b + 1) u' v' := by
  obtain ⟨_, vs, es⟩ := uk_lp 8 hs (by decide)
  obtain ⟨c, ec, hc⟩ := uk_aC A
  have hP : ∀ s, s < 8 → ¬ x_pids s < 0 := fun s hs => (uk_aPs A s hs).1
  obtain ⟨n, hn8, n2, n3, n4, n5⟩ := uk_aMe A s hs hp
  have hpf : ∀ p, p < n → vp_in (x_pageFrames (8 * s + p)) 20 := fun p hp => by rw [(n5 p hp).2.1]; exact (n5 p hp).1
  have hMe := uk_drop_Me s (uk_aMe A)
  have hFu := uk_drop_Fu (uk_aMe A) (uk_aFu A) hs hp n3 (by omega)
  have A1 : uk_All t b x_changes x_saidCount x_time x_lastSlot x_sliceSteps x_latestPid x_greatestPid x_code x_codeLengths x_pids x_parents x_programs x_places x_states x_statuses x_stepCounts x_copyCounts x_wakeTimes x_registers (upd x_pageCounts s 0) x_pageFrames x_held (uk_dec x_frameUsers x_pageFrames (8 * s) n) x_frameWords x_openHolders x_openKinds x_openTargets x_openPlaces x_openModes x_pipeFirsts x_pipeCounts x_pipeWords x_nameFiles x_fileSizes x_fileWords x_safeNames x_safeSizes x_safeWords x_saidInts y_time y_last y_lastPid y_did 0 y_ops y_as y_bs (upd y_pages s 0) y_wake y_zombie y_blocked y_memory y_frame y_kind y_mode y_pipe y_size y_safeSize y_said := ⟨uk_aG A, uk_aN A, uk_aC A, uk_aeT A, uk_aPr A, uk_aPs A, hMe, hFu, uk_aHd A, uk_aHo A, uk_aOk A, uk_aPi A, uk_aFi A, uk_aSa A, uk_aSc A, uk_aWk A⟩
  have hN : ∀ i, i < 8 → x_pids i ≠ 0 → ∃ n, n ≤ 8 ∧ upd y_pages s 0 i = nI n := fun s hs hp => by
    obtain ⟨n, h1, _, h3, _⟩ := hMe s hs hp
    exact ⟨n, h1, h3⟩
  have hff : uk_ff (fun f => uk_sm (uk_rw x_pids (upd y_pages s 0) y_frame f) 8 = 0) 20 = uk_ff (fun f => uk_dec x_frameUsers x_pageFrames (8 * s) n f = 0) 20 := uk_ffc 20 (fun f hf => (uk_fun hMe hFu hf).1.symm)
  rcases uk_ffs (fun f => uk_dec x_frameUsers x_pageFrames (8 * s) n f = 0) 20 with ⟨e, _⟩ | ⟨f, hf, e, e0, _⟩
  · obtain ⟨P', Q', zo', oh', ki', sz', fu', A', x1, y1⟩ := uk_exitA (-1) A1 hs hp hz
    refine ⟨_, _, fun post h => ?_, fun post h => ?_, uk_RmkK 1 (uk_up1 (Nat.le_succ b) A')⟩
    · unfold wpX_doCall
      refine nm_r (uk_m4 s) ⟨vp_in_nI (by omega) (by decide), nm_r (uk_rg0 x_registers hs) ⟨uk_rgv hs, nm_r (uk_rg1 x_registers hs) (br_f (by decide) (br_f (by decide) (br_f (by decide) (br_f (by decide) (br_f (by decide) (br_f (by decide) (br_f (by decide) (br_t rfl ?_))))))))⟩⟩
      unfold wpX_execProgram
      refine xk_isProgram (fun _ => br_f (by decide) (xk_dropPages hs n2 hn8 hpf (xk_freeFrame ?_))) (fun w => absurd hv w)
      rw [e]
      refine br_t rfl (x1 _ (xk_tail0 hs ec hc ?_))
      rw [uk_uself]
      exact h
    · unfold wpY_begin
      refine ⟨vs, ?_⟩
      rw [es]
      refine nm_e (yk_morePages (n := 0) hs hP hN pk_us (by decide) (fun _ => br_t rfl ?_) (fun f hf w => absurd (w.symm.trans (hff.trans e)) (uk_ne1 (by omega))))
      unfold wpY_kill
      exact y1 _ h
  · have hs0 := (uk_fun hMe hFu hf).1.mp e0
    have hM := uk_ad_Me (n := 0) hMe hs hz pk_us (by decide) hf hs0
    have hF := uk_ad_Fu (n := 0) hMe hFu hs hp pk_us (by decide) hf hs0
    have epc : upd (upd x_pageCounts s 0) s (nI (0 + 1)) = upd x_pageCounts s 1 := uk_uu _ _ _ _
    have epg : upd (upd y_pages s 0) s (nI (0 + 1)) = upd y_pages s 1 := uk_uu _ _ _ _
    rw [epc, epg] at hM
    rw [epg] at hF
    have A2 : uk_All t b x_changes x_saidCount x_time x_lastSlot x_sliceSteps x_latestPid x_greatestPid x_code x_codeLengths x_pids x_parents x_programs x_places x_states x_statuses x_stepCounts x_copyCounts x_wakeTimes x_registers (upd x_pageCounts s 1) (upd x_pageFrames (8 * s + 0) (nI f)) x_held (upd (uk_dec x_frameUsers x_pageFrames (8 * s) n) f 1) (uk_fl x_frameWords (4 * f) (fun _ => 0) 4) x_openHolders x_openKinds x_openTargets x_openPlaces x_openModes x_pipeFirsts x_pipeCounts x_pipeWords x_nameFiles x_fileSizes x_fileWords x_safeNames x_safeSizes x_safeWords x_saidInts y_time y_last y_lastPid y_did 0 y_ops y_as y_bs (upd y_pages s 1) y_wake y_zombie y_blocked (uk_fl y_memory (32 * s + 4 * 0) (fun _ => 0) 4) (upd y_frame (8 * s + 0) (nI f)) y_kind y_mode y_pipe y_size y_safeSize y_said := ⟨uk_aG A, uk_aN A, uk_aC A, uk_aeT A, uk_aPr A, uk_aPs A, hM, hF, uk_aHd A, uk_aHo A, uk_aOk A, uk_aPi A, uk_aFi A, uk_aSa A, uk_aSc A, uk_aWk A⟩
    have A3 := uk_All_pl (l := 0) A2 hs hp hz hb (by decide)
    have A4 : uk_All t b x_changes x_saidCount x_time x_lastSlot x_sliceSteps x_latestPid x_greatestPid x_code x_codeLengths x_pids x_parents (upd x_programs s (x_registers (4 * s))) (upd x_places s 0) x_states x_statuses x_stepCounts x_copyCounts x_wakeTimes (uk_fl x_registers (4 * s) (fun _ => 0) 4) (upd x_pageCounts s 1) (upd x_pageFrames (8 * s + 0) (nI f)) x_held (upd (uk_dec x_frameUsers x_pageFrames (8 * s) n) f 1) (uk_fl x_frameWords (4 * f) (fun _ => 0) 4) x_openHolders x_openKinds x_openTargets x_openPlaces x_openModes x_pipeFirsts x_pipeCounts x_pipeWords x_nameFiles x_fileSizes x_fileWords x_safeNames x_safeSizes x_safeWords x_saidInts y_time y_last y_lastPid y_did 0 y_ops y_as y_bs (upd y_pages s 1) y_wake y_zombie y_blocked (uk_fl y_memory (32 * s + 4 * 0) (fun _ => 0) 4) (upd y_frame (8 * s + 0) (nI f)) y_kind y_mode y_pipe y_size y_safeSize y_said :=
      ⟨uk_aG A3, uk_aN A3, uk_aC A3, uk_aeT A3, uk_aPr A3, fun s' hs' => by
        obtain ⟨h1, h2, h3, h4, h5⟩ := uk_aPs A3 s' hs'
        refine ⟨h1, h2, ?_, h4, h5⟩
        by_cases w : s' = s
        · subst w; rw [pk_us]; exact hv
        · rw [pk_un w]; exact h3, uk_aMe A3, uk_aFu A3, uk_aHd A3, uk_aHo A3, uk_aOk A3, uk_aPi A3, uk_aFi A3, uk_aSa A3, uk_aSc A3, uk_WkC (Nat.le_refl t) (uk_aWk A3) (fun s' hs' hp' hz' => by
        by_cases w : s' = s
        · subst w
          exact Or.inl (uk_run1 A3 hs hp hz hb)
        · exact Or.inr ⟨hp', hz', rfl, pk_un w, rfl, rfl, rfl, uk_flout (by omega), fun _ _ => rfl, fun _ _ _ _ _ _ => rfl⟩)⟩
    have er0 : uk_fl x_registers (4 * s) (fun _ => 0) 4 (4 * s) = 0 := by
      have := uk_flin (a := x_registers) (b := 4 * s) (N := 4) (g := fun _ => 0) (j := 0) (by decide)
      exact this
    refine ⟨_, _, fun post h => ?_, fun post h => ?_, uk_RmkK 0 (uk_up1 (Nat.le_succ b) A4)⟩
    · unfold wpX_doCall
      refine nm_r (uk_m4 s) ⟨vp_in_nI (by omega) (by decide), nm_r (uk_rg0 x_registers hs) ⟨uk_rgv hs, nm_r (uk_rg1 x_registers hs) (br_f (by decide) (br_f (by decide) (br_f (by decide) (br_f (by decide) (br_f (by decide) (br_f (by decide) (br_f (by decide) (br_t rfl ?_))))))))⟩⟩
      unfold wpX_execProgram
      refine xk_isProgram (fun _ => br_f (by decide) (xk_dropPages hs n2 hn8 hpf (xk_freeFrame ?_))) (fun w => absurd hv w)
      rw [e]
      refine br_f (uk_ne1 (by omega)) ?_
      unfold wpX_startProgram
      refine xk_addPage (n := 0) hs pk_us (by decide) hf ?_
      rw [epc]
      have key := uk_run0 (fun m k (w : Nat → Int32) => wX_startProgram_9 (fun u => match u with | (x_changes, x_saidCount, x_time, x_lastSlot, x_sliceSteps, x_latestPid, x_greatestPid, x_code, x_codeLengths, x_pids, x_parents, x_programs, x_places, x_states, x_statuses, x_stepCounts, x_copyCounts, x_wakeTimes, x_registers, x_pageCounts, x_pageFrames, x_held, x_frameUsers, x_frameWords, x_openHolders, x_openKinds, x_openTargets, x_openPlaces, x_openModes, x_pipeFirsts, x_pipeCounts, x_pipeWords, x_nameFiles, x_fileSizes, x_fileWords, x_safeNames, x_safeSizes, x_safeWords, x_saidInts) => wX_doCall_344 post (nI (4 * s)) 0 x_changes x_saidCount x_time x_lastSlot x_sliceSteps x_latestPid x_greatestPid x_code x_codeLengths x_pids x_parents x_programs x_places x_states x_statuses x_stepCounts x_copyCounts x_wakeTimes x_registers x_pageCounts x_pageFrames x_held x_frameUsers x_frameWords x_openHolders x_openKinds x_openTargets x_openPlaces x_openModes x_pipeFirsts x_pipeCounts x_pipeWords x_nameFiles x_fileSizes x_fileWords x_safeNames x_safeSizes x_safeWords x_saidInts) (nI s) (x_registers (4 * s)) x_changes x_saidCount x_time x_lastSlot x_sliceSteps x_latestPid x_greatestPid m (nI k) x_code x_codeLengths x_pids x_parents x_programs x_places x_states x_statuses x_stepCounts x_copyCounts x_wakeTimes w (upd x_pageCounts s 1) (upd x_pageFrames (8 * s + 0) (nI f)) x_held (upd (uk_dec x_frameUsers x_pageFrames (8 * s) n) f 1) (uk_fl x_frameWords (4 * f) (fun _ => 0) 4) x_openHolders x_openKinds x_openTargets x_openPlaces x_openModes x_pipeFirsts x_pipeCounts x_pipeWords x_nameFiles x_fileSizes x_fileWords x_safeNames x_safeSizes x_safeWords x_saidInts) (fun k => uk_fl x_registers (4 * s) (fun _ => 0) k) 4 (fun m => by
        refine br_t (uk_refl 4) ⟨vs, ?_⟩
        rw [es]
        refine nm_e ⟨vs, nm_e (xk_tail0 hs ec hc ?_)⟩
        have eu : upd (uk_fl x_registers (4 * s) (fun _ => 0) 4) (4 * s) 0 = uk_fl x_registers (4 * s) (fun _ => 0) 4 := by
          have := uk_uself (uk_fl x_registers (4 * s) (fun _ => 0) 4) (4 * s)
          rw [er0] at this
          exact this
        rw [eu]
        exact h) (fun m k hk ih => by
        refine br_f (nI_ge (b := 4) hk (by decide)) ?_
        rw [uk_m4, nI_add, nI_clamp (show 4 * s + k < 2 ^ 31 by omega)]
        exact ⟨vp_in_nI (by omega) (by decide), nm_r (uk_fls (g := fun _ => 0)) (nm_r (nI_1 k) ih)⟩)
      rw [uk_fl0] at key
      exact key
    · unfold wpY_begin
      refine ⟨vs, ?_⟩
      rw [es]
      refine nm_e (yk_morePages (n := 0) hs hP hN pk_us (by decide) (fun w => absurd ((hff.trans e).symm.trans w) (uk_ne1 (by omega))) (fun f' hf' w => ?_))
      have : f' = f := uk_nIn (by omega) (by omega) (w.symm.trans (hff.trans e))
      subst this
      rw [epg]
      refine br_f (by decide) ⟨vs, nm_e ⟨vs, nm_e ?_⟩⟩
      have key := uk_run0 (fun m k (w : Nat → Int32) => wY_begin_40 post (nI s) x_changes y_time y_last y_lastPid y_did x_greatestPid x_latestPid x_saidCount 0 m (nI k) y_ops y_as y_bs x_codeLengths x_pids x_parents (upd x_programs s (x_registers (4 * s))) (upd x_places s 0) x_statuses x_stepCounts x_copyCounts (upd y_pages s 1) y_wake y_zombie y_blocked w (uk_fl y_memory (32 * s + 4 * 0) (fun _ => 0) 4) (upd y_frame (8 * s + 0) (nI f')) x_held y_kind x_openTargets y_mode x_openPlaces x_pipeCounts y_pipe x_nameFiles y_size x_fileWords x_safeNames y_safeSize x_safeWords y_said) (fun k => uk_fl x_registers (4 * s) (fun _ => 0) k) 4 (fun m => br_t (uk_refl 4) h) (fun m k hk ih => by
        refine br_f (nI_ge (b := 4) hk (by decide)) ?_
        rw [uk_4m, nI_add, nI_clamp (show 4 * s + k < 2 ^ 31 by omega)]
        exact ⟨vp_in_nI (by omega) (by decide), nm_r (uk_fls (g := fun _ => 0)) (nm_r (nI_1 k) ih)⟩)
      rw [uk_fl0] at key
      exact key
end
