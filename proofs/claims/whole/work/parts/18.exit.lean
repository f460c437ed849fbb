/-! a process ends, on both sides -/
section
variable {x_changes x_saidCount x_time x_lastSlot x_sliceSteps x_latestPid x_greatestPid : Int32} {x_code x_codeLengths x_pids x_parents x_programs x_places x_states x_statuses x_stepCounts x_copyCounts x_wakeTimes x_registers x_pageCounts x_pageFrames x_held x_frameUsers x_frameWords x_openHolders x_openKinds x_openTargets x_openPlaces x_openModes x_pipeFirsts x_pipeCounts x_pipeWords x_nameFiles x_fileSizes x_fileWords x_safeNames x_safeSizes x_safeWords x_saidInts : Nat → Int32} {y_time y_last y_lastPid y_did y_killed : Int32} {y_ops y_as y_bs y_pages y_wake y_zombie y_blocked y_reg y_memory y_frame y_kind y_mode y_pipe y_size y_safeSize y_said : Nat → Int32}
theorem xk_dropPages {post : SX → Prop} {s n : Nat} (hs : s < 8) (hn : x_pageCounts s = nI n) (hn8 : n ≤ 8) (hpf : ∀ p, p < n → vp_in (x_pageFrames (8 * s + p)) 20) (h : post (x_changes, x_saidCount, x_time, x_lastSlot, x_sliceSteps, x_latestPid, x_greatestPid, x_code, x_codeLengths, x_pids, x_parents, x_programs, x_places, x_states, x_statuses, x_stepCounts, x_copyCounts, x_wakeTimes, x_registers, upd x_pageCounts s 0, x_pageFrames, x_held, uk_dec x_frameUsers x_pageFrames (8 * s) n, x_frameWords, x_openHolders, x_openKinds, x_openTargets, x_openPlaces, x_openModes, x_pipeFirsts, x_pipeCounts, x_pipeWords, x_nameFiles, x_fileSizes, x_fileWords, x_safeNames, x_safeSizes, x_safeWords, x_saidInts)) : wpX_dropPages post (x_changes, x_saidCount, x_time, x_lastSlot, x_sliceSteps, x_latestPid, x_greatestPid, x_code, x_codeLengths, x_pids, x_parents, x_programs, x_places, x_states, x_statuses, x_stepCounts, x_copyCounts, x_wakeTimes, x_registers, x_pageCounts, x_pageFrames, x_held, x_frameUsers, x_frameWords, x_openHolders, x_openKinds, x_openTargets, x_openPlaces, x_openModes, x_pipeFirsts, x_pipeCounts, x_pipeWords, x_nameFiles, x_fileSizes, x_fileWords, x_safeNames, x_safeSizes, x_safeWords, x_saidInts) (nI s) := by
  obtain ⟨_, vs, es⟩ := uk_lp 8 hs (by decide)
  unfold wpX_dropPages
  refine uk_run0 (fun m p (fu : Nat → Int32) => wX_dropPages_2 post (nI s) x_changes x_saidCount x_time x_lastSlot x_sliceSteps x_latestPid x_greatestPid m (nI p) x_code x_codeLengths x_pids x_parents x_programs x_places x_states x_statuses x_stepCounts x_copyCounts x_wakeTimes x_registers x_pageCounts x_pageFrames x_held fu x_frameWords x_openHolders x_openKinds x_openTargets x_openPlaces x_openModes x_pipeFirsts x_pipeCounts x_pipeWords x_nameFiles x_fileSizes x_fileWords x_safeNames x_safeSizes x_safeWords x_saidInts) (fun p => uk_dec x_frameUsers x_pageFrames (8 * s) p) n (fun m => ⟨vs, ?_⟩) (fun m p hp ih => ⟨vs, ?_⟩)
  · rw [es, hn]
    exact br_t (uk_refl _) ⟨vs, nm_e h⟩
  · rw [es, hn]
    refine br_f (nI_ge hp (by omega)) ?_
    rw [uk_m8, nI_add, nI_clamp (show 8 * s + p < 2 ^ 31 by omega)]
    exact ⟨vp_in_nI (by omega) (by decide), hpf p hp, hpf p hp, nm_e (nm_r (nI_1 p) ih)⟩
theorem uk_gos {zo1 : Nat → Int32} {t s : Nat} (hs : s < 8) (hp : x_pids s ≠ 0) (hz : y_zombie s = 0) (hP : ∀ s, s < 8 → ¬ x_pids s < 0) (hHd : uk_Hd x_pids y_zombie x_held) (hHo : uk_Ho x_pids y_zombie x_held x_openHolders) (hOk : uk_Ok x_openHolders x_openKinds y_kind x_openTargets x_openModes y_mode x_openPlaces) (hFi : uk_Fi x_nameFiles y_kind x_openTargets x_fileSizes y_size) (hWk : uk_Wk x_pids zo1 y_blocked x_programs x_places x_codeLengths y_ops y_bs x_wakeTimes y_wake x_registers x_held y_kind t) (hzo : ∀ s', s' < 8 → s' ≠ s → zo1 s' = 0 → y_zombie s' = 0) (hs1 : zo1 s = 0 → y_blocked s = 0 ∧ x_wakeTimes s = 0 ∧ y_wake s = -1) : ∀ d, d ≤ 6 →
  ∃ oh' ki' sz', uk_Hd x_pids y_zombie (uk_fl x_held (6 * s) (fun _ => -1) d) ∧ uk_Ho x_pids y_zombie (uk_fl x_held (6 * s) (fun _ => -1) d) oh' ∧ uk_Ok oh' x_openKinds ki' x_openTargets x_openModes y_mode x_openPlaces ∧ uk_Fi x_nameFiles ki' x_openTargets x_fileSizes sz' ∧ uk_Wk x_pids zo1 y_blocked x_programs x_places x_codeLengths y_ops y_bs x_wakeTimes y_wake x_registers (uk_fl x_held (6 * s) (fun _ => -1) d) ki' t ∧
  (∀ (post : SX → Prop) (st q : Int32) (m : Nat), wX_endProcess_10 post (nI s) st q m (nI d) x_changes x_saidCount x_time x_lastSlot x_sliceSteps x_latestPid x_greatestPid x_code x_codeLengths x_pids x_parents x_programs x_places x_states x_statuses x_stepCounts x_copyCounts x_wakeTimes x_registers x_pageCounts x_pageFrames (uk_fl x_held (6 * s) (fun _ => -1) d) x_frameUsers x_frameWords oh' x_openKinds x_openTargets x_openPlaces x_openModes x_pipeFirsts x_pipeCounts x_pipeWords x_nameFiles x_fileSizes x_fileWords x_safeNames x_safeSizes x_safeWords x_saidInts → wX_endProcess_10 post (nI s) st q (m + d) 0 x_changes x_saidCount x_time x_lastSlot x_sliceSteps x_latestPid x_greatestPid x_code x_codeLengths x_pids x_parents x_programs x_places x_states x_statuses x_stepCounts x_copyCounts x_wakeTimes x_registers x_pageCounts x_pageFrames x_held x_frameUsers x_frameWords x_openHolders x_openKinds x_openTargets x_openPlaces x_openModes x_pipeFirsts x_pipeCounts x_pipeWords x_nameFiles x_fileSizes x_fileWords x_safeNames x_safeSizes x_safeWords x_saidInts) ∧
  (∀ (post : SY → Prop) (st q : Int32) (m : Nat), wY_exit_10 post (nI s) st q m (nI d) x_changes y_time y_last y_lastPid y_did x_greatestPid x_latestPid x_saidCount y_killed y_ops y_as y_bs x_codeLengths x_pids x_parents x_programs x_places x_statuses x_stepCounts x_copyCounts y_pages y_wake y_zombie y_blocked y_reg y_memory y_frame (uk_fl x_held (6 * s) (fun _ => -1) d) ki' x_openTargets y_mode x_openPlaces x_pipeCounts y_pipe x_nameFiles sz' x_fileWords x_safeNames y_safeSize x_safeWords y_said → wY_exit_10 post (nI s) st q (m + d) 0 x_changes y_time y_last y_lastPid y_did x_greatestPid x_latestPid x_saidCount y_killed y_ops y_as y_bs x_codeLengths x_pids x_parents x_programs x_places x_statuses x_stepCounts x_copyCounts y_pages y_wake y_zombie y_blocked y_reg y_memory y_frame x_held y_kind x_openTargets y_mode x_openPlaces x_pipeCounts y_pipe x_nameFiles y_size x_fileWords x_safeNames y_safeSize x_safeWords y_said)
  | 0, _ => by
    rw [uk_fl0]
    exact ⟨_, _, _, hHd, hHo, hOk, hFi, hWk, fun _ _ _ _ h => h, fun _ _ _ _ h => h⟩
  | d + 1, hd => by
    obtain ⟨oh, ki, sz, a1, a2, a3, a4, a5, a6, a7⟩ := uk_gos hs hp hz hP hHd hHo hOk hFi hWk hzo hs1 d (by omega)
    obtain ⟨oh2, ki2, sz2, b1, b2, b3, b4, b5, b6, b7⟩ := uk_go1 (d := d) (x_changes := x_changes) (x_saidCount := x_saidCount) (x_time := x_time) (x_lastSlot := x_lastSlot) (x_sliceSteps := x_sliceSteps) (x_latestPid := x_latestPid) (x_greatestPid := x_greatestPid) (x_code := x_code) (x_codeLengths := x_codeLengths) (x_pids := x_pids) (x_parents := x_parents) (x_programs := x_programs) (x_places := x_places) (x_states := x_states) (x_statuses := x_statuses) (x_stepCounts := x_stepCounts) (x_copyCounts := x_copyCounts) (x_wakeTimes := x_wakeTimes) (x_registers := x_registers) (x_pageCounts := x_pageCounts) (x_pageFrames := x_pageFrames) (x_held := uk_fl x_held (6 * s) (fun _ => -1) d) (x_frameUsers := x_frameUsers) (x_frameWords := x_frameWords) (x_openHolders := oh) (x_openKinds := x_openKinds) (x_openTargets := x_openTargets) (x_openPlaces := x_openPlaces) (x_openModes := x_openModes) (x_pipeFirsts := x_pipeFirsts) (x_pipeCounts := x_pipeCounts) (x_pipeWords := x_pipeWords) (x_nameFiles := x_nameFiles) (x_fileSizes := x_fileSizes) (x_fileWords := x_fileWords) (x_safeNames := x_safeNames) (x_safeSizes := x_safeSizes) (x_safeWords := x_safeWords) (x_saidInts := x_saidInts) (y_time := y_time) (y_last := y_last) (y_lastPid := y_lastPid) (y_did := y_did) (y_killed := y_killed) (y_ops := y_ops) (y_as := y_as) (y_bs := y_bs) (y_pages := y_pages) (y_wake := y_wake) (y_zombie := y_zombie) (y_blocked := y_blocked) (y_reg := y_reg) (y_memory := y_memory) (y_frame := y_frame) (y_kind := ki) (y_mode := y_mode) (y_pipe := y_pipe) (y_size := sz) (y_safeSize := y_safeSize) (y_said := y_said) hs (by omega) hp hz hP a1 a2 a3 a4 a5 hzo hs1
    rw [uk_fls (g := fun _ => -1)] at b1 b2 b5 b6 b7
    refine ⟨oh2, ki2, sz2, b1, b2, b3, b4, b5, fun post st q m h => ?_, fun post st q m h => ?_⟩
    · rw [show m + (d + 1) = (m + 1) + d by omega]
      exact a6 post st q (m + 1) (br_f (nI_ge (b := 6) (by omega) (by decide)) (b6 _ (nm_r (nI_1 d) h)))
    · rw [show m + (d + 1) = (m + 1) + d by omega]
      exact a7 post st q (m + 1) (br_f (nI_ge (b := 6) (by omega) (by decide)) (b7 _ (nm_r (nI_1 d) h)))
theorem uk_orph {zo1 : Nat → Int32} {t e : Nat} {q heir : Int32} (he : e < 8) (hz : y_zombie e = 0) (hh : ¬ heir < 0) (hPs : uk_Ps x_pids x_parents x_programs x_places x_statuses x_states y_zombie y_blocked) (hMe : uk_Me x_pids y_zombie x_pageCounts y_pages x_pageFrames y_frame x_frameWords y_memory) (hFu : uk_Fu x_pids y_pages y_frame x_frameUsers) (hHd : uk_Hd x_pids y_zombie x_held) (hHo : uk_Ho x_pids y_zombie x_held x_openHolders) (hWk : uk_Wk x_pids zo1 y_blocked x_programs x_places x_codeLengths y_ops y_bs x_wakeTimes y_wake x_registers x_held y_kind t) (hSc : uk_Sc x_pids x_lastSlot x_sliceSteps y_last y_lastPid y_did) : ∀ c, c ≤ 8 →
  ∃ P' Q', uk_Ps P' Q' x_programs x_places x_statuses x_states y_zombie y_blocked ∧ uk_Me P' y_zombie x_pageCounts y_pages x_pageFrames y_frame x_frameWords y_memory ∧ uk_Fu P' y_pages y_frame x_frameUsers ∧ uk_Hd P' y_zombie x_held ∧ uk_Ho P' y_zombie x_held x_openHolders ∧ uk_Wk P' zo1 y_blocked x_programs x_places x_codeLengths y_ops y_bs x_wakeTimes y_wake x_registers x_held y_kind t ∧ uk_Sc P' x_lastSlot x_sliceSteps y_last y_lastPid y_did ∧ P' e = x_pids e ∧
  (∀ (post : SX → Prop) (st : Int32) (m : Nat), wX_endProcess_86 post (nI e) st q heir x_changes x_saidCount x_time x_lastSlot x_sliceSteps x_latestPid x_greatestPid m (nI c) x_code x_codeLengths P' Q' x_programs x_places x_states x_statuses x_stepCounts x_copyCounts x_wakeTimes x_registers x_pageCounts x_pageFrames x_held x_frameUsers x_frameWords x_openHolders x_openKinds x_openTargets x_openPlaces x_openModes x_pipeFirsts x_pipeCounts x_pipeWords x_nameFiles x_fileSizes x_fileWords x_safeNames x_safeSizes x_safeWords x_saidInts → wX_endProcess_86 post (nI e) st q heir x_changes x_saidCount x_time x_lastSlot x_sliceSteps x_latestPid x_greatestPid (m + c) 0 x_code x_codeLengths x_pids x_parents x_programs x_places x_states x_statuses x_stepCounts x_copyCounts x_wakeTimes x_registers x_pageCounts x_pageFrames x_held x_frameUsers x_frameWords x_openHolders x_openKinds x_openTargets x_openPlaces x_openModes x_pipeFirsts x_pipeCounts x_pipeWords x_nameFiles x_fileSizes x_fileWords x_safeNames x_safeSizes x_safeWords x_saidInts) ∧
  (∀ (post : SY → Prop) (st : Int32) (m : Nat), wY_exit_74 post (nI e) st q heir x_changes y_time y_last y_lastPid y_did x_greatestPid x_latestPid x_saidCount y_killed m (nI c) y_ops y_as y_bs x_codeLengths P' Q' x_programs x_places x_statuses x_stepCounts x_copyCounts y_pages y_wake y_zombie y_blocked y_reg y_memory y_frame x_held y_kind x_openTargets y_mode x_openPlaces x_pipeCounts y_pipe x_nameFiles y_size x_fileWords x_safeNames y_safeSize x_safeWords y_said → wY_exit_74 post (nI e) st q heir x_changes y_time y_last y_lastPid y_did x_greatestPid x_latestPid x_saidCount y_killed (m + c) 0 y_ops y_as y_bs x_codeLengths x_pids x_parents x_programs x_places x_statuses x_stepCounts x_copyCounts y_pages y_wake y_zombie y_blocked y_reg y_memory y_frame x_held y_kind x_openTargets y_mode x_openPlaces x_pipeCounts y_pipe x_nameFiles y_size x_fileWords x_safeNames y_safeSize x_safeWords y_said)
  | 0, _ => ⟨_, _, hPs, hMe, hFu, hHd, hHo, hWk, hSc, rfl, fun _ _ _ h => h, fun _ _ _ h => h⟩
  | c + 1, hc => by
    obtain ⟨P', Q', a1, a2, a3, a4, a5, a6, a7, a8, a9, a10⟩ := uk_orph he hz hh hPs hMe hFu hHd hHo hWk hSc c (by omega)
    obtain ⟨z, v, ev⟩ := uk_lp 8 (show c < 8 by omega) (by decide)
    have eX : ∀ m, m + (c + 1) = (m + 1) + c := fun m => by omega
    by_cases h1 : P' c = 0
    · refine ⟨P', Q', a1, a2, a3, a4, a5, a6, a7, a8, fun post st m h => ?_, fun post st m h => ?_⟩
      · rw [eX]
        refine a9 post st (m + 1) (br_f z ⟨v, ?_⟩)
        rw [ev]
        exact br_t h1 (nm_r (nI_1 c) h)
      · rw [eX]
        refine a10 post st (m + 1) (br_f z ⟨v, ?_⟩)
        rw [ev]
        exact br_t h1 (nm_r (nI_1 c) h)
    by_cases h2 : Q' c = q
    · have b1 : uk_Ps P' (upd Q' c heir) x_programs x_places x_statuses x_states y_zombie y_blocked := fun s hs => by
        obtain ⟨k1, k2, k3⟩ := a1 s hs
        refine ⟨k1, ?_, k3⟩
        by_cases e2 : s = c
        · subst e2; rw [pk_us]; exact hh
        · rw [pk_un e2]; exact k2
      by_cases h3 : heir = 0
      · by_cases h4 : y_zombie c = 0
        · have h5 : ¬ x_states c = 3 := fun w => absurd (((uk_zst a1 (by omega) h1).mp w).symm.trans h4) (by decide)
          refine ⟨P', upd Q' c heir, b1, a2, a3, a4, a5, a6, a7, a8, fun post st m h => ?_, fun post st m h => ?_⟩
          · rw [eX]
            refine a9 post st (m + 1) (br_f z ⟨v, ?_⟩)
            rw [ev]
            exact br_f h1 ⟨v, br_t h2 ⟨v, nm_e (br_t h3 ⟨v, br_f h5 (nm_r (nI_1 c) h)⟩)⟩⟩
          · rw [eX]
            refine a10 post st (m + 1) (br_f z ⟨v, ?_⟩)
            rw [ev]
            exact br_f h1 ⟨v, br_t h2 ⟨v, nm_e (br_t h3 ⟨v, br_t h4 (nm_r (nI_1 c) h)⟩)⟩⟩
        · have h4' : y_zombie c = 1 := (a1 c (by omega)).2.2.2.2.1.resolve_left h4
          have h5 : x_states c = 3 := (uk_zst a1 (by omega) h1).mpr h4'
          have hce : e ≠ c := fun w => by subst w; exact h4 hz
          have hpg : P' c ≠ 0 → y_pages c = 0 := fun w => by
            obtain ⟨n, _, _, k3, k4, _⟩ := a2 c (by omega) w
            rw [k3, k4 h4']; rfl
          refine ⟨upd P' c 0, upd Q' c heir, uk_P0_Ps c b1, uk_P0_Me c a2, uk_P0_Fu c a3 hpg, uk_P0_Hd c a4, uk_P0_Ho c a5 (fun o _ => uk_hw0 (fun w => h4 w.2)), uk_P0_Wk c a6, uk_P0_Sc c a7, (pk_un hce).trans a8, fun post st m h => ?_, fun post st m h => ?_⟩
          · rw [eX]
            refine a9 post st (m + 1) (br_f z ⟨v, ?_⟩)
            rw [ev]
            exact br_f h1 ⟨v, br_t h2 ⟨v, nm_e (br_t h3 ⟨v, br_t h5 ⟨v, nm_e (nm_r (nI_1 c) h)⟩⟩)⟩⟩
          · rw [eX]
            refine a10 post st (m + 1) (br_f z ⟨v, ?_⟩)
            rw [ev]
            exact br_f h1 ⟨v, br_t h2 ⟨v, nm_e (br_t h3 ⟨v, br_f h4 ⟨v, nm_e (nm_r (nI_1 c) h)⟩⟩)⟩⟩
      · refine ⟨P', upd Q' c heir, b1, a2, a3, a4, a5, a6, a7, a8, fun post st m h => ?_, fun post st m h => ?_⟩
        · rw [eX]
          refine a9 post st (m + 1) (br_f z ⟨v, ?_⟩)
          rw [ev]
          exact br_f h1 ⟨v, br_t h2 ⟨v, nm_e (br_f h3 (nm_r (nI_1 c) h))⟩⟩
        · rw [eX]
          refine a10 post st (m + 1) (br_f z ⟨v, ?_⟩)
          rw [ev]
          exact br_f h1 ⟨v, br_t h2 ⟨v, nm_e (br_f h3 (nm_r (nI_1 c) h))⟩⟩
    · refine ⟨P', Q', a1, a2, a3, a4, a5, a6, a7, a8, fun post st m h => ?_, fun post st m h => ?_⟩
      · rw [eX]
        refine a9 post st (m + 1) (br_f z ⟨v, ?_⟩)
        rw [ev]
        exact br_f h1 ⟨v, br_f h2 (nm_r (nI_1 c) h)⟩
      · rw [eX]
        refine a10 post st (m + 1) (br_f z ⟨v, ?_⟩)
        rw [ev]
        exact br_f h1 ⟨v, br_f h2 (nm_r (nI_1 c) h)⟩
end
