/-! the calls that only read, first part -/
theorem yk_nom {post : Int32 → Prop} {x m : Int32} (n : Nat) (hm : m = nI n - 1) (hb : n < 2 ^ 31) (hf : vp_in x n → post 0) (ht : ¬ vp_in x n → post 1) : wpY_no post x m := by
  cases n with
  | zero =>
    have e : m = -1 := hm
    have hn : ¬ vp_in x 0 := fun z => by have := uk_inc z; omega
    subst e
    unfold wpY_no
    refine ⟨fun _ => ht hn, fun a => ⟨fun b => absurd (Int32.lt_of_le_of_lt b (by decide)) a, fun _ => ht hn⟩⟩
  | succ n => exact yk_no n (hm.trans (nI_pred n)) hb hf ht
theorem i_vc_name {k : Nat} {u : SX} {v : SY} (I : i_Rel k u v) (hk : k + 5 ≤ 2560) (v1 : Int32) : wpX_name (fun r => wpY_name (fun r' => r' = r ∧ i_Rel (k + 5) u v) v v1) u v1 := by
  refine i_elim (C := fun u v => i_Rel (k + 5) u v → wpX_name (fun r => wpY_name (fun r' => r' = r ∧ i_Rel (k + 5) u v) v v1) u v1) I ?_ (i_up I)
  intro t b x_changes x_saidCount x_time x_lastSlot x_sliceSteps x_latestPid x_greatestPid x_code x_codeLengths x_pids x_parents x_programs x_places x_states x_statuses x_stepCounts x_copyCounts x_wakeTimes x_registers x_pageCounts x_pageFrames x_held x_frameUsers x_frameWords x_openHolders x_openKinds x_openTargets x_openPlaces x_openModes x_pipeFirsts x_pipeCounts x_pipeWords x_nameFiles x_fileSizes x_fileWords x_safeNames x_safeSizes x_safeWords x_saidInts y_time y_last y_lastPid y_did y_killed y_ops y_as y_bs y_pages y_wake y_zombie y_blocked y_memory y_frame y_kind y_mode y_pipe y_size y_safeSize y_said ht hbt hA J
  have eT := uk_aeT hA
  have hPr := uk_aPr hA
  have hPs := uk_aPs hA
  have hMe := uk_aMe hA
  have hFu := uk_aFu hA
  have hHd := uk_aHd hA
  have hHo := uk_aHo hA
  have hOk := uk_aOk hA
  have hFi := uk_aFi hA
  have hP : ∀ s, s < 8 → ¬ x_pids s < 0 := fun s hs => (hPs s hs).1
  have hN : ∀ s, s < 8 → x_pids s ≠ 0 → ∃ n, n ≤ 8 ∧ y_pages s = nI n := fun s hs hp => by
    obtain ⟨n, h1, _, h3, _⟩ := hMe s hs hp
    exact ⟨n, h1, h3⟩
  unfold wpX_name
  refine xk_isName (fun a => br_f (by decide) ⟨a, ?_⟩) (fun a => br_t rfl ?_)
  · unfold wpY_name
    exact yk_no 7 rfl (by decide) (fun b => br_t rfl ⟨b, rfl, J⟩) (fun b => absurd a b)
  · unfold wpY_name
    exact yk_no 7 rfl (by decide) (fun b => absurd b a) (fun b => br_f (by decide) ⟨rfl, J⟩)
theorem i_vc_said {k : Nat} {u : SX} {v : SY} (I : i_Rel k u v) (hk : k + 5 ≤ 2560) (v1 : Int32) : wpX_said (fun r => wpY_said (fun r' => r' = r ∧ i_Rel (k + 5) u v) v v1) u v1 := by
  refine i_elim (C := fun u v => i_Rel (k + 5) u v → wpX_said (fun r => wpY_said (fun r' => r' = r ∧ i_Rel (k + 5) u v) v v1) u v1) I ?_ (i_up I)
  intro t b x_changes x_saidCount x_time x_lastSlot x_sliceSteps x_latestPid x_greatestPid x_code x_codeLengths x_pids x_parents x_programs x_places x_states x_statuses x_stepCounts x_copyCounts x_wakeTimes x_registers x_pageCounts x_pageFrames x_held x_frameUsers x_frameWords x_openHolders x_openKinds x_openTargets x_openPlaces x_openModes x_pipeFirsts x_pipeCounts x_pipeWords x_nameFiles x_fileSizes x_fileWords x_safeNames x_safeSizes x_safeWords x_saidInts y_time y_last y_lastPid y_did y_killed y_ops y_as y_bs y_pages y_wake y_zombie y_blocked y_memory y_frame y_kind y_mode y_pipe y_size y_safeSize y_said ht hbt hA J
  have eT := uk_aeT hA
  have hPr := uk_aPr hA
  have hPs := uk_aPs hA
  have hMe := uk_aMe hA
  have hFu := uk_aFu hA
  have hHd := uk_aHd hA
  have hHo := uk_aHo hA
  have hOk := uk_aOk hA
  have hFi := uk_aFi hA
  have hP : ∀ s, s < 8 → ¬ x_pids s < 0 := fun s hs => (hPs s hs).1
  have hN : ∀ s, s < 8 → x_pids s ≠ 0 → ∃ n, n ≤ 8 ∧ y_pages s = nI n := fun s hs hp => by
    obtain ⟨n, h1, _, h3, _⟩ := hMe s hs hp
    exact ⟨n, h1, h3⟩
  obtain ⟨n, en, hn, hSd⟩ := uk_aN hA
  have e16 := uk_inE (x := v1) (n := 16) (N := 16) rfl (by decide)
  have y0 : ¬ vp_in v1 16 → wpY_said (fun r' => r' = 0 ∧ i_Rel (k + 5) (x_changes, x_saidCount, x_time, x_lastSlot, x_sliceSteps, x_latestPid, x_greatestPid, x_code, x_codeLengths, x_pids, x_parents, x_programs, x_places, x_states, x_statuses, x_stepCounts, x_copyCounts, x_wakeTimes, x_registers, x_pageCounts, x_pageFrames, x_held, x_frameUsers, x_frameWords, x_openHolders, x_openKinds, x_openTargets, x_openPlaces, x_openModes, x_pipeFirsts, x_pipeCounts, x_pipeWords, x_nameFiles, x_fileSizes, x_fileWords, x_safeNames, x_safeSizes, x_safeWords, x_saidInts) (x_changes, x_time, y_last, y_lastPid, y_did, x_greatestPid, x_latestPid, x_saidCount, y_killed, y_ops, y_as, y_bs, x_codeLengths, x_pids, x_parents, x_programs, x_places, x_statuses, x_stepCounts, x_copyCounts, y_pages, y_wake, y_zombie, y_blocked, x_registers, y_memory, y_frame, x_held, y_kind, x_openTargets, y_mode, x_openPlaces, x_pipeCounts, y_pipe, x_nameFiles, y_size, x_fileWords, x_safeNames, y_safeSize, x_safeWords, y_said)) (x_changes, x_time, y_last, y_lastPid, y_did, x_greatestPid, x_latestPid, x_saidCount, y_killed, y_ops, y_as, y_bs, x_codeLengths, x_pids, x_parents, x_programs, x_places, x_statuses, x_stepCounts, x_copyCounts, y_pages, y_wake, y_zombie, y_blocked, x_registers, y_memory, y_frame, x_held, y_kind, x_openTargets, y_mode, x_openPlaces, x_pipeCounts, y_pipe, x_nameFiles, y_size, x_fileWords, x_safeNames, y_safeSize, x_safeWords, y_said) v1 := fun a => by
    unfold wpY_said
    exact yk_no 15 rfl (by decide) (fun b => absurd b a) (fun b => br_f (by decide) ⟨rfl, J⟩)
  unfold wpX_said
  refine ⟨fun a => y0 (fun z => (e16.mp z).1 a), fun a => ⟨fun b => y0 (fun z => (e16.mp z).2 b), fun b => ?_⟩⟩
  have hv := e16.mpr ⟨a, b⟩
  obtain ⟨j, hj, rfl⟩ := vp_in_of hv (by decide)
  subst en
  refine ⟨fun c => ?_, fun c => ?_⟩
  · have hjn : j < n := (nI_ltI (by omega) (by omega)).mp c
    have e1 : nI n - 1 - nI j = nI (n - 1 - j) := (congrArg (· - nI j) (pk_sub (b := 1) (by omega))).trans (pk_sub (by omega))
    have e2 : nI n - 1 - nI j - (nI n - 1 - nI j) / 16 * 16 = nI ((n - 1 - j) % 16) := by
      rw [e1]
      exact pk_rem (d := 16) (by omega) (by decide) (by decide)
    rw [e2, nI_clamp (by omega)]
    refine ⟨by decide, vp_in_nI (by omega) (by decide), ?_⟩
    unfold wpY_said
    refine yk_no 15 rfl (by decide) (fun _ => br_t rfl (br_t c ⟨hv, ?_, J⟩)) (fun d => absurd hv d)
    rw [nI_clamp (by omega)]
    exact (hSd j hj hjn).symm
  · unfold wpY_said
    exact yk_no 15 rfl (by decide) (fun _ => br_t rfl (br_f c ⟨rfl, J⟩)) (fun d => absurd hv d)
theorem i_vc_word {k : Nat} {u : SX} {v : SY} (I : i_Rel k u v) (hk : k + 5 ≤ 2560) (v1 : Int32) (v2 : Int32) : wpX_word (fun r => wpY_word (fun r' => r' = r ∧ i_Rel (k + 5) u v) v v1 v2) u v1 v2 := by
  refine i_elim (C := fun u v => i_Rel (k + 5) u v → wpX_word (fun r => wpY_word (fun r' => r' = r ∧ i_Rel (k + 5) u v) v v1 v2) u v1 v2) I ?_ (i_up I)
  intro t b x_changes x_saidCount x_time x_lastSlot x_sliceSteps x_latestPid x_greatestPid x_code x_codeLengths x_pids x_parents x_programs x_places x_states x_statuses x_stepCounts x_copyCounts x_wakeTimes x_registers x_pageCounts x_pageFrames x_held x_frameUsers x_frameWords x_openHolders x_openKinds x_openTargets x_openPlaces x_openModes x_pipeFirsts x_pipeCounts x_pipeWords x_nameFiles x_fileSizes x_fileWords x_safeNames x_safeSizes x_safeWords x_saidInts y_time y_last y_lastPid y_did y_killed y_ops y_as y_bs y_pages y_wake y_zombie y_blocked y_memory y_frame y_kind y_mode y_pipe y_size y_safeSize y_said ht hbt hA J
  have eT := uk_aeT hA
  have hPr := uk_aPr hA
  have hPs := uk_aPs hA
  have hMe := uk_aMe hA
  have hFu := uk_aFu hA
  have hHd := uk_aHd hA
  have hHo := uk_aHo hA
  have hOk := uk_aOk hA
  have hFi := uk_aFi hA
  have hP : ∀ s, s < 8 → ¬ x_pids s < 0 := fun s hs => (hPs s hs).1
  have hN : ∀ s, s < 8 → x_pids s ≠ 0 → ∃ n, n ≤ 8 ∧ y_pages s = nI n := fun s hs hp => by
    obtain ⟨n, h1, _, h3, _⟩ := hMe s hs hp
    exact ⟨n, h1, h3⟩
  have e8 := uk_inE (x := v1) (n := 8) (N := 8) rfl (by decide)
  have y0 : ¬ vp_in v1 8 → wpY_word (fun r' => r' = 0 ∧ i_Rel (k + 5) (x_changes, x_saidCount, x_time, x_lastSlot, x_sliceSteps, x_latestPid, x_greatestPid, x_code, x_codeLengths, x_pids, x_parents, x_programs, x_places, x_states, x_statuses, x_stepCounts, x_copyCounts, x_wakeTimes, x_registers, x_pageCounts, x_pageFrames, x_held, x_frameUsers, x_frameWords, x_openHolders, x_openKinds, x_openTargets, x_openPlaces, x_openModes, x_pipeFirsts, x_pipeCounts, x_pipeWords, x_nameFiles, x_fileSizes, x_fileWords, x_safeNames, x_safeSizes, x_safeWords, x_saidInts) (x_changes, x_time, y_last, y_lastPid, y_did, x_greatestPid, x_latestPid, x_saidCount, y_killed, y_ops, y_as, y_bs, x_codeLengths, x_pids, x_parents, x_programs, x_places, x_statuses, x_stepCounts, x_copyCounts, y_pages, y_wake, y_zombie, y_blocked, x_registers, y_memory, y_frame, x_held, y_kind, x_openTargets, y_mode, x_openPlaces, x_pipeCounts, y_pipe, x_nameFiles, y_size, x_fileWords, x_safeNames, y_safeSize, x_safeWords, y_said)) (x_changes, x_time, y_last, y_lastPid, y_did, x_greatestPid, x_latestPid, x_saidCount, y_killed, y_ops, y_as, y_bs, x_codeLengths, x_pids, x_parents, x_programs, x_places, x_statuses, x_stepCounts, x_copyCounts, y_pages, y_wake, y_zombie, y_blocked, x_registers, y_memory, y_frame, x_held, y_kind, x_openTargets, y_mode, x_openPlaces, x_pipeCounts, y_pipe, x_nameFiles, y_size, x_fileWords, x_safeNames, y_safeSize, x_safeWords, y_said) v1 v2 := fun a => by
    unfold wpY_word
    exact yk_no 7 rfl (by decide) (fun b => absurd b a) (fun b => br_f (by decide) ⟨rfl, J⟩)
  unfold wpX_word
  refine ⟨fun a => y0 (fun z => (e8.mp z).1 a), fun a => ⟨fun b => y0 (fun z => (e8.mp z).2 b), fun b => ?_⟩⟩
  have hv := e8.mpr ⟨a, b⟩
  obtain ⟨f, hf, rfl⟩ := vp_in_of hv (by decide)
  obtain ⟨s1, s2, s3⟩ := hFi.2 f hf
  obtain ⟨m, hm, em⟩ := vp_in_of s1 (by decide)
  have y1 : ¬ vp_in v2 m → wpY_word (fun r' => r' = 0 ∧ i_Rel (k + 5) (x_changes, x_saidCount, x_time, x_lastSlot, x_sliceSteps, x_latestPid, x_greatestPid, x_code, x_codeLengths, x_pids, x_parents, x_programs, x_places, x_states, x_statuses, x_stepCounts, x_copyCounts, x_wakeTimes, x_registers, x_pageCounts, x_pageFrames, x_held, x_frameUsers, x_frameWords, x_openHolders, x_openKinds, x_openTargets, x_openPlaces, x_openModes, x_pipeFirsts, x_pipeCounts, x_pipeWords, x_nameFiles, x_fileSizes, x_fileWords, x_safeNames, x_safeSizes, x_safeWords, x_saidInts) (x_changes, x_time, y_last, y_lastPid, y_did, x_greatestPid, x_latestPid, x_saidCount, y_killed, y_ops, y_as, y_bs, x_codeLengths, x_pids, x_parents, x_programs, x_places, x_statuses, x_stepCounts, x_copyCounts, y_pages, y_wake, y_zombie, y_blocked, x_registers, y_memory, y_frame, x_held, y_kind, x_openTargets, y_mode, x_openPlaces, x_pipeCounts, y_pipe, x_nameFiles, y_size, x_fileWords, x_safeNames, y_safeSize, x_safeWords, y_said)) (x_changes, x_time, y_last, y_lastPid, y_did, x_greatestPid, x_latestPid, x_saidCount, y_killed, y_ops, y_as, y_bs, x_codeLengths, x_pids, x_parents, x_programs, x_places, x_statuses, x_stepCounts, x_copyCounts, y_pages, y_wake, y_zombie, y_blocked, x_registers, y_memory, y_frame, x_held, y_kind, x_openTargets, y_mode, x_openPlaces, x_pipeCounts, y_pipe, x_nameFiles, y_size, x_fileWords, x_safeNames, y_safeSize, x_safeWords, y_said) (nI f) v2 := fun a => by
    unfold wpY_word
    refine yk_no 7 rfl (by decide) (fun _ => br_t rfl ⟨hv, ?_⟩) (fun d => absurd hv d)
    rw [nI_clamp (show f < 2 ^ 31 by omega), em]
    exact yk_nom m rfl (by omega) (fun d => absurd d a) (fun _ => br_f (by decide) ⟨rfl, J⟩)
  refine xk_isFree hOk hHo (fun fr => br_f (by decide) (y1 (fun z => ?_))) (fun fr => br_t rfl ?_)
  · have e0 := s2 fr
    rw [em] at e0
    have := (nI_eq (b := 0) (by omega) (by decide)).mp e0
    have := uk_inc z
    omega
  · refine ⟨fun d => y1 (fun z => (not_or.mp z).1 d), fun d => ⟨hv, ?_⟩⟩
    rw [nI_clamp (show f < 2 ^ 31 by omega), s3 fr, em]
    obtain ⟨j, hj, rfl⟩ := nI_of d
    rw [uk_m16, nI_add]
    refine ⟨fun e => ?_, fun e => y1 (fun z => e (by
      have := uk_inc z
      rw [nI_clamp hj] at this
      exact nI_lt this (by omega)))⟩
    have hjm : j < m := (nI_ltI hj (by omega)).mp e
    rw [nI_clamp (show 16 * f + j < 2 ^ 31 by omega)]
    refine ⟨vp_in_nI (by omega) (by decide), ?_⟩
    unfold wpY_word
    refine yk_no 7 rfl (by decide) (fun _ => br_t rfl ⟨hv, ?_⟩) (fun d => absurd hv d)
    rw [nI_clamp (show f < 2 ^ 31 by omega), em]
    refine yk_nom m rfl (by omega) (fun _ => br_t rfl ?_) (fun w => absurd (vp_in_nI hjm (by omega)) w)
    rw [uk_16m, nI_add, nI_clamp (show 16 * f + j < 2 ^ 31 by omega)]
    exact ⟨vp_in_nI (by omega) (by decide), rfl, J⟩
section
variable {x_changes x_saidCount x_time x_lastSlot x_sliceSteps x_latestPid x_greatestPid : Int32} {x_code x_codeLengths x_pids x_parents x_programs x_places x_states x_statuses x_stepCounts x_copyCounts x_wakeTimes x_registers x_pageCounts x_pageFrames x_held x_frameUsers x_frameWords x_openHolders x_openKinds x_openTargets x_openPlaces x_openModes x_pipeFirsts x_pipeCounts x_pipeWords x_nameFiles x_fileSizes x_fileWords x_safeNames x_safeSizes x_safeWords x_saidInts : Nat → Int32} {y_time y_last y_lastPid y_did y_killed : Int32} {y_ops y_as y_bs y_pages y_wake y_zombie y_blocked y_memory y_frame y_kind y_mode y_pipe y_size y_safeSize y_said : Nat → Int32}
theorem yk_total3 {post : Int32 → Prop} (h : post (nI (uk_cn (fun f => uk_fre x_nameFiles y_kind x_openTargets f) 8))) : ∃ m, wY_total_77 post x_changes y_time y_last y_lastPid y_did x_greatestPid x_latestPid x_saidCount y_killed y_ops y_as y_bs x_codeLengths x_pids x_parents x_programs x_places x_statuses x_stepCounts x_copyCounts y_pages y_wake y_zombie y_blocked x_registers y_memory y_frame x_held y_kind x_openTargets y_mode x_openPlaces x_pipeCounts y_pipe x_nameFiles y_size x_fileWords x_safeNames y_safeSize x_safeWords y_said m 0 0 := by
  refine uk_count (fun n i c => wY_total_77 post x_changes y_time y_last y_lastPid y_did x_greatestPid x_latestPid x_saidCount y_killed y_ops y_as y_bs x_codeLengths x_pids x_parents x_programs x_places x_statuses x_stepCounts x_copyCounts y_pages y_wake y_zombie y_blocked x_registers y_memory y_frame x_held y_kind x_openTargets y_mode x_openPlaces x_pipeCounts y_pipe x_nameFiles y_size x_fileWords x_safeNames y_safeSize x_safeWords y_said n c (nI i)) (fun f => uk_fre x_nameFiles y_kind x_openTargets f) 8 (fun n => br_t (uk_refl 8) h) (fun n i c hi ht hf => ?_)
  obtain ⟨z, v, e⟩ := uk_lp 8 hi (by decide)
  exact br_f z (yk_isFree (fun a => br_f (by decide) (nm_r (nI_1 c) (nm_r (nI_1 i) (ht a)))) (fun a => br_t rfl (nm_r (nI_1 i) (hf a))))
theorem yk_total4 {post : Int32 → Prop} (h : post (nI (uk_cn (fun p => ¬ uk_pfr y_kind x_openTargets (nI p)) 4))) : ∃ m, wY_total_104 post x_changes y_time y_last y_lastPid y_did x_greatestPid x_latestPid x_saidCount y_killed y_ops y_as y_bs x_codeLengths x_pids x_parents x_programs x_places x_statuses x_stepCounts x_copyCounts y_pages y_wake y_zombie y_blocked x_registers y_memory y_frame x_held y_kind x_openTargets y_mode x_openPlaces x_pipeCounts y_pipe x_nameFiles y_size x_fileWords x_safeNames y_safeSize x_safeWords y_said m 0 0 := by
  refine uk_count (fun n i c => wY_total_104 post x_changes y_time y_last y_lastPid y_did x_greatestPid x_latestPid x_saidCount y_killed y_ops y_as y_bs x_codeLengths x_pids x_parents x_programs x_places x_statuses x_stepCounts x_copyCounts y_pages y_wake y_zombie y_blocked x_registers y_memory y_frame x_held y_kind x_openTargets y_mode x_openPlaces x_pipeCounts y_pipe x_nameFiles y_size x_fileWords x_safeNames y_safeSize x_safeWords y_said n c (nI i)) (fun p => ¬ uk_pfr y_kind x_openTargets (nI p)) 4 (fun n => br_t (uk_refl 4) h) (fun n i c hi ht hf => ?_)
  obtain ⟨z, v, e⟩ := uk_lp 4 hi (by decide)
  exact br_f z (yk_isPipe (fun a => br_f (by decide) (nm_r (nI_1 c) (nm_r (nI_1 i) (ht a)))) (fun a => br_t rfl (nm_r (nI_1 i) (hf (fun w => w a)))))
end
theorem i_vc_total {k : Nat} {u : SX} {v : SY} (I : i_Rel k u v) (hk : k + 5 ≤ 2560) (v1 : Int32) : wpX_total (fun r => wpY_total (fun r' => r' = r ∧ i_Rel (k + 5) u v) v v1) u v1 := by
  refine i_elim (C := fun u v => i_Rel (k + 5) u v → wpX_total (fun r => wpY_total (fun r' => r' = r ∧ i_Rel (k + 5) u v) v v1) u v1) I ?_ (i_up I)
  intro t b x_changes x_saidCount x_time x_lastSlot x_sliceSteps x_latestPid x_greatestPid x_code x_codeLengths x_pids x_parents x_programs x_places x_states x_statuses x_stepCounts x_copyCounts x_wakeTimes x_registers x_pageCounts x_pageFrames x_held x_frameUsers x_frameWords x_openHolders x_openKinds x_openTargets x_openPlaces x_openModes x_pipeFirsts x_pipeCounts x_pipeWords x_nameFiles x_fileSizes x_fileWords x_safeNames x_safeSizes x_safeWords x_saidInts y_time y_last y_lastPid y_did y_killed y_ops y_as y_bs y_pages y_wake y_zombie y_blocked y_memory y_frame y_kind y_mode y_pipe y_size y_safeSize y_said ht hbt hA J
  have eT := uk_aeT hA
  have hPr := uk_aPr hA
  have hPs := uk_aPs hA
  have hMe := uk_aMe hA
  have hFu := uk_aFu hA
  have hHd := uk_aHd hA
  have hHo := uk_aHo hA
  have hOk := uk_aOk hA
  have hFi := uk_aFi hA
  have hP : ∀ s, s < 8 → ¬ x_pids s < 0 := fun s hs => (hPs s hs).1
  have hN : ∀ s, s < 8 → x_pids s ≠ 0 → ∃ n, n ≤ 8 ∧ y_pages s = nI n := fun s hs hp => by
    obtain ⟨n, h1, _, h3, _⟩ := hMe s hs hp
    exact ⟨n, h1, h3⟩
  have hc1 : uk_cn (fun f => uk_sm (uk_rw x_pids y_pages y_frame f) 8 = 0) 20 = uk_cn (fun f => x_frameUsers f = 0) 20 := uk_cnc 20 (fun f hf => (uk_fun hMe hFu hf).1.symm)
  have hc8 : uk_cn (fun o => ¬ y_kind o ≤ 0) 12 = uk_cn (fun o => ¬ x_openHolders o ≤ 0) 12 := uk_cnc 12 (fun o ho => by
    rw [(uk_ohp hHo ho).2.1]
    rcases (hOk o ho).2 with ⟨a, b⟩ | ⟨a, b, c⟩
    · rw [a, b]; exact ⟨fun z => absurd (by decide) z, fun z => absurd rfl z⟩
    · refine ⟨fun _ => a, fun _ => ?_⟩
      rcases c with c | c | c <;> rw [c.1] <;> decide)
  unfold wpX_total
  refine ⟨fun a => ?_, fun a => ⟨fun b => ?_, fun b => ?_⟩⟩
  · unfold wpY_total
    exact br_t a ⟨rfl, J⟩
  · unfold wpY_total
    exact br_f a (br_t b ⟨rfl, J⟩)
  refine ⟨fun c0 => ?_, fun c0 => ?_⟩
  · refine xk_countProcesses ?_
    unfold wpY_total
    exact br_f a (br_f b (br_t c0 (yk_processes hP ⟨rfl, J⟩)))
  refine ⟨fun c1 => ?_, fun c1 => ?_⟩
  · refine xk_countFreeFrames ?_
    unfold wpY_total
    exact br_f a (br_f b (br_f c0 (br_t c1 (yk_freeFrames hP hN ⟨congrArg nI hc1, J⟩))))
  refine ⟨fun c2 => ?_, fun c2 => ?_⟩
  · refine xk_countFreeBlocks hOk hHo hFi ?_
    unfold wpY_total
    exact br_f a (br_f b (br_f c0 (br_f c1 (br_t c2 (yk_freeBlocks hFi ⟨rfl, J⟩)))))
  refine ⟨fun c3 => ?_, fun c3 => ?_⟩
  · refine xk_countFreeFiles hOk hHo ?_
    unfold wpY_total
    exact br_f a (br_f b (br_f c0 (br_f c1 (br_f c2 (br_t c3 (yk_total3 ⟨rfl, J⟩))))))
  refine ⟨fun c4 => ?_, fun c4 => ?_⟩
  · refine xk_countPipes hOk hHo ?_
    unfold wpY_total
    exact br_f a (br_f b (br_f c0 (br_f c1 (br_f c2 (br_f c3 (br_t c4 (yk_total4 ⟨rfl, J⟩)))))))
  refine ⟨fun c5 => ?_, fun c5 => ?_⟩
  · unfold wpY_total
    exact br_f a (br_f b (br_f c0 (br_f c1 (br_f c2 (br_f c3 (br_f c4 (br_t c5 ⟨rfl, J⟩)))))))
  refine ⟨fun c6 => ?_, fun c6 => ?_⟩
  · unfold wpY_total
    exact br_f a (br_f b (br_f c0 (br_f c1 (br_f c2 (br_f c3 (br_f c4 (br_f c5 (br_t c6 ⟨rfl, J⟩))))))))
  refine ⟨fun c7 => ?_, fun c7 => ?_⟩
  · unfold wpY_total
    exact br_f a (br_f b (br_f c0 (br_f c1 (br_f c2 (br_f c3 (br_f c4 (br_f c5 (br_f c6 (br_t c7 ⟨rfl, J⟩)))))))))
  refine ⟨fun c8 => ?_, fun c8 => ?_⟩
  · refine xk_countOpenFiles ?_
    unfold wpY_total
    exact br_f a (br_f b (br_f c0 (br_f c1 (br_f c2 (br_f c3 (br_f c4 (br_f c5 (br_f c6 (br_f c7 (br_t c8 (yk_opens ⟨congrArg nI hc8, J⟩)))))))))))
  refine ⟨fun c9 => ?_, fun c9 => ?_⟩
  · unfold wpY_total
    exact br_f a (br_f b (br_f c0 (br_f c1 (br_f c2 (br_f c3 (br_f c4 (br_f c5 (br_f c6 (br_f c7 (br_f c8 (br_t c9 ⟨rfl, J⟩)))))))))))
  refine ⟨fun c10 => ?_, fun c10 => ?_⟩
  · unfold wpY_total
    exact br_f a (br_f b (br_f c0 (br_f c1 (br_f c2 (br_f c3 (br_f c4 (br_f c5 (br_f c6 (br_f c7 (br_f c8 (br_f c9 (br_t c10 ⟨rfl, J⟩))))))))))))
  · trivial
