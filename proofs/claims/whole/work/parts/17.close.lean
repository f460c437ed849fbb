/-! a descriptor goes, on both sides -/
section
variable {x_changes x_saidCount x_time x_lastSlot x_sliceSteps x_latestPid x_greatestPid : Int32} {x_code x_codeLengths x_pids x_parents x_programs x_places x_states x_statuses x_stepCounts x_copyCounts x_wakeTimes x_registers x_pageCounts x_pageFrames x_held x_frameUsers x_frameWords x_openHolders x_openKinds x_openTargets x_openPlaces x_openModes x_pipeFirsts x_pipeCounts x_pipeWords x_nameFiles x_fileSizes x_fileWords x_safeNames x_safeSizes x_safeWords x_saidInts : Nat → Int32} {y_time y_last y_lastPid y_did y_killed : Int32} {y_ops y_as y_bs y_pages y_wake y_zombie y_blocked y_reg y_memory y_frame y_kind y_mode y_pipe y_size y_safeSize y_said : Nat → Int32}
theorem xk_letGo {post : SX → Prop} {s d : Nat} (hs : s < 8) (hd : d < 6) (hH : x_held (6 * s + d) = -1 ∨ vp_in (x_held (6 * s + d)) 12) (h0 : x_held (6 * s + d) = -1 → post (x_changes, x_saidCount, x_time, x_lastSlot, x_sliceSteps, x_latestPid, x_greatestPid, x_code, x_codeLengths, x_pids, x_parents, x_programs, x_places, x_states, x_statuses, x_stepCounts, x_copyCounts, x_wakeTimes, x_registers, x_pageCounts, x_pageFrames, x_held, x_frameUsers, x_frameWords, x_openHolders, x_openKinds, x_openTargets, x_openPlaces, x_openModes, x_pipeFirsts, x_pipeCounts, x_pipeWords, x_nameFiles, x_fileSizes, x_fileWords, x_safeNames, x_safeSizes, x_safeWords, x_saidInts)) (h1 : ∀ o, o < 12 → x_held (6 * s + d) = nI o → post (x_changes, x_saidCount, x_time, x_lastSlot, x_sliceSteps, x_latestPid, x_greatestPid, x_code, x_codeLengths, x_pids, x_parents, x_programs, x_places, x_states, x_statuses, x_stepCounts, x_copyCounts, x_wakeTimes, x_registers, x_pageCounts, x_pageFrames, upd x_held (6 * s + d) (-1), x_frameUsers, x_frameWords, upd x_openHolders o (x_openHolders o - 1), x_openKinds, x_openTargets, x_openPlaces, x_openModes, x_pipeFirsts, x_pipeCounts, x_pipeWords, x_nameFiles, x_fileSizes, x_fileWords, x_safeNames, x_safeSizes, x_safeWords, x_saidInts)) : wpX_letGo post (x_changes, x_saidCount, x_time, x_lastSlot, x_sliceSteps, x_latestPid, x_greatestPid, x_code, x_codeLengths, x_pids, x_parents, x_programs, x_places, x_states, x_statuses, x_stepCounts, x_copyCounts, x_wakeTimes, x_registers, x_pageCounts, x_pageFrames, x_held, x_frameUsers, x_frameWords, x_openHolders, x_openKinds, x_openTargets, x_openPlaces, x_openModes, x_pipeFirsts, x_pipeCounts, x_pipeWords, x_nameFiles, x_fileSizes, x_fileWords, x_safeNames, x_safeSizes, x_safeWords, x_saidInts) (nI s) (nI d) := by
  unfold wpX_letGo
  rw [uk_m6, nI_add, nI_clamp (show 6 * s + d < 2 ^ 31 by omega)]
  have v : vp_in (nI (6 * s + d)) 48 := vp_in_nI (by omega) (by decide)
  refine ⟨v, ?_⟩
  rcases hH with e | e
  · rw [e]
    exact nm_e (br_t rfl (h0 e))
  · obtain ⟨o, ho, eo⟩ := vp_in_of e (by decide)
    rw [eo]
    have vo : vp_in (nI o) 12 := vp_in_nI ho (by decide)
    refine nm_e (br_f (uk_ne1 (by omega)) ⟨vo, vo, ?_⟩)
    rw [nI_clamp (show o < 2 ^ 31 by omega)]
    exact nm_e ⟨v, nm_e (h1 o ho eo)⟩
theorem yk_release {post : SY → Prop} {f : Nat} (hf8 : f < 8) (h1 : uk_fre x_nameFiles y_kind x_openTargets f → post (x_changes, y_time, y_last, y_lastPid, y_did, x_greatestPid, x_latestPid, x_saidCount, y_killed, y_ops, y_as, y_bs, x_codeLengths, x_pids, x_parents, x_programs, x_places, x_statuses, x_stepCounts, x_copyCounts, y_pages, y_wake, y_zombie, y_blocked, y_reg, y_memory, y_frame, x_held, y_kind, x_openTargets, y_mode, x_openPlaces, x_pipeCounts, y_pipe, x_nameFiles, upd y_size f 0, x_fileWords, x_safeNames, y_safeSize, x_safeWords, y_said)) (h0 : ¬ uk_fre x_nameFiles y_kind x_openTargets f → post (x_changes, y_time, y_last, y_lastPid, y_did, x_greatestPid, x_latestPid, x_saidCount, y_killed, y_ops, y_as, y_bs, x_codeLengths, x_pids, x_parents, x_programs, x_places, x_statuses, x_stepCounts, x_copyCounts, y_pages, y_wake, y_zombie, y_blocked, y_reg, y_memory, y_frame, x_held, y_kind, x_openTargets, y_mode, x_openPlaces, x_pipeCounts, y_pipe, x_nameFiles, y_size, x_fileWords, x_safeNames, y_safeSize, x_safeWords, y_said)) : wpY_release post (x_changes, y_time, y_last, y_lastPid, y_did, x_greatestPid, x_latestPid, x_saidCount, y_killed, y_ops, y_as, y_bs, x_codeLengths, x_pids, x_parents, x_programs, x_places, x_statuses, x_stepCounts, x_copyCounts, y_pages, y_wake, y_zombie, y_blocked, y_reg, y_memory, y_frame, x_held, y_kind, x_openTargets, y_mode, x_openPlaces, x_pipeCounts, y_pipe, x_nameFiles, y_size, x_fileWords, x_safeNames, y_safeSize, x_safeWords, y_said) (nI f) := by
  unfold wpY_release
  refine yk_isFree (fun a => br_f (by decide) ⟨vp_in_nI hf8 (by decide), ?_⟩) (fun a => br_t rfl (h0 a))
  rw [nI_clamp (show f < 2 ^ 31 by omega)]
  exact nm_e (h1 a)
theorem yk_close {post : SY → Prop} {s d : Nat} (hs : s < 8) (hd : d < 6) (hP : ∀ s, s < 8 → ¬ x_pids s < 0) (hH : x_held (6 * s + d) = -1 ∨ vp_in (x_held (6 * s + d)) 12) (hT : ∀ o, o < 12 → y_kind o = 1 → x_held (6 * s + d) = nI o → vp_in (x_openTargets o) 8)
  (h0 : x_held (6 * s + d) = -1 → post (x_changes, y_time, y_last, y_lastPid, y_did, x_greatestPid, x_latestPid, x_saidCount, y_killed, y_ops, y_as, y_bs, x_codeLengths, x_pids, x_parents, x_programs, x_places, x_statuses, x_stepCounts, x_copyCounts, y_pages, y_wake, y_zombie, y_blocked, y_reg, y_memory, y_frame, upd x_held (6 * s + d) (-1), y_kind, x_openTargets, y_mode, x_openPlaces, x_pipeCounts, y_pipe, x_nameFiles, y_size, x_fileWords, x_safeNames, y_safeSize, x_safeWords, y_said))
  (h1 : ∀ o, o < 12 → x_held (6 * s + d) = nI o → uk_sm (uk_hw x_pids y_zombie (upd x_held (6 * s + d) (-1)) o) 8 ≠ 0 → post (x_changes, y_time, y_last, y_lastPid, y_did, x_greatestPid, x_latestPid, x_saidCount, y_killed, y_ops, y_as, y_bs, x_codeLengths, x_pids, x_parents, x_programs, x_places, x_statuses, x_stepCounts, x_copyCounts, y_pages, y_wake, y_zombie, y_blocked, y_reg, y_memory, y_frame, upd x_held (6 * s + d) (-1), y_kind, x_openTargets, y_mode, x_openPlaces, x_pipeCounts, y_pipe, x_nameFiles, y_size, x_fileWords, x_safeNames, y_safeSize, x_safeWords, y_said))
  (h2 : ∀ o, o < 12 → x_held (6 * s + d) = nI o → uk_sm (uk_hw x_pids y_zombie (upd x_held (6 * s + d) (-1)) o) 8 = 0 → y_kind o ≠ 1 → post (x_changes, y_time, y_last, y_lastPid, y_did, x_greatestPid, x_latestPid, x_saidCount, y_killed, y_ops, y_as, y_bs, x_codeLengths, x_pids, x_parents, x_programs, x_places, x_statuses, x_stepCounts, x_copyCounts, y_pages, y_wake, y_zombie, y_blocked, y_reg, y_memory, y_frame, upd x_held (6 * s + d) (-1), upd y_kind o 0, x_openTargets, y_mode, x_openPlaces, x_pipeCounts, y_pipe, x_nameFiles, y_size, x_fileWords, x_safeNames, y_safeSize, x_safeWords, y_said))
  (h3 : ∀ o f, o < 12 → f < 8 → x_held (6 * s + d) = nI o → uk_sm (uk_hw x_pids y_zombie (upd x_held (6 * s + d) (-1)) o) 8 = 0 → y_kind o = 1 → x_openTargets o = nI f → uk_fre x_nameFiles (upd y_kind o 0) x_openTargets f → post (x_changes, y_time, y_last, y_lastPid, y_did, x_greatestPid, x_latestPid, x_saidCount, y_killed, y_ops, y_as, y_bs, x_codeLengths, x_pids, x_parents, x_programs, x_places, x_statuses, x_stepCounts, x_copyCounts, y_pages, y_wake, y_zombie, y_blocked, y_reg, y_memory, y_frame, upd x_held (6 * s + d) (-1), upd y_kind o 0, x_openTargets, y_mode, x_openPlaces, x_pipeCounts, y_pipe, x_nameFiles, upd y_size f 0, x_fileWords, x_safeNames, y_safeSize, x_safeWords, y_said))
  (h4 : ∀ o f, o < 12 → f < 8 → x_held (6 * s + d) = nI o → uk_sm (uk_hw x_pids y_zombie (upd x_held (6 * s + d) (-1)) o) 8 = 0 → y_kind o = 1 → x_openTargets o = nI f → ¬ uk_fre x_nameFiles (upd y_kind o 0) x_openTargets f → post (x_changes, y_time, y_last, y_lastPid, y_did, x_greatestPid, x_latestPid, x_saidCount, y_killed, y_ops, y_as, y_bs, x_codeLengths, x_pids, x_parents, x_programs, x_places, x_statuses, x_stepCounts, x_copyCounts, y_pages, y_wake, y_zombie, y_blocked, y_reg, y_memory, y_frame, upd x_held (6 * s + d) (-1), upd y_kind o 0, x_openTargets, y_mode, x_openPlaces, x_pipeCounts, y_pipe, x_nameFiles, y_size, x_fileWords, x_safeNames, y_safeSize, x_safeWords, y_said))
  : wpY_close post (x_changes, y_time, y_last, y_lastPid, y_did, x_greatestPid, x_latestPid, x_saidCount, y_killed, y_ops, y_as, y_bs, x_codeLengths, x_pids, x_parents, x_programs, x_places, x_statuses, x_stepCounts, x_copyCounts, y_pages, y_wake, y_zombie, y_blocked, y_reg, y_memory, y_frame, x_held, y_kind, x_openTargets, y_mode, x_openPlaces, x_pipeCounts, y_pipe, x_nameFiles, y_size, x_fileWords, x_safeNames, y_safeSize, x_safeWords, y_said) (nI s) (nI d) := by
  unfold wpY_close
  rw [uk_6m, nI_add, nI_clamp (show 6 * s + d < 2 ^ 31 by omega)]
  have v : vp_in (nI (6 * s + d)) 48 := vp_in_nI (by omega) (by decide)
  refine ⟨v, ?_⟩
  rcases hH with e | e
  · have h0' := h0 e
    rw [e]
    exact nm_e ⟨v, nm_e (br_t (by decide) h0')⟩
  · obtain ⟨o, ho, eo⟩ := vp_in_of e (by decide)
    have vo : vp_in (nI o) 12 := vp_in_nI ho (by decide)
    have k1 := h1 o ho eo
    have k2 := h2 o ho eo
    have k3 := fun f hf => h3 o f ho hf eo
    have k4 := fun f hf => h4 o f ho hf eo
    have kT := hT o ho
    rw [eo]
    refine nm_e ⟨v, nm_e (br_f (nI_pos (by omega)) (yk_holders hP ?_))⟩
    have hle := uk_hsle x_pids y_zombie (upd x_held (6 * s + d) (-1)) o
    refine ⟨fun z => ⟨vo, ?_⟩, fun z => k1 (fun w => z (by rw [w]; rfl))⟩
    have z0 := uk_nIn (b := 0) (by omega) (by decide) z
    rw [nI_clamp (show o < 2 ^ 31 by omega)]
    refine ⟨fun a => ⟨vo, ?_⟩, fun a => ⟨vo, ?_⟩⟩
    · obtain ⟨f, hf, ef⟩ := vp_in_of (kT a eo) (by decide)
      unfold wY_close_56
      rw [nI_clamp (show o < 2 ^ 31 by omega), ef]
      refine ⟨vo, nm_e (br_f (nI_pos (by omega)) (yk_release hf (fun b => k3 f hf z0 a ef b) (fun b => k4 f hf z0 a ef b)))⟩
    · rw [nI_clamp (show o < 2 ^ 31 by omega)]
      exact nm_e (br_t (by decide) (k2 z0 a))
/-- one descriptor of s goes on both sides -/
theorem uk_go1 {zo1 : Nat → Int32} {t s d : Nat} (hs : s < 8) (hd : d < 6) (hp : x_pids s ≠ 0) (hz : y_zombie s = 0) (hP : ∀ s, s < 8 → ¬ x_pids s < 0) (hHd : uk_Hd x_pids y_zombie x_held) (hHo : uk_Ho x_pids y_zombie x_held x_openHolders) (hOk : uk_Ok x_openHolders x_openKinds y_kind x_openTargets x_openModes y_mode x_openPlaces) (hFi : uk_Fi x_nameFiles y_kind x_openTargets x_fileSizes y_size) (hWk : uk_Wk x_pids zo1 y_blocked x_programs x_places x_codeLengths y_ops y_bs x_wakeTimes y_wake x_registers x_held y_kind t) (hzo : ∀ s', s' < 8 → s' ≠ s → zo1 s' = 0 → y_zombie s' = 0) (hs1 : zo1 s = 0 → y_blocked s = 0 ∧ x_wakeTimes s = 0 ∧ y_wake s = -1) :
  ∃ oh' ki' sz', uk_Hd x_pids y_zombie (upd x_held (6 * s + d) (-1)) ∧ uk_Ho x_pids y_zombie (upd x_held (6 * s + d) (-1)) oh' ∧ uk_Ok oh' x_openKinds ki' x_openTargets x_openModes y_mode x_openPlaces ∧ uk_Fi x_nameFiles ki' x_openTargets x_fileSizes sz' ∧ uk_Wk x_pids zo1 y_blocked x_programs x_places x_codeLengths y_ops y_bs x_wakeTimes y_wake x_registers (upd x_held (6 * s + d) (-1)) ki' t ∧
  (∀ post, post (x_changes, x_saidCount, x_time, x_lastSlot, x_sliceSteps, x_latestPid, x_greatestPid, x_code, x_codeLengths, x_pids, x_parents, x_programs, x_places, x_states, x_statuses, x_stepCounts, x_copyCounts, x_wakeTimes, x_registers, x_pageCounts, x_pageFrames, upd x_held (6 * s + d) (-1), x_frameUsers, x_frameWords, oh', x_openKinds, x_openTargets, x_openPlaces, x_openModes, x_pipeFirsts, x_pipeCounts, x_pipeWords, x_nameFiles, x_fileSizes, x_fileWords, x_safeNames, x_safeSizes, x_safeWords, x_saidInts) → wpX_letGo post (x_changes, x_saidCount, x_time, x_lastSlot, x_sliceSteps, x_latestPid, x_greatestPid, x_code, x_codeLengths, x_pids, x_parents, x_programs, x_places, x_states, x_statuses, x_stepCounts, x_copyCounts, x_wakeTimes, x_registers, x_pageCounts, x_pageFrames, x_held, x_frameUsers, x_frameWords, x_openHolders, x_openKinds, x_openTargets, x_openPlaces, x_openModes, x_pipeFirsts, x_pipeCounts, x_pipeWords, x_nameFiles, x_fileSizes, x_fileWords, x_safeNames, x_safeSizes, x_safeWords, x_saidInts) (nI s) (nI d)) ∧ (∀ post, post (x_changes, y_time, y_last, y_lastPid, y_did, x_greatestPid, x_latestPid, x_saidCount, y_killed, y_ops, y_as, y_bs, x_codeLengths, x_pids, x_parents, x_programs, x_places, x_statuses, x_stepCounts, x_copyCounts, y_pages, y_wake, y_zombie, y_blocked, y_reg, y_memory, y_frame, upd x_held (6 * s + d) (-1), ki', x_openTargets, y_mode, x_openPlaces, x_pipeCounts, y_pipe, x_nameFiles, sz', x_fileWords, x_safeNames, y_safeSize, x_safeWords, y_said) → wpY_close post (x_changes, y_time, y_last, y_lastPid, y_did, x_greatestPid, x_latestPid, x_saidCount, y_killed, y_ops, y_as, y_bs, x_codeLengths, x_pids, x_parents, x_programs, x_places, x_statuses, x_stepCounts, x_copyCounts, y_pages, y_wake, y_zombie, y_blocked, y_reg, y_memory, y_frame, x_held, y_kind, x_openTargets, y_mode, x_openPlaces, x_pipeCounts, y_pipe, x_nameFiles, y_size, x_fileWords, x_safeNames, y_safeSize, x_safeWords, y_said) (nI s) (nI d)) := by
  have hH := hHd s hs hp hz d hd
  have hHd' : uk_Hd x_pids y_zombie (upd x_held (6 * s + d) (-1)) := uk_HdU hHd (Or.inl rfl)
  have hT : ∀ o, o < 12 → y_kind o = 1 → x_held (6 * s + d) = nI o → vp_in (x_openTargets o) 8 := fun o ho k e => by
    rcases (uk_hk hHo hOk hs hp hz hd ho e).2.2 with c | c | c
    · exact c.2.2.2
    · exact absurd (k.symm.trans c.1) (by decide)
    · exact absurd (k.symm.trans c.1) (by decide)
  rcases hH with e | e
  · have eu : upd x_held (6 * s + d) (-1) = x_held := by rw [← e]; exact uk_uself _ _
    refine ⟨x_openHolders, y_kind, y_size, hHd', by rw [eu]; exact hHo, hOk, hFi, by rw [eu]; exact hWk, fun post h => ?_, fun post h => ?_⟩
    · rw [eu] at h
      exact xk_letGo hs hd (Or.inl e) (fun _ => h) (fun o ho z => absurd (z.symm.trans e) (uk_ne1 (by omega)))
    · have hno : ∀ o, o < 12 → ¬ x_held (6 * s + d) = nI o := fun o ho z => absurd (z.symm.trans e) (uk_ne1 (by omega))
      exact yk_close hs hd hP (Or.inl e) hT (fun _ => h) (fun o ho z => absurd z (hno o ho)) (fun o ho z => absurd z (hno o ho)) (fun o _ ho _ z => absurd z (hno o ho)) (fun o _ ho _ z => absurd z (hno o ho))
  · obtain ⟨o, ho, eo⟩ := vp_in_of e (by decide)
    have hu : ∀ o', o' < 12 → x_held (6 * s + d) = nI o' → o' = o := fun o' ho' z => uk_nIn (by omega) (by omega) (z.symm.trans eo)
    have nn : ¬ x_held (6 * s + d) = -1 := fun z => uk_ne1 (n := o) (by omega) (eo.symm.trans z)
    have hX : ∀ post : SX → Prop, post (x_changes, x_saidCount, x_time, x_lastSlot, x_sliceSteps, x_latestPid, x_greatestPid, x_code, x_codeLengths, x_pids, x_parents, x_programs, x_places, x_states, x_statuses, x_stepCounts, x_copyCounts, x_wakeTimes, x_registers, x_pageCounts, x_pageFrames, upd x_held (6 * s + d) (-1), x_frameUsers, x_frameWords, upd x_openHolders o (x_openHolders o - 1), x_openKinds, x_openTargets, x_openPlaces, x_openModes, x_pipeFirsts, x_pipeCounts, x_pipeWords, x_nameFiles, x_fileSizes, x_fileWords, x_safeNames, x_safeSizes, x_safeWords, x_saidInts) → wpX_letGo post (x_changes, x_saidCount, x_time, x_lastSlot, x_sliceSteps, x_latestPid, x_greatestPid, x_code, x_codeLengths, x_pids, x_parents, x_programs, x_places, x_states, x_statuses, x_stepCounts, x_copyCounts, x_wakeTimes, x_registers, x_pageCounts, x_pageFrames, x_held, x_frameUsers, x_frameWords, x_openHolders, x_openKinds, x_openTargets, x_openPlaces, x_openModes, x_pipeFirsts, x_pipeCounts, x_pipeWords, x_nameFiles, x_fileSizes, x_fileWords, x_safeNames, x_safeSizes, x_safeWords, x_saidInts) (nI s) (nI d) := fun post h => xk_letGo hs hd (Or.inr e) (fun z => absurd z nn) (fun o' ho' z => by
      have := hu o' ho' z
      subst this
      exact h)
    have hHo' := uk_cl_Ho hHo hs hp hz hd ho eo
    by_cases hn : uk_sm (uk_hw x_pids y_zombie (upd x_held (6 * s + d) (-1)) o) 8 = 0
    · have hOk' := uk_cl_Ok0 hOk hHo hs hp hz hd ho eo hn
      have hWk' := uk_cl_Wk (zo := y_zombie) (ki' := upd y_kind o 0) hWk hd hzo hs1 (fun o' z => pk_un z) (Or.inl hn)
      by_cases hk : y_kind o = 1
      · obtain ⟨f, hf, ef⟩ := vp_in_of (hT o ho hk eo) (by decide)
        by_cases hfr : uk_fre x_nameFiles (upd y_kind o 0) x_openTargets f
        · refine ⟨_, _, _, hHd', hHo', hOk', uk_cl_Fi3 hFi hf ef hfr, hWk', hX, fun post h => ?_⟩
          exact yk_close hs hd hP (Or.inr e) hT (fun z => absurd z nn) (fun o' ho' z w => by
              have := hu o' ho' z
              subst this
              exact absurd hn w) (fun o' ho' z _ w => by
              have := hu o' ho' z
              subst this
              exact absurd hk w) (fun o' f' ho' hf' z _ _ w _ => by
              have := hu o' ho' z
              subst this
              have := uk_nIn (by omega) (by omega) (w.symm.trans ef)
              subst this
              exact h) (fun o' f' ho' hf' z _ _ w y => by
              have := hu o' ho' z
              subst this
              have := uk_nIn (by omega) (by omega) (w.symm.trans ef)
              subst this
              exact absurd hfr y)
        · refine ⟨_, _, _, hHd', hHo', hOk', uk_cl_Fi2 hFi hf ef hfr ho hk, hWk', hX, fun post h => ?_⟩
          exact yk_close hs hd hP (Or.inr e) hT (fun z => absurd z nn) (fun o' ho' z w => by
              have := hu o' ho' z
              subst this
              exact absurd hn w) (fun o' ho' z _ w => by
              have := hu o' ho' z
              subst this
              exact absurd hk w) (fun o' f' ho' hf' z _ _ w y => by
              have := hu o' ho' z
              subst this
              have := uk_nIn (by omega) (by omega) (w.symm.trans ef)
              subst this
              exact absurd y hfr) (fun o' f' ho' hf' z _ _ w _ => by
              have := hu o' ho' z
              subst this
              exact h)
      · refine ⟨_, _, _, hHd', hHo', hOk', uk_cl_Fi1 hFi hk, hWk', hX, fun post h => ?_⟩
        exact yk_close hs hd hP (Or.inr e) hT (fun z => absurd z nn) (fun o' ho' z w => by
            have := hu o' ho' z
            subst this
            exact absurd hn w) (fun o' ho' z _ _ => by
            have := hu o' ho' z
            subst this
            exact h) (fun o' _ ho' _ z _ w _ _ => by
            have := hu o' ho' z
            subst this
            exact absurd w hk) (fun o' _ ho' _ z _ w _ _ => by
            have := hu o' ho' z
            subst this
            exact absurd w hk)
    · have hOk' := uk_cl_Ok1 hOk hHo hs hp hz hd ho eo hn
      have hWk' := uk_cl_Wk (zo := y_zombie) (ki' := y_kind) (o := o) hWk hd hzo hs1 (fun _ _ => rfl) (Or.inr rfl)
      refine ⟨_, y_kind, y_size, hHd', hHo', hOk', hFi, hWk', hX, fun post h => ?_⟩
      exact yk_close hs hd hP (Or.inr e) hT (fun z => absurd z nn) (fun o' ho' z _ => h) (fun o' ho' z w => by
          have := hu o' ho' z
          subst this
          exact absurd w hn) (fun o' _ ho' _ z w => by
          have := hu o' ho' z
          subst this
          exact absurd w hn) (fun o' _ ho' _ z w => by
          have := hu o' ho' z
          subst this
          exact absurd w hn)
end
