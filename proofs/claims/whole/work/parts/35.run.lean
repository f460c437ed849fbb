/-! the skip of time, and run -/
noncomputable def uk_sk (Z : Nat → Prop) (w : Nat → Int32) : Nat → Int32
  | 0 => -1
  | n + 1 => @ite Int32 (Z n ∧ (uk_sk Z w n = -1 ∨ ¬ uk_sk Z w n ≤ w n)) (Classical.propDecidable _) (w n) (uk_sk Z w n)
theorem uk_skt {Z : Nat → Prop} {w : Nat → Int32} {n : Nat} (h : Z n ∧ (uk_sk Z w n = -1 ∨ ¬ uk_sk Z w n ≤ w n)) : uk_sk Z w (n + 1) = w n := if_pos h
theorem uk_skf {Z : Nat → Prop} {w : Nat → Int32} {n : Nat} (h : ¬ (Z n ∧ (uk_sk Z w n = -1 ∨ ¬ uk_sk Z w n ≤ w n))) : uk_sk Z w (n + 1) = uk_sk Z w n := if_neg h
theorem uk_sks (Z : Nat → Prop) (w : Nat → Int32) : ∀ n, (uk_sk Z w n = -1 ∧ ∀ i, i < n → ¬ Z i) ∨ (∃ i, i < n ∧ Z i ∧ uk_sk Z w n = w i)
  | 0 => Or.inl ⟨rfl, fun i hi => by omega⟩
  | n + 1 => by
    by_cases h : Z n ∧ (uk_sk Z w n = -1 ∨ ¬ uk_sk Z w n ≤ w n)
    · rw [uk_skt h]; exact Or.inr ⟨n, by omega, h.1, rfl⟩
    · rw [uk_skf h]
      rcases uk_sks Z w n with ⟨a, b⟩ | ⟨i, hi, a, b⟩
      · refine Or.inl ⟨a, fun i hi z => ?_⟩
        by_cases e : i = n
        · subst e; exact h ⟨z, Or.inl a⟩
        · exact b i (by omega) z
      · exact Or.inr ⟨i, by omega, a, b⟩
section
variable {x_changes x_saidCount x_time x_lastSlot x_sliceSteps x_latestPid x_greatestPid : Int32} {x_code x_codeLengths x_pids x_parents x_programs x_places x_states x_statuses x_stepCounts x_copyCounts x_wakeTimes x_registers x_pageCounts x_pageFrames x_held x_frameUsers x_frameWords x_openHolders x_openKinds x_openTargets x_openPlaces x_openModes x_pipeFirsts x_pipeCounts x_pipeWords x_nameFiles x_fileSizes x_fileWords x_safeNames x_safeSizes x_safeWords x_saidInts : Nat → Int32} {y_time y_last y_lastPid y_did y_killed : Int32} {y_ops y_as y_bs y_pages y_wake y_zombie y_blocked y_memory y_frame y_kind y_mode y_pipe y_size y_safeSize y_said : Nat → Int32}
theorem xk_skip {post : Int32 → SX → Prop} {Z : Nat → Prop} (hw : ∀ i, i < 8 → Z i → x_wakeTimes i = y_wake i ∧ 0 ≤ y_wake i) (hZ : ∀ i, i < 8 → (Z i ↔ (x_pids i ≠ 0 ∧ x_states i = 2 ∧ ¬ x_wakeTimes i ≤ x_time))) (h0 : uk_sk Z y_wake 8 = -1 → post 0 (x_changes, x_saidCount, x_time, x_lastSlot, x_sliceSteps, x_latestPid, x_greatestPid, x_code, x_codeLengths, x_pids, x_parents, x_programs, x_places, x_states, x_statuses, x_stepCounts, x_copyCounts, x_wakeTimes, x_registers, x_pageCounts, x_pageFrames, x_held, x_frameUsers, x_frameWords, x_openHolders, x_openKinds, x_openTargets, x_openPlaces, x_openModes, x_pipeFirsts, x_pipeCounts, x_pipeWords, x_nameFiles, x_fileSizes, x_fileWords, x_safeNames, x_safeSizes, x_safeWords, x_saidInts)) (h1 : uk_sk Z y_wake 8 ≠ -1 → post 1 (x_changes, x_saidCount, uk_sk Z y_wake 8, x_lastSlot, x_sliceSteps, x_latestPid, x_greatestPid, x_code, x_codeLengths, x_pids, x_parents, x_programs, x_places, x_states, x_statuses, x_stepCounts, x_copyCounts, x_wakeTimes, x_registers, x_pageCounts, x_pageFrames, x_held, x_frameUsers, x_frameWords, x_openHolders, x_openKinds, x_openTargets, x_openPlaces, x_openModes, x_pipeFirsts, x_pipeCounts, x_pipeWords, x_nameFiles, x_fileSizes, x_fileWords, x_safeNames, x_safeSizes, x_safeWords, x_saidInts)) : wpX_skipToWake post (x_changes, x_saidCount, x_time, x_lastSlot, x_sliceSteps, x_latestPid, x_greatestPid, x_code, x_codeLengths, x_pids, x_parents, x_programs, x_places, x_states, x_statuses, x_stepCounts, x_copyCounts, x_wakeTimes, x_registers, x_pageCounts, x_pageFrames, x_held, x_frameUsers, x_frameWords, x_openHolders, x_openKinds, x_openTargets, x_openPlaces, x_openModes, x_pipeFirsts, x_pipeCounts, x_pipeWords, x_nameFiles, x_fileSizes, x_fileWords, x_safeNames, x_safeSizes, x_safeWords, x_saidInts) := by
  unfold wpX_skipToWake
  refine uk_run0 (fun m i (x : Int32) => wX_skipToWake_4 post x_changes x_saidCount x_time x_lastSlot x_sliceSteps x_latestPid x_greatestPid x_code x_codeLengths x_pids x_parents x_programs x_places x_states x_statuses x_stepCounts x_copyCounts x_wakeTimes x_registers x_pageCounts x_pageFrames x_held x_frameUsers x_frameWords x_openHolders x_openKinds x_openTargets x_openPlaces x_openModes x_pipeFirsts x_pipeCounts x_pipeWords x_nameFiles x_fileSizes x_fileWords x_safeNames x_safeSizes x_safeWords x_saidInts m x (nI i)) (fun i => uk_sk Z y_wake i) 8 (fun m => br_t (uk_refl 8) ⟨h0, h1⟩) (fun m i hi ih => ?_)
  obtain ⟨z, v, e⟩ := uk_lp 8 hi (by decide)
  have skip : ¬ Z i → wX_skipToWake_46 post (wX_skipToWake_4 post x_changes x_saidCount x_time x_lastSlot x_sliceSteps x_latestPid x_greatestPid x_code x_codeLengths x_pids x_parents x_programs x_places x_states x_statuses x_stepCounts x_copyCounts x_wakeTimes x_registers x_pageCounts x_pageFrames x_held x_frameUsers x_frameWords x_openHolders x_openKinds x_openTargets x_openPlaces x_openModes x_pipeFirsts x_pipeCounts x_pipeWords x_nameFiles x_fileSizes x_fileWords x_safeNames x_safeSizes x_safeWords x_saidInts m) (uk_sk Z y_wake i) (nI i) x_changes x_saidCount x_time x_lastSlot x_sliceSteps x_latestPid x_greatestPid x_code x_codeLengths x_pids x_parents x_programs x_places x_states x_statuses x_stepCounts x_copyCounts x_wakeTimes x_registers x_pageCounts x_pageFrames x_held x_frameUsers x_frameWords x_openHolders x_openKinds x_openTargets x_openPlaces x_openModes x_pipeFirsts x_pipeCounts x_pipeWords x_nameFiles x_fileSizes x_fileWords x_safeNames x_safeSizes x_safeWords x_saidInts := fun hn => by
    rw [uk_skf (fun q => hn q.1)] at ih
    unfold wX_skipToWake_46 wX_skipToWake_47
    exact br_t rfl (nm_r (nI_1 i) ih)
  have take : Z i → wX_skipToWake_47 post (wX_skipToWake_4 post x_changes x_saidCount x_time x_lastSlot x_sliceSteps x_latestPid x_greatestPid x_code x_codeLengths x_pids x_parents x_programs x_places x_states x_statuses x_stepCounts x_copyCounts x_wakeTimes x_registers x_pageCounts x_pageFrames x_held x_frameUsers x_frameWords x_openHolders x_openKinds x_openTargets x_openPlaces x_openModes x_pipeFirsts x_pipeCounts x_pipeWords x_nameFiles x_fileSizes x_fileWords x_safeNames x_safeSizes x_safeWords x_saidInts m) (uk_sk Z y_wake i) (nI i) 1 x_changes x_saidCount x_time x_lastSlot x_sliceSteps x_latestPid x_greatestPid x_code x_codeLengths x_pids x_parents x_programs x_places x_states x_statuses x_stepCounts x_copyCounts x_wakeTimes x_registers x_pageCounts x_pageFrames x_held x_frameUsers x_frameWords x_openHolders x_openKinds x_openTargets x_openPlaces x_openModes x_pipeFirsts x_pipeCounts x_pipeWords x_nameFiles x_fileSizes x_fileWords x_safeNames x_safeSizes x_safeWords x_saidInts := fun hz => by
    unfold wX_skipToWake_47
    rw [e, (hw i hi hz).1]
    refine br_f (by decide) ⟨fun a => ⟨v, ?_⟩, fun a => ⟨v, fun b => ?_, fun b => ⟨v, ?_⟩⟩⟩
    · rw [uk_skt ⟨hz, Or.inl a⟩] at ih
      exact nm_e (nm_r (nI_1 i) ih)
    · rw [uk_skf (fun q => by
        rcases q.2 with q | q
        · exact a q
        · exact q b)] at ih
      exact nm_r (nI_1 i) ih
    · rw [uk_skt ⟨hz, Or.inr b⟩] at ih
      exact nm_e (nm_r (nI_1 i) ih)
  refine br_f z ⟨v, ?_⟩
  rw [e]
  exact ⟨fun a => skip (fun q => ((hZ i hi).mp q).1 a), fun a => ⟨v, fun b => ⟨v, fun c => skip (fun q => ((hZ i hi).mp q).2.2 c), fun c => take ((hZ i hi).mpr ⟨a, b, c⟩)⟩, fun b => skip (fun q => b ((hZ i hi).mp q).2.1)⟩⟩
theorem yk_wake {post : Int32 → Prop} {Z : Nat → Prop} (hw : ∀ i, i < 8 → Z i → 0 ≤ y_wake i) (hZ : ∀ i, i < 8 → (Z i ↔ (x_pids i ≠ 0 ∧ y_zombie i = 0 ∧ y_blocked i ≠ 0 ∧ 0 ≤ y_wake i))) (h : post (uk_sk Z y_wake 8)) : wpY_waking post (x_changes, y_time, y_last, y_lastPid, y_did, x_greatestPid, x_latestPid, x_saidCount, y_killed, y_ops, y_as, y_bs, x_codeLengths, x_pids, x_parents, x_programs, x_places, x_statuses, x_stepCounts, x_copyCounts, y_pages, y_wake, y_zombie, y_blocked, x_registers, y_memory, y_frame, x_held, y_kind, x_openTargets, y_mode, x_openPlaces, x_pipeCounts, y_pipe, x_nameFiles, y_size, x_fileWords, x_safeNames, y_safeSize, x_safeWords, y_said) := by
  unfold wpY_waking
  refine uk_run0 (fun m i (x : Int32) => wY_waking_4 post x_changes y_time y_last y_lastPid y_did x_greatestPid x_latestPid x_saidCount y_killed y_ops y_as y_bs x_codeLengths x_pids x_parents x_programs x_places x_statuses x_stepCounts x_copyCounts y_pages y_wake y_zombie y_blocked x_registers y_memory y_frame x_held y_kind x_openTargets y_mode x_openPlaces x_pipeCounts y_pipe x_nameFiles y_size x_fileWords x_safeNames y_safeSize x_safeWords y_said m x (nI i)) (fun i => uk_sk Z y_wake i) 8 (fun m => br_t (uk_refl 8) h) (fun m i hi ih => ?_)
  obtain ⟨z, v, e⟩ := uk_lp 8 hi (by decide)
  have skip : ¬ Z i → ∀ x : Int32, x = nI i + 1 → wY_waking_4 post x_changes y_time y_last y_lastPid y_did x_greatestPid x_latestPid x_saidCount y_killed y_ops y_as y_bs x_codeLengths x_pids x_parents x_programs x_places x_statuses x_stepCounts x_copyCounts y_pages y_wake y_zombie y_blocked x_registers y_memory y_frame x_held y_kind x_openTargets y_mode x_openPlaces x_pipeCounts y_pipe x_nameFiles y_size x_fileWords x_safeNames y_safeSize x_safeWords y_said m (uk_sk Z y_wake i) x := fun hn => by
    rw [uk_skf (fun q => hn q.1)] at ih
    exact nm_r (nI_1 i) ih
  have neg : uk_sk Z y_wake i < 0 ↔ uk_sk Z y_wake i = -1 := by
    rcases uk_sks Z y_wake i with ⟨a, _⟩ | ⟨j, hj, a, b⟩
    · rw [a]; exact ⟨fun _ => rfl, fun _ => by decide⟩
    · rw [b]
      have := hw j (by omega) a
      exact ⟨fun q => absurd q (Int32.not_lt.mpr this), fun q => by rw [q] at this; exact absurd this (by decide)⟩
  refine br_f z ⟨v, ?_⟩
  rw [e]
  refine ⟨fun a => skip (fun q => ((hZ i hi).mp q).1 a), fun a => ⟨v, fun b => ⟨v, fun c => skip (fun q => ((hZ i hi).mp q).2.2.1 c), fun c => ⟨v, fun d => ?_, fun d => skip (fun q => d ((hZ i hi).mp q).2.2.2)⟩⟩, fun b => skip (fun q => b ((hZ i hi).mp q).2.1)⟩⟩
  have hz := (hZ i hi).mpr ⟨a, b, c, d⟩
  rw [neg]
  refine ⟨fun f => ⟨v, ?_⟩, fun f => ⟨v, fun g => ?_, fun g => ⟨v, ?_⟩⟩⟩
  · rw [uk_skt ⟨hz, Or.inl f⟩] at ih
    exact nm_e (nm_r (nI_1 i) ih)
  · rw [uk_skf (fun q => by
      rcases q.2 with q | q
      · exact f q
      · exact q g)] at ih
    exact nm_r (nI_1 i) ih
  · rw [uk_skt ⟨hz, Or.inr g⟩] at ih
    exact nm_e (nm_r (nI_1 i) ih)
/-- none is ready: time skips, or run ends -/
theorem uk_skip {t b : Nat} (A : uk_All t b x_changes x_saidCount x_time x_lastSlot x_sliceSteps x_latestPid x_greatestPid x_code x_codeLengths x_pids x_parents x_programs x_places x_states x_statuses x_stepCounts x_copyCounts x_wakeTimes x_registers x_pageCounts x_pageFrames x_held x_frameUsers x_frameWords x_openHolders x_openKinds x_openTargets x_openPlaces x_openModes x_pipeFirsts x_pipeCounts x_pipeWords x_nameFiles x_fileSizes x_fileWords x_safeNames x_safeSizes x_safeWords x_saidInts y_time y_last y_lastPid y_did y_killed y_ops y_as y_bs y_pages y_wake y_zombie y_blocked y_memory y_frame y_kind y_mode y_pipe y_size y_safeSize y_said) (ht : t < 2000000000) (hn : ∀ i, i < 8 → ¬ uk_Rd x_pids x_parents y_zombie y_blocked x_programs x_places y_bs y_wake x_registers x_held y_kind x_openTargets x_pipeCounts x_time i) :
  ((∀ post : Int32 → SX → Prop, post 0 (x_changes, x_saidCount, x_time, x_lastSlot, x_sliceSteps, x_latestPid, x_greatestPid, x_code, x_codeLengths, x_pids, x_parents, x_programs, x_places, x_states, x_statuses, x_stepCounts, x_copyCounts, x_wakeTimes, x_registers, x_pageCounts, x_pageFrames, x_held, x_frameUsers, x_frameWords, x_openHolders, x_openKinds, x_openTargets, x_openPlaces, x_openModes, x_pipeFirsts, x_pipeCounts, x_pipeWords, x_nameFiles, x_fileSizes, x_fileWords, x_safeNames, x_safeSizes, x_safeWords, x_saidInts) → wpX_skipToWake post (x_changes, x_saidCount, x_time, x_lastSlot, x_sliceSteps, x_latestPid, x_greatestPid, x_code, x_codeLengths, x_pids, x_parents, x_programs, x_places, x_states, x_statuses, x_stepCounts, x_copyCounts, x_wakeTimes, x_registers, x_pageCounts, x_pageFrames, x_held, x_frameUsers, x_frameWords, x_openHolders, x_openKinds, x_openTargets, x_openPlaces, x_openModes, x_pipeFirsts, x_pipeCounts, x_pipeWords, x_nameFiles, x_fileSizes, x_fileWords, x_safeNames, x_safeSizes, x_safeWords, x_saidInts)) ∧ (∀ post : Int32 → Prop, post (-1) → wpY_waking post (x_changes, x_time, y_last, y_lastPid, y_did, x_greatestPid, x_latestPid, x_saidCount, y_killed, y_ops, y_as, y_bs, x_codeLengths, x_pids, x_parents, x_programs, x_places, x_statuses, x_stepCounts, x_copyCounts, y_pages, y_wake, y_zombie, y_blocked, x_registers, y_memory, y_frame, x_held, y_kind, x_openTargets, y_mode, x_openPlaces, x_pipeCounts, y_pipe, x_nameFiles, y_size, x_fileWords, x_safeNames, y_safeSize, x_safeWords, y_said))) ∨
  (∃ w i, t < w ∧ w ≤ t + 1001 ∧ i < 8 ∧ uk_Rd x_pids x_parents y_zombie y_blocked x_programs x_places y_bs y_wake x_registers x_held y_kind x_openTargets x_pipeCounts (nI w) i ∧ uk_All w b x_changes x_saidCount (nI w) x_lastSlot x_sliceSteps x_latestPid x_greatestPid x_code x_codeLengths x_pids x_parents x_programs x_places x_states x_statuses x_stepCounts x_copyCounts x_wakeTimes x_registers x_pageCounts x_pageFrames x_held x_frameUsers x_frameWords x_openHolders x_openKinds x_openTargets x_openPlaces x_openModes x_pipeFirsts x_pipeCounts x_pipeWords x_nameFiles x_fileSizes x_fileWords x_safeNames x_safeSizes x_safeWords x_saidInts y_time y_last y_lastPid y_did y_killed y_ops y_as y_bs y_pages y_wake y_zombie y_blocked y_memory y_frame y_kind y_mode y_pipe y_size y_safeSize y_said ∧ (∀ post : Int32 → SX → Prop, post 1 (x_changes, x_saidCount, nI w, x_lastSlot, x_sliceSteps, x_latestPid, x_greatestPid, x_code, x_codeLengths, x_pids, x_parents, x_programs, x_places, x_states, x_statuses, x_stepCounts, x_copyCounts, x_wakeTimes, x_registers, x_pageCounts, x_pageFrames, x_held, x_frameUsers, x_frameWords, x_openHolders, x_openKinds, x_openTargets, x_openPlaces, x_openModes, x_pipeFirsts, x_pipeCounts, x_pipeWords, x_nameFiles, x_fileSizes, x_fileWords, x_safeNames, x_safeSizes, x_safeWords, x_saidInts) → wpX_skipToWake post (x_changes, x_saidCount, x_time, x_lastSlot, x_sliceSteps, x_latestPid, x_greatestPid, x_code, x_codeLengths, x_pids, x_parents, x_programs, x_places, x_states, x_statuses, x_stepCounts, x_copyCounts, x_wakeTimes, x_registers, x_pageCounts, x_pageFrames, x_held, x_frameUsers, x_frameWords, x_openHolders, x_openKinds, x_openTargets, x_openPlaces, x_openModes, x_pipeFirsts, x_pipeCounts, x_pipeWords, x_nameFiles, x_fileSizes, x_fileWords, x_safeNames, x_safeSizes, x_safeWords, x_saidInts)) ∧ (∀ post : Int32 → Prop, post (nI w) → wpY_waking post (x_changes, x_time, y_last, y_lastPid, y_did, x_greatestPid, x_latestPid, x_saidCount, y_killed, y_ops, y_as, y_bs, x_codeLengths, x_pids, x_parents, x_programs, x_places, x_statuses, x_stepCounts, x_copyCounts, y_pages, y_wake, y_zombie, y_blocked, x_registers, y_memory, y_frame, x_held, y_kind, x_openTargets, y_mode, x_openPlaces, x_pipeCounts, y_pipe, x_nameFiles, y_size, x_fileWords, x_safeNames, y_safeSize, x_safeWords, y_said))) := by
  have eT := uk_aeT A
  have key : ∀ i, i < 8 → x_pids i ≠ 0 → y_zombie i = 0 → y_blocked i ≠ 0 → (y_bs (24 * (x_programs i).toNatClampNeg + (x_places i).toNatClampNeg) = 14 ∧ ∃ w, t < w ∧ w ≤ t + 1001 ∧ x_wakeTimes i = nI w ∧ y_wake i = nI w) ∨ (x_wakeTimes i = 0 ∧ y_wake i = -1) := fun i hi h1 h2 h3 => by
    rcases uk_aWk A i hi h1 h2 with ⟨z, _⟩ | ⟨_, _, _, q⟩
    · exact absurd z h3
    · rcases q with ⟨q1, w, q2, q3, q4, q5⟩ | ⟨q1, q2, _⟩
      · refine Or.inl ⟨q1, w, ?_, q3, q4, q5⟩
        have : ¬ w ≤ t := fun z => hn i hi ⟨h1, h2, Or.inr (Or.inr ⟨q1, by rw [q5, eT]; exact nI_le z (by omega)⟩)⟩
        omega
      · exact Or.inr ⟨q1, q2⟩
  have hbl : ∀ i, i < 8 → x_pids i ≠ 0 → (x_states i = 2 ↔ (y_zombie i = 0 ∧ y_blocked i ≠ 0)) := fun i hi h1 => by
    rcases (uk_aPs A i hi).2.2.2.2.2.2 h1 with ⟨a, b⟩ | ⟨a, _, b⟩
    · rw [a, b]; exact ⟨fun z => absurd z (by decide), fun z => absurd z.1 (by decide)⟩
    · rcases b with ⟨b, c⟩ | ⟨b, c⟩
      · rw [b, c]; exact ⟨fun z => absurd z (by decide), fun z => absurd rfl z.2⟩
      · rw [b, c]; exact ⟨fun _ => ⟨a, by decide⟩, fun _ => rfl⟩
  have hZX : ∀ i, i < 8 → ((x_pids i ≠ 0 ∧ y_zombie i = 0 ∧ y_blocked i ≠ 0 ∧ 0 ≤ y_wake i) ↔ (x_pids i ≠ 0 ∧ x_states i = 2 ∧ ¬ x_wakeTimes i ≤ x_time)) := fun i hi => by
    constructor
    · rintro ⟨h1, h2, h3, h4⟩
      refine ⟨h1, (hbl i hi h1).mpr ⟨h2, h3⟩, ?_⟩
      rcases key i hi h1 h2 h3 with ⟨_, w, q1, q2, q3, q4⟩ | ⟨_, q⟩
      · rw [q3, eT]; exact nI_ge q1 (by omega)
      · rw [q] at h4; exact absurd h4 (by decide)
    · rintro ⟨h1, h2, h3⟩
      obtain ⟨g1, g2⟩ := (hbl i hi h1).mp h2
      refine ⟨h1, g1, g2, ?_⟩
      rcases key i hi h1 g1 g2 with ⟨_, w, q1, q2, q3, q4⟩ | ⟨q, _⟩
      · rw [q4]; exact nI_pos' (by omega)
      · rw [q, eT] at h3; exact absurd (nI_pos' (by omega)) h3
  have hw : ∀ i, i < 8 → (x_pids i ≠ 0 ∧ y_zombie i = 0 ∧ y_blocked i ≠ 0 ∧ 0 ≤ y_wake i) → x_wakeTimes i = y_wake i ∧ 0 ≤ y_wake i := fun i hi z => by
    refine ⟨?_, z.2.2.2⟩
    rcases key i hi z.1 z.2.1 z.2.2.1 with ⟨_, w, q1, q2, q3, q4⟩ | ⟨_, q⟩
    · rw [q3, q4]
    · have := z.2.2.2
      rw [q] at this
      exact absurd this (by decide)
  have kX := fun (post : Int32 → SX → Prop) => xk_skip (post := post) (Z := fun i => x_pids i ≠ 0 ∧ y_zombie i = 0 ∧ y_blocked i ≠ 0 ∧ 0 ≤ y_wake i) (x_changes := x_changes) (x_saidCount := x_saidCount) (x_time := x_time) (x_lastSlot := x_lastSlot) (x_sliceSteps := x_sliceSteps) (x_latestPid := x_latestPid) (x_greatestPid := x_greatestPid) (x_code := x_code) (x_codeLengths := x_codeLengths) (x_pids := x_pids) (x_parents := x_parents) (x_programs := x_programs) (x_places := x_places) (x_states := x_states) (x_statuses := x_statuses) (x_stepCounts := x_stepCounts) (x_copyCounts := x_copyCounts) (x_wakeTimes := x_wakeTimes) (x_registers := x_registers) (x_pageCounts := x_pageCounts) (x_pageFrames := x_pageFrames) (x_held := x_held) (x_frameUsers := x_frameUsers) (x_frameWords := x_frameWords) (x_openHolders := x_openHolders) (x_openKinds := x_openKinds) (x_openTargets := x_openTargets) (x_openPlaces := x_openPlaces) (x_openModes := x_openModes) (x_pipeFirsts := x_pipeFirsts) (x_pipeCounts := x_pipeCounts) (x_pipeWords := x_pipeWords) (x_nameFiles := x_nameFiles) (x_fileSizes := x_fileSizes) (x_fileWords := x_fileWords) (x_safeNames := x_safeNames) (x_safeSizes := x_safeSizes) (x_safeWords := x_safeWords) (x_saidInts := x_saidInts) (y_wake := y_wake) hw hZX
  have kY := fun (post : Int32 → Prop) => yk_wake (post := post) (Z := fun i => x_pids i ≠ 0 ∧ y_zombie i = 0 ∧ y_blocked i ≠ 0 ∧ 0 ≤ y_wake i) (x_pids := x_pids) (x_parents := x_parents) (x_programs := x_programs) (x_places := x_places) (x_statuses := x_statuses) (x_stepCounts := x_stepCounts) (x_copyCounts := x_copyCounts) (x_registers := x_registers) (x_held := x_held) (x_openTargets := x_openTargets) (x_openPlaces := x_openPlaces) (x_pipeCounts := x_pipeCounts) (x_nameFiles := x_nameFiles) (x_fileWords := x_fileWords) (x_safeNames := x_safeNames) (x_safeWords := x_safeWords) (x_codeLengths := x_codeLengths) (x_changes := x_changes) (x_saidCount := x_saidCount) (x_latestPid := x_latestPid) (x_greatestPid := x_greatestPid) (y_time := x_time) (y_last := y_last) (y_lastPid := y_lastPid) (y_did := y_did) (y_killed := y_killed) (y_ops := y_ops) (y_as := y_as) (y_bs := y_bs) (y_pages := y_pages) (y_wake := y_wake) (y_zombie := y_zombie) (y_blocked := y_blocked) (y_memory := y_memory) (y_frame := y_frame) (y_kind := y_kind) (y_mode := y_mode) (y_pipe := y_pipe) (y_size := y_size) (y_safeSize := y_safeSize) (y_said := y_said) (fun i hi z => z.2.2.2) (fun i hi => Iff.rfl)
  rcases uk_sks (fun i => x_pids i ≠ 0 ∧ y_zombie i = 0 ∧ y_blocked i ≠ 0 ∧ 0 ≤ y_wake i) y_wake 8 with ⟨e, _⟩ | ⟨i, hi, hz, e⟩
  · refine Or.inl ⟨fun post h => kX post (fun _ => h) (fun z => absurd e z), fun post h => kY post ?_⟩
    rw [e]
    exact h
  · obtain ⟨h1, h2, h3, h4⟩ := hz
    rcases key i hi h1 h2 h3 with ⟨q0, w, q1, q2, q3, q4⟩ | ⟨_, q⟩
    · refine Or.inr ⟨w, i, q1, q2, hi, ⟨h1, h2, Or.inr (Or.inr ⟨q0, by rw [q4]; exact uk_refl _⟩)⟩, ?_, fun post h => kX post (fun z => ?_) (fun _ => ?_), fun post h => kY post ?_⟩
      · exact ⟨uk_aG A, uk_aN A, uk_aC A, rfl, uk_aPr A, uk_aPs A, uk_aMe A, uk_aFu A, uk_aHd A, uk_aHo A, uk_aOk A, uk_aPi A, uk_aFi A, uk_aSa A, uk_aSc A, uk_WkC (Nat.le_of_lt q1) (uk_aWk A) (fun s' _ g1 g2 => Or.inr ⟨g1, g2, rfl, rfl, rfl, rfl, rfl, rfl, fun _ _ => rfl, fun _ _ _ _ _ _ => rfl⟩)⟩
      · rw [e, q4] at z
        exact absurd z (uk_ne1 (by omega))
      · rw [e, q4]
        exact h
      · rw [e, q4]
        exact h
    · rw [q] at h4
      exact absurd h4 (by decide)
end
