/-! add -/
theorem uk_v0 {a b : Int32} : uk_val (nI 0) a b ↔ vp_in a 4 := by
  constructor
  · rintro (⟨_, h⟩ | ⟨h, _⟩ | ⟨h, _⟩ | ⟨h, _⟩ | ⟨h, _⟩)
    · exact h
    · exact absurd h (by decide)
    · exact absurd h (by decide)
    · exact absurd h (by decide)
    · exact absurd h (by decide)
  · exact fun h => Or.inl ⟨rfl, h⟩
theorem uk_v1 {a b : Int32} : uk_val (nI 1) a b ↔ vp_in a 4 ∧ vp_in b 4 := by
  constructor
  · rintro (⟨h, _⟩ | ⟨_, h⟩ | ⟨h, _⟩ | ⟨h, _⟩ | ⟨h, _⟩)
    · exact absurd h (by decide)
    · exact h
    · exact absurd h (by decide)
    · exact absurd h (by decide)
    · exact absurd h (by decide)
  · exact fun h => Or.inr (Or.inl ⟨Or.inl rfl, h⟩)
theorem uk_v2 {a b : Int32} : uk_val (nI 2) a b ↔ vp_in a 4 ∧ vp_in b 4 := by
  constructor
  · rintro (⟨h, _⟩ | ⟨_, h⟩ | ⟨h, _⟩ | ⟨h, _⟩ | ⟨h, _⟩)
    · exact absurd h (by decide)
    · exact h
    · exact absurd h (by decide)
    · exact absurd h (by decide)
    · exact absurd h (by decide)
  · exact fun h => Or.inr (Or.inl ⟨Or.inr (Or.inl rfl), h⟩)
theorem uk_v3 {a b : Int32} : uk_val (nI 3) a b ↔ vp_in a 4 ∧ vp_in b 4 := by
  constructor
  · rintro (⟨h, _⟩ | ⟨_, h⟩ | ⟨h, _⟩ | ⟨h, _⟩ | ⟨h, _⟩)
    · exact absurd h (by decide)
    · exact h
    · exact absurd h (by decide)
    · exact absurd h (by decide)
    · exact absurd h (by decide)
  · exact fun h => Or.inr (Or.inl ⟨Or.inr (Or.inr (Or.inl rfl)), h⟩)
theorem uk_v4 {a b : Int32} : uk_val (nI 4) a b ↔ vp_in a 4 ∧ vp_in b 4 := by
  constructor
  · rintro (⟨h, _⟩ | ⟨_, h⟩ | ⟨h, _⟩ | ⟨h, _⟩ | ⟨h, _⟩)
    · exact absurd h (by decide)
    · exact h
    · exact absurd h (by decide)
    · exact absurd h (by decide)
    · exact absurd h (by decide)
  · exact fun h => Or.inr (Or.inl ⟨Or.inr (Or.inr (Or.inr (Or.inl rfl))), h⟩)
theorem uk_v5 {a b : Int32} : uk_val (nI 5) a b ↔ vp_in a 4 ∧ vp_in b 4 := by
  constructor
  · rintro (⟨h, _⟩ | ⟨_, h⟩ | ⟨h, _⟩ | ⟨h, _⟩ | ⟨h, _⟩)
    · exact absurd h (by decide)
    · exact h
    · exact absurd h (by decide)
    · exact absurd h (by decide)
    · exact absurd h (by decide)
  · exact fun h => Or.inr (Or.inl ⟨Or.inr (Or.inr (Or.inr (Or.inr rfl))), h⟩)
theorem uk_v6 {a b : Int32} : uk_val (nI 6) a b ↔ vp_in b 24 := by
  constructor
  · rintro (⟨h, _⟩ | ⟨h, _⟩ | ⟨_, h⟩ | ⟨h, _⟩ | ⟨h, _⟩)
    · exact absurd h (by decide)
    · exact absurd h (by decide)
    · exact h
    · exact absurd h (by decide)
    · exact absurd h (by decide)
  · exact fun h => Or.inr (Or.inr (Or.inl ⟨rfl, h⟩))
theorem uk_v7 {a b : Int32} : uk_val (nI 7) a b ↔ vp_in a 4 ∧ vp_in b 24 := by
  constructor
  · rintro (⟨h, _⟩ | ⟨h, _⟩ | ⟨h, _⟩ | ⟨_, h⟩ | ⟨h, _⟩)
    · exact absurd h (by decide)
    · exact absurd h (by decide)
    · exact absurd h (by decide)
    · exact h
    · exact absurd h (by decide)
  · exact fun h => Or.inr (Or.inr (Or.inr (Or.inl ⟨rfl, h⟩)))
theorem uk_v8 {a b : Int32} : uk_val (nI 8) a b ↔ vp_in b 19 := by
  constructor
  · rintro (⟨h, _⟩ | ⟨h, _⟩ | ⟨h, _⟩ | ⟨h, _⟩ | ⟨_, h⟩)
    · exact absurd h (by decide)
    · exact absurd h (by decide)
    · exact absurd h (by decide)
    · exact absurd h (by decide)
    · exact h
  · exact fun h => Or.inr (Or.inr (Or.inr (Or.inr ⟨rfl, h⟩)))
theorem uk_vin {op a b : Int32} (h : uk_val op a b) : vp_in op 9 := by
  rcases h with ⟨e, _⟩ | ⟨e, _⟩ | ⟨e, _⟩ | ⟨e, _⟩ | ⟨e, _⟩
  · rw [e]; exact vp_in_nI (n := 0) (by decide) (by decide)
  · rcases e with e | e | e | e | e
    · rw [e]; exact vp_in_nI (n := 1) (by decide) (by decide)
    · rw [e]; exact vp_in_nI (n := 2) (by decide) (by decide)
    · rw [e]; exact vp_in_nI (n := 3) (by decide) (by decide)
    · rw [e]; exact vp_in_nI (n := 4) (by decide) (by decide)
    · rw [e]; exact vp_in_nI (n := 5) (by decide) (by decide)
  · rw [e]; exact vp_in_nI (n := 6) (by decide) (by decide)
  · rw [e]; exact vp_in_nI (n := 7) (by decide) (by decide)
  · rw [e]; exact vp_in_nI (n := 8) (by decide) (by decide)
theorem uk_adP {C cd ln os oa ob : Nat → Int32} {p n K : Nat} {op a b a' : Int32} (eK : K = 24 * p + n) (f0 : C (3 * K) = op) (f1 : C (3 * K + 1) = a) (f2 : C (3 * K + 2) = b) (fo : ∀ j, j ≠ 3 * K → j ≠ 3 * K + 1 → j ≠ 3 * K + 2 → C j = cd j) (h : uk_Pr cd ln os oa ob) (hn : n < 24) (hl : ln p = nI n) (hv : uk_val op a b) (ha : op ≠ 6 → op ≠ 8 → a' = a) : uk_Pr C (upd ln p (nI (n + 1))) (upd os K op) (upd oa K a') (upd ob K b) := by
  refine ⟨fun k hk => ?_, fun q hq => ?_⟩
  · by_cases e : k = K
    · rw [e, pk_us, pk_us, pk_us, f0, f1, f2]
      exact ⟨rfl, rfl, ha⟩
    · rw [pk_un e, pk_un e, pk_un e, fo (3 * k) (by omega) (by omega) (by omega), fo (3 * k + 1) (by omega) (by omega) (by omega), fo (3 * k + 2) (by omega) (by omega) (by omega)]
      exact h.1 k hk
  · obtain ⟨m, hm, el, hval⟩ := h.2 q hq
    by_cases e : q = p
    · have em : m = n := uk_nIn (by omega) (by omega) (el.symm.trans (by rw [e]; exact hl))
      refine ⟨n + 1, by omega, by rw [e]; exact pk_us, fun j hj => ?_⟩
      by_cases ej : j = n
      · rw [e, ej, ← eK, f0, f1, f2]
        exact hv
      · rw [fo (3 * (24 * q + j)) (by omega) (by omega) (by omega), fo (3 * (24 * q + j) + 1) (by omega) (by omega) (by omega), fo (3 * (24 * q + j) + 2) (by omega) (by omega) (by omega)]
        exact hval j (by omega)
    · refine ⟨m, hm, (pk_un e).trans el, fun j hj => ?_⟩
      rw [fo (3 * (24 * q + j)) (by omega) (by omega) (by omega), fo (3 * (24 * q + j) + 1) (by omega) (by omega) (by omega), fo (3 * (24 * q + j) + 2) (by omega) (by omega) (by omega)]
      exact hval j hj
section
variable {x_changes x_saidCount x_time x_lastSlot x_sliceSteps x_latestPid x_greatestPid : Int32} {x_code x_codeLengths x_pids x_parents x_programs x_places x_states x_statuses x_stepCounts x_copyCounts x_wakeTimes x_registers x_pageCounts x_pageFrames x_held x_frameUsers x_frameWords x_openHolders x_openKinds x_openTargets x_openPlaces x_openModes x_pipeFirsts x_pipeCounts x_pipeWords x_nameFiles x_fileSizes x_fileWords x_safeNames x_safeSizes x_safeWords x_saidInts : Nat → Int32} {y_time y_last y_lastPid y_did y_killed : Int32} {y_ops y_as y_bs y_pages y_wake y_zombie y_blocked y_memory y_frame y_kind y_mode y_pipe y_size y_safeSize y_said : Nat → Int32}
theorem xk_isInstruction {post : Int32 → Prop} {op a b : Int32} (ht : uk_val op a b → post 1) (hf : ¬ uk_val op a b → post 0) : wpX_isInstruction post (x_changes, x_saidCount, x_time, x_lastSlot, x_sliceSteps, x_latestPid, x_greatestPid, x_code, x_codeLengths, x_pids, x_parents, x_programs, x_places, x_states, x_statuses, x_stepCounts, x_copyCounts, x_wakeTimes, x_registers, x_pageCounts, x_pageFrames, x_held, x_frameUsers, x_frameWords, x_openHolders, x_openKinds, x_openTargets, x_openPlaces, x_openModes, x_pipeFirsts, x_pipeCounts, x_pipeWords, x_nameFiles, x_fileSizes, x_fileWords, x_safeNames, x_safeSizes, x_safeWords, x_saidInts) op a b := by
  have e24 := uk_inE (x := b) (n := 24) (N := 24) rfl (by decide)
  have e19 := uk_inE (x := b) (n := 19) (N := 19) rfl (by decide)
  have k58 : (uk_val op a b ↔ vp_in a 4 ∧ vp_in b 4) → wX_isInstruction_58 post a b x_changes x_saidCount x_time x_lastSlot x_sliceSteps x_latestPid x_greatestPid x_code x_codeLengths x_pids x_parents x_programs x_places x_states x_statuses x_stepCounts x_copyCounts x_wakeTimes x_registers x_pageCounts x_pageFrames x_held x_frameUsers x_frameWords x_openHolders x_openKinds x_openTargets x_openPlaces x_openModes x_pipeFirsts x_pipeCounts x_pipeWords x_nameFiles x_fileSizes x_fileWords x_safeNames x_safeSizes x_safeWords x_saidInts := fun hh => by
    unfold wX_isInstruction_58
    exact xk_isRegister (fun va => br_f (by decide) (xk_isRegister (fun vb => br_f (by decide) (ht (hh.mpr ⟨va, vb⟩))) (fun vb => br_t rfl (hf (fun z => vb (hh.mp z).2))))) (fun va => br_t rfl (hf (fun z => va (hh.mp z).1)))
  unfold wpX_isInstruction
  by_cases hv : vp_in op 9
  · obtain ⟨i, hi, rfl⟩ := vp_in_of hv (by decide)
    refine br_f (nI_pos (by omega)) (br_f (fun z => absurd ((nI_ltI (show 8 < 2 ^ 31 by decide) (show i < 2 ^ 31 by omega)).mp z) (by omega)) ?_)
    by_cases c0 : i = 0
    · subst c0
      exact br_t rfl (xk_isRegister (fun va => ⟨rfl, ht (uk_v0.mpr va)⟩) (fun va => ⟨rfl, hf (fun z => va (uk_v0.mp z))⟩))
    by_cases c1 : i = 1
    · subst c1
      exact br_f (by decide) (br_t rfl (k58 uk_v1))
    by_cases c2 : i = 2
    · subst c2
      exact br_f (by decide) (br_f (by decide) (br_t rfl (k58 uk_v2)))
    by_cases c3 : i = 3
    · subst c3
      exact br_f (by decide) (br_f (by decide) (br_f (by decide) (br_t rfl (k58 uk_v3))))
    by_cases c4 : i = 4
    · subst c4
      exact br_f (by decide) (br_f (by decide) (br_f (by decide) (br_f (by decide) (br_t rfl (k58 uk_v4)))))
    by_cases c5 : i = 5
    · subst c5
      exact br_f (by decide) (br_f (by decide) (br_f (by decide) (br_f (by decide) (br_f (by decide) (br_t rfl (k58 uk_v5))))))
    by_cases c6 : i = 6
    · subst c6
      exact br_f (by decide) (br_f (by decide) (br_f (by decide) (br_f (by decide) (br_f (by decide) (br_f (by decide) (br_t rfl ⟨fun w => hf (fun z => (e24.mp (uk_v6.mp z)).1 w), fun w => ⟨fun w2 => hf (fun z => (e24.mp (uk_v6.mp z)).2 w2), fun w2 => ht (uk_v6.mpr (e24.mpr ⟨w, w2⟩))⟩⟩))))))
    by_cases c7 : i = 7
    · subst c7
      exact br_f (by decide) (br_f (by decide) (br_f (by decide) (br_f (by decide) (br_f (by decide) (br_f (by decide) (br_f (by decide) (br_t rfl (xk_isRegister (fun va => br_f (by decide) ⟨fun w => hf (fun z => (e24.mp (uk_v7.mp z).2).1 w), fun w => ⟨fun w2 => hf (fun z => (e24.mp (uk_v7.mp z).2).2 w2), fun w2 => ht (uk_v7.mpr ⟨va, e24.mpr ⟨w, w2⟩⟩)⟩⟩) (fun va => br_t rfl (hf (fun z => va (uk_v7.mp z).1)))))))))))
    by_cases c8 : i = 8
    · subst c8
      exact br_f (by decide) (br_f (by decide) (br_f (by decide) (br_f (by decide) (br_f (by decide) (br_f (by decide) (br_f (by decide) (br_f (by decide) (br_t rfl ⟨fun w => hf (fun z => (e19.mp (uk_v8.mp z)).1 w), fun w => ⟨fun w2 => hf (fun z => (e19.mp (uk_v8.mp z)).2 w2), fun w2 => ht (uk_v8.mpr (e19.mpr ⟨w, w2⟩))⟩⟩))))))))
    omega
  · have nv : ¬ uk_val op a b := fun z => hv (uk_vin z)
    refine ⟨fun _ => hf nv, fun w => ⟨fun _ => hf nv, fun w2 => ?_⟩⟩
    obtain ⟨j, hj, rfl⟩ := nI_of w
    by_cases c : 8 < j
    · exact absurd ((nI_ltI (show 8 < 2 ^ 31 by decide) hj).mpr c) w2
    · exact absurd (vp_in_nI (n := j) (by omega) (by decide)) hv
theorem yk_add {post : Int32 → SY → Prop} {p op a b : Int32} (hP : ∀ s, s < 8 → ¬ x_pids s < 0) (h0 : ¬ (vp_in p 6 ∧ uk_val op a b ∧ nI (uk_cn (fun s => x_pids s ≠ 0) 8) ≤ 0) → post (-1) (x_changes, y_time, y_last, y_lastPid, y_did, x_greatestPid, x_latestPid, x_saidCount, y_killed, y_ops, y_as, y_bs, x_codeLengths, x_pids, x_parents, x_programs, x_places, x_statuses, x_stepCounts, x_copyCounts, y_pages, y_wake, y_zombie, y_blocked, x_registers, y_memory, y_frame, x_held, y_kind, x_openTargets, y_mode, x_openPlaces, x_pipeCounts, y_pipe, x_nameFiles, y_size, x_fileWords, x_safeNames, y_safeSize, x_safeWords, y_said)) (h1 : vp_in p 6 → uk_val op a b → nI (uk_cn (fun s => x_pids s ≠ 0) 8) ≤ 0 → ∀ u : Int32, (u = 0 → op = 6 ∨ op = 8) → wY_add_117 post p op a b u x_changes y_time y_last y_lastPid y_did x_greatestPid x_latestPid x_saidCount y_killed y_ops y_as y_bs x_codeLengths x_pids x_parents x_programs x_places x_statuses x_stepCounts x_copyCounts y_pages y_wake y_zombie y_blocked x_registers y_memory y_frame x_held y_kind x_openTargets y_mode x_openPlaces x_pipeCounts y_pipe x_nameFiles y_size x_fileWords x_safeNames y_safeSize x_safeWords y_said) : wpY_add post (x_changes, y_time, y_last, y_lastPid, y_did, x_greatestPid, x_latestPid, x_saidCount, y_killed, y_ops, y_as, y_bs, x_codeLengths, x_pids, x_parents, x_programs, x_places, x_statuses, x_stepCounts, x_copyCounts, y_pages, y_wake, y_zombie, y_blocked, x_registers, y_memory, y_frame, x_held, y_kind, x_openTargets, y_mode, x_openPlaces, x_pipeCounts, y_pipe, x_nameFiles, y_size, x_fileWords, x_safeNames, y_safeSize, x_safeWords, y_said) p op a b := by
  unfold wpY_add
  refine yk_no 5 rfl (by decide) (fun vp => br_t rfl (yk_no 8 rfl (by decide) (fun vo => br_t rfl (yk_processes hP ⟨fun c => ?_, fun c => h0 (fun z => c z.2.2)⟩)) (fun vo => br_f (by decide) (h0 (fun z => vo (uk_vin z.2.1)))))) (fun vp => br_f (by decide) (h0 (fun z => vp z.1)))
  have g0 : ¬ uk_val op a b → post (-1) (x_changes, y_time, y_last, y_lastPid, y_did, x_greatestPid, x_latestPid, x_saidCount, y_killed, y_ops, y_as, y_bs, x_codeLengths, x_pids, x_parents, x_programs, x_places, x_statuses, x_stepCounts, x_copyCounts, y_pages, y_wake, y_zombie, y_blocked, x_registers, y_memory, y_frame, x_held, y_kind, x_openTargets, y_mode, x_openPlaces, x_pipeCounts, y_pipe, x_nameFiles, y_size, x_fileWords, x_safeNames, y_safeSize, x_safeWords, y_said) := fun z => h0 (fun w => z w.2.1)
  have g1 : uk_val op a b → ∀ u : Int32, (u = 0 → op = 6 ∨ op = 8) → wY_add_117 post p op a b u x_changes y_time y_last y_lastPid y_did x_greatestPid x_latestPid x_saidCount y_killed y_ops y_as y_bs x_codeLengths x_pids x_parents x_programs x_places x_statuses x_stepCounts x_copyCounts y_pages y_wake y_zombie y_blocked x_registers y_memory y_frame x_held y_kind x_openTargets y_mode x_openPlaces x_pipeCounts y_pipe x_nameFiles y_size x_fileWords x_safeNames y_safeSize x_safeWords y_said := fun z => h1 vp z c
  obtain ⟨i, hi, rfl⟩ := vp_in_of vo (by decide)
  by_cases c0 : i = 0
  · subst c0
    refine br_t (by decide) ?_
    unfold wY_add_38
    unfold wY_add_43
    refine br_f (by decide) (yk_no 3 rfl (by decide) (fun va => br_t rfl ?_) (fun va => br_f (by decide) (g0 (fun z => va (uk_v0.mp z)))))
    unfold wY_add_58
    refine br_t (by decide) ?_
    unfold wY_add_77
    refine br_f (by decide) (br_f (by decide) ?_)
    unfold wY_add_99
    exact br_f (by decide) (g1 (uk_v0.mpr va) 1 (fun z => absurd z (by decide)))
  by_cases c1 : i = 1
  · subst c1
    refine br_t (by decide) ?_
    unfold wY_add_38
    unfold wY_add_43
    refine br_f (by decide) (yk_no 3 rfl (by decide) (fun va => br_t rfl ?_) (fun va => br_f (by decide) (g0 (fun z => va (uk_v1.mp z).1))))
    unfold wY_add_58
    refine br_f (by decide) (br_f (by decide) (yk_no 3 rfl (by decide) (fun vb => br_t rfl ?_) (fun vb => br_f (by decide) (g0 (fun z => vb (uk_v1.mp z).2)))))
    unfold wY_add_77
    refine br_f (by decide) (br_f (by decide) ?_)
    unfold wY_add_99
    exact br_f (by decide) (g1 (uk_v1.mpr ⟨va, vb⟩) 1 (fun z => absurd z (by decide)))
  by_cases c2 : i = 2
  · subst c2
    refine br_t (by decide) ?_
    unfold wY_add_38
    unfold wY_add_43
    refine br_f (by decide) (yk_no 3 rfl (by decide) (fun va => br_t rfl ?_) (fun va => br_f (by decide) (g0 (fun z => va (uk_v2.mp z).1))))
    unfold wY_add_58
    refine br_f (by decide) (br_f (by decide) (yk_no 3 rfl (by decide) (fun vb => br_t rfl ?_) (fun vb => br_f (by decide) (g0 (fun z => vb (uk_v2.mp z).2)))))
    unfold wY_add_77
    refine br_f (by decide) (br_f (by decide) ?_)
    unfold wY_add_99
    exact br_f (by decide) (g1 (uk_v2.mpr ⟨va, vb⟩) 1 (fun z => absurd z (by decide)))
  by_cases c3 : i = 3
  · subst c3
    refine br_t (by decide) ?_
    unfold wY_add_38
    unfold wY_add_43
    refine br_f (by decide) (yk_no 3 rfl (by decide) (fun va => br_t rfl ?_) (fun va => br_f (by decide) (g0 (fun z => va (uk_v3.mp z).1))))
    unfold wY_add_58
    refine br_f (by decide) (br_f (by decide) (yk_no 3 rfl (by decide) (fun vb => br_t rfl ?_) (fun vb => br_f (by decide) (g0 (fun z => vb (uk_v3.mp z).2)))))
    unfold wY_add_77
    refine br_f (by decide) (br_f (by decide) ?_)
    unfold wY_add_99
    exact br_f (by decide) (g1 (uk_v3.mpr ⟨va, vb⟩) 1 (fun z => absurd z (by decide)))
  by_cases c4 : i = 4
  · subst c4
    refine br_t (by decide) ?_
    unfold wY_add_38
    unfold wY_add_43
    refine br_f (by decide) (yk_no 3 rfl (by decide) (fun va => br_t rfl ?_) (fun va => br_f (by decide) (g0 (fun z => va (uk_v4.mp z).1))))
    unfold wY_add_58
    refine br_f (by decide) (br_f (by decide) (yk_no 3 rfl (by decide) (fun vb => br_t rfl ?_) (fun vb => br_f (by decide) (g0 (fun z => vb (uk_v4.mp z).2)))))
    unfold wY_add_77
    refine br_f (by decide) (br_f (by decide) ?_)
    unfold wY_add_99
    exact br_f (by decide) (g1 (uk_v4.mpr ⟨va, vb⟩) 1 (fun z => absurd z (by decide)))
  by_cases c5 : i = 5
  · subst c5
    refine br_t (by decide) ?_
    unfold wY_add_38
    unfold wY_add_43
    refine br_f (by decide) (yk_no 3 rfl (by decide) (fun va => br_t rfl ?_) (fun va => br_f (by decide) (g0 (fun z => va (uk_v5.mp z).1))))
    unfold wY_add_58
    refine br_f (by decide) (br_f (by decide) (yk_no 3 rfl (by decide) (fun vb => br_t rfl ?_) (fun vb => br_f (by decide) (g0 (fun z => vb (uk_v5.mp z).2)))))
    unfold wY_add_77
    refine br_f (by decide) (br_f (by decide) ?_)
    unfold wY_add_99
    exact br_f (by decide) (g1 (uk_v5.mpr ⟨va, vb⟩) 1 (fun z => absurd z (by decide)))
  by_cases c6 : i = 6
  · subst c6
    refine br_f (by decide) (br_f (by decide) ?_)
    unfold wY_add_43
    refine br_t rfl ?_
    unfold wY_add_58
    refine br_f (by decide) (br_t (by decide) ?_)
    unfold wY_add_77
    refine br_t rfl ?_
    unfold wY_add_89
    refine yk_no 23 rfl (by decide) (fun vb => br_t rfl ?_) (fun vb => br_f (by decide) (g0 (fun z => vb (uk_v6.mp z))))
    unfold wY_add_99
    exact br_f (by decide) (g1 (uk_v6.mpr vb) 0 (fun _ => Or.inl rfl))
  by_cases c7 : i = 7
  · subst c7
    refine br_f (by decide) (br_t rfl ?_)
    unfold wY_add_38
    unfold wY_add_43
    refine br_f (by decide) (yk_no 3 rfl (by decide) (fun va => br_t rfl ?_) (fun va => br_f (by decide) (g0 (fun z => va (uk_v7.mp z).1))))
    unfold wY_add_58
    refine br_f (by decide) (br_t (by decide) ?_)
    unfold wY_add_77
    refine br_f (by decide) (br_t rfl ?_)
    unfold wY_add_89
    refine yk_no 23 rfl (by decide) (fun vb => br_t rfl ?_) (fun vb => br_f (by decide) (g0 (fun z => vb (uk_v7.mp z).2)))
    unfold wY_add_99
    exact br_f (by decide) (g1 (uk_v7.mpr ⟨va, vb⟩) 1 (fun z => absurd z (by decide)))
  by_cases c8 : i = 8
  · subst c8
    refine br_f (by decide) (br_f (by decide) ?_)
    unfold wY_add_43
    refine br_t rfl ?_
    unfold wY_add_58
    refine br_f (by decide) (br_t (by decide) ?_)
    unfold wY_add_77
    refine br_f (by decide) (br_f (by decide) ?_)
    unfold wY_add_99
    exact br_t rfl (yk_no 18 rfl (by decide) (fun vb => br_t rfl (g1 (uk_v8.mpr vb) 0 (fun _ => Or.inr rfl))) (fun vb => br_f (by decide) (g0 (fun z => vb (uk_v8.mp z)))))
  omega
theorem yk_add2 {post : Int32 → SY → Prop} {p n : Nat} {op a b u : Int32} (hp : p < 6) (hn : x_codeLengths p = nI n) (hn24 : n ≤ 24) (h0 : n = 24 → post (-2) (x_changes, y_time, y_last, y_lastPid, y_did, x_greatestPid, x_latestPid, x_saidCount, y_killed, y_ops, y_as, y_bs, x_codeLengths, x_pids, x_parents, x_programs, x_places, x_statuses, x_stepCounts, x_copyCounts, y_pages, y_wake, y_zombie, y_blocked, x_registers, y_memory, y_frame, x_held, y_kind, x_openTargets, y_mode, x_openPlaces, x_pipeCounts, y_pipe, x_nameFiles, y_size, x_fileWords, x_safeNames, y_safeSize, x_safeWords, y_said)) (h1 : n < 24 → ∀ a', (u ≠ 0 → a' = a) → post (nI (n + 1)) (x_changes, y_time, y_last, y_lastPid, y_did, x_greatestPid, x_latestPid, x_saidCount, y_killed, upd y_ops (24 * p + n) op, upd y_as (24 * p + n) a', upd y_bs (24 * p + n) b, upd x_codeLengths p (nI (n + 1)), x_pids, x_parents, x_programs, x_places, x_statuses, x_stepCounts, x_copyCounts, y_pages, y_wake, y_zombie, y_blocked, x_registers, y_memory, y_frame, x_held, y_kind, x_openTargets, y_mode, x_openPlaces, x_pipeCounts, y_pipe, x_nameFiles, y_size, x_fileWords, x_safeNames, y_safeSize, x_safeWords, y_said)) : wY_add_117 post (nI p) op a b u x_changes y_time y_last y_lastPid y_did x_greatestPid x_latestPid x_saidCount y_killed y_ops y_as y_bs x_codeLengths x_pids x_parents x_programs x_places x_statuses x_stepCounts x_copyCounts y_pages y_wake y_zombie y_blocked x_registers y_memory y_frame x_held y_kind x_openTargets y_mode x_openPlaces x_pipeCounts y_pipe x_nameFiles y_size x_fileWords x_safeNames y_safeSize x_safeWords y_said := by
  obtain ⟨_, vp, ep⟩ := uk_lp 6 hp (by decide)
  unfold wY_add_117
  rw [ep, hn]
  refine ⟨vp, fun e => h0 (uk_nIn (b := 24) (by omega) (by decide) e), fun e => ⟨vp, vp, ?_⟩⟩
  have hlt : n < 24 := by
    have : n ≠ 24 := fun z => e (by rw [z]; rfl)
    omega
  have v144 : vp_in (nI (24 * p + n)) 144 := vp_in_nI (by omega) (by decide)
  have ec : (nI (24 * p + n)).toNatClampNeg = 24 * p + n := nI_clamp (by omega)
  have k173 : ∀ z, post (nI (n + 1)) (x_changes, y_time, y_last, y_lastPid, y_did, x_greatestPid, x_latestPid, x_saidCount, y_killed, upd y_ops (24 * p + n) op, upd y_as (24 * p + n) z, upd y_bs (24 * p + n) b, upd x_codeLengths p (nI (n + 1)), x_pids, x_parents, x_programs, x_places, x_statuses, x_stepCounts, x_copyCounts, y_pages, y_wake, y_zombie, y_blocked, x_registers, y_memory, y_frame, x_held, y_kind, x_openTargets, y_mode, x_openPlaces, x_pipeCounts, y_pipe, x_nameFiles, y_size, x_fileWords, x_safeNames, y_safeSize, x_safeWords, y_said) → wY_add_173 post (nI p) b (nI (24 * p + n)) z (nI (24 * p + n)) x_changes y_time y_last y_lastPid y_did x_greatestPid x_latestPid x_saidCount y_killed (upd y_ops (24 * p + n) op) y_as y_bs (upd x_codeLengths p (nI (n + 1))) x_pids x_parents x_programs x_places x_statuses x_stepCounts x_copyCounts y_pages y_wake y_zombie y_blocked x_registers y_memory y_frame x_held y_kind x_openTargets y_mode x_openPlaces x_pipeCounts y_pipe x_nameFiles y_size x_fileWords x_safeNames y_safeSize x_safeWords y_said := fun z h => by
    unfold wY_add_173
    rw [ec, ep]
    refine ⟨v144, nm_e ⟨v144, nm_e ⟨vp, ?_⟩⟩⟩
    rw [pk_us]
    exact h
  rw [nI_1 n, uk_24m p, nI_add (24 * p) n]
  refine nm_e (nm_e ⟨v144, ?_⟩)
  rw [ec]
  exact nm_e ⟨fun e0 => k173 0 (h1 hlt 0 (fun z => absurd e0 z)), fun _ => k173 a (h1 hlt a (fun _ => rfl))⟩
end
theorem i_vc_add {k : Nat} {u : SX} {v : SY} (I : i_Rel k u v) (hk : k + 5 ≤ 2560) (v1 : Int32) (v2 : Int32) (v3 : Int32) (v4 : Int32) : wpX_add (fun r u' => wpY_add (fun r' v' => r' = r ∧ i_Rel (k + 5) u' v') v v1 v2 v3 v4) u v1 v2 v3 v4 := by
  refine i_elim (C := fun u v => i_Rel (k + 5) u v → wpX_add (fun r u' => wpY_add (fun r' v' => r' = r ∧ i_Rel (k + 5) u' v') v v1 v2 v3 v4) u v1 v2 v3 v4) I ?_ (i_up I)
  intro t b x_changes x_saidCount x_time x_lastSlot x_sliceSteps x_latestPid x_greatestPid x_code x_codeLengths x_pids x_parents x_programs x_places x_states x_statuses x_stepCounts x_copyCounts x_wakeTimes x_registers x_pageCounts x_pageFrames x_held x_frameUsers x_frameWords x_openHolders x_openKinds x_openTargets x_openPlaces x_openModes x_pipeFirsts x_pipeCounts x_pipeWords x_nameFiles x_fileSizes x_fileWords x_safeNames x_safeSizes x_safeWords x_saidInts y_time y_last y_lastPid y_did y_killed y_ops y_as y_bs y_pages y_wake y_zombie y_blocked y_memory y_frame y_kind y_mode y_pipe y_size y_safeSize y_said ht hbt hA J
  have eT := uk_aeT hA
  have hPr := uk_aPr hA
  have hPs := uk_aPs hA
  have hMe := uk_aMe hA
  have hFu := uk_aFu hA
  have hHd := uk_aHd hA
  have hHo := uk_aHo hA
  have hOk := uk_aOk hA
  have hFi := uk_aFi hA
  have hP : ∀ s, s < 8 → ¬ x_pids s < 0 := fun s hs => (hPs s hs).1
  have hN : ∀ s, s < 8 → x_pids s ≠ 0 → ∃ n, n ≤ 8 ∧ y_pages s = nI n := fun s hs hp => by
    obtain ⟨n, h1, _, h3, _⟩ := hMe s hs hp
    exact ⟨n, h1, h3⟩
  unfold wpX_add
  refine xk_isProgram (fun a => br_f (by decide) (xk_isInstruction (fun hv => br_f (by decide) (xk_countProcesses ⟨fun c => ?_, fun c => ?_⟩)) (fun hv => br_t rfl ?_))) (fun a => br_t rfl ?_)
  · obtain ⟨p, hp, rfl⟩ := vp_in_of a (by decide)
    obtain ⟨_, vp, ep⟩ := uk_lp 6 hp (by decide)
    obtain ⟨n, hn, en, hval⟩ := hPr.2 p hp
    have h0 := uk_noneI.mp c
    rw [ep, en]
    refine ⟨vp, nm_e ?_⟩
    by_cases h24 : n < 24
    · have A1 : ∀ a', (v2 ≠ 6 → v2 ≠ 8 → a' = v3) → uk_All t b x_changes x_saidCount x_time x_lastSlot x_sliceSteps x_latestPid x_greatestPid (upd (upd (upd x_code (3 * (24 * p + n)) v2) (3 * (24 * p + n) + 1) v3) (3 * (24 * p + n) + 2) v4) (upd x_codeLengths p (nI (n + 1))) x_pids x_parents x_programs x_places x_states x_statuses x_stepCounts x_copyCounts x_wakeTimes x_registers x_pageCounts x_pageFrames x_held x_frameUsers x_frameWords x_openHolders x_openKinds x_openTargets x_openPlaces x_openModes x_pipeFirsts x_pipeCounts x_pipeWords x_nameFiles x_fileSizes x_fileWords x_safeNames x_safeSizes x_safeWords x_saidInts y_time y_last y_lastPid y_did y_killed (upd y_ops (24 * p + n) v2) (upd y_as (24 * p + n) a') (upd y_bs (24 * p + n) v4) y_pages y_wake y_zombie y_blocked y_memory y_frame y_kind y_mode y_pipe y_size y_safeSize y_said := fun a' ha => ⟨uk_aG hA, uk_aN hA, uk_aC hA, uk_aeT hA, uk_adP rfl (by rw [pk_un (show 3 * (24 * p + n) ≠ 3 * (24 * p + n) + 2 by omega), pk_un (show 3 * (24 * p + n) ≠ 3 * (24 * p + n) + 1 by omega), pk_us]) (by rw [pk_un (show 3 * (24 * p + n) + 1 ≠ 3 * (24 * p + n) + 2 by omega), pk_us]) pk_us (fun j w0 w1 w2 => by rw [pk_un w2, pk_un w1, pk_un w0]) hPr h24 en hv ha, uk_aPs hA, uk_aMe hA, uk_aFu hA, uk_aHd hA, uk_aHo hA, uk_aOk hA, uk_aPi hA, uk_aFi hA, uk_aSa hA, uk_aSc hA, fun s hs w => absurd (h0 s hs) w⟩
      refine br_t ((nI_ltI (show n < 2 ^ 31 by omega) (show 24 < 2 ^ 31 by decide)).mpr h24) ?_
      unfold wpX_codeIndex
      dsimp only
      rw [uk_m24 p, nI_add (24 * p) n, uk_m3 (24 * p + n), uk_a1 (3 * (24 * p + n)), uk_a2 (3 * (24 * p + n)), nI_1 n, nI_clamp (show 3 * (24 * p + n) < 2 ^ 31 by omega), nI_clamp (show 3 * (24 * p + n) + 1 < 2 ^ 31 by omega), nI_clamp (show 3 * (24 * p + n) + 2 < 2 ^ 31 by omega)]
      exact ⟨vp_in_nI (by omega) (by decide), nm_e ⟨vp_in_nI (by omega) (by decide), nm_e ⟨vp_in_nI (by omega) (by decide), nm_e ⟨vp, nm_e (yk_add hP (fun z => False.elim (z ⟨a, hv, c⟩)) (fun _ _ _ u hu => yk_add2 hp en hn (fun z => absurd z (by omega)) (fun _ a' ha => ⟨rfl, i_mk ht hbt (A1 a' (fun w6 w8 => ha (fun z => by
        rcases hu z with y | y
        · exact w6 y
        · exact w8 y)))⟩)))⟩⟩⟩⟩
    · exact br_f (fun z => h24 ((nI_ltI (show n < 2 ^ 31 by omega) (show 24 < 2 ^ 31 by decide)).mp z)) (yk_add hP (fun z => False.elim (z ⟨a, hv, c⟩)) (fun _ _ _ u _ => yk_add2 hp en hn (fun _ => ⟨rfl, J⟩) (fun z => absurd z h24)))
  · exact yk_add hP (fun _ => ⟨rfl, J⟩) (fun _ _ z => absurd z c)
  · exact yk_add hP (fun _ => ⟨rfl, J⟩) (fun _ z => absurd z hv)
  · exact yk_add hP (fun _ => ⟨rfl, J⟩) (fun z => absurd z a)
