/-! OPEN -/
def uk_mode (m : Int32) : Prop := vp_in (m - 1) 15 ∧ m &&& 3 ≠ 0 ∧ (m &&& 8 = 0 ∨ m &&& 2 ≠ 0)
theorem uk_md {m : Int32} : vp_in (m - 1) 15 ↔ (¬ m < 1 ∧ ¬ 15 < m) := by
  constructor
  · intro h
    obtain ⟨i, hi, ei⟩ := vp_in_of h (by decide)
    have em : m = nI (i + 1) := by
      rw [← nI_1, ← ei]
      exact (Int32.sub_add_cancel m 1).symm
    rw [em]
    exact ⟨nI_nlt (b := 1) (by omega) (by omega), nI_nlt (a := 15) (by omega) (by decide)⟩
  · rintro ⟨h1, h2⟩
    have h0 : ¬ m < 0 := fun z => h1 (Int32.lt_trans z (by decide))
    obtain ⟨j, hj, rfl⟩ := nI_of h0
    have j1 : ¬ j < 1 := fun z => h1 (nI_lt (b := 1) z (by decide))
    have j2 : ¬ 15 < j := fun z => h2 (nI_lt (a := 15) z hj)
    have e : nI j - 1 = nI (j - 1) := pk_sub (b := 1) (by omega)
    rw [e]
    exact vp_in_nI (by omega) (by decide)
section
variable {x_changes x_saidCount x_time x_lastSlot x_sliceSteps x_latestPid x_greatestPid : Int32} {x_code x_codeLengths x_pids x_parents x_programs x_places x_states x_statuses x_stepCounts x_copyCounts x_wakeTimes x_registers x_pageCounts x_pageFrames x_held x_frameUsers x_frameWords x_openHolders x_openKinds x_openTargets x_openPlaces x_openModes x_pipeFirsts x_pipeCounts x_pipeWords x_nameFiles x_fileSizes x_fileWords x_safeNames x_safeSizes x_safeWords x_saidInts : Nat → Int32} {y_time y_last y_lastPid y_did y_killed : Int32} {y_ops y_as y_bs y_pages y_wake y_zombie y_blocked y_memory y_frame y_kind y_mode y_pipe y_size y_safeSize y_said : Nat → Int32}
theorem xk_isMode {post : Int32 → Prop} {m : Int32} (ht : uk_mode m → post 1) (hf : ¬ uk_mode m → post 0) : wpX_isMode post (x_changes, x_saidCount, x_time, x_lastSlot, x_sliceSteps, x_latestPid, x_greatestPid, x_code, x_codeLengths, x_pids, x_parents, x_programs, x_places, x_states, x_statuses, x_stepCounts, x_copyCounts, x_wakeTimes, x_registers, x_pageCounts, x_pageFrames, x_held, x_frameUsers, x_frameWords, x_openHolders, x_openKinds, x_openTargets, x_openPlaces, x_openModes, x_pipeFirsts, x_pipeCounts, x_pipeWords, x_nameFiles, x_fileSizes, x_fileWords, x_safeNames, x_safeSizes, x_safeWords, x_saidInts) m := by
  have k21 : ¬ (vp_in (m - 1) 15 ∧ m &&& 3 ≠ 0) → wX_isMode_21 post m x_changes x_saidCount x_time x_lastSlot x_sliceSteps x_latestPid x_greatestPid x_code x_codeLengths x_pids x_parents x_programs x_places x_states x_statuses x_stepCounts x_copyCounts x_wakeTimes x_registers x_pageCounts x_pageFrames x_held x_frameUsers x_frameWords x_openHolders x_openKinds x_openTargets x_openPlaces x_openModes x_pipeFirsts x_pipeCounts x_pipeWords x_nameFiles x_fileSizes x_fileWords x_safeNames x_safeSizes x_safeWords x_saidInts := fun h => br_t rfl (hf (fun z => h ⟨z.1, z.2.1⟩))
  unfold wpX_isMode
  refine ⟨fun a => k21 (fun z => (uk_md.mp z.1).1 a), fun a => ⟨fun b => k21 (fun z => (uk_md.mp z.1).2 b), fun b => ⟨fun c => k21 (fun z => z.2 c), fun c => ?_⟩⟩⟩
  have hv := uk_md.mpr ⟨a, b⟩
  exact br_f (by decide) ⟨fun d => ht ⟨hv, c, Or.inl d⟩, fun d => ⟨fun e => hf (fun z => by
    rcases z.2.2 with z | z
    · exact d z
    · exact z e), fun e => ht ⟨hv, c, Or.inr e⟩⟩⟩
theorem yk_mode {post : Int32 → SY → Prop} {s : Nat} {n m : Int32} (h0 : ¬ (vp_in n 8 ∧ uk_mode m) → post (-1) (x_changes, y_time, y_last, y_lastPid, y_did, x_greatestPid, x_latestPid, x_saidCount, y_killed, y_ops, y_as, y_bs, x_codeLengths, x_pids, x_parents, x_programs, x_places, x_statuses, x_stepCounts, x_copyCounts, y_pages, y_wake, y_zombie, y_blocked, x_registers, y_memory, y_frame, x_held, y_kind, x_openTargets, y_mode, x_openPlaces, x_pipeCounts, y_pipe, x_nameFiles, y_size, x_fileWords, x_safeNames, y_safeSize, x_safeWords, y_said)) (h1 : vp_in n 8 → uk_mode m → wY_openName_41 post (nI s) n m x_changes y_time y_last y_lastPid y_did x_greatestPid x_latestPid x_saidCount y_killed y_ops y_as y_bs x_codeLengths x_pids x_parents x_programs x_places x_statuses x_stepCounts x_copyCounts y_pages y_wake y_zombie y_blocked x_registers y_memory y_frame x_held y_kind x_openTargets y_mode x_openPlaces x_pipeCounts y_pipe x_nameFiles y_size x_fileWords x_safeNames y_safeSize x_safeWords y_said) : wpY_openName post (x_changes, y_time, y_last, y_lastPid, y_did, x_greatestPid, x_latestPid, x_saidCount, y_killed, y_ops, y_as, y_bs, x_codeLengths, x_pids, x_parents, x_programs, x_places, x_statuses, x_stepCounts, x_copyCounts, y_pages, y_wake, y_zombie, y_blocked, x_registers, y_memory, y_frame, x_held, y_kind, x_openTargets, y_mode, x_openPlaces, x_pipeCounts, y_pipe, x_nameFiles, y_size, x_fileWords, x_safeNames, y_safeSize, x_safeWords, y_said) (nI s) n m := by
  unfold wpY_openName
  refine yk_no 7 rfl (by decide) (fun a => br_t rfl (yk_no 14 rfl (by decide) (fun b => br_t rfl ⟨fun c => h0 (fun z => z.2.2.1 c), fun c => ⟨fun d => h1 a ⟨b, c, Or.inl d⟩, fun d => ⟨fun e => h0 (fun z => ?_), fun e => h1 a ⟨b, c, Or.inr e⟩⟩⟩⟩) (fun b => br_f (by decide) (h0 (fun z => b z.2.1))))) (fun a => br_f (by decide) (h0 (fun z => a z.1)))
  rcases z.2.2.2 with z | z
  · exact d z
  · exact z e
theorem yk_least {post : Int32 → SY → Prop} {x1 x2 x3 x4 x5 : Int32} (h : wY_openName_114 post x1 x2 x3 x4 x5 (uk_ff (fun f => uk_fre x_nameFiles y_kind x_openTargets f) 8) 1 x_changes y_time y_last y_lastPid y_did x_greatestPid x_latestPid x_saidCount y_killed y_ops y_as y_bs x_codeLengths x_pids x_parents x_programs x_places x_statuses x_stepCounts x_copyCounts y_pages y_wake y_zombie y_blocked x_registers y_memory y_frame x_held y_kind x_openTargets y_mode x_openPlaces x_pipeCounts y_pipe x_nameFiles y_size x_fileWords x_safeNames y_safeSize x_safeWords y_said) : ∃ m, wY_openName_85 post x1 x2 x3 x4 x5 1 x_changes y_time y_last y_lastPid y_did x_greatestPid x_latestPid x_saidCount y_killed y_ops y_as y_bs x_codeLengths x_pids x_parents x_programs x_places x_statuses x_stepCounts x_copyCounts y_pages y_wake y_zombie y_blocked x_registers y_memory y_frame x_held y_kind x_openTargets y_mode x_openPlaces x_pipeCounts y_pipe x_nameFiles y_size x_fileWords x_safeNames y_safeSize x_safeWords y_said m (-1) 7 := by
  have key : ∀ j, j ≤ 8 → wY_openName_85 post x1 x2 x3 x4 x5 1 x_changes y_time y_last y_lastPid y_did x_greatestPid x_latestPid x_saidCount y_killed y_ops y_as y_bs x_codeLengths x_pids x_parents x_programs x_places x_statuses x_stepCounts x_copyCounts y_pages y_wake y_zombie y_blocked x_registers y_memory y_frame x_held y_kind x_openTargets y_mode x_openPlaces x_pipeCounts y_pipe x_nameFiles y_size x_fileWords x_safeNames y_safeSize x_safeWords y_said (j + 1) (uk_fg (fun f => uk_fre x_nameFiles y_kind x_openTargets f) (8 - j) j) (nI j + (-1)) := by
    intro j
    induction j with
    | zero => exact fun _ => br_t (by decide) h
    | succ j ih =>
      intro hj
      have ih2 := ih (by omega)
      rw [pk_m1]
      refine br_f (nI_pos (by omega)) (br_f (by decide) (yk_isFree (fun a => br_f (by decide) ?_) (fun a => br_t rfl ?_)))
      · rw [show 8 - j = (8 - (j + 1)) + 1 by omega, uk_fgt (P := fun f => uk_fre x_nameFiles y_kind x_openTargets f) a] at ih2
        exact nm_e ih2
      · rw [show 8 - j = (8 - (j + 1)) + 1 by omega, uk_fgf (P := fun f => uk_fre x_nameFiles y_kind x_openTargets f) a] at ih2
        exact nm_e ih2
  exact ⟨_, key 8 (Nat.le_refl 8)⟩
theorem uk_call11 {t b s : Nat} (A : uk_All t b x_changes x_saidCount x_time x_lastSlot x_sliceSteps x_latestPid x_greatestPid x_code x_codeLengths x_pids x_parents x_programs x_places x_states x_statuses x_stepCounts x_copyCounts x_wakeTimes x_registers x_pageCounts x_pageFrames x_held x_frameUsers x_frameWords x_openHolders x_openKinds x_openTargets x_openPlaces x_openModes x_pipeFirsts x_pipeCounts x_pipeWords x_nameFiles x_fileSizes x_fileWords x_safeNames x_safeSizes x_safeWords x_saidInts y_time y_last y_lastPid y_did y_killed y_ops y_as y_bs y_pages y_wake y_zombie y_blocked y_memory y_frame y_kind y_mode y_pipe y_size y_safeSize y_said) (hs : s < 8) (hp : x_pids s ≠ 0) (hz : y_zombie s = 0) (hb : y_blocked s = 0) :
  ∃ u' v', (∀ post : SX → Prop, post u' → wpX_doCall post (x_changes, x_saidCount, x_time, x_lastSlot, x_sliceSteps, x_latestPid, x_greatestPid, x_code, x_codeLengths, x_pids, x_parents, x_programs, x_places, x_states, x_statuses, x_stepCounts, x_copyCounts, x_wakeTimes, x_registers, x_pageCounts, x_pageFrames, x_held, x_frameUsers, x_frameWords, x_openHolders, x_openKinds, x_openTargets, x_openPlaces, x_openModes, x_pipeFirsts, x_pipeCounts, x_pipeWords, x_nameFiles, x_fileSizes, x_fileWords, x_safeNames, x_safeSizes, x_safeWords, x_saidInts) (nI s) 11) ∧ (∀ post : SY → Prop, post v' → wY_call_127 post (nI s) 11 (x_registers (4 * s)) (x_registers (4 * s + 1)) x_changes y_time y_last y_lastPid y_did x_greatestPid x_latestPid x_saidCount 0 y_ops y_as y_bs x_codeLengths x_pids x_parents x_programs x_places x_statuses x_stepCounts x_copyCounts y_pages y_wake y_zombie y_blocked x_registers y_memory y_frame x_held y_kind x_openTargets y_mode x_openPlaces x_pipeCounts y_pipe x_nameFiles y_size x_fileWords x_safeNames y_safeSize x_safeWords y_said) ∧ uk_R y_time t (b + 1) u' v' := by
  obtain ⟨_, vs, es⟩ := uk_lp 8 hs (by decide)
  obtain ⟨c, ec, hc⟩ := uk_aC A
  have hH := uk_aHd A s hs hp hz
  have hHo := uk_aHo A
  have hOk := uk_aOk A
  have hFi := uk_aFi A
  have hki0 : ∀ o, o < 12 → (y_kind o = 0 ↔ x_openHolders o = 0) := fun o ho => uk_ki0 (P := x_pids) (zo := y_zombie) (H := x_held) hOk ho
  have hffo : uk_ff (fun o => y_kind o = 0) 12 = uk_fg (fun o => x_openHolders o = 0) 12 0 := uk_ffc 12 hki0
  have ec1 : x_changes + 1 = nI (c + 1) := by rw [ec]; exact nI_1 c
  by_cases hv : vp_in (x_registers (4 * s)) 8
  · by_cases hm : uk_mode (x_registers (4 * s + 1))
    · have k8 := uk_inc hv
      rcases uk_fgs (fun d => x_held (6 * s + d) = -1) 6 0 with ⟨fd, _⟩ | ⟨d, _, hd', fd, fd1, _⟩
      · refine ⟨_, _, fun post h => ?_, fun post h => ?_, uk_end0 (g := -1) A hs hp hz hb⟩
        · unfold wpX_doCall
          refine nm_r (uk_m4 s) ⟨vp_in_nI (by omega) (by decide), nm_r (uk_rg0 x_registers hs) ⟨uk_rgv hs, nm_r (uk_rg1 x_registers hs) (br_f (by decide) (br_f (by decide) (br_f (by decide) (br_f (by decide) (br_f (by decide) (br_f (by decide) (br_f (by decide) (br_f (by decide) (br_f (by decide) (br_f (by decide) (br_f (by decide) (br_f (by decide) (br_f (by decide) (br_t rfl ?_))))))))))))))⟩⟩
          unfold wpX_openName
          refine xk_freeDescriptor (j := 0) hs (by decide) (xk_freeOpen (j := 0) (by decide) (xk_isName (fun _ => br_f (by decide) (xk_isMode (fun _ => br_f (by decide) ?_) (fun z => absurd hm z))) (fun z => absurd hv z)))
          rw [show uk_fg (fun d => x_held (6 * s + d) = -1) (6 - 0) 0 = -1 from fd]
          exact br_t rfl (xk_tail0 hs ec hc h)
        · unfold wY_call_127
          refine br_t (by decide) (br_t (by decide) ?_)
          unfold wpY_others
          refine br_f (by decide) (br_f (by decide) (br_t rfl (yk_mode (fun z => absurd ⟨hv, hm⟩ z) (fun _ _ => ?_))))
          unfold wY_openName_41
          refine yk_freeDescriptor (j := 0) hs (by decide) hH (yk_freeOpen ?_)
          rw [show uk_fg (fun d => x_held (6 * s + d) = -1) (6 - 0) 0 = -1 from fd]
          have k114 : ∀ (o6 x6 x7 : Int32), wY_openName_114 (fun r u => match u with | (y_changes, y_time, y_last, y_lastPid, y_did, y_greatest, y_stepped, y_says, y_killed, y_ops, y_as, y_bs, y_length, y_pid, y_parent, y_program, y_pc, y_status, y_steps, y_copies, y_pages, y_wake, y_zombie, y_blocked, y_reg, y_memory, y_frame, y_descriptor, y_kind, y_of, y_mode, y_place, y_piped, y_pipe, y_names, y_size, y_words, y_safeNames, y_safeSize, y_safeWords, y_said) => wY_call_169 post (nI s) r y_changes y_time y_last y_lastPid y_did y_greatest y_stepped y_says y_killed y_ops y_as y_bs y_length y_pid y_parent y_program y_pc y_status y_steps y_copies y_pages y_wake y_zombie y_blocked y_reg y_memory y_frame y_descriptor y_kind y_of y_mode y_place y_piped y_pipe y_names y_size y_words y_safeNames y_safeSize y_safeWords y_said) (nI s) (x_registers (4 * s)) (x_registers (4 * s + 1)) (-1) o6 x6 x7 x_changes y_time y_last y_lastPid y_did x_greatestPid x_latestPid x_saidCount 0 y_ops y_as y_bs x_codeLengths x_pids x_parents x_programs x_places x_statuses x_stepCounts x_copyCounts y_pages y_wake y_zombie y_blocked x_registers y_memory y_frame x_held y_kind x_openTargets y_mode x_openPlaces x_pipeCounts y_pipe x_nameFiles y_size x_fileWords x_safeNames y_safeSize x_safeWords y_said := fun _ _ _ => br_t (by decide) (yk_tail0 hs h)
          refine ⟨hv, nm_e ⟨fun _ => ⟨1, br_f (by decide) (br_t rfl (k114 _ _ _))⟩, fun w => ⟨fun _ => ⟨1, br_f (by decide) (br_t rfl (k114 _ _ _))⟩, fun _ => ?_⟩⟩⟩
          have eN : x_nameFiles (x_registers (4 * s)).toNatClampNeg = -1 := by
            rcases hFi.1 _ k8 with z | z
            · exact z
            · exact absurd (Int32.not_lt.mp (not_or.mp z).1) w
          rw [eN]
          exact yk_least (k114 _ _ _)
      have hd : d < 6 := by omega
      rcases uk_fgs (fun o => x_openHolders o = 0) 12 0 with ⟨fo, _⟩ | ⟨o, _, ho', fo, fo1, _⟩
      · refine ⟨_, _, fun post h => ?_, fun post h => ?_, uk_end0 (g := -1) A hs hp hz hb⟩
        · unfold wpX_doCall
          refine nm_r (uk_m4 s) ⟨vp_in_nI (by omega) (by decide), nm_r (uk_rg0 x_registers hs) ⟨uk_rgv hs, nm_r (uk_rg1 x_registers hs) (br_f (by decide) (br_f (by decide) (br_f (by decide) (br_f (by decide) (br_f (by decide) (br_f (by decide) (br_f (by decide) (br_f (by decide) (br_f (by decide) (br_f (by decide) (br_f (by decide) (br_f (by decide) (br_f (by decide) (br_t rfl ?_))))))))))))))⟩⟩
          unfold wpX_openName
          refine xk_freeDescriptor (j := 0) hs (by decide) (xk_freeOpen (j := 0) (by decide) (xk_isName (fun _ => br_f (by decide) (xk_isMode (fun _ => br_f (by decide) ?_) (fun z => absurd hm z))) (fun z => absurd hv z)))
          rw [show uk_fg (fun d => x_held (6 * s + d) = -1) (6 - 0) 0 = nI d from fd, show uk_fg (fun o => x_openHolders o = 0) (12 - 0) 0 = -1 from fo]
          exact br_f (uk_ne1 (by omega)) (br_t rfl (xk_tail0 hs ec hc h))
        · unfold wY_call_127
          refine br_t (by decide) (br_t (by decide) ?_)
          unfold wpY_others
          refine br_f (by decide) (br_f (by decide) (br_t rfl (yk_mode (fun z => absurd ⟨hv, hm⟩ z) (fun _ _ => ?_))))
          unfold wY_openName_41
          refine yk_freeDescriptor (j := 0) hs (by decide) hH (yk_freeOpen ?_)
          rw [show uk_fg (fun d => x_held (6 * s + d) = -1) (6 - 0) 0 = nI d from fd, hffo, fo]
          have k114 : ∀ (x6 x7 : Int32), wY_openName_114 (fun r u => match u with | (y_changes, y_time, y_last, y_lastPid, y_did, y_greatest, y_stepped, y_says, y_killed, y_ops, y_as, y_bs, y_length, y_pid, y_parent, y_program, y_pc, y_status, y_steps, y_copies, y_pages, y_wake, y_zombie, y_blocked, y_reg, y_memory, y_frame, y_descriptor, y_kind, y_of, y_mode, y_place, y_piped, y_pipe, y_names, y_size, y_words, y_safeNames, y_safeSize, y_safeWords, y_said) => wY_call_169 post (nI s) r y_changes y_time y_last y_lastPid y_did y_greatest y_stepped y_says y_killed y_ops y_as y_bs y_length y_pid y_parent y_program y_pc y_status y_steps y_copies y_pages y_wake y_zombie y_blocked y_reg y_memory y_frame y_descriptor y_kind y_of y_mode y_place y_piped y_pipe y_names y_size y_words y_safeNames y_safeSize y_safeWords y_said) (nI s) (x_registers (4 * s)) (x_registers (4 * s + 1)) (nI d) (-1) x6 x7 x_changes y_time y_last y_lastPid y_did x_greatestPid x_latestPid x_saidCount 0 y_ops y_as y_bs x_codeLengths x_pids x_parents x_programs x_places x_statuses x_stepCounts x_copyCounts y_pages y_wake y_zombie y_blocked x_registers y_memory y_frame x_held y_kind x_openTargets y_mode x_openPlaces x_pipeCounts y_pipe x_nameFiles y_size x_fileWords x_safeNames y_safeSize x_safeWords y_said := fun _ _ => br_f (nI_pos (by omega)) (br_t (by decide) (yk_tail0 hs h))
          refine ⟨hv, nm_e ⟨fun _ => ⟨1, br_f (by decide) (br_t rfl (k114 _ _))⟩, fun w => ⟨fun _ => ⟨1, br_f (by decide) (br_t rfl (k114 _ _))⟩, fun _ => ?_⟩⟩⟩
          have eN : x_nameFiles (x_registers (4 * s)).toNatClampNeg = -1 := by
            rcases hFi.1 _ k8 with z | z
            · exact z
            · exact absurd (Int32.not_lt.mp (not_or.mp z).1) w
          rw [eN]
          exact yk_least (k114 _ _)
      have ho : o < 12 := by omega
      have ef1 : uk_ff (fun o => y_kind o = 0) 12 = nI o := hffo.trans fo
      have hk0 : y_kind o = 0 := (hki0 o ho).mpr fo1
      have hk01 : y_kind o ≠ 1 := by rw [hk0]; decide
      have vo0 : 0 ≤ nI o := nI_pos' (by omega)
      have nd0 : ¬ nI d < 0 := nI_pos (by omega)
      have no0 : ¬ nI o < 0 := nI_pos (by omega)
      rcases hFi.1 _ k8 with eN | vN
      · by_cases h4 : x_registers (4 * s + 1) &&& 4 = 0
        · refine ⟨_, _, fun post h => ?_, fun post h => ?_, uk_end0 (g := -1) A hs hp hz hb⟩
          · unfold wpX_doCall
            refine nm_r (uk_m4 s) ⟨vp_in_nI (by omega) (by decide), nm_r (uk_rg0 x_registers hs) ⟨uk_rgv hs, nm_r (uk_rg1 x_registers hs) (br_f (by decide) (br_f (by decide) (br_f (by decide) (br_f (by decide) (br_f (by decide) (br_f (by decide) (br_f (by decide) (br_f (by decide) (br_f (by decide) (br_f (by decide) (br_f (by decide) (br_f (by decide) (br_f (by decide) (br_t rfl ?_))))))))))))))⟩⟩
            unfold wpX_openName
            refine xk_freeDescriptor (j := 0) hs (by decide) (xk_freeOpen (j := 0) (by decide) (xk_isName (fun _ => br_f (by decide) (xk_isMode (fun _ => br_f (by decide) ?_) (fun z => absurd hm z))) (fun z => absurd hv z)))
            rw [show uk_fg (fun d => x_held (6 * s + d) = -1) (6 - 0) 0 = nI d from fd, show uk_fg (fun o => x_openHolders o = 0) (12 - 0) 0 = nI o from fo]
            refine br_f (uk_ne1 (by omega)) (br_f (uk_ne1 (by omega)) ⟨hv, ?_⟩)
            rw [eN]
            refine nm_e (br_t rfl (br_t h4 ?_))
            unfold wX_openName_69 wX_openName_70
            refine br_t rfl ?_
            unfold wX_openName_83
            exact br_t rfl (xk_tail0 hs ec hc h)
          · unfold wY_call_127
            refine br_t (by decide) (br_t (by decide) ?_)
            unfold wpY_others
            refine br_f (by decide) (br_f (by decide) (br_t rfl (yk_mode (fun z => absurd ⟨hv, hm⟩ z) (fun _ _ => ?_))))
            unfold wY_openName_41
            refine yk_freeDescriptor (j := 0) hs (by decide) hH (yk_freeOpen ?_)
            rw [show uk_fg (fun d => x_held (6 * s + d) = -1) (6 - 0) 0 = nI d from fd, ef1]
            refine ⟨hv, ?_⟩
            rw [eN]
            refine nm_e (br_f (by decide) (br_t h4 ⟨1, br_f (by decide) (br_t rfl ?_)⟩))
            exact br_f nd0 (br_f no0 (br_f (by decide) (yk_tail0 hs h)))
        · rcases uk_ffs (fun f => uk_fre x_nameFiles y_kind x_openTargets f) 8 with ⟨ff, _⟩ | ⟨f, hf, ff, ff1, _⟩
          · refine ⟨_, _, fun post h => ?_, fun post h => ?_, uk_end0 (g := -1) A hs hp hz hb⟩
            · unfold wpX_doCall
              refine nm_r (uk_m4 s) ⟨vp_in_nI (by omega) (by decide), nm_r (uk_rg0 x_registers hs) ⟨uk_rgv hs, nm_r (uk_rg1 x_registers hs) (br_f (by decide) (br_f (by decide) (br_f (by decide) (br_f (by decide) (br_f (by decide) (br_f (by decide) (br_f (by decide) (br_f (by decide) (br_f (by decide) (br_f (by decide) (br_f (by decide) (br_f (by decide) (br_f (by decide) (br_t rfl ?_))))))))))))))⟩⟩
              unfold wpX_openName
              refine xk_freeDescriptor (j := 0) hs (by decide) (xk_freeOpen (j := 0) (by decide) (xk_isName (fun _ => br_f (by decide) (xk_isMode (fun _ => br_f (by decide) ?_) (fun z => absurd hm z))) (fun z => absurd hv z)))
              rw [show uk_fg (fun d => x_held (6 * s + d) = -1) (6 - 0) 0 = nI d from fd, show uk_fg (fun o => x_openHolders o = 0) (12 - 0) 0 = nI o from fo]
              refine br_f (uk_ne1 (by omega)) (br_f (uk_ne1 (by omega)) ⟨hv, ?_⟩)
              rw [eN]
              refine nm_e (br_t rfl (br_f h4 ?_))
              unfold wX_openName_70
              refine br_f (by decide) (xk_freeFile hOk hHo ?_)
              rw [ff]
              unfold wX_openName_83
              exact br_t rfl (xk_tail0 hs ec hc h)
            · unfold wY_call_127
              refine br_t (by decide) (br_t (by decide) ?_)
              unfold wpY_others
              refine br_f (by decide) (br_f (by decide) (br_t rfl (yk_mode (fun z => absurd ⟨hv, hm⟩ z) (fun _ _ => ?_))))
              unfold wY_openName_41
              refine yk_freeDescriptor (j := 0) hs (by decide) hH (yk_freeOpen ?_)
              rw [show uk_fg (fun d => x_held (6 * s + d) = -1) (6 - 0) 0 = nI d from fd, ef1]
              refine ⟨hv, ?_⟩
              rw [eN]
              refine nm_e (br_f (by decide) (br_f h4 (yk_least ?_)))
              rw [ff]
              exact br_f nd0 (br_f no0 (br_f (by decide) (yk_tail0 hs h)))
          · have hFi0 := uk_Fi_mk hFi k8 hf eN
            have A0 : uk_All t b x_changes x_saidCount x_time x_lastSlot x_sliceSteps x_latestPid x_greatestPid x_code x_codeLengths x_pids x_parents x_programs x_places x_states x_statuses x_stepCounts x_copyCounts x_wakeTimes x_registers x_pageCounts x_pageFrames x_held x_frameUsers x_frameWords x_openHolders x_openKinds x_openTargets x_openPlaces x_openModes x_pipeFirsts x_pipeCounts x_pipeWords (upd x_nameFiles (x_registers (4 * s)).toNatClampNeg (nI f)) (upd x_fileSizes f 0) x_fileWords x_safeNames x_safeSizes x_safeWords x_saidInts y_time y_last y_lastPid y_did y_killed y_ops y_as y_bs y_pages y_wake y_zombie y_blocked y_memory y_frame y_kind y_mode y_pipe (upd y_size f 0) y_safeSize y_said := ⟨uk_aG A, uk_aN A, uk_aC A, uk_aeT A, uk_aPr A, uk_aPs A, uk_aMe A, uk_aFu A, uk_aHd A, uk_aHo A, uk_aOk A, uk_aPi A, hFi0, uk_aSa A, uk_aSc A, uk_aWk A⟩
            have A1 := uk_newo (k := 1) (tg := nI f) (xm := x_registers (4 * s + 1)) (ym := x_registers (4 * s + 1)) A0 hs hp hz hb hd ho fd1 fo1 (Or.inl ⟨rfl, rfl, hm.2.1, vp_in_nI hf (by decide)⟩) (uk_nw_Fi2 hFi0 ho hk01 hf (pk_us.trans pk_us.symm))
            have vf : vp_in (nI f) 8 := vp_in_nI hf (by decide)
            have hX : ∀ post : SX → Prop, wX_doCall_344 post (nI (4 * s)) (nI d) (nI (c + 1)) x_saidCount x_time x_lastSlot x_sliceSteps x_latestPid x_greatestPid x_code x_codeLengths x_pids x_parents x_programs x_places x_states x_statuses x_stepCounts x_copyCounts x_wakeTimes x_registers x_pageCounts x_pageFrames (upd x_held (6 * s + d) (nI o)) x_frameUsers x_frameWords (upd x_openHolders o 1) (upd x_openKinds o 1) (upd x_openTargets o (nI f)) (upd x_openPlaces o 0) (upd x_openModes o (x_registers (4 * s + 1))) x_pipeFirsts x_pipeCounts x_pipeWords (upd x_nameFiles (x_registers (4 * s)).toNatClampNeg (nI f)) (upd x_fileSizes f 0) x_fileWords x_safeNames x_safeSizes x_safeWords x_saidInts → wpX_doCall post (x_changes, x_saidCount, x_time, x_lastSlot, x_sliceSteps, x_latestPid, x_greatestPid, x_code, x_codeLengths, x_pids, x_parents, x_programs, x_places, x_states, x_statuses, x_stepCounts, x_copyCounts, x_wakeTimes, x_registers, x_pageCounts, x_pageFrames, x_held, x_frameUsers, x_frameWords, x_openHolders, x_openKinds, x_openTargets, x_openPlaces, x_openModes, x_pipeFirsts, x_pipeCounts, x_pipeWords, x_nameFiles, x_fileSizes, x_fileWords, x_safeNames, x_safeSizes, x_safeWords, x_saidInts) (nI s) 11 := fun post h => by
              unfold wpX_doCall
              refine nm_r (uk_m4 s) ⟨vp_in_nI (by omega) (by decide), nm_r (uk_rg0 x_registers hs) ⟨uk_rgv hs, nm_r (uk_rg1 x_registers hs) (br_f (by decide) (br_f (by decide) (br_f (by decide) (br_f (by decide) (br_f (by decide) (br_f (by decide) (br_f (by decide) (br_f (by decide) (br_f (by decide) (br_f (by decide) (br_f (by decide) (br_f (by decide) (br_f (by decide) (br_t rfl ?_))))))))))))))⟩⟩
              unfold wpX_openName
              refine xk_freeDescriptor (j := 0) hs (by decide) (xk_freeOpen (j := 0) (by decide) (xk_isName (fun _ => br_f (by decide) (xk_isMode (fun _ => br_f (by decide) ?_) (fun z => absurd hm z))) (fun z => absurd hv z)))
              rw [show uk_fg (fun d => x_held (6 * s + d) = -1) (6 - 0) 0 = nI d from fd, show uk_fg (fun o => x_openHolders o = 0) (12 - 0) 0 = nI o from fo]
              refine br_f (uk_ne1 (by omega)) (br_f (uk_ne1 (by omega)) ⟨hv, ?_⟩)
              rw [eN]
              refine nm_e (br_t rfl (br_f h4 ?_))
              unfold wX_openName_70
              refine br_f (by decide) (xk_freeFile hOk hHo ?_)
              rw [ff]
              unfold wX_openName_83
              refine br_f (uk_ne1 (by omega)) (br_f (by decide) ?_)
              unfold wX_openName_103
              refine ⟨hv, nm_e ⟨vf, ?_⟩⟩
              rw [nI_clamp (show f < 2 ^ 31 by omega)]
              refine nm_e (nm_r ec1 ?_)
              unfold wX_openName_129
              exact xk_take hs hd ho h
            have hY : ∀ post : SY → Prop, wpY_change (fun u => match u with | (y_changes, y_time, y_last, y_lastPid, y_did, y_greatest, y_stepped, y_says, y_killed, y_ops, y_as, y_bs, y_length, y_pid, y_parent, y_program, y_pc, y_status, y_steps, y_copies, y_pages, y_wake, y_zombie, y_blocked, y_reg, y_memory, y_frame, y_descriptor, y_kind, y_of, y_mode, y_place, y_piped, y_pipe, y_names, y_size, y_words, y_safeNames, y_safeSize, y_safeWords, y_said) => wY_call_169 post (nI s) (nI d) y_changes y_time y_last y_lastPid y_did y_greatest y_stepped y_says y_killed y_ops y_as y_bs y_length y_pid y_parent y_program y_pc y_status y_steps y_copies y_pages y_wake y_zombie y_blocked y_reg y_memory y_frame y_descriptor y_kind y_of y_mode y_place y_piped y_pipe y_names y_size y_words y_safeNames y_safeSize y_safeWords y_said) (x_changes, y_time, y_last, y_lastPid, y_did, x_greatestPid, x_latestPid, x_saidCount, 0, y_ops, y_as, y_bs, x_codeLengths, x_pids, x_parents, x_programs, x_places, x_statuses, x_stepCounts, x_copyCounts, y_pages, y_wake, y_zombie, y_blocked, x_registers, y_memory, y_frame, upd x_held (6 * s + d) (nI o), upd y_kind o 1, upd x_openTargets o (nI f), upd y_mode o (x_registers (4 * s + 1)), upd x_openPlaces o 0, x_pipeCounts, y_pipe, upd x_nameFiles (x_registers (4 * s)).toNatClampNeg (nI f), upd y_size f 0, x_fileWords, x_safeNames, y_safeSize, x_safeWords, y_said) → wY_call_127 post (nI s) 11 (x_registers (4 * s)) (x_registers (4 * s + 1)) x_changes y_time y_last y_lastPid y_did x_greatestPid x_latestPid x_saidCount 0 y_ops y_as y_bs x_codeLengths x_pids x_parents x_programs x_places x_statuses x_stepCounts x_copyCounts y_pages y_wake y_zombie y_blocked x_registers y_memory y_frame x_held y_kind x_openTargets y_mode x_openPlaces x_pipeCounts y_pipe x_nameFiles y_size x_fileWords x_safeNames y_safeSize x_safeWords y_said := fun post h => by
              unfold wY_call_127
              refine br_t (by decide) (br_t (by decide) ?_)
              unfold wpY_others
              refine br_f (by decide) (br_f (by decide) (br_t rfl (yk_mode (fun z => absurd ⟨hv, hm⟩ z) (fun _ _ => ?_))))
              unfold wY_openName_41
              refine yk_freeDescriptor (j := 0) hs (by decide) hH (yk_freeOpen ?_)
              rw [show uk_fg (fun d => x_held (6 * s + d) = -1) (6 - 0) 0 = nI d from fd, ef1]
              refine ⟨hv, ?_⟩
              rw [eN]
              refine nm_e (br_f (by decide) (br_f h4 (yk_least ?_)))
              rw [ff]
              refine br_f nd0 (br_f no0 (br_t (nI_pos' (by omega)) (br_f (by decide) ?_)))
              unfold wY_openName_147 wY_openName_148
              refine br_f (by decide) ?_
              unfold wY_openName_160
              refine ⟨vf, ?_⟩
              rw [nI_clamp (show f < 2 ^ 31 by omega)]
              refine nm_e ?_
              unfold wY_openName_168
              refine ⟨hv, nm_e (yk_take hs hd ho (br_f (by decide) ?_))⟩
              unfold wY_openName_199
              exact h
            by_cases hc1 : c + 1 = 30
            · exact ⟨_, _, fun post h => hX post (xk_tail1 hs (congrArg nI hc1) h), fun post h => hY post (yk_change ec hc (fun z => absurd hc1 z) (fun _ => yk_tail0 hs h)), uk_endc2 (g := nI d) A1 hs hp hz hb⟩
            · exact ⟨_, _, fun post h => hX post (xk_tail0 hs rfl (by omega) h), fun post h => hY post (yk_change ec hc (fun _ => yk_tail0 hs h) (fun z => absurd z hc1)), uk_endc1 (g := nI d) (c := c) A1 hs hp hz hb (by omega)⟩
      · obtain ⟨f, hf, eN⟩ := vp_in_of vN (by decide)
        have hnf : ¬ uk_fre x_nameFiles y_kind x_openTargets f := fun z => z.1 _ k8 eN
        have vf : vp_in (nI f) 8 := vp_in_nI hf (by decide)
        have f0 : 0 ≤ nI f := nI_pos' (by omega)
        have nf1 : ¬ nI f = -1 := uk_ne1 (by omega)
        have eu : upd x_nameFiles (x_registers (4 * s)).toNatClampNeg (nI f) = x_nameFiles := by rw [← eN]; exact uk_uself _ _
        by_cases h8 : x_registers (4 * s + 1) &&& 8 = 0
        · have A1 := uk_newo (k := 1) (tg := nI f) (xm := x_registers (4 * s + 1)) (ym := x_registers (4 * s + 1)) A hs hp hz hb hd ho fd1 fo1 (Or.inl ⟨rfl, rfl, hm.2.1, vf⟩) (uk_nw_Fi2 hFi ho hk01 hf ((hFi.2 f hf).2.2 hnf))
          refine ⟨_, _, fun post h => ?_, fun post h => ?_, uk_end0 (g := nI d) A1 hs hp hz hb⟩
          · unfold wpX_doCall
            refine nm_r (uk_m4 s) ⟨vp_in_nI (by omega) (by decide), nm_r (uk_rg0 x_registers hs) ⟨uk_rgv hs, nm_r (uk_rg1 x_registers hs) (br_f (by decide) (br_f (by decide) (br_f (by decide) (br_f (by decide) (br_f (by decide) (br_f (by decide) (br_f (by decide) (br_f (by decide) (br_f (by decide) (br_f (by decide) (br_f (by decide) (br_f (by decide) (br_f (by decide) (br_t rfl ?_))))))))))))))⟩⟩
            unfold wpX_openName
            refine xk_freeDescriptor (j := 0) hs (by decide) (xk_freeOpen (j := 0) (by decide) (xk_isName (fun _ => br_f (by decide) (xk_isMode (fun _ => br_f (by decide) ?_) (fun z => absurd hm z))) (fun z => absurd hv z)))
            rw [show uk_fg (fun d => x_held (6 * s + d) = -1) (6 - 0) 0 = nI d from fd, show uk_fg (fun o => x_openHolders o = 0) (12 - 0) 0 = nI o from fo]
            refine br_f (uk_ne1 (by omega)) (br_f (uk_ne1 (by omega)) ⟨hv, ?_⟩)
            rw [eN]
            refine nm_e (br_f nf1 ?_)
            unfold wX_openName_69 wX_openName_70
            refine br_t rfl ?_
            unfold wX_openName_83
            refine br_f nf1 (br_t rfl (br_t h8 ?_))
            unfold wX_openName_129
            exact xk_take hs hd ho (xk_tail0 hs ec hc h)
          · unfold wY_call_127
            refine br_t (by decide) (br_t (by decide) ?_)
            unfold wpY_others
            refine br_f (by decide) (br_f (by decide) (br_t rfl (yk_mode (fun z => absurd ⟨hv, hm⟩ z) (fun _ _ => ?_))))
            unfold wY_openName_41
            refine yk_freeDescriptor (j := 0) hs (by decide) hH (yk_freeOpen ?_)
            rw [show uk_fg (fun d => x_held (6 * s + d) = -1) (6 - 0) 0 = nI d from fd, ef1]
            refine ⟨hv, ?_⟩
            rw [eN]
            refine nm_e (br_t f0 ⟨1, br_f (by decide) (br_t rfl ?_)⟩)
            refine br_f nd0 (br_f no0 (br_t f0 (br_t rfl (br_t h8 ?_))))
            unfold wY_openName_147 wY_openName_148
            refine br_t rfl (br_t rfl ?_)
            unfold wY_openName_168
            exact ⟨hv, nm_r eu (yk_take hs hd ho (br_t rfl (br_t rfl (yk_tail0 hs h))))⟩
        · have hFi0 := uk_Fi_sz (x := 0) hFi (vp_in_nI (n := 0) (by decide) (by decide)) hnf
          have A0 : uk_All t b x_changes x_saidCount x_time x_lastSlot x_sliceSteps x_latestPid x_greatestPid x_code x_codeLengths x_pids x_parents x_programs x_places x_states x_statuses x_stepCounts x_copyCounts x_wakeTimes x_registers x_pageCounts x_pageFrames x_held x_frameUsers x_frameWords x_openHolders x_openKinds x_openTargets x_openPlaces x_openModes x_pipeFirsts x_pipeCounts x_pipeWords x_nameFiles (upd x_fileSizes f 0) x_fileWords x_safeNames x_safeSizes x_safeWords x_saidInts y_time y_last y_lastPid y_did y_killed y_ops y_as y_bs y_pages y_wake y_zombie y_blocked y_memory y_frame y_kind y_mode y_pipe (upd y_size f 0) y_safeSize y_said := ⟨uk_aG A, uk_aN A, uk_aC A, uk_aeT A, uk_aPr A, uk_aPs A, uk_aMe A, uk_aFu A, uk_aHd A, uk_aHo A, uk_aOk A, uk_aPi A, hFi0, uk_aSa A, uk_aSc A, uk_aWk A⟩
          have A1 := uk_newo (k := 1) (tg := nI f) (xm := x_registers (4 * s + 1)) (ym := x_registers (4 * s + 1)) A0 hs hp hz hb hd ho fd1 fo1 (Or.inl ⟨rfl, rfl, hm.2.1, vf⟩) (uk_nw_Fi2 hFi0 ho hk01 hf (pk_us.trans pk_us.symm))
          have hX : ∀ post : SX → Prop, wX_doCall_344 post (nI (4 * s)) (nI d) (nI (c + 1)) x_saidCount x_time x_lastSlot x_sliceSteps x_latestPid x_greatestPid x_code x_codeLengths x_pids x_parents x_programs x_places x_states x_statuses x_stepCounts x_copyCounts x_wakeTimes x_registers x_pageCounts x_pageFrames (upd x_held (6 * s + d) (nI o)) x_frameUsers x_frameWords (upd x_openHolders o 1) (upd x_openKinds o 1) (upd x_openTargets o (nI f)) (upd x_openPlaces o 0) (upd x_openModes o (x_registers (4 * s + 1))) x_pipeFirsts x_pipeCounts x_pipeWords x_nameFiles (upd x_fileSizes f 0) x_fileWords x_safeNames x_safeSizes x_safeWords x_saidInts → wpX_doCall post (x_changes, x_saidCount, x_time, x_lastSlot, x_sliceSteps, x_latestPid, x_greatestPid, x_code, x_codeLengths, x_pids, x_parents, x_programs, x_places, x_states, x_statuses, x_stepCounts, x_copyCounts, x_wakeTimes, x_registers, x_pageCounts, x_pageFrames, x_held, x_frameUsers, x_frameWords, x_openHolders, x_openKinds, x_openTargets, x_openPlaces, x_openModes, x_pipeFirsts, x_pipeCounts, x_pipeWords, x_nameFiles, x_fileSizes, x_fileWords, x_safeNames, x_safeSizes, x_safeWords, x_saidInts) (nI s) 11 := fun post h => by
            unfold wpX_doCall
            refine nm_r (uk_m4 s) ⟨vp_in_nI (by omega) (by decide), nm_r (uk_rg0 x_registers hs) ⟨uk_rgv hs, nm_r (uk_rg1 x_registers hs) (br_f (by decide) (br_f (by decide) (br_f (by decide) (br_f (by decide) (br_f (by decide) (br_f (by decide) (br_f (by decide) (br_f (by decide) (br_f (by decide) (br_f (by decide) (br_f (by decide) (br_f (by decide) (br_f (by decide) (br_t rfl ?_))))))))))))))⟩⟩
            unfold wpX_openName
            refine xk_freeDescriptor (j := 0) hs (by decide) (xk_freeOpen (j := 0) (by decide) (xk_isName (fun _ => br_f (by decide) (xk_isMode (fun _ => br_f (by decide) ?_) (fun z => absurd hm z))) (fun z => absurd hv z)))
            rw [show uk_fg (fun d => x_held (6 * s + d) = -1) (6 - 0) 0 = nI d from fd, show uk_fg (fun o => x_openHolders o = 0) (12 - 0) 0 = nI o from fo]
            refine br_f (uk_ne1 (by omega)) (br_f (uk_ne1 (by omega)) ⟨hv, ?_⟩)
            rw [eN]
            refine nm_e (br_f nf1 ?_)
            unfold wX_openName_69 wX_openName_70
            refine br_t rfl ?_
            unfold wX_openName_83
            refine br_f nf1 (br_t rfl (br_f h8 ?_))
            unfold wX_openName_103
            refine ⟨hv, nm_r eu ⟨vf, ?_⟩⟩
            rw [nI_clamp (show f < 2 ^ 31 by omega)]
            refine nm_e (nm_r ec1 ?_)
            unfold wX_openName_129
            exact xk_take hs hd ho h
          have hY : ∀ post : SY → Prop, wpY_change (fun u => match u with | (y_changes, y_time, y_last, y_lastPid, y_did, y_greatest, y_stepped, y_says, y_killed, y_ops, y_as, y_bs, y_length, y_pid, y_parent, y_program, y_pc, y_status, y_steps, y_copies, y_pages, y_wake, y_zombie, y_blocked, y_reg, y_memory, y_frame, y_descriptor, y_kind, y_of, y_mode, y_place, y_piped, y_pipe, y_names, y_size, y_words, y_safeNames, y_safeSize, y_safeWords, y_said) => wY_call_169 post (nI s) (nI d) y_changes y_time y_last y_lastPid y_did y_greatest y_stepped y_says y_killed y_ops y_as y_bs y_length y_pid y_parent y_program y_pc y_status y_steps y_copies y_pages y_wake y_zombie y_blocked y_reg y_memory y_frame y_descriptor y_kind y_of y_mode y_place y_piped y_pipe y_names y_size y_words y_safeNames y_safeSize y_safeWords y_said) (x_changes, y_time, y_last, y_lastPid, y_did, x_greatestPid, x_latestPid, x_saidCount, 0, y_ops, y_as, y_bs, x_codeLengths, x_pids, x_parents, x_programs, x_places, x_statuses, x_stepCounts, x_copyCounts, y_pages, y_wake, y_zombie, y_blocked, x_registers, y_memory, y_frame, upd x_held (6 * s + d) (nI o), upd y_kind o 1, upd x_openTargets o (nI f), upd y_mode o (x_registers (4 * s + 1)), upd x_openPlaces o 0, x_pipeCounts, y_pipe, x_nameFiles, upd y_size f 0, x_fileWords, x_safeNames, y_safeSize, x_safeWords, y_said) → wY_call_127 post (nI s) 11 (x_registers (4 * s)) (x_registers (4 * s + 1)) x_changes y_time y_last y_lastPid y_did x_greatestPid x_latestPid x_saidCount 0 y_ops y_as y_bs x_codeLengths x_pids x_parents x_programs x_places x_statuses x_stepCounts x_copyCounts y_pages y_wake y_zombie y_blocked x_registers y_memory y_frame x_held y_kind x_openTargets y_mode x_openPlaces x_pipeCounts y_pipe x_nameFiles y_size x_fileWords x_safeNames y_safeSize x_safeWords y_said := fun post h => by
            unfold wY_call_127
            refine br_t (by decide) (br_t (by decide) ?_)
            unfold wpY_others
            refine br_f (by decide) (br_f (by decide) (br_t rfl (yk_mode (fun z => absurd ⟨hv, hm⟩ z) (fun _ _ => ?_))))
            unfold wY_openName_41
            refine yk_freeDescriptor (j := 0) hs (by decide) hH (yk_freeOpen ?_)
            rw [show uk_fg (fun d => x_held (6 * s + d) = -1) (6 - 0) 0 = nI d from fd, ef1]
            refine ⟨hv, ?_⟩
            rw [eN]
            refine nm_e (br_t f0 ⟨1, br_f (by decide) (br_t rfl ?_)⟩)
            refine br_f nd0 (br_f no0 (br_t f0 (br_t rfl (br_f h8 ?_))))
            unfold wY_openName_148
            refine br_t rfl (br_f (by decide) ?_)
            unfold wY_openName_160
            refine ⟨vf, ?_⟩
            rw [nI_clamp (show f < 2 ^ 31 by omega)]
            refine nm_e ?_
            unfold wY_openName_168
            refine ⟨hv, nm_r eu (yk_take hs hd ho (br_t rfl (br_f (by decide) ?_)))⟩
            unfold wY_openName_199
            exact h
          by_cases hc1 : c + 1 = 30
          · exact ⟨_, _, fun post h => hX post (xk_tail1 hs (congrArg nI hc1) h), fun post h => hY post (yk_change ec hc (fun z => absurd hc1 z) (fun _ => yk_tail0 hs h)), uk_endc2 (g := nI d) A1 hs hp hz hb⟩
          · exact ⟨_, _, fun post h => hX post (xk_tail0 hs rfl (by omega) h), fun post h => hY post (yk_change ec hc (fun _ => yk_tail0 hs h) (fun z => absurd z hc1)), uk_endc1 (g := nI d) (c := c) A1 hs hp hz hb (by omega)⟩
    · refine ⟨_, _, fun post h => ?_, fun post h => ?_, uk_end0 (g := -1) A hs hp hz hb⟩
      · unfold wpX_doCall
        refine nm_r (uk_m4 s) ⟨vp_in_nI (by omega) (by decide), nm_r (uk_rg0 x_registers hs) ⟨uk_rgv hs, nm_r (uk_rg1 x_registers hs) (br_f (by decide) (br_f (by decide) (br_f (by decide) (br_f (by decide) (br_f (by decide) (br_f (by decide) (br_f (by decide) (br_f (by decide) (br_f (by decide) (br_f (by decide) (br_f (by decide) (br_f (by decide) (br_f (by decide) (br_t rfl ?_))))))))))))))⟩⟩
        unfold wpX_openName
        exact xk_freeDescriptor (j := 0) hs (by decide) (xk_freeOpen (j := 0) (by decide) (xk_isName (fun _ => br_f (by decide) (xk_isMode (fun z => absurd z hm) (fun _ => br_t rfl (xk_tail0 hs ec hc h)))) (fun z => absurd hv z)))
      · unfold wY_call_127
        refine br_t (by decide) (br_t (by decide) ?_)
        unfold wpY_others
        exact br_f (by decide) (br_f (by decide) (br_t rfl (yk_mode (fun _ => yk_tail0 hs h) (fun _ z => absurd z hm))))
  · refine ⟨_, _, fun post h => ?_, fun post h => ?_, uk_end0 (g := -1) A hs hp hz hb⟩
    · unfold wpX_doCall
      refine nm_r (uk_m4 s) ⟨vp_in_nI (by omega) (by decide), nm_r (uk_rg0 x_registers hs) ⟨uk_rgv hs, nm_r (uk_rg1 x_registers hs) (br_f (by decide) (br_f (by decide) (br_f (by decide) (br_f (by decide) (br_f (by decide) (br_f (by decide) (br_f (by decide) (br_f (by decide) (br_f (by decide) (br_f (by decide) (br_f (by decide) (br_f (by decide) (br_f (by decide) (br_t rfl ?_))))))))))))))⟩⟩
      unfold wpX_openName
      exact xk_freeDescriptor (j := 0) hs (by decide) (xk_freeOpen (j := 0) (by decide) (xk_isName (fun z => absurd z hv) (fun _ => br_t rfl (xk_tail0 hs ec hc h))))
    · unfold wY_call_127
      refine br_t (by decide) (br_t (by decide) ?_)
      unfold wpY_others
      exact br_f (by decide) (br_f (by decide) (br_t rfl (yk_mode (fun _ => yk_tail0 hs h) (fun z _ => absurd z hv))))
end
