/-! the calls that only read, second part -/
section
variable {x_changes x_saidCount x_time x_lastSlot x_sliceSteps x_latestPid x_greatestPid : Int32} {x_code x_codeLengths x_pids x_parents x_programs x_places x_states x_statuses x_stepCounts x_copyCounts x_wakeTimes x_registers x_pageCounts x_pageFrames x_held x_frameUsers x_frameWords x_openHolders x_openKinds x_openTargets x_openPlaces x_openModes x_pipeFirsts x_pipeCounts x_pipeWords x_nameFiles x_fileSizes x_fileWords x_safeNames x_safeSizes x_safeWords x_saidInts : Nat → Int32} {y_time y_last y_lastPid y_did y_killed : Int32} {y_ops y_as y_bs y_pages y_wake y_zombie y_blocked y_memory y_frame y_kind y_mode y_pipe y_size y_safeSize y_said : Nat → Int32}
theorem xk_wordIndex {post : Int32 → Prop} {s n : Nat} {a : Int32} (hs : s < 8) (hn : x_pageCounts s = nI n) (hn8 : n ≤ 8) (hpf : ∀ p, p < n → vp_in (x_pageFrames (8 * s + p)) 20) (h0 : ¬ vp_in a (4 * n) → post (-1)) (h1 : ∀ j, j < 4 * n → a = nI j → post (nI (4 * (x_pageFrames (8 * s + j / 4)).toNatClampNeg + j % 4))) : wpX_wordIndex post (x_changes, x_saidCount, x_time, x_lastSlot, x_sliceSteps, x_latestPid, x_greatestPid, x_code, x_codeLengths, x_pids, x_parents, x_programs, x_places, x_states, x_statuses, x_stepCounts, x_copyCounts, x_wakeTimes, x_registers, x_pageCounts, x_pageFrames, x_held, x_frameUsers, x_frameWords, x_openHolders, x_openKinds, x_openTargets, x_openPlaces, x_openModes, x_pipeFirsts, x_pipeCounts, x_pipeWords, x_nameFiles, x_fileSizes, x_fileWords, x_safeNames, x_safeSizes, x_safeWords, x_saidInts) (nI s) a := by
  obtain ⟨_, vs, es⟩ := uk_lp 8 hs (by decide)
  unfold wpX_wordIndex
  refine ⟨fun c => h0 (fun z => (not_or.mp z).1 c), fun c => ⟨vs, ?_⟩⟩
  obtain ⟨j, hj, rfl⟩ := nI_of c
  rw [es, hn, uk_m4]
  refine ⟨fun d => ⟨by decide, ?_⟩, fun d => h0 (fun z => d (by
    have := uk_inc z
    rw [nI_clamp hj] at this
    exact nI_lt this (by omega)))⟩
  have hjn : j < 4 * n := (nI_ltI hj (by omega)).mp d
  have er : nI j - nI j / 4 * 4 = nI (j % 4) := pk_rem (d := 4) hj (by decide) (by decide)
  have e4 : nI j / 4 = nI (j / 4) := pk_div (d := 4) hj (by decide) (by decide)
  rw [er, e4, uk_m8, nI_add]
  refine ⟨vp_in_nI (by omega) (by decide), ?_⟩
  rw [nI_clamp (by omega)]
  have hv := hpf (j / 4) (by omega)
  have h2 := h1 j hjn rfl
  intro y ey
  refine ⟨by decide, ?_⟩
  rw [ey, ← uk_ofin hv, uk_m4, nI_add]
  exact h2
end
theorem uk_slot {P : Nat → Int32} {p : Int32} (h : ¬ p < 1) : (uk_ff (fun s => P s = p) 8 = -1) ∨ (∃ s, s < 8 ∧ uk_ff (fun s => P s = p) 8 = nI s ∧ P s = p ∧ P s ≠ 0) := by
  rcases uk_ffs (fun s => P s = p) 8 with ⟨a, _⟩ | ⟨s, hs, a, b, _⟩
  · exact Or.inl a
  · exact Or.inr ⟨s, hs, a, b, fun z => h (by rw [← b, z]; decide)⟩
theorem i_vc_sharing {k : Nat} {u : SX} {v : SY} (I : i_Rel k u v) (hk : k + 5 ≤ 2560) (v1 : Int32) (v2 : Int32) : wpX_sharing (fun r => wpY_sharing (fun r' => r' = r ∧ i_Rel (k + 5) u v) v v1 v2) u v1 v2 := by
  refine i_elim (C := fun u v => i_Rel (k + 5) u v → wpX_sharing (fun r => wpY_sharing (fun r' => r' = r ∧ i_Rel (k + 5) u v) v v1 v2) u v1 v2) I ?_ (i_up I)
  intro t b x_changes x_saidCount x_time x_lastSlot x_sliceSteps x_latestPid x_greatestPid x_code x_codeLengths x_pids x_parents x_programs x_places x_states x_statuses x_stepCounts x_copyCounts x_wakeTimes x_registers x_pageCounts x_pageFrames x_held x_frameUsers x_frameWords x_openHolders x_openKinds x_openTargets x_openPlaces x_openModes x_pipeFirsts x_pipeCounts x_pipeWords x_nameFiles x_fileSizes x_fileWords x_safeNames x_safeSizes x_safeWords x_saidInts y_time y_last y_lastPid y_did y_killed y_ops y_as y_bs y_pages y_wake y_zombie y_blocked y_memory y_frame y_kind y_mode y_pipe y_size y_safeSize y_said ht hbt hA J
  have eT := uk_aeT hA
  have hPr := uk_aPr hA
  have hPs := uk_aPs hA
  have hMe := uk_aMe hA
  have hFu := uk_aFu hA
  have hHd := uk_aHd hA
  have hHo := uk_aHo hA
  have hOk := uk_aOk hA
  have hFi := uk_aFi hA
  have hP : ∀ s, s < 8 → ¬ x_pids s < 0 := fun s hs => (hPs s hs).1
  have hN : ∀ s, s < 8 → x_pids s ≠ 0 → ∃ n, n ≤ 8 ∧ y_pages s = nI n := fun s hs hp => by
    obtain ⟨n, h1, _, h3, _⟩ := hMe s hs hp
    exact ⟨n, h1, h3⟩
  have yn : ∀ post : Int32 → Prop, post (0) → (v1 < 1 ∨ uk_ff (fun s => x_pids s = v1) 8 = -1) → wpY_sharing post (x_changes, x_time, y_last, y_lastPid, y_did, x_greatestPid, x_latestPid, x_saidCount, y_killed, y_ops, y_as, y_bs, x_codeLengths, x_pids, x_parents, x_programs, x_places, x_statuses, x_stepCounts, x_copyCounts, y_pages, y_wake, y_zombie, y_blocked, x_registers, y_memory, y_frame, x_held, y_kind, x_openTargets, y_mode, x_openPlaces, x_pipeCounts, y_pipe, x_nameFiles, y_size, x_fileWords, x_safeNames, y_safeSize, x_safeWords, y_said) v1 v2 := fun post hp h => by
    unfold wpY_sharing
    refine yk_slotOf (fun _ => br_t (by decide) hp) (fun a => ?_)
    rcases h with h | h
    · exact absurd h a
    · rw [h]
      exact br_t (by decide) hp
  unfold wpX_sharing
  refine xk_findSlot (fun a => br_t rfl (yn _ ⟨rfl, J⟩ (Or.inl a))) (fun a => ?_)
  rcases uk_slot (P := x_pids) a with e | ⟨s, hs, e, eP, hp0⟩
  · rw [e]
    exact br_t rfl (yn _ ⟨rfl, J⟩ (Or.inr e))
  obtain ⟨_, vs, es⟩ := uk_lp 8 hs (by decide)
  obtain ⟨q, hq8, q2, q3, q4, q5⟩ := hMe s hs hp0
  have ns : ¬ nI s < 0 := nI_pos (by omega)
  have ns0 : 0 ≤ nI s := nI_pos' (by omega)
  have yS : ∀ post : Int32 → Prop, (∀ post', post' (nI s) → wpY_slotOf post' (x_changes, x_time, y_last, y_lastPid, y_did, x_greatestPid, x_latestPid, x_saidCount, y_killed, y_ops, y_as, y_bs, x_codeLengths, x_pids, x_parents, x_programs, x_places, x_statuses, x_stepCounts, x_copyCounts, y_pages, y_wake, y_zombie, y_blocked, x_registers, y_memory, y_frame, x_held, y_kind, x_openTargets, y_mode, x_openPlaces, x_pipeCounts, y_pipe, x_nameFiles, y_size, x_fileWords, x_safeNames, y_safeSize, x_safeWords, y_said) v1) := fun post post' hp => yk_slotOf (fun z => absurd z a) (fun _ => by rw [e]; exact hp)
  rw [e]
  refine br_f (uk_ne1 (by omega)) ?_
  have y0 : ¬ vp_in v2 q → wpY_sharing (fun r' => r' = 0 ∧ i_Rel (k + 5) (x_changes, x_saidCount, x_time, x_lastSlot, x_sliceSteps, x_latestPid, x_greatestPid, x_code, x_codeLengths, x_pids, x_parents, x_programs, x_places, x_states, x_statuses, x_stepCounts, x_copyCounts, x_wakeTimes, x_registers, x_pageCounts, x_pageFrames, x_held, x_frameUsers, x_frameWords, x_openHolders, x_openKinds, x_openTargets, x_openPlaces, x_openModes, x_pipeFirsts, x_pipeCounts, x_pipeWords, x_nameFiles, x_fileSizes, x_fileWords, x_safeNames, x_safeSizes, x_safeWords, x_saidInts) (x_changes, x_time, y_last, y_lastPid, y_did, x_greatestPid, x_latestPid, x_saidCount, y_killed, y_ops, y_as, y_bs, x_codeLengths, x_pids, x_parents, x_programs, x_places, x_statuses, x_stepCounts, x_copyCounts, y_pages, y_wake, y_zombie, y_blocked, x_registers, y_memory, y_frame, x_held, y_kind, x_openTargets, y_mode, x_openPlaces, x_pipeCounts, y_pipe, x_nameFiles, y_size, x_fileWords, x_safeNames, y_safeSize, x_safeWords, y_said)) (x_changes, x_time, y_last, y_lastPid, y_did, x_greatestPid, x_latestPid, x_saidCount, y_killed, y_ops, y_as, y_bs, x_codeLengths, x_pids, x_parents, x_programs, x_places, x_statuses, x_stepCounts, x_copyCounts, y_pages, y_wake, y_zombie, y_blocked, x_registers, y_memory, y_frame, x_held, y_kind, x_openTargets, y_mode, x_openPlaces, x_pipeCounts, y_pipe, x_nameFiles, y_size, x_fileWords, x_safeNames, y_safeSize, x_safeWords, y_said) v1 v2 := fun z => by
    unfold wpY_sharing
    refine yS (fun _ => True) _ (br_f ns ⟨vs, ?_⟩)
    rw [es, q3]
    exact yk_nom q rfl (by omega) (fun w => absurd w z) (fun _ => br_f (by decide) ⟨rfl, J⟩)
  refine ⟨fun d => y0 (fun z => (not_or.mp z).1 d), fun d => ⟨vs, ?_⟩⟩
  obtain ⟨j, hj, rfl⟩ := nI_of d
  rw [es, q2, uk_m8, nI_add]
  refine ⟨fun d2 => ?_, fun d2 => y0 (fun z => d2 (by
    have := uk_inc z
    rw [nI_clamp hj] at this
    exact nI_lt this (by omega)))⟩
  have hjn : j < q := (nI_ltI hj (by omega)).mp d2
  obtain ⟨f1, f2, _⟩ := q5 j hjn
  rw [nI_clamp (show 8 * s + j < 2 ^ 31 by omega), f2]
  refine ⟨vp_in_nI (by omega) (by decide), f1, ?_⟩
  unfold wpY_sharing
  refine yS (fun _ => True) _ (br_f ns ⟨vs, ?_⟩)
  rw [es, q3]
  refine yk_nom q rfl (by omega) (fun _ => br_t rfl ?_) (fun w => absurd (vp_in_nI hjn (by omega)) w)
  rw [uk_8m, nI_add, nI_clamp (show 8 * s + j < 2 ^ 31 by omega)]
  refine ⟨vp_in_nI (by omega) (by decide), ?_⟩
  obtain ⟨f, hf, ef⟩ := vp_in_of f1 (by decide)
  rw [ef, nI_clamp (show f < 2 ^ 31 by omega), hFu f hf]
  exact yk_sharers hP hN ⟨rfl, J⟩
theorem i_vc_memory {k : Nat} {u : SX} {v : SY} (I : i_Rel k u v) (hk : k + 5 ≤ 2560) (v1 : Int32) (v2 : Int32) : wpX_memory (fun r => wpY_memory (fun r' => r' = r ∧ i_Rel (k + 5) u v) v v1 v2) u v1 v2 := by
  refine i_elim (C := fun u v => i_Rel (k + 5) u v → wpX_memory (fun r => wpY_memory (fun r' => r' = r ∧ i_Rel (k + 5) u v) v v1 v2) u v1 v2) I ?_ (i_up I)
  intro t b x_changes x_saidCount x_time x_lastSlot x_sliceSteps x_latestPid x_greatestPid x_code x_codeLengths x_pids x_parents x_programs x_places x_states x_statuses x_stepCounts x_copyCounts x_wakeTimes x_registers x_pageCounts x_pageFrames x_held x_frameUsers x_frameWords x_openHolders x_openKinds x_openTargets x_openPlaces x_openModes x_pipeFirsts x_pipeCounts x_pipeWords x_nameFiles x_fileSizes x_fileWords x_safeNames x_safeSizes x_safeWords x_saidInts y_time y_last y_lastPid y_did y_killed y_ops y_as y_bs y_pages y_wake y_zombie y_blocked y_memory y_frame y_kind y_mode y_pipe y_size y_safeSize y_said ht hbt hA J
  have eT := uk_aeT hA
  have hPr := uk_aPr hA
  have hPs := uk_aPs hA
  have hMe := uk_aMe hA
  have hFu := uk_aFu hA
  have hHd := uk_aHd hA
  have hHo := uk_aHo hA
  have hOk := uk_aOk hA
  have hFi := uk_aFi hA
  have hP : ∀ s, s < 8 → ¬ x_pids s < 0 := fun s hs => (hPs s hs).1
  have hN : ∀ s, s < 8 → x_pids s ≠ 0 → ∃ n, n ≤ 8 ∧ y_pages s = nI n := fun s hs hp => by
    obtain ⟨n, h1, _, h3, _⟩ := hMe s hs hp
    exact ⟨n, h1, h3⟩
  have yn : ∀ post : Int32 → Prop, post (0) → (v1 < 1 ∨ uk_ff (fun s => x_pids s = v1) 8 = -1) → wpY_memory post (x_changes, x_time, y_last, y_lastPid, y_did, x_greatestPid, x_latestPid, x_saidCount, y_killed, y_ops, y_as, y_bs, x_codeLengths, x_pids, x_parents, x_programs, x_places, x_statuses, x_stepCounts, x_copyCounts, y_pages, y_wake, y_zombie, y_blocked, x_registers, y_memory, y_frame, x_held, y_kind, x_openTargets, y_mode, x_openPlaces, x_pipeCounts, y_pipe, x_nameFiles, y_size, x_fileWords, x_safeNames, y_safeSize, x_safeWords, y_said) v1 v2 := fun post hp h => by
    unfold wpY_memory
    refine yk_slotOf (fun _ => br_t (by decide) hp) (fun a => ?_)
    rcases h with h | h
    · exact absurd h a
    · rw [h]
      exact br_t (by decide) hp
  unfold wpX_memory
  refine xk_findSlot (fun a => br_t rfl (yn _ ⟨rfl, J⟩ (Or.inl a))) (fun a => ?_)
  rcases uk_slot (P := x_pids) a with e | ⟨s, hs, e, eP, hp0⟩
  · rw [e]
    exact br_t rfl (yn _ ⟨rfl, J⟩ (Or.inr e))
  obtain ⟨_, vs, es⟩ := uk_lp 8 hs (by decide)
  obtain ⟨q, hq8, q2, q3, q4, q5⟩ := hMe s hs hp0
  have ns : ¬ nI s < 0 := nI_pos (by omega)
  have ns0 : 0 ≤ nI s := nI_pos' (by omega)
  have yS : ∀ post : Int32 → Prop, (∀ post', post' (nI s) → wpY_slotOf post' (x_changes, x_time, y_last, y_lastPid, y_did, x_greatestPid, x_latestPid, x_saidCount, y_killed, y_ops, y_as, y_bs, x_codeLengths, x_pids, x_parents, x_programs, x_places, x_statuses, x_stepCounts, x_copyCounts, y_pages, y_wake, y_zombie, y_blocked, x_registers, y_memory, y_frame, x_held, y_kind, x_openTargets, y_mode, x_openPlaces, x_pipeCounts, y_pipe, x_nameFiles, y_size, x_fileWords, x_safeNames, y_safeSize, x_safeWords, y_said) v1) := fun post post' hp => yk_slotOf (fun z => absurd z a) (fun _ => by rw [e]; exact hp)
  rw [e]
  refine br_f (uk_ne1 (by omega)) ?_
  have y0 : ¬ vp_in v2 (4 * q) → wpY_memory (fun r' => r' = 0 ∧ i_Rel (k + 5) (x_changes, x_saidCount, x_time, x_lastSlot, x_sliceSteps, x_latestPid, x_greatestPid, x_code, x_codeLengths, x_pids, x_parents, x_programs, x_places, x_states, x_statuses, x_stepCounts, x_copyCounts, x_wakeTimes, x_registers, x_pageCounts, x_pageFrames, x_held, x_frameUsers, x_frameWords, x_openHolders, x_openKinds, x_openTargets, x_openPlaces, x_openModes, x_pipeFirsts, x_pipeCounts, x_pipeWords, x_nameFiles, x_fileSizes, x_fileWords, x_safeNames, x_safeSizes, x_safeWords, x_saidInts) (x_changes, x_time, y_last, y_lastPid, y_did, x_greatestPid, x_latestPid, x_saidCount, y_killed, y_ops, y_as, y_bs, x_codeLengths, x_pids, x_parents, x_programs, x_places, x_statuses, x_stepCounts, x_copyCounts, y_pages, y_wake, y_zombie, y_blocked, x_registers, y_memory, y_frame, x_held, y_kind, x_openTargets, y_mode, x_openPlaces, x_pipeCounts, y_pipe, x_nameFiles, y_size, x_fileWords, x_safeNames, y_safeSize, x_safeWords, y_said)) (x_changes, x_time, y_last, y_lastPid, y_did, x_greatestPid, x_latestPid, x_saidCount, y_killed, y_ops, y_as, y_bs, x_codeLengths, x_pids, x_parents, x_programs, x_places, x_statuses, x_stepCounts, x_copyCounts, y_pages, y_wake, y_zombie, y_blocked, x_registers, y_memory, y_frame, x_held, y_kind, x_openTargets, y_mode, x_openPlaces, x_pipeCounts, y_pipe, x_nameFiles, y_size, x_fileWords, x_safeNames, y_safeSize, x_safeWords, y_said) v1 v2 := fun z => by
    unfold wpY_memory
    refine yS (fun _ => True) _ (br_f ns ⟨vs, ?_⟩)
    rw [es, q3, uk_4m]
    exact yk_nom (4 * q) rfl (by omega) (fun w => absurd w z) (fun _ => br_f (by decide) ⟨rfl, J⟩)
  refine xk_wordIndex hs q2 hq8 (fun p hp => by rw [(q5 p hp).2.1]; exact (q5 p hp).1) (fun z => br_t rfl (y0 z)) (fun j hj ej => ?_)
  subst ej
  obtain ⟨f1, f2, f3⟩ := q5 (j / 4) (by omega)
  have hfl := uk_inc f1
  rw [f2]
  refine br_f (uk_ne1 (by omega)) ⟨vp_in_nI (by omega) (by decide), ?_⟩
  rw [nI_clamp (by omega), f3 (j % 4) (by omega)]
  unfold wpY_memory
  refine yS (fun _ => True) _ (br_f ns ⟨vs, ?_⟩)
  rw [es, q3, uk_4m]
  refine yk_nom (4 * q) rfl (by omega) (fun _ => br_t rfl ?_) (fun w => absurd (vp_in_nI hj (by omega)) w)
  rw [uk_32m, nI_add, nI_clamp (by omega)]
  refine ⟨vp_in_nI (by omega) (by decide), ?_, J⟩
  exact congrArg y_memory (by omega)
section
variable {x_changes x_saidCount x_time x_lastSlot x_sliceSteps x_latestPid x_greatestPid : Int32} {x_code x_codeLengths x_pids x_parents x_programs x_places x_states x_statuses x_stepCounts x_copyCounts x_wakeTimes x_registers x_pageCounts x_pageFrames x_held x_frameUsers x_frameWords x_openHolders x_openKinds x_openTargets x_openPlaces x_openModes x_pipeFirsts x_pipeCounts x_pipeWords x_nameFiles x_fileSizes x_fileWords x_safeNames x_safeSizes x_safeWords x_saidInts : Nat → Int32} {y_time y_last y_lastPid y_did y_killed : Int32} {y_ops y_as y_bs y_pages y_wake y_zombie y_blocked y_memory y_frame y_kind y_mode y_pipe y_size y_safeSize y_said : Nat → Int32}
theorem yk_descriptor {post : Int32 → Prop} {s j : Nat} {v1 v3 : Int32} (hs : s < 8) (hS : ∀ post' : Int32 → Prop, post' (nI s) → wpY_slotOf post' (x_changes, y_time, y_last, y_lastPid, y_did, x_greatestPid, x_latestPid, x_saidCount, y_killed, y_ops, y_as, y_bs, x_codeLengths, x_pids, x_parents, x_programs, x_places, x_statuses, x_stepCounts, x_copyCounts, y_pages, y_wake, y_zombie, y_blocked, x_registers, y_memory, y_frame, x_held, y_kind, x_openTargets, y_mode, x_openPlaces, x_pipeCounts, y_pipe, x_nameFiles, y_size, x_fileWords, x_safeNames, y_safeSize, x_safeWords, y_said) v1) (z1 : y_zombie s = 0) (hj : j < 6) (hv3 : vp_in v3 4) (hP : ∀ s, s < 8 → ¬ x_pids s < 0) (h : (x_held (6 * s + j) = -1 ∧ ((v3 = 0 → post 0) ∧ (¬ v3 = 0 → post (-1)))) ∨ (∃ o, o < 12 ∧ x_held (6 * s + j) = nI o ∧ ((v3 = 0 ∧ post (y_kind o)) ∨ (v3 = 1 ∧ ((y_kind o = 1 → post (x_openTargets o)) ∧ (¬ y_kind o = 1 → post (-1)))) ∨ (v3 = 2 ∧ post (x_openPlaces o)) ∨ (v3 = 3 ∧ post (nI (uk_sm (uk_hw x_pids y_zombie x_held o) 8)))))) : wpY_descriptor post (x_changes, y_time, y_last, y_lastPid, y_did, x_greatestPid, x_latestPid, x_saidCount, y_killed, y_ops, y_as, y_bs, x_codeLengths, x_pids, x_parents, x_programs, x_places, x_statuses, x_stepCounts, x_copyCounts, y_pages, y_wake, y_zombie, y_blocked, x_registers, y_memory, y_frame, x_held, y_kind, x_openTargets, y_mode, x_openPlaces, x_pipeCounts, y_pipe, x_nameFiles, y_size, x_fileWords, x_safeNames, y_safeSize, x_safeWords, y_said) v1 (nI j) v3 := by
  obtain ⟨_, vs, es⟩ := uk_lp 8 hs (by decide)
  unfold wpY_descriptor
  refine hS _ (br_f (nI_pos (by omega)) ⟨vs, ?_⟩)
  rw [es, uk_6m, nI_add, nI_clamp (show 6 * s + j < 2 ^ 31 by omega)]
  refine br_t z1 (yk_no 5 rfl (by decide) (fun a1 => br_t rfl (yk_no 3 rfl (by decide) (fun a2 => br_t rfl ⟨vp_in_nI (by omega) (by decide), ?_⟩) (fun a2 => absurd hv3 a2))) (fun a1 => absurd (vp_in_nI hj (by decide)) a1))
  rcases h with ⟨e, h⟩ | ⟨o, ho, e, h⟩
  · rw [e]
    exact nm_e (br_f (by decide) h)
  · rw [e]
    have vo : vp_in (nI o) 12 := vp_in_nI ho (by decide)
    refine nm_e (br_t (nI_pos' (by omega)) ?_)
    rw [nI_clamp (show o < 2 ^ 31 by omega)]
    rcases h with ⟨m, h⟩ | ⟨m, h⟩ | ⟨m, h⟩ | ⟨m, h⟩ <;> subst m
    · exact br_f (by decide) (br_f (by decide) (br_t rfl ⟨vo, h⟩))
    · exact br_f (by decide) (br_f (by decide) (br_f (by decide) (br_t rfl ⟨vo, fun q => ⟨vo, h.1 q⟩, h.2⟩)))
    · exact br_f (by decide) (br_f (by decide) (br_f (by decide) (br_f (by decide) (br_t rfl ⟨vo, h⟩))))
    · exact br_f (by decide) (br_t (by decide) (yk_holders hP h))
end
theorem uk_3lt {x : Int32} (h : 3 < x) : (4 : Int32) ≤ x := by
  have h0 : ¬ x < 0 := fun z => by
    have := Int32.lt_trans h z
    exact absurd this (by decide)
  obtain ⟨j, hj, rfl⟩ := nI_of h0
  exact nI_le (a := 4) (by have := (nI_ltI (a := 3) (by decide) hj).mp h; omega) hj
theorem uk_4le {x : Int32} (h : (4 : Int32) ≤ x) : 3 < x := Int32.lt_of_lt_of_le (by decide) h
theorem i_vc_descriptor {k : Nat} {u : SX} {v : SY} (I : i_Rel k u v) (hk : k + 5 ≤ 2560) (v1 : Int32) (v2 : Int32) (v3 : Int32) : wpX_descriptor (fun r => wpY_descriptor (fun r' => r' = r ∧ i_Rel (k + 5) u v) v v1 v2 v3) u v1 v2 v3 := by
  refine i_elim (C := fun u v => i_Rel (k + 5) u v → wpX_descriptor (fun r => wpY_descriptor (fun r' => r' = r ∧ i_Rel (k + 5) u v) v v1 v2 v3) u v1 v2 v3) I ?_ (i_up I)
  intro t b x_changes x_saidCount x_time x_lastSlot x_sliceSteps x_latestPid x_greatestPid x_code x_codeLengths x_pids x_parents x_programs x_places x_states x_statuses x_stepCounts x_copyCounts x_wakeTimes x_registers x_pageCounts x_pageFrames x_held x_frameUsers x_frameWords x_openHolders x_openKinds x_openTargets x_openPlaces x_openModes x_pipeFirsts x_pipeCounts x_pipeWords x_nameFiles x_fileSizes x_fileWords x_safeNames x_safeSizes x_safeWords x_saidInts y_time y_last y_lastPid y_did y_killed y_ops y_as y_bs y_pages y_wake y_zombie y_blocked y_memory y_frame y_kind y_mode y_pipe y_size y_safeSize y_said ht hbt hA J
  have eT := uk_aeT hA
  have hPr := uk_aPr hA
  have hPs := uk_aPs hA
  have hMe := uk_aMe hA
  have hFu := uk_aFu hA
  have hHd := uk_aHd hA
  have hHo := uk_aHo hA
  have hOk := uk_aOk hA
  have hFi := uk_aFi hA
  have hP : ∀ s, s < 8 → ¬ x_pids s < 0 := fun s hs => (hPs s hs).1
  have hN : ∀ s, s < 8 → x_pids s ≠ 0 → ∃ n, n ≤ 8 ∧ y_pages s = nI n := fun s hs hp => by
    obtain ⟨n, h1, _, h3, _⟩ := hMe s hs hp
    exact ⟨n, h1, h3⟩
  have yn : ∀ post : Int32 → Prop, post (-1) → (v1 < 1 ∨ uk_ff (fun s => x_pids s = v1) 8 = -1) → wpY_descriptor post (x_changes, x_time, y_last, y_lastPid, y_did, x_greatestPid, x_latestPid, x_saidCount, y_killed, y_ops, y_as, y_bs, x_codeLengths, x_pids, x_parents, x_programs, x_places, x_statuses, x_stepCounts, x_copyCounts, y_pages, y_wake, y_zombie, y_blocked, x_registers, y_memory, y_frame, x_held, y_kind, x_openTargets, y_mode, x_openPlaces, x_pipeCounts, y_pipe, x_nameFiles, y_size, x_fileWords, x_safeNames, y_safeSize, x_safeWords, y_said) v1 v2 v3 := fun post hp h => by
    unfold wpY_descriptor
    refine yk_slotOf (fun _ => br_t (by decide) hp) (fun a => ?_)
    rcases h with h | h
    · exact absurd h a
    · rw [h]
      exact br_t (by decide) hp
  unfold wpX_descriptor
  refine xk_findSlot (fun a => br_t rfl (yn _ ⟨rfl, J⟩ (Or.inl a))) (fun a => ?_)
  rcases uk_slot (P := x_pids) a with e | ⟨s, hs, e, eP, hp0⟩
  · rw [e]
    exact br_t rfl (yn _ ⟨rfl, J⟩ (Or.inr e))
  obtain ⟨_, vs, es⟩ := uk_lp 8 hs (by decide)
  obtain ⟨q, hq8, q2, q3, q4, q5⟩ := hMe s hs hp0
  have ns : ¬ nI s < 0 := nI_pos (by omega)
  have ns0 : 0 ≤ nI s := nI_pos' (by omega)
  have yS : ∀ post : Int32 → Prop, (∀ post', post' (nI s) → wpY_slotOf post' (x_changes, x_time, y_last, y_lastPid, y_did, x_greatestPid, x_latestPid, x_saidCount, y_killed, y_ops, y_as, y_bs, x_codeLengths, x_pids, x_parents, x_programs, x_places, x_statuses, x_stepCounts, x_copyCounts, y_pages, y_wake, y_zombie, y_blocked, x_registers, y_memory, y_frame, x_held, y_kind, x_openTargets, y_mode, x_openPlaces, x_pipeCounts, y_pipe, x_nameFiles, y_size, x_fileWords, x_safeNames, y_safeSize, x_safeWords, y_said) v1) := fun post post' hp => yk_slotOf (fun z => absurd z a) (fun _ => by rw [e]; exact hp)
  rw [e]
  refine br_f (uk_ne1 (by omega)) ?_
  refine ⟨vs, ?_⟩
  rw [es]
  have hst := (hPs s hs).2.2.2.2.2.2 hp0
  rcases hst with ⟨z1, z2⟩ | ⟨z1, _, z2⟩
  · rw [z2]
    refine br_t rfl ?_
    unfold wpY_descriptor
    refine yS (fun _ => True) _ (br_f ns ⟨vs, ?_⟩)
    rw [es, z1]
    exact br_f (by decide) ⟨rfl, J⟩
  have z3 : ¬ x_states s = 3 := by
    rcases z2 with ⟨_, z2⟩ | ⟨_, z2⟩ <;> rw [z2] <;> decide
  have yB : ¬ (vp_in v2 6 ∧ vp_in v3 4) → wpY_descriptor (fun r' => r' = -1 ∧ i_Rel (k + 5) (x_changes, x_saidCount, x_time, x_lastSlot, x_sliceSteps, x_latestPid, x_greatestPid, x_code, x_codeLengths, x_pids, x_parents, x_programs, x_places, x_states, x_statuses, x_stepCounts, x_copyCounts, x_wakeTimes, x_registers, x_pageCounts, x_pageFrames, x_held, x_frameUsers, x_frameWords, x_openHolders, x_openKinds, x_openTargets, x_openPlaces, x_openModes, x_pipeFirsts, x_pipeCounts, x_pipeWords, x_nameFiles, x_fileSizes, x_fileWords, x_safeNames, x_safeSizes, x_safeWords, x_saidInts) (x_changes, x_time, y_last, y_lastPid, y_did, x_greatestPid, x_latestPid, x_saidCount, y_killed, y_ops, y_as, y_bs, x_codeLengths, x_pids, x_parents, x_programs, x_places, x_statuses, x_stepCounts, x_copyCounts, y_pages, y_wake, y_zombie, y_blocked, x_registers, y_memory, y_frame, x_held, y_kind, x_openTargets, y_mode, x_openPlaces, x_pipeCounts, y_pipe, x_nameFiles, y_size, x_fileWords, x_safeNames, y_safeSize, x_safeWords, y_said)) (x_changes, x_time, y_last, y_lastPid, y_did, x_greatestPid, x_latestPid, x_saidCount, y_killed, y_ops, y_as, y_bs, x_codeLengths, x_pids, x_parents, x_programs, x_places, x_statuses, x_stepCounts, x_copyCounts, y_pages, y_wake, y_zombie, y_blocked, x_registers, y_memory, y_frame, x_held, y_kind, x_openTargets, y_mode, x_openPlaces, x_pipeCounts, y_pipe, x_nameFiles, y_size, x_fileWords, x_safeNames, y_safeSize, x_safeWords, y_said) v1 v2 v3 := fun h2 => by
    unfold wpY_descriptor
    refine yS (fun _ => True) _ (br_f ns ⟨vs, ?_⟩)
    rw [es]
    exact br_t z1 (yk_no 5 rfl (by decide) (fun a1 => br_t rfl (yk_no 3 rfl (by decide) (fun a2 => absurd ⟨a1, a2⟩ h2) (fun a2 => br_f (by decide) ⟨rfl, J⟩))) (fun a1 => br_f (by decide) ⟨rfl, J⟩))
  have e6 := uk_inE (x := v2) (n := 6) (N := 6) rfl (by decide)
  have e4 := uk_inE (x := v3) (n := 4) (N := 4) rfl (by decide)
  refine br_f z3 ⟨fun d => yB (fun w => absurd d (e6.mp w.1).1), fun d => ⟨fun d2 => ?_, fun d2 => yB (fun w => absurd (Int32.not_le.mp (e6.mp w.1).2) d2)⟩⟩
  have hv2 := e6.mpr ⟨d, Int32.not_le.mpr d2⟩
  obtain ⟨j, hj, rfl⟩ := vp_in_of hv2 (by decide)
  rw [uk_m6, nI_add, nI_clamp (show 6 * s + j < 2 ^ 31 by omega)]
  refine ⟨vp_in_nI (by omega) (by decide), ?_⟩
  have yG := fun (post : Int32 → Prop) (hv3 : vp_in v3 4) => yk_descriptor (post := post) (v1 := v1) (v3 := v3) hs (yS (fun _ => True)) z1 hj hv3 hP
  rcases hHd s hs hp0 z1 j hj with hx | hx
  · rw [hx]
    refine nm_e (br_t rfl ⟨fun d3 => ?_, fun d3 => ?_⟩)
    · have hv3 : vp_in v3 4 := by rw [d3]; exact vp_in_nI (n := 0) (by decide) (by decide)
      exact yG _ hv3 (Or.inl ⟨hx, br_t d3 ⟨rfl, J⟩⟩)
    · by_cases hv3 : vp_in v3 4
      · exact yG _ hv3 (Or.inl ⟨hx, br_f d3 ⟨rfl, J⟩⟩)
      · exact yB (fun w => hv3 w.2)
  · obtain ⟨o, ho, eo⟩ := vp_in_of hx (by decide)
    rw [eo]
    have hoh : x_openHolders o ≠ 0 := fun z => by
      have h1 := (uk_ohn hHo ho).mp z
      have h2 := uk_hwp hs hp0 z1 hj eo
      omega
    obtain ⟨_, k1⟩ := hOk o ho
    rcases k1 with ⟨k1, _⟩ | ⟨_, k1, _⟩
    · exact absurd k1 hoh
    refine nm_e (br_f (uk_ne1 (by omega)) ?_)
    have vo : vp_in (nI o) 12 := vp_in_nI ho (by decide)
    rw [nI_clamp (show o < 2 ^ 31 by omega)]
    refine ⟨fun d3 => yB (fun w => absurd d3 (e4.mp w.2).1), fun d3 => ⟨fun d4 => yB (fun w => (e4.mp w.2).2 (uk_3lt d4)), fun d4 => ?_⟩⟩
    have hv3 : vp_in v3 4 := e4.mpr ⟨d3, fun z => d4 (uk_4le z)⟩
    have yO := fun (post : Int32 → Prop) (a : _) => yG post hv3 (Or.inr ⟨o, ho, eo, a⟩)
    refine ⟨fun m0 => ⟨vo, ?_⟩, fun m0 => ⟨fun m1 => ⟨vo, ?_⟩, fun m1 => ⟨fun m2 => ⟨vo, ?_⟩, fun m2 => ⟨fun m3 => ⟨vo, ?_⟩, fun _ => trivial⟩⟩⟩⟩
    · exact yO _ (Or.inl ⟨m0, k1.symm, J⟩)
    · rw [k1]
      exact ⟨fun m4 => ⟨vo, yO _ (Or.inr (Or.inl ⟨m1, br_t m4 ⟨rfl, J⟩⟩))⟩, fun m4 => yO _ (Or.inr (Or.inl ⟨m1, br_f m4 ⟨rfl, J⟩⟩))⟩
    · exact yO _ (Or.inr (Or.inr (Or.inl ⟨m2, rfl, J⟩)))
    · exact yO _ (Or.inr (Or.inr (Or.inr ⟨m3, (hHo o ho).symm, J⟩)))
theorem i_vc_file {k : Nat} {u : SX} {v : SY} (I : i_Rel k u v) (hk : k + 5 ≤ 2560) (v1 : Int32) (v2 : Int32) : wpX_file (fun r => wpY_file (fun r' => r' = r ∧ i_Rel (k + 5) u v) v v1 v2) u v1 v2 := by
  refine i_elim (C := fun u v => i_Rel (k + 5) u v → wpX_file (fun r => wpY_file (fun r' => r' = r ∧ i_Rel (k + 5) u v) v v1 v2) u v1 v2) I ?_ (i_up I)
  intro t b x_changes x_saidCount x_time x_lastSlot x_sliceSteps x_latestPid x_greatestPid x_code x_codeLengths x_pids x_parents x_programs x_places x_states x_statuses x_stepCounts x_copyCounts x_wakeTimes x_registers x_pageCounts x_pageFrames x_held x_frameUsers x_frameWords x_openHolders x_openKinds x_openTargets x_openPlaces x_openModes x_pipeFirsts x_pipeCounts x_pipeWords x_nameFiles x_fileSizes x_fileWords x_safeNames x_safeSizes x_safeWords x_saidInts y_time y_last y_lastPid y_did y_killed y_ops y_as y_bs y_pages y_wake y_zombie y_blocked y_memory y_frame y_kind y_mode y_pipe y_size y_safeSize y_said ht hbt hA J
  have eT := uk_aeT hA
  have hPr := uk_aPr hA
  have hPs := uk_aPs hA
  have hMe := uk_aMe hA
  have hFu := uk_aFu hA
  have hHd := uk_aHd hA
  have hHo := uk_aHo hA
  have hOk := uk_aOk hA
  have hFi := uk_aFi hA
  have hP : ∀ s, s < 8 → ¬ x_pids s < 0 := fun s hs => (hPs s hs).1
  have hN : ∀ s, s < 8 → x_pids s ≠ 0 → ∃ n, n ≤ 8 ∧ y_pages s = nI n := fun s hs hp => by
    obtain ⟨n, h1, _, h3, _⟩ := hMe s hs hp
    exact ⟨n, h1, h3⟩
  have e8 := uk_inE (x := v1) (n := 8) (N := 8) rfl (by decide)
  have y0 : ¬ vp_in v1 8 → wpY_file (fun r' => r' = -1 ∧ i_Rel (k + 5) (x_changes, x_saidCount, x_time, x_lastSlot, x_sliceSteps, x_latestPid, x_greatestPid, x_code, x_codeLengths, x_pids, x_parents, x_programs, x_places, x_states, x_statuses, x_stepCounts, x_copyCounts, x_wakeTimes, x_registers, x_pageCounts, x_pageFrames, x_held, x_frameUsers, x_frameWords, x_openHolders, x_openKinds, x_openTargets, x_openPlaces, x_openModes, x_pipeFirsts, x_pipeCounts, x_pipeWords, x_nameFiles, x_fileSizes, x_fileWords, x_safeNames, x_safeSizes, x_safeWords, x_saidInts) (x_changes, x_time, y_last, y_lastPid, y_did, x_greatestPid, x_latestPid, x_saidCount, y_killed, y_ops, y_as, y_bs, x_codeLengths, x_pids, x_parents, x_programs, x_places, x_statuses, x_stepCounts, x_copyCounts, y_pages, y_wake, y_zombie, y_blocked, x_registers, y_memory, y_frame, x_held, y_kind, x_openTargets, y_mode, x_openPlaces, x_pipeCounts, y_pipe, x_nameFiles, y_size, x_fileWords, x_safeNames, y_safeSize, x_safeWords, y_said)) (x_changes, x_time, y_last, y_lastPid, y_did, x_greatestPid, x_latestPid, x_saidCount, y_killed, y_ops, y_as, y_bs, x_codeLengths, x_pids, x_parents, x_programs, x_places, x_statuses, x_stepCounts, x_copyCounts, y_pages, y_wake, y_zombie, y_blocked, x_registers, y_memory, y_frame, x_held, y_kind, x_openTargets, y_mode, x_openPlaces, x_pipeCounts, y_pipe, x_nameFiles, y_size, x_fileWords, x_safeNames, y_safeSize, x_safeWords, y_said) v1 v2 := fun a => by
    unfold wpY_file
    exact yk_no 7 rfl (by decide) (fun b => absurd b a) (fun b => br_f (by decide) ⟨rfl, J⟩)
  unfold wpX_file
  refine ⟨fun a => y0 (fun z => (e8.mp z).1 a), fun a => ⟨fun b => y0 (fun z => (e8.mp z).2 b), fun b => ?_⟩⟩
  have hv := e8.mpr ⟨a, b⟩
  obtain ⟨f, hf, rfl⟩ := vp_in_of hv (by decide)
  obtain ⟨s1, s2, s3⟩ := hFi.2 f hf
  refine xk_isFree hOk hHo (fun fr => br_f (by decide) ?_) (fun fr => br_t rfl ?_)
  · unfold wpY_file
    exact yk_no 7 rfl (by decide) (fun _ => br_t rfl (yk_isFree (fun _ => br_f (by decide) ⟨rfl, J⟩) (fun z => absurd fr z))) (fun b => absurd hv b)
  · have y1 : ∀ post : Int32 → Prop, ((v2 = 0 → (vp_in (nI f) 8 ∧ post (y_size (nI f).toNatClampNeg))) ∧ (¬ v2 = 0 → ((v2 = 1 → wpY_named (fun r => post r) (x_changes, x_time, y_last, y_lastPid, y_did, x_greatestPid, x_latestPid, x_saidCount, y_killed, y_ops, y_as, y_bs, x_codeLengths, x_pids, x_parents, x_programs, x_places, x_statuses, x_stepCounts, x_copyCounts, y_pages, y_wake, y_zombie, y_blocked, x_registers, y_memory, y_frame, x_held, y_kind, x_openTargets, y_mode, x_openPlaces, x_pipeCounts, y_pipe, x_nameFiles, y_size, x_fileWords, x_safeNames, y_safeSize, x_safeWords, y_said) (nI f)) ∧ (¬ v2 = 1 → ((v2 = 2 → wpY_openOf (fun r => post r) (x_changes, x_time, y_last, y_lastPid, y_did, x_greatestPid, x_latestPid, x_saidCount, y_killed, y_ops, y_as, y_bs, x_codeLengths, x_pids, x_parents, x_programs, x_places, x_statuses, x_stepCounts, x_copyCounts, y_pages, y_wake, y_zombie, y_blocked, x_registers, y_memory, y_frame, x_held, y_kind, x_openTargets, y_mode, x_openPlaces, x_pipeCounts, y_pipe, x_nameFiles, y_size, x_fileWords, x_safeNames, y_safeSize, x_safeWords, y_said) (nI f)) ∧ (¬ v2 = 2 → post (-1))))))) → wpY_file post (x_changes, x_time, y_last, y_lastPid, y_did, x_greatestPid, x_latestPid, x_saidCount, y_killed, y_ops, y_as, y_bs, x_codeLengths, x_pids, x_parents, x_programs, x_places, x_statuses, x_stepCounts, x_copyCounts, y_pages, y_wake, y_zombie, y_blocked, x_registers, y_memory, y_frame, x_held, y_kind, x_openTargets, y_mode, x_openPlaces, x_pipeCounts, y_pipe, x_nameFiles, y_size, x_fileWords, x_safeNames, y_safeSize, x_safeWords, y_said) (nI f) v2 := fun post h => by
      unfold wpY_file
      exact yk_no 7 rfl (by decide) (fun _ => br_t rfl (yk_isFree (fun z => absurd z fr) (fun _ => br_t rfl h))) (fun b => absurd hv b)
    refine ⟨fun d => y1 _ (br_f (fun z => by rw [z] at d; exact absurd d (by decide)) (br_f (fun z => by rw [z] at d; exact absurd d (by decide)) (br_f (fun z => by rw [z] at d; exact absurd d (by decide)) ⟨rfl, J⟩))), fun d => ⟨fun d2 => y1 _ (br_f (fun z => by rw [z] at d2; exact absurd d2 (by decide)) (br_f (fun z => by rw [z] at d2; exact absurd d2 (by decide)) (br_f (fun z => by rw [z] at d2; exact absurd d2 (by decide)) ⟨rfl, J⟩))), fun d2 => ⟨fun m0 => ⟨hv, ?_⟩, fun m0 => ⟨fun m1 => ?_, fun m1 => ⟨fun m2 => ?_, fun _ => trivial⟩⟩⟩⟩⟩
    · rw [nI_clamp (by omega), s3 fr]
      refine y1 _ (br_t m0 ⟨hv, ?_, J⟩)
      rw [nI_clamp (by omega)]
    · exact xk_countNames (y1 _ (br_f m0 (br_t m1 (yk_named ⟨rfl, J⟩))))
    · refine xk_countOpens (y1 _ (br_f m0 (br_f m1 (br_t m2 (yk_openOf ⟨congrArg nI (uk_cnc 12 (fun o ho => ?_)), J⟩)))))
      rw [← uk_okk hOk hHo ho (k := 1) (by decide), and_assoc]
