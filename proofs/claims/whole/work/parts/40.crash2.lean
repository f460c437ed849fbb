/-! crash, Y's side, and both -/
noncomputable def uk_cs (F : Nat → Prop) (ss sz : Nat → Int32) (i : Nat) : Nat → Int32 := fun j => if j < i then @ite Int32 (F j) (Classical.propDecidable (F j)) 0 (ss j) else sz j
theorem uk_cs0 (F : Nat → Prop) (ss sz : Nat → Int32) : uk_cs F ss sz 0 = sz := by
  funext j
  exact if_neg (by omega)
theorem uk_cst {F : Nat → Prop} {ss sz : Nat → Int32} {i j : Nat} (hj : j < i) (h : F j) : uk_cs F ss sz i j = 0 := by
  show (if j < i then @ite Int32 (F j) (Classical.propDecidable (F j)) 0 (ss j) else sz j) = 0
  rw [if_pos hj, if_pos h]
theorem uk_csf {F : Nat → Prop} {ss sz : Nat → Int32} {i j : Nat} (hj : j < i) (h : ¬ F j) : uk_cs F ss sz i j = ss j := by
  show (if j < i then @ite Int32 (F j) (Classical.propDecidable (F j)) 0 (ss j) else sz j) = ss j
  rw [if_pos hj, if_neg h]
theorem uk_css {F : Nat → Prop} {ss sz : Nat → Int32} {i : Nat} {x : Int32} (h : x = uk_cs F ss sz (i + 1) i) : upd (uk_cs F ss sz i) i x = uk_cs F ss sz (i + 1) := by
  funext j
  by_cases e : j = i
  · subst e; rw [pk_us]; exact h
  · rw [pk_un e]
    show (if j < i then @ite Int32 (F j) (Classical.propDecidable (F j)) 0 (ss j) else sz j) = (if j < i + 1 then @ite Int32 (F j) (Classical.propDecidable (F j)) 0 (ss j) else sz j)
    by_cases c : j < i
    · rw [if_pos c, if_pos (show j < i + 1 by omega)]
    · rw [if_neg c, if_neg (show ¬ j < i + 1 by omega)]
section
variable {x_changes x_saidCount x_time x_lastSlot x_sliceSteps x_latestPid x_greatestPid : Int32} {x_code x_codeLengths x_pids x_parents x_programs x_places x_states x_statuses x_stepCounts x_copyCounts x_wakeTimes x_registers x_pageCounts x_pageFrames x_held x_frameUsers x_frameWords x_openHolders x_openKinds x_openTargets x_openPlaces x_openModes x_pipeFirsts x_pipeCounts x_pipeWords x_nameFiles x_fileSizes x_fileWords x_safeNames x_safeSizes x_safeWords x_saidInts : Nat → Int32} {y_time y_last y_lastPid y_did y_killed : Int32} {y_ops y_as y_bs y_pages y_wake y_zombie y_blocked y_memory y_frame y_kind y_mode y_pipe y_size y_safeSize y_said : Nat → Int32}
theorem yk_crash {post : Int32 → SY → Prop} (hP : ∀ s, s < 8 → ¬ x_pids s < 0) (h : post (nI (uk_cn (fun s => x_pids s ≠ 0) 8)) (0, y_time, y_last, y_lastPid, y_did, x_greatestPid, x_latestPid, x_saidCount, y_killed, y_ops, y_as, y_bs, x_codeLengths, uk_fl x_pids 0 (fun _ => 0) 8, x_parents, x_programs, x_places, x_statuses, x_stepCounts, x_copyCounts, uk_fl y_pages 0 (fun _ => 0) 8, y_wake, y_zombie, y_blocked, x_registers, y_memory, y_frame, x_held, uk_fl y_kind 0 (fun _ => 0) 12, x_openTargets, y_mode, x_openPlaces, x_pipeCounts, y_pipe, uk_fl x_nameFiles 0 x_safeNames 8, uk_cs (fun f => uk_fre (uk_fl x_nameFiles 0 x_safeNames 8) (uk_fl y_kind 0 (fun _ => 0) 12) x_openTargets f) y_safeSize y_size 8, uk_fl x_fileWords 0 x_safeWords 128, x_safeNames, uk_fl y_safeSize 0 (uk_cs (fun f => uk_fre (uk_fl x_nameFiles 0 x_safeNames 8) (uk_fl y_kind 0 (fun _ => 0) 12) x_openTargets f) y_safeSize y_size 8) 8, x_safeWords, y_said)) : wpY_crash post (x_changes, y_time, y_last, y_lastPid, y_did, x_greatestPid, x_latestPid, x_saidCount, y_killed, y_ops, y_as, y_bs, x_codeLengths, x_pids, x_parents, x_programs, x_places, x_statuses, x_stepCounts, x_copyCounts, y_pages, y_wake, y_zombie, y_blocked, x_registers, y_memory, y_frame, x_held, y_kind, x_openTargets, y_mode, x_openPlaces, x_pipeCounts, y_pipe, x_nameFiles, y_size, x_fileWords, x_safeNames, y_safeSize, x_safeWords, y_said) := by
  unfold wpY_crash
  refine yk_processes hP ?_
  have eN : uk_fl x_safeNames 0 (uk_fl x_nameFiles 0 x_safeNames 8) 8 = x_safeNames := uk_fl_same (fun j hj => uk_fl1 hj)
  have eW : uk_fl x_safeWords 0 (uk_fl x_fileWords 0 x_safeWords 128) 128 = x_safeWords := uk_fl_same (fun j hj => uk_fl1 hj)
  have k1 := uk_run0 (fun m k (w : (Nat → Int32) × (Nat → Int32)) => wY_crash_7 post (nI (uk_cn (fun s => x_pids s ≠ 0) 8)) x_changes y_time y_last y_lastPid y_did x_greatestPid x_latestPid x_saidCount y_killed m (nI k) y_ops y_as y_bs x_codeLengths w.1 x_parents x_programs x_places x_statuses x_stepCounts x_copyCounts w.2 y_wake y_zombie y_blocked x_registers y_memory y_frame x_held y_kind x_openTargets y_mode x_openPlaces x_pipeCounts y_pipe x_nameFiles y_size x_fileWords x_safeNames y_safeSize x_safeWords y_said) (fun k => (uk_fl x_pids 0 (fun _ => 0) k, uk_fl y_pages 0 (fun _ => 0) k)) 8 (fun m => br_t (uk_refl 8) (by
    have k2 := uk_run0 (fun m k (w : Nat → Int32) => wY_crash_35 post (nI (uk_cn (fun s => x_pids s ≠ 0) 8)) x_changes y_time y_last y_lastPid y_did x_greatestPid x_latestPid x_saidCount y_killed m (nI k) y_ops y_as y_bs x_codeLengths (uk_fl x_pids 0 (fun _ => 0) 8) x_parents x_programs x_places x_statuses x_stepCounts x_copyCounts (uk_fl y_pages 0 (fun _ => 0) 8) y_wake y_zombie y_blocked x_registers y_memory y_frame x_held w x_openTargets y_mode x_openPlaces x_pipeCounts y_pipe x_nameFiles y_size x_fileWords x_safeNames y_safeSize x_safeWords y_said) (fun k => uk_fl y_kind 0 (fun _ => 0) k) 12 (fun m => br_t (uk_refl 12) (by
      have k3 := uk_run0 (fun m k (w : Nat → Int32) => wY_crash_56 post (nI (uk_cn (fun s => x_pids s ≠ 0) 8)) x_changes y_time y_last y_lastPid y_did x_greatestPid x_latestPid x_saidCount y_killed m (nI k) y_ops y_as y_bs x_codeLengths (uk_fl x_pids 0 (fun _ => 0) 8) x_parents x_programs x_places x_statuses x_stepCounts x_copyCounts (uk_fl y_pages 0 (fun _ => 0) 8) y_wake y_zombie y_blocked x_registers y_memory y_frame x_held (uk_fl y_kind 0 (fun _ => 0) 12) x_openTargets y_mode x_openPlaces x_pipeCounts y_pipe x_nameFiles y_size w x_safeNames y_safeSize x_safeWords y_said) (fun k => uk_fl x_fileWords 0 x_safeWords k) 128 (fun m => br_t (uk_refl 128) (by
        have k4 := uk_run0 (fun m k (w : Nat → Int32) => wY_crash_83 post (nI (uk_cn (fun s => x_pids s ≠ 0) 8)) x_changes y_time y_last y_lastPid y_did x_greatestPid x_latestPid x_saidCount y_killed m (nI k) y_ops y_as y_bs x_codeLengths (uk_fl x_pids 0 (fun _ => 0) 8) x_parents x_programs x_places x_statuses x_stepCounts x_copyCounts (uk_fl y_pages 0 (fun _ => 0) 8) y_wake y_zombie y_blocked x_registers y_memory y_frame x_held (uk_fl y_kind 0 (fun _ => 0) 12) x_openTargets y_mode x_openPlaces x_pipeCounts y_pipe w y_size (uk_fl x_fileWords 0 x_safeWords 128) x_safeNames y_safeSize x_safeWords y_said) (fun k => uk_fl x_nameFiles 0 x_safeNames k) 8 (fun m => br_t (uk_refl 8) (by
          have k5 := uk_run0 (fun m k (w : Nat → Int32) => wY_crash_109 post (nI (uk_cn (fun s => x_pids s ≠ 0) 8)) x_changes y_time y_last y_lastPid y_did x_greatestPid x_latestPid x_saidCount y_killed m (nI k) y_ops y_as y_bs x_codeLengths (uk_fl x_pids 0 (fun _ => 0) 8) x_parents x_programs x_places x_statuses x_stepCounts x_copyCounts (uk_fl y_pages 0 (fun _ => 0) 8) y_wake y_zombie y_blocked x_registers y_memory y_frame x_held (uk_fl y_kind 0 (fun _ => 0) 12) x_openTargets y_mode x_openPlaces x_pipeCounts y_pipe (uk_fl x_nameFiles 0 x_safeNames 8) w (uk_fl x_fileWords 0 x_safeWords 128) x_safeNames y_safeSize x_safeWords y_said) (fun k => uk_cs (fun f => uk_fre (uk_fl x_nameFiles 0 x_safeNames 8) (uk_fl y_kind 0 (fun _ => 0) 12) x_openTargets f) y_safeSize y_size k) 8 (fun m => br_t (uk_refl 8) (yk_commit (by
            rw [eN, eW]
            exact h))) (fun m k hk ih => by
            obtain ⟨z, v, e⟩ := uk_lp 8 hk (by decide)
            refine br_f z (yk_isFree (fun a => br_f (by decide) ⟨v, ?_⟩) (fun a => br_t rfl ⟨v, v, ?_⟩))
            · rw [e]
              exact nm_r (uk_css (uk_cst (by omega) a).symm) (nm_r (nI_1 k) ih)
            · rw [e]
              exact nm_r (uk_css (uk_csf (by omega) a).symm) (nm_r (nI_1 k) ih))
          rw [uk_cs0] at k5
          exact k5)) (fun m k hk ih => by
          obtain ⟨z, v, e⟩ := uk_lp 8 hk (by decide)
          refine br_f z ⟨v, v, ?_⟩
          rw [e]
          exact nm_r uk_fls0 (nm_r (nI_1 k) ih))
        rw [uk_fl0] at k4
        exact k4)) (fun m k hk ih => by
        obtain ⟨z, v, e⟩ := uk_lp 128 hk (by decide)
        refine br_f z ⟨v, v, ?_⟩
        rw [e]
        exact nm_r uk_fls0 (nm_r (nI_1 k) ih))
      rw [uk_fl0] at k3
      exact k3)) (fun m k hk ih => by
      obtain ⟨z, v, e⟩ := uk_lp 12 hk (by decide)
      refine br_f z ⟨v, ?_⟩
      rw [e]
      exact nm_r (uk_fls0 (g := fun _ => 0)) (nm_r (nI_1 k) ih))
    rw [uk_fl0] at k2
    exact k2)) (fun m k hk ih => by
    obtain ⟨z, v, e⟩ := uk_lp 8 hk (by decide)
    refine br_f z ⟨v, ?_⟩
    rw [e]
    exact nm_r (uk_fls0 (g := fun _ => 0)) ⟨v, nm_r (uk_fls0 (g := fun _ => 0)) (nm_r (nI_1 k) ih)⟩)
  dsimp only at k1
  rw [uk_fl0, uk_fl0] at k1
  exact k1
end
theorem i_vc_crash {k : Nat} {u : SX} {v : SY} (I : i_Rel k u v) (hk : k + 5 ≤ 2560) : wpX_crash (fun r u' => wpY_crash (fun r' v' => r' = r ∧ i_Rel (k + 5) u' v') v) u := by
  refine i_elim (C := fun u v => i_Rel (k + 5) u v → wpX_crash (fun r u' => wpY_crash (fun r' v' => r' = r ∧ i_Rel (k + 5) u' v') v) u) I ?_ (i_up I)
  intro t b x_changes x_saidCount x_time x_lastSlot x_sliceSteps x_latestPid x_greatestPid x_code x_codeLengths x_pids x_parents x_programs x_places x_states x_statuses x_stepCounts x_copyCounts x_wakeTimes x_registers x_pageCounts x_pageFrames x_held x_frameUsers x_frameWords x_openHolders x_openKinds x_openTargets x_openPlaces x_openModes x_pipeFirsts x_pipeCounts x_pipeWords x_nameFiles x_fileSizes x_fileWords x_safeNames x_safeSizes x_safeWords x_saidInts y_time y_last y_lastPid y_did y_killed y_ops y_as y_bs y_pages y_wake y_zombie y_blocked y_memory y_frame y_kind y_mode y_pipe y_size y_safeSize y_said ht hbt hA J
  have eT := uk_aeT hA
  have hPr := uk_aPr hA
  have hPs := uk_aPs hA
  have hMe := uk_aMe hA
  have hFu := uk_aFu hA
  have hHd := uk_aHd hA
  have hHo := uk_aHo hA
  have hOk := uk_aOk hA
  have hFi := uk_aFi hA
  have hP : ∀ s, s < 8 → ¬ x_pids s < 0 := fun s hs => (hPs s hs).1
  have hN : ∀ s, s < 8 → x_pids s ≠ 0 → ∃ n, n ≤ 8 ∧ y_pages s = nI n := fun s hs hp => by
    obtain ⟨n, h1, _, h3, _⟩ := hMe s hs hp
    exact ⟨n, h1, h3⟩
  have hSa := uk_aSa hA
  have z8 : ∀ s, s < 8 → uk_fl x_pids 0 (fun _ => 0) 8 s = 0 := fun s hs => uk_fl1 hs
  have hnam : ∀ f, f < 8 → (¬ uk_fre (uk_fl x_nameFiles 0 x_safeNames 8) (uk_fl y_kind 0 (fun _ => 0) 12) x_openTargets f ↔ ∃ k, k < 8 ∧ x_safeNames k = nI f) := fun f hf => by
    constructor
    · intro h
      refine Classical.byContradiction (fun z => h ⟨fun k hk w => z ⟨k, hk, ?_⟩, fun o ho w => ?_⟩)
      · rw [uk_fl1 hk] at w; exact w
      · have w1 := w.1
        rw [uk_fl1 ho] at w1
        exact absurd w1 (by decide)
    · rintro ⟨k, hk, w⟩ z
      exact z.1 k hk (by rw [uk_fl1 hk]; exact w)
  have A1 : uk_All t b 0 x_saidCount x_time x_lastSlot x_sliceSteps x_latestPid x_greatestPid x_code x_codeLengths (uk_fl x_pids 0 (fun _ => 0) 8) x_parents x_programs x_places x_states x_statuses x_stepCounts x_copyCounts x_wakeTimes x_registers x_pageCounts x_pageFrames x_held (uk_fl x_frameUsers 0 (fun _ => 0) 20) x_frameWords (uk_fl x_openHolders 0 (fun _ => 0) 12) x_openKinds x_openTargets x_openPlaces x_openModes x_pipeFirsts x_pipeCounts x_pipeWords (uk_fl x_nameFiles 0 x_safeNames 8) (uk_fl x_fileSizes 0 x_safeSizes 8) (uk_fl x_fileWords 0 x_safeWords 128) x_safeNames x_safeSizes x_safeWords x_saidInts y_time y_last y_lastPid y_did y_killed y_ops y_as y_bs (uk_fl y_pages 0 (fun _ => 0) 8) y_wake y_zombie y_blocked y_memory y_frame (uk_fl y_kind 0 (fun _ => 0) 12) y_mode y_pipe (uk_cs (fun f => uk_fre (uk_fl x_nameFiles 0 x_safeNames 8) (uk_fl y_kind 0 (fun _ => 0) 12) x_openTargets f) y_safeSize y_size 8) (uk_fl y_safeSize 0 (uk_cs (fun f => uk_fre (uk_fl x_nameFiles 0 x_safeNames 8) (uk_fl y_kind 0 (fun _ => 0) 12) x_openTargets f) y_safeSize y_size 8) 8) y_said :=
    ⟨uk_aG hA, uk_aN hA, ⟨0, rfl, by decide⟩, uk_aeT hA, uk_aPr hA, fun s hs => by
      obtain ⟨h1, h2, h3, h4, h5, h6, h7⟩ := hPs s hs
      exact ⟨by rw [z8 s hs]; decide, h2, h3, h4, h5, h6, fun w => absurd (z8 s hs) w⟩, fun s hs w => absurd (z8 s hs) w, fun f hf => by
      rw [uk_fl1 hf, uk_sm0 8 (fun s hs => uk_rw0 (z8 s hs))]
      rfl, fun s hs w => absurd (z8 s hs) w, fun o ho => by
      rw [uk_fl1 ho, uk_sm0 8 (fun s hs => uk_hw0 (fun w => w.1 (z8 s hs)))]
      rfl, fun o ho => ⟨(hOk o ho).1, Or.inl ⟨uk_fl1 ho, uk_fl1 ho⟩⟩, uk_aPi hA, ⟨fun k hk => by rw [uk_fl1 hk]; exact hSa.1 k hk, fun f hf => by
      by_cases fr : uk_fre (uk_fl x_nameFiles 0 x_safeNames 8) (uk_fl y_kind 0 (fun _ => 0) 12) x_openTargets f
      · exact ⟨by rw [uk_cst hf fr]; exact vp_in_nI (n := 0) (by decide) (by decide), fun _ => uk_cst hf fr, fun z => absurd fr z⟩
      · exact ⟨by rw [uk_csf hf fr]; exact (hSa.2 f hf).1, fun z => absurd z fr, fun _ => by rw [uk_fl1 hf, uk_csf hf fr]; exact (hSa.2 f hf).2 ((hnam f hf).mp fr)⟩⟩, ⟨hSa.1, fun f hf => by
      rw [uk_fl1 hf]
      by_cases fr : uk_fre (uk_fl x_nameFiles 0 x_safeNames 8) (uk_fl y_kind 0 (fun _ => 0) 12) x_openTargets f
      · exact ⟨by rw [uk_cst hf fr]; exact vp_in_nI (n := 0) (by decide) (by decide), fun z => absurd fr ((hnam f hf).mpr z)⟩
      · exact ⟨by rw [uk_csf hf fr]; exact (hSa.2 f hf).1, fun z => by rw [uk_csf hf fr]; exact (hSa.2 f hf).2 z⟩⟩, ⟨(uk_aSc hA).1, (uk_aSc hA).2.1, Or.inl z8⟩, fun s hs w => absurd (z8 s hs) w⟩
  exact xk_crash (yk_crash hP ⟨rfl, i_mk ht hbt A1⟩)
