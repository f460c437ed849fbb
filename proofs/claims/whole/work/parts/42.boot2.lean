/-! boot, Y's side, and both -/
section
variable {x_changes x_saidCount x_time x_lastSlot x_sliceSteps x_latestPid x_greatestPid : Int32} {x_code x_codeLengths x_pids x_parents x_programs x_places x_states x_statuses x_stepCounts x_copyCounts x_wakeTimes x_registers x_pageCounts x_pageFrames x_held x_frameUsers x_frameWords x_openHolders x_openKinds x_openTargets x_openPlaces x_openModes x_pipeFirsts x_pipeCounts x_pipeWords x_nameFiles x_fileSizes x_fileWords x_safeNames x_safeSizes x_safeWords x_saidInts : Nat → Int32} {y_time y_last y_lastPid y_did y_killed : Int32} {y_ops y_as y_bs y_pages y_wake y_zombie y_blocked y_memory y_frame y_kind y_mode y_pipe y_size y_safeSize y_said : Nat → Int32}
theorem yk_boot {post : Int32 → SY → Prop} {p : Int32} (hP : ∀ s, s < 8 → ¬ x_pids s < 0) (hv : vp_in p 6) (hc : nI (uk_cn (fun s => x_pids s ≠ 0) 8) ≤ 0) (h : post 1 (x_changes, y_time, 7, 0, 0, 1, 0, x_saidCount, y_killed, y_ops, y_as, y_bs, x_codeLengths, upd x_pids 0 1, upd x_parents 0 0, upd x_programs 0 p, upd x_places 0 0, upd x_statuses 0 0, upd x_stepCounts 0 0, upd x_copyCounts 0 0, upd y_pages 0 1, upd y_wake 0 (-1), upd y_zombie 0 0, upd y_blocked 0 0, uk_fl x_registers 0 (fun _ => 0) 4, uk_fl y_memory 0 (fun _ => 0) 4, upd y_frame 0 0, uk_fl x_held 0 (fun _ => -1) 6, y_kind, x_openTargets, y_mode, x_openPlaces, x_pipeCounts, y_pipe, x_nameFiles, y_size, x_fileWords, x_safeNames, y_safeSize, x_safeWords, y_said)) : wpY_boot post (x_changes, y_time, y_last, y_lastPid, y_did, x_greatestPid, x_latestPid, x_saidCount, y_killed, y_ops, y_as, y_bs, x_codeLengths, x_pids, x_parents, x_programs, x_places, x_statuses, x_stepCounts, x_copyCounts, y_pages, y_wake, y_zombie, y_blocked, x_registers, y_memory, y_frame, x_held, y_kind, x_openTargets, y_mode, x_openPlaces, x_pipeCounts, y_pipe, x_nameFiles, y_size, x_fileWords, x_safeNames, y_safeSize, x_safeWords, y_said) p := by
  have v8 : vp_in (nI 0) 8 := vp_in_nI (by decide) (by decide)
  have e0 : (0 : Int32).toNatClampNeg = 0 := nI_clamp (n := 0) (by decide)
  have e01 : (0 : Int32) + 1 = 1 := by decide
  unfold wpY_boot
  refine yk_no 5 rfl (by decide) (fun _ => br_t rfl (yk_processes hP (br_t hc ?_))) (fun z => absurd hv z)
  unfold wpY_create
  dsimp only
  rw [e0]
  try rw [e01]
  refine nm_e ⟨v8, nm_e ⟨v8, nm_e ⟨v8, nm_e ⟨v8, nm_e ⟨v8, nm_e ⟨v8, nm_e ⟨v8, nm_e ⟨v8, nm_e ⟨v8, nm_e (nm_e (nm_e ?_))⟩⟩⟩⟩⟩⟩⟩⟩⟩
  have kM := uk_run0 (fun m k (w : Nat → Int32) => wY_boot_45 post x_changes y_time y_last y_lastPid y_did 1 x_latestPid x_saidCount y_killed m (nI k) y_ops y_as y_bs x_codeLengths (upd x_pids 0 1) (upd x_parents 0 0) (upd x_programs 0 p) x_places (upd x_statuses 0 0) (upd x_stepCounts 0 0) (upd x_copyCounts 0 0) (upd y_pages 0 1) (upd y_wake 0 (-1)) (upd y_zombie 0 0) (upd y_blocked 0 0) x_registers w (upd y_frame 0 0) x_held y_kind x_openTargets y_mode x_openPlaces x_pipeCounts y_pipe x_nameFiles y_size x_fileWords x_safeNames y_safeSize x_safeWords y_said) (fun k => uk_fl y_memory 0 (fun _ => 0) k) 4 (fun m => br_t (uk_refl 4) (by
    have kR := uk_run0 (fun m k (w : Nat → Int32) => wY_boot_65 post x_changes y_time y_last y_lastPid y_did 1 x_latestPid x_saidCount y_killed m (nI k) y_ops y_as y_bs x_codeLengths (upd x_pids 0 1) (upd x_parents 0 0) (upd x_programs 0 p) x_places (upd x_statuses 0 0) (upd x_stepCounts 0 0) (upd x_copyCounts 0 0) (upd y_pages 0 1) (upd y_wake 0 (-1)) (upd y_zombie 0 0) (upd y_blocked 0 0) w (uk_fl y_memory 0 (fun _ => 0) 4) (upd y_frame 0 0) x_held y_kind x_openTargets y_mode x_openPlaces x_pipeCounts y_pipe x_nameFiles y_size x_fileWords x_safeNames y_safeSize x_safeWords y_said) (fun k => uk_fl x_registers 0 (fun _ => 0) k) 4 (fun m => br_t (uk_refl 4) (by
        have kD := uk_run0 (fun m k (w : Nat → Int32) => wY_boot_85 post x_changes y_time y_last y_lastPid y_did 1 x_latestPid x_saidCount y_killed m (nI k) y_ops y_as y_bs x_codeLengths (upd x_pids 0 1) (upd x_parents 0 0) (upd x_programs 0 p) x_places (upd x_statuses 0 0) (upd x_stepCounts 0 0) (upd x_copyCounts 0 0) (upd y_pages 0 1) (upd y_wake 0 (-1)) (upd y_zombie 0 0) (upd y_blocked 0 0) (uk_fl x_registers 0 (fun _ => 0) 4) (uk_fl y_memory 0 (fun _ => 0) 4) (upd y_frame 0 0) w y_kind x_openTargets y_mode x_openPlaces x_pipeCounts y_pipe x_nameFiles y_size x_fileWords x_safeNames y_safeSize x_safeWords y_said) (fun k => uk_fl x_held 0 (fun _ => -1) k) 6 (fun m => br_t (uk_refl 6) (by
          exact nm_e h)) (fun m k hk ih => by
          obtain ⟨_, _, e⟩ := uk_lp 6 hk (by decide)
          refine br_f (nI_ge (b := 6) hk (by decide)) ⟨vp_in_nI (by omega) (by decide), ?_⟩
          rw [e]
          exact nm_r (uk_fls0 (g := fun _ => -1)) (nm_r (nI_1 k) ih))
        rw [uk_fl0] at kD
        exact kD)) (fun m k hk ih => by
      obtain ⟨_, _, e⟩ := uk_lp 4 hk (by decide)
      refine br_f (nI_ge (b := 4) hk (by decide)) ⟨vp_in_nI (by omega) (by decide), ?_⟩
      rw [e]
      exact nm_r (uk_fls0 (g := fun _ => 0)) (nm_r (nI_1 k) ih))
    rw [uk_fl0] at kR
    exact kR)) (fun m k hk ih => by
    obtain ⟨_, _, e⟩ := uk_lp 4 hk (by decide)
    refine br_f (nI_ge (b := 4) hk (by decide)) ⟨vp_in_nI (by omega) (by decide), ?_⟩
    rw [e]
    exact nm_r (uk_fls0 (g := fun _ => 0)) (nm_r (nI_1 k) ih))
  rw [uk_fl0] at kM
  exact kM
theorem uk_boA {t b : Nat} {p : Int32} (hA : uk_All t b x_changes x_saidCount x_time x_lastSlot x_sliceSteps x_latestPid x_greatestPid x_code x_codeLengths x_pids x_parents x_programs x_places x_states x_statuses x_stepCounts x_copyCounts x_wakeTimes x_registers x_pageCounts x_pageFrames x_held x_frameUsers x_frameWords x_openHolders x_openKinds x_openTargets x_openPlaces x_openModes x_pipeFirsts x_pipeCounts x_pipeWords x_nameFiles x_fileSizes x_fileWords x_safeNames x_safeSizes x_safeWords x_saidInts y_time y_last y_lastPid y_did y_killed y_ops y_as y_bs y_pages y_wake y_zombie y_blocked y_memory y_frame y_kind y_mode y_pipe y_size y_safeSize y_said) (h0 : ∀ s, s < 8 → x_pids s = 0) (hv : vp_in p 6) : uk_All t b x_changes x_saidCount x_time 7 x_sliceSteps 0 1 x_code x_codeLengths (upd x_pids 0 1) (upd x_parents 0 0) (upd x_programs 0 p) (upd x_places 0 0) (upd x_states 0 1) (upd x_statuses 0 0) (upd x_stepCounts 0 0) (upd x_copyCounts 0 0) (upd x_wakeTimes 0 0) (uk_fl x_registers 0 (fun _ => 0) 4) (upd x_pageCounts 0 1) (upd x_pageFrames 0 0) (uk_fl x_held 0 (fun _ => -1) 6) (upd x_frameUsers 0 1) (uk_fl x_frameWords 0 (fun _ => 0) 4) x_openHolders x_openKinds x_openTargets x_openPlaces x_openModes x_pipeFirsts x_pipeCounts x_pipeWords x_nameFiles x_fileSizes x_fileWords x_safeNames x_safeSizes x_safeWords x_saidInts y_time 7 0 0 y_killed y_ops y_as y_bs (upd y_pages 0 1) (upd y_wake 0 (-1)) (upd y_zombie 0 0) (upd y_blocked 0 0) (uk_fl y_memory 0 (fun _ => 0) 4) (upd y_frame 0 0) y_kind y_mode y_pipe y_size y_safeSize y_said := by
  have hPs := uk_aPs hA
  have e0 : (0 : Int32).toNatClampNeg = 0 := nI_clamp (n := 0) (by decide)
  have hn : ∀ s, s < 8 → upd x_pids 0 1 s ≠ 0 → s = 0 := fun s hs hp => by
    by_cases e : s = 0
    · exact e
    · rw [pk_un e] at hp; exact absurd (h0 s hs) hp
  have gPs : uk_Ps (upd x_pids 0 1) (upd x_parents 0 0) (upd x_programs 0 p) (upd x_places 0 0) (upd x_statuses 0 0) (upd x_states 0 1) (upd y_zombie 0 0) (upd y_blocked 0 0) := fun s hs => by
    by_cases e : s = 0
    · subst e
      rw [pk_us, pk_us, pk_us, pk_us, pk_us, pk_us, pk_us, pk_us]
      exact ⟨by decide, by decide, hv, vp_in_nI (n := 0) (by decide) (by decide), Or.inl rfl, Or.inl rfl, fun _ => Or.inr ⟨rfl, rfl, Or.inl ⟨rfl, rfl⟩⟩⟩
    · rw [pk_un e, pk_un e, pk_un e, pk_un e, pk_un e, pk_un e, pk_un e, pk_un e]
      exact hPs s hs
  have gMe : uk_Me (upd x_pids 0 1) (upd y_zombie 0 0) (upd x_pageCounts 0 1) (upd y_pages 0 1) (upd x_pageFrames 0 0) (upd y_frame 0 0) (uk_fl x_frameWords 0 (fun _ => 0) 4) (uk_fl y_memory 0 (fun _ => 0) 4) := fun s hs hp => by
    have e := hn s hs hp
    subst e
    refine ⟨1, by decide, pk_us, pk_us, fun z => by rw [pk_us] at z; exact absurd z (by decide), fun q hq => ?_⟩
    have e : q = 0 := by omega
    subst e
    show vp_in (upd y_frame 0 0 0) 20 ∧ upd x_pageFrames 0 0 0 = upd y_frame 0 0 0 ∧ ∀ k, k < 4 → uk_fl x_frameWords 0 (fun _ => 0) 4 (4 * (upd y_frame 0 0 0).toNatClampNeg + k) = uk_fl y_memory 0 (fun _ => 0) 4 (32 * 0 + 4 * 0 + k)
    rw [pk_us, pk_us]
    refine ⟨vp_in_nI (n := 0) (by decide) (by decide), rfl, fun k hk => ?_⟩
    have i1 : uk_fl x_frameWords 0 (fun _ => 0) 4 (4 * (0 : Int32).toNatClampNeg + k) = 0 := by
      rw [e0]
      exact (congrArg (uk_fl x_frameWords 0 (fun _ => 0) 4) (show 4 * 0 + k = k by omega)).trans (uk_fl1 hk)
    have i2 : uk_fl y_memory 0 (fun _ => 0) 4 (32 * 0 + 4 * 0 + k) = 0 := (congrArg (uk_fl y_memory 0 (fun _ => 0) 4) (show 32 * 0 + 4 * 0 + k = k by omega)).trans (uk_fl1 hk)
    exact i1.trans i2.symm
  have gFu : uk_Fu (upd x_pids 0 1) (upd y_pages 0 1) (upd y_frame 0 0) (upd x_frameUsers 0 1) := fun f hf => by
    have q0 : uk_sm (uk_rw x_pids y_pages y_frame f) 8 = 0 := uk_sm0 8 (fun s hs => uk_rw0 (h0 s hs))
    have q1 := uk_smset (g := uk_rw x_pids y_pages y_frame f) (h := uk_rw (upd x_pids 0 1) (upd y_pages 0 1) (upd y_frame 0 0) f) 8 (show 0 < 8 by decide) (fun i hi hk => by
      rw [uk_rw0 (h0 i hi)]
      exact (uk_rw0 (by rw [pk_un hk]; exact h0 i hi)).symm)
    have q2 : uk_rw x_pids y_pages y_frame f 0 = 0 := uk_rw0 (h0 0 (by decide))
    have q3 : uk_rw (upd x_pids 0 1) (upd y_pages 0 1) (upd y_frame 0 0) f 0 = uk_cn (fun q => upd y_frame 0 0 (8 * 0 + q) = nI f) 1 := uk_rwn (n := 1) (by rw [pk_us]; decide) pk_us (by decide)
    by_cases e : f = 0
    · subst e
      have q4 : uk_cn (fun q => upd y_frame 0 0 (8 * 0 + q) = nI 0) 1 = 1 := uk_cnt (P := fun q => upd y_frame 0 0 (8 * 0 + q) = nI 0) (n := 0) (show upd y_frame 0 0 0 = nI 0 from pk_us)
      have q5 : uk_sm (uk_rw (upd x_pids 0 1) (upd y_pages 0 1) (upd y_frame 0 0) 0) 8 = 1 := by omega
      rw [pk_us, q5]
      rfl
    · have q4 : uk_cn (fun q => upd y_frame 0 0 (8 * 0 + q) = nI f) 1 = 0 := uk_cnf (P := fun q => upd y_frame 0 0 (8 * 0 + q) = nI f) (n := 0) (fun z => e (uk_nIn (a := 0) (b := f) (by decide) (by omega) ((show nI 0 = upd y_frame 0 0 0 from pk_us.symm).trans z)).symm)
      have q5 : uk_sm (uk_rw (upd x_pids 0 1) (upd y_pages 0 1) (upd y_frame 0 0) f) 8 = 0 := by omega
      rw [pk_un e, uk_aFu hA f hf, q0, q5]
  have gHd : uk_Hd (upd x_pids 0 1) (upd y_zombie 0 0) (uk_fl x_held 0 (fun _ => -1) 6) := fun s hs hp _ d hd => by
    have e := hn s hs hp
    subst e
    exact Or.inl ((congrArg (uk_fl x_held 0 (fun _ => -1) 6) (show 6 * 0 + d = d by omega)).trans (uk_fl1 hd))
  have gHo : uk_Ho (upd x_pids 0 1) (upd y_zombie 0 0) (uk_fl x_held 0 (fun _ => -1) 6) x_openHolders := fun o ho => by
    have q0 : uk_sm (uk_hw x_pids y_zombie x_held o) 8 = 0 := uk_sm0 8 (fun s hs => uk_hw0 (fun z => z.1 (h0 s hs)))
    have q1 : uk_sm (uk_hw (upd x_pids 0 1) (upd y_zombie 0 0) (uk_fl x_held 0 (fun _ => -1) 6) o) 8 = 0 := uk_sm0 8 (fun s hs => by
      by_cases e : s = 0
      · subst e
        have q2 : uk_cn (fun d => uk_fl x_held 0 (fun _ => -1) 6 (6 * 0 + d) = nI o) 6 = 0 := uk_cn0 6 (fun d hd z => uk_ne1 (n := o) (by omega) (z.symm.trans ((congrArg (uk_fl x_held 0 (fun _ => -1) 6) (show 6 * 0 + d = d by omega)).trans (uk_fl1 hd))))
        unfold uk_hw
        rw [q2, Nat.mul_zero]
      · exact uk_hw0 (fun z => z.1 (by rw [pk_un e]; exact h0 s hs)))
    rw [uk_aHo hA o ho, q0, q1]
  have gSc : uk_Sc (upd x_pids 0 1) 7 x_sliceSteps 7 0 0 := ⟨vp_in_nI (n := 7) (by decide) (by decide), vp_in_nI (n := 7) (by decide) (by decide), Or.inr ⟨rfl, Or.inl (by
    rw [show (7 : Int32).toNatClampNeg = 7 from nI_clamp (n := 7) (by decide), pk_un (show 7 ≠ 0 by decide)]
    exact h0 7 (by decide))⟩⟩
  exact ⟨⟨1, rfl, by omega⟩, uk_aN hA, uk_aC hA, uk_aeT hA, uk_aPr hA, gPs, gMe, gFu, gHd, gHo, uk_aOk hA, uk_aPi hA, uk_aFi hA, uk_aSa hA, gSc, fun s hs hp _ => by
    have e := hn s hs hp
    subst e
    exact Or.inl ⟨pk_us, pk_us, pk_us⟩⟩
end
theorem i_vc_boot {k : Nat} {u : SX} {v : SY} (I : i_Rel k u v) (hk : k + 5 ≤ 2560) (v1 : Int32) : wpX_boot (fun r u' => wpY_boot (fun r' v' => r' = r ∧ i_Rel (k + 5) u' v') v v1) u v1 := by
  refine i_elim (C := fun u v => i_Rel (k + 5) u v → wpX_boot (fun r u' => wpY_boot (fun r' v' => r' = r ∧ i_Rel (k + 5) u' v') v v1) u v1) I ?_ (i_up I)
  intro t b x_changes x_saidCount x_time x_lastSlot x_sliceSteps x_latestPid x_greatestPid x_code x_codeLengths x_pids x_parents x_programs x_places x_states x_statuses x_stepCounts x_copyCounts x_wakeTimes x_registers x_pageCounts x_pageFrames x_held x_frameUsers x_frameWords x_openHolders x_openKinds x_openTargets x_openPlaces x_openModes x_pipeFirsts x_pipeCounts x_pipeWords x_nameFiles x_fileSizes x_fileWords x_safeNames x_safeSizes x_safeWords x_saidInts y_time y_last y_lastPid y_did y_killed y_ops y_as y_bs y_pages y_wake y_zombie y_blocked y_memory y_frame y_kind y_mode y_pipe y_size y_safeSize y_said ht hbt hA J
  have eT := uk_aeT hA
  have hPr := uk_aPr hA
  have hPs := uk_aPs hA
  have hMe := uk_aMe hA
  have hFu := uk_aFu hA
  have hHd := uk_aHd hA
  have hHo := uk_aHo hA
  have hOk := uk_aOk hA
  have hFi := uk_aFi hA
  have hP : ∀ s, s < 8 → ¬ x_pids s < 0 := fun s hs => (hPs s hs).1
  have hN : ∀ s, s < 8 → x_pids s ≠ 0 → ∃ n, n ≤ 8 ∧ y_pages s = nI n := fun s hs hp => by
    obtain ⟨n, h1, _, h3, _⟩ := hMe s hs hp
    exact ⟨n, h1, h3⟩
  by_cases hv : vp_in v1 6
  · by_cases c : nI (uk_cn (fun s => x_pids s ≠ 0) 8) ≤ 0
    · have h0 := uk_noneI.mp c
      exact xk_boot hv c (yk_boot hP hv c ⟨rfl, i_mk ht hbt (uk_boA hA h0 hv)⟩)
    · unfold wpX_boot
      refine xk_isProgram (fun _ => br_f (by decide) (xk_countProcesses (br_f c ?_))) (fun z => absurd hv z)
      unfold wpY_boot
      exact yk_no 5 rfl (by decide) (fun _ => br_t rfl (yk_processes hP (br_f c ⟨rfl, J⟩))) (fun z => absurd hv z)
  · unfold wpX_boot
    refine xk_isProgram (fun z => absurd z hv) (fun _ => br_t rfl ?_)
    unfold wpY_boot
    exact yk_no 5 rfl (by decide) (fun z => absurd z hv) (fun _ => br_f (by decide) ⟨rfl, J⟩)
