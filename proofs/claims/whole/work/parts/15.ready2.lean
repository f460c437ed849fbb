/-! who is ready, Y's side; the choice -/
section
variable {x_changes x_saidCount x_time x_lastSlot x_sliceSteps x_latestPid x_greatestPid : Int32} {x_code x_codeLengths x_pids x_parents x_programs x_places x_states x_statuses x_stepCounts x_copyCounts x_wakeTimes x_registers x_pageCounts x_pageFrames x_held x_frameUsers x_frameWords x_openHolders x_openKinds x_openTargets x_openPlaces x_openModes x_pipeFirsts x_pipeCounts x_pipeWords x_nameFiles x_fileSizes x_fileWords x_safeNames x_safeSizes x_safeWords x_saidInts : Nat → Int32} {y_time y_last y_lastPid y_did y_killed : Int32} {y_ops y_as y_bs y_pages y_wake y_zombie y_blocked y_memory y_frame y_kind y_mode y_pipe y_size y_safeSize y_said : Nat → Int32}
theorem yk_child {post : Int32 → Prop} {s : Nat} {w : Int32} (hs : s < 8) (Z : Nat → Prop) (hZ : ∀ c, c < 8 → (Z c ↔ (x_pids c ≠ 0 ∧ x_parents c = x_pids s ∧ (w ≠ 0 → y_zombie c ≠ 0)))) (h : post (uk_be x_pids Z 8)) : wpY_child post (x_changes, y_time, y_last, y_lastPid, y_did, x_greatestPid, x_latestPid, x_saidCount, y_killed, y_ops, y_as, y_bs, x_codeLengths, x_pids, x_parents, x_programs, x_places, x_statuses, x_stepCounts, x_copyCounts, y_pages, y_wake, y_zombie, y_blocked, x_registers, y_memory, y_frame, x_held, y_kind, x_openTargets, y_mode, x_openPlaces, x_pipeCounts, y_pipe, x_nameFiles, y_size, x_fileWords, x_safeNames, y_safeSize, x_safeWords, y_said) (nI s) w := by
  unfold wpY_child
  obtain ⟨_, vs, es⟩ := uk_lp 8 hs (by decide)
  refine uk_run0 (fun m i (x : Int32) => wY_child_5 post (nI s) w x_changes y_time y_last y_lastPid y_did x_greatestPid x_latestPid x_saidCount y_killed y_ops y_as y_bs x_codeLengths x_pids x_parents x_programs x_places x_statuses x_stepCounts x_copyCounts y_pages y_wake y_zombie y_blocked x_registers y_memory y_frame x_held y_kind x_openTargets y_mode x_openPlaces x_pipeCounts y_pipe x_nameFiles y_size x_fileWords x_safeNames y_safeSize x_safeWords y_said m x (nI i)) (fun i => uk_be x_pids Z i) 8 (fun m => br_t (uk_refl 8) h) (fun m i hi ih => ?_)
  obtain ⟨z, v, e⟩ := uk_lp 8 hi (by decide)
  refine br_f z ⟨v, ?_⟩
  rw [e, es]
  have skip : ¬ Z i → ∀ x : Int32, x = nI i + 1 → wY_child_5 post (nI s) w x_changes y_time y_last y_lastPid y_did x_greatestPid x_latestPid x_saidCount y_killed y_ops y_as y_bs x_codeLengths x_pids x_parents x_programs x_places x_statuses x_stepCounts x_copyCounts y_pages y_wake y_zombie y_blocked x_registers y_memory y_frame x_held y_kind x_openTargets y_mode x_openPlaces x_pipeCounts y_pipe x_nameFiles y_size x_fileWords x_safeNames y_safeSize x_safeWords y_said m (uk_be x_pids Z i) x := fun hn => by
    rw [uk_bef (fun q => hn q.1)] at ih
    exact nm_r (nI_1 i) ih
  have take : Z i → wY_child_55 post (wY_child_5 post (nI s) w x_changes y_time y_last y_lastPid y_did x_greatestPid x_latestPid x_saidCount y_killed y_ops y_as y_bs x_codeLengths x_pids x_parents x_programs x_places x_statuses x_stepCounts x_copyCounts y_pages y_wake y_zombie y_blocked x_registers y_memory y_frame x_held y_kind x_openTargets y_mode x_openPlaces x_pipeCounts y_pipe x_nameFiles y_size x_fileWords x_safeNames y_safeSize x_safeWords y_said m) (nI s) w (uk_be x_pids Z i) (nI i) x_changes y_time y_last y_lastPid y_did x_greatestPid x_latestPid x_saidCount y_killed y_ops y_as y_bs x_codeLengths x_pids x_parents x_programs x_places x_statuses x_stepCounts x_copyCounts y_pages y_wake y_zombie y_blocked x_registers y_memory y_frame x_held y_kind x_openTargets y_mode x_openPlaces x_pipeCounts y_pipe x_nameFiles y_size x_fileWords x_safeNames y_safeSize x_safeWords y_said := fun hz => by
    rcases uk_bes x_pids Z i with ⟨b, _⟩ | ⟨j, hj, b, _⟩
    · rw [uk_bet ⟨hz, Or.inl b⟩] at ih
      rw [b]
      exact br_t (by decide) (nm_r (nI_1 i) ih)
    · have hb1 : ¬ uk_be x_pids Z i = -1 := by rw [b]; exact uk_ne1 (by omega)
      have hcl : (uk_be x_pids Z i).toNatClampNeg = j := by rw [b, nI_clamp (by omega)]
      by_cases hlt : x_pids i < x_pids j
      · rw [uk_bet ⟨hz, Or.inr (by rw [hcl]; exact hlt)⟩] at ih
        rw [b]
        refine br_f (nI_pos (by omega)) ⟨v, vp_in_nI (by omega) (by decide), ?_⟩
        rw [e, nI_clamp (show j < 2 ^ 31 by omega)]
        exact br_f (Int32.not_le.mpr hlt) (nm_r (nI_1 i) ih)
      · rw [uk_bef (fun q => by
          rcases q.2 with q | q
          · exact hb1 q
          · rw [hcl] at q; exact hlt q)] at ih
        rw [b] at ih ⊢
        refine br_f (nI_pos (by omega)) ⟨v, vp_in_nI (by omega) (by decide), ?_⟩
        rw [e, nI_clamp (show j < 2 ^ 31 by omega)]
        exact br_t (Int32.not_lt.mp hlt) (nm_r (nI_1 i) ih)
  refine ⟨fun a => skip (fun q => ((hZ i hi).mp q).1 a), fun a => ⟨v, vs, fun b => ⟨fun c => take ((hZ i hi).mpr ⟨a, b, fun q => absurd c q⟩), fun c => ⟨v, fun d => skip (fun q => ((hZ i hi).mp q).2.2 c d), fun d => take ((hZ i hi).mpr ⟨a, b, fun _ => d⟩)⟩⟩, fun b => skip (fun q => b ((hZ i hi).mp q).2.1)⟩⟩
theorem yk_child1 {post : Int32 → Prop} {s : Nat} (hPs : uk_Ps x_pids x_parents x_programs x_places x_statuses x_states y_zombie y_blocked) (hs : s < 8) (h : post (uk_be x_pids (fun c => x_pids c ≠ 0 ∧ x_states c = 3 ∧ x_parents c = x_pids s) 8)) : wpY_child post (x_changes, y_time, y_last, y_lastPid, y_did, x_greatestPid, x_latestPid, x_saidCount, y_killed, y_ops, y_as, y_bs, x_codeLengths, x_pids, x_parents, x_programs, x_places, x_statuses, x_stepCounts, x_copyCounts, y_pages, y_wake, y_zombie, y_blocked, x_registers, y_memory, y_frame, x_held, y_kind, x_openTargets, y_mode, x_openPlaces, x_pipeCounts, y_pipe, x_nameFiles, y_size, x_fileWords, x_safeNames, y_safeSize, x_safeWords, y_said) (nI s) 1 :=
  yk_child hs (fun c => x_pids c ≠ 0 ∧ x_states c = 3 ∧ x_parents c = x_pids s) (fun c hc => ⟨fun q => ⟨q.1, q.2.2, fun _ z => by
    rw [(uk_zst hPs hc q.1).mp q.2.1] at z
    exact absurd z (by decide)⟩, fun q => ⟨q.1, (uk_zst hPs hc q.1).mpr ((hPs c hc).2.2.2.2.1.resolve_left (q.2.2 (by decide))), q.2.1⟩⟩) h
theorem yk_child0 {post : Int32 → Prop} {s : Nat} (hs : s < 8) (h1 : (∃ k, k < 8 ∧ x_pids k ≠ 0 ∧ x_parents k = x_pids s) → ∀ i, i < 8 → post (nI i)) (h0 : (∀ k, k < 8 → ¬ (x_pids k ≠ 0 ∧ x_parents k = x_pids s)) → post (-1)) : wpY_child post (x_changes, y_time, y_last, y_lastPid, y_did, x_greatestPid, x_latestPid, x_saidCount, y_killed, y_ops, y_as, y_bs, x_codeLengths, x_pids, x_parents, x_programs, x_places, x_statuses, x_stepCounts, x_copyCounts, y_pages, y_wake, y_zombie, y_blocked, x_registers, y_memory, y_frame, x_held, y_kind, x_openTargets, y_mode, x_openPlaces, x_pipeCounts, y_pipe, x_nameFiles, y_size, x_fileWords, x_safeNames, y_safeSize, x_safeWords, y_said) (nI s) 0 := by
  refine yk_child hs (fun c => x_pids c ≠ 0 ∧ x_parents c = x_pids s) (fun c hc => ⟨fun q => ⟨q.1, q.2, fun z => absurd rfl z⟩, fun q => ⟨q.1, q.2.1⟩⟩) ?_
  rcases uk_bes x_pids (fun c => x_pids c ≠ 0 ∧ x_parents c = x_pids s) 8 with ⟨b, b2⟩ | ⟨i, hi, b, b2⟩
  · rw [b]; exact h0 b2
  · rw [b]; exact h1 ⟨i, hi, b2⟩ i hi
theorem yk_waits {post : Int32 → Prop} {s : Nat} {c : Int32} (hPs : uk_Ps x_pids x_parents x_programs x_places x_statuses x_states y_zombie y_blocked) (hHd : uk_Hd x_pids y_zombie x_held) (hHo : uk_Ho x_pids y_zombie x_held x_openHolders) (hOk : uk_Ok x_openHolders x_openKinds y_kind x_openTargets x_openModes y_mode x_openPlaces) (hs : s < 8) (hp : x_pids s ≠ 0) (hz : y_zombie s = 0) (h14 : c ≠ 14) (ht : uk_Bk x_pids x_parents y_zombie x_registers x_held y_kind x_openTargets x_pipeCounts s c → post 1) (hf : ¬ uk_Bk x_pids x_parents y_zombie x_registers x_held y_kind x_openTargets x_pipeCounts s c → post 0) : wpY_waits post (x_changes, y_time, y_last, y_lastPid, y_did, x_greatestPid, x_latestPid, x_saidCount, y_killed, y_ops, y_as, y_bs, x_codeLengths, x_pids, x_parents, x_programs, x_places, x_statuses, x_stepCounts, x_copyCounts, y_pages, y_wake, y_zombie, y_blocked, x_registers, y_memory, y_frame, x_held, y_kind, x_openTargets, y_mode, x_openPlaces, x_pipeCounts, y_pipe, x_nameFiles, y_size, x_fileWords, x_safeNames, y_safeSize, x_safeWords, y_said) (nI s) c (x_registers (4 * s)) := by
  unfold wpY_waits
  have n0 : ∀ i, i < 8 → 0 ≤ nI i := fun i hi => nI_pos' (by omega)
  refine ⟨fun e2 => ?_, fun e2 => br_f h14 ?_⟩
  · subst e2
    refine yk_child1 hPs hs ?_
    rcases uk_bes x_pids (fun c => x_pids c ≠ 0 ∧ x_states c = 3 ∧ x_parents c = x_pids s) 8 with ⟨b, b2⟩ | ⟨i, hi, b, b2⟩
    · rw [b]
      refine br_f (by decide) (yk_child0 hs (fun q i hi => br_f (nI_pos (by omega)) (ht (Or.inl ⟨rfl, q, fun k hk z => b2 k hk ⟨z.1, (uk_zst hPs hk z.1).mpr z.2.1, z.2.2⟩⟩))) (fun q => br_t (by decide) (hf (fun z => ?_))))
      rcases z with z | z | z
      · obtain ⟨k, hk, z1⟩ := z.2.1
        exact q k hk z1
      · exact absurd z.1 (by decide)
      · exact absurd z.1 (by decide)
    · rw [b]
      refine br_t (n0 i hi) (hf (fun z => ?_))
      rcases z with z | z | z
      · exact z.2.2 i hi ⟨b2.1, (uk_zst hPs hi b2.1).mp b2.2.1, b2.2.2⟩
      · exact absurd z.1 (by decide)
      · exact absurd z.1 (by decide)
  have m116 : ∀ c' : Int32, ¬ uk_Bk x_pids x_parents y_zombie x_registers x_held y_kind x_openTargets x_pipeCounts s c → wY_waits_116 post c' x_changes y_time y_last y_lastPid y_did x_greatestPid x_latestPid x_saidCount y_killed y_ops y_as y_bs x_codeLengths x_pids x_parents x_programs x_places x_statuses x_stepCounts x_copyCounts y_pages y_wake y_zombie y_blocked x_registers y_memory y_frame x_held y_kind x_openTargets y_mode x_openPlaces x_pipeCounts y_pipe x_nameFiles y_size x_fileWords x_safeNames y_safeSize x_safeWords y_said := fun c' q => br_t (by decide) (hf q)
  have m94 : (c = 7 ∨ c = 8) → wY_waits_94 post (nI s) c (x_registers (4 * s)) x_changes y_time y_last y_lastPid y_did x_greatestPid x_latestPid x_saidCount y_killed y_ops y_as y_bs x_codeLengths x_pids x_parents x_programs x_places x_statuses x_stepCounts x_copyCounts y_pages y_wake y_zombie y_blocked x_registers y_memory y_frame x_held y_kind x_openTargets y_mode x_openPlaces x_pipeCounts y_pipe x_nameFiles y_size x_fileWords x_safeNames y_safeSize x_safeWords y_said := fun hc => by
    have hB : uk_Bk x_pids x_parents y_zombie x_registers x_held y_kind x_openTargets x_pipeCounts s c ↔ (∃ d o, d < 6 ∧ o < 12 ∧ x_registers (4 * s) = nI d ∧ x_held (6 * s + d) = nI o ∧ ((c = 7 ∧ y_kind o = 2 ∧ x_pipeCounts (x_openTargets o).toNatClampNeg = 0 ∧ ∃ e, e < 12 ∧ y_kind e = 3 ∧ x_openTargets e = x_openTargets o) ∨ (c = 8 ∧ y_kind o = 3 ∧ x_pipeCounts (x_openTargets o).toNatClampNeg = 4 ∧ ∃ e, e < 12 ∧ y_kind e = 2 ∧ x_openTargets e = x_openTargets o))) := by
      constructor
      · rintro (z | z | z)
        · exact absurd z.1 e2
        · obtain ⟨a, d, o, hd, ho, f1, f2, f3⟩ := z
          exact ⟨d, o, hd, ho, f1, f2, Or.inl ⟨a, f3⟩⟩
        · obtain ⟨a, d, o, hd, ho, f1, f2, f3⟩ := z
          exact ⟨d, o, hd, ho, f1, f2, Or.inr ⟨a, f3⟩⟩
      · rintro ⟨d, o, hd, ho, f1, f2, ⟨a, f3⟩ | ⟨a, f3⟩⟩
        · exact Or.inr (Or.inl ⟨a, d, o, hd, ho, f1, f2, f3⟩)
        · exact Or.inr (Or.inr ⟨a, d, o, hd, ho, f1, f2, f3⟩)
    refine yk_no 5 rfl (by decide) (fun a => br_t rfl ?_) (fun a => br_f (by decide) (m116 c (fun z => ?_)))
    · obtain ⟨d, hd, ed⟩ := vp_in_of a (by decide)
      rw [ed, uk_6m, nI_add]
      refine ⟨vp_in_nI (by omega) (by decide), ?_⟩
      rw [nI_clamp (show 6 * s + d < 2 ^ 31 by omega)]
      have hu : ∀ d', d' < 6 → x_registers (4 * s) = nI d' → d' = d := fun d' hd' f => uk_nIn (by omega) (by omega) (f.symm.trans ed)
      rcases hHd s hs hp hz d hd with e | e
      · rw [e]
        refine br_t (by decide) (hf (fun z => ?_))
        obtain ⟨d', o, hd', ho, f1, f2, _⟩ := hB.mp z
        have := hu d' hd' f1
        subst this
        exact uk_ne1 (n := o) (by omega) (f2.symm.trans e)
      · obtain ⟨o, ho, eo⟩ := vp_in_of e (by decide)
        rw [eo]
        obtain ⟨k1, k2, k3⟩ := uk_hk hHo hOk hs hp hz hd ho eo
        have vo : vp_in (nI o) 12 := vp_in_nI ho (by decide)
        have hu2 : ∀ d' o', d' < 6 → o' < 12 → x_registers (4 * s) = nI d' → x_held (6 * s + d') = nI o' → o' = o := fun d' o' hd' ho' f1 f2 => by
          have := hu d' hd' f1
          subst this
          exact (uk_nIn (by omega) (by omega) (eo.symm.trans f2)).symm
        refine br_f (nI_pos (by omega)) ⟨vo, ?_⟩
        have en : (nI o).toNatClampNeg = o := nI_clamp (by omega)
        refine ⟨fun c7 => ?_, fun c7 => ?_⟩
        · unfold wY_waits_142
          rw [en]
          refine ⟨fun k => br_t c7 ⟨vo, ?_⟩, fun k => hf (fun z => ?_)⟩
          · rw [k] at k3
            rcases k3 with q | q | q
            · exact absurd q.1 (by decide)
            · refine ⟨q.2.2, fun b => ⟨vo, yk_hasEnd (fun w => br_f (by decide) (ht (hB.mpr ⟨d, o, hd, ho, ed, eo, Or.inl ⟨c7, k, b, w⟩⟩))) (fun w => br_t rfl (hf (fun z => ?_)))⟩, fun b => hf (fun z => ?_)⟩
              · obtain ⟨d', o', hd', ho', f1, f2, ⟨_, f3, f4, ex, hx, f5⟩ | ⟨f3, _⟩⟩ := hB.mp z
                · have := hu2 d' o' hd' ho' f1 f2
                  subst this
                  exact w ex hx f5
                · rw [c7] at f3; exact absurd f3 (by decide)
              · obtain ⟨d', o', hd', ho', f1, f2, ⟨_, f3, f4, _⟩ | ⟨f3, _⟩⟩ := hB.mp z
                · have := hu2 d' o' hd' ho' f1 f2
                  subst this
                  exact b f4
                · rw [c7] at f3; exact absurd f3 (by decide)
            · exact absurd q.1 (by decide)
          · obtain ⟨d', o', hd', ho', f1, f2, ⟨_, f3, f4, _⟩ | ⟨f3, _⟩⟩ := hB.mp z
            · have := hu2 d' o' hd' ho' f1 f2
              subst this
              exact k f3
            · rw [c7] at f3; exact absurd f3 (by decide)
        · have c8 := hc.resolve_left c7
          unfold wY_waits_142
          rw [en]
          refine ⟨fun k => br_f c7 ⟨vo, ?_⟩, fun k => hf (fun z => ?_)⟩
          · rw [k] at k3
            rcases k3 with q | q | q
            · exact absurd q.1 (by decide)
            · exact absurd q.1 (by decide)
            · refine ⟨q.2.2, fun b => ⟨vo, yk_hasEnd (fun w => br_f (by decide) (ht (hB.mpr ⟨d, o, hd, ho, ed, eo, Or.inr ⟨c8, k, b, w⟩⟩))) (fun w => br_t rfl (hf (fun z => ?_)))⟩, fun b => hf (fun z => ?_)⟩
              · obtain ⟨d', o', hd', ho', f1, f2, ⟨f3, _⟩ | ⟨_, f3, f4, ex, hx, f5⟩⟩ := hB.mp z
                · exact absurd f3 c7
                · have := hu2 d' o' hd' ho' f1 f2
                  subst this
                  exact w ex hx f5
              · obtain ⟨d', o', hd', ho', f1, f2, ⟨f3, _⟩ | ⟨_, f3, f4, _⟩⟩ := hB.mp z
                · exact absurd f3 c7
                · have := hu2 d' o' hd' ho' f1 f2
                  subst this
                  exact b f4
          · obtain ⟨d', o', hd', ho', f1, f2, ⟨f3, _⟩ | ⟨_, f3, f4, _⟩⟩ := hB.mp z
            · exact absurd f3 c7
            · have := hu2 d' o' hd' ho' f1 f2
              subst this
              exact k f3
    · obtain ⟨d', o, hd', ho, f1, _⟩ := hB.mp z
      exact a (by rw [f1]; exact vp_in_nI hd' (by decide))
  refine ⟨fun e7 => m94 (Or.inl e7), fun e7 => ⟨fun e8 => m94 (Or.inr e8), fun e8 => m116 c (fun z => ?_)⟩⟩
  rcases z with z | z | z
  · exact e2 z.1
  · exact e7 z.1
  · exact e8 z.1
end
