/-! who is ready -/
theorem uk_hk {P zo H oh ok ki T om mo op : Nat → Int32} {s d o : Nat} (hHo : uk_Ho P zo H oh) (hOk : uk_Ok oh ok ki T om mo op) (hs : s < 8) (hp : P s ≠ 0) (hz : zo s = 0) (hd : d < 6) (ho : o < 12) (e : H (6 * s + d) = nI o) : oh o ≠ 0 ∧ ok o = ki o ∧ ((ki o = 1 ∧ om o = mo o ∧ mo o &&& 3 ≠ 0 ∧ vp_in (T o) 8) ∨ (ki o = 2 ∧ om o = 1 ∧ vp_in (T o) 4) ∨ (ki o = 3 ∧ om o = 2 ∧ vp_in (T o) 4)) := by
  have hoh : oh o ≠ 0 := fun z => by
    have h1 := (uk_ohn hHo ho).mp z
    have h2 := uk_hwp hs hp hz hd e
    omega
  rcases (hOk o ho).2 with ⟨a, _⟩ | ⟨_, b, c⟩
  · exact absurd a hoh
  · exact ⟨hoh, b, c⟩
theorem uk_n12 : ¬ (1 : Int32) = 2 := by decide
theorem uk_n13 : ¬ (1 : Int32) = 3 := by decide
theorem uk_n23 : ¬ (2 : Int32) = 3 := by decide
theorem uk_n32 : ¬ (3 : Int32) = 2 := by decide
theorem uk_m11 : (1 : Int32) &&& 1 ≠ 0 := by decide
theorem uk_m21 : (2 : Int32) &&& 1 = 0 := by decide
theorem uk_m22 : (2 : Int32) &&& 2 ≠ 0 := by decide
theorem uk_m12 : (1 : Int32) &&& 2 = 0 := by decide
theorem uk_nIn {a b : Nat} (ha : a < 2 ^ 31) (hb : b < 2 ^ 31) (h : nI a = nI b) : a = b := (nI_eq ha hb).mp h
section
variable {x_changes x_saidCount x_time x_lastSlot x_sliceSteps x_latestPid x_greatestPid : Int32} {x_code x_codeLengths x_pids x_parents x_programs x_places x_states x_statuses x_stepCounts x_copyCounts x_wakeTimes x_registers x_pageCounts x_pageFrames x_held x_frameUsers x_frameWords x_openHolders x_openKinds x_openTargets x_openPlaces x_openModes x_pipeFirsts x_pipeCounts x_pipeWords x_nameFiles x_fileSizes x_fileWords x_safeNames x_safeSizes x_safeWords x_saidInts : Nat → Int32} {y_time y_last y_lastPid y_did y_killed : Int32} {y_ops y_as y_bs y_pages y_wake y_zombie y_blocked y_memory y_frame y_kind y_mode y_pipe y_size y_safeSize y_said : Nat → Int32}
theorem xk_openFor {post : Int32 → Prop} {s : Nat} {m : Int32} (hs : s < 8) (hH : ∀ d, d < 6 → x_held (6 * s + d) = -1 ∨ vp_in (x_held (6 * s + d)) 12) (h0 : (¬ ∃ d o, d < 6 ∧ o < 12 ∧ x_registers (4 * s) = nI d ∧ x_held (6 * s + d) = nI o ∧ x_openModes o &&& m ≠ 0) → post (-1)) (h1 : ∀ d o, d < 6 → o < 12 → x_registers (4 * s) = nI d → x_held (6 * s + d) = nI o → x_openModes o &&& m ≠ 0 → post (nI o)) : wpX_openFor post (x_changes, x_saidCount, x_time, x_lastSlot, x_sliceSteps, x_latestPid, x_greatestPid, x_code, x_codeLengths, x_pids, x_parents, x_programs, x_places, x_states, x_statuses, x_stepCounts, x_copyCounts, x_wakeTimes, x_registers, x_pageCounts, x_pageFrames, x_held, x_frameUsers, x_frameWords, x_openHolders, x_openKinds, x_openTargets, x_openPlaces, x_openModes, x_pipeFirsts, x_pipeCounts, x_pipeWords, x_nameFiles, x_fileSizes, x_fileWords, x_safeNames, x_safeSizes, x_safeWords, x_saidInts) (nI s) m := by
  unfold wpX_openFor
  rw [uk_m4]
  refine ⟨vp_in_nI (by omega) (by decide), ?_⟩
  rw [nI_clamp (show 4 * s < 2 ^ 31 by omega)]
  refine nm_e ⟨fun a => h0 (fun z => ?_), fun a => ?_⟩
  · obtain ⟨d, o, hd, _, e, _⟩ := z
    rw [e] at a
    exact nI_pos (by omega) a
  obtain ⟨d, hd, ed⟩ := nI_of a
  rw [ed, uk_m6, nI_add]
  refine ⟨fun b => ?_, fun b => h0 (fun z => ?_)⟩
  · have hd6 : d < 6 := (nI_ltI (b := 6) hd (by decide)).mp b
    refine ⟨vp_in_nI (by omega) (by decide), ?_⟩
    rw [nI_clamp (show 6 * s + d < 2 ^ 31 by omega)]
    rcases hH d hd6 with e | e
    · rw [e]
      refine nm_e (br_t rfl (h0 (fun z => ?_)))
      obtain ⟨d', o, hd', ho, e1, e2, _⟩ := z
      have := uk_nIn hd (by omega) (ed.symm.trans e1)
      subst this
      exact uk_ne1 (n := o) (by omega) (e2.symm.trans e)
    · obtain ⟨o, ho, eo⟩ := vp_in_of e (by decide)
      rw [eo]
      refine nm_e (br_f (uk_ne1 (by omega)) ⟨vp_in_nI ho (by decide), ?_⟩)
      rw [nI_clamp (show o < 2 ^ 31 by omega)]
      refine ⟨fun c => h0 (fun z => ?_), fun c => h1 d o hd6 ho ed eo c⟩
      obtain ⟨d', o', hd', ho', e1, e2, e3⟩ := z
      have := uk_nIn hd (by omega) (ed.symm.trans e1)
      subst this
      have := uk_nIn (by omega) (by omega) (eo.symm.trans e2)
      subst this
      exact e3 c
  · obtain ⟨d', o, hd', ho, e1, e2, _⟩ := z
    have := uk_nIn hd (by omega) (ed.symm.trans e1)
    subst this
    exact b (nI_lt (b := 6) hd' (by decide))
theorem uk_ends (hHo : uk_Ho x_pids y_zombie x_held x_openHolders) (hOk : uk_Ok x_openHolders x_openKinds y_kind x_openTargets x_openModes y_mode x_openPlaces) {k p : Int32} (hk : k ≠ 0) : nI (uk_cn (fun o => ¬ x_openHolders o ≤ 0 ∧ x_openKinds o = k ∧ x_openTargets o = p) 12) ≤ 0 ↔ ¬ ∃ e, e < 12 ∧ y_kind e = k ∧ x_openTargets e = p := by
  have hle := uk_cnle (fun o => ¬ x_openHolders o ≤ 0 ∧ x_openKinds o = k ∧ x_openTargets o = p) 12
  rw [uk_le0 (nI_pos (by omega)), uk_cnz (by decide)]
  constructor
  · rintro h ⟨e, he, e1, e2⟩
    have := (uk_okk hOk hHo he hk).mpr e1
    exact h e he ⟨this.1, this.2, e2⟩
  · intro h e he z
    exact h ⟨e, he, (uk_okk hOk hHo he hk).mp ⟨z.1, z.2.1⟩, z.2.2⟩
theorem xk_readBlocks {post : Int32 → Prop} {s : Nat} (hHd : uk_Hd x_pids y_zombie x_held) (hHo : uk_Ho x_pids y_zombie x_held x_openHolders) (hOk : uk_Ok x_openHolders x_openKinds y_kind x_openTargets x_openModes y_mode x_openPlaces) (hs : s < 8) (hp : x_pids s ≠ 0) (hz : y_zombie s = 0) (ht : uk_Bk x_pids x_parents y_zombie x_registers x_held y_kind x_openTargets x_pipeCounts s 7 → post 1) (hf : ¬ uk_Bk x_pids x_parents y_zombie x_registers x_held y_kind x_openTargets x_pipeCounts s 7 → post 0) : wpX_readBlocks post (x_changes, x_saidCount, x_time, x_lastSlot, x_sliceSteps, x_latestPid, x_greatestPid, x_code, x_codeLengths, x_pids, x_parents, x_programs, x_places, x_states, x_statuses, x_stepCounts, x_copyCounts, x_wakeTimes, x_registers, x_pageCounts, x_pageFrames, x_held, x_frameUsers, x_frameWords, x_openHolders, x_openKinds, x_openTargets, x_openPlaces, x_openModes, x_pipeFirsts, x_pipeCounts, x_pipeWords, x_nameFiles, x_fileSizes, x_fileWords, x_safeNames, x_safeSizes, x_safeWords, x_saidInts) (nI s) := by
  unfold wpX_readBlocks
  have hB : uk_Bk x_pids x_parents y_zombie x_registers x_held y_kind x_openTargets x_pipeCounts s 7 ↔ (∃ d o, d < 6 ∧ o < 12 ∧ x_registers (4 * s) = nI d ∧ x_held (6 * s + d) = nI o ∧ y_kind o = 2 ∧ x_pipeCounts (x_openTargets o).toNatClampNeg = 0 ∧ ∃ e, e < 12 ∧ y_kind e = 3 ∧ x_openTargets e = x_openTargets o) :=
    ⟨fun z => by
      rcases z with z | z | z
      · exact absurd z.1 (by decide)
      · exact z.2
      · exact absurd z.1 (by decide), fun z => Or.inr (Or.inl ⟨rfl, z⟩)⟩
  refine xk_openFor hs (hHd s hs hp hz) (fun h0 => br_t rfl (hf (fun z => ?_))) (fun d o hd ho e1 e2 e3 => br_f (uk_ne1 (by omega)) ⟨vp_in_nI ho (by decide), ?_⟩)
  · obtain ⟨d, o, hd, ho, e1, e2, e3, _⟩ := hB.mp z
    have := (uk_hk hHo hOk hs hp hz hd ho e2).2.2
    rw [e3] at this
    rcases this with c | c | c
    · exact absurd c.1 (by decide)
    · exact h0 ⟨d, o, hd, ho, e1, e2, by rw [c.2.1]; exact uk_m11⟩
    · exact absurd c.1 (by decide)
  · have hu : ∀ d' o', d' < 6 → o' < 12 → x_registers (4 * s) = nI d' → x_held (6 * s + d') = nI o' → o' = o := fun d' o' hd' ho' f1 f2 => by
      have := uk_nIn (by omega) (by omega) (e1.symm.trans f1)
      subst this
      exact (uk_nIn (by omega) (by omega) (e2.symm.trans f2)).symm
    rw [nI_clamp (show o < 2 ^ 31 by omega)]
    obtain ⟨k1, k2, k3⟩ := uk_hk hHo hOk hs hp hz hd ho e2
    rw [k2]
    refine ⟨fun a => ⟨vp_in_nI ho (by decide), nm_e ?_⟩, fun a => hf (fun z => ?_)⟩
    · rw [a] at k3
      rcases k3 with c | c | c
      · exact absurd c.1 (by decide)
      · refine ⟨c.2.2, fun b => xk_countOpens ⟨fun w => hf (fun z => ?_), fun w => ht ?_⟩, fun b => hf (fun z => ?_)⟩
        · obtain ⟨d', o', hd', ho', f1, f2, f3, f4, f5⟩ := hB.mp z
          have := hu d' o' hd' ho' f1 f2
          subst this
          exact (uk_ends hHo hOk (by decide)).mp w f5
        · exact hB.mpr ⟨d, o, hd, ho, e1, e2, a, b, Classical.byContradiction (fun y => w ((uk_ends hHo hOk (by decide)).mpr y))⟩
        · obtain ⟨d', o', hd', ho', f1, f2, f3, f4, f5⟩ := hB.mp z
          have := hu d' o' hd' ho' f1 f2
          subst this
          exact b f4
      · exact absurd c.1 (by decide)
    · obtain ⟨d', o', hd', ho', f1, f2, f3, f4, f5⟩ := hB.mp z
      have := hu d' o' hd' ho' f1 f2
      subst this
      exact a f3
theorem uk_c4 {C pf pw pi : Nat → Int32} (h : uk_Pi C pf pw pi) {x : Int32} (hx : vp_in x 4) : (C x.toNatClampNeg < 4 ↔ ¬ C x.toNatClampNeg = 4) ∧ (¬ 0 < C x.toNatClampNeg ↔ C x.toNatClampNeg = 0) := by
  obtain ⟨c, f, h1, h2, h3, _⟩ := h x.toNatClampNeg (uk_inc hx)
  rw [h3, show (4 : Int32) = nI 4 from rfl, show (0 : Int32) = nI 0 from rfl, nI_ltI (by omega) (by decide), nI_eq (by omega) (by decide), nI_ltI (by decide) (by omega), nI_eq (by omega) (by decide)]
  omega
theorem xk_writeBlocks {post : Int32 → Prop} {s : Nat} (hHd : uk_Hd x_pids y_zombie x_held) (hHo : uk_Ho x_pids y_zombie x_held x_openHolders) (hOk : uk_Ok x_openHolders x_openKinds y_kind x_openTargets x_openModes y_mode x_openPlaces) (hPi : uk_Pi x_pipeCounts x_pipeFirsts x_pipeWords y_pipe) (hs : s < 8) (hp : x_pids s ≠ 0) (hz : y_zombie s = 0) (ht : uk_Bk x_pids x_parents y_zombie x_registers x_held y_kind x_openTargets x_pipeCounts s 8 → post 1) (hf : ¬ uk_Bk x_pids x_parents y_zombie x_registers x_held y_kind x_openTargets x_pipeCounts s 8 → post 0) : wpX_writeBlocks post (x_changes, x_saidCount, x_time, x_lastSlot, x_sliceSteps, x_latestPid, x_greatestPid, x_code, x_codeLengths, x_pids, x_parents, x_programs, x_places, x_states, x_statuses, x_stepCounts, x_copyCounts, x_wakeTimes, x_registers, x_pageCounts, x_pageFrames, x_held, x_frameUsers, x_frameWords, x_openHolders, x_openKinds, x_openTargets, x_openPlaces, x_openModes, x_pipeFirsts, x_pipeCounts, x_pipeWords, x_nameFiles, x_fileSizes, x_fileWords, x_safeNames, x_safeSizes, x_safeWords, x_saidInts) (nI s) := by
  unfold wpX_writeBlocks
  have hB : uk_Bk x_pids x_parents y_zombie x_registers x_held y_kind x_openTargets x_pipeCounts s 8 ↔ (∃ d o, d < 6 ∧ o < 12 ∧ x_registers (4 * s) = nI d ∧ x_held (6 * s + d) = nI o ∧ y_kind o = 3 ∧ x_pipeCounts (x_openTargets o).toNatClampNeg = 4 ∧ ∃ e, e < 12 ∧ y_kind e = 2 ∧ x_openTargets e = x_openTargets o) :=
    ⟨fun z => by
      rcases z with z | z | z
      · exact absurd z.1 (by decide)
      · exact absurd z.1 (by decide)
      · exact z.2, fun z => Or.inr (Or.inr ⟨rfl, z⟩)⟩
  refine xk_openFor hs (hHd s hs hp hz) (fun h0 => br_t rfl (hf (fun z => ?_))) (fun d o hd ho e1 e2 e3 => br_f (uk_ne1 (by omega)) ⟨vp_in_nI ho (by decide), ?_⟩)
  · obtain ⟨d, o, hd, ho, e1, e2, e3, _⟩ := hB.mp z
    have := (uk_hk hHo hOk hs hp hz hd ho e2).2.2
    rw [e3] at this
    rcases this with c | c | c
    · exact absurd c.1 (by decide)
    · exact absurd c.1 (by decide)
    · exact h0 ⟨d, o, hd, ho, e1, e2, by rw [c.2.1]; exact uk_m22⟩
  · have hu : ∀ d' o', d' < 6 → o' < 12 → x_registers (4 * s) = nI d' → x_held (6 * s + d') = nI o' → o' = o := fun d' o' hd' ho' f1 f2 => by
      have := uk_nIn (by omega) (by omega) (e1.symm.trans f1)
      subst this
      exact (uk_nIn (by omega) (by omega) (e2.symm.trans f2)).symm
    rw [nI_clamp (show o < 2 ^ 31 by omega)]
    obtain ⟨k1, k2, k3⟩ := uk_hk hHo hOk hs hp hz hd ho e2
    rw [k2]
    refine ⟨fun a => ⟨vp_in_nI ho (by decide), nm_e ?_⟩, fun a => hf (fun z => ?_)⟩
    · rw [a] at k3
      rcases k3 with c | c | c
      · exact absurd c.1 (by decide)
      · exact absurd c.1 (by decide)
      · refine ⟨c.2.2, fun b => hf (fun z => ?_), fun b => xk_countOpens ⟨fun w => hf (fun z => ?_), fun w => ht ?_⟩⟩
        · obtain ⟨d', o', hd', ho', f1, f2, f3, f4, f5⟩ := hB.mp z
          have := hu d' o' hd' ho' f1 f2
          subst this
          exact (uk_c4 hPi c.2.2).1.mp b f4
        · obtain ⟨d', o', hd', ho', f1, f2, f3, f4, f5⟩ := hB.mp z
          have := hu d' o' hd' ho' f1 f2
          subst this
          exact (uk_ends hHo hOk (by decide)).mp w f5
        · exact hB.mpr ⟨d, o, hd, ho, e1, e2, a, Classical.byContradiction (fun y => b ((uk_c4 hPi c.2.2).1.mpr y)), Classical.byContradiction (fun y => w ((uk_ends hHo hOk (by decide)).mpr y))⟩
    · obtain ⟨d', o', hd', ho', f1, f2, f3, f4, f5⟩ := hB.mp z
      have := hu d' o' hd' ho' f1 f2
      subst this
      exact a f3
theorem uk_zst (hPs : uk_Ps x_pids x_parents x_programs x_places x_statuses x_states y_zombie y_blocked) {c : Nat} (hc : c < 8) (hp : x_pids c ≠ 0) : x_states c = 3 ↔ y_zombie c = 1 := by
  rcases (hPs c hc).2.2.2.2.2.2 hp with ⟨a, b⟩ | ⟨a, _, b⟩
  · exact ⟨fun _ => a, fun _ => b⟩
  · rw [a]
    rcases b with ⟨_, b⟩ | ⟨_, b⟩ <;> rw [b] <;> exact ⟨fun z => absurd z (by decide), fun z => absurd z (by decide)⟩
theorem xk_wouldBlock {post : Int32 → Prop} {s : Nat} {c : Int32} (hPs : uk_Ps x_pids x_parents x_programs x_places x_statuses x_states y_zombie y_blocked) (hHd : uk_Hd x_pids y_zombie x_held) (hHo : uk_Ho x_pids y_zombie x_held x_openHolders) (hOk : uk_Ok x_openHolders x_openKinds y_kind x_openTargets x_openModes y_mode x_openPlaces) (hPi : uk_Pi x_pipeCounts x_pipeFirsts x_pipeWords y_pipe) (hs : s < 8) (hp : x_pids s ≠ 0) (hz : y_zombie s = 0) (h14 : c ≠ 14) (ht : uk_Bk x_pids x_parents y_zombie x_registers x_held y_kind x_openTargets x_pipeCounts s c → post 1) (hf : ¬ uk_Bk x_pids x_parents y_zombie x_registers x_held y_kind x_openTargets x_pipeCounts s c → post 0) : wpX_wouldBlock post (x_changes, x_saidCount, x_time, x_lastSlot, x_sliceSteps, x_latestPid, x_greatestPid, x_code, x_codeLengths, x_pids, x_parents, x_programs, x_places, x_states, x_statuses, x_stepCounts, x_copyCounts, x_wakeTimes, x_registers, x_pageCounts, x_pageFrames, x_held, x_frameUsers, x_frameWords, x_openHolders, x_openKinds, x_openTargets, x_openPlaces, x_openModes, x_pipeFirsts, x_pipeCounts, x_pipeWords, x_nameFiles, x_fileSizes, x_fileWords, x_safeNames, x_safeSizes, x_safeWords, x_saidInts) (nI s) c := by
  unfold wpX_wouldBlock
  refine ⟨fun e2 => ?_, fun e2 => ⟨fun e7 => ?_, fun e7 => ⟨fun e8 => ?_, fun e8 => br_f h14 (hf (fun z => ?_))⟩⟩⟩
  · subst e2
    refine xk_hasChild hs (fun a => br_f (by decide) (xk_leastZombie hs ?_)) (fun a => br_t rfl (hf (fun z => ?_)))
    · rcases uk_bes x_pids (fun c => x_pids c ≠ 0 ∧ x_states c = 3 ∧ x_parents c = x_pids s) 8 with ⟨b, b2⟩ | ⟨i, hi, b, b2⟩
      · rw [b]
        exact br_t rfl (ht (Or.inl ⟨rfl, a, fun k hk z => b2 k hk ⟨z.1, (uk_zst hPs hk z.1).mpr z.2.1, z.2.2⟩⟩))
      · rw [b]
        refine br_f (uk_ne1 (by omega)) (hf (fun z => ?_))
        rcases z with z | z | z
        · exact z.2.2 i hi ⟨b2.1, (uk_zst hPs hi b2.1).mp b2.2.1, b2.2.2⟩
        · exact absurd z.1 (by decide)
        · exact absurd z.1 (by decide)
    · rcases z with z | z | z
      · obtain ⟨k, hk, z1⟩ := z.2.1
        exact a k hk z1
      · exact absurd z.1 (by decide)
      · exact absurd z.1 (by decide)
  · subst e7
    exact xk_readBlocks hHd hHo hOk hs hp hz (fun a => ⟨rfl, ht a⟩) (fun a => ⟨rfl, hf a⟩)
  · subst e8
    exact xk_writeBlocks hHd hHo hOk hPi hs hp hz (fun a => ⟨rfl, ht a⟩) (fun a => ⟨rfl, hf a⟩)
  · rcases z with z | z | z
    · exact e2 z.1
    · exact e7 z.1
    · exact e8 z.1
end
