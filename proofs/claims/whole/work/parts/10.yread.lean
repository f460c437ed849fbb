/-! Y's readers -/
theorem uk_vb0 : vp_nar .boolean 0 = 0 := rfl
theorem uk_vb1 : vp_nar .boolean 1 = 1 := rfl
theorem uk_le0 {x : Int32} (h : ¬ x < 0) : x ≤ 0 ↔ x = 0 := by
  obtain ⟨j, hj, rfl⟩ := nI_of h
  rw [show (0 : Int32) = nI 0 from rfl, nI_leI hj (by decide), nI_eq hj (by decide)]
  omega
theorem uk_lt1 {x : Int32} : x < 1 ↔ x ≤ 0 := by
  by_cases h : x < 0
  · exact ⟨fun _ => Int32.le_of_lt h, fun _ => Int32.lt_of_lt_of_le h (by decide)⟩
  · obtain ⟨j, hj, rfl⟩ := nI_of h
    rw [show (1 : Int32) = nI 1 from rfl, show (0 : Int32) = nI 0 from rfl, nI_leI hj (by decide), nI_ltI hj (by decide)]
    omega
theorem yk_no {post : Int32 → Prop} {x m : Int32} (n : Nat) (hm : m = nI n) (hb : n + 1 < 2 ^ 31) (hf : vp_in x (n + 1) → post 0) (ht : ¬ vp_in x (n + 1) → post 1) : wpY_no post x m := by
  subst hm
  have e := uk_inE (x := x) (n := n + 1) rfl hb
  have e2 : ¬ x < 0 → (¬ nI (n + 1) ≤ x ↔ x ≤ nI n) := fun h => by
    obtain ⟨j, hj, rfl⟩ := nI_of h
    rw [nI_leI hb hj, nI_leI hj (by omega)]; omega
  unfold wpY_no
  exact ⟨fun a => ht (fun z => (e.mp z).1 a), fun a => ⟨fun b => hf (e.mpr ⟨a, (e2 a).mpr b⟩), fun b => ht (fun z => b ((e2 a).mp (e.mp z).2))⟩⟩
section
variable {y_changes y_time y_last y_lastPid y_did y_greatest y_stepped y_says y_killed : Int32} {y_ops y_as y_bs y_length y_pid y_parent y_program y_pc y_status y_steps y_copies y_pages y_wake y_zombie y_blocked y_reg y_memory y_frame y_descriptor y_kind y_of y_mode y_place y_piped y_pipe y_names y_size y_words y_safeNames y_safeSize y_safeWords y_said : Nat → Int32}
theorem yk_processes {post : Int32 → Prop} (hP : ∀ s, s < 8 → ¬ y_pid s < 0) (h : post (nI (uk_cn (fun s => y_pid s ≠ 0) 8))) : wpY_processes post (y_changes, y_time, y_last, y_lastPid, y_did, y_greatest, y_stepped, y_says, y_killed, y_ops, y_as, y_bs, y_length, y_pid, y_parent, y_program, y_pc, y_status, y_steps, y_copies, y_pages, y_wake, y_zombie, y_blocked, y_reg, y_memory, y_frame, y_descriptor, y_kind, y_of, y_mode, y_place, y_piped, y_pipe, y_names, y_size, y_words, y_safeNames, y_safeSize, y_safeWords, y_said) := by
  unfold wpY_processes
  refine uk_count (fun n i c => wY_processes_4 post y_changes y_time y_last y_lastPid y_did y_greatest y_stepped y_says y_killed y_ops y_as y_bs y_length y_pid y_parent y_program y_pc y_status y_steps y_copies y_pages y_wake y_zombie y_blocked y_reg y_memory y_frame y_descriptor y_kind y_of y_mode y_place y_piped y_pipe y_names y_size y_words y_safeNames y_safeSize y_safeWords y_said n c (nI i)) (fun s => y_pid s ≠ 0) 8 (fun n => br_t (uk_refl 8) h) (fun n i c hi ht hf => ?_)
  obtain ⟨z, v, e⟩ := uk_lp 8 hi (by decide)
  refine br_f z ⟨v, ?_⟩
  rw [e, uk_le0 (hP i hi)]
  exact ⟨fun q => nm_r (nI_1 i) (hf (fun z => z q)), fun q => nm_r (nI_1 c) (nm_r (nI_1 i) (ht q))⟩
theorem yk_slotOf {post : Int32 → Prop} {p : Int32} (h1 : p < 1 → post (-1)) (h2 : ¬ p < 1 → post (uk_ff (fun s => y_pid s = p) 8)) : wpY_slotOf post (y_changes, y_time, y_last, y_lastPid, y_did, y_greatest, y_stepped, y_says, y_killed, y_ops, y_as, y_bs, y_length, y_pid, y_parent, y_program, y_pc, y_status, y_steps, y_copies, y_pages, y_wake, y_zombie, y_blocked, y_reg, y_memory, y_frame, y_descriptor, y_kind, y_of, y_mode, y_place, y_piped, y_pipe, y_names, y_size, y_words, y_safeNames, y_safeSize, y_safeWords, y_said) p := by
  unfold wpY_slotOf
  by_cases hp : p < 1
  · refine uk_any (fun n i => wY_slotOf_2 post p y_changes y_time y_last y_lastPid y_did y_greatest y_stepped y_says y_killed y_ops y_as y_bs y_length y_pid y_parent y_program y_pc y_status y_steps y_copies y_pages y_wake y_zombie y_blocked y_reg y_memory y_frame y_descriptor y_kind y_of y_mode y_place y_piped y_pipe y_names y_size y_words y_safeNames y_safeSize y_safeWords y_said n (nI i)) (fun _ => False) 8 (fun _ n => br_t (uk_refl 8) (h1 hp)) (fun n i hi h => h.elim) (fun n i hi h ih => ?_)
    obtain ⟨z, v, e⟩ := uk_lp 8 hi (by decide)
    exact br_f z ⟨v, fun _ => br_t (uk_lt1.mp hp) (nm_r (nI_1 i) ih), fun _ => nm_r (nI_1 i) ih⟩
  · refine uk_first (fun n i => wY_slotOf_2 post p y_changes y_time y_last y_lastPid y_did y_greatest y_stepped y_says y_killed y_ops y_as y_bs y_length y_pid y_parent y_program y_pc y_status y_steps y_copies y_pages y_wake y_zombie y_blocked y_reg y_memory y_frame y_descriptor y_kind y_of y_mode y_place y_piped y_pipe y_names y_size y_words y_safeNames y_safeSize y_safeWords y_said n (nI i)) post (fun s => y_pid s = p) 8 (h2 hp) (fun n h => br_t (uk_refl 8) h) (fun n i hi ht hf => ?_)
    obtain ⟨z, v, e⟩ := uk_lp 8 hi (by decide)
    refine br_f z ⟨v, ?_⟩
    rw [e]
    exact ⟨fun q => br_f (fun w => hp (uk_lt1.mpr w)) (ht q), fun q => nm_r (nI_1 i) (hf q)⟩
theorem yk_isUsed_in {post J : Int32 → Prop} {f : Int32} {i : Nat} (hi : i < 8) (hP : ¬ y_pid i < 0) (hn : y_pid i ≠ 0 → ∃ n, n ≤ 8 ∧ y_pages i = nI n) (h1 : (y_pid i ≠ 0 ∧ ∃ p, p < (y_pages i).toNatClampNeg ∧ y_frame (8 * i + p) = f) → post 1) (h0 : ¬ (y_pid i ≠ 0 ∧ ∃ p, p < (y_pages i).toNatClampNeg ∧ y_frame (8 * i + p) = f) → J (nI (i + 1))) : ∃ m, wY_isUsed_10 post J f (nI i) y_changes y_time y_last y_lastPid y_did y_greatest y_stepped y_says y_killed y_ops y_as y_bs y_length y_pid y_parent y_program y_pc y_status y_steps y_copies y_pages y_wake y_zombie y_blocked y_reg y_memory y_frame y_descriptor y_kind y_of y_mode y_place y_piped y_pipe y_names y_size y_words y_safeNames y_safeSize y_safeWords y_said m 0 := by
  obtain ⟨_, v, e⟩ := uk_lp 8 hi (by decide)
  by_cases hp0 : y_pid i = 0
  · refine ⟨1, v, ?_⟩
    have hJ := h0 (fun z => z.1 hp0)
    rw [e]
    exact ⟨fun _ => nm_r (nI_1 i) hJ, fun _ => ⟨v, br_t ((uk_le0 hP).mpr hp0) (nm_r (nI_1 i) hJ)⟩⟩
  · obtain ⟨n, hn8, en⟩ := hn hp0
    have hle : ¬ y_pid i ≤ 0 := fun z => hp0 ((uk_le0 hP).mp z)
    have ec : (y_pages i).toNatClampNeg = n := by rw [en, nI_clamp (by omega)]
    rw [ec] at h1 h0
    refine uk_any (fun m p => wY_isUsed_10 post J f (nI i) y_changes y_time y_last y_lastPid y_did y_greatest y_stepped y_says y_killed y_ops y_as y_bs y_length y_pid y_parent y_program y_pc y_status y_steps y_copies y_pages y_wake y_zombie y_blocked y_reg y_memory y_frame y_descriptor y_kind y_of y_mode y_place y_piped y_pipe y_names y_size y_words y_safeNames y_safeSize y_safeWords y_said m (nI p)) (fun p => y_frame (8 * i + p) = f) n (fun hx m => ⟨v, ?_⟩) (fun m p hp h => ⟨v, ?_⟩) (fun m p hp h ih => ⟨v, ?_⟩)
    · rw [e, en]
      exact br_t (uk_refl _) (nm_r (nI_1 i) (h0 (fun z => by
        obtain ⟨_, p, hp, q⟩ := z
        exact hx p hp q)))
    · rw [e, en]
      refine br_f (nI_ge hp (by omega)) ⟨v, ?_⟩
      rw [uk_8m, nI_add, nI_clamp (show 8 * i + p < 2 ^ 31 by omega)]
      exact br_f hle ⟨vp_in_nI (by omega) (by omega), br_t h (h1 ⟨hp0, p, hp, h⟩)⟩
    · rw [e, en]
      refine br_f (nI_ge hp (by omega)) ⟨v, ?_⟩
      rw [uk_8m, nI_add, nI_clamp (show 8 * i + p < 2 ^ 31 by omega)]
      exact br_f hle ⟨vp_in_nI (by omega) (by omega), br_f h (nm_r (nI_1 p) ih)⟩
theorem yk_isUsed {post : Int32 → Prop} {f : Nat} (hP : ∀ s, s < 8 → ¬ y_pid s < 0) (hn : ∀ s, s < 8 → y_pid s ≠ 0 → ∃ n, n ≤ 8 ∧ y_pages s = nI n) (ht : uk_sm (uk_rw y_pid y_pages y_frame f) 8 ≠ 0 → post 1) (hf : uk_sm (uk_rw y_pid y_pages y_frame f) 8 = 0 → post 0) : wpY_isUsed post (y_changes, y_time, y_last, y_lastPid, y_did, y_greatest, y_stepped, y_says, y_killed, y_ops, y_as, y_bs, y_length, y_pid, y_parent, y_program, y_pc, y_status, y_steps, y_copies, y_pages, y_wake, y_zombie, y_blocked, y_reg, y_memory, y_frame, y_descriptor, y_kind, y_of, y_mode, y_place, y_piped, y_pipe, y_names, y_size, y_words, y_safeNames, y_safeSize, y_safeWords, y_said) (nI f) := by
  have hu := uk_used y_pid y_pages y_frame f
  unfold wpY_isUsed
  refine uk_any (fun n i => wY_isUsed_2 post (nI f) y_changes y_time y_last y_lastPid y_did y_greatest y_stepped y_says y_killed y_ops y_as y_bs y_length y_pid y_parent y_program y_pc y_status y_steps y_copies y_pages y_wake y_zombie y_blocked y_reg y_memory y_frame y_descriptor y_kind y_of y_mode y_place y_piped y_pipe y_names y_size y_words y_safeNames y_safeSize y_safeWords y_said n (nI i)) (fun s => y_pid s ≠ 0 ∧ ∃ p, p < (y_pages s).toNatClampNeg ∧ y_frame (8 * s + p) = nI f) 8 (fun hx n => br_t (uk_refl 8) (hf (Classical.byContradiction (fun z => ?_)))) (fun n i hi h => ?_) (fun n i hi h ih => ?_)
  · obtain ⟨s, hs, a⟩ := hu.mp z
    exact hx s hs a
  · obtain ⟨z, _, _⟩ := uk_lp 8 hi (by decide)
    exact br_f z (yk_isUsed_in hi (hP i hi) (hn i hi) (fun _ => ht (hu.mpr ⟨i, hi, h⟩)) (fun w => absurd h w))
  · obtain ⟨z, _, _⟩ := uk_lp 8 hi (by decide)
    exact br_f z (yk_isUsed_in hi (hP i hi) (hn i hi) (fun w => absurd w h) (fun _ => ih))
theorem yk_freeFrames {post : Int32 → Prop} (hP : ∀ s, s < 8 → ¬ y_pid s < 0) (hn : ∀ s, s < 8 → y_pid s ≠ 0 → ∃ n, n ≤ 8 ∧ y_pages s = nI n) (h : post (nI (uk_cn (fun f => uk_sm (uk_rw y_pid y_pages y_frame f) 8 = 0) 20))) : wpY_freeFrames post (y_changes, y_time, y_last, y_lastPid, y_did, y_greatest, y_stepped, y_says, y_killed, y_ops, y_as, y_bs, y_length, y_pid, y_parent, y_program, y_pc, y_status, y_steps, y_copies, y_pages, y_wake, y_zombie, y_blocked, y_reg, y_memory, y_frame, y_descriptor, y_kind, y_of, y_mode, y_place, y_piped, y_pipe, y_names, y_size, y_words, y_safeNames, y_safeSize, y_safeWords, y_said) := by
  unfold wpY_freeFrames
  refine uk_count (fun n i c => wY_freeFrames_4 post y_changes y_time y_last y_lastPid y_did y_greatest y_stepped y_says y_killed y_ops y_as y_bs y_length y_pid y_parent y_program y_pc y_status y_steps y_copies y_pages y_wake y_zombie y_blocked y_reg y_memory y_frame y_descriptor y_kind y_of y_mode y_place y_piped y_pipe y_names y_size y_words y_safeNames y_safeSize y_safeWords y_said n c (nI i)) (fun f => uk_sm (uk_rw y_pid y_pages y_frame f) 8 = 0) 20 (fun n => br_t (uk_refl 20) h) (fun n i c hi ht hf => ?_)
  obtain ⟨z, v, e⟩ := uk_lp 20 hi (by decide)
  refine br_f z ?_
  exact yk_isUsed hP hn (fun a => br_f (by decide) (nm_r (nI_1 i) (hf a))) (fun a => br_t rfl (nm_r (nI_1 c) (nm_r (nI_1 i) (ht a))))
theorem yk_freeFrame {post : Int32 → Prop} (hP : ∀ s, s < 8 → ¬ y_pid s < 0) (hn : ∀ s, s < 8 → y_pid s ≠ 0 → ∃ n, n ≤ 8 ∧ y_pages s = nI n) (h : post (uk_ff (fun f => uk_sm (uk_rw y_pid y_pages y_frame f) 8 = 0) 20)) : wpY_freeFrame post (y_changes, y_time, y_last, y_lastPid, y_did, y_greatest, y_stepped, y_says, y_killed, y_ops, y_as, y_bs, y_length, y_pid, y_parent, y_program, y_pc, y_status, y_steps, y_copies, y_pages, y_wake, y_zombie, y_blocked, y_reg, y_memory, y_frame, y_descriptor, y_kind, y_of, y_mode, y_place, y_piped, y_pipe, y_names, y_size, y_words, y_safeNames, y_safeSize, y_safeWords, y_said) := by
  unfold wpY_freeFrame
  refine uk_first (fun n i => wY_freeFrame_2 post y_changes y_time y_last y_lastPid y_did y_greatest y_stepped y_says y_killed y_ops y_as y_bs y_length y_pid y_parent y_program y_pc y_status y_steps y_copies y_pages y_wake y_zombie y_blocked y_reg y_memory y_frame y_descriptor y_kind y_of y_mode y_place y_piped y_pipe y_names y_size y_words y_safeNames y_safeSize y_safeWords y_said n (nI i)) post (fun f => uk_sm (uk_rw y_pid y_pages y_frame f) 8 = 0) 20 h (fun n h => br_t (uk_refl 20) (br_t rfl h)) (fun n i hi ht hf => ?_)
  obtain ⟨z, v, e⟩ := uk_lp 20 hi (by decide)
  refine br_f z ?_
  exact yk_isUsed hP hn (fun a => br_f (by decide) (nm_r (nI_1 i) (hf a))) (fun a => br_t rfl (br_f (fun w => absurd ((nI_eq (b := 20) (by omega) (by decide)).mp w) (by omega)) (ht a)))
theorem yk_sharers_in {post : Int32 → Prop} {J : Int32 → Int32 → Prop} {f i c : Nat} (hi : i < 8) (hP : ¬ y_pid i < 0) (hn : y_pid i ≠ 0 → ∃ n, n ≤ 8 ∧ y_pages i = nI n) (h : J (nI (c + uk_rw y_pid y_pages y_frame f i)) (nI (i + 1))) : ∃ m, wY_sharers_13 post J (nI f) (nI i) y_changes y_time y_last y_lastPid y_did y_greatest y_stepped y_says y_killed y_ops y_as y_bs y_length y_pid y_parent y_program y_pc y_status y_steps y_copies y_pages y_wake y_zombie y_blocked y_reg y_memory y_frame y_descriptor y_kind y_of y_mode y_place y_piped y_pipe y_names y_size y_words y_safeNames y_safeSize y_safeWords y_said m (nI c) 0 := by
  obtain ⟨_, v, e⟩ := uk_lp 8 hi (by decide)
  by_cases hp0 : y_pid i = 0
  · refine ⟨1, v, ?_⟩
    rw [uk_rw0 hp0] at h
    rw [e]
    exact ⟨fun _ => nm_r (nI_1 i) h, fun _ => ⟨v, br_t ((uk_le0 hP).mpr hp0) (nm_r (nI_1 i) h)⟩⟩
  · obtain ⟨n, hn8, en⟩ := hn hp0
    have hle : ¬ y_pid i ≤ 0 := fun z => hp0 ((uk_le0 hP).mp z)
    rw [uk_rwn hp0 en (by omega)] at h
    refine ⟨n + 1, ?_⟩
    have key := uk_run (fun m p (x : Int32) => wY_sharers_13 post J (nI f) (nI i) y_changes y_time y_last y_lastPid y_did y_greatest y_stepped y_says y_killed y_ops y_as y_bs y_length y_pid y_parent y_program y_pc y_status y_steps y_copies y_pages y_wake y_zombie y_blocked y_reg y_memory y_frame y_descriptor y_kind y_of y_mode y_place y_piped y_pipe y_names y_size y_words y_safeNames y_safeSize y_safeWords y_said m x (nI p)) (fun p => nI (c + uk_cn (fun p => y_frame (8 * i + p) = nI f) p)) n (fun m => ⟨v, by
      rw [e, en]
      exact br_t (uk_refl _) (nm_r (nI_1 i) h)⟩) (fun m p hp ih => ⟨v, by
      rw [e, en]
      refine br_f (nI_ge hp (by omega)) ⟨v, ?_⟩
      rw [uk_8m, nI_add, nI_clamp (show 8 * i + p < 2 ^ 31 by omega)]
      refine br_f hle ⟨vp_in_nI (by omega) (by omega), fun a => ?_, fun a => ?_⟩
      · rw [uk_cnt (P := fun p => y_frame (8 * i + p) = nI f) a] at ih
        exact nm_r (nI_1 _) (nm_r (nI_1 p) ih)
      · rw [uk_cnf (P := fun p => y_frame (8 * i + p) = nI f) a] at ih
        exact nm_r (nI_1 p) ih⟩) n 0 (by omega)
    exact key
theorem yk_sharers {post : Int32 → Prop} {f : Nat} (hP : ∀ s, s < 8 → ¬ y_pid s < 0) (hn : ∀ s, s < 8 → y_pid s ≠ 0 → ∃ n, n ≤ 8 ∧ y_pages s = nI n) (h : post (nI (uk_sm (uk_rw y_pid y_pages y_frame f) 8))) : wpY_sharers post (y_changes, y_time, y_last, y_lastPid, y_did, y_greatest, y_stepped, y_says, y_killed, y_ops, y_as, y_bs, y_length, y_pid, y_parent, y_program, y_pc, y_status, y_steps, y_copies, y_pages, y_wake, y_zombie, y_blocked, y_reg, y_memory, y_frame, y_descriptor, y_kind, y_of, y_mode, y_place, y_piped, y_pipe, y_names, y_size, y_words, y_safeNames, y_safeSize, y_safeWords, y_said) (nI f) := by
  unfold wpY_sharers
  exact uk_run0 (fun m i (x : Int32) => wY_sharers_4 post (nI f) y_changes y_time y_last y_lastPid y_did y_greatest y_stepped y_says y_killed y_ops y_as y_bs y_length y_pid y_parent y_program y_pc y_status y_steps y_copies y_pages y_wake y_zombie y_blocked y_reg y_memory y_frame y_descriptor y_kind y_of y_mode y_place y_piped y_pipe y_names y_size y_words y_safeNames y_safeSize y_safeWords y_said m x (nI i)) (fun i => nI (uk_sm (uk_rw y_pid y_pages y_frame f) i)) 8 (fun m => br_t (uk_refl 8) h) (fun m i hi ih => by
    obtain ⟨z, _, _⟩ := uk_lp 8 hi (by decide)
    exact br_f z (yk_sharers_in hi (hP i hi) (hn i hi) ih))
theorem yk_holders {post : Int32 → Prop} {o : Nat} (hP : ∀ s, s < 8 → ¬ y_pid s < 0) (h : post (nI (uk_sm (uk_hw y_pid y_zombie y_descriptor o) 8))) : wpY_holders post (y_changes, y_time, y_last, y_lastPid, y_did, y_greatest, y_stepped, y_says, y_killed, y_ops, y_as, y_bs, y_length, y_pid, y_parent, y_program, y_pc, y_status, y_steps, y_copies, y_pages, y_wake, y_zombie, y_blocked, y_reg, y_memory, y_frame, y_descriptor, y_kind, y_of, y_mode, y_place, y_piped, y_pipe, y_names, y_size, y_words, y_safeNames, y_safeSize, y_safeWords, y_said) (nI o) := by
  rw [← uk_hold48] at h
  unfold wpY_holders
  refine uk_count (fun n i c => wY_holders_4 post (nI o) y_changes y_time y_last y_lastPid y_did y_greatest y_stepped y_says y_killed y_ops y_as y_bs y_length y_pid y_parent y_program y_pc y_status y_steps y_copies y_pages y_wake y_zombie y_blocked y_reg y_memory y_frame y_descriptor y_kind y_of y_mode y_place y_piped y_pipe y_names y_size y_words y_safeNames y_safeSize y_safeWords y_said n c (nI i)) (fun k => (y_pid (k / 6) ≠ 0 ∧ y_zombie (k / 6) = 0) ∧ y_descriptor k = nI o) 48 (fun n => br_t (uk_refl 48) h) (fun n i c hi ht hf => ?_)
  obtain ⟨z, v, e⟩ := uk_lp 48 hi (by decide)
  refine br_f z ⟨by decide, ?_⟩
  have e6 : nI i / 6 = nI (i / 6) := pk_div (d := 6) (by omega) (by decide) (by decide)
  rw [e6]
  have v6 : vp_in (nI (i / 6)) 8 := vp_in_nI (by omega) (by decide)
  refine ⟨v6, ?_⟩
  rw [nI_clamp (show i / 6 < 2 ^ 31 by omega), e, uk_le0 (hP (i / 6) (by omega))]
  exact ⟨fun a => nm_r (nI_1 i) (hf (fun z => z.1.1 a)), fun a => ⟨by decide, v6, fun b => ⟨v, fun d => nm_r (nI_1 c) (nm_r (nI_1 i) (ht ⟨⟨a, b⟩, d⟩)), fun d => nm_r (nI_1 i) (hf (fun z => d z.2))⟩, fun b => nm_r (nI_1 i) (hf (fun z => b z.1.2))⟩⟩
theorem yk_named {post : Int32 → Prop} {f : Int32} (h : post (nI (uk_cn (fun k => y_names k = f) 8))) : wpY_named post (y_changes, y_time, y_last, y_lastPid, y_did, y_greatest, y_stepped, y_says, y_killed, y_ops, y_as, y_bs, y_length, y_pid, y_parent, y_program, y_pc, y_status, y_steps, y_copies, y_pages, y_wake, y_zombie, y_blocked, y_reg, y_memory, y_frame, y_descriptor, y_kind, y_of, y_mode, y_place, y_piped, y_pipe, y_names, y_size, y_words, y_safeNames, y_safeSize, y_safeWords, y_said) f := by
  unfold wpY_named
  refine uk_count (fun n i c => wY_named_4 post f y_changes y_time y_last y_lastPid y_did y_greatest y_stepped y_says y_killed y_ops y_as y_bs y_length y_pid y_parent y_program y_pc y_status y_steps y_copies y_pages y_wake y_zombie y_blocked y_reg y_memory y_frame y_descriptor y_kind y_of y_mode y_place y_piped y_pipe y_names y_size y_words y_safeNames y_safeSize y_safeWords y_said n c (nI i)) (fun k => y_names k = f) 8 (fun n => br_t (uk_refl 8) h) (fun n i c hi ht hf => ?_)
  obtain ⟨z, v, e⟩ := uk_lp 8 hi (by decide)
  refine br_f z ⟨v, ?_⟩
  rw [e]
  exact ⟨fun q => nm_r (nI_1 c) (nm_r (nI_1 i) (ht q)), fun q => nm_r (nI_1 i) (hf q)⟩
theorem yk_openOf {post : Int32 → Prop} {f : Int32} (h : post (nI (uk_cn (fun o => y_kind o = 1 ∧ y_of o = f) 12))) : wpY_openOf post (y_changes, y_time, y_last, y_lastPid, y_did, y_greatest, y_stepped, y_says, y_killed, y_ops, y_as, y_bs, y_length, y_pid, y_parent, y_program, y_pc, y_status, y_steps, y_copies, y_pages, y_wake, y_zombie, y_blocked, y_reg, y_memory, y_frame, y_descriptor, y_kind, y_of, y_mode, y_place, y_piped, y_pipe, y_names, y_size, y_words, y_safeNames, y_safeSize, y_safeWords, y_said) f := by
  unfold wpY_openOf
  refine uk_count (fun n i c => wY_openOf_4 post f y_changes y_time y_last y_lastPid y_did y_greatest y_stepped y_says y_killed y_ops y_as y_bs y_length y_pid y_parent y_program y_pc y_status y_steps y_copies y_pages y_wake y_zombie y_blocked y_reg y_memory y_frame y_descriptor y_kind y_of y_mode y_place y_piped y_pipe y_names y_size y_words y_safeNames y_safeSize y_safeWords y_said n c (nI i)) (fun o => y_kind o = 1 ∧ y_of o = f) 12 (fun n => br_t (uk_refl 12) h) (fun n i c hi ht hf => ?_)
  obtain ⟨z, v, e⟩ := uk_lp 12 hi (by decide)
  refine br_f z ⟨v, ?_⟩
  rw [e]
  exact ⟨fun a => ⟨v, fun b => nm_r (nI_1 c) (nm_r (nI_1 i) (ht ⟨a, b⟩)), fun b => nm_r (nI_1 i) (hf (fun z => b z.2))⟩, fun a => nm_r (nI_1 i) (hf (fun z => a z.1))⟩
theorem uk_cnz {P : Nat → Prop} {n : Nat} (hn : n < 2 ^ 31) : nI (uk_cn P n) = 0 ↔ ∀ i, i < n → ¬ P i := by
  have h := uk_cnle P n
  rw [show (0 : Int32) = nI 0 from rfl, nI_eq (by omega) (by decide)]
  exact ⟨uk_cn0', uk_cn0 n⟩
theorem yk_isFree {post : Int32 → Prop} {f : Nat} (ht : uk_fre y_names y_kind y_of f → post 1) (hf : ¬ uk_fre y_names y_kind y_of f → post 0) : wpY_isFree post (y_changes, y_time, y_last, y_lastPid, y_did, y_greatest, y_stepped, y_says, y_killed, y_ops, y_as, y_bs, y_length, y_pid, y_parent, y_program, y_pc, y_status, y_steps, y_copies, y_pages, y_wake, y_zombie, y_blocked, y_reg, y_memory, y_frame, y_descriptor, y_kind, y_of, y_mode, y_place, y_piped, y_pipe, y_names, y_size, y_words, y_safeNames, y_safeSize, y_safeWords, y_said) (nI f) := by
  unfold wpY_isFree
  refine yk_named ⟨fun a => ?_, fun a => ?_⟩
  · refine yk_openOf ⟨fun b => ht ⟨(uk_cnz (by decide)).mp a, (uk_cnz (by decide)).mp b⟩, fun b => hf (fun z => b ((uk_cnz (by decide)).mpr z.2))⟩
  · exact hf (fun z => a ((uk_cnz (by decide)).mpr z.1))
theorem yk_hasEnd {post : Int32 → Prop} {p k : Int32} (ht : (∃ o, o < 12 ∧ y_kind o = k ∧ y_of o = p) → post 1) (hf : (∀ o, o < 12 → ¬ (y_kind o = k ∧ y_of o = p)) → post 0) : wpY_hasEnd post (y_changes, y_time, y_last, y_lastPid, y_did, y_greatest, y_stepped, y_says, y_killed, y_ops, y_as, y_bs, y_length, y_pid, y_parent, y_program, y_pc, y_status, y_steps, y_copies, y_pages, y_wake, y_zombie, y_blocked, y_reg, y_memory, y_frame, y_descriptor, y_kind, y_of, y_mode, y_place, y_piped, y_pipe, y_names, y_size, y_words, y_safeNames, y_safeSize, y_safeWords, y_said) p k := by
  unfold wpY_hasEnd
  refine uk_any (fun n i => wY_hasEnd_2 post p k y_changes y_time y_last y_lastPid y_did y_greatest y_stepped y_says y_killed y_ops y_as y_bs y_length y_pid y_parent y_program y_pc y_status y_steps y_copies y_pages y_wake y_zombie y_blocked y_reg y_memory y_frame y_descriptor y_kind y_of y_mode y_place y_piped y_pipe y_names y_size y_words y_safeNames y_safeSize y_safeWords y_said n (nI i)) (fun o => y_kind o = k ∧ y_of o = p) 12 (fun h n => br_t (uk_refl 12) (hf h)) (fun n i hi h => ?_) (fun n i hi h ih => ?_)
  · obtain ⟨z, v, e⟩ := uk_lp 12 hi (by decide)
    refine br_f z ⟨v, ?_⟩
    rw [e]
    exact br_t h.1 ⟨v, br_t h.2 (ht ⟨i, hi, h⟩)⟩
  · obtain ⟨z, v, e⟩ := uk_lp 12 hi (by decide)
    refine br_f z ⟨v, ?_⟩
    rw [e]
    exact ⟨fun a => ⟨v, fun b => absurd ⟨a, b⟩ h, fun _ => nm_r (nI_1 i) ih⟩, fun _ => nm_r (nI_1 i) ih⟩
theorem yk_freeOpen {post : Int32 → Prop} (h : post (uk_ff (fun o => y_kind o = 0) 12)) : wpY_freeOpen post (y_changes, y_time, y_last, y_lastPid, y_did, y_greatest, y_stepped, y_says, y_killed, y_ops, y_as, y_bs, y_length, y_pid, y_parent, y_program, y_pc, y_status, y_steps, y_copies, y_pages, y_wake, y_zombie, y_blocked, y_reg, y_memory, y_frame, y_descriptor, y_kind, y_of, y_mode, y_place, y_piped, y_pipe, y_names, y_size, y_words, y_safeNames, y_safeSize, y_safeWords, y_said) := by
  unfold wpY_freeOpen
  refine uk_first (fun n i => wY_freeOpen_2 post y_changes y_time y_last y_lastPid y_did y_greatest y_stepped y_says y_killed y_ops y_as y_bs y_length y_pid y_parent y_program y_pc y_status y_steps y_copies y_pages y_wake y_zombie y_blocked y_reg y_memory y_frame y_descriptor y_kind y_of y_mode y_place y_piped y_pipe y_names y_size y_words y_safeNames y_safeSize y_safeWords y_said n (nI i)) post (fun o => y_kind o = 0) 12 h (fun n h => br_t (uk_refl 12) h) (fun n i hi ht hf => ?_)
  obtain ⟨z, v, e⟩ := uk_lp 12 hi (by decide)
  refine br_f z ⟨v, ?_⟩
  rw [e]
  exact ⟨ht, fun q => nm_r (nI_1 i) (hf q)⟩
theorem yk_opens {post : Int32 → Prop} (h : post (nI (uk_cn (fun o => ¬ y_kind o ≤ 0) 12))) : wpY_opens post (y_changes, y_time, y_last, y_lastPid, y_did, y_greatest, y_stepped, y_says, y_killed, y_ops, y_as, y_bs, y_length, y_pid, y_parent, y_program, y_pc, y_status, y_steps, y_copies, y_pages, y_wake, y_zombie, y_blocked, y_reg, y_memory, y_frame, y_descriptor, y_kind, y_of, y_mode, y_place, y_piped, y_pipe, y_names, y_size, y_words, y_safeNames, y_safeSize, y_safeWords, y_said) := by
  unfold wpY_opens
  refine uk_count (fun n i c => wY_opens_4 post y_changes y_time y_last y_lastPid y_did y_greatest y_stepped y_says y_killed y_ops y_as y_bs y_length y_pid y_parent y_program y_pc y_status y_steps y_copies y_pages y_wake y_zombie y_blocked y_reg y_memory y_frame y_descriptor y_kind y_of y_mode y_place y_piped y_pipe y_names y_size y_words y_safeNames y_safeSize y_safeWords y_said n c (nI i)) (fun o => ¬ y_kind o ≤ 0) 12 (fun n => br_t (uk_refl 12) h) (fun n i c hi ht hf => ?_)
  obtain ⟨z, v, e⟩ := uk_lp 12 hi (by decide)
  refine br_f z ⟨v, ?_⟩
  rw [e]
  exact ⟨fun q => nm_r (nI_1 i) (hf (fun z => z q)), fun q => nm_r (nI_1 c) (nm_r (nI_1 i) (ht q))⟩
theorem yk_freeDescriptor {post : Int32 → Prop} {s j : Nat} (hs : s < 8) (hj : j ≤ 6) (hH : ∀ d, d < 6 → y_descriptor (6 * s + d) = -1 ∨ vp_in (y_descriptor (6 * s + d)) 12) (h : post (uk_fg (fun d => y_descriptor (6 * s + d) = -1) (6 - j) j)) : wpY_freeDescriptor post (y_changes, y_time, y_last, y_lastPid, y_did, y_greatest, y_stepped, y_says, y_killed, y_ops, y_as, y_bs, y_length, y_pid, y_parent, y_program, y_pc, y_status, y_steps, y_copies, y_pages, y_wake, y_zombie, y_blocked, y_reg, y_memory, y_frame, y_descriptor, y_kind, y_of, y_mode, y_place, y_piped, y_pipe, y_names, y_size, y_words, y_safeNames, y_safeSize, y_safeWords, y_said) (nI s) (nI j) := by
  unfold wpY_freeDescriptor
  refine ⟨6 - j + 1, uk_firstG (fun n i => wY_freeDescriptor_2 post (nI s) y_changes y_time y_last y_lastPid y_did y_greatest y_stepped y_says y_killed y_ops y_as y_bs y_length y_pid y_parent y_program y_pc y_status y_steps y_copies y_pages y_wake y_zombie y_blocked y_reg y_memory y_frame y_descriptor y_kind y_of y_mode y_place y_piped y_pipe y_names y_size y_words y_safeNames y_safeSize y_safeWords y_said n (nI i)) post (fun d => y_descriptor (6 * s + d) = -1) 6 (fun n h => br_t (uk_refl 6) h) (fun n i hi ht hf => ?_) (6 - j) j (by omega) h⟩
  obtain ⟨z, v, e⟩ := uk_lp 6 hi (by decide)
  refine br_f z ?_
  rw [uk_6m, nI_add]
  refine ⟨vp_in_nI (by omega) (by omega), ?_⟩
  rw [nI_clamp (by omega)]
  rcases hH i hi with a | a
  · rw [a]
    exact br_f (by decide) (ht a)
  · have a1 : 0 ≤ y_descriptor (6 * s + i) := Int32.not_lt.mp (not_or.mp a).1
    exact br_t a1 (nm_r (nI_1 i) (hf (fun w => by rw [w] at a1; exact absurd a1 (by decide))))
end
