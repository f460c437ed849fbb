/-! the new object -/
theorem uk_new : uk_All 0 0 0 0 0 0 0 0 0 (fun _ => 0) (fun _ => 0) (fun _ => 0) (fun _ => 0) (fun _ => 0) (fun _ => 0) (fun _ => 0) (fun _ => 0) (fun _ => 0) (fun _ => 0) (fun _ => 0) (fun _ => 0) (fun _ => 0) (fun _ => 0) (fun _ => 0) (fun _ => 0) (fun _ => 0) (fun _ => 0) (fun _ => 0) (fun _ => 0) (fun _ => 0) (fun _ => 0) (fun _ => 0) (fun _ => 0) (fun _ => 0) (uk_fl (fun _ => 0) 0 (fun _ => -1) 8) (fun _ => 0) (fun _ => 0) (uk_fl (fun _ => 0) 0 (fun _ => -1) 8) (fun _ => 0) (fun _ => 0) (fun _ => 0) 0 7 0 0 0 (fun _ => 0) (fun _ => 0) (fun _ => 0) (fun _ => 0) (fun _ => 0) (fun _ => 0) (fun _ => 0) (fun _ => 0) (fun _ => 0) (fun _ => 0) (fun _ => 0) (fun _ => 0) (fun _ => 0) (fun _ => 0) (fun _ => 0) := by
  have v0 : ∀ n, 0 < n → n < 2 ^ 31 → vp_in (0 : Int32) n := fun n h1 h2 => vp_in_nI (n := 0) h1 h2
  have n00 : ¬ (0 : Int32) < 0 := by decide
  have hN : ∀ k, k < 8 → uk_fl (fun _ => 0) 0 (fun _ => -1) 8 k = -1 := fun k hk => uk_fl1 hk
  refine ⟨⟨0, rfl, by omega⟩, ⟨0, rfl, by omega, fun k _ h => by omega⟩, ⟨0, rfl, by omega⟩, rfl, ⟨fun k _ => ⟨rfl, rfl, fun _ _ => rfl⟩, fun p _ => ⟨0, by omega, rfl, fun j hj => by omega⟩⟩, fun s _ => ⟨n00, n00, v0 6 (by decide) (by decide), v0 25 (by decide) (by decide), Or.inl rfl, Or.inl rfl, fun z => absurd rfl z⟩, fun s _ z => absurd rfl z, fun f _ => ?_, fun s _ z => absurd rfl z, fun o _ => ?_, fun o _ => ⟨v0 17 (by decide) (by decide), Or.inl ⟨rfl, rfl⟩⟩, fun q _ => ⟨0, 0, by omega, by omega, rfl, rfl, fun j hj => by omega⟩, ⟨fun k hk => Or.inl (hN k hk), fun f _ => ⟨v0 17 (by decide) (by decide), fun _ => rfl, fun _ => rfl⟩⟩, ⟨fun k hk => Or.inl (hN k hk), fun f _ => ⟨v0 17 (by decide) (by decide), fun _ => rfl⟩⟩, ⟨v0 8 (by decide) (by decide), vp_in_nI (n := 7) (by decide) (by decide), Or.inl (fun s _ => rfl)⟩, fun s _ z => absurd rfl z⟩
  · rw [uk_sm0 8 (fun s _ => uk_rw0 rfl)]
    rfl
  · rw [uk_sm0 8 (fun s _ => uk_hw0 (fun z => z.1 rfl))]
    rfl
theorem i_vc0 : wpX_init (fun u => wpY_init (fun v => i_Rel 0 u v)) := by
  unfold wpX_init
  have kX := fun (post : SX → Prop) (h : post (0, 0, 0, 0, 0, 0, 0, (fun _ => 0), (fun _ => 0), (fun _ => 0), (fun _ => 0), (fun _ => 0), (fun _ => 0), (fun _ => 0), (fun _ => 0), (fun _ => 0), (fun _ => 0), (fun _ => 0), (fun _ => 0), (fun _ => 0), (fun _ => 0), (fun _ => 0), (fun _ => 0), (fun _ => 0), (fun _ => 0), (fun _ => 0), (fun _ => 0), (fun _ => 0), (fun _ => 0), (fun _ => 0), (fun _ => 0), (fun _ => 0), uk_fl (fun _ => 0) 0 (fun _ => -1) 8, (fun _ => 0), (fun _ => 0), uk_fl (fun _ => 0) 0 (fun _ => -1) 8, (fun _ => 0), (fun _ => 0), (fun _ => 0))) => uk_run0 (fun m i (w : Nat → Int32) => wX_init_263 post 0 0 0 0 0 0 0 m (nI i) (fun _ => 0) (fun _ => 0) (fun _ => 0) (fun _ => 0) (fun _ => 0) (fun _ => 0) (fun _ => 0) (fun _ => 0) (fun _ => 0) (fun _ => 0) (fun _ => 0) (fun _ => 0) (fun _ => 0) (fun _ => 0) (fun _ => 0) (fun _ => 0) (fun _ => 0) (fun _ => 0) (fun _ => 0) (fun _ => 0) (fun _ => 0) (fun _ => 0) (fun _ => 0) (fun _ => 0) (fun _ => 0) w (fun _ => 0) (fun _ => 0) w (fun _ => 0) (fun _ => 0) (fun _ => 0)) (fun i => uk_fl (fun _ => 0) 0 (fun _ => -1) i) 8 (fun m => br_t (uk_refl 8) h) (fun m i hi ih => by
    obtain ⟨z, v, e⟩ := uk_lp 8 hi (by decide)
    refine br_f z ⟨v, ?_⟩
    rw [e]
    exact nm_r (uk_fls0 (g := fun _ => -1)) ⟨v, nm_r (uk_fls0 (g := fun _ => -1)) (nm_r (nI_1 i) ih)⟩)
  have kY := fun (post : SY → Prop) (h : post (0, 0, 7, 0, 0, 0, 0, 0, 0, (fun _ => 0), (fun _ => 0), (fun _ => 0), (fun _ => 0), (fun _ => 0), (fun _ => 0), (fun _ => 0), (fun _ => 0), (fun _ => 0), (fun _ => 0), (fun _ => 0), (fun _ => 0), (fun _ => 0), (fun _ => 0), (fun _ => 0), (fun _ => 0), (fun _ => 0), (fun _ => 0), (fun _ => 0), (fun _ => 0), (fun _ => 0), (fun _ => 0), (fun _ => 0), (fun _ => 0), (fun _ => 0), uk_fl (fun _ => 0) 0 (fun _ => -1) 8, (fun _ => 0), (fun _ => 0), uk_fl (fun _ => 0) 0 (fun _ => -1) 8, (fun _ => 0), (fun _ => 0), (fun _ => 0))) => uk_run0 (fun m i (w : Nat → Int32) => wY_init_273 post 0 0 7 0 0 0 0 0 0 m (nI i) (fun _ => 0) (fun _ => 0) (fun _ => 0) (fun _ => 0) (fun _ => 0) (fun _ => 0) (fun _ => 0) (fun _ => 0) (fun _ => 0) (fun _ => 0) (fun _ => 0) (fun _ => 0) (fun _ => 0) (fun _ => 0) (fun _ => 0) (fun _ => 0) (fun _ => 0) (fun _ => 0) (fun _ => 0) (fun _ => 0) (fun _ => 0) (fun _ => 0) (fun _ => 0) (fun _ => 0) (fun _ => 0) w (fun _ => 0) (fun _ => 0) w (fun _ => 0) (fun _ => 0) (fun _ => 0)) (fun i => uk_fl (fun _ => 0) 0 (fun _ => -1) i) 8 (fun m => br_t (uk_refl 8) h) (fun m i hi ih => by
    obtain ⟨z, v, e⟩ := uk_lp 8 hi (by decide)
    refine br_f z ⟨v, ?_⟩
    rw [e]
    exact nm_r (uk_fls0 (g := fun _ => -1)) ⟨v, nm_r (uk_fls0 (g := fun _ => -1)) (nm_r (nI_1 i) ih)⟩)
  have I : i_Rel 0 _ _ := i_mk (k := 0) (by omega) (Nat.le_refl 0) uk_new
  have kX2 := kX (fun u => wpY_init (fun v => i_Rel 0 u v)) (by
    unfold wpY_init
    have kY2 := kY _ I
    rw [uk_fl0] at kY2
    exact kY2)
  rw [uk_fl0] at kX2
  exact kX2
