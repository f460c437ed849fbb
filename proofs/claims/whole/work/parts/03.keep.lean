/-! how the groups of the relation are kept -/
theorem uk_FuC {P pg fr fu P' pg' fr' : Nat → Int32} (h : uk_Fu P pg fr fu) (e : ∀ f s, f < 20 → s < 8 → uk_rw P' pg' fr' f s = uk_rw P pg fr f s) : uk_Fu P' pg' fr' fu := fun f hf => by
  rw [h f hf, uk_smc 8 (fun s hs => e f s hf hs)]
theorem uk_HoC {P zo H oh P' zo' H' : Nat → Int32} (h : uk_Ho P zo H oh) (e : ∀ o s, o < 12 → s < 8 → uk_hw P' zo' H' o s = uk_hw P zo H o s) : uk_Ho P' zo' H' oh := fun o ho => by
  rw [h o ho, uk_smc 8 (fun s hs => e o s ho hs)]
theorem uk_rw0 {P pg fr : Nat → Int32} {f s : Nat} (h : P s = 0) : uk_rw P pg fr f s = 0 := by
  unfold uk_rw; rw [uk_b0 (fun z => z h), Nat.zero_mul]
theorem uk_rwn {P pg fr : Nat → Int32} {f s n : Nat} (h : P s ≠ 0) (hn : pg s = nI n) (hb : n < 2 ^ 31) : uk_rw P pg fr f s = uk_cn (fun p => fr (8 * s + p) = nI f) n := by
  unfold uk_rw; rw [uk_b1 h, Nat.one_mul, hn, nI_clamp hb]
theorem uk_hw0 {P zo H : Nat → Int32} {o s : Nat} (h : ¬ (P s ≠ 0 ∧ zo s = 0)) : uk_hw P zo H o s = 0 := by
  unfold uk_hw; rw [uk_b0 h, Nat.zero_mul]
theorem uk_hwn {P zo H : Nat → Int32} {o s : Nat} (h : P s ≠ 0) (hz : zo s = 0) : uk_hw P zo H o s = uk_cn (fun d => H (6 * s + d) = nI o) 6 := by
  unfold uk_hw; rw [uk_b1 ⟨h, hz⟩, Nat.one_mul]
theorem uk_hwle (P zo H : Nat → Int32) (o s : Nat) : uk_hw P zo H o s ≤ 6 := by
  unfold uk_hw
  have h1 := uk_ble (P s ≠ 0 ∧ zo s = 0)
  have h2 := uk_cnle (fun d => H (6 * s + d) = nI o) 6
  generalize uk_b (P s ≠ 0 ∧ zo s = 0) = a at *
  generalize uk_cn (fun d => H (6 * s + d) = nI o) 6 = b at *
  have : a * b ≤ 1 * 6 := Nat.mul_le_mul h1 h2
  omega
theorem uk_hsle (P zo H : Nat → Int32) (o : Nat) : uk_sm (uk_hw P zo H o) 8 ≤ 48 := uk_smb 8 (fun s _ => uk_hwle P zo H o s)
theorem uk_rwle {P zo pc pg pf fr fw me : Nat → Int32} (h : uk_Me P zo pc pg pf fr fw me) {s : Nat} (hs : s < 8) (f : Nat) : uk_rw P pg fr f s ≤ 8 := by
  by_cases hp : P s = 0
  · rw [uk_rw0 hp]; omega
  · obtain ⟨n, hn, _, h2, _⟩ := h s hs hp
    rw [uk_rwn hp h2 (by omega)]
    exact Nat.le_trans (uk_cnle _ n) hn
theorem uk_rsle {P zo pc pg pf fr fw me : Nat → Int32} (h : uk_Me P zo pc pg pf fr fw me) (f : Nat) : uk_sm (uk_rw P pg fr f) 8 ≤ 64 := uk_smb 8 (fun s hs => uk_rwle h hs f)
-- a slot is no more
theorem uk_P0_Ps {P Q G L U st zo bl : Nat → Int32} (z : Nat) (h : uk_Ps P Q G L U st zo bl) : uk_Ps (upd P z 0) Q G L U st zo bl := fun s hs => by
  obtain ⟨h1, h2, h3, h4, h5, h6, h7⟩ := h s hs
  by_cases e : s = z
  · subst e
    rw [pk_us]
    exact ⟨by decide, h2, h3, h4, h5, h6, fun c => absurd rfl c⟩
  · rw [pk_un e]
    exact ⟨h1, h2, h3, h4, h5, h6, h7⟩
theorem uk_P0n {P : Nat → Int32} {z s : Nat} (h : upd P z 0 s ≠ 0) : s ≠ z ∧ P s ≠ 0 := by
  by_cases e : s = z
  · subst e; rw [pk_us] at h; exact absurd rfl h
  · rw [pk_un e] at h; exact ⟨e, h⟩
theorem uk_P0_Me {P zo pc pg pf fr fw me : Nat → Int32} (z : Nat) (h : uk_Me P zo pc pg pf fr fw me) : uk_Me (upd P z 0) zo pc pg pf fr fw me := fun s hs hp => h s hs (uk_P0n hp).2
theorem uk_P0_Hd {P zo H : Nat → Int32} (z : Nat) (h : uk_Hd P zo H) : uk_Hd (upd P z 0) zo H := fun s hs hp => h s hs (uk_P0n hp).2
theorem uk_P0_Wk {P zo bl G L ln os ob wt wk R H ki : Nat → Int32} {t : Nat} (z : Nat) (h : uk_Wk P zo bl G L ln os ob wt wk R H ki t) : uk_Wk (upd P z 0) zo bl G L ln os ob wt wk R H ki t := fun s hs hp => h s hs (uk_P0n hp).2
theorem uk_P0_Sc {P : Nat → Int32} {ls sl la lp di : Int32} (z : Nat) (h : uk_Sc P ls sl la lp di) : uk_Sc (upd P z 0) ls sl la lp di := by
  obtain ⟨h1, h2, h3⟩ := h
  refine ⟨h1, h2, ?_⟩
  cases h3 with
  | inl h =>
    refine Or.inl (fun s hs => ?_)
    by_cases e : s = z
    · subst e; exact pk_us
    · rw [pk_un e]; exact h s hs
  | inr h =>
    refine Or.inr ⟨h.1, ?_⟩
    by_cases e : la.toNatClampNeg = z
    · subst e; exact Or.inl pk_us
    · rw [pk_un e]; exact h.2
theorem uk_P0_Fu {P pg fr fu : Nat → Int32} (z : Nat) (h : uk_Fu P pg fr fu) (hz : P z ≠ 0 → pg z = 0) : uk_Fu (upd P z 0) pg fr fu := uk_FuC h (fun f s hf hs => by
  by_cases e : s = z
  · subst e
    rw [uk_rw0 pk_us]
    by_cases hp : P s = 0
    · rw [uk_rw0 hp]
    · rw [uk_rwn (n := 0) hp (hz hp) (by decide)]; rfl
  · unfold uk_rw; rw [pk_un e])
theorem uk_P0_Ho {P zo H oh : Nat → Int32} (z : Nat) (h : uk_Ho P zo H oh) (hz : ∀ o, o < 12 → uk_hw P zo H o z = 0) : uk_Ho (upd P z 0) zo H oh := uk_HoC h (fun o s ho hs => by
  by_cases e : s = z
  · subst e
    rw [uk_hw0 (fun c => c.1 pk_us), hz o ho]
  · unfold uk_hw; rw [pk_un e])
-- blocked processes
theorem uk_wk1C {G L ln os ob wt wk R H ki G' L' wt' wk' R' H' ki' : Nat → Int32} {t t' s : Nat} (ht : t ≤ t') (eG : G' s = G s) (eL : L' s = L s) (ew : wt' s = wt s) (ek : wk' s = wk s) (eR : R' (4 * s) = R (4 * s)) (eH : ∀ d, d < 6 → H' (6 * s + d) = H (6 * s + d)) (eki : ∀ d o, d < 6 → o < 12 → H (6 * s + d) = nI o → (ki o = 2 ∨ ki o = 3) → ki' o = ki o) (h : uk_wk1 G L ln os ob wt wk R H ki t s) : uk_wk1 G' L' ln os ob wt' wk' R' H' ki' t' s := by
  unfold uk_wk1 at *
  rw [eG, eL, ew, ek]
  obtain ⟨h1, h2, h3⟩ := h
  refine ⟨h1, h2, ?_⟩
  cases h3 with
  | inl h =>
    obtain ⟨h4, w, hw, hw2, h5⟩ := h
    exact Or.inl ⟨h4, w, hw, by omega, h5⟩
  | inr h =>
    obtain ⟨h4, h5, h6⟩ := h
    refine Or.inr ⟨h4, h5, ?_⟩
    rcases h6 with h6 | ⟨h6, d, o, hd, ho, e1, e2, e3⟩ | ⟨h6, d, o, hd, ho, e1, e2, e3⟩
    · exact Or.inl h6
    · exact Or.inr (Or.inl ⟨h6, d, o, hd, ho, by rw [eR, e1], by rw [eH d hd, e2], by rw [eki d o hd ho e2 (Or.inl e3), e3]⟩)
    · exact Or.inr (Or.inr ⟨h6, d, o, hd, ho, by rw [eR, e1], by rw [eH d hd, e2], by rw [eki d o hd ho e2 (Or.inr e3), e3]⟩)
theorem uk_WkC {P zo bl G L ln os ob wt wk R H ki P' zo' bl' G' L' wt' wk' R' H' ki' : Nat → Int32} {t t' : Nat} (ht : t ≤ t') (h : uk_Wk P zo bl G L ln os ob wt wk R H ki t) (e : ∀ s, s < 8 → P' s ≠ 0 → zo' s = 0 → (bl' s = 0 ∧ wt' s = 0 ∧ wk' s = -1) ∨ (P s ≠ 0 ∧ zo s = 0 ∧ bl' s = bl s ∧ G' s = G s ∧ L' s = L s ∧ wt' s = wt s ∧ wk' s = wk s ∧ R' (4 * s) = R (4 * s) ∧ (∀ d, d < 6 → H' (6 * s + d) = H (6 * s + d)) ∧ (∀ d o, d < 6 → o < 12 → H (6 * s + d) = nI o → (ki o = 2 ∨ ki o = 3) → ki' o = ki o))) : uk_Wk P' zo' bl' G' L' ln os ob wt' wk' R' H' ki' t' := fun s hs hp hz => by
  rcases e s hs hp hz with h0 | ⟨e1, e2, e3, e4, e5, e6, e7, e8, e9, e10⟩
  · exact Or.inl h0
  · rcases h s hs e1 e2 with ⟨a, b, c⟩ | ⟨a, b⟩
    · exact Or.inl ⟨e3.trans a, e6.trans b, e7.trans c⟩
    · exact Or.inr ⟨e3.trans a, uk_wk1C ht e4 e5 e6 e7 e8 e9 e10 b⟩
-- X's counts of frames
def uk_dec (fu pf : Nat → Int32) (b : Nat) : Nat → Nat → Int32
  | 0 => fu
  | p + 1 => upd (uk_dec fu pf b p) (pf (b + p)).toNatClampNeg (uk_dec fu pf b p (pf (b + p)).toNatClampNeg - 1)
def uk_icc (fu pf : Nat → Int32) (b : Nat) : Nat → Nat → Int32
  | 0 => fu
  | p + 1 => upd (uk_icc fu pf b p) (pf (b + p)).toNatClampNeg (uk_icc fu pf b p (pf (b + p)).toNatClampNeg + 1)
theorem uk_dec_val {fu pf : Nat → Int32} {b : Nat} {T : Nat → Nat} (hT : ∀ f, f < 20 → fu f = nI (T f)) : ∀ p, (∀ j, j < p → vp_in (pf (b + j)) 20) → (∀ f, f < 20 → uk_cn (fun j => pf (b + j) = nI f) p ≤ T f) → ∀ f, f < 20 → uk_dec fu pf b p f = nI (T f - uk_cn (fun j => pf (b + j) = nI f) p)
  | 0, _, _, f, hf => hT f hf
  | p + 1, hi, hc, f, hf => by
    have ih := uk_dec_val hT p (fun j hj => hi j (by omega)) (fun f hf => Nat.le_trans (uk_cnmono _ _ (by omega)) (hc f hf))
    show upd (uk_dec fu pf b p) (pf (b + p)).toNatClampNeg (uk_dec fu pf b p (pf (b + p)).toNatClampNeg - 1) f = _
    have hv := hi p (by omega)
    have hlt := uk_inc hv
    have hof := uk_ofin hv
    by_cases e : f = (pf (b + p)).toNatClampNeg
    · have hq : pf (b + p) = nI f := by rw [e]; exact hof.symm
      have h1 := hc f hf
      rw [uk_cnt (P := fun j => pf (b + j) = nI f) hq] at h1 ⊢
      rw [← e, pk_us, ih f hf]
      have e1 : nI (T f - uk_cn (fun j => pf (b + j) = nI f) p) - nI 1 = nI (T f - uk_cn (fun j => pf (b + j) = nI f) p - 1) := pk_sub (by omega)
      exact e1.trans (congrArg nI (by omega))
    · have hq : ¬ pf (b + p) = nI f := fun z => e (by rw [z, nI_clamp (by omega)])
      rw [uk_cnf (P := fun j => pf (b + j) = nI f) hq, pk_un e, ih f hf]
theorem uk_icc_val {fu pf : Nat → Int32} {b : Nat} {T : Nat → Nat} (hT : ∀ f, f < 20 → fu f = nI (T f)) : ∀ p, (∀ j, j < p → vp_in (pf (b + j)) 20) → ∀ f, f < 20 → uk_icc fu pf b p f = nI (T f + uk_cn (fun j => pf (b + j) = nI f) p)
  | 0, _, f, hf => hT f hf
  | p + 1, hi, f, hf => by
    have ih := uk_icc_val hT p (fun j hj => hi j (by omega))
    show upd (uk_icc fu pf b p) (pf (b + p)).toNatClampNeg (uk_icc fu pf b p (pf (b + p)).toNatClampNeg + 1) f = _
    have hv := hi p (by omega)
    have hof := uk_ofin hv
    by_cases e : f = (pf (b + p)).toNatClampNeg
    · have hq : pf (b + p) = nI f := by rw [e]; exact hof.symm
      rw [uk_cnt (P := fun j => pf (b + j) = nI f) hq, ← e, pk_us, ih f hf, nI_1]
      rfl
    · have hq : ¬ pf (b + p) = nI f := fun z => e (by rw [z, nI_clamp (by omega)])
      rw [uk_cnf (P := fun j => pf (b + j) = nI f) hq, pk_un e, ih f hf]
-- the pages of a process go
theorem uk_drop_Me {P zo pc pg pf fr fw me : Nat → Int32} (s : Nat) (h : uk_Me P zo pc pg pf fr fw me) : uk_Me P zo (upd pc s 0) (upd pg s 0) pf fr fw me := fun s' hs' hp => by
  by_cases e : s' = s
  · subst e
    exact ⟨0, by omega, pk_us, pk_us, fun _ => rfl, fun p hp => by omega⟩
  · rw [pk_un e, pk_un e]; exact h s' hs' hp
theorem uk_pf_fr {P zo pc pg pf fr fw me : Nat → Int32} (h : uk_Me P zo pc pg pf fr fw me) {s n : Nat} (hs : s < 8) (hp : P s ≠ 0) (hn : pg s = nI n) (hb : n < 2 ^ 31) : n ≤ 8 ∧ pc s = nI n ∧ ∀ p, p < n → vp_in (fr (8 * s + p)) 20 ∧ pf (8 * s + p) = fr (8 * s + p) := by
  obtain ⟨m, h1, h2, h3, _, h5⟩ := h s hs hp
  have e : m = n := (nI_eq (by omega) hb).mp (h3.symm.trans hn)
  subst e
  exact ⟨h1, h2, fun p hp => ⟨(h5 p hp).1, (h5 p hp).2.1⟩⟩
theorem uk_drop_Fu {P zo pc pg pf fr fw me fu : Nat → Int32} {s n : Nat} (hm : uk_Me P zo pc pg pf fr fw me) (h : uk_Fu P pg fr fu) (hs : s < 8) (hp : P s ≠ 0) (hn : pg s = nI n) (hb : n < 2 ^ 31) : uk_Fu P (upd pg s 0) fr (uk_dec fu pf (8 * s) n) := fun f hf => by
  obtain ⟨h8, _, hq⟩ := uk_pf_fr hm hs hp hn hb
  have hc : ∀ f, uk_cn (fun j => pf (8 * s + j) = nI f) n = uk_rw P pg fr f s := fun f => by
    rw [uk_rwn hp hn hb]
    exact uk_cnc n (fun i hi => by rw [(hq i hi).2])
  rw [uk_dec_val h n (fun j hj => by rw [(hq j hj).2]; exact (hq j hj).1) (fun f hf => by rw [hc f]; exact uk_smle 8 hs) f hf, hc f]
  have h1 := uk_smset (g := uk_rw P pg fr f) (h := uk_rw P (upd pg s 0) fr f) 8 hs (fun i hi hk => by unfold uk_rw; rw [pk_un hk])
  have h2 : uk_rw P (upd pg s 0) fr f s = 0 := by rw [uk_rwn (n := 0) hp (show upd pg s 0 s = nI 0 from pk_us) (by decide)]; rfl
  exact congrArg nI (by omega)
-- a process has ended: its descriptors are free, its pages gone
theorem uk_end_Ps {P Q G L U st zo bl : Nat → Int32} {s : Nat} (x z : Int32) (h : uk_Ps P Q G L U st zo bl) (hz : z = 0 ∨ z = 1) (hP : P s ≠ 0 → z = 1) : uk_Ps P Q G L (upd U s x) (upd st s 3) (upd zo s z) (upd bl s 0) := fun s' hs => by
  obtain ⟨h1, h2, h3, h4, h5, h6, h7⟩ := h s' hs
  by_cases e : s' = s
  · subst e
    rw [pk_us, pk_us, pk_us, pk_us]
    exact ⟨h1, h2, h3, h4, hz, Or.inl rfl, fun c => Or.inl ⟨hP c, rfl⟩⟩
  · rw [pk_un e, pk_un e, pk_un e, pk_un e]
    exact ⟨h1, h2, h3, h4, h5, h6, h7⟩
theorem uk_end_Me {P zo pc pg pf fr fw me : Nat → Int32} {s : Nat} (z : Int32) (h : uk_Me P zo pc pg pf fr fw me) (hp : pg s = 0) : uk_Me P (upd zo s z) pc pg pf fr fw me := fun s' hs' hP => by
  obtain ⟨n, h1, h2, h3, h4, h5⟩ := h s' hs' hP
  by_cases e : s' = s
  · subst e
    have e0 : n = 0 := (nI_eq (by omega) (by decide)).mp (h3.symm.trans hp)
    exact ⟨n, h1, h2, h3, fun _ => e0, h5⟩
  · rw [pk_un e]; exact ⟨n, h1, h2, h3, h4, h5⟩
theorem uk_end_Hd {P zo H : Nat → Int32} {s : Nat} (z : Int32) (h : uk_Hd P zo H) (hz : P s ≠ 0 → z = 1) : uk_Hd P (upd zo s z) H := fun s' hs' hP hz' => by
  by_cases e : s' = s
  · subst e; rw [pk_us] at hz'; rw [hz hP] at hz'; exact absurd hz' (by decide)
  · rw [pk_un e] at hz'; exact h s' hs' hP hz'
theorem uk_end_Ho {P zo H oh : Nat → Int32} {s : Nat} (z : Int32) (h : uk_Ho P zo H oh) (hH : ∀ d, d < 6 → H (6 * s + d) = -1) : uk_Ho P (upd zo s z) H oh := uk_HoC h (fun o s' ho hs' => by
  by_cases e : s' = s
  · subst e
    have h0 : uk_cn (fun d => H (6 * s' + d) = nI o) 6 = 0 := uk_cn0 6 (fun d hd z => uk_ne1 (n := o) (by omega) (z.symm.trans (hH d hd)))
    unfold uk_hw
    rw [h0, Nat.mul_zero, Nat.mul_zero]
  · unfold uk_hw; rw [pk_un e])
theorem uk_end_Wk {P zo bl G L ln os ob wt wk R H ki : Nat → Int32} {t s : Nat} (z : Int32) (hz : P s ≠ 0 → z = 1) (h : uk_Wk P zo bl G L ln os ob wt wk R H ki t) : uk_Wk P (upd zo s z) (upd bl s 0) G L ln os ob wt wk R H ki t := uk_WkC (Nat.le_refl t) h (fun s' hs' hP hz' => by
  by_cases e : s' = s
  · subst e; rw [pk_us] at hz'; rw [hz hP] at hz'; exact absurd hz' (by decide)
  · rw [pk_un e] at hz' ⊢
    exact Or.inr ⟨hP, hz', rfl, rfl, rfl, rfl, rfl, rfl, fun _ _ => rfl, fun _ _ _ _ _ _ => rfl⟩)
