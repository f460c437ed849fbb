/-! pages and frames -/
theorem uk_fr0 {P pg fr : Nat → Int32} {f s p n : Nat} (h : uk_sm (uk_rw P pg fr f) 8 = 0) (hs : s < 8) (hP : P s ≠ 0) (hn : pg s = nI n) (hb : n < 2 ^ 31) (hp : p < n) : fr (8 * s + p) ≠ nI f := fun z => by
  have h1 := uk_smle (g := uk_rw P pg fr f) 8 hs
  rw [uk_rwn hP hn hb] at h1
  have h2 := uk_cnp (P := fun p => fr (8 * s + p) = nI f) z n hp
  omega
theorem uk_cn2 {P : Nat → Prop} {i j : Nat} (hi : P i) (hj : P j) (hij : i < j) : ∀ n, j < n → 2 ≤ uk_cn P n
  | 0, h => by omega
  | n + 1, h => by
    by_cases e : j = n
    · subst e
      have := uk_cnp hi j hij
      rw [uk_cnt hj]; omega
    · have := uk_cn2 hi hj hij n (by omega)
      rw [uk_cns]; omega
theorem uk_sm2 {g : Nat → Nat} {i j : Nat} (hi : 0 < g i) (hj : 0 < g j) (hij : i < j) : ∀ n, j < n → 2 ≤ uk_sm g n
  | 0, h => by omega
  | n + 1, h => by
    by_cases e : j = n
    · subst e
      have := uk_smle (g := g) j hij
      rw [uk_sms]; omega
    · have := uk_sm2 hi hj hij n (by omega)
      rw [uk_sms]; omega
theorem uk_fr1 {P pg fr : Nat → Int32} {f s p n s' p' n' : Nat} (h : uk_sm (uk_rw P pg fr f) 8 = 1) (hs : s < 8) (hP : P s ≠ 0) (hn : pg s = nI n) (hb : n < 2 ^ 31) (hp : p < n) (e : fr (8 * s + p) = nI f) (hs' : s' < 8) (hP' : P s' ≠ 0) (hn' : pg s' = nI n') (hb' : n' < 2 ^ 31) (hp' : p' < n') (e' : fr (8 * s' + p') = nI f) : s' = s ∧ p' = p := by
  have r1 : 0 < uk_rw P pg fr f s := by
    rw [uk_rwn hP hn hb]; exact uk_cnp (P := fun p => fr (8 * s + p) = nI f) e n hp
  have r2 : 0 < uk_rw P pg fr f s' := by
    rw [uk_rwn hP' hn' hb']; exact uk_cnp (P := fun p => fr (8 * s' + p) = nI f) e' n' hp'
  by_cases e1 : s' = s
  · subst e1
    refine ⟨rfl, ?_⟩
    have en : n' = n := (nI_eq hb' hb).mp (hn'.symm.trans hn)
    subst en
    have h1 := uk_smle (g := uk_rw P pg fr f) 8 hs
    rw [uk_rwn hP hn hb, h] at h1
    by_cases l1 : p' < p
    · have := uk_cn2 (P := fun p => fr (8 * s' + p) = nI f) e' e l1 n' hp
      omega
    · by_cases l2 : p < p'
      · have := uk_cn2 (P := fun p => fr (8 * s' + p) = nI f) e e' l2 n' hp'
        omega
      · omega
  · by_cases l1 : s' < s
    · have := uk_sm2 (g := uk_rw P pg fr f) r2 r1 l1 8 hs
      omega
    · have := uk_sm2 (g := uk_rw P pg fr f) r1 r2 (by omega) 8 hs'
      omega
theorem uk_fun {P zo pc pg pf fr fw me fu : Nat → Int32} (hm : uk_Me P zo pc pg pf fr fw me) (h : uk_Fu P pg fr fu) {f : Nat} (hf : f < 20) : (fu f = 0 ↔ uk_sm (uk_rw P pg fr f) 8 = 0) ∧ (fu f = 1 ↔ uk_sm (uk_rw P pg fr f) 8 = 1) := by
  have h1 := uk_rsle hm f
  rw [h f hf]
  exact ⟨nI_eq (b := 0) (by omega) (by decide), nI_eq (b := 1) (by omega) (by decide)⟩
theorem uk_rwo {P pg fr : Nat → Int32} {f s s' p : Nat} {x : Int32} {m : Int32} (hm : P s' ≠ 0 → (pg s').toNatClampNeg ≤ 8) (hp : p < 8) (e : s' ≠ s) : uk_rw P (upd pg s m) (upd fr (8 * s + p) x) f s' = uk_rw P pg fr f s' := by
  unfold uk_rw
  rw [pk_un e]
  by_cases hP : P s' = 0
  · rw [uk_b0 (fun z => z hP), Nat.zero_mul, Nat.zero_mul]
  · rw [uk_cnc (P := fun p' => upd fr (8 * s + p) x (8 * s' + p') = nI f) (Q := fun p' => fr (8 * s' + p') = nI f) _ (fun i hi => by rw [pk_un (by have := hm hP; omega)])]
/-- one page more, of zeros, in a free frame -/
theorem uk_ad_Me {P zo pc pg pf fr fw me : Nat → Int32} {s n f : Nat} (h : uk_Me P zo pc pg pf fr fw me) (hs : s < 8) (hz : zo s = 0) (hn : pg s = nI n) (hn8 : n < 8) (hf : f < 20) (h0 : uk_sm (uk_rw P pg fr f) 8 = 0) : uk_Me P zo (upd pc s (nI (n + 1))) (upd pg s (nI (n + 1))) (upd pf (8 * s + n) (nI f)) (upd fr (8 * s + n) (nI f)) (uk_fl fw (4 * f) (fun _ => 0) 4) (uk_fl me (32 * s + 4 * n) (fun _ => 0) 4) := fun s' hs' hP => by
  obtain ⟨m, h1, h2, h3, h4, h5⟩ := h s' hs' hP
  by_cases e : s' = s
  · subst e
    have em : m = n := (nI_eq (by omega) (by omega)).mp (h3.symm.trans hn)
    subst em
    refine ⟨m + 1, by omega, pk_us, pk_us, fun z => absurd (hz.symm.trans z) (by decide), fun p hp => ?_⟩
    by_cases ep : p = m
    · subst ep
      rw [pk_us, pk_us, nI_clamp (by omega)]
      refine ⟨vp_in_nI hf (by omega), rfl, fun k hk => ?_⟩
      rw [uk_flin hk, uk_flin hk]
    · rw [pk_un (by omega), pk_un (by omega)]
      obtain ⟨g1, g2, g3⟩ := h5 p (by omega)
      refine ⟨g1, g2, fun k hk => ?_⟩
      have hne := uk_fr0 h0 hs' hP h3 (by omega) (show p < m by omega)
      have hne2 : (fr (8 * s' + p)).toNatClampNeg ≠ f := fun z => hne (by rw [← z]; exact (uk_ofin g1).symm)
      rw [uk_flout (by omega), uk_flout (by omega), g3 k hk]
  · refine ⟨m, h1, by rw [pk_un e]; exact h2, by rw [pk_un e]; exact h3, h4, fun p hp => ?_⟩
    rw [pk_un (by omega), pk_un (by omega)]
    obtain ⟨g1, g2, g3⟩ := h5 p hp
    refine ⟨g1, g2, fun k hk => ?_⟩
    have hne := uk_fr0 h0 hs' hP h3 (by omega) hp
    have hne2 : (fr (8 * s' + p)).toNatClampNeg ≠ f := fun z => hne (by rw [← z]; exact (uk_ofin g1).symm)
    rw [uk_flout (by omega), uk_flout (by omega), g3 k hk]
theorem uk_pg8 {P zo pc pg pf fr fw me : Nat → Int32} (h : uk_Me P zo pc pg pf fr fw me) {s : Nat} (hs : s < 8) (hP : P s ≠ 0) : (pg s).toNatClampNeg ≤ 8 := by
  obtain ⟨m, h1, _, h3, _⟩ := h s hs hP
  rw [h3, nI_clamp (by omega)]; exact h1
theorem uk_ad_Fu {P zo pc pg pf fr fw me fu : Nat → Int32} {s n f : Nat} (hm : uk_Me P zo pc pg pf fr fw me) (h : uk_Fu P pg fr fu) (hs : s < 8) (hP : P s ≠ 0) (hn : pg s = nI n) (hn8 : n < 8) (hf : f < 20) (h0 : uk_sm (uk_rw P pg fr f) 8 = 0) : uk_Fu P (upd pg s (nI (n + 1))) (upd fr (8 * s + n) (nI f)) (upd fu f 1) := fun f' hf' => by
  have h1 := uk_smset (g := uk_rw P pg fr f') (h := uk_rw P (upd pg s (nI (n + 1))) (upd fr (8 * s + n) (nI f)) f') 8 hs (fun i hi e => (uk_rwo (fun hp => uk_pg8 hm hi hp) hn8 e).symm)
  have h2 : uk_rw P (upd pg s (nI (n + 1))) (upd fr (8 * s + n) (nI f)) f' s = uk_rw P pg fr f' s + uk_b (f = f') := by
    rw [uk_rwn (n := n + 1) hP pk_us (by omega), uk_rwn hP hn (by omega), uk_cns]
    rw [uk_cnc (P := fun p => upd fr (8 * s + n) (nI f) (8 * s + p) = nI f') (Q := fun p => fr (8 * s + p) = nI f') n (fun i hi => by rw [pk_un (by omega)])]
    congr 1
    exact uk_bi (by rw [pk_us]; exact nI_eq (by omega) (by omega))
  by_cases e : f' = f
  · subst e
    rw [pk_us]
    rw [uk_b1 rfl] at h2
    exact (show (1 : Int32) = nI 1 from rfl).trans (congrArg nI (by omega))
  · rw [pk_un e, h f' hf']
    rw [uk_b0 (fun z => e z.symm)] at h2
    exact congrArg nI (by omega)
/-- a shared page gets a frame of its own -/
theorem uk_ow_Me {P zo pc pg pf fr fw me : Nat → Int32} {s n p f f0 : Nat} (h : uk_Me P zo pc pg pf fr fw me) (hs : s < 8) (hn : pg s = nI n) (hb : n < 2 ^ 31) (hp : p < n) (hf0 : fr (8 * s + p) = nI f0) (hf0' : f0 < 20) (hf : f < 20) (h0 : uk_sm (uk_rw P pg fr f) 8 = 0) : uk_Me P zo pc pg (upd pf (8 * s + p) (nI f)) (upd fr (8 * s + p) (nI f)) (uk_fl fw (4 * f) (fun k => fw (4 * f0 + k)) 4) me := fun s' hs' hP => by
  obtain ⟨m, h1, h2, h3, h4, h5⟩ := h s' hs' hP
  refine ⟨m, h1, h2, h3, h4, fun p' hp' => ?_⟩
  obtain ⟨g1, g2, g3⟩ := h5 p' hp'
  have hne := uk_fr0 h0 hs' hP h3 (by omega) hp'
  have hne2 : (fr (8 * s' + p')).toNatClampNeg ≠ f := fun z => hne (by rw [← z]; exact (uk_ofin g1).symm)
  by_cases e : 8 * s' + p' = 8 * s + p
  · rw [e, pk_us, pk_us, nI_clamp (by omega)]
    refine ⟨vp_in_nI hf (by omega), rfl, fun k hk => ?_⟩
    rw [uk_flin hk]
    have g4 := g3 k hk
    rw [e, hf0, nI_clamp (by omega)] at g4
    exact g4
  · rw [pk_un e, pk_un e]
    refine ⟨g1, g2, fun k hk => ?_⟩
    rw [uk_flout (by omega), g3 k hk]
theorem uk_ow_Fu {P zo pc pg pf fr fw me fu : Nat → Int32} {s n p f f0 : Nat} (hm : uk_Me P zo pc pg pf fr fw me) (h : uk_Fu P pg fr fu) (hs : s < 8) (hP : P s ≠ 0) (hn : pg s = nI n) (hn8 : n ≤ 8) (hp : p < n) (hf0 : fr (8 * s + p) = nI f0) (hf0' : f0 < 20) (hf : f < 20) (h0 : uk_sm (uk_rw P pg fr f) 8 = 0) : uk_Fu P pg (upd fr (8 * s + p) (nI f)) (upd (upd fu f0 (fu f0 - 1)) f 1) := fun f' hf' => by
  have eu : upd pg s (pg s) = pg := uk_uself pg s
  have h1 := uk_smset (g := uk_rw P pg fr f') (h := uk_rw P pg (upd fr (8 * s + p) (nI f)) f') 8 hs (fun i hi e => by
    have := uk_rwo (f := f') (x := nI f) (m := pg s) (fr := fr) (fun hp => uk_pg8 hm hi hp) (show p < 8 by omega) e
    rw [eu] at this
    exact this.symm)
  have hff : f ≠ f0 := fun z => uk_fr0 h0 hs hP hn (by omega) hp (by rw [hf0, z])
  rw [uk_rwn hP hn (by omega), uk_rwn hP hn (by omega)] at h1
  by_cases e : f' = f
  · subst e
    rw [pk_us]
    have h2 := uk_cnset (P := fun q => fr (8 * s + q) = nI f') (Q := fun q => upd fr (8 * s + p) (nI f') (8 * s + q) = nI f') (k := p) (by show ¬ fr (8 * s + p) = nI f'; rw [hf0]; exact fun z => hff ((nI_eq (by omega) (by omega)).mp z).symm) pk_us n hp (fun i _ e => by rw [pk_un (by omega)])
    exact (show (1 : Int32) = nI 1 from rfl).trans (congrArg nI (by omega))
  · rw [pk_un e]
    by_cases e2 : f' = f0
    · subst e2
      have h2 := uk_cnset (P := fun q => upd fr (8 * s + p) (nI f) (8 * s + q) = nI f') (Q := fun q => fr (8 * s + q) = nI f') (k := p) (by show ¬ upd fr (8 * s + p) (nI f) (8 * s + p) = nI f'; rw [pk_us]; exact fun z => e ((nI_eq (by omega) (by omega)).mp z).symm) hf0 n hp (fun i _ e => by rw [pk_un (by omega)])
      have h3 := uk_smle (g := uk_rw P pg fr f') 8 hs
      rw [uk_rwn hP hn (by omega)] at h3
      rw [pk_us, h f' hf']
      exact (pk_sub (b := 1) (by omega)).trans (congrArg nI (by omega))
    · rw [pk_un e2, h f' hf']
      have h2 := uk_cnc (P := fun q => upd fr (8 * s + p) (nI f) (8 * s + q) = nI f') (Q := fun q => fr (8 * s + q) = nI f') n (fun i _ => by
        by_cases e3 : i = p
        · subst e3; rw [pk_us, hf0]; exact ⟨fun z => absurd ((nI_eq (by omega) (by omega)).mp z).symm e, fun z => absurd ((nI_eq (by omega) (by omega)).mp z).symm e2⟩
        · rw [pk_un (by omega)])
      exact congrArg nI (by omega)
/-- a word of a page that nobody shares -/
theorem uk_wr_Me {P zo pc pg pf fr fw me : Nat → Int32} {s n p f k : Nat} (v : Int32) (h : uk_Me P zo pc pg pf fr fw me) (hs : s < 8) (hP : P s ≠ 0) (hn : pg s = nI n) (hb : n ≤ 8) (hp : p < n) (hf : fr (8 * s + p) = nI f) (hf' : f < 20) (h1 : uk_sm (uk_rw P pg fr f) 8 = 1) (hk : k < 4) : uk_Me P zo pc pg pf fr (upd fw (4 * f + k) v) (upd me (32 * s + 4 * p + k) v) := fun s' hs' hP' => by
  obtain ⟨m, g1, g2, g3, g4, g5⟩ := h s' hs' hP'
  refine ⟨m, g1, g2, g3, g4, fun p' hp' => ?_⟩
  obtain ⟨a1, a2, a3⟩ := g5 p' hp'
  refine ⟨a1, a2, fun k' hk' => ?_⟩
  by_cases e : s' = s ∧ p' = p
  · obtain ⟨rfl, rfl⟩ := e
    rw [hf, nI_clamp (by omega)]
    by_cases ek : k' = k
    · subst ek; rw [pk_us, pk_us]
    · rw [pk_un (by omega), pk_un (by omega)]
      have := a3 k' hk'
      rw [hf, nI_clamp (by omega)] at this
      exact this
  · have hne : (fr (8 * s' + p')).toNatClampNeg ≠ f := fun z => e (uk_fr1 h1 hs hP hn (by omega) hp hf hs' hP' g3 (by omega) hp' (by rw [← z]; exact (uk_ofin a1).symm))
    rw [pk_un (by omega), pk_un (by omega), a3 k' hk']
/-! a forked process -/
theorem uk_fk_Ps {P Q G L U st zo bl : Nat → Int32} {s c : Nat} {x : Int32} (h : uk_Ps P Q G L U st zo bl) (hs : s < 8) (hx : ¬ x < 0) : uk_Ps (upd P c x) (upd Q c (P s)) (upd G c (G s)) (upd L c (L s)) (upd U c 0) (upd st c 1) (upd zo c 0) (upd bl c 0) := fun s' hs' => by
  obtain ⟨h1, h2, h3, h4, h5, h6, h7⟩ := h s' hs'
  obtain ⟨g1, g2, g3, g4, g5, g6, g7⟩ := h s hs
  by_cases e : s' = c
  · subst e
    rw [pk_us, pk_us, pk_us, pk_us, pk_us, pk_us, pk_us, pk_us]
    exact ⟨hx, g1, g3, g4, Or.inl rfl, Or.inl rfl, fun _ => Or.inr ⟨rfl, rfl, Or.inl ⟨rfl, rfl⟩⟩⟩
  · rw [pk_un e, pk_un e, pk_un e, pk_un e, pk_un e, pk_un e, pk_un e, pk_un e]
    exact ⟨h1, h2, h3, h4, h5, h6, h7⟩
theorem uk_fk_Me {P zo pc pg pf fr fw me : Nat → Int32} {s c n : Nat} {x : Int32} (h : uk_Me P zo pc pg pf fr fw me) (hs : s < 8) (hP : P s ≠ 0) (hc : P c = 0) (hn : pg s = nI n) (hn8 : n ≤ 8) : uk_Me (upd P c x) (upd zo c 0) (upd pc c (nI n)) (upd pg c (nI n)) (uk_fl pf (8 * c) (fun p => pf (8 * s + p)) n) (uk_fl fr (8 * c) (fun p => fr (8 * s + p)) 8) fw (uk_fl me (32 * c) (fun k => me (32 * s + k)) 32) := fun s' hs' hP' => by
  by_cases e : s' = c
  · subst e
    obtain ⟨m, h1, h2, h3, h4, h5⟩ := h s hs hP
    have em : m = n := (nI_eq (by omega) (by omega)).mp (h3.symm.trans hn)
    subst em
    refine ⟨m, h1, pk_us, pk_us, fun z => ?_, fun p hp => ?_⟩
    · rw [pk_us] at z; exact absurd z (by decide)
    · rw [uk_flin hp, uk_flin (show p < 8 by omega)]
      obtain ⟨g1, g2, g3⟩ := h5 p hp
      refine ⟨g1, g2, fun k hk => ?_⟩
      rw [g3 k hk, Nat.add_assoc (32 * s') (4 * p) k, uk_flin (show 4 * p + k < 32 by omega), Nat.add_assoc]
  · rw [pk_un e] at hP'
    obtain ⟨m, h1, h2, h3, h4, h5⟩ := h s' hs' hP'
    rw [pk_un e, pk_un e, pk_un e]
    refine ⟨m, h1, h2, h3, h4, fun p hp => ?_⟩
    obtain ⟨g1, g2, g3⟩ := h5 p hp
    rw [uk_flout (by omega), uk_flout (by omega)]
    refine ⟨g1, g2, fun k hk => ?_⟩
    rw [uk_flout (by omega), g3 k hk]
theorem uk_fk_Fu {P zo pc pg pf fr fw me fu : Nat → Int32} {s c n : Nat} {x : Int32} (hm : uk_Me P zo pc pg pf fr fw me) (h : uk_Fu P pg fr fu) (hs : s < 8) (hc8 : c < 8) (hP : P s ≠ 0) (hc : P c = 0) (hx : x ≠ 0) (hn : pg s = nI n) (hn8 : n ≤ 8) : uk_Fu (upd P c x) (upd pg c (nI n)) (uk_fl fr (8 * c) (fun p => fr (8 * s + p)) 8) (uk_icc fu pf (8 * s) n) := fun f hf => by
  obtain ⟨_, _, hq⟩ := uk_pf_fr hm hs hP hn (by omega)
  rw [uk_icc_val h n (fun j hj => by rw [(hq j hj).2]; exact (hq j hj).1) f hf]
  have h1 := uk_smset (g := uk_rw P pg fr f) (h := uk_rw (upd P c x) (upd pg c (nI n)) (uk_fl fr (8 * c) (fun p => fr (8 * s + p)) 8) f) 8 hc8 (fun i hi e => by
    unfold uk_rw
    rw [pk_un e, pk_un e]
    by_cases hPi : P i = 0
    · rw [uk_b0 (fun z => z hPi), Nat.zero_mul, Nat.zero_mul]
    · have h8 := uk_pg8 hm hi hPi
      rw [uk_cnc (P := fun p => uk_fl fr (8 * c) (fun p => fr (8 * s + p)) 8 (8 * i + p) = nI f) (Q := fun p => fr (8 * i + p) = nI f) _ (fun j hj => by rw [uk_flout (by omega)])])
  have h2 : uk_rw (upd P c x) (upd pg c (nI n)) (uk_fl fr (8 * c) (fun p => fr (8 * s + p)) 8) f c = uk_cn (fun j => pf (8 * s + j) = nI f) n := by
    rw [uk_rwn (n := n) (by rw [pk_us]; exact hx) pk_us (by omega)]
    exact uk_cnc n (fun i hi => by rw [uk_flin (show i < 8 by omega), (hq i hi).2])
  rw [uk_rw0 hc] at h1
  exact congrArg nI (by omega)
def uk_hic (oh H : Nat → Int32) (b : Nat) : Nat → Nat → Int32
  | 0 => oh
  | d + 1 => if H (b + d) = -1 then uk_hic oh H b d else upd (uk_hic oh H b d) (H (b + d)).toNatClampNeg (uk_hic oh H b d (H (b + d)).toNatClampNeg + 1)
theorem uk_hic_val {oh H : Nat → Int32} {b : Nat} {T : Nat → Nat} (hT : ∀ o, o < 12 → oh o = nI (T o)) : ∀ d, (∀ j, j < d → H (b + j) = -1 ∨ vp_in (H (b + j)) 12) → ∀ o, o < 12 → uk_hic oh H b d o = nI (T o + uk_cn (fun j => H (b + j) = nI o) d)
  | 0, _, o, ho => hT o ho
  | d + 1, hi, o, ho => by
    have ih := uk_hic_val hT d (fun j hj => hi j (by omega))
    show (if H (b + d) = -1 then uk_hic oh H b d else upd (uk_hic oh H b d) (H (b + d)).toNatClampNeg (uk_hic oh H b d (H (b + d)).toNatClampNeg + 1)) o = _
    by_cases e1 : H (b + d) = -1
    · rw [if_pos e1, uk_cnf (P := fun j => H (b + j) = nI o) (by show ¬ H (b + d) = nI o; rw [e1]; exact fun z => uk_ne1 (n := o) (by omega) z.symm)]
      exact ih o ho
    · rw [if_neg e1]
      have hv := (hi d (by omega)).resolve_left e1
      have hof := uk_ofin hv
      by_cases e : o = (H (b + d)).toNatClampNeg
      · have hq : H (b + d) = nI o := by rw [e]; exact hof.symm
        rw [uk_cnt (P := fun j => H (b + j) = nI o) hq, ← e, pk_us, ih o ho, nI_1]
        rfl
      · have hq : ¬ H (b + d) = nI o := fun z => e (by rw [z, nI_clamp (by omega)])
        rw [uk_cnf (P := fun j => H (b + j) = nI o) hq, pk_un e, ih o ho]
theorem uk_fk_Hd {P zo H : Nat → Int32} {s c : Nat} {x : Int32} (h : uk_Hd P zo H) (hs : s < 8) (hP : P s ≠ 0) (hz : zo s = 0) : uk_Hd (upd P c x) (upd zo c 0) (uk_fl H (6 * c) (fun d => H (6 * s + d)) 6) := fun s' hs' hP' hz' d hd => by
  by_cases e : s' = c
  · subst e; rw [uk_flin hd]; exact h s hs hP hz d hd
  · rw [pk_un e] at hP' hz'
    rw [uk_flout (by omega)]; exact h s' hs' hP' hz' d hd
theorem uk_fk_Ho {P zo H oh : Nat → Int32} {s c : Nat} {x : Int32} (hh : uk_Hd P zo H) (h : uk_Ho P zo H oh) (hs : s < 8) (hc8 : c < 8) (hP : P s ≠ 0) (hz : zo s = 0) (hc : P c = 0) (hx : x ≠ 0) : uk_Ho (upd P c x) (upd zo c 0) (uk_fl H (6 * c) (fun d => H (6 * s + d)) 6) (uk_hic oh H (6 * s) 6) := fun o ho => by
  rw [uk_hic_val h 6 (fun j hj => hh s hs hP hz j hj) o ho]
  have h1 := uk_smset (g := uk_hw P zo H o) (h := uk_hw (upd P c x) (upd zo c 0) (uk_fl H (6 * c) (fun d => H (6 * s + d)) 6) o) 8 hc8 (fun i hi e => by
    unfold uk_hw
    rw [pk_un e, pk_un e, uk_cnc (P := fun p => uk_fl H (6 * c) (fun d => H (6 * s + d)) 6 (6 * i + p) = nI o) (Q := fun p => H (6 * i + p) = nI o) 6 (fun j hj => by rw [uk_flout (by omega)])])
  have h2 : uk_hw (upd P c x) (upd zo c 0) (uk_fl H (6 * c) (fun d => H (6 * s + d)) 6) o c = uk_cn (fun j => H (6 * s + j) = nI o) 6 := by
    rw [uk_hwn (by rw [pk_us]; exact hx) pk_us]
    exact uk_cnc 6 (fun i hi => by rw [uk_flin hi])
  rw [uk_hw0 (fun z => z.1 hc)] at h1
  exact congrArg nI (by omega)
theorem uk_fk_Ok {P zo H oh ok ki T om mo op : Nat → Int32} {s : Nat} (hh : uk_Hd P zo H) (h : uk_Ho P zo H oh) (hO : uk_Ok oh ok ki T om mo op) (hs : s < 8) (hP : P s ≠ 0) (hz : zo s = 0) : uk_Ok (uk_hic oh H (6 * s) 6) ok ki T om mo op := uk_OkC hO (fun o ho => by
  have h1 := uk_hsle P zo H o
  have h2 := uk_cnle (fun j => H (6 * s + j) = nI o) 6
  have h3 := uk_smle (g := uk_hw P zo H o) 8 hs
  rw [uk_hwn hP hz] at h3
  rw [uk_hic_val h 6 (fun j hj => hh s hs hP hz j hj) o ho, h o ho]
  rw [show ((0 : Int32)) = nI 0 from rfl, nI_eq (by omega) (by omega), nI_eq (by omega) (by omega)]
  omega)
theorem uk_fk_Wk {P zo bl G L ln os ob wt wk R H ki R' : Nat → Int32} {t s c : Nat} {x : Int32} (h : uk_Wk P zo bl G L ln os ob wt wk R H ki t) (hR : ∀ s', s' < 8 → s' ≠ c → R' (4 * s') = R (4 * s')) : uk_Wk (upd P c x) (upd zo c 0) (upd bl c 0) (upd G c (G s)) (upd L c (L s)) ln os ob (upd wt c 0) (upd wk c (-1)) R' (uk_fl H (6 * c) (fun d => H (6 * s + d)) 6) ki t := uk_WkC (Nat.le_refl t) h (fun s' hs' hP hz' => by
  by_cases e : s' = c
  · subst e; exact Or.inl ⟨pk_us, pk_us, pk_us⟩
  · rw [pk_un e] at hP hz'
    rw [pk_un e, pk_un e, pk_un e, pk_un e, pk_un e]
    exact Or.inr ⟨hP, hz', rfl, rfl, rfl, rfl, rfl, hR s' hs' e, fun d hd => uk_flout (by omega), fun _ _ _ _ _ _ => rfl⟩)
