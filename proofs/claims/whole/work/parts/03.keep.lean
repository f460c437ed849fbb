/-! how the groups of the relation are kept -/
theorem uk_FuC {P pg fr fu P' pg' fr' : Nat → Int32} (h : uk_Fu P pg fr fu) (e : ∀ f s, f < 20 → s < 8 → uk_rw P' pg' fr' f s = uk_rw P pg fr f s) : uk_Fu P' pg' fr' fu := sorry
theorem uk_HoC {P zo H oh P' zo' H' : Nat → Int32} (h : uk_Ho P zo H oh) (e : ∀ o s, o < 12 → s < 8 → uk_hw P' zo' H' o s = uk_hw P zo H o s) : uk_Ho P' zo' H' oh := sorry
theorem uk_rw0 {P pg fr : Nat → Int32} {f s : Nat} (h : P s = 0) : uk_rw P pg fr f s = 0 := sorry
theorem uk_rwn {P pg fr : Nat → Int32} {f s n : Nat} (h : P s ≠ 0) (hn : pg s = nI n) (hb : n < 2 ^ 31) : uk_rw P pg fr f s = uk_cn (fun p => fr (8 * s + p) = nI f) n := sorry
theorem uk_hw0 {P zo H : Nat → Int32} {o s : Nat} (h : ¬ (P s ≠ 0 ∧ zo s = 0)) : uk_hw P zo H o s = 0 := sorry
theorem uk_hwn {P zo H : Nat → Int32} {o s : Nat} (h : P s ≠ 0) (hz : zo s = 0) : uk_hw P zo H o s = uk_cn (fun d => H (6 * s + d) = nI o) 6 := sorry
theorem uk_hwle (P zo H : Nat → Int32) (o s : Nat) : uk_hw P zo H o s ≤ 6 := sorry
theorem uk_hsle (P zo H : Nat → Int32) (o : Nat) : uk_sm (uk_hw P zo H o) 8 ≤ 48 := sorry
theorem uk_rwle {P zo pc pg pf fr fw me : Nat → Int32} (h : uk_Me P zo pc pg pf fr fw me) {s : Nat} (hs : s < 8) (f : Nat) : uk_rw P pg fr f s ≤ 8 := sorry
theorem uk_rsle {P zo pc pg pf fr fw me : Nat → Int32} (h : uk_Me P zo pc pg pf fr fw me) (f : Nat) : uk_sm (uk_rw P pg fr f) 8 ≤ 64 := sorry
-- a slot is no more
theorem uk_P0_Ps {P Q G L U st zo bl : Nat → Int32} (z : Nat) (h : uk_Ps P Q G L U st zo bl) : uk_Ps (upd P z 0) Q G L U st zo bl := sorry
theorem uk_P0n {P : Nat → Int32} {z s : Nat} (h : upd P z 0 s ≠ 0) : s ≠ z ∧ P s ≠ 0 := sorry
theorem uk_P0_Me {P zo pc pg pf fr fw me : Nat → Int32} (z : Nat) (h : uk_Me P zo pc pg pf fr fw me) : uk_Me (upd P z 0) zo pc pg pf fr fw me := sorry
theorem uk_P0_Hd {P zo H : Nat → Int32} (z : Nat) (h : uk_Hd P zo H) : uk_Hd (upd P z 0) zo H := sorry
theorem uk_P0_Wk {P zo bl G L ln os ob wt wk R H ki : Nat → Int32} {t : Nat} (z : Nat) (h : uk_Wk P zo bl G L ln os ob wt wk R H ki t) : uk_Wk (upd P z 0) zo bl G L ln os ob wt wk R H ki t := sorry
theorem uk_P0_Sc {P : Nat → Int32} {ls sl la lp di : Int32} (z : Nat) (h : uk_Sc P ls sl la lp di) : uk_Sc (upd P z 0) ls sl la lp di := sorry
theorem uk_P0_Fu {P pg fr fu : Nat → Int32} (z : Nat) (h : uk_Fu P pg fr fu) (hz : P z ≠ 0 → pg z = 0) : uk_Fu (upd P z 0) pg fr fu := sorry
theorem uk_P0_Ho {P zo H oh : Nat → Int32} (z : Nat) (h : uk_Ho P zo H oh) (hz : ∀ o, o < 12 → uk_hw P zo H o z = 0) : uk_Ho (upd P z 0) zo H oh := sorry
-- blocked processes
theorem uk_wk1C {G L ln os ob wt wk R H ki G' L' wt' wk' R' H' ki' : Nat → Int32} {t t' s : Nat} (ht : t ≤ t') (eG : G' s = G s) (eL : L' s = L s) (ew : wt' s = wt s) (ek : wk' s = wk s) (eR : R' (4 * s) = R (4 * s)) (eH : ∀ d, d < 6 → H' (6 * s + d) = H (6 * s + d)) (eki : ∀ d o, d < 6 → o < 12 → H (6 * s + d) = nI o → (ki o = 2 ∨ ki o = 3) → ki' o = ki o) (h : uk_wk1 G L ln os ob wt wk R H ki t s) : uk_wk1 G' L' ln os ob wt' wk' R' H' ki' t' s := sorry
theorem uk_WkC {P zo bl G L ln os ob wt wk R H ki P' zo' bl' G' L' wt' wk' R' H' ki' : Nat → Int32} {t t' : Nat} (ht : t ≤ t') (h : uk_Wk P zo bl G L ln os ob wt wk R H ki t) (e : ∀ s, s < 8 → P' s ≠ 0 → zo' s = 0 → (bl' s = 0 ∧ wt' s = 0 ∧ wk' s = -1) ∨ (P s ≠ 0 ∧ zo s = 0 ∧ bl' s = bl s ∧ G' s = G s ∧ L' s = L s ∧ wt' s = wt s ∧ wk' s = wk s ∧ R' (4 * s) = R (4 * s) ∧ (∀ d, d < 6 → H' (6 * s + d) = H (6 * s + d)) ∧ (∀ d o, d < 6 → o < 12 → H (6 * s + d) = nI o → (ki o = 2 ∨ ki o = 3) → ki' o = ki o))) : uk_Wk P' zo' bl' G' L' ln os ob wt' wk' R' H' ki' t' := sorry
-- X's counts of frames
def uk_dec (fu pf : Nat → Int32) (b : Nat) : Nat → Nat → Int32
  | 0 => fu
  | p + 1 => upd (uk_dec fu pf b p) (pf (b + p)).toNatClampNeg (uk_dec fu pf b p (pf (b + p)).toNatClampNeg - 1)
def uk_icc (fu pf : Nat → Int32) (b : Nat) : Nat → Nat → Int32
  | 0 => fu
  | p + 1 => upd (uk_icc fu pf b p) (pf (b + p)).toNatClampNeg (uk_icc fu pf b p (pf (b + p)).toNatClampNeg + 1)
theorem uk_dec_val {fu pf : Nat → Int32} {b : Nat} {T : Nat → Nat} (hT : ∀ f, f < 20 → fu f = nI (T f)) : ∀ p, (∀ j, j < p → vp_in (pf (b + j)) 20) → (∀ f, f < 20 → uk_cn (fun j => pf (b + j) = nI f) p ≤ T f) → ∀ f, f < 20 → uk_dec fu pf b p f = nI (T f - uk_cn (fun j => pf (b + j) = nI f) p) := sorry
theorem uk_icc_val {fu pf : Nat → Int32} {b : Nat} {T : Nat → Nat} (hT : ∀ f, f < 20 → fu f = nI (T f)) : ∀ p, (∀ j, j < p → vp_in (pf (b + j)) 20) → ∀ f, f < 20 → uk_icc fu pf b p f = nI (T f + uk_cn (fun j => pf (b + j) = nI f) p) := sorry
-- the pages of a process go
theorem uk_drop_Me {P zo pc pg pf fr fw me : Nat → Int32} (s : Nat) (h : uk_Me P zo pc pg pf fr fw me) : uk_Me P zo (upd pc s 0) (upd pg s 0) pf fr fw me := sorry
theorem uk_pf_fr {P zo pc pg pf fr fw me : Nat → Int32} (h : uk_Me P zo pc pg pf fr fw me) {s n : Nat} (hs : s < 8) (hp : P s ≠ 0) (hn : pg s = nI n) (hb : n < 2 ^ 31) : n ≤ 8 ∧ pc s = nI n ∧ ∀ p, p < n → vp_in (fr (8 * s + p)) 20 ∧ pf (8 * s + p) = fr (8 * s + p) := sorry
theorem uk_drop_Fu {P zo pc pg pf fr fw me fu : Nat → Int32} {s n : Nat} (hm : uk_Me P zo pc pg pf fr fw me) (h : uk_Fu P pg fr fu) (hs : s < 8) (hp : P s ≠ 0) (hn : pg s = nI n) (hb : n < 2 ^ 31) : uk_Fu P (upd pg s 0) fr (uk_dec fu pf (8 * s) n) := sorry
-- a process has ended: its descriptors are free, its pages gone
theorem uk_end_Ps {P Q G L U st zo bl : Nat → Int32} {s : Nat} (x z : Int32) (h : uk_Ps P Q G L U st zo bl) (hz : z = 0 ∨ z = 1) (hP : P s ≠ 0 → z = 1) : uk_Ps P Q G L (upd U s x) (upd st s 3) (upd zo s z) (upd bl s 0) := sorry
theorem uk_end_Me {P zo pc pg pf fr fw me : Nat → Int32} {s : Nat} (z : Int32) (h : uk_Me P zo pc pg pf fr fw me) (hp : pg s = 0) : uk_Me P (upd zo s z) pc pg pf fr fw me := sorry
theorem uk_end_Hd {P zo H : Nat → Int32} {s : Nat} (z : Int32) (h : uk_Hd P zo H) (hz : P s ≠ 0 → z = 1) : uk_Hd P (upd zo s z) H := sorry
theorem uk_end_Ho {P zo H oh : Nat → Int32} {s : Nat} (z : Int32) (h : uk_Ho P zo H oh) (hH : ∀ d, d < 6 → H (6 * s + d) = -1) : uk_Ho P (upd zo s z) H oh := sorry
theorem uk_end_Wk {P zo bl G L ln os ob wt wk R H ki : Nat → Int32} {t s : Nat} (z : Int32) (hz : P s ≠ 0 → z = 1) (h : uk_Wk P zo bl G L ln os ob wt wk R H ki t) : uk_Wk P (upd zo s z) (upd bl s 0) G L ln os ob wt wk R H ki t := sorry
