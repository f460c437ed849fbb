/-! descriptors: one goes, one comes -/
theorem uk_hwo {P zo H : Nat → Int32} {o s d s' : Nat} {x : Int32} (hd : d < 6) (e : s' ≠ s) : uk_hw P zo (upd H (6 * s + d) x) o s' = uk_hw P zo H o s' := sorry
theorem uk_hws {P zo H : Nat → Int32} {o s d : Nat} {x : Int32} (hs : s < 8) (hd : d < 6) (h1 : H (6 * s + d) ≠ nI o) (h2 : x ≠ nI o) : uk_sm (uk_hw P zo (upd H (6 * s + d) x) o) 8 = uk_sm (uk_hw P zo H o) 8 := sorry
theorem uk_hwa {P zo H : Nat → Int32} {o s d : Nat} (hs : s < 8) (hp : P s ≠ 0) (hz : zo s = 0) (hd : d < 6) (h1 : H (6 * s + d) ≠ nI o) : uk_sm (uk_hw P zo (upd H (6 * s + d) (nI o)) o) 8 = uk_sm (uk_hw P zo H o) 8 + 1 := sorry
theorem uk_hwd {P zo H : Nat → Int32} {o s d : Nat} {x : Int32} (hs : s < 8) (hp : P s ≠ 0) (hz : zo s = 0) (hd : d < 6) (h1 : H (6 * s + d) = nI o) (h2 : x ≠ nI o) : uk_sm (uk_hw P zo H o) 8 = uk_sm (uk_hw P zo (upd H (6 * s + d) x) o) 8 + 1 := sorry
theorem uk_hwp {P zo H : Nat → Int32} {o s d : Nat} (hs : s < 8) (hp : P s ≠ 0) (hz : zo s = 0) (hd : d < 6) (h1 : H (6 * s + d) = nI o) : 0 < uk_sm (uk_hw P zo H o) 8 := sorry
theorem uk_ohn {P zo H oh : Nat → Int32} (h : uk_Ho P zo H oh) {o : Nat} (ho : o < 12) : oh o = 0 ↔ uk_sm (uk_hw P zo H o) 8 = 0 := sorry
theorem uk_nIe {a b : Nat} (ha : a < 12) (hb : b < 12) (e : a ≠ b) : nI a ≠ nI b := sorry
theorem uk_HdU {P zo H : Nat → Int32} {s d : Nat} {x : Int32} (h : uk_Hd P zo H) (hx : x = -1 ∨ vp_in x 12) : uk_Hd P zo (upd H (6 * s + d) x) := sorry
/-- one descriptor goes: X's counts -/
theorem uk_cl_Ho {P zo H oh : Nat → Int32} {o s d : Nat} (h : uk_Ho P zo H oh) (hs : s < 8) (hp : P s ≠ 0) (hz : zo s = 0) (hd : d < 6) (ho : o < 12) (h1 : H (6 * s + d) = nI o) : uk_Ho P zo (upd H (6 * s + d) (-1)) (upd oh o (oh o - 1)) := sorry
theorem uk_OkC {oh ok ki T om mo op oh' : Nat → Int32} (h : uk_Ok oh ok ki T om mo op) (e : ∀ o, o < 12 → (oh' o = 0 ↔ oh o = 0)) : uk_Ok oh' ok ki T om mo op := sorry
theorem uk_cl_Ok1 {P zo H oh ok ki T om mo op : Nat → Int32} {o s d : Nat} (h : uk_Ok oh ok ki T om mo op) (hh : uk_Ho P zo H oh) (hs : s < 8) (hp : P s ≠ 0) (hz : zo s = 0) (hd : d < 6) (ho : o < 12) (h1 : H (6 * s + d) = nI o) (hn : uk_sm (uk_hw P zo (upd H (6 * s + d) (-1)) o) 8 ≠ 0) : uk_Ok (upd oh o (oh o - 1)) ok ki T om mo op := sorry
theorem uk_cl_Ok0 {P zo H oh ok ki T om mo op : Nat → Int32} {o s d : Nat} (h : uk_Ok oh ok ki T om mo op) (hh : uk_Ho P zo H oh) (hs : s < 8) (hp : P s ≠ 0) (hz : zo s = 0) (hd : d < 6) (ho : o < 12) (h1 : H (6 * s + d) = nI o) (hn : uk_sm (uk_hw P zo (upd H (6 * s + d) (-1)) o) 8 = 0) : uk_Ok (upd oh o (oh o - 1)) ok (upd ki o 0) T om mo op := sorry
theorem uk_freC {N ki T ki' T' : Nat → Int32} {f : Nat} (e : ∀ o, o < 12 → ((ki' o = 1 ∧ T' o = nI f) ↔ (ki o = 1 ∧ T o = nI f))) : uk_fre N ki' T' f ↔ uk_fre N ki T f := sorry
theorem uk_FiC {N ki T fs sz ki' T' : Nat → Int32} (h : uk_Fi N ki T fs sz) (e : ∀ f, f < 8 → (uk_fre N ki' T' f ↔ uk_fre N ki T f)) : uk_Fi N ki' T' fs sz := sorry
/-- the kind of o goes, it was no file -/
theorem uk_cl_Fi1 {N ki T fs sz : Nat → Int32} {o : Nat} (h : uk_Fi N ki T fs sz) (hk : ki o ≠ 1) : uk_Fi N (upd ki o 0) T fs sz := sorry
theorem uk_cl_fre {N ki T : Nat → Int32} {o f g : Nat} (hT : T o = nI g) (hg : g < 8) (hf : f < 8) (e : f ≠ g) : uk_fre N (upd ki o 0) T f ↔ uk_fre N ki T f := sorry
theorem uk_cl_Fi2 {N ki T fs sz : Nat → Int32} {o g : Nat} (h : uk_Fi N ki T fs sz) (hg : g < 8) (hT : T o = nI g) (hn : ¬ uk_fre N (upd ki o 0) T g) (ho : o < 12) (hk : ki o = 1) : uk_Fi N (upd ki o 0) T fs sz := sorry
theorem uk_cl_Fi3 {N ki T fs sz : Nat → Int32} {o g : Nat} (h : uk_Fi N ki T fs sz) (hg : g < 8) (hT : T o = nI g) (hn : uk_fre N (upd ki o 0) T g) : uk_Fi N (upd ki o 0) T fs (upd sz g 0) := sorry
/-- blocked ones don't see that another one's descriptor went -/
theorem uk_cl_Wk {P zo zo1 bl G L ln os ob wt wk R H ki ki' : Nat → Int32} {t o s d : Nat} (h : uk_Wk P zo1 bl G L ln os ob wt wk R H ki t) (hd : d < 6) (hzo : ∀ s', s' < 8 → s' ≠ s → zo1 s' = 0 → zo s' = 0) (hs1 : zo1 s = 0 → bl s = 0 ∧ wt s = 0 ∧ wk s = -1) (hk : ∀ o', o' ≠ o → ki' o' = ki o') (hn : uk_sm (uk_hw P zo (upd H (6 * s + d) (-1)) o) 8 = 0 ∨ ki' o = ki o) : uk_Wk P zo1 bl G L ln os ob wt wk R (upd H (6 * s + d) (-1)) ki' t := sorry
/-- one descriptor more of an o-file -/
theorem uk_du_Ho {P zo H oh : Nat → Int32} {o s d : Nat} (h : uk_Ho P zo H oh) (hs : s < 8) (hp : P s ≠ 0) (hz : zo s = 0) (hd : d < 6) (ho : o < 12) (h1 : H (6 * s + d) = -1) : uk_Ho P zo (upd H (6 * s + d) (nI o)) (upd oh o (oh o + 1)) := sorry
theorem uk_du_Ok {P zo H oh ok ki T om mo op : Nat → Int32} {o s d : Nat} (h : uk_Ok oh ok ki T om mo op) (hh : uk_Ho P zo H oh) (hs : s < 8) (hp : P s ≠ 0) (hz : zo s = 0) (hd : d < 6) (ho : o < 12) (h1 : H (6 * s + d) = -1) (hn : oh o ≠ 0) : uk_Ok (upd oh o (oh o + 1)) ok ki T om mo op := sorry
theorem uk_du_Wk {P zo bl G L ln os ob wt wk R H ki ki' : Nat → Int32} {t s d : Nat} {x : Int32} (h : uk_Wk P zo bl G L ln os ob wt wk R H ki t) (hd : d < 6) (hs1 : bl s = 0 ∧ wt s = 0 ∧ wk s = -1) (hk : ∀ o, o < 12 → (ki o = 2 ∨ ki o = 3) → ki' o = ki o) : uk_Wk P zo bl G L ln os ob wt wk R (upd H (6 * s + d) x) ki' t := sorry
/-- a new o-file -/
theorem uk_nw_Ho {P zo H oh : Nat → Int32} {o s d : Nat} (h : uk_Ho P zo H oh) (hs : s < 8) (hp : P s ≠ 0) (hz : zo s = 0) (hd : d < 6) (ho : o < 12) (h1 : H (6 * s + d) = -1) (h0 : oh o = 0) : uk_Ho P zo (upd H (6 * s + d) (nI o)) (upd oh o 1) := sorry
theorem uk_nw_Ok {oh ok ki T om mo op : Nat → Int32} {o : Nat} {k tg xm ym : Int32} (h : uk_Ok oh ok ki T om mo op) (hv : (k = 1 ∧ xm = ym ∧ ym &&& 3 ≠ 0 ∧ vp_in tg 8) ∨ (k = 2 ∧ xm = 1 ∧ vp_in tg 4) ∨ (k = 3 ∧ xm = 2 ∧ vp_in tg 4)) : uk_Ok (upd oh o 1) (upd ok o k) (upd ki o k) (upd T o tg) (upd om o xm) (upd mo o ym) (upd op o 0) := sorry
theorem uk_nw_Fi1 {N ki T fs sz : Nat → Int32} {o : Nat} {k tg : Int32} (h : uk_Fi N ki T fs sz) (h0 : ki o ≠ 1) (hk : k ≠ 1) : uk_Fi N (upd ki o k) (upd T o tg) fs sz := sorry
theorem uk_nw_Fi2 {N ki T fs sz : Nat → Int32} {o g : Nat} (h : uk_Fi N ki T fs sz) (ho : o < 12) (h0 : ki o ≠ 1) (hg : g < 8) (hfs : fs g = sz g) : uk_Fi N (upd ki o 1) (upd T o (nI g)) fs sz := sorry
