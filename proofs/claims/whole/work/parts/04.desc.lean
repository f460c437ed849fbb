/-! descriptors: one goes, one comes -/
theorem uk_hwo {P zo H : Nat → Int32} {o s d s' : Nat} {x : Int32} (hd : d < 6) (e : s' ≠ s) : uk_hw P zo (upd H (6 * s + d) x) o s' = uk_hw P zo H o s' := by
  unfold uk_hw
  rw [uk_cnc (P := fun d' => upd H (6 * s + d) x (6 * s' + d') = nI o) (Q := fun d' => H (6 * s' + d') = nI o) 6 (fun i hi => by rw [pk_un (by omega)])]
theorem uk_hws {P zo H : Nat → Int32} {o s d : Nat} {x : Int32} (hs : s < 8) (hd : d < 6) (h1 : H (6 * s + d) ≠ nI o) (h2 : x ≠ nI o) : uk_sm (uk_hw P zo (upd H (6 * s + d) x) o) 8 = uk_sm (uk_hw P zo H o) 8 := uk_smc 8 (fun s' hs' => by
  by_cases e : s' = s
  · subst e
    unfold uk_hw
    rw [uk_cnc (P := fun d' => upd H (6 * s' + d) x (6 * s' + d') = nI o) (Q := fun d' => H (6 * s' + d') = nI o) 6 (fun i hi => ?_)]
    by_cases e2 : i = d
    · subst e2; rw [pk_us]; exact ⟨fun z => absurd z h2, fun z => absurd z h1⟩
    · rw [pk_un (by omega)]
  · exact uk_hwo hd e)
theorem uk_hwa {P zo H : Nat → Int32} {o s d : Nat} (hs : s < 8) (hp : P s ≠ 0) (hz : zo s = 0) (hd : d < 6) (h1 : H (6 * s + d) ≠ nI o) : uk_sm (uk_hw P zo (upd H (6 * s + d) (nI o)) o) 8 = uk_sm (uk_hw P zo H o) 8 + 1 := by
  have h := uk_smset (g := uk_hw P zo H o) (h := uk_hw P zo (upd H (6 * s + d) (nI o)) o) 8 hs (fun i _ e => (uk_hwo hd e).symm)
  have e1 : uk_hw P zo (upd H (6 * s + d) (nI o)) o s = uk_hw P zo H o s + 1 := by
    rw [uk_hwn hp hz, uk_hwn hp hz]
    exact uk_cnset (P := fun d' => H (6 * s + d') = nI o) (Q := fun d' => upd H (6 * s + d) (nI o) (6 * s + d') = nI o) h1 pk_us 6 hd (fun i _ e => by rw [pk_un (by omega)])
  omega
theorem uk_hwd {P zo H : Nat → Int32} {o s d : Nat} {x : Int32} (hs : s < 8) (hp : P s ≠ 0) (hz : zo s = 0) (hd : d < 6) (h1 : H (6 * s + d) = nI o) (h2 : x ≠ nI o) : uk_sm (uk_hw P zo H o) 8 = uk_sm (uk_hw P zo (upd H (6 * s + d) x) o) 8 + 1 := by
  have h := uk_hwa (P := P) (zo := zo) (H := upd H (6 * s + d) x) (o := o) hs hp hz hd (by rw [pk_us]; exact h2)
  rw [uk_uu] at h
  have e : upd H (6 * s + d) (nI o) = H := by rw [← h1]; exact uk_uself H (6 * s + d)
  rw [e] at h
  exact h
theorem uk_hwp {P zo H : Nat → Int32} {o s d : Nat} (hs : s < 8) (hp : P s ≠ 0) (hz : zo s = 0) (hd : d < 6) (h1 : H (6 * s + d) = nI o) : 0 < uk_sm (uk_hw P zo H o) 8 := by
  have h := uk_smle (g := uk_hw P zo H o) 8 hs
  rw [uk_hwn hp hz] at h
  have := uk_cnp (P := fun d' => H (6 * s + d') = nI o) h1 6 hd
  omega
theorem uk_ohn {P zo H oh : Nat → Int32} (h : uk_Ho P zo H oh) {o : Nat} (ho : o < 12) : oh o = 0 ↔ uk_sm (uk_hw P zo H o) 8 = 0 := by
  have h1 := uk_hsle P zo H o
  rw [h o ho]
  exact nI_eq (b := 0) (by omega) (by decide)
theorem uk_nIe {a b : Nat} (ha : a < 12) (hb : b < 12) (e : a ≠ b) : nI a ≠ nI b := fun z => e ((nI_eq (by omega) (by omega)).mp z)
theorem uk_HdU {P zo H : Nat → Int32} {s d : Nat} {x : Int32} (h : uk_Hd P zo H) (hx : x = -1 ∨ vp_in x 12) : uk_Hd P zo (upd H (6 * s + d) x) := fun s' hs' hp hz d' hd' => by
  by_cases e : 6 * s' + d' = 6 * s + d
  · rw [e, pk_us]; exact hx
  · rw [pk_un e]; exact h s' hs' hp hz d' hd'
/-- one descriptor goes: X's counts -/
theorem uk_cl_Ho {P zo H oh : Nat → Int32} {o s d : Nat} (h : uk_Ho P zo H oh) (hs : s < 8) (hp : P s ≠ 0) (hz : zo s = 0) (hd : d < 6) (ho : o < 12) (h1 : H (6 * s + d) = nI o) : uk_Ho P zo (upd H (6 * s + d) (-1)) (upd oh o (oh o - 1)) := fun o' ho' => by
  by_cases e : o' = o
  · subst e
    have h2 := uk_hwd (P := P) (zo := zo) (x := -1) hs hp hz hd h1 (fun z => uk_ne1 (n := o') (by omega) z.symm)
    rw [pk_us, h o' ho', h2]
    exact (pk_sub (b := 1) (by omega)).trans (congrArg nI (by omega))
  · rw [pk_un e, h o' ho', uk_hws hs hd (by rw [h1]; exact uk_nIe ho ho' (fun z => e z.symm)) (fun z => uk_ne1 (n := o') (by omega) z.symm)]
theorem uk_OkC {oh ok ki T om mo op oh' : Nat → Int32} (h : uk_Ok oh ok ki T om mo op) (e : ∀ o, o < 12 → (oh' o = 0 ↔ oh o = 0)) : uk_Ok oh' ok ki T om mo op := fun o ho => by
  obtain ⟨h1, h2⟩ := h o ho
  refine ⟨h1, ?_⟩
  rcases h2 with ⟨a, b⟩ | ⟨a, b⟩
  · exact Or.inl ⟨(e o ho).mpr a, b⟩
  · exact Or.inr ⟨fun z => a ((e o ho).mp z), b⟩
theorem uk_cl_Ok1 {P zo H oh ok ki T om mo op : Nat → Int32} {o s d : Nat} (h : uk_Ok oh ok ki T om mo op) (hh : uk_Ho P zo H oh) (hs : s < 8) (hp : P s ≠ 0) (hz : zo s = 0) (hd : d < 6) (ho : o < 12) (h1 : H (6 * s + d) = nI o) (hn : uk_sm (uk_hw P zo (upd H (6 * s + d) (-1)) o) 8 ≠ 0) : uk_Ok (upd oh o (oh o - 1)) ok ki T om mo op := uk_OkC h (fun o' ho' => by
  by_cases e : o' = o
  · subst e
    have hc := uk_cl_Ho hh hs hp hz hd ho h1
    have h3 := (uk_ohn hc ho)
    have h4 := (uk_ohn hh ho)
    have h5 := uk_hwp hs hp hz hd h1
    exact ⟨fun z => absurd (h3.mp z) hn, fun z => absurd (h4.mp z) (by omega)⟩
  · rw [pk_un e])
theorem uk_cl_Ok0 {P zo H oh ok ki T om mo op : Nat → Int32} {o s d : Nat} (h : uk_Ok oh ok ki T om mo op) (hh : uk_Ho P zo H oh) (hs : s < 8) (hp : P s ≠ 0) (hz : zo s = 0) (hd : d < 6) (ho : o < 12) (h1 : H (6 * s + d) = nI o) (hn : uk_sm (uk_hw P zo (upd H (6 * s + d) (-1)) o) 8 = 0) : uk_Ok (upd oh o (oh o - 1)) ok (upd ki o 0) T om mo op := fun o' ho' => by
  obtain ⟨h2, h3⟩ := h o' ho'
  refine ⟨h2, ?_⟩
  by_cases e : o' = o
  · subst e
    have hc := uk_cl_Ho hh hs hp hz hd ho h1
    exact Or.inl ⟨(uk_ohn hc ho).mpr hn, pk_us⟩
  · rw [pk_un e, pk_un e]; exact h3
theorem uk_freC {N ki T ki' T' : Nat → Int32} {f : Nat} (e : ∀ o, o < 12 → ((ki' o = 1 ∧ T' o = nI f) ↔ (ki o = 1 ∧ T o = nI f))) : uk_fre N ki' T' f ↔ uk_fre N ki T f :=
  ⟨fun h => ⟨h.1, fun o ho z => h.2 o ho ((e o ho).mpr z)⟩, fun h => ⟨h.1, fun o ho z => h.2 o ho ((e o ho).mp z)⟩⟩
theorem uk_FiC {N ki T fs sz ki' T' : Nat → Int32} (h : uk_Fi N ki T fs sz) (e : ∀ f, f < 8 → (uk_fre N ki' T' f ↔ uk_fre N ki T f)) : uk_Fi N ki' T' fs sz := ⟨h.1, fun f hf => by
  obtain ⟨h1, h2, h3⟩ := h.2 f hf
  exact ⟨h1, fun z => h2 ((e f hf).mp z), fun z => h3 (fun y => z ((e f hf).mpr y))⟩⟩
/-- the kind of o goes, it was no file -/
theorem uk_cl_Fi1 {N ki T fs sz : Nat → Int32} {o : Nat} (h : uk_Fi N ki T fs sz) (hk : ki o ≠ 1) : uk_Fi N (upd ki o 0) T fs sz := uk_FiC h (fun f _ => uk_freC (fun o' _ => by
  by_cases e : o' = o
  · subst e; rw [pk_us]; exact ⟨fun z => absurd z.1 (by decide), fun z => absurd z.1 hk⟩
  · rw [pk_un e]))
theorem uk_cl_fre {N ki T : Nat → Int32} {o f g : Nat} (hT : T o = nI g) (hg : g < 8) (hf : f < 8) (e : f ≠ g) : uk_fre N (upd ki o 0) T f ↔ uk_fre N ki T f := uk_freC (fun o' _ => by
  by_cases e2 : o' = o
  · subst e2
    rw [pk_us, hT]
    exact ⟨fun z => absurd z.1 (by decide), fun z => absurd ((nI_eq (by omega) (by omega)).mp z.2) (fun y => e y.symm)⟩
  · rw [pk_un e2])
theorem uk_cl_Fi2 {N ki T fs sz : Nat → Int32} {o g : Nat} (h : uk_Fi N ki T fs sz) (hg : g < 8) (hT : T o = nI g) (hn : ¬ uk_fre N (upd ki o 0) T g) (ho : o < 12) (hk : ki o = 1) : uk_Fi N (upd ki o 0) T fs sz := ⟨h.1, fun f hf => by
  obtain ⟨h1, h2, h3⟩ := h.2 f hf
  by_cases e : f = g
  · subst e
    exact ⟨h1, fun z => absurd z hn, fun _ => h3 (fun z => z.2 o ho ⟨hk, hT⟩)⟩
  · have := uk_cl_fre (N := N) (ki := ki) hT hg hf e
    exact ⟨h1, fun z => h2 (this.mp z), fun z => h3 (fun y => z (this.mpr y))⟩⟩
theorem uk_cl_Fi3 {N ki T fs sz : Nat → Int32} {o g : Nat} (h : uk_Fi N ki T fs sz) (hg : g < 8) (hT : T o = nI g) (hn : uk_fre N (upd ki o 0) T g) : uk_Fi N (upd ki o 0) T fs (upd sz g 0) := ⟨h.1, fun f hf => by
  obtain ⟨h1, h2, h3⟩ := h.2 f hf
  by_cases e : f = g
  · subst e
    rw [pk_us]
    exact ⟨vp_in_nI (n := 0) (by omega) (by omega), fun _ => rfl, fun z => absurd hn z⟩
  · have := uk_cl_fre (N := N) (ki := ki) hT hg hf e
    rw [pk_un e]
    exact ⟨h1, fun z => h2 (this.mp z), fun z => h3 (fun y => z (this.mpr y))⟩⟩
/-- blocked ones don't see that another one's descriptor went -/
theorem uk_cl_Wk {P zo zo1 bl G L ln os ob wt wk R H ki ki' : Nat → Int32} {t o s d : Nat} (h : uk_Wk P zo1 bl G L ln os ob wt wk R H ki t) (hd : d < 6) (hzo : ∀ s', s' < 8 → s' ≠ s → zo1 s' = 0 → zo s' = 0) (hs1 : zo1 s = 0 → bl s = 0 ∧ wt s = 0 ∧ wk s = -1) (hk : ∀ o', o' ≠ o → ki' o' = ki o') (hn : uk_sm (uk_hw P zo (upd H (6 * s + d) (-1)) o) 8 = 0 ∨ ki' o = ki o) : uk_Wk P zo1 bl G L ln os ob wt wk R (upd H (6 * s + d) (-1)) ki' t := uk_WkC (Nat.le_refl t) h (fun s' hs' hP hz' => by
  by_cases e : s' = s
  · subst e; exact Or.inl (hs1 hz')
  · refine Or.inr ⟨hP, hz', rfl, rfl, rfl, rfl, rfl, rfl, fun d' hd' => pk_un (by omega), fun d' o' hd' ho' h1 _ => ?_⟩
    by_cases e2 : o' = o
    · subst e2
      rcases hn with hn | hn
      · have h2 : upd H (6 * s + d) (-1) (6 * s' + d') = nI o' := by rw [pk_un (by omega)]; exact h1
        have := uk_hwp hs' hP (hzo s' hs' e hz') hd' h2
        omega
      · exact hn
    · exact hk o' e2)
/-- one descriptor more of an o-file -/
theorem uk_du_Ho {P zo H oh : Nat → Int32} {o s d : Nat} (h : uk_Ho P zo H oh) (hs : s < 8) (hp : P s ≠ 0) (hz : zo s = 0) (hd : d < 6) (ho : o < 12) (h1 : H (6 * s + d) = -1) : uk_Ho P zo (upd H (6 * s + d) (nI o)) (upd oh o (oh o + 1)) := fun o' ho' => by
  by_cases e : o' = o
  · subst e
    rw [pk_us, h o' ho', uk_hwa hs hp hz hd (by rw [h1]; exact fun z => uk_ne1 (n := o') (by omega) z.symm), nI_1]
  · rw [pk_un e, h o' ho', uk_hws hs hd (by rw [h1]; exact fun z => uk_ne1 (n := o') (by omega) z.symm) (uk_nIe ho ho' (fun z => e z.symm))]
theorem uk_du_Ok {P zo H oh ok ki T om mo op : Nat → Int32} {o s d : Nat} (h : uk_Ok oh ok ki T om mo op) (hh : uk_Ho P zo H oh) (hs : s < 8) (hp : P s ≠ 0) (hz : zo s = 0) (hd : d < 6) (ho : o < 12) (h1 : H (6 * s + d) = -1) (hn : oh o ≠ 0) : uk_Ok (upd oh o (oh o + 1)) ok ki T om mo op := uk_OkC h (fun o' ho' => by
  by_cases e : o' = o
  · subst e
    have hc := uk_du_Ho hh hs hp hz hd ho h1
    have h3 := uk_ohn hc ho
    have h5 := uk_hwp (P := P) (zo := zo) (H := upd H (6 * s + d) (nI o')) hs hp hz hd pk_us
    exact ⟨fun z => absurd (h3.mp z) (by omega), fun z => absurd z hn⟩
  · rw [pk_un e])
theorem uk_du_Wk {P zo bl G L ln os ob wt wk R H ki ki' : Nat → Int32} {t s d : Nat} {x : Int32} (h : uk_Wk P zo bl G L ln os ob wt wk R H ki t) (hd : d < 6) (hs1 : bl s = 0 ∧ wt s = 0 ∧ wk s = -1) (hk : ∀ o, o < 12 → (ki o = 2 ∨ ki o = 3) → ki' o = ki o) : uk_Wk P zo bl G L ln os ob wt wk R (upd H (6 * s + d) x) ki' t := uk_WkC (Nat.le_refl t) h (fun s' hs' hP hz' => by
  by_cases e : s' = s
  · subst e; exact Or.inl hs1
  · exact Or.inr ⟨hP, hz', rfl, rfl, rfl, rfl, rfl, rfl, fun d' hd' => pk_un (by omega), fun d' o' hd' ho' h1 h2 => hk o' ho' h2⟩)
/-- a new o-file -/
theorem uk_nw_Ho {P zo H oh : Nat → Int32} {o s d : Nat} (h : uk_Ho P zo H oh) (hs : s < 8) (hp : P s ≠ 0) (hz : zo s = 0) (hd : d < 6) (ho : o < 12) (h1 : H (6 * s + d) = -1) (h0 : oh o = 0) : uk_Ho P zo (upd H (6 * s + d) (nI o)) (upd oh o 1) := by
  have h2 := uk_du_Ho h hs hp hz hd ho h1
  rw [h0] at h2
  exact h2
theorem uk_nw_Ok {oh ok ki T om mo op : Nat → Int32} {o : Nat} {k tg xm ym : Int32} (h : uk_Ok oh ok ki T om mo op) (hv : (k = 1 ∧ xm = ym ∧ ym &&& 3 ≠ 0 ∧ vp_in tg 8) ∨ (k = 2 ∧ xm = 1 ∧ vp_in tg 4) ∨ (k = 3 ∧ xm = 2 ∧ vp_in tg 4)) : uk_Ok (upd oh o 1) (upd ok o k) (upd ki o k) (upd T o tg) (upd om o xm) (upd mo o ym) (upd op o 0) := fun o' ho' => by
  obtain ⟨h2, h3⟩ := h o' ho'
  by_cases e : o' = o
  · subst e
    rw [pk_us, pk_us, pk_us, pk_us, pk_us, pk_us, pk_us]
    exact ⟨vp_in_nI (n := 0) (by omega) (by omega), Or.inr ⟨by decide, rfl, hv⟩⟩
  · rw [pk_un e, pk_un e, pk_un e, pk_un e, pk_un e, pk_un e, pk_un e]; exact ⟨h2, h3⟩
theorem uk_nw_Fi1 {N ki T fs sz : Nat → Int32} {o : Nat} {k tg : Int32} (h : uk_Fi N ki T fs sz) (h0 : ki o ≠ 1) (hk : k ≠ 1) : uk_Fi N (upd ki o k) (upd T o tg) fs sz := uk_FiC h (fun f _ => uk_freC (fun o' _ => by
  by_cases e : o' = o
  · subst e; rw [pk_us, pk_us]; exact ⟨fun z => absurd z.1 hk, fun z => absurd z.1 h0⟩
  · rw [pk_un e, pk_un e]))
theorem uk_nw_Fi2 {N ki T fs sz : Nat → Int32} {o g : Nat} (h : uk_Fi N ki T fs sz) (ho : o < 12) (h0 : ki o ≠ 1) (hg : g < 8) (hfs : fs g = sz g) : uk_Fi N (upd ki o 1) (upd T o (nI g)) fs sz := ⟨h.1, fun f hf => by
  obtain ⟨h1, h2, h3⟩ := h.2 f hf
  by_cases e : f = g
  · subst e
    exact ⟨h1, fun z => absurd ⟨pk_us, pk_us⟩ (z.2 o ho), fun _ => hfs⟩
  · have : uk_fre N (upd ki o 1) (upd T o (nI g)) f ↔ uk_fre N ki T f := uk_freC (fun o' _ => by
      by_cases e2 : o' = o
      · subst e2
        rw [pk_us, pk_us]
        exact ⟨fun z => absurd ((nI_eq (by omega) (by omega)).mp z.2) (fun y => e y.symm), fun z => absurd z.1 h0⟩
      · rw [pk_un e2, pk_un e2])
    exact ⟨h1, fun z => h2 (this.mp z), fun z => h3 (fun y => z (this.mpr y))⟩⟩
