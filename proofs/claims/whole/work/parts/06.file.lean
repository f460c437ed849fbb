/-! pipes -/
theorem uk_pi_rd {C pf pw pi : Nat → Int32} {q c f : Nat} (h : uk_Pi C pf pw pi) (hq : q < 4) (hC : C q = nI (c + 1)) (hf : pf q = nI f) (hc4 : c < 4) (hf4 : f < 4) : pw (4 * q + f) = pi (4 * q) ∧ uk_Pi (upd C q (nI c)) (upd pf q (nI ((f + 1) % 4))) pw (uk_fl pi (4 * q) (fun k => pi (4 * q + k + 1)) c) := by
  obtain ⟨c', f', h1, h2, h3, h4, h5⟩ := h q hq
  have e1 : c' = c + 1 := (nI_eq (by omega) (by omega)).mp (h3.symm.trans hC)
  have e2 : f' = f := (nI_eq (by omega) (by omega)).mp (h4.symm.trans hf)
  subst e1 e2
  constructor
  · have := h5 0 (by omega)
    rw [show (f' + 0) % 4 = f' from by omega] at this
    exact this
  · intro q' hq'
    by_cases e : q' = q
    · subst e
      refine ⟨c, (f' + 1) % 4, by omega, by omega, pk_us, pk_us, fun j hj => ?_⟩
      rw [uk_flin hj]
      have := h5 (j + 1) (by omega)
      rw [show ((f' + 1) % 4 + j) % 4 = (f' + (j + 1)) % 4 from by omega]
      exact this
    · obtain ⟨c2, f2, g1, g2, g3, g4, g5⟩ := h q' hq'
      refine ⟨c2, f2, g1, g2, by rw [pk_un e]; exact g3, by rw [pk_un e]; exact g4, fun j hj => ?_⟩
      rw [uk_flout (by omega)]; exact g5 j hj
theorem uk_pi_wr {C pf pw pi : Nat → Int32} {q c f : Nat} (v : Int32) (h : uk_Pi C pf pw pi) (hq : q < 4) (hC : C q = nI c) (hf : pf q = nI f) (hc4 : c < 4) (hf4 : f < 4) : uk_Pi (upd C q (nI (c + 1))) pf (upd pw (4 * q + (f + c) % 4) v) (upd pi (4 * q + c) v) := by
  intro q' hq'
  obtain ⟨c2, f2, g1, g2, g3, g4, g5⟩ := h q' hq'
  by_cases e : q' = q
  · subst e
    have e1 : c2 = c := (nI_eq (by omega) (by omega)).mp (g3.symm.trans hC)
    have e2 : f2 = f := (nI_eq (by omega) (by omega)).mp (g4.symm.trans hf)
    subst e1 e2
    refine ⟨c2 + 1, f2, by omega, g2, pk_us, g4, fun j hj => ?_⟩
    by_cases ej : j = c2
    · subst ej; rw [pk_us, pk_us]
    · rw [pk_un (by omega), pk_un (by omega)]; exact g5 j (by omega)
  · refine ⟨c2, f2, g1, g2, by rw [pk_un e]; exact g3, g4, fun j hj => ?_⟩
    rw [pk_un (by omega), pk_un (by omega)]; exact g5 j hj
theorem uk_pi_nw {C pf pw pi : Nat → Int32} (q : Nat) (h : uk_Pi C pf pw pi) : uk_Pi (upd C q 0) (upd pf q 0) pw pi := by
  intro q' hq'
  by_cases e : q' = q
  · subst e
    exact ⟨0, 0, by omega, by omega, pk_us, pk_us, fun j hj => by omega⟩
  · rw [pk_un e, pk_un e]; exact h q' hq'
/-! files -/
theorem uk_Ok_op {oh ok ki T om mo op : Nat → Int32} {x : Int32} (o : Nat) (h : uk_Ok oh ok ki T om mo op) (hx : vp_in x 17) : uk_Ok oh ok ki T om mo (upd op o x) := fun o' ho' => by
  obtain ⟨h1, h2⟩ := h o' ho'
  refine ⟨?_, h2⟩
  by_cases e : o' = o
  · subst e; rw [pk_us]; exact hx
  · rw [pk_un e]; exact h1
theorem uk_Fi_sz {N ki T fs sz : Nat → Int32} {g : Nat} {x : Int32} (h : uk_Fi N ki T fs sz) (hx : vp_in x 17) (hn : ¬ uk_fre N ki T g) : uk_Fi N ki T (upd fs g x) (upd sz g x) := ⟨h.1, fun f hf => by
  obtain ⟨h1, h2, h3⟩ := h.2 f hf
  by_cases e : f = g
  · subst e; rw [pk_us, pk_us]; exact ⟨hx, fun z => absurd z hn, fun _ => rfl⟩
  · rw [pk_un e, pk_un e]; exact ⟨h1, h2, h3⟩⟩
theorem uk_NU {N : Nat → Int32} {y : Nat} {x : Int32} (h : ∀ k, k < 8 → N k = -1 ∨ vp_in (N k) 8) (hx : x = -1 ∨ vp_in x 8) : ∀ k, k < 8 → upd N y x k = -1 ∨ vp_in (upd N y x k) 8 := fun k hk => by
  by_cases e : k = y
  · subst e; rw [pk_us]; exact hx
  · rw [pk_un e]; exact h k hk
theorem uk_freN {N N' ki T : Nat → Int32} {f : Nat} (e : (∃ k, k < 8 ∧ N' k = nI f) ↔ (∃ k, k < 8 ∧ N k = nI f)) : uk_fre N' ki T f ↔ uk_fre N ki T f :=
  ⟨fun h => ⟨fun k hk z => by
    obtain ⟨k', hk', z'⟩ := e.mpr ⟨k, hk, z⟩
    exact h.1 k' hk' z', h.2⟩, fun h => ⟨fun k hk z => by
    obtain ⟨k', hk', z'⟩ := e.mp ⟨k, hk, z⟩
    exact h.1 k' hk' z', h.2⟩⟩
theorem uk_Fi_ln {N ki T fs sz : Nat → Int32} {x y : Nat} (h : uk_Fi N ki T fs sz) (hx : x < 8) (hy : y < 8) (hy1 : N y = -1) : uk_Fi (upd N y (N x)) ki T fs sz := by
  have hfr : ∀ f, f < 8 → (uk_fre (upd N y (N x)) ki T f ↔ uk_fre N ki T f) := fun f hf => uk_freN (by
    constructor
    · rintro ⟨k, hk, z⟩
      by_cases e : k = y
      · subst e; rw [pk_us] at z; exact ⟨x, hx, z⟩
      · rw [pk_un e] at z; exact ⟨k, hk, z⟩
    · rintro ⟨k, hk, z⟩
      by_cases e : k = y
      · subst e; rw [hy1] at z; exact absurd z.symm (uk_ne1 (n := f) (by omega))
      · exact ⟨k, hk, by rw [pk_un e]; exact z⟩)
  refine ⟨uk_NU h.1 (h.1 x hx), fun f hf => ?_⟩
  obtain ⟨h1, h2, h3⟩ := h.2 f hf
  exact ⟨h1, fun z => h2 ((hfr f hf).mp z), fun z => h3 (fun w => z ((hfr f hf).mpr w))⟩
theorem uk_ul_fre {N ki T : Nat → Int32} {x g f : Nat} (hg : g < 8) (hN : N x = nI g) (hf : f < 8) (e : f ≠ g) : uk_fre (upd N x (-1)) ki T f ↔ uk_fre N ki T f := uk_freN (by
  constructor
  · rintro ⟨k, hk, z⟩
    by_cases e2 : k = x
    · subst e2; rw [pk_us] at z; exact absurd z.symm (uk_ne1 (n := f) (by omega))
    · rw [pk_un e2] at z; exact ⟨k, hk, z⟩
  · rintro ⟨k, hk, z⟩
    by_cases e2 : k = x
    · subst e2; rw [hN] at z; exact absurd ((nI_eq (by omega) (by omega)).mp z).symm e
    · exact ⟨k, hk, by rw [pk_un e2]; exact z⟩)
theorem uk_Fi_ul0 {N ki T fs sz : Nat → Int32} {x g : Nat} (h : uk_Fi N ki T fs sz) (hx : x < 8) (hg : g < 8) (hN : N x = nI g) (hn : uk_fre (upd N x (-1)) ki T g) : uk_Fi (upd N x (-1)) ki T fs (upd sz g 0) := by
  refine ⟨uk_NU h.1 (Or.inl rfl), fun f hf => ?_⟩
  obtain ⟨h1, h2, h3⟩ := h.2 f hf
  by_cases e : f = g
  · subst e; rw [pk_us]; exact ⟨vp_in_nI (n := 0) (by omega) (by omega), fun _ => rfl, fun z => absurd hn z⟩
  · have := uk_ul_fre (ki := ki) (T := T) hg hN hf e
    rw [pk_un e]
    exact ⟨h1, fun z => h2 (this.mp z), fun z => h3 (fun w => z (this.mpr w))⟩
theorem uk_Fi_ul1 {N ki T fs sz : Nat → Int32} {x g : Nat} (h : uk_Fi N ki T fs sz) (hx : x < 8) (hg : g < 8) (hN : N x = nI g) (hn : ¬ uk_fre (upd N x (-1)) ki T g) : uk_Fi (upd N x (-1)) ki T fs sz := by
  refine ⟨uk_NU h.1 (Or.inl rfl), fun f hf => ?_⟩
  obtain ⟨h1, h2, h3⟩ := h.2 f hf
  by_cases e : f = g
  · subst e; exact ⟨h1, fun z => absurd z hn, fun _ => h3 (fun z => z.1 x hx hN)⟩
  · have := uk_ul_fre (ki := ki) (T := T) hg hN hf e
    exact ⟨h1, fun z => h2 (this.mp z), fun z => h3 (fun w => z (this.mpr w))⟩
theorem uk_Fi_mk {N ki T fs sz : Nat → Int32} {y g : Nat} (h : uk_Fi N ki T fs sz) (hy : y < 8) (hg : g < 8) (hy1 : N y = -1) : uk_Fi (upd N y (nI g)) ki T (upd fs g 0) (upd sz g 0) := by
  refine ⟨uk_NU h.1 (Or.inr (vp_in_nI hg (by omega))), fun f hf => ?_⟩
  obtain ⟨h1, h2, h3⟩ := h.2 f hf
  by_cases e : f = g
  · subst e; rw [pk_us, pk_us]; exact ⟨vp_in_nI (n := 0) (by omega) (by omega), fun _ => rfl, fun _ => rfl⟩
  · have : uk_fre (upd N y (nI g)) ki T f ↔ uk_fre N ki T f := uk_freN (by
      constructor
      · rintro ⟨k, hk, z⟩
        by_cases e2 : k = y
        · subst e2; rw [pk_us] at z; exact absurd ((nI_eq (by omega) (by omega)).mp z).symm e
        · rw [pk_un e2] at z; exact ⟨k, hk, z⟩
      · rintro ⟨k, hk, z⟩
        by_cases e2 : k = y
        · subst e2; rw [hy1] at z; exact absurd z.symm (uk_ne1 (n := f) (by omega))
        · exact ⟨k, hk, by rw [pk_un e2]; exact z⟩)
    rw [pk_un e, pk_un e]
    exact ⟨h1, fun z => h2 (this.mp z), fun z => h3 (fun w => z (this.mpr w))⟩
theorem uk_fl1 {a g : Nat → Int32} {N j : Nat} (h : j < N) : uk_fl a 0 g N j = g j := by
  have := uk_flin (a := a) (b := 0) (g := g) h
  rw [Nat.zero_add] at this
  exact this
theorem uk_fls0 {a g : Nat → Int32} {i : Nat} : upd (uk_fl a 0 g i) i (g i) = uk_fl a 0 g (i + 1) := by
  have := uk_fls (a := a) (b := 0) (i := i) (g := g)
  rw [Nat.zero_add] at this
  exact this
theorem uk_fl_same {a g : Nat → Int32} {N : Nat} (h : ∀ j, j < N → g j = a j) : uk_fl a 0 g N = a := by
  funext j
  by_cases e : j < N
  · rw [uk_fl1 e, h j e]
  · exact uk_flout (Or.inr (by omega))
theorem uk_Sa_cm {N ki T fs sz sn ss sy : Nat → Int32} (h : uk_Fi N ki T fs sz) : uk_Sa (uk_fl sn 0 N 8) (uk_fl ss 0 fs 8) (uk_fl sy 0 sz 8) := by
  refine ⟨fun k hk => by rw [uk_fl1 hk]; exact h.1 k hk, fun f hf => ?_⟩
  obtain ⟨h1, h2, h3⟩ := h.2 f hf
  rw [uk_fl1 hf, uk_fl1 hf]
  refine ⟨h1, ?_⟩
  rintro ⟨k, hk, z⟩
  rw [uk_fl1 hk] at z
  exact h3 (fun w => w.1 k hk z)
/-! said -/
def uk_sh (sd : Nat → Int32) (x : Int32) : Nat → Int32 := fun j => if j = 0 then x else if j < 16 then sd (j - 1) else sd j
theorem uk_Sd_say {n : Nat} {si sd : Nat → Int32} (x : Int32) (h : uk_Sd n si sd) : uk_Sd (n + 1) (upd si (n % 16) x) (uk_sh sd x) := fun k hk hn => by
  by_cases e : k = 0
  · subst e
    rw [show (n + 1 - 1 - 0) % 16 = n % 16 from by omega, pk_us]
    rfl
  · have h1 := h (k - 1) (by omega) (by omega)
    rw [show (n - 1 - (k - 1)) % 16 = (n + 1 - 1 - k) % 16 from by omega] at h1
    rw [pk_un (by omega), h1]
    show _ = if k = 0 then x else if k < 16 then sd (k - 1) else sd k
    rw [if_neg e, if_pos hk]
