/-! what the two sides ask of the same tables -/
theorem uk_hold48 (P zo H : Nat → Int32) (o : Nat) : uk_cn (fun k => (P (k / 6) ≠ 0 ∧ zo (k / 6) = 0) ∧ H k = nI o) 48 = uk_sm (uk_hw P zo H o) 8 := by
  have e := uk_cnmul (fun k => (P (k / 6) ≠ 0 ∧ zo (k / 6) = 0) ∧ H k = nI o) 6 8
  refine Eq.trans e (uk_smc 8 (fun s hs => ?_))
  unfold uk_hw
  by_cases h : P s ≠ 0 ∧ zo s = 0
  · rw [uk_b1 h, Nat.one_mul]
    exact uk_cnc 6 (fun d hd => by rw [show (6 * s + d) / 6 = s by omega]; exact ⟨fun z => z.2, fun z => ⟨h, z⟩⟩)
  · rw [uk_b0 h, Nat.zero_mul]
    exact uk_cn0 6 (fun d hd z => by rw [show (6 * s + d) / 6 = s by omega] at z; exact h z.1)
theorem uk_used (P pg fr : Nat → Int32) (f : Nat) : uk_sm (uk_rw P pg fr f) 8 ≠ 0 ↔ ∃ s, s < 8 ∧ P s ≠ 0 ∧ ∃ p, p < (pg s).toNatClampNeg ∧ fr (8 * s + p) = nI f := by
  constructor
  · intro h
    refine Classical.byContradiction (fun hn => h (uk_sm0 8 (fun s hs => ?_)))
    unfold uk_rw
    by_cases hP : P s = 0
    · rw [uk_b0 (fun z => z hP), Nat.zero_mul]
    · rw [uk_cn0 _ (fun p hp z => hn ⟨s, hs, hP, p, hp, z⟩), Nat.mul_zero]
  · rintro ⟨s, hs, hP, p, hp, z⟩ h
    have h1 := uk_smle (g := uk_rw P pg fr f) 8 hs
    have h2 := uk_cnp (P := fun p => fr (8 * s + p) = nI f) z _ hp
    unfold uk_rw at h1
    rw [uk_b1 hP, Nat.one_mul] at h1
    unfold uk_rw at h
    omega
theorem uk_ohp {P zo H oh : Nat → Int32} (h : uk_Ho P zo H oh) {o : Nat} (ho : o < 12) : (¬ oh o < 0) ∧ (oh o ≤ 0 ↔ oh o = 0) ∧ (0 < oh o ↔ oh o ≠ 0) := by
  have h1 := uk_hsle P zo H o
  rw [h o ho]
  generalize uk_sm (uk_hw P zo H o) 8 = m at h1
  refine ⟨nI_pos (by omega), ?_, ?_⟩
  · rw [show (0 : Int32) = nI 0 from rfl, nI_leI (by omega) (by omega), nI_eq (by omega) (by omega)]; omega
  · rw [show (0 : Int32) = nI 0 from rfl, nI_ltI (by omega) (by omega), ne_eq, nI_eq (by omega) (by omega)]; omega
theorem uk_okk {P zo H oh ok ki T om mo op : Nat → Int32} (hO : uk_Ok oh ok ki T om mo op) (hh : uk_Ho P zo H oh) {o : Nat} (ho : o < 12) {k : Int32} (hk : k ≠ 0) : (¬ oh o ≤ 0 ∧ ok o = k) ↔ ki o = k := by
  rw [(uk_ohp hh ho).2.1]
  rcases (hO o ho).2 with ⟨a, b⟩ | ⟨a, b, _⟩
  · rw [b]; exact ⟨fun z => absurd a z.1, fun z => absurd z.symm hk⟩
  · rw [b]; exact ⟨fun z => z.2, fun z => ⟨a, z⟩⟩
theorem uk_ki0 {P zo H oh ok ki T om mo op : Nat → Int32} (hO : uk_Ok oh ok ki T om mo op) {o : Nat} (ho : o < 12) : ki o = 0 ↔ oh o = 0 := by
  rcases (hO o ho).2 with ⟨a, b⟩ | ⟨a, b, c⟩
  · exact ⟨fun _ => a, fun _ => b⟩
  · refine ⟨fun z => ?_, fun z => absurd z a⟩
    rw [z] at c
    rcases c with c | c | c
    · exact absurd c.1 (by decide)
    · exact absurd c.1 (by decide)
    · exact absurd c.1 (by decide)
/-- the least by pid of those that Z names -/
noncomputable def uk_be (P : Nat → Int32) (Z : Nat → Prop) : Nat → Int32
  | 0 => -1
  | n + 1 => @ite Int32 (Z n ∧ (uk_be P Z n = -1 ∨ P n < P (uk_be P Z n).toNatClampNeg)) (Classical.propDecidable _) (nI n) (uk_be P Z n)
theorem uk_bet {P : Nat → Int32} {Z : Nat → Prop} {n : Nat} (h : Z n ∧ (uk_be P Z n = -1 ∨ P n < P (uk_be P Z n).toNatClampNeg)) : uk_be P Z (n + 1) = nI n := if_pos h
theorem uk_bef {P : Nat → Int32} {Z : Nat → Prop} {n : Nat} (h : ¬ (Z n ∧ (uk_be P Z n = -1 ∨ P n < P (uk_be P Z n).toNatClampNeg))) : uk_be P Z (n + 1) = uk_be P Z n := if_neg h
theorem uk_bes (P : Nat → Int32) (Z : Nat → Prop) : ∀ n, (uk_be P Z n = -1 ∧ ∀ i, i < n → ¬ Z i) ∨ (∃ i, i < n ∧ uk_be P Z n = nI i ∧ Z i)
  | 0 => Or.inl ⟨rfl, fun i hi => by omega⟩
  | n + 1 => by
    have ih := uk_bes P Z n
    by_cases h : Z n ∧ (uk_be P Z n = -1 ∨ P n < P (uk_be P Z n).toNatClampNeg)
    · rw [uk_bet h]; exact Or.inr ⟨n, by omega, rfl, h.1⟩
    · rw [uk_bef h]
      rcases ih with ⟨a, b⟩ | ⟨i, hi, a, b⟩
      · refine Or.inl ⟨a, fun i hi z => ?_⟩
        by_cases e : i = n
        · subst e; exact h ⟨z, Or.inl a⟩
        · exact b i (by omega) z
      · exact Or.inr ⟨i, by omega, a, b⟩
theorem uk_bec {P : Nat → Int32} {Z Y : Nat → Prop} : ∀ n, (∀ i, i < n → (Z i ↔ Y i)) → uk_be P Z n = uk_be P Y n
  | 0, _ => rfl
  | n + 1, h => by
    have ih := uk_bec (P := P) n (fun i hi => h i (by omega))
    by_cases z : Z n ∧ (uk_be P Z n = -1 ∨ P n < P (uk_be P Z n).toNatClampNeg)
    · rw [uk_bet z]
      rw [ih, h n (by omega)] at z
      rw [uk_bet z]
    · rw [uk_bef z, ih]
      rw [ih, h n (by omega)] at z
      rw [uk_bef z]
/-- the call c of slot s would wait (SLEEP apart) -/
def uk_Bk (P Q zo R H ki T C : Nat → Int32) (s : Nat) (c : Int32) : Prop :=
  (c = 2 ∧ (∃ k, k < 8 ∧ P k ≠ 0 ∧ Q k = P s) ∧ ∀ k, k < 8 → ¬ (P k ≠ 0 ∧ zo k = 1 ∧ Q k = P s)) ∨
  (c = 7 ∧ ∃ d o, d < 6 ∧ o < 12 ∧ R (4 * s) = nI d ∧ H (6 * s + d) = nI o ∧ ki o = 2 ∧ C (T o).toNatClampNeg = 0 ∧ ∃ e, e < 12 ∧ ki e = 3 ∧ T e = T o) ∨
  (c = 8 ∧ ∃ d o, d < 6 ∧ o < 12 ∧ R (4 * s) = nI d ∧ H (6 * s + d) = nI o ∧ ki o = 3 ∧ C (T o).toNatClampNeg = 4 ∧ ∃ e, e < 12 ∧ ki e = 2 ∧ T e = T o)
/-- slot s is ready at time t -/
def uk_Rd (P Q zo bl G L ob wk R H ki T C : Nat → Int32) (t : Int32) (s : Nat) : Prop := P s ≠ 0 ∧ zo s = 0 ∧ (bl s = 0 ∨ (ob (24 * (G s).toNatClampNeg + (L s).toNatClampNeg) ≠ 14 ∧ ¬ uk_Bk P Q zo R H ki T C s (ob (24 * (G s).toNatClampNeg + (L s).toNatClampNeg))) ∨ (ob (24 * (G s).toNatClampNeg + (L s).toNatClampNeg) = 14 ∧ wk s ≤ t))
