/-! what the two sides ask of the same tables -/
theorem uk_hold48 (P zo H : Nat → Int32) (o : Nat) : uk_cn (fun k => (P (k / 6) ≠ 0 ∧ zo (k / 6) = 0) ∧ H k = nI o) 48 = uk_sm (uk_hw P zo H o) 8 := sorry
theorem uk_used (P pg fr : Nat → Int32) (f : Nat) : uk_sm (uk_rw P pg fr f) 8 ≠ 0 ↔ ∃ s, s < 8 ∧ P s ≠ 0 ∧ ∃ p, p < (pg s).toNatClampNeg ∧ fr (8 * s + p) = nI f := sorry
theorem uk_ohp {P zo H oh : Nat → Int32} (h : uk_Ho P zo H oh) {o : Nat} (ho : o < 12) : (¬ oh o < 0) ∧ (oh o ≤ 0 ↔ oh o = 0) ∧ (0 < oh o ↔ oh o ≠ 0) := sorry
theorem uk_okk {P zo H oh ok ki T om mo op : Nat → Int32} (hO : uk_Ok oh ok ki T om mo op) (hh : uk_Ho P zo H oh) {o : Nat} (ho : o < 12) {k : Int32} (hk : k ≠ 0) : (¬ oh o ≤ 0 ∧ ok o = k) ↔ ki o = k := sorry
theorem uk_ki0 {P zo H oh ok ki T om mo op : Nat → Int32} (hO : uk_Ok oh ok ki T om mo op) {o : Nat} (ho : o < 12) : ki o = 0 ↔ oh o = 0 := sorry
/-- the least by pid of those that Z names -/
noncomputable def uk_be (P : Nat → Int32) (Z : Nat → Prop) : Nat → Int32
  | 0 => -1
  | n + 1 => @ite Int32 (Z n ∧ (uk_be P Z n = -1 ∨ P n < P (uk_be P Z n).toNatClampNeg)) (Classical.propDecidable _) (nI n) (uk_be P Z n)
theorem uk_bet {P : Nat → Int32} {Z : Nat → Prop} {n : Nat} (h : Z n ∧ (uk_be P Z n = -1 ∨ P n < P (uk_be P Z n).toNatClampNeg)) : uk_be P Z (n + 1) = nI n := sorry
theorem uk_bef {P : Nat → Int32} {Z : Nat → Prop} {n : Nat} (h : ¬ (Z n ∧ (uk_be P Z n = -1 ∨ P n < P (uk_be P Z n).toNatClampNeg))) : uk_be P Z (n + 1) = uk_be P Z n := sorry
theorem uk_bes (P : Nat → Int32) (Z : Nat → Prop) : ∀ n, (uk_be P Z n = -1 ∧ ∀ i, i < n → ¬ Z i) ∨ (∃ i, i < n ∧ uk_be P Z n = nI i ∧ Z i) := sorry
theorem uk_bec {P : Nat → Int32} {Z Y : Nat → Prop} : ∀ n, (∀ i, i < n → (Z i ↔ Y i)) → uk_be P Z n = uk_be P Y n := sorry
/-- the call c of slot s would wait (SLEEP apart) -/
def uk_Bk (P Q zo R H ki T C : Nat → Int32) (s : Nat) (c : Int32) : Prop :=
  (c = 2 ∧ (∃ k, k < 8 ∧ P k ≠ 0 ∧ Q k = P s) ∧ ∀ k, k < 8 → ¬ (P k ≠ 0 ∧ zo k = 1 ∧ Q k = P s)) ∨
  (c = 7 ∧ ∃ d o, d < 6 ∧ o < 12 ∧ R (4 * s) = nI d ∧ H (6 * s + d) = nI o ∧ ki o = 2 ∧ C (T o).toNatClampNeg = 0 ∧ ∃ e, e < 12 ∧ ki e = 3 ∧ T e = T o) ∨
  (c = 8 ∧ ∃ d o, d < 6 ∧ o < 12 ∧ R (4 * s) = nI d ∧ H (6 * s + d) = nI o ∧ ki o = 3 ∧ C (T o).toNatClampNeg = 4 ∧ ∃ e, e < 12 ∧ ki e = 2 ∧ T e = T o)
/-- slot s is ready at time t -/
def uk_Rd (P Q zo bl G L ob wk R H ki T C : Nat → Int32) (t : Int32) (s : Nat) : Prop := P s ≠ 0 ∧ zo s = 0 ∧ (bl s = 0 ∨ (ob (24 * (G s).toNatClampNeg + (L s).toNatClampNeg) ≠ 14 ∧ ¬ uk_Bk P Q zo R H ki T C s (ob (24 * (G s).toNatClampNeg + (L s).toNatClampNeg))) ∨ (ob (24 * (G s).toNatClampNeg + (L s).toNatClampNeg) = 14 ∧ wk s ≤ t))
