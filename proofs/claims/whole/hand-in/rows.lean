section
theorem pk_us {f : Nat → Int32} {k : Nat} {x : Int32} : upd f k x k = x := if_pos rfl
theorem pk_un {f : Nat → Int32} {k j : Nat} {x : Int32} (h : j ≠ k) : upd f k x j = f j := if_neg h
theorem pk_sub {a b : Nat} (h : b ≤ a) : nI a - nI b = nI (a - b) := by
  obtain ⟨c, rfl⟩ : ∃ c, a = c + b := ⟨a - b, by omega⟩
  rw [← nI_add, Int32.add_sub_cancel, Nat.add_sub_cancel]
theorem pk_m1 (n : Nat) : nI (n + 1) + (-1) = nI n := by
  rw [← nI_1, Int32.add_assoc, show (1 : Int32) + (-1) = 0 from rfl, Int32.add_zero]
theorem pk_mul (a b : Nat) : nI a * nI b = nI (a * b) := (Int32.ofNat_mul a b).symm
theorem pk_div {a d : Nat} (ha : a < 2 ^ 31) (h0 : 0 < d) (hd : d < 2 ^ 31) : nI a / nI d = nI (a / d) := by
  apply Int32.toInt_inj.mp
  rw [lg_idiv_nonneg (by rw [nI_toInt ha]; omega) (by rw [nI_toInt hd]; omega), nI_toInt ha, nI_toInt hd, nI_toInt (Nat.lt_of_le_of_lt (Nat.div_le_self a d) ha)]
  first | rfl | exact (Int.natCast_ediv _ _).symm
theorem pk_rem {a d : Nat} (ha : a < 2 ^ 31) (h0 : 0 < d) (hd : d < 2 ^ 31) : nI a - nI a / nI d * nI d = nI (a % d) := by
  rw [pk_div ha h0 hd, pk_mul, pk_sub (Nat.div_mul_le_self a d)]
  exact congrArg nI (by have := Nat.div_add_mod' a d; omega)
theorem pk_ix (x : Int32) {n : Nat} (hn : n < 2 ^ 31) : x < 0 ∨ nI n ≤ x ∨ ∃ j : Nat, j < n ∧ x = nI j := by
  by_cases h : x < 0
  · exact Or.inl h
  · obtain ⟨j, hj, rfl⟩ := nI_of h
    by_cases h2 : j < n
    · exact Or.inr (Or.inr ⟨j, h2, rfl⟩)
    · exact Or.inr (Or.inl (nI_le (by omega) hj))
theorem pk_le {x y : Int32} {A B : Prop} (a b : Nat) (f : a ≤ b → A) (g : b < a → B) (hx : x = nI a := by rfl) (hy : y = nI b := by rfl) (ha : a < 2 ^ 31 := by omega) (hb : b < 2 ^ 31 := by omega) : (x ≤ y → A) ∧ (¬ x ≤ y → B) := by
  subst hx hy
  rw [nI_leI ha hb]
  exact ⟨f, fun z => g (by omega)⟩
theorem pk_lt {x y : Int32} {A B : Prop} (a b : Nat) (f : a < b → A) (g : b ≤ a → B) (hx : x = nI a := by rfl) (hy : y = nI b := by rfl) (ha : a < 2 ^ 31 := by omega) (hb : b < 2 ^ 31 := by omega) : (x < y → A) ∧ (¬ x < y → B) := by
  subst hx hy
  rw [nI_ltI ha hb]
  exact ⟨f, fun z => g (by omega)⟩
theorem pk_eq {x y : Int32} {A B : Prop} (a b : Nat) (f : a = b → A) (g : a ≠ b → B) (hx : x = nI a := by rfl) (hy : y = nI b := by rfl) (ha : a < 2 ^ 31 := by omega) (hb : b < 2 ^ 31 := by omega) : (x = y → A) ∧ (¬ x = y → B) := by
  subst hx hy
  rw [nI_eq ha hb]
  exact ⟨f, g⟩
theorem pk_in {x : Int32} (n N : Nat) (h : n < N) (hx : x = nI n := by rfl) (hN : N < 2 ^ 31 := by omega) : vp_in x N := by
  subst hx
  exact vp_in_nI h hN
theorem pk_cl {x : Int32} (n : Nat) (hx : x = nI n := by rfl) (h : n < 2 ^ 31 := by omega) : x.toNatClampNeg = n := by
  subst hx
  exact nI_clamp h
theorem pk_tn {n : Nat} (h : n < 2 ^ 32) : (nI n).toBitVec.toNat = n := Nat.mod_eq_of_lt h
theorem pk_and (x : Int32) {m : Int32} (k : Nat) (hm : m.toBitVec.toNat = 2 ^ k - 1) : x &&& m = nI (x.toBitVec.toNat % 2 ^ k) := by
  apply Int32.toBitVec_inj.mp
  apply BitVec.eq_of_toNat_eq
  rw [Int32.toBitVec_and, BitVec.toNat_and, hm, Nat.and_two_pow_sub_one_eq_mod]
  show _ = (BitVec.ofNat 32 _).toNat
  rw [BitVec.toNat_ofNat]
  exact (Nat.mod_eq_of_lt (Nat.lt_of_le_of_lt (Nat.mod_le _ _) x.toBitVec.isLt)).symm
theorem pk_andN {n : Nat} (h : n < 2 ^ 32) {m : Int32} (k : Nat) (hm : m.toBitVec.toNat = 2 ^ k - 1) : nI n &&& m = nI (n % 2 ^ k) := by
  rw [pk_and _ k hm, pk_tn h]
theorem sb_m1 {p : Nat} (h : 0 < p) : nI p + (-1) = nI (p - 1) := by
  obtain ⟨q, rfl⟩ : ∃ q, p = q + 1 := ⟨p - 1, by omega⟩
  exact pk_m1 q
noncomputable def uk_b (p : Prop) : Nat := @ite Nat p (Classical.propDecidable p) 1 0
theorem uk_b1 {p : Prop} (h : p) : uk_b p = 1 := if_pos h
theorem uk_b0 {p : Prop} (h : ¬ p) : uk_b p = 0 := if_neg h
theorem uk_bi {p q : Prop} (h : p ↔ q) : uk_b p = uk_b q := by rw [propext h]
theorem uk_ble (p : Prop) : uk_b p ≤ 1 := by
  cases Classical.em p with
  | inl h => rw [uk_b1 h]; exact Nat.le_refl 1
  | inr h => rw [uk_b0 h]; exact Nat.zero_le 1
noncomputable def uk_cn (P : Nat → Prop) : Nat → Nat
  | 0 => 0
  | n + 1 => uk_cn P n + uk_b (P n)
theorem uk_cns (P : Nat → Prop) (n : Nat) : uk_cn P (n + 1) = uk_cn P n + uk_b (P n) := rfl
theorem uk_cnt {P : Nat → Prop} {n : Nat} (h : P n) : uk_cn P (n + 1) = uk_cn P n + 1 := by rw [uk_cns, uk_b1 h]
theorem uk_cnf {P : Nat → Prop} {n : Nat} (h : ¬ P n) : uk_cn P (n + 1) = uk_cn P n := by rw [uk_cns, uk_b0 h]; rfl
theorem uk_cnle (P : Nat → Prop) : ∀ n, uk_cn P n ≤ n
  | 0 => Nat.le_refl 0
  | n + 1 => by
    have h := uk_cnle P n
    have h2 := uk_ble (P n)
    rw [uk_cns]; omega
theorem uk_cnmono (P : Nat → Prop) {m : Nat} : ∀ n, m ≤ n → uk_cn P m ≤ uk_cn P n
  | 0, h => by
    have e : m = 0 := by omega
    rw [e]; exact Nat.le_refl _
  | n + 1, h => by
    by_cases e : m = n + 1
    · rw [e]; exact Nat.le_refl _
    · have := uk_cnmono P (m := m) n (by omega)
      rw [uk_cns]; omega
theorem uk_cnc {P Q : Nat → Prop} : ∀ n, (∀ i, i < n → (P i ↔ Q i)) → uk_cn P n = uk_cn Q n
  | 0, _ => rfl
  | n + 1, h => by rw [uk_cns, uk_cns, uk_cnc n (fun i hi => h i (by omega)), uk_bi (h n (by omega))]
theorem uk_cn0 {P : Nat → Prop} : ∀ n, (∀ i, i < n → ¬ P i) → uk_cn P n = 0
  | 0, _ => rfl
  | n + 1, h => by rw [uk_cnf (h n (by omega)), uk_cn0 n (fun i hi => h i (by omega))]
theorem uk_cnp {P : Nat → Prop} {i : Nat} (h : P i) : ∀ n, i < n → 0 < uk_cn P n
  | 0, hi => by omega
  | n + 1, hi => by
    by_cases e : i = n
    · subst e; rw [uk_cnt h]; omega
    · have := uk_cnp h n (by omega)
      rw [uk_cns]; omega
theorem uk_cn0' {P : Nat → Prop} {n : Nat} (h : uk_cn P n = 0) : ∀ i, i < n → ¬ P i := fun i hi hp => by
  have := uk_cnp hp n hi
  omega
theorem uk_cnset {P Q : Nat → Prop} {k : Nat} (hP : ¬ P k) (hQ : Q k) : ∀ n, k < n → (∀ i, i < n → i ≠ k → (P i ↔ Q i)) → uk_cn Q n = uk_cn P n + 1
  | 0, hk, _ => by omega
  | n + 1, hk, h => by
    by_cases e : k = n
    · subst e
      rw [uk_cnt hQ, uk_cnf hP, uk_cnc k (fun i hi => h i (by omega) (by omega))]
    · rw [uk_cns, uk_cns, uk_cnset hP hQ n (by omega) (fun i hi hk => h i (by omega) hk), uk_bi (h n (by omega) (fun z => e z.symm))]
      omega
theorem uk_cnadd (P : Nat → Prop) (a : Nat) : ∀ b, uk_cn P (a + b) = uk_cn P a + uk_cn (fun i => P (a + i)) b
  | 0 => rfl
  | b + 1 => by
    show uk_cn P (a + b + 1) = _
    rw [uk_cns, uk_cnadd P a b, uk_cns]; omega
def uk_sm (g : Nat → Nat) : Nat → Nat
  | 0 => 0
  | n + 1 => uk_sm g n + g n
theorem uk_sms (g : Nat → Nat) (n : Nat) : uk_sm g (n + 1) = uk_sm g n + g n := rfl
theorem uk_smc {g h : Nat → Nat} : ∀ n, (∀ i, i < n → g i = h i) → uk_sm g n = uk_sm h n
  | 0, _ => rfl
  | n + 1, e => by rw [uk_sms, uk_sms, uk_smc n (fun i hi => e i (by omega)), e n (by omega)]
theorem uk_smset {g h : Nat → Nat} {k : Nat} : ∀ n, k < n → (∀ i, i < n → i ≠ k → g i = h i) → uk_sm h n + g k = uk_sm g n + h k
  | 0, hk, _ => by omega
  | n + 1, hk, e => by
    by_cases z : k = n
    · subst z
      rw [uk_sms, uk_sms, uk_smc k (fun i hi => e i (by omega) (by omega))]; omega
    · have h1 := uk_smset (g := g) (h := h) n (by omega : k < n) (fun i hi hk => e i (by omega) hk)
      rw [uk_sms, uk_sms, e n (by omega) (fun y => z y.symm)]; omega
theorem uk_smle {g : Nat → Nat} {i : Nat} : ∀ n, i < n → g i ≤ uk_sm g n
  | 0, hi => by omega
  | n + 1, hi => by
    by_cases e : i = n
    · subst e; rw [uk_sms]; omega
    · have := uk_smle (g := g) n (by omega : i < n)
      rw [uk_sms]; omega
theorem uk_smb {g : Nat → Nat} {m : Nat} : ∀ n, (∀ i, i < n → g i ≤ m) → uk_sm g n ≤ n * m
  | 0, _ => Nat.zero_le _
  | n + 1, e => by
    have h1 := uk_smb (g := g) n (fun i hi => e i (by omega))
    have h2 := e n (by omega)
    rw [uk_sms, Nat.succ_mul]; omega
theorem uk_sm0 {g : Nat → Nat} : ∀ n, (∀ i, i < n → g i = 0) → uk_sm g n = 0
  | 0, _ => rfl
  | n + 1, e => by rw [uk_sms, uk_sm0 n (fun i hi => e i (by omega)), e n (by omega)]
theorem uk_cnmul (P : Nat → Prop) (m : Nat) : ∀ n, uk_cn P (m * n) = uk_sm (fun s => uk_cn (fun d => P (m * s + d)) m) n
  | 0 => rfl
  | n + 1 => by
    rw [uk_sms, ← uk_cnmul P m n, Nat.mul_succ, uk_cnadd]
noncomputable def uk_fg (P : Nat → Prop) : Nat → Nat → Int32
  | 0, _ => -1
  | d + 1, j => @ite Int32 (P j) (Classical.propDecidable (P j)) (nI j) (uk_fg P d (j + 1))
theorem uk_fgt {P : Nat → Prop} {d j : Nat} (h : P j) : uk_fg P (d + 1) j = nI j := if_pos h
theorem uk_fgf {P : Nat → Prop} {d j : Nat} (h : ¬ P j) : uk_fg P (d + 1) j = uk_fg P d (j + 1) := if_neg h
theorem uk_fgc {P Q : Nat → Prop} : ∀ d j, (∀ i, j ≤ i → i < j + d → (P i ↔ Q i)) → uk_fg P d j = uk_fg Q d j
  | 0, _, _ => rfl
  | d + 1, j, h => by
    have ih := uk_fgc (P := P) (Q := Q) d (j + 1) (fun i h1 h2 => h i (by omega) (by omega))
    cases Classical.em (P j) with
    | inl hp => rw [uk_fgt hp, uk_fgt ((h j (by omega) (by omega)).mp hp)]
    | inr hp => rw [uk_fgf hp, uk_fgf (fun q => hp ((h j (by omega) (by omega)).mpr q)), ih]
theorem uk_fgs (P : Nat → Prop) : ∀ d j, (uk_fg P d j = -1 ∧ ∀ i, j ≤ i → i < j + d → ¬ P i) ∨ (∃ i, j ≤ i ∧ i < j + d ∧ uk_fg P d j = nI i ∧ P i ∧ ∀ k, j ≤ k → k < i → ¬ P k)
  | 0, j => Or.inl ⟨rfl, fun i h1 h2 => by omega⟩
  | d + 1, j => by
    cases Classical.em (P j) with
    | inl hp => exact Or.inr ⟨j, by omega, by omega, uk_fgt hp, hp, fun k h1 h2 => by omega⟩
    | inr hp =>
      rw [uk_fgf hp]
      cases uk_fgs P d (j + 1) with
      | inl h =>
        refine Or.inl ⟨h.1, fun i h1 h2 => ?_⟩
        by_cases e : i = j
        · subst e; exact hp
        · exact h.2 i (by omega) (by omega)
      | inr h =>
        obtain ⟨i, h1, h2, h3, h4, h5⟩ := h
        refine Or.inr ⟨i, by omega, by omega, h3, h4, fun k hk1 hk2 => ?_⟩
        by_cases e : k = j
        · subst e; exact hp
        · exact h5 k (by omega) hk2
noncomputable def uk_ff (P : Nat → Prop) (n : Nat) : Int32 := uk_fg P n 0
theorem uk_ffc {P Q : Nat → Prop} (n : Nat) (h : ∀ i, i < n → (P i ↔ Q i)) : uk_ff P n = uk_ff Q n := uk_fgc n 0 (fun i _ h2 => h i (by omega))
theorem uk_ffs (P : Nat → Prop) (n : Nat) : (uk_ff P n = -1 ∧ ∀ i, i < n → ¬ P i) ∨ (∃ i, i < n ∧ uk_ff P n = nI i ∧ P i ∧ ∀ k, k < i → ¬ P k) := by
  cases uk_fgs P n 0 with
  | inl h => exact Or.inl ⟨h.1, fun i hi => h.2 i (by omega) (by omega)⟩
  | inr h =>
    obtain ⟨i, _, h2, h3, h4, h5⟩ := h
    exact Or.inr ⟨i, by omega, h3, h4, fun k hk => h5 k (by omega) hk⟩
theorem uk_firstG (W : Nat → Nat → Prop) (post : Int32 → Prop) (P : Nat → Prop) (N : Nat) (hx : ∀ n, post (-1) → W (n + 1) N) (hs : ∀ n i, i < N → (P i → post (nI i)) → (¬ P i → W n (i + 1)) → W (n + 1) i) : ∀ d j, j + d = N → post (uk_fg P d j) → W (d + 1) j
  | 0, j, hj, h => by
    have e : j = N := by omega
    rw [e]; exact hx 0 h
  | d + 1, j, hj, h => by
    refine hs (d + 1) j (by omega) (fun hp => ?_) (fun hp => ?_)
    · rw [uk_fgt hp] at h; exact h
    · rw [uk_fgf hp] at h; exact uk_firstG W post P N hx hs d (j + 1) (by omega) h
theorem uk_first (W : Nat → Nat → Prop) (post : Int32 → Prop) (P : Nat → Prop) (N : Nat) (h : post (uk_ff P N)) (hx : ∀ n, post (-1) → W (n + 1) N) (hs : ∀ n i, i < N → (P i → post (nI i)) → (¬ P i → W n (i + 1)) → W (n + 1) i) : ∃ n, W n 0 := ⟨N + 1, uk_firstG W post P N hx hs N 0 (by omega) h⟩
theorem uk_countG (W : Nat → Nat → Int32 → Prop) (P : Nat → Prop) (N : Nat) (hx : ∀ n, W (n + 1) N (nI (uk_cn P N))) (hs : ∀ n i c, i < N → (P i → W n (i + 1) (nI (c + 1))) → (¬ P i → W n (i + 1) (nI c)) → W (n + 1) i (nI c)) : ∀ d j, j + d = N → W (d + 1) j (nI (uk_cn P j))
  | 0, j, hj => by
    have e : j = N := by omega
    rw [e]; exact hx 0
  | d + 1, j, hj => by
    have ih := uk_countG W P N hx hs d (j + 1) (by omega)
    refine hs (d + 1) j _ (by omega) (fun hp => ?_) (fun hp => ?_)
    · rw [uk_cnt hp] at ih; exact ih
    · rw [uk_cnf hp] at ih; exact ih
theorem uk_count (W : Nat → Nat → Int32 → Prop) (P : Nat → Prop) (N : Nat) (hx : ∀ n, W (n + 1) N (nI (uk_cn P N))) (hs : ∀ n i c, i < N → (P i → W n (i + 1) (nI (c + 1))) → (¬ P i → W n (i + 1) (nI c)) → W (n + 1) i (nI c)) : ∃ n, W n 0 0 := ⟨N + 1, uk_countG W P N hx hs N 0 (by omega)⟩
theorem uk_anyG (W : Nat → Nat → Prop) (P : Nat → Prop) (N : Nat) (hx : (∀ i, i < N → ¬ P i) → ∀ n, W (n + 1) N) (ht : ∀ n i, i < N → P i → W (n + 1) i) (hf : ∀ n i, i < N → ¬ P i → W n (i + 1) → W (n + 1) i) : ∀ d j, j + d = N → (∀ i, i < j → ¬ P i) → W (d + 1) j
  | 0, j, hj, h => by
    have e : j = N := by omega
    rw [e] at h ⊢; exact hx h 0
  | d + 1, j, hj, h => by
    cases Classical.em (P j) with
    | inl hp => exact ht _ _ (by omega) hp
    | inr hp =>
      refine hf _ _ (by omega) hp (uk_anyG W P N hx ht hf d (j + 1) (by omega) (fun i hi => ?_))
      by_cases e : i = j
      · rw [e]; exact hp
      · exact h i (by omega)
theorem uk_any (W : Nat → Nat → Prop) (P : Nat → Prop) (N : Nat) (hx : (∀ i, i < N → ¬ P i) → ∀ n, W (n + 1) N) (ht : ∀ n i, i < N → P i → W (n + 1) i) (hf : ∀ n i, i < N → ¬ P i → W n (i + 1) → W (n + 1) i) : ∃ n, W n 0 := ⟨N + 1, uk_anyG W P N hx ht hf N 0 (by omega) (fun i hi => by omega)⟩
/-- a loop that goes through its states one by one: the state at i is g i -/
theorem uk_run {σ : Type} (W : Nat → Nat → σ → Prop) (g : Nat → σ) (N : Nat) (hx : ∀ n, W (n + 1) N (g N)) (hs : ∀ n i, i < N → W n (i + 1) (g (i + 1)) → W (n + 1) i (g i)) : ∀ d j, j + d = N → W (d + 1) j (g j)
  | 0, j, hj => by
    have e : j = N := by omega
    rw [e]; exact hx 0
  | d + 1, j, hj => hs _ _ (by omega) (uk_run W g N hx hs d (j + 1) (by omega))
theorem uk_run0 {σ : Type} (W : Nat → Nat → σ → Prop) (g : Nat → σ) (N : Nat) (hx : ∀ n, W (n + 1) N (g N)) (hs : ∀ n i, i < N → W n (i + 1) (g (i + 1)) → W (n + 1) i (g i)) : ∃ n, W n 0 (g 0) := ⟨N + 1, uk_run W g N hx hs N 0 (by omega)⟩
def uk_fl (a : Nat → Int32) (b : Nat) (g : Nat → Int32) (N : Nat) : Nat → Int32 := fun j => if b ≤ j ∧ j < b + N then g (j - b) else a j
theorem uk_fl0 (a : Nat → Int32) (b : Nat) (g : Nat → Int32) : uk_fl a b g 0 = a := by
  funext j
  exact if_neg (by omega)
theorem uk_fls {a : Nat → Int32} {b i : Nat} {g : Nat → Int32} : upd (uk_fl a b g i) (b + i) (g i) = uk_fl a b g (i + 1) := by
  funext j
  by_cases e : j = b + i
  · subst e
    rw [pk_us]
    show _ = if b ≤ b + i ∧ b + i < b + (i + 1) then g (b + i - b) else a (b + i)
    rw [if_pos (by omega), Nat.add_sub_cancel_left]
  · rw [pk_un e]
    show (if b ≤ j ∧ j < b + i then g (j - b) else a j) = (if b ≤ j ∧ j < b + (i + 1) then g (j - b) else a j)
    by_cases h : b ≤ j ∧ j < b + i
    · rw [if_pos h, if_pos (by omega)]
    · rw [if_neg h, if_neg (by omega)]
theorem uk_flin {a : Nat → Int32} {b N : Nat} {g : Nat → Int32} {j : Nat} (h : j < N) : uk_fl a b g N (b + j) = g j := by
  show (if b ≤ b + j ∧ b + j < b + N then g (b + j - b) else a (b + j)) = g j
  rw [if_pos (by omega), Nat.add_sub_cancel_left]
theorem uk_flout {a : Nat → Int32} {b N : Nat} {g : Nat → Int32} {j : Nat} (h : j < b ∨ b + N ≤ j) : uk_fl a b g N j = a j := if_neg (by omega)
theorem uk_uself (a : Nat → Int32) (i : Nat) : upd a i (a i) = a := by
  funext j
  by_cases e : j = i
  · subst e; exact pk_us
  · exact pk_un e
theorem uk_uu (a : Nat → Int32) (i : Nat) (x y : Int32) : upd (upd a i x) i y = upd a i y := by
  funext j
  by_cases e : j = i
  · subst e; rw [pk_us, pk_us]
  · rw [pk_un e, pk_un e, pk_un e]
theorem uk_m3 (s : Nat) : nI s * 3 = nI (3 * s) := (pk_mul s 3).trans (congrArg nI (Nat.mul_comm s 3))
theorem uk_m4 (s : Nat) : nI s * 4 = nI (4 * s) := (pk_mul s 4).trans (congrArg nI (Nat.mul_comm s 4))
theorem uk_m6 (s : Nat) : nI s * 6 = nI (6 * s) := (pk_mul s 6).trans (congrArg nI (Nat.mul_comm s 6))
theorem uk_m8 (s : Nat) : nI s * 8 = nI (8 * s) := (pk_mul s 8).trans (congrArg nI (Nat.mul_comm s 8))
theorem uk_m16 (s : Nat) : nI s * 16 = nI (16 * s) := (pk_mul s 16).trans (congrArg nI (Nat.mul_comm s 16))
theorem uk_m24 (s : Nat) : nI s * 24 = nI (24 * s) := (pk_mul s 24).trans (congrArg nI (Nat.mul_comm s 24))
theorem uk_4m (s : Nat) : 4 * nI s = nI (4 * s) := pk_mul 4 s
theorem uk_6m (s : Nat) : 6 * nI s = nI (6 * s) := pk_mul 6 s
theorem uk_8m (s : Nat) : 8 * nI s = nI (8 * s) := pk_mul 8 s
theorem uk_16m (s : Nat) : 16 * nI s = nI (16 * s) := pk_mul 16 s
theorem uk_24m (s : Nat) : 24 * nI s = nI (24 * s) := pk_mul 24 s
theorem uk_32m (s : Nat) : 32 * nI s = nI (32 * s) := pk_mul 32 s
theorem uk_a1 (s : Nat) : nI s + 1 = nI (s + 1) := nI_1 s
theorem uk_a2 (s : Nat) : nI s + 2 = nI (s + 2) := nI_add s 2
theorem uk_a3 (s : Nat) : nI s + 3 = nI (s + 3) := nI_add s 3
theorem uk_ne1 {n : Nat} (h : n < 2 ^ 31) : ¬ nI n = -1 := fun e => by
  have h1 := nI_pos h
  rw [e] at h1
  exact h1 (by decide)
theorem uk_n10 : (-1 : Int32) < 0 := by decide
theorem uk_inc {x : Int32} {n : Nat} (h : vp_in x n) : x.toNatClampNeg < n := by
  have := (not_or.mp h).2
  omega
theorem uk_ofin {x : Int32} {n : Nat} (h : vp_in x n) : nI x.toNatClampNeg = x := by
  obtain ⟨j, hj, rfl⟩ := nI_of (not_or.mp h).1
  rw [nI_clamp hj]
end
section
/-- an instruction that add takes -/
def uk_val (op a b : Int32) : Prop :=
  (op = 0 ∧ vp_in a 4) ∨ ((op = 1 ∨ op = 2 ∨ op = 3 ∨ op = 4 ∨ op = 5) ∧ vp_in a 4 ∧ vp_in b 4) ∨ (op = 6 ∧ vp_in b 24) ∨ (op = 7 ∧ vp_in a 4 ∧ vp_in b 24) ∨ (op = 8 ∧ vp_in b 19)
/-- the programs: X's code against Y's three tables -/
def uk_Pr (cd ln os oa ob : Nat → Int32) : Prop :=
  (∀ k, k < 144 → os k = cd (3 * k) ∧ ob k = cd (3 * k + 2) ∧ (os k ≠ 6 → os k ≠ 8 → oa k = cd (3 * k + 1))) ∧
  (∀ p, p < 6 → ∃ n, n ≤ 24 ∧ ln p = nI n ∧ ∀ j, j < n → uk_val (cd (3 * (24 * p + j))) (cd (3 * (24 * p + j) + 1)) (cd (3 * (24 * p + j) + 2)))
/-- the processes: pids P, parents Q, programs G, places L, statuses U; X's states, Y's zombie and blocked -/
def uk_Ps (P Q G L U st zo bl : Nat → Int32) : Prop := ∀ s, s < 8 → ¬ P s < 0 ∧ ¬ Q s < 0 ∧ vp_in (G s) 6 ∧ vp_in (L s) 25 ∧ (zo s = 0 ∨ zo s = 1) ∧ (bl s = 0 ∨ bl s = 1) ∧
  (P s ≠ 0 → (zo s = 1 ∧ st s = 3) ∨ (zo s = 0 ∧ U s = 0 ∧ ((bl s = 0 ∧ st s = 1) ∨ (bl s = 1 ∧ st s = 2))))
/-- pages and words: X's pageCounts, pageFrames, frameWords; Y's pages, frame, memory -/
def uk_Me (P zo pc pg pf fr fw me : Nat → Int32) : Prop := ∀ s, s < 8 → P s ≠ 0 → ∃ n, n ≤ 8 ∧ pc s = nI n ∧ pg s = nI n ∧ (zo s = 1 → n = 0) ∧ ∀ p, p < n → vp_in (fr (8 * s + p)) 20 ∧ pf (8 * s + p) = fr (8 * s + p) ∧ ∀ k, k < 4 → fw (4 * (fr (8 * s + p)).toNatClampNeg + k) = me (32 * s + 4 * p + k)
/-- how many pages of slot s have frame f -/
noncomputable def uk_rw (P pg fr : Nat → Int32) (f s : Nat) : Nat := uk_b (P s ≠ 0) * uk_cn (fun p => fr (8 * s + p) = nI f) (pg s).toNatClampNeg
def uk_Fu (P pg fr fu : Nat → Int32) : Prop := ∀ f, f < 20 → fu f = nI (uk_sm (uk_rw P pg fr f) 8)
/-- descriptors and o-files -/
def uk_Hd (P zo H : Nat → Int32) : Prop := ∀ s, s < 8 → P s ≠ 0 → zo s = 0 → ∀ d, d < 6 → H (6 * s + d) = -1 ∨ vp_in (H (6 * s + d)) 12
noncomputable def uk_hw (P zo H : Nat → Int32) (o s : Nat) : Nat := uk_b (P s ≠ 0 ∧ zo s = 0) * uk_cn (fun d => H (6 * s + d) = nI o) 6
def uk_Ho (P zo H oh : Nat → Int32) : Prop := ∀ o, o < 12 → oh o = nI (uk_sm (uk_hw P zo H o) 8)
def uk_Ok (oh ok ki T om mo op : Nat → Int32) : Prop := ∀ o, o < 12 → vp_in (op o) 17 ∧ ((oh o = 0 ∧ ki o = 0) ∨ (oh o ≠ 0 ∧ ok o = ki o ∧ ((ki o = 1 ∧ om o = mo o ∧ mo o &&& 3 ≠ 0 ∧ vp_in (T o) 8) ∨ (ki o = 2 ∧ om o = 1 ∧ vp_in (T o) 4) ∨ (ki o = 3 ∧ om o = 2 ∧ vp_in (T o) 4))))
/-- pipes: X's ring against Y's row -/
def uk_Pi (C pf pw pi : Nat → Int32) : Prop := ∀ q, q < 4 → ∃ c f, c ≤ 4 ∧ f < 4 ∧ C q = nI c ∧ pf q = nI f ∧ ∀ j, j < c → pw (4 * q + (f + j) % 4) = pi (4 * q + j)
/-- files -/
def uk_fre (N ki T : Nat → Int32) (f : Nat) : Prop := (∀ k, k < 8 → N k ≠ nI f) ∧ ∀ o, o < 12 → ¬ (ki o = 1 ∧ T o = nI f)
def uk_Fi (N ki T fs sz : Nat → Int32) : Prop := (∀ k, k < 8 → N k = -1 ∨ vp_in (N k) 8) ∧ ∀ f, f < 8 → vp_in (sz f) 17 ∧ (uk_fre N ki T f → sz f = 0) ∧ (¬ uk_fre N ki T f → fs f = sz f)
def uk_Sa (sn ss sz : Nat → Int32) : Prop := (∀ k, k < 8 → sn k = -1 ∨ vp_in (sn k) 8) ∧ ∀ f, f < 8 → vp_in (sz f) 17 ∧ ((∃ k, k < 8 ∧ sn k = nI f) → ss f = sz f)
/-- what was said: n ints -/
def uk_Sd (n : Nat) (si sd : Nat → Int32) : Prop := ∀ k, k < 16 → k < n → si ((n - 1 - k) % 16) = sd k
/-- whose step it was -/
def uk_Sc (P : Nat → Int32) (ls sl la lp di : Int32) : Prop := vp_in ls 8 ∧ vp_in la 8 ∧ ((∀ s, s < 8 → P s = 0) ∨ (ls = la ∧ (P la.toNatClampNeg = 0 ∨ (P la.toNatClampNeg = lp ∧ sl = di))))
/-- descriptor R0 of slot s is an o-file of kind k -/
def uk_de (R H ki : Nat → Int32) (s : Nat) (k : Int32) : Prop := ∃ d o, d < 6 ∧ o < 12 ∧ R (4 * s) = nI d ∧ H (6 * s + d) = nI o ∧ ki o = k
/-- blocked processes, and when they wake -/
def uk_wk1 (G L ln os ob wt wk R H ki : Nat → Int32) (t s : Nat) : Prop :=
  (L s).toNatClampNeg < (ln (G s).toNatClampNeg).toNatClampNeg ∧ os (24 * (G s).toNatClampNeg + (L s).toNatClampNeg) = 8 ∧
  ((ob (24 * (G s).toNatClampNeg + (L s).toNatClampNeg) = 14 ∧ ∃ w, 0 < w ∧ w ≤ t + 1001 ∧ wt s = nI w ∧ wk s = nI w) ∨
   (wt s = 0 ∧ wk s = -1 ∧ (ob (24 * (G s).toNatClampNeg + (L s).toNatClampNeg) = 2 ∨ (ob (24 * (G s).toNatClampNeg + (L s).toNatClampNeg) = 7 ∧ uk_de R H ki s 2) ∨ (ob (24 * (G s).toNatClampNeg + (L s).toNatClampNeg) = 8 ∧ uk_de R H ki s 3))))
def uk_Wk (P zo bl G L ln os ob wt wk R H ki : Nat → Int32) (t : Nat) : Prop := ∀ s, s < 8 → P s ≠ 0 → zo s = 0 → (bl s = 0 ∧ wt s = 0 ∧ wk s = -1) ∨ (bl s = 1 ∧ uk_wk1 G L ln os ob wt wk R H ki t s)
end
section
/-! how the groups of the relation are kept -/
theorem uk_FuC {P pg fr fu P' pg' fr' : Nat → Int32} (h : uk_Fu P pg fr fu) (e : ∀ f s, f < 20 → s < 8 → uk_rw P' pg' fr' f s = uk_rw P pg fr f s) : uk_Fu P' pg' fr' fu := fun f hf => by
  rw [h f hf, uk_smc 8 (fun s hs => e f s hf hs)]
theorem uk_HoC {P zo H oh P' zo' H' : Nat → Int32} (h : uk_Ho P zo H oh) (e : ∀ o s, o < 12 → s < 8 → uk_hw P' zo' H' o s = uk_hw P zo H o s) : uk_Ho P' zo' H' oh := fun o ho => by
  rw [h o ho, uk_smc 8 (fun s hs => e o s ho hs)]
theorem uk_rw0 {P pg fr : Nat → Int32} {f s : Nat} (h : P s = 0) : uk_rw P pg fr f s = 0 := by
  unfold uk_rw; rw [uk_b0 (fun z => z h), Nat.zero_mul]
theorem uk_rwn {P pg fr : Nat → Int32} {f s n : Nat} (h : P s ≠ 0) (hn : pg s = nI n) (hb : n < 2 ^ 31) : uk_rw P pg fr f s = uk_cn (fun p => fr (8 * s + p) = nI f) n := by
  unfold uk_rw; rw [uk_b1 h, Nat.one_mul, hn, nI_clamp hb]
theorem uk_hw0 {P zo H : Nat → Int32} {o s : Nat} (h : ¬ (P s ≠ 0 ∧ zo s = 0)) : uk_hw P zo H o s = 0 := by
  unfold uk_hw; rw [uk_b0 h, Nat.zero_mul]
theorem uk_hwn {P zo H : Nat → Int32} {o s : Nat} (h : P s ≠ 0) (hz : zo s = 0) : uk_hw P zo H o s = uk_cn (fun d => H (6 * s + d) = nI o) 6 := by
  unfold uk_hw; rw [uk_b1 ⟨h, hz⟩, Nat.one_mul]
theorem uk_hwle (P zo H : Nat → Int32) (o s : Nat) : uk_hw P zo H o s ≤ 6 := by
  unfold uk_hw
  have h1 := uk_ble (P s ≠ 0 ∧ zo s = 0)
  have h2 := uk_cnle (fun d => H (6 * s + d) = nI o) 6
  generalize uk_b (P s ≠ 0 ∧ zo s = 0) = a at *
  generalize uk_cn (fun d => H (6 * s + d) = nI o) 6 = b at *
  have : a * b ≤ 1 * 6 := Nat.mul_le_mul h1 h2
  omega
theorem uk_hsle (P zo H : Nat → Int32) (o : Nat) : uk_sm (uk_hw P zo H o) 8 ≤ 48 := uk_smb 8 (fun s _ => uk_hwle P zo H o s)
theorem uk_rwle {P zo pc pg pf fr fw me : Nat → Int32} (h : uk_Me P zo pc pg pf fr fw me) {s : Nat} (hs : s < 8) (f : Nat) : uk_rw P pg fr f s ≤ 8 := by
  by_cases hp : P s = 0
  · rw [uk_rw0 hp]; omega
  · obtain ⟨n, hn, _, h2, _⟩ := h s hs hp
    rw [uk_rwn hp h2 (by omega)]
    exact Nat.le_trans (uk_cnle _ n) hn
theorem uk_rsle {P zo pc pg pf fr fw me : Nat → Int32} (h : uk_Me P zo pc pg pf fr fw me) (f : Nat) : uk_sm (uk_rw P pg fr f) 8 ≤ 64 := uk_smb 8 (fun s hs => uk_rwle h hs f)
-- a slot is no more
theorem uk_P0_Ps {P Q G L U st zo bl : Nat → Int32} (z : Nat) (h : uk_Ps P Q G L U st zo bl) : uk_Ps (upd P z 0) Q G L U st zo bl := fun s hs => by
  obtain ⟨h1, h2, h3, h4, h5, h6, h7⟩ := h s hs
  by_cases e : s = z
  · subst e
    rw [pk_us]
    exact ⟨by decide, h2, h3, h4, h5, h6, fun c => absurd rfl c⟩
  · rw [pk_un e]
    exact ⟨h1, h2, h3, h4, h5, h6, h7⟩
theorem uk_P0n {P : Nat → Int32} {z s : Nat} (h : upd P z 0 s ≠ 0) : s ≠ z ∧ P s ≠ 0 := by
  by_cases e : s = z
  · subst e; rw [pk_us] at h; exact absurd rfl h
  · rw [pk_un e] at h; exact ⟨e, h⟩
theorem uk_P0_Me {P zo pc pg pf fr fw me : Nat → Int32} (z : Nat) (h : uk_Me P zo pc pg pf fr fw me) : uk_Me (upd P z 0) zo pc pg pf fr fw me := fun s hs hp => h s hs (uk_P0n hp).2
theorem uk_P0_Hd {P zo H : Nat → Int32} (z : Nat) (h : uk_Hd P zo H) : uk_Hd (upd P z 0) zo H := fun s hs hp => h s hs (uk_P0n hp).2
theorem uk_P0_Wk {P zo bl G L ln os ob wt wk R H ki : Nat → Int32} {t : Nat} (z : Nat) (h : uk_Wk P zo bl G L ln os ob wt wk R H ki t) : uk_Wk (upd P z 0) zo bl G L ln os ob wt wk R H ki t := fun s hs hp => h s hs (uk_P0n hp).2
theorem uk_P0_Sc {P : Nat → Int32} {ls sl la lp di : Int32} (z : Nat) (h : uk_Sc P ls sl la lp di) : uk_Sc (upd P z 0) ls sl la lp di := by
  obtain ⟨h1, h2, h3⟩ := h
  refine ⟨h1, h2, ?_⟩
  cases h3 with
  | inl h =>
    refine Or.inl (fun s hs => ?_)
    by_cases e : s = z
    · subst e; exact pk_us
    · rw [pk_un e]; exact h s hs
  | inr h =>
    refine Or.inr ⟨h.1, ?_⟩
    by_cases e : la.toNatClampNeg = z
    · subst e; exact Or.inl pk_us
    · rw [pk_un e]; exact h.2
theorem uk_P0_Fu {P pg fr fu : Nat → Int32} (z : Nat) (h : uk_Fu P pg fr fu) (hz : P z ≠ 0 → pg z = 0) : uk_Fu (upd P z 0) pg fr fu := uk_FuC h (fun f s hf hs => by
  by_cases e : s = z
  · subst e
    rw [uk_rw0 pk_us]
    by_cases hp : P s = 0
    · rw [uk_rw0 hp]
    · rw [uk_rwn (n := 0) hp (hz hp) (by decide)]; rfl
  · unfold uk_rw; rw [pk_un e])
theorem uk_P0_Ho {P zo H oh : Nat → Int32} (z : Nat) (h : uk_Ho P zo H oh) (hz : ∀ o, o < 12 → uk_hw P zo H o z = 0) : uk_Ho (upd P z 0) zo H oh := uk_HoC h (fun o s ho hs => by
  by_cases e : s = z
  · subst e
    rw [uk_hw0 (fun c => c.1 pk_us), hz o ho]
  · unfold uk_hw; rw [pk_un e])
-- blocked processes
theorem uk_wk1C {G L ln os ob wt wk R H ki G' L' wt' wk' R' H' ki' : Nat → Int32} {t t' s : Nat} (ht : t ≤ t') (eG : G' s = G s) (eL : L' s = L s) (ew : wt' s = wt s) (ek : wk' s = wk s) (eR : R' (4 * s) = R (4 * s)) (eH : ∀ d, d < 6 → H' (6 * s + d) = H (6 * s + d)) (eki : ∀ d o, d < 6 → o < 12 → H (6 * s + d) = nI o → (ki o = 2 ∨ ki o = 3) → ki' o = ki o) (h : uk_wk1 G L ln os ob wt wk R H ki t s) : uk_wk1 G' L' ln os ob wt' wk' R' H' ki' t' s := by
  unfold uk_wk1 at *
  rw [eG, eL, ew, ek]
  obtain ⟨h1, h2, h3⟩ := h
  refine ⟨h1, h2, ?_⟩
  cases h3 with
  | inl h =>
    obtain ⟨h4, w, hw, hw2, h5⟩ := h
    exact Or.inl ⟨h4, w, hw, by omega, h5⟩
  | inr h =>
    obtain ⟨h4, h5, h6⟩ := h
    refine Or.inr ⟨h4, h5, ?_⟩
    rcases h6 with h6 | ⟨h6, d, o, hd, ho, e1, e2, e3⟩ | ⟨h6, d, o, hd, ho, e1, e2, e3⟩
    · exact Or.inl h6
    · exact Or.inr (Or.inl ⟨h6, d, o, hd, ho, by rw [eR, e1], by rw [eH d hd, e2], by rw [eki d o hd ho e2 (Or.inl e3), e3]⟩)
    · exact Or.inr (Or.inr ⟨h6, d, o, hd, ho, by rw [eR, e1], by rw [eH d hd, e2], by rw [eki d o hd ho e2 (Or.inr e3), e3]⟩)
theorem uk_WkC {P zo bl G L ln os ob wt wk R H ki P' zo' bl' G' L' wt' wk' R' H' ki' : Nat → Int32} {t t' : Nat} (ht : t ≤ t') (h : uk_Wk P zo bl G L ln os ob wt wk R H ki t) (e : ∀ s, s < 8 → P' s ≠ 0 → zo' s = 0 → (bl' s = 0 ∧ wt' s = 0 ∧ wk' s = -1) ∨ (P s ≠ 0 ∧ zo s = 0 ∧ bl' s = bl s ∧ G' s = G s ∧ L' s = L s ∧ wt' s = wt s ∧ wk' s = wk s ∧ R' (4 * s) = R (4 * s) ∧ (∀ d, d < 6 → H' (6 * s + d) = H (6 * s + d)) ∧ (∀ d o, d < 6 → o < 12 → H (6 * s + d) = nI o → (ki o = 2 ∨ ki o = 3) → ki' o = ki o))) : uk_Wk P' zo' bl' G' L' ln os ob wt' wk' R' H' ki' t' := fun s hs hp hz => by
  rcases e s hs hp hz with h0 | ⟨e1, e2, e3, e4, e5, e6, e7, e8, e9, e10⟩
  · exact Or.inl h0
  · rcases h s hs e1 e2 with ⟨a, b, c⟩ | ⟨a, b⟩
    · exact Or.inl ⟨e3.trans a, e6.trans b, e7.trans c⟩
    · exact Or.inr ⟨e3.trans a, uk_wk1C ht e4 e5 e6 e7 e8 e9 e10 b⟩
-- X's counts of frames
def uk_dec (fu pf : Nat → Int32) (b : Nat) : Nat → Nat → Int32
  | 0 => fu
  | p + 1 => upd (uk_dec fu pf b p) (pf (b + p)).toNatClampNeg (uk_dec fu pf b p (pf (b + p)).toNatClampNeg - 1)
def uk_icc (fu pf : Nat → Int32) (b : Nat) : Nat → Nat → Int32
  | 0 => fu
  | p + 1 => upd (uk_icc fu pf b p) (pf (b + p)).toNatClampNeg (uk_icc fu pf b p (pf (b + p)).toNatClampNeg + 1)
theorem uk_dec_val {fu pf : Nat → Int32} {b : Nat} {T : Nat → Nat} (hT : ∀ f, f < 20 → fu f = nI (T f)) : ∀ p, (∀ j, j < p → vp_in (pf (b + j)) 20) → (∀ f, f < 20 → uk_cn (fun j => pf (b + j) = nI f) p ≤ T f) → ∀ f, f < 20 → uk_dec fu pf b p f = nI (T f - uk_cn (fun j => pf (b + j) = nI f) p)
  | 0, _, _, f, hf => hT f hf
  | p + 1, hi, hc, f, hf => by
    have ih := uk_dec_val hT p (fun j hj => hi j (by omega)) (fun f hf => Nat.le_trans (uk_cnmono _ _ (by omega)) (hc f hf))
    show upd (uk_dec fu pf b p) (pf (b + p)).toNatClampNeg (uk_dec fu pf b p (pf (b + p)).toNatClampNeg - 1) f = _
    have hv := hi p (by omega)
    have hlt := uk_inc hv
    have hof := uk_ofin hv
    by_cases e : f = (pf (b + p)).toNatClampNeg
    · have hq : pf (b + p) = nI f := by rw [e]; exact hof.symm
      have h1 := hc f hf
      rw [uk_cnt (P := fun j => pf (b + j) = nI f) hq] at h1 ⊢
      rw [← e, pk_us, ih f hf]
      have e1 : nI (T f - uk_cn (fun j => pf (b + j) = nI f) p) - nI 1 = nI (T f - uk_cn (fun j => pf (b + j) = nI f) p - 1) := pk_sub (by omega)
      exact e1.trans (congrArg nI (by omega))
    · have hq : ¬ pf (b + p) = nI f := fun z => e (by rw [z, nI_clamp (by omega)])
      rw [uk_cnf (P := fun j => pf (b + j) = nI f) hq, pk_un e, ih f hf]
theorem uk_icc_val {fu pf : Nat → Int32} {b : Nat} {T : Nat → Nat} (hT : ∀ f, f < 20 → fu f = nI (T f)) : ∀ p, (∀ j, j < p → vp_in (pf (b + j)) 20) → ∀ f, f < 20 → uk_icc fu pf b p f = nI (T f + uk_cn (fun j => pf (b + j) = nI f) p)
  | 0, _, f, hf => hT f hf
  | p + 1, hi, f, hf => by
    have ih := uk_icc_val hT p (fun j hj => hi j (by omega))
    show upd (uk_icc fu pf b p) (pf (b + p)).toNatClampNeg (uk_icc fu pf b p (pf (b + p)).toNatClampNeg + 1) f = _
    have hv := hi p (by omega)
    have hof := uk_ofin hv
    by_cases e : f = (pf (b + p)).toNatClampNeg
    · have hq : pf (b + p) = nI f := by rw [e]; exact hof.symm
      rw [uk_cnt (P := fun j => pf (b + j) = nI f) hq, ← e, pk_us, ih f hf, nI_1]
      rfl
    · have hq : ¬ pf (b + p) = nI f := fun z => e (by rw [z, nI_clamp (by omega)])
      rw [uk_cnf (P := fun j => pf (b + j) = nI f) hq, pk_un e, ih f hf]
-- the pages of a process go
theorem uk_drop_Me {P zo pc pg pf fr fw me : Nat → Int32} (s : Nat) (h : uk_Me P zo pc pg pf fr fw me) : uk_Me P zo (upd pc s 0) (upd pg s 0) pf fr fw me := fun s' hs' hp => by
  by_cases e : s' = s
  · subst e
    exact ⟨0, by omega, pk_us, pk_us, fun _ => rfl, fun p hp => by omega⟩
  · rw [pk_un e, pk_un e]; exact h s' hs' hp
theorem uk_pf_fr {P zo pc pg pf fr fw me : Nat → Int32} (h : uk_Me P zo pc pg pf fr fw me) {s n : Nat} (hs : s < 8) (hp : P s ≠ 0) (hn : pg s = nI n) (hb : n < 2 ^ 31) : n ≤ 8 ∧ pc s = nI n ∧ ∀ p, p < n → vp_in (fr (8 * s + p)) 20 ∧ pf (8 * s + p) = fr (8 * s + p) := by
  obtain ⟨m, h1, h2, h3, _, h5⟩ := h s hs hp
  have e : m = n := (nI_eq (by omega) hb).mp (h3.symm.trans hn)
  subst e
  exact ⟨h1, h2, fun p hp => ⟨(h5 p hp).1, (h5 p hp).2.1⟩⟩
theorem uk_drop_Fu {P zo pc pg pf fr fw me fu : Nat → Int32} {s n : Nat} (hm : uk_Me P zo pc pg pf fr fw me) (h : uk_Fu P pg fr fu) (hs : s < 8) (hp : P s ≠ 0) (hn : pg s = nI n) (hb : n < 2 ^ 31) : uk_Fu P (upd pg s 0) fr (uk_dec fu pf (8 * s) n) := fun f hf => by
  obtain ⟨h8, _, hq⟩ := uk_pf_fr hm hs hp hn hb
  have hc : ∀ f, uk_cn (fun j => pf (8 * s + j) = nI f) n = uk_rw P pg fr f s := fun f => by
    rw [uk_rwn hp hn hb]
    exact uk_cnc n (fun i hi => by rw [(hq i hi).2])
  rw [uk_dec_val h n (fun j hj => by rw [(hq j hj).2]; exact (hq j hj).1) (fun f hf => by rw [hc f]; exact uk_smle 8 hs) f hf, hc f]
  have h1 := uk_smset (g := uk_rw P pg fr f) (h := uk_rw P (upd pg s 0) fr f) 8 hs (fun i hi hk => by unfold uk_rw; rw [pk_un hk])
  have h2 : uk_rw P (upd pg s 0) fr f s = 0 := by rw [uk_rwn (n := 0) hp (show upd pg s 0 s = nI 0 from pk_us) (by decide)]; rfl
  exact congrArg nI (by omega)
-- a process has ended: its descriptors are free, its pages gone
theorem uk_end_Ps {P Q G L U st zo bl : Nat → Int32} {s : Nat} (x z : Int32) (h : uk_Ps P Q G L U st zo bl) (hz : z = 0 ∨ z = 1) (hP : P s ≠ 0 → z = 1) : uk_Ps P Q G L (upd U s x) (upd st s 3) (upd zo s z) (upd bl s 0) := fun s' hs => by
  obtain ⟨h1, h2, h3, h4, h5, h6, h7⟩ := h s' hs
  by_cases e : s' = s
  · subst e
    rw [pk_us, pk_us, pk_us, pk_us]
    exact ⟨h1, h2, h3, h4, hz, Or.inl rfl, fun c => Or.inl ⟨hP c, rfl⟩⟩
  · rw [pk_un e, pk_un e, pk_un e, pk_un e]
    exact ⟨h1, h2, h3, h4, h5, h6, h7⟩
theorem uk_end_Me {P zo pc pg pf fr fw me : Nat → Int32} {s : Nat} (z : Int32) (h : uk_Me P zo pc pg pf fr fw me) (hp : pg s = 0) : uk_Me P (upd zo s z) pc pg pf fr fw me := fun s' hs' hP => by
  obtain ⟨n, h1, h2, h3, h4, h5⟩ := h s' hs' hP
  by_cases e : s' = s
  · subst e
    have e0 : n = 0 := (nI_eq (by omega) (by decide)).mp (h3.symm.trans hp)
    exact ⟨n, h1, h2, h3, fun _ => e0, h5⟩
  · rw [pk_un e]; exact ⟨n, h1, h2, h3, h4, h5⟩
theorem uk_end_Hd {P zo H : Nat → Int32} {s : Nat} (z : Int32) (h : uk_Hd P zo H) (hz : P s ≠ 0 → z = 1) : uk_Hd P (upd zo s z) H := fun s' hs' hP hz' => by
  by_cases e : s' = s
  · subst e; rw [pk_us] at hz'; rw [hz hP] at hz'; exact absurd hz' (by decide)
  · rw [pk_un e] at hz'; exact h s' hs' hP hz'
theorem uk_end_Ho {P zo H oh : Nat → Int32} {s : Nat} (z : Int32) (h : uk_Ho P zo H oh) (hH : ∀ d, d < 6 → H (6 * s + d) = -1) : uk_Ho P (upd zo s z) H oh := uk_HoC h (fun o s' ho hs' => by
  by_cases e : s' = s
  · subst e
    have h0 : uk_cn (fun d => H (6 * s' + d) = nI o) 6 = 0 := uk_cn0 6 (fun d hd z => uk_ne1 (n := o) (by omega) (z.symm.trans (hH d hd)))
    unfold uk_hw
    rw [h0, Nat.mul_zero, Nat.mul_zero]
  · unfold uk_hw; rw [pk_un e])
theorem uk_end_Wk {P zo bl G L ln os ob wt wk R H ki : Nat → Int32} {t s : Nat} (z : Int32) (hz : P s ≠ 0 → z = 1) (h : uk_Wk P zo bl G L ln os ob wt wk R H ki t) : uk_Wk P (upd zo s z) (upd bl s 0) G L ln os ob wt wk R H ki t := uk_WkC (Nat.le_refl t) h (fun s' hs' hP hz' => by
  by_cases e : s' = s
  · subst e; rw [pk_us] at hz'; rw [hz hP] at hz'; exact absurd hz' (by decide)
  · rw [pk_un e] at hz' ⊢
    exact Or.inr ⟨hP, hz', rfl, rfl, rfl, rfl, rfl, rfl, fun _ _ => rfl, fun _ _ _ _ _ _ => rfl⟩)
end
section
/-! descriptors: one goes, one comes -/
theorem uk_hwo {P zo H : Nat → Int32} {o s d s' : Nat} {x : Int32} (hd : d < 6) (e : s' ≠ s) : uk_hw P zo (upd H (6 * s + d) x) o s' = uk_hw P zo H o s' := by
  unfold uk_hw
  rw [uk_cnc (P := fun d' => upd H (6 * s + d) x (6 * s' + d') = nI o) (Q := fun d' => H (6 * s' + d') = nI o) 6 (fun i hi => by rw [pk_un (by omega)])]
theorem uk_hws {P zo H : Nat → Int32} {o s d : Nat} {x : Int32} (hs : s < 8) (hd : d < 6) (h1 : H (6 * s + d) ≠ nI o) (h2 : x ≠ nI o) : uk_sm (uk_hw P zo (upd H (6 * s + d) x) o) 8 = uk_sm (uk_hw P zo H o) 8 := uk_smc 8 (fun s' hs' => by
  by_cases e : s' = s
  · subst e
    unfold uk_hw
    rw [uk_cnc (P := fun d' => upd H (6 * s' + d) x (6 * s' + d') = nI o) (Q := fun d' => H (6 * s' + d') = nI o) 6 (fun i hi => ?_)]
    by_cases e2 : i = d
    · subst e2; rw [pk_us]; exact ⟨fun z => absurd z h2, fun z => absurd z h1⟩
    · rw [pk_un (by omega)]
  · exact uk_hwo hd e)
theorem uk_hwa {P zo H : Nat → Int32} {o s d : Nat} (hs : s < 8) (hp : P s ≠ 0) (hz : zo s = 0) (hd : d < 6) (h1 : H (6 * s + d) ≠ nI o) : uk_sm (uk_hw P zo (upd H (6 * s + d) (nI o)) o) 8 = uk_sm (uk_hw P zo H o) 8 + 1 := by
  have h := uk_smset (g := uk_hw P zo H o) (h := uk_hw P zo (upd H (6 * s + d) (nI o)) o) 8 hs (fun i _ e => (uk_hwo hd e).symm)
  have e1 : uk_hw P zo (upd H (6 * s + d) (nI o)) o s = uk_hw P zo H o s + 1 := by
    rw [uk_hwn hp hz, uk_hwn hp hz]
    exact uk_cnset (P := fun d' => H (6 * s + d') = nI o) (Q := fun d' => upd H (6 * s + d) (nI o) (6 * s + d') = nI o) h1 pk_us 6 hd (fun i _ e => by rw [pk_un (by omega)])
  omega
theorem uk_hwd {P zo H : Nat → Int32} {o s d : Nat} {x : Int32} (hs : s < 8) (hp : P s ≠ 0) (hz : zo s = 0) (hd : d < 6) (h1 : H (6 * s + d) = nI o) (h2 : x ≠ nI o) : uk_sm (uk_hw P zo H o) 8 = uk_sm (uk_hw P zo (upd H (6 * s + d) x) o) 8 + 1 := by
  have h := uk_hwa (P := P) (zo := zo) (H := upd H (6 * s + d) x) (o := o) hs hp hz hd (by rw [pk_us]; exact h2)
  rw [uk_uu] at h
  have e : upd H (6 * s + d) (nI o) = H := by rw [← h1]; exact uk_uself H (6 * s + d)
  rw [e] at h
  exact h
theorem uk_hwp {P zo H : Nat → Int32} {o s d : Nat} (hs : s < 8) (hp : P s ≠ 0) (hz : zo s = 0) (hd : d < 6) (h1 : H (6 * s + d) = nI o) : 0 < uk_sm (uk_hw P zo H o) 8 := by
  have h := uk_smle (g := uk_hw P zo H o) 8 hs
  rw [uk_hwn hp hz] at h
  have := uk_cnp (P := fun d' => H (6 * s + d') = nI o) h1 6 hd
  omega
theorem uk_ohn {P zo H oh : Nat → Int32} (h : uk_Ho P zo H oh) {o : Nat} (ho : o < 12) : oh o = 0 ↔ uk_sm (uk_hw P zo H o) 8 = 0 := by
  have h1 := uk_hsle P zo H o
  rw [h o ho]
  exact nI_eq (b := 0) (by omega) (by decide)
theorem uk_nIe {a b : Nat} (ha : a < 12) (hb : b < 12) (e : a ≠ b) : nI a ≠ nI b := fun z => e ((nI_eq (by omega) (by omega)).mp z)
theorem uk_HdU {P zo H : Nat → Int32} {s d : Nat} {x : Int32} (h : uk_Hd P zo H) (hx : x = -1 ∨ vp_in x 12) : uk_Hd P zo (upd H (6 * s + d) x) := fun s' hs' hp hz d' hd' => by
  by_cases e : 6 * s' + d' = 6 * s + d
  · rw [e, pk_us]; exact hx
  · rw [pk_un e]; exact h s' hs' hp hz d' hd'
/-- one descriptor goes: X's counts -/
theorem uk_cl_Ho {P zo H oh : Nat → Int32} {o s d : Nat} (h : uk_Ho P zo H oh) (hs : s < 8) (hp : P s ≠ 0) (hz : zo s = 0) (hd : d < 6) (ho : o < 12) (h1 : H (6 * s + d) = nI o) : uk_Ho P zo (upd H (6 * s + d) (-1)) (upd oh o (oh o - 1)) := fun o' ho' => by
  by_cases e : o' = o
  · subst e
    have h2 := uk_hwd (P := P) (zo := zo) (x := -1) hs hp hz hd h1 (fun z => uk_ne1 (n := o') (by omega) z.symm)
    rw [pk_us, h o' ho', h2]
    exact (pk_sub (b := 1) (by omega)).trans (congrArg nI (by omega))
  · rw [pk_un e, h o' ho', uk_hws hs hd (by rw [h1]; exact uk_nIe ho ho' (fun z => e z.symm)) (fun z => uk_ne1 (n := o') (by omega) z.symm)]
theorem uk_OkC {oh ok ki T om mo op oh' : Nat → Int32} (h : uk_Ok oh ok ki T om mo op) (e : ∀ o, o < 12 → (oh' o = 0 ↔ oh o = 0)) : uk_Ok oh' ok ki T om mo op := fun o ho => by
  obtain ⟨h1, h2⟩ := h o ho
  refine ⟨h1, ?_⟩
  rcases h2 with ⟨a, b⟩ | ⟨a, b⟩
  · exact Or.inl ⟨(e o ho).mpr a, b⟩
  · exact Or.inr ⟨fun z => a ((e o ho).mp z), b⟩
theorem uk_cl_Ok1 {P zo H oh ok ki T om mo op : Nat → Int32} {o s d : Nat} (h : uk_Ok oh ok ki T om mo op) (hh : uk_Ho P zo H oh) (hs : s < 8) (hp : P s ≠ 0) (hz : zo s = 0) (hd : d < 6) (ho : o < 12) (h1 : H (6 * s + d) = nI o) (hn : uk_sm (uk_hw P zo (upd H (6 * s + d) (-1)) o) 8 ≠ 0) : uk_Ok (upd oh o (oh o - 1)) ok ki T om mo op := uk_OkC h (fun o' ho' => by
  by_cases e : o' = o
  · subst e
    have hc := uk_cl_Ho hh hs hp hz hd ho h1
    have h3 := (uk_ohn hc ho)
    have h4 := (uk_ohn hh ho)
    have h5 := uk_hwp hs hp hz hd h1
    exact ⟨fun z => absurd (h3.mp z) hn, fun z => absurd (h4.mp z) (by omega)⟩
  · rw [pk_un e])
theorem uk_cl_Ok0 {P zo H oh ok ki T om mo op : Nat → Int32} {o s d : Nat} (h : uk_Ok oh ok ki T om mo op) (hh : uk_Ho P zo H oh) (hs : s < 8) (hp : P s ≠ 0) (hz : zo s = 0) (hd : d < 6) (ho : o < 12) (h1 : H (6 * s + d) = nI o) (hn : uk_sm (uk_hw P zo (upd H (6 * s + d) (-1)) o) 8 = 0) : uk_Ok (upd oh o (oh o - 1)) ok (upd ki o 0) T om mo op := fun o' ho' => by
  obtain ⟨h2, h3⟩ := h o' ho'
  refine ⟨h2, ?_⟩
  by_cases e : o' = o
  · subst e
    have hc := uk_cl_Ho hh hs hp hz hd ho h1
    exact Or.inl ⟨(uk_ohn hc ho).mpr hn, pk_us⟩
  · rw [pk_un e, pk_un e]; exact h3
theorem uk_freC {N ki T ki' T' : Nat → Int32} {f : Nat} (e : ∀ o, o < 12 → ((ki' o = 1 ∧ T' o = nI f) ↔ (ki o = 1 ∧ T o = nI f))) : uk_fre N ki' T' f ↔ uk_fre N ki T f :=
  ⟨fun h => ⟨h.1, fun o ho z => h.2 o ho ((e o ho).mpr z)⟩, fun h => ⟨h.1, fun o ho z => h.2 o ho ((e o ho).mp z)⟩⟩
theorem uk_FiC {N ki T fs sz ki' T' : Nat → Int32} (h : uk_Fi N ki T fs sz) (e : ∀ f, f < 8 → (uk_fre N ki' T' f ↔ uk_fre N ki T f)) : uk_Fi N ki' T' fs sz := ⟨h.1, fun f hf => by
  obtain ⟨h1, h2, h3⟩ := h.2 f hf
  exact ⟨h1, fun z => h2 ((e f hf).mp z), fun z => h3 (fun y => z ((e f hf).mpr y))⟩⟩
/-- the kind of o goes, it was no file -/
theorem uk_cl_Fi1 {N ki T fs sz : Nat → Int32} {o : Nat} (h : uk_Fi N ki T fs sz) (hk : ki o ≠ 1) : uk_Fi N (upd ki o 0) T fs sz := uk_FiC h (fun f _ => uk_freC (fun o' _ => by
  by_cases e : o' = o
  · subst e; rw [pk_us]; exact ⟨fun z => absurd z.1 (by decide), fun z => absurd z.1 hk⟩
  · rw [pk_un e]))
theorem uk_cl_fre {N ki T : Nat → Int32} {o f g : Nat} (hT : T o = nI g) (hg : g < 8) (hf : f < 8) (e : f ≠ g) : uk_fre N (upd ki o 0) T f ↔ uk_fre N ki T f := uk_freC (fun o' _ => by
  by_cases e2 : o' = o
  · subst e2
    rw [pk_us, hT]
    exact ⟨fun z => absurd z.1 (by decide), fun z => absurd ((nI_eq (by omega) (by omega)).mp z.2) (fun y => e y.symm)⟩
  · rw [pk_un e2])
theorem uk_cl_Fi2 {N ki T fs sz : Nat → Int32} {o g : Nat} (h : uk_Fi N ki T fs sz) (hg : g < 8) (hT : T o = nI g) (hn : ¬ uk_fre N (upd ki o 0) T g) (ho : o < 12) (hk : ki o = 1) : uk_Fi N (upd ki o 0) T fs sz := ⟨h.1, fun f hf => by
  obtain ⟨h1, h2, h3⟩ := h.2 f hf
  by_cases e : f = g
  · subst e
    exact ⟨h1, fun z => absurd z hn, fun _ => h3 (fun z => z.2 o ho ⟨hk, hT⟩)⟩
  · have := uk_cl_fre (N := N) (ki := ki) hT hg hf e
    exact ⟨h1, fun z => h2 (this.mp z), fun z => h3 (fun y => z (this.mpr y))⟩⟩
theorem uk_cl_Fi3 {N ki T fs sz : Nat → Int32} {o g : Nat} (h : uk_Fi N ki T fs sz) (hg : g < 8) (hT : T o = nI g) (hn : uk_fre N (upd ki o 0) T g) : uk_Fi N (upd ki o 0) T fs (upd sz g 0) := ⟨h.1, fun f hf => by
  obtain ⟨h1, h2, h3⟩ := h.2 f hf
  by_cases e : f = g
  · subst e
    rw [pk_us]
    exact ⟨vp_in_nI (n := 0) (by omega) (by omega), fun _ => rfl, fun z => absurd hn z⟩
  · have := uk_cl_fre (N := N) (ki := ki) hT hg hf e
    rw [pk_un e]
    exact ⟨h1, fun z => h2 (this.mp z), fun z => h3 (fun y => z (this.mpr y))⟩⟩
/-- blocked ones don't see that another one's descriptor went -/
theorem uk_cl_Wk {P zo zo1 bl G L ln os ob wt wk R H ki ki' : Nat → Int32} {t o s d : Nat} (h : uk_Wk P zo1 bl G L ln os ob wt wk R H ki t) (hd : d < 6) (hzo : ∀ s', s' < 8 → s' ≠ s → zo1 s' = 0 → zo s' = 0) (hs1 : zo1 s = 0 → bl s = 0 ∧ wt s = 0 ∧ wk s = -1) (hk : ∀ o', o' ≠ o → ki' o' = ki o') (hn : uk_sm (uk_hw P zo (upd H (6 * s + d) (-1)) o) 8 = 0 ∨ ki' o = ki o) : uk_Wk P zo1 bl G L ln os ob wt wk R (upd H (6 * s + d) (-1)) ki' t := uk_WkC (Nat.le_refl t) h (fun s' hs' hP hz' => by
  by_cases e : s' = s
  · subst e; exact Or.inl (hs1 hz')
  · refine Or.inr ⟨hP, hz', rfl, rfl, rfl, rfl, rfl, rfl, fun d' hd' => pk_un (by omega), fun d' o' hd' ho' h1 _ => ?_⟩
    by_cases e2 : o' = o
    · subst e2
      rcases hn with hn | hn
      · have h2 : upd H (6 * s + d) (-1) (6 * s' + d') = nI o' := by rw [pk_un (by omega)]; exact h1
        have := uk_hwp hs' hP (hzo s' hs' e hz') hd' h2
        omega
      · exact hn
    · exact hk o' e2)
/-- one descriptor more of an o-file -/
theorem uk_du_Ho {P zo H oh : Nat → Int32} {o s d : Nat} (h : uk_Ho P zo H oh) (hs : s < 8) (hp : P s ≠ 0) (hz : zo s = 0) (hd : d < 6) (ho : o < 12) (h1 : H (6 * s + d) = -1) : uk_Ho P zo (upd H (6 * s + d) (nI o)) (upd oh o (oh o + 1)) := fun o' ho' => by
  by_cases e : o' = o
  · subst e
    rw [pk_us, h o' ho', uk_hwa hs hp hz hd (by rw [h1]; exact fun z => uk_ne1 (n := o') (by omega) z.symm), nI_1]
  · rw [pk_un e, h o' ho', uk_hws hs hd (by rw [h1]; exact fun z => uk_ne1 (n := o') (by omega) z.symm) (uk_nIe ho ho' (fun z => e z.symm))]
theorem uk_du_Ok {P zo H oh ok ki T om mo op : Nat → Int32} {o s d : Nat} (h : uk_Ok oh ok ki T om mo op) (hh : uk_Ho P zo H oh) (hs : s < 8) (hp : P s ≠ 0) (hz : zo s = 0) (hd : d < 6) (ho : o < 12) (h1 : H (6 * s + d) = -1) (hn : oh o ≠ 0) : uk_Ok (upd oh o (oh o + 1)) ok ki T om mo op := uk_OkC h (fun o' ho' => by
  by_cases e : o' = o
  · subst e
    have hc := uk_du_Ho hh hs hp hz hd ho h1
    have h3 := uk_ohn hc ho
    have h5 := uk_hwp (P := P) (zo := zo) (H := upd H (6 * s + d) (nI o')) hs hp hz hd pk_us
    exact ⟨fun z => absurd (h3.mp z) (by omega), fun z => absurd z hn⟩
  · rw [pk_un e])
theorem uk_du_Wk {P zo bl G L ln os ob wt wk R H ki ki' : Nat → Int32} {t s d : Nat} {x : Int32} (h : uk_Wk P zo bl G L ln os ob wt wk R H ki t) (hd : d < 6) (hs1 : bl s = 0 ∧ wt s = 0 ∧ wk s = -1) (hk : ∀ o, o < 12 → (ki o = 2 ∨ ki o = 3) → ki' o = ki o) : uk_Wk P zo bl G L ln os ob wt wk R (upd H (6 * s + d) x) ki' t := uk_WkC (Nat.le_refl t) h (fun s' hs' hP hz' => by
  by_cases e : s' = s
  · subst e; exact Or.inl hs1
  · exact Or.inr ⟨hP, hz', rfl, rfl, rfl, rfl, rfl, rfl, fun d' hd' => pk_un (by omega), fun d' o' hd' ho' h1 h2 => hk o' ho' h2⟩)
/-- a new o-file -/
theorem uk_nw_Ho {P zo H oh : Nat → Int32} {o s d : Nat} (h : uk_Ho P zo H oh) (hs : s < 8) (hp : P s ≠ 0) (hz : zo s = 0) (hd : d < 6) (ho : o < 12) (h1 : H (6 * s + d) = -1) (h0 : oh o = 0) : uk_Ho P zo (upd H (6 * s + d) (nI o)) (upd oh o 1) := by
  have h2 := uk_du_Ho h hs hp hz hd ho h1
  rw [h0] at h2
  exact h2
theorem uk_nw_Ok {oh ok ki T om mo op : Nat → Int32} {o : Nat} {k tg xm ym : Int32} (h : uk_Ok oh ok ki T om mo op) (hv : (k = 1 ∧ xm = ym ∧ ym &&& 3 ≠ 0 ∧ vp_in tg 8) ∨ (k = 2 ∧ xm = 1 ∧ vp_in tg 4) ∨ (k = 3 ∧ xm = 2 ∧ vp_in tg 4)) : uk_Ok (upd oh o 1) (upd ok o k) (upd ki o k) (upd T o tg) (upd om o xm) (upd mo o ym) (upd op o 0) := fun o' ho' => by
  obtain ⟨h2, h3⟩ := h o' ho'
  by_cases e : o' = o
  · subst e
    rw [pk_us, pk_us, pk_us, pk_us, pk_us, pk_us, pk_us]
    exact ⟨vp_in_nI (n := 0) (by omega) (by omega), Or.inr ⟨by decide, rfl, hv⟩⟩
  · rw [pk_un e, pk_un e, pk_un e, pk_un e, pk_un e, pk_un e, pk_un e]; exact ⟨h2, h3⟩
theorem uk_nw_Fi1 {N ki T fs sz : Nat → Int32} {o : Nat} {k tg : Int32} (h : uk_Fi N ki T fs sz) (h0 : ki o ≠ 1) (hk : k ≠ 1) : uk_Fi N (upd ki o k) (upd T o tg) fs sz := uk_FiC h (fun f _ => uk_freC (fun o' _ => by
  by_cases e : o' = o
  · subst e; rw [pk_us, pk_us]; exact ⟨fun z => absurd z.1 hk, fun z => absurd z.1 h0⟩
  · rw [pk_un e, pk_un e]))
theorem uk_nw_Fi2 {N ki T fs sz : Nat → Int32} {o g : Nat} (h : uk_Fi N ki T fs sz) (ho : o < 12) (h0 : ki o ≠ 1) (hg : g < 8) (hfs : fs g = sz g) : uk_Fi N (upd ki o 1) (upd T o (nI g)) fs sz := ⟨h.1, fun f hf => by
  obtain ⟨h1, h2, h3⟩ := h.2 f hf
  by_cases e : f = g
  · subst e
    exact ⟨h1, fun z => absurd ⟨pk_us, pk_us⟩ (z.2 o ho), fun _ => hfs⟩
  · have : uk_fre N (upd ki o 1) (upd T o (nI g)) f ↔ uk_fre N ki T f := uk_freC (fun o' _ => by
      by_cases e2 : o' = o
      · subst e2
        rw [pk_us, pk_us]
        exact ⟨fun z => absurd ((nI_eq (by omega) (by omega)).mp z.2) (fun y => e y.symm), fun z => absurd z.1 h0⟩
      · rw [pk_un e2, pk_un e2])
    exact ⟨h1, fun z => h2 (this.mp z), fun z => h3 (fun y => z (this.mpr y))⟩⟩
end
section
/-! pages and frames -/
theorem uk_fr0 {P pg fr : Nat → Int32} {f s p n : Nat} (h : uk_sm (uk_rw P pg fr f) 8 = 0) (hs : s < 8) (hP : P s ≠ 0) (hn : pg s = nI n) (hb : n < 2 ^ 31) (hp : p < n) : fr (8 * s + p) ≠ nI f := fun z => by
  have h1 := uk_smle (g := uk_rw P pg fr f) 8 hs
  rw [uk_rwn hP hn hb] at h1
  have h2 := uk_cnp (P := fun p => fr (8 * s + p) = nI f) z n hp
  omega
theorem uk_cn2 {P : Nat → Prop} {i j : Nat} (hi : P i) (hj : P j) (hij : i < j) : ∀ n, j < n → 2 ≤ uk_cn P n
  | 0, h => by omega
  | n + 1, h => by
    by_cases e : j = n
    · subst e
      have := uk_cnp hi j hij
      rw [uk_cnt hj]; omega
    · have := uk_cn2 hi hj hij n (by omega)
      rw [uk_cns]; omega
theorem uk_sm2 {g : Nat → Nat} {i j : Nat} (hi : 0 < g i) (hj : 0 < g j) (hij : i < j) : ∀ n, j < n → 2 ≤ uk_sm g n
  | 0, h => by omega
  | n + 1, h => by
    by_cases e : j = n
    · subst e
      have := uk_smle (g := g) j hij
      rw [uk_sms]; omega
    · have := uk_sm2 hi hj hij n (by omega)
      rw [uk_sms]; omega
theorem uk_fr1 {P pg fr : Nat → Int32} {f s p n s' p' n' : Nat} (h : uk_sm (uk_rw P pg fr f) 8 = 1) (hs : s < 8) (hP : P s ≠ 0) (hn : pg s = nI n) (hb : n < 2 ^ 31) (hp : p < n) (e : fr (8 * s + p) = nI f) (hs' : s' < 8) (hP' : P s' ≠ 0) (hn' : pg s' = nI n') (hb' : n' < 2 ^ 31) (hp' : p' < n') (e' : fr (8 * s' + p') = nI f) : s' = s ∧ p' = p := by
  have r1 : 0 < uk_rw P pg fr f s := by
    rw [uk_rwn hP hn hb]; exact uk_cnp (P := fun p => fr (8 * s + p) = nI f) e n hp
  have r2 : 0 < uk_rw P pg fr f s' := by
    rw [uk_rwn hP' hn' hb']; exact uk_cnp (P := fun p => fr (8 * s' + p) = nI f) e' n' hp'
  by_cases e1 : s' = s
  · subst e1
    refine ⟨rfl, ?_⟩
    have en : n' = n := (nI_eq hb' hb).mp (hn'.symm.trans hn)
    subst en
    have h1 := uk_smle (g := uk_rw P pg fr f) 8 hs
    rw [uk_rwn hP hn hb, h] at h1
    by_cases l1 : p' < p
    · have := uk_cn2 (P := fun p => fr (8 * s' + p) = nI f) e' e l1 n' hp
      omega
    · by_cases l2 : p < p'
      · have := uk_cn2 (P := fun p => fr (8 * s' + p) = nI f) e e' l2 n' hp'
        omega
      · omega
  · by_cases l1 : s' < s
    · have := uk_sm2 (g := uk_rw P pg fr f) r2 r1 l1 8 hs
      omega
    · have := uk_sm2 (g := uk_rw P pg fr f) r1 r2 (by omega) 8 hs'
      omega
theorem uk_fun {P zo pc pg pf fr fw me fu : Nat → Int32} (hm : uk_Me P zo pc pg pf fr fw me) (h : uk_Fu P pg fr fu) {f : Nat} (hf : f < 20) : (fu f = 0 ↔ uk_sm (uk_rw P pg fr f) 8 = 0) ∧ (fu f = 1 ↔ uk_sm (uk_rw P pg fr f) 8 = 1) := by
  have h1 := uk_rsle hm f
  rw [h f hf]
  exact ⟨nI_eq (b := 0) (by omega) (by decide), nI_eq (b := 1) (by omega) (by decide)⟩
theorem uk_rwo {P pg fr : Nat → Int32} {f s s' p : Nat} {x : Int32} {m : Int32} (hm : P s' ≠ 0 → (pg s').toNatClampNeg ≤ 8) (hp : p < 8) (e : s' ≠ s) : uk_rw P (upd pg s m) (upd fr (8 * s + p) x) f s' = uk_rw P pg fr f s' := by
  unfold uk_rw
  rw [pk_un e]
  by_cases hP : P s' = 0
  · rw [uk_b0 (fun z => z hP), Nat.zero_mul, Nat.zero_mul]
  · rw [uk_cnc (P := fun p' => upd fr (8 * s + p) x (8 * s' + p') = nI f) (Q := fun p' => fr (8 * s' + p') = nI f) _ (fun i hi => by rw [pk_un (by have := hm hP; omega)])]
/-- one page more, of zeros, in a free frame -/
theorem uk_ad_Me {P zo pc pg pf fr fw me : Nat → Int32} {s n f : Nat} (h : uk_Me P zo pc pg pf fr fw me) (hs : s < 8) (hz : zo s = 0) (hn : pg s = nI n) (hn8 : n < 8) (hf : f < 20) (h0 : uk_sm (uk_rw P pg fr f) 8 = 0) : uk_Me P zo (upd pc s (nI (n + 1))) (upd pg s (nI (n + 1))) (upd pf (8 * s + n) (nI f)) (upd fr (8 * s + n) (nI f)) (uk_fl fw (4 * f) (fun _ => 0) 4) (uk_fl me (32 * s + 4 * n) (fun _ => 0) 4) := fun s' hs' hP => by
  obtain ⟨m, h1, h2, h3, h4, h5⟩ := h s' hs' hP
  by_cases e : s' = s
  · subst e
    have em : m = n := (nI_eq (by omega) (by omega)).mp (h3.symm.trans hn)
    subst em
    refine ⟨m + 1, by omega, pk_us, pk_us, fun z => absurd (hz.symm.trans z) (by decide), fun p hp => ?_⟩
    by_cases ep : p = m
    · subst ep
      rw [pk_us, pk_us, nI_clamp (by omega)]
      refine ⟨vp_in_nI hf (by omega), rfl, fun k hk => ?_⟩
      rw [uk_flin hk, uk_flin hk]
    · rw [pk_un (by omega), pk_un (by omega)]
      obtain ⟨g1, g2, g3⟩ := h5 p (by omega)
      refine ⟨g1, g2, fun k hk => ?_⟩
      have hne := uk_fr0 h0 hs' hP h3 (by omega) (show p < m by omega)
      have hne2 : (fr (8 * s' + p)).toNatClampNeg ≠ f := fun z => hne (by rw [← z]; exact (uk_ofin g1).symm)
      rw [uk_flout (by omega), uk_flout (by omega), g3 k hk]
  · refine ⟨m, h1, by rw [pk_un e]; exact h2, by rw [pk_un e]; exact h3, h4, fun p hp => ?_⟩
    rw [pk_un (by omega), pk_un (by omega)]
    obtain ⟨g1, g2, g3⟩ := h5 p hp
    refine ⟨g1, g2, fun k hk => ?_⟩
    have hne := uk_fr0 h0 hs' hP h3 (by omega) hp
    have hne2 : (fr (8 * s' + p)).toNatClampNeg ≠ f := fun z => hne (by rw [← z]; exact (uk_ofin g1).symm)
    rw [uk_flout (by omega), uk_flout (by omega), g3 k hk]
theorem uk_pg8 {P zo pc pg pf fr fw me : Nat → Int32} (h : uk_Me P zo pc pg pf fr fw me) {s : Nat} (hs : s < 8) (hP : P s ≠ 0) : (pg s).toNatClampNeg ≤ 8 := by
  obtain ⟨m, h1, _, h3, _⟩ := h s hs hP
  rw [h3, nI_clamp (by omega)]; exact h1
theorem uk_ad_Fu {P zo pc pg pf fr fw me fu : Nat → Int32} {s n f : Nat} (hm : uk_Me P zo pc pg pf fr fw me) (h : uk_Fu P pg fr fu) (hs : s < 8) (hP : P s ≠ 0) (hn : pg s = nI n) (hn8 : n < 8) (hf : f < 20) (h0 : uk_sm (uk_rw P pg fr f) 8 = 0) : uk_Fu P (upd pg s (nI (n + 1))) (upd fr (8 * s + n) (nI f)) (upd fu f 1) := fun f' hf' => by
  have h1 := uk_smset (g := uk_rw P pg fr f') (h := uk_rw P (upd pg s (nI (n + 1))) (upd fr (8 * s + n) (nI f)) f') 8 hs (fun i hi e => (uk_rwo (fun hp => uk_pg8 hm hi hp) hn8 e).symm)
  have h2 : uk_rw P (upd pg s (nI (n + 1))) (upd fr (8 * s + n) (nI f)) f' s = uk_rw P pg fr f' s + uk_b (f = f') := by
    rw [uk_rwn (n := n + 1) hP pk_us (by omega), uk_rwn hP hn (by omega), uk_cns]
    rw [uk_cnc (P := fun p => upd fr (8 * s + n) (nI f) (8 * s + p) = nI f') (Q := fun p => fr (8 * s + p) = nI f') n (fun i hi => by rw [pk_un (by omega)])]
    congr 1
    exact uk_bi (by rw [pk_us]; exact nI_eq (by omega) (by omega))
  by_cases e : f' = f
  · subst e
    rw [pk_us]
    rw [uk_b1 rfl] at h2
    exact (show (1 : Int32) = nI 1 from rfl).trans (congrArg nI (by omega))
  · rw [pk_un e, h f' hf']
    rw [uk_b0 (fun z => e z.symm)] at h2
    exact congrArg nI (by omega)
/-- a shared page gets a frame of its own -/
theorem uk_ow_Me {P zo pc pg pf fr fw me : Nat → Int32} {s n p f f0 : Nat} (h : uk_Me P zo pc pg pf fr fw me) (hs : s < 8) (hn : pg s = nI n) (hb : n < 2 ^ 31) (hp : p < n) (hf0 : fr (8 * s + p) = nI f0) (hf0' : f0 < 20) (hf : f < 20) (h0 : uk_sm (uk_rw P pg fr f) 8 = 0) : uk_Me P zo pc pg (upd pf (8 * s + p) (nI f)) (upd fr (8 * s + p) (nI f)) (uk_fl fw (4 * f) (fun k => fw (4 * f0 + k)) 4) me := fun s' hs' hP => by
  obtain ⟨m, h1, h2, h3, h4, h5⟩ := h s' hs' hP
  refine ⟨m, h1, h2, h3, h4, fun p' hp' => ?_⟩
  obtain ⟨g1, g2, g3⟩ := h5 p' hp'
  have hne := uk_fr0 h0 hs' hP h3 (by omega) hp'
  have hne2 : (fr (8 * s' + p')).toNatClampNeg ≠ f := fun z => hne (by rw [← z]; exact (uk_ofin g1).symm)
  by_cases e : 8 * s' + p' = 8 * s + p
  · rw [e, pk_us, pk_us, nI_clamp (by omega)]
    refine ⟨vp_in_nI hf (by omega), rfl, fun k hk => ?_⟩
    rw [uk_flin hk]
    have g4 := g3 k hk
    rw [e, hf0, nI_clamp (by omega)] at g4
    exact g4
  · rw [pk_un e, pk_un e]
    refine ⟨g1, g2, fun k hk => ?_⟩
    rw [uk_flout (by omega), g3 k hk]
theorem uk_ow_Fu {P zo pc pg pf fr fw me fu : Nat → Int32} {s n p f f0 : Nat} (hm : uk_Me P zo pc pg pf fr fw me) (h : uk_Fu P pg fr fu) (hs : s < 8) (hP : P s ≠ 0) (hn : pg s = nI n) (hn8 : n ≤ 8) (hp : p < n) (hf0 : fr (8 * s + p) = nI f0) (hf0' : f0 < 20) (hf : f < 20) (h0 : uk_sm (uk_rw P pg fr f) 8 = 0) : uk_Fu P pg (upd fr (8 * s + p) (nI f)) (upd (upd fu f0 (fu f0 - 1)) f 1) := fun f' hf' => by
  have eu : upd pg s (pg s) = pg := uk_uself pg s
  have h1 := uk_smset (g := uk_rw P pg fr f') (h := uk_rw P pg (upd fr (8 * s + p) (nI f)) f') 8 hs (fun i hi e => by
    have := uk_rwo (f := f') (x := nI f) (m := pg s) (fr := fr) (fun hp => uk_pg8 hm hi hp) (show p < 8 by omega) e
    rw [eu] at this
    exact this.symm)
  have hff : f ≠ f0 := fun z => uk_fr0 h0 hs hP hn (by omega) hp (by rw [hf0, z])
  rw [uk_rwn hP hn (by omega), uk_rwn hP hn (by omega)] at h1
  by_cases e : f' = f
  · subst e
    rw [pk_us]
    have h2 := uk_cnset (P := fun q => fr (8 * s + q) = nI f') (Q := fun q => upd fr (8 * s + p) (nI f') (8 * s + q) = nI f') (k := p) (by show ¬ fr (8 * s + p) = nI f'; rw [hf0]; exact fun z => hff ((nI_eq (by omega) (by omega)).mp z).symm) pk_us n hp (fun i _ e => by rw [pk_un (by omega)])
    exact (show (1 : Int32) = nI 1 from rfl).trans (congrArg nI (by omega))
  · rw [pk_un e]
    by_cases e2 : f' = f0
    · subst e2
      have h2 := uk_cnset (P := fun q => upd fr (8 * s + p) (nI f) (8 * s + q) = nI f') (Q := fun q => fr (8 * s + q) = nI f') (k := p) (by show ¬ upd fr (8 * s + p) (nI f) (8 * s + p) = nI f'; rw [pk_us]; exact fun z => e ((nI_eq (by omega) (by omega)).mp z).symm) hf0 n hp (fun i _ e => by rw [pk_un (by omega)])
      have h3 := uk_smle (g := uk_rw P pg fr f') 8 hs
      rw [uk_rwn hP hn (by omega)] at h3
      rw [pk_us, h f' hf']
      exact (pk_sub (b := 1) (by omega)).trans (congrArg nI (by omega))
    · rw [pk_un e2, h f' hf']
      have h2 := uk_cnc (P := fun q => upd fr (8 * s + p) (nI f) (8 * s + q) = nI f') (Q := fun q => fr (8 * s + q) = nI f') n (fun i _ => by
        by_cases e3 : i = p
        · subst e3; rw [pk_us, hf0]; exact ⟨fun z => absurd ((nI_eq (by omega) (by omega)).mp z).symm e, fun z => absurd ((nI_eq (by omega) (by omega)).mp z).symm e2⟩
        · rw [pk_un (by omega)])
      exact congrArg nI (by omega)
/-- a word of a page that nobody shares -/
theorem uk_wr_Me {P zo pc pg pf fr fw me : Nat → Int32} {s n p f k : Nat} (v : Int32) (h : uk_Me P zo pc pg pf fr fw me) (hs : s < 8) (hP : P s ≠ 0) (hn : pg s = nI n) (hb : n ≤ 8) (hp : p < n) (hf : fr (8 * s + p) = nI f) (hf' : f < 20) (h1 : uk_sm (uk_rw P pg fr f) 8 = 1) (hk : k < 4) : uk_Me P zo pc pg pf fr (upd fw (4 * f + k) v) (upd me (32 * s + 4 * p + k) v) := fun s' hs' hP' => by
  obtain ⟨m, g1, g2, g3, g4, g5⟩ := h s' hs' hP'
  refine ⟨m, g1, g2, g3, g4, fun p' hp' => ?_⟩
  obtain ⟨a1, a2, a3⟩ := g5 p' hp'
  refine ⟨a1, a2, fun k' hk' => ?_⟩
  by_cases e : s' = s ∧ p' = p
  · obtain ⟨rfl, rfl⟩ := e
    rw [hf, nI_clamp (by omega)]
    by_cases ek : k' = k
    · subst ek; rw [pk_us, pk_us]
    · rw [pk_un (by omega), pk_un (by omega)]
      have := a3 k' hk'
      rw [hf, nI_clamp (by omega)] at this
      exact this
  · have hne : (fr (8 * s' + p')).toNatClampNeg ≠ f := fun z => e (uk_fr1 h1 hs hP hn (by omega) hp hf hs' hP' g3 (by omega) hp' (by rw [← z]; exact (uk_ofin a1).symm))
    rw [pk_un (by omega), pk_un (by omega), a3 k' hk']
/-! a forked process -/
theorem uk_fk_Ps {P Q G L U st zo bl : Nat → Int32} {s c : Nat} {x : Int32} (h : uk_Ps P Q G L U st zo bl) (hs : s < 8) (hx : ¬ x < 0) : uk_Ps (upd P c x) (upd Q c (P s)) (upd G c (G s)) (upd L c (L s)) (upd U c 0) (upd st c 1) (upd zo c 0) (upd bl c 0) := fun s' hs' => by
  obtain ⟨h1, h2, h3, h4, h5, h6, h7⟩ := h s' hs'
  obtain ⟨g1, g2, g3, g4, g5, g6, g7⟩ := h s hs
  by_cases e : s' = c
  · subst e
    rw [pk_us, pk_us, pk_us, pk_us, pk_us, pk_us, pk_us, pk_us]
    exact ⟨hx, g1, g3, g4, Or.inl rfl, Or.inl rfl, fun _ => Or.inr ⟨rfl, rfl, Or.inl ⟨rfl, rfl⟩⟩⟩
  · rw [pk_un e, pk_un e, pk_un e, pk_un e, pk_un e, pk_un e, pk_un e, pk_un e]
    exact ⟨h1, h2, h3, h4, h5, h6, h7⟩
theorem uk_fk_Me {P zo pc pg pf fr fw me : Nat → Int32} {s c n : Nat} {x : Int32} (h : uk_Me P zo pc pg pf fr fw me) (hs : s < 8) (hP : P s ≠ 0) (hc : P c = 0) (hn : pg s = nI n) (hn8 : n ≤ 8) : uk_Me (upd P c x) (upd zo c 0) (upd pc c (nI n)) (upd pg c (nI n)) (uk_fl pf (8 * c) (fun p => pf (8 * s + p)) n) (uk_fl fr (8 * c) (fun p => fr (8 * s + p)) 8) fw (uk_fl me (32 * c) (fun k => me (32 * s + k)) 32) := fun s' hs' hP' => by
  by_cases e : s' = c
  · subst e
    obtain ⟨m, h1, h2, h3, h4, h5⟩ := h s hs hP
    have em : m = n := (nI_eq (by omega) (by omega)).mp (h3.symm.trans hn)
    subst em
    refine ⟨m, h1, pk_us, pk_us, fun z => ?_, fun p hp => ?_⟩
    · rw [pk_us] at z; exact absurd z (by decide)
    · rw [uk_flin hp, uk_flin (show p < 8 by omega)]
      obtain ⟨g1, g2, g3⟩ := h5 p hp
      refine ⟨g1, g2, fun k hk => ?_⟩
      rw [g3 k hk, Nat.add_assoc (32 * s') (4 * p) k, uk_flin (show 4 * p + k < 32 by omega), Nat.add_assoc]
  · rw [pk_un e] at hP'
    obtain ⟨m, h1, h2, h3, h4, h5⟩ := h s' hs' hP'
    rw [pk_un e, pk_un e, pk_un e]
    refine ⟨m, h1, h2, h3, h4, fun p hp => ?_⟩
    obtain ⟨g1, g2, g3⟩ := h5 p hp
    rw [uk_flout (by omega), uk_flout (by omega)]
    refine ⟨g1, g2, fun k hk => ?_⟩
    rw [uk_flout (by omega), g3 k hk]
theorem uk_fk_Fu {P zo pc pg pf fr fw me fu : Nat → Int32} {s c n : Nat} {x : Int32} (hm : uk_Me P zo pc pg pf fr fw me) (h : uk_Fu P pg fr fu) (hs : s < 8) (hc8 : c < 8) (hP : P s ≠ 0) (hc : P c = 0) (hx : x ≠ 0) (hn : pg s = nI n) (hn8 : n ≤ 8) : uk_Fu (upd P c x) (upd pg c (nI n)) (uk_fl fr (8 * c) (fun p => fr (8 * s + p)) 8) (uk_icc fu pf (8 * s) n) := fun f hf => by
  obtain ⟨_, _, hq⟩ := uk_pf_fr hm hs hP hn (by omega)
  rw [uk_icc_val h n (fun j hj => by rw [(hq j hj).2]; exact (hq j hj).1) f hf]
  have h1 := uk_smset (g := uk_rw P pg fr f) (h := uk_rw (upd P c x) (upd pg c (nI n)) (uk_fl fr (8 * c) (fun p => fr (8 * s + p)) 8) f) 8 hc8 (fun i hi e => by
    unfold uk_rw
    rw [pk_un e, pk_un e]
    by_cases hPi : P i = 0
    · rw [uk_b0 (fun z => z hPi), Nat.zero_mul, Nat.zero_mul]
    · have h8 := uk_pg8 hm hi hPi
      rw [uk_cnc (P := fun p => uk_fl fr (8 * c) (fun p => fr (8 * s + p)) 8 (8 * i + p) = nI f) (Q := fun p => fr (8 * i + p) = nI f) _ (fun j hj => by rw [uk_flout (by omega)])])
  have h2 : uk_rw (upd P c x) (upd pg c (nI n)) (uk_fl fr (8 * c) (fun p => fr (8 * s + p)) 8) f c = uk_cn (fun j => pf (8 * s + j) = nI f) n := by
    rw [uk_rwn (n := n) (by rw [pk_us]; exact hx) pk_us (by omega)]
    exact uk_cnc n (fun i hi => by rw [uk_flin (show i < 8 by omega), (hq i hi).2])
  rw [uk_rw0 hc] at h1
  exact congrArg nI (by omega)
def uk_hic (oh H : Nat → Int32) (b : Nat) : Nat → Nat → Int32
  | 0 => oh
  | d + 1 => if H (b + d) = -1 then uk_hic oh H b d else upd (uk_hic oh H b d) (H (b + d)).toNatClampNeg (uk_hic oh H b d (H (b + d)).toNatClampNeg + 1)
theorem uk_hic_val {oh H : Nat → Int32} {b : Nat} {T : Nat → Nat} (hT : ∀ o, o < 12 → oh o = nI (T o)) : ∀ d, (∀ j, j < d → H (b + j) = -1 ∨ vp_in (H (b + j)) 12) → ∀ o, o < 12 → uk_hic oh H b d o = nI (T o + uk_cn (fun j => H (b + j) = nI o) d)
  | 0, _, o, ho => hT o ho
  | d + 1, hi, o, ho => by
    have ih := uk_hic_val hT d (fun j hj => hi j (by omega))
    show (if H (b + d) = -1 then uk_hic oh H b d else upd (uk_hic oh H b d) (H (b + d)).toNatClampNeg (uk_hic oh H b d (H (b + d)).toNatClampNeg + 1)) o = _
    by_cases e1 : H (b + d) = -1
    · rw [if_pos e1, uk_cnf (P := fun j => H (b + j) = nI o) (by show ¬ H (b + d) = nI o; rw [e1]; exact fun z => uk_ne1 (n := o) (by omega) z.symm)]
      exact ih o ho
    · rw [if_neg e1]
      have hv := (hi d (by omega)).resolve_left e1
      have hof := uk_ofin hv
      by_cases e : o = (H (b + d)).toNatClampNeg
      · have hq : H (b + d) = nI o := by rw [e]; exact hof.symm
        rw [uk_cnt (P := fun j => H (b + j) = nI o) hq, ← e, pk_us, ih o ho, nI_1]
        rfl
      · have hq : ¬ H (b + d) = nI o := fun z => e (by rw [z, nI_clamp (by omega)])
        rw [uk_cnf (P := fun j => H (b + j) = nI o) hq, pk_un e, ih o ho]
theorem uk_fk_Hd {P zo H : Nat → Int32} {s c : Nat} {x : Int32} (h : uk_Hd P zo H) (hs : s < 8) (hP : P s ≠ 0) (hz : zo s = 0) : uk_Hd (upd P c x) (upd zo c 0) (uk_fl H (6 * c) (fun d => H (6 * s + d)) 6) := fun s' hs' hP' hz' d hd => by
  by_cases e : s' = c
  · subst e; rw [uk_flin hd]; exact h s hs hP hz d hd
  · rw [pk_un e] at hP' hz'
    rw [uk_flout (by omega)]; exact h s' hs' hP' hz' d hd
theorem uk_fk_Ho {P zo H oh : Nat → Int32} {s c : Nat} {x : Int32} (hh : uk_Hd P zo H) (h : uk_Ho P zo H oh) (hs : s < 8) (hc8 : c < 8) (hP : P s ≠ 0) (hz : zo s = 0) (hc : P c = 0) (hx : x ≠ 0) : uk_Ho (upd P c x) (upd zo c 0) (uk_fl H (6 * c) (fun d => H (6 * s + d)) 6) (uk_hic oh H (6 * s) 6) := fun o ho => by
  rw [uk_hic_val h 6 (fun j hj => hh s hs hP hz j hj) o ho]
  have h1 := uk_smset (g := uk_hw P zo H o) (h := uk_hw (upd P c x) (upd zo c 0) (uk_fl H (6 * c) (fun d => H (6 * s + d)) 6) o) 8 hc8 (fun i hi e => by
    unfold uk_hw
    rw [pk_un e, pk_un e, uk_cnc (P := fun p => uk_fl H (6 * c) (fun d => H (6 * s + d)) 6 (6 * i + p) = nI o) (Q := fun p => H (6 * i + p) = nI o) 6 (fun j hj => by rw [uk_flout (by omega)])])
  have h2 : uk_hw (upd P c x) (upd zo c 0) (uk_fl H (6 * c) (fun d => H (6 * s + d)) 6) o c = uk_cn (fun j => H (6 * s + j) = nI o) 6 := by
    rw [uk_hwn (by rw [pk_us]; exact hx) pk_us]
    exact uk_cnc 6 (fun i hi => by rw [uk_flin hi])
  rw [uk_hw0 (fun z => z.1 hc)] at h1
  exact congrArg nI (by omega)
theorem uk_fk_Ok {P zo H oh ok ki T om mo op : Nat → Int32} {s : Nat} (hh : uk_Hd P zo H) (h : uk_Ho P zo H oh) (hO : uk_Ok oh ok ki T om mo op) (hs : s < 8) (hP : P s ≠ 0) (hz : zo s = 0) : uk_Ok (uk_hic oh H (6 * s) 6) ok ki T om mo op := uk_OkC hO (fun o ho => by
  have h1 := uk_hsle P zo H o
  have h2 := uk_cnle (fun j => H (6 * s + j) = nI o) 6
  have h3 := uk_smle (g := uk_hw P zo H o) 8 hs
  rw [uk_hwn hP hz] at h3
  rw [uk_hic_val h 6 (fun j hj => hh s hs hP hz j hj) o ho, h o ho]
  rw [show ((0 : Int32)) = nI 0 from rfl, nI_eq (by omega) (by omega), nI_eq (by omega) (by omega)]
  omega)
theorem uk_fk_Wk {P zo bl G L ln os ob wt wk R H ki R' : Nat → Int32} {t s c : Nat} {x : Int32} (h : uk_Wk P zo bl G L ln os ob wt wk R H ki t) (hR : ∀ s', s' < 8 → s' ≠ c → R' (4 * s') = R (4 * s')) : uk_Wk (upd P c x) (upd zo c 0) (upd bl c 0) (upd G c (G s)) (upd L c (L s)) ln os ob (upd wt c 0) (upd wk c (-1)) R' (uk_fl H (6 * c) (fun d => H (6 * s + d)) 6) ki t := uk_WkC (Nat.le_refl t) h (fun s' hs' hP hz' => by
  by_cases e : s' = c
  · subst e; exact Or.inl ⟨pk_us, pk_us, pk_us⟩
  · rw [pk_un e] at hP hz'
    rw [pk_un e, pk_un e, pk_un e, pk_un e, pk_un e]
    exact Or.inr ⟨hP, hz', rfl, rfl, rfl, rfl, rfl, hR s' hs' e, fun d hd => uk_flout (by omega), fun _ _ _ _ _ _ => rfl⟩)
end
section
/-! pipes -/
theorem uk_pi_rd {C pf pw pi : Nat → Int32} {q c f : Nat} (h : uk_Pi C pf pw pi) (hq : q < 4) (hC : C q = nI (c + 1)) (hf : pf q = nI f) (hc4 : c < 4) (hf4 : f < 4) : pw (4 * q + f) = pi (4 * q) ∧ uk_Pi (upd C q (nI c)) (upd pf q (nI ((f + 1) % 4))) pw (uk_fl pi (4 * q) (fun k => pi (4 * q + k + 1)) c) := by
  obtain ⟨c', f', h1, h2, h3, h4, h5⟩ := h q hq
  have e1 : c' = c + 1 := (nI_eq (by omega) (by omega)).mp (h3.symm.trans hC)
  have e2 : f' = f := (nI_eq (by omega) (by omega)).mp (h4.symm.trans hf)
  subst e1 e2
  constructor
  · have := h5 0 (by omega)
    rw [show (f' + 0) % 4 = f' from by omega] at this
    exact this
  · intro q' hq'
    by_cases e : q' = q
    · subst e
      refine ⟨c, (f' + 1) % 4, by omega, by omega, pk_us, pk_us, fun j hj => ?_⟩
      rw [uk_flin hj]
      have := h5 (j + 1) (by omega)
      rw [show ((f' + 1) % 4 + j) % 4 = (f' + (j + 1)) % 4 from by omega]
      exact this
    · obtain ⟨c2, f2, g1, g2, g3, g4, g5⟩ := h q' hq'
      refine ⟨c2, f2, g1, g2, by rw [pk_un e]; exact g3, by rw [pk_un e]; exact g4, fun j hj => ?_⟩
      rw [uk_flout (by omega)]; exact g5 j hj
theorem uk_pi_wr {C pf pw pi : Nat → Int32} {q c f : Nat} (v : Int32) (h : uk_Pi C pf pw pi) (hq : q < 4) (hC : C q = nI c) (hf : pf q = nI f) (hc4 : c < 4) (hf4 : f < 4) : uk_Pi (upd C q (nI (c + 1))) pf (upd pw (4 * q + (f + c) % 4) v) (upd pi (4 * q + c) v) := by
  intro q' hq'
  obtain ⟨c2, f2, g1, g2, g3, g4, g5⟩ := h q' hq'
  by_cases e : q' = q
  · subst e
    have e1 : c2 = c := (nI_eq (by omega) (by omega)).mp (g3.symm.trans hC)
    have e2 : f2 = f := (nI_eq (by omega) (by omega)).mp (g4.symm.trans hf)
    subst e1 e2
    refine ⟨c2 + 1, f2, by omega, g2, pk_us, g4, fun j hj => ?_⟩
    by_cases ej : j = c2
    · subst ej; rw [pk_us, pk_us]
    · rw [pk_un (by omega), pk_un (by omega)]; exact g5 j (by omega)
  · refine ⟨c2, f2, g1, g2, by rw [pk_un e]; exact g3, g4, fun j hj => ?_⟩
    rw [pk_un (by omega), pk_un (by omega)]; exact g5 j hj
theorem uk_pi_nw {C pf pw pi : Nat → Int32} (q : Nat) (h : uk_Pi C pf pw pi) : uk_Pi (upd C q 0) (upd pf q 0) pw pi := by
  intro q' hq'
  by_cases e : q' = q
  · subst e
    exact ⟨0, 0, by omega, by omega, pk_us, pk_us, fun j hj => by omega⟩
  · rw [pk_un e, pk_un e]; exact h q' hq'
/-! files -/
theorem uk_Ok_op {oh ok ki T om mo op : Nat → Int32} {x : Int32} (o : Nat) (h : uk_Ok oh ok ki T om mo op) (hx : vp_in x 17) : uk_Ok oh ok ki T om mo (upd op o x) := fun o' ho' => by
  obtain ⟨h1, h2⟩ := h o' ho'
  refine ⟨?_, h2⟩
  by_cases e : o' = o
  · subst e; rw [pk_us]; exact hx
  · rw [pk_un e]; exact h1
theorem uk_Fi_sz {N ki T fs sz : Nat → Int32} {g : Nat} {x : Int32} (h : uk_Fi N ki T fs sz) (hx : vp_in x 17) (hn : ¬ uk_fre N ki T g) : uk_Fi N ki T (upd fs g x) (upd sz g x) := ⟨h.1, fun f hf => by
  obtain ⟨h1, h2, h3⟩ := h.2 f hf
  by_cases e : f = g
  · subst e; rw [pk_us, pk_us]; exact ⟨hx, fun z => absurd z hn, fun _ => rfl⟩
  · rw [pk_un e, pk_un e]; exact ⟨h1, h2, h3⟩⟩
theorem uk_NU {N : Nat → Int32} {y : Nat} {x : Int32} (h : ∀ k, k < 8 → N k = -1 ∨ vp_in (N k) 8) (hx : x = -1 ∨ vp_in x 8) : ∀ k, k < 8 → upd N y x k = -1 ∨ vp_in (upd N y x k) 8 := fun k hk => by
  by_cases e : k = y
  · subst e; rw [pk_us]; exact hx
  · rw [pk_un e]; exact h k hk
theorem uk_freN {N N' ki T : Nat → Int32} {f : Nat} (e : (∃ k, k < 8 ∧ N' k = nI f) ↔ (∃ k, k < 8 ∧ N k = nI f)) : uk_fre N' ki T f ↔ uk_fre N ki T f :=
  ⟨fun h => ⟨fun k hk z => by
    obtain ⟨k', hk', z'⟩ := e.mpr ⟨k, hk, z⟩
    exact h.1 k' hk' z', h.2⟩, fun h => ⟨fun k hk z => by
    obtain ⟨k', hk', z'⟩ := e.mp ⟨k, hk, z⟩
    exact h.1 k' hk' z', h.2⟩⟩
theorem uk_Fi_ln {N ki T fs sz : Nat → Int32} {x y : Nat} (h : uk_Fi N ki T fs sz) (hx : x < 8) (hy : y < 8) (hy1 : N y = -1) : uk_Fi (upd N y (N x)) ki T fs sz := by
  have hfr : ∀ f, f < 8 → (uk_fre (upd N y (N x)) ki T f ↔ uk_fre N ki T f) := fun f hf => uk_freN (by
    constructor
    · rintro ⟨k, hk, z⟩
      by_cases e : k = y
      · subst e; rw [pk_us] at z; exact ⟨x, hx, z⟩
      · rw [pk_un e] at z; exact ⟨k, hk, z⟩
    · rintro ⟨k, hk, z⟩
      by_cases e : k = y
      · subst e; rw [hy1] at z; exact absurd z.symm (uk_ne1 (n := f) (by omega))
      · exact ⟨k, hk, by rw [pk_un e]; exact z⟩)
  refine ⟨uk_NU h.1 (h.1 x hx), fun f hf => ?_⟩
  obtain ⟨h1, h2, h3⟩ := h.2 f hf
  exact ⟨h1, fun z => h2 ((hfr f hf).mp z), fun z => h3 (fun w => z ((hfr f hf).mpr w))⟩
theorem uk_ul_fre {N ki T : Nat → Int32} {x g f : Nat} (hg : g < 8) (hN : N x = nI g) (hf : f < 8) (e : f ≠ g) : uk_fre (upd N x (-1)) ki T f ↔ uk_fre N ki T f := uk_freN (by
  constructor
  · rintro ⟨k, hk, z⟩
    by_cases e2 : k = x
    · subst e2; rw [pk_us] at z; exact absurd z.symm (uk_ne1 (n := f) (by omega))
    · rw [pk_un e2] at z; exact ⟨k, hk, z⟩
  · rintro ⟨k, hk, z⟩
    by_cases e2 : k = x
    · subst e2; rw [hN] at z; exact absurd ((nI_eq (by omega) (by omega)).mp z).symm e
    · exact ⟨k, hk, by rw [pk_un e2]; exact z⟩)
theorem uk_Fi_ul0 {N ki T fs sz : Nat → Int32} {x g : Nat} (h : uk_Fi N ki T fs sz) (hx : x < 8) (hg : g < 8) (hN : N x = nI g) (hn : uk_fre (upd N x (-1)) ki T g) : uk_Fi (upd N x (-1)) ki T fs (upd sz g 0) := by
  refine ⟨uk_NU h.1 (Or.inl rfl), fun f hf => ?_⟩
  obtain ⟨h1, h2, h3⟩ := h.2 f hf
  by_cases e : f = g
  · subst e; rw [pk_us]; exact ⟨vp_in_nI (n := 0) (by omega) (by omega), fun _ => rfl, fun z => absurd hn z⟩
  · have := uk_ul_fre (ki := ki) (T := T) hg hN hf e
    rw [pk_un e]
    exact ⟨h1, fun z => h2 (this.mp z), fun z => h3 (fun w => z (this.mpr w))⟩
theorem uk_Fi_ul1 {N ki T fs sz : Nat → Int32} {x g : Nat} (h : uk_Fi N ki T fs sz) (hx : x < 8) (hg : g < 8) (hN : N x = nI g) (hn : ¬ uk_fre (upd N x (-1)) ki T g) : uk_Fi (upd N x (-1)) ki T fs sz := by
  refine ⟨uk_NU h.1 (Or.inl rfl), fun f hf => ?_⟩
  obtain ⟨h1, h2, h3⟩ := h.2 f hf
  by_cases e : f = g
  · subst e; exact ⟨h1, fun z => absurd z hn, fun _ => h3 (fun z => z.1 x hx hN)⟩
  · have := uk_ul_fre (ki := ki) (T := T) hg hN hf e
    exact ⟨h1, fun z => h2 (this.mp z), fun z => h3 (fun w => z (this.mpr w))⟩
theorem uk_Fi_mk {N ki T fs sz : Nat → Int32} {y g : Nat} (h : uk_Fi N ki T fs sz) (hy : y < 8) (hg : g < 8) (hy1 : N y = -1) : uk_Fi (upd N y (nI g)) ki T (upd fs g 0) (upd sz g 0) := by
  refine ⟨uk_NU h.1 (Or.inr (vp_in_nI hg (by omega))), fun f hf => ?_⟩
  obtain ⟨h1, h2, h3⟩ := h.2 f hf
  by_cases e : f = g
  · subst e; rw [pk_us, pk_us]; exact ⟨vp_in_nI (n := 0) (by omega) (by omega), fun _ => rfl, fun _ => rfl⟩
  · have : uk_fre (upd N y (nI g)) ki T f ↔ uk_fre N ki T f := uk_freN (by
      constructor
      · rintro ⟨k, hk, z⟩
        by_cases e2 : k = y
        · subst e2; rw [pk_us] at z; exact absurd ((nI_eq (by omega) (by omega)).mp z).symm e
        · rw [pk_un e2] at z; exact ⟨k, hk, z⟩
      · rintro ⟨k, hk, z⟩
        by_cases e2 : k = y
        · subst e2; rw [hy1] at z; exact absurd z.symm (uk_ne1 (n := f) (by omega))
        · exact ⟨k, hk, by rw [pk_un e2]; exact z⟩)
    rw [pk_un e, pk_un e]
    exact ⟨h1, fun z => h2 (this.mp z), fun z => h3 (fun w => z (this.mpr w))⟩
theorem uk_fl1 {a g : Nat → Int32} {N j : Nat} (h : j < N) : uk_fl a 0 g N j = g j := by
  have := uk_flin (a := a) (b := 0) (g := g) h
  rw [Nat.zero_add] at this
  exact this
theorem uk_fls0 {a g : Nat → Int32} {i : Nat} : upd (uk_fl a 0 g i) i (g i) = uk_fl a 0 g (i + 1) := by
  have := uk_fls (a := a) (b := 0) (i := i) (g := g)
  rw [Nat.zero_add] at this
  exact this
theorem uk_fl_same {a g : Nat → Int32} {N : Nat} (h : ∀ j, j < N → g j = a j) : uk_fl a 0 g N = a := by
  funext j
  by_cases e : j < N
  · rw [uk_fl1 e, h j e]
  · exact uk_flout (Or.inr (by omega))
theorem uk_Sa_cm {N ki T fs sz sn ss sy : Nat → Int32} (h : uk_Fi N ki T fs sz) : uk_Sa (uk_fl sn 0 N 8) (uk_fl ss 0 fs 8) (uk_fl sy 0 sz 8) := by
  refine ⟨fun k hk => by rw [uk_fl1 hk]; exact h.1 k hk, fun f hf => ?_⟩
  obtain ⟨h1, h2, h3⟩ := h.2 f hf
  rw [uk_fl1 hf, uk_fl1 hf]
  refine ⟨h1, ?_⟩
  rintro ⟨k, hk, z⟩
  rw [uk_fl1 hk] at z
  exact h3 (fun w => w.1 k hk z)
/-! said -/
def uk_sh (sd : Nat → Int32) (x : Int32) : Nat → Int32 := fun j => if j = 0 then x else if j < 16 then sd (j - 1) else sd j
theorem uk_Sd_say {n : Nat} {si sd : Nat → Int32} (x : Int32) (h : uk_Sd n si sd) : uk_Sd (n + 1) (upd si (n % 16) x) (uk_sh sd x) := fun k hk hn => by
  by_cases e : k = 0
  · subst e
    rw [show (n + 1 - 1 - 0) % 16 = n % 16 from by omega, pk_us]
    rfl
  · have h1 := h (k - 1) (by omega) (by omega)
    rw [show (n - 1 - (k - 1)) % 16 = (n + 1 - 1 - k) % 16 from by omega] at h1
    rw [pk_un (by omega), h1]
    show _ = if k = 0 then x else if k < 16 then sd (k - 1) else sd k
    rw [if_neg e, if_pos hk]
end
section
/-! what the two sides ask of the same tables -/
theorem uk_hold48 (P zo H : Nat → Int32) (o : Nat) : uk_cn (fun k => (P (k / 6) ≠ 0 ∧ zo (k / 6) = 0) ∧ H k = nI o) 48 = uk_sm (uk_hw P zo H o) 8 := by
  have e := uk_cnmul (fun k => (P (k / 6) ≠ 0 ∧ zo (k / 6) = 0) ∧ H k = nI o) 6 8
  refine Eq.trans e (uk_smc 8 (fun s hs => ?_))
  unfold uk_hw
  by_cases h : P s ≠ 0 ∧ zo s = 0
  · rw [uk_b1 h, Nat.one_mul]
    exact uk_cnc 6 (fun d hd => by rw [show (6 * s + d) / 6 = s by omega]; exact ⟨fun z => z.2, fun z => ⟨h, z⟩⟩)
  · rw [uk_b0 h, Nat.zero_mul]
    exact uk_cn0 6 (fun d hd z => by rw [show (6 * s + d) / 6 = s by omega] at z; exact h z.1)
theorem uk_used (P pg fr : Nat → Int32) (f : Nat) : uk_sm (uk_rw P pg fr f) 8 ≠ 0 ↔ ∃ s, s < 8 ∧ P s ≠ 0 ∧ ∃ p, p < (pg s).toNatClampNeg ∧ fr (8 * s + p) = nI f := by
  constructor
  · intro h
    refine Classical.byContradiction (fun hn => h (uk_sm0 8 (fun s hs => ?_)))
    unfold uk_rw
    by_cases hP : P s = 0
    · rw [uk_b0 (fun z => z hP), Nat.zero_mul]
    · rw [uk_cn0 _ (fun p hp z => hn ⟨s, hs, hP, p, hp, z⟩), Nat.mul_zero]
  · rintro ⟨s, hs, hP, p, hp, z⟩ h
    have h1 := uk_smle (g := uk_rw P pg fr f) 8 hs
    have h2 := uk_cnp (P := fun p => fr (8 * s + p) = nI f) z _ hp
    unfold uk_rw at h1
    rw [uk_b1 hP, Nat.one_mul] at h1
    unfold uk_rw at h
    omega
theorem uk_ohp {P zo H oh : Nat → Int32} (h : uk_Ho P zo H oh) {o : Nat} (ho : o < 12) : (¬ oh o < 0) ∧ (oh o ≤ 0 ↔ oh o = 0) ∧ (0 < oh o ↔ oh o ≠ 0) := by
  have h1 := uk_hsle P zo H o
  rw [h o ho]
  generalize uk_sm (uk_hw P zo H o) 8 = m at h1
  refine ⟨nI_pos (by omega), ?_, ?_⟩
  · rw [show (0 : Int32) = nI 0 from rfl, nI_leI (by omega) (by omega), nI_eq (by omega) (by omega)]; omega
  · rw [show (0 : Int32) = nI 0 from rfl, nI_ltI (by omega) (by omega), ne_eq, nI_eq (by omega) (by omega)]; omega
theorem uk_okk {P zo H oh ok ki T om mo op : Nat → Int32} (hO : uk_Ok oh ok ki T om mo op) (hh : uk_Ho P zo H oh) {o : Nat} (ho : o < 12) {k : Int32} (hk : k ≠ 0) : (¬ oh o ≤ 0 ∧ ok o = k) ↔ ki o = k := by
  rw [(uk_ohp hh ho).2.1]
  rcases (hO o ho).2 with ⟨a, b⟩ | ⟨a, b, _⟩
  · rw [b]; exact ⟨fun z => absurd a z.1, fun z => absurd z.symm hk⟩
  · rw [b]; exact ⟨fun z => z.2, fun z => ⟨a, z⟩⟩
theorem uk_ki0 {P zo H oh ok ki T om mo op : Nat → Int32} (hO : uk_Ok oh ok ki T om mo op) {o : Nat} (ho : o < 12) : ki o = 0 ↔ oh o = 0 := by
  rcases (hO o ho).2 with ⟨a, b⟩ | ⟨a, b, c⟩
  · exact ⟨fun _ => a, fun _ => b⟩
  · refine ⟨fun z => ?_, fun z => absurd z a⟩
    rw [z] at c
    rcases c with c | c | c
    · exact absurd c.1 (by decide)
    · exact absurd c.1 (by decide)
    · exact absurd c.1 (by decide)
/-- the least by pid of those that Z names -/
noncomputable def uk_be (P : Nat → Int32) (Z : Nat → Prop) : Nat → Int32
  | 0 => -1
  | n + 1 => @ite Int32 (Z n ∧ (uk_be P Z n = -1 ∨ P n < P (uk_be P Z n).toNatClampNeg)) (Classical.propDecidable _) (nI n) (uk_be P Z n)
theorem uk_bet {P : Nat → Int32} {Z : Nat → Prop} {n : Nat} (h : Z n ∧ (uk_be P Z n = -1 ∨ P n < P (uk_be P Z n).toNatClampNeg)) : uk_be P Z (n + 1) = nI n := if_pos h
theorem uk_bef {P : Nat → Int32} {Z : Nat → Prop} {n : Nat} (h : ¬ (Z n ∧ (uk_be P Z n = -1 ∨ P n < P (uk_be P Z n).toNatClampNeg))) : uk_be P Z (n + 1) = uk_be P Z n := if_neg h
theorem uk_bes (P : Nat → Int32) (Z : Nat → Prop) : ∀ n, (uk_be P Z n = -1 ∧ ∀ i, i < n → ¬ Z i) ∨ (∃ i, i < n ∧ uk_be P Z n = nI i ∧ Z i)
  | 0 => Or.inl ⟨rfl, fun i hi => by omega⟩
  | n + 1 => by
    have ih := uk_bes P Z n
    by_cases h : Z n ∧ (uk_be P Z n = -1 ∨ P n < P (uk_be P Z n).toNatClampNeg)
    · rw [uk_bet h]; exact Or.inr ⟨n, by omega, rfl, h.1⟩
    · rw [uk_bef h]
      rcases ih with ⟨a, b⟩ | ⟨i, hi, a, b⟩
      · refine Or.inl ⟨a, fun i hi z => ?_⟩
        by_cases e : i = n
        · subst e; exact h ⟨z, Or.inl a⟩
        · exact b i (by omega) z
      · exact Or.inr ⟨i, by omega, a, b⟩
theorem uk_bec {P : Nat → Int32} {Z Y : Nat → Prop} : ∀ n, (∀ i, i < n → (Z i ↔ Y i)) → uk_be P Z n = uk_be P Y n
  | 0, _ => rfl
  | n + 1, h => by
    have ih := uk_bec (P := P) n (fun i hi => h i (by omega))
    by_cases z : Z n ∧ (uk_be P Z n = -1 ∨ P n < P (uk_be P Z n).toNatClampNeg)
    · rw [uk_bet z]
      rw [ih, h n (by omega)] at z
      rw [uk_bet z]
    · rw [uk_bef z, ih]
      rw [ih, h n (by omega)] at z
      rw [uk_bef z]
/-- the call c of slot s would wait (SLEEP apart) -/
def uk_Bk (P Q zo R H ki T C : Nat → Int32) (s : Nat) (c : Int32) : Prop :=
  (c = 2 ∧ (∃ k, k < 8 ∧ P k ≠ 0 ∧ Q k = P s) ∧ ∀ k, k < 8 → ¬ (P k ≠ 0 ∧ zo k = 1 ∧ Q k = P s)) ∨
  (c = 7 ∧ ∃ d o, d < 6 ∧ o < 12 ∧ R (4 * s) = nI d ∧ H (6 * s + d) = nI o ∧ ki o = 2 ∧ C (T o).toNatClampNeg = 0 ∧ ∃ e, e < 12 ∧ ki e = 3 ∧ T e = T o) ∨
  (c = 8 ∧ ∃ d o, d < 6 ∧ o < 12 ∧ R (4 * s) = nI d ∧ H (6 * s + d) = nI o ∧ ki o = 3 ∧ C (T o).toNatClampNeg = 4 ∧ ∃ e, e < 12 ∧ ki e = 2 ∧ T e = T o)
/-- slot s is ready at time t -/
def uk_Rd (P Q zo bl G L ob wk R H ki T C : Nat → Int32) (t : Int32) (s : Nat) : Prop := P s ≠ 0 ∧ zo s = 0 ∧ (bl s = 0 ∨ (ob (24 * (G s).toNatClampNeg + (L s).toNatClampNeg) ≠ 14 ∧ ¬ uk_Bk P Q zo R H ki T C s (ob (24 * (G s).toNatClampNeg + (L s).toNatClampNeg))) ∨ (ob (24 * (G s).toNatClampNeg + (L s).toNatClampNeg) = 14 ∧ wk s ≤ t))
end
section
/-- the whole relation but Y's time (and its flag): X's time is t -/
def uk_All (t b : Nat) (x_changes x_saidCount x_time x_lastSlot x_sliceSteps x_latestPid x_greatestPid : Int32) (x_code x_codeLengths x_pids x_parents x_programs x_places x_states x_statuses x_stepCounts x_copyCounts x_wakeTimes x_registers x_pageCounts x_pageFrames x_held x_frameUsers x_frameWords x_openHolders x_openKinds x_openTargets x_openPlaces x_openModes x_pipeFirsts x_pipeCounts x_pipeWords x_nameFiles x_fileSizes x_fileWords x_safeNames x_safeSizes x_safeWords x_saidInts : Nat → Int32) (y_time y_last y_lastPid y_did y_killed : Int32) (y_ops y_as y_bs y_pages y_wake y_zombie y_blocked y_memory y_frame y_kind y_mode y_pipe y_size y_safeSize y_said : Nat → Int32) : Prop :=
  (∃ g, x_greatestPid = nI g ∧ g ≤ b + 1) ∧
  (∃ n, x_saidCount = nI n ∧ n ≤ b ∧ uk_Sd n x_saidInts y_said) ∧
  (∃ c, x_changes = nI c ∧ c < 30) ∧
  x_time = nI t ∧
  uk_Pr x_code x_codeLengths y_ops y_as y_bs ∧
  uk_Ps x_pids x_parents x_programs x_places x_statuses x_states y_zombie y_blocked ∧
  uk_Me x_pids y_zombie x_pageCounts y_pages x_pageFrames y_frame x_frameWords y_memory ∧
  uk_Fu x_pids y_pages y_frame x_frameUsers ∧
  uk_Hd x_pids y_zombie x_held ∧
  uk_Ho x_pids y_zombie x_held x_openHolders ∧
  uk_Ok x_openHolders x_openKinds y_kind x_openTargets x_openModes y_mode x_openPlaces ∧
  uk_Pi x_pipeCounts x_pipeFirsts x_pipeWords y_pipe ∧
  uk_Fi x_nameFiles y_kind x_openTargets x_fileSizes y_size ∧
  uk_Sa x_safeNames x_safeSizes y_safeSize ∧
  uk_Sc x_pids x_lastSlot x_sliceSteps y_last y_lastPid y_did ∧
  uk_Wk x_pids y_zombie y_blocked x_programs x_places x_codeLengths y_ops y_bs x_wakeTimes y_wake x_registers x_held y_kind t
def i_Rel (_ : Nat) (u : SX) (v : SY) : Prop := ∃ (t b : Nat) (x_changes x_saidCount x_time x_lastSlot x_sliceSteps x_latestPid x_greatestPid : Int32) (x_code x_codeLengths x_pids x_parents x_programs x_places x_states x_statuses x_stepCounts x_copyCounts x_wakeTimes x_registers x_pageCounts x_pageFrames x_held x_frameUsers x_frameWords x_openHolders x_openKinds x_openTargets x_openPlaces x_openModes x_pipeFirsts x_pipeCounts x_pipeWords x_nameFiles x_fileSizes x_fileWords x_safeNames x_safeSizes x_safeWords x_saidInts : Nat → Int32) (y_time y_last y_lastPid y_did y_killed : Int32) (y_ops y_as y_bs y_pages y_wake y_zombie y_blocked y_memory y_frame y_kind y_mode y_pipe y_size y_safeSize y_said : Nat → Int32), t ≤ 1001000000 ∧ b ≤ t ∧ u = (x_changes, x_saidCount, x_time, x_lastSlot, x_sliceSteps, x_latestPid, x_greatestPid, x_code, x_codeLengths, x_pids, x_parents, x_programs, x_places, x_states, x_statuses, x_stepCounts, x_copyCounts, x_wakeTimes, x_registers, x_pageCounts, x_pageFrames, x_held, x_frameUsers, x_frameWords, x_openHolders, x_openKinds, x_openTargets, x_openPlaces, x_openModes, x_pipeFirsts, x_pipeCounts, x_pipeWords, x_nameFiles, x_fileSizes, x_fileWords, x_safeNames, x_safeSizes, x_safeWords, x_saidInts) ∧ v = (x_changes, x_time, y_last, y_lastPid, y_did, x_greatestPid, x_latestPid, x_saidCount, y_killed, y_ops, y_as, y_bs, x_codeLengths, x_pids, x_parents, x_programs, x_places, x_statuses, x_stepCounts, x_copyCounts, y_pages, y_wake, y_zombie, y_blocked, x_registers, y_memory, y_frame, x_held, y_kind, x_openTargets, y_mode, x_openPlaces, x_pipeCounts, y_pipe, x_nameFiles, y_size, x_fileWords, x_safeNames, y_safeSize, x_safeWords, y_said) ∧ uk_All t b x_changes x_saidCount x_time x_lastSlot x_sliceSteps x_latestPid x_greatestPid x_code x_codeLengths x_pids x_parents x_programs x_places x_states x_statuses x_stepCounts x_copyCounts x_wakeTimes x_registers x_pageCounts x_pageFrames x_held x_frameUsers x_frameWords x_openHolders x_openKinds x_openTargets x_openPlaces x_openModes x_pipeFirsts x_pipeCounts x_pipeWords x_nameFiles x_fileSizes x_fileWords x_safeNames x_safeSizes x_safeWords x_saidInts y_time y_last y_lastPid y_did y_killed y_ops y_as y_bs y_pages y_wake y_zombie y_blocked y_memory y_frame y_kind y_mode y_pipe y_size y_safeSize y_said
theorem i_up {k : Nat} {u : SX} {v : SY} (h : i_Rel k u v) : i_Rel (k + 5) u v := h
theorem i_elim {k : Nat} {u : SX} {v : SY} {C : SX → SY → Prop} (I : i_Rel k u v) (h : ∀ (t b : Nat) (x_changes x_saidCount x_time x_lastSlot x_sliceSteps x_latestPid x_greatestPid : Int32) (x_code x_codeLengths x_pids x_parents x_programs x_places x_states x_statuses x_stepCounts x_copyCounts x_wakeTimes x_registers x_pageCounts x_pageFrames x_held x_frameUsers x_frameWords x_openHolders x_openKinds x_openTargets x_openPlaces x_openModes x_pipeFirsts x_pipeCounts x_pipeWords x_nameFiles x_fileSizes x_fileWords x_safeNames x_safeSizes x_safeWords x_saidInts : Nat → Int32) (y_time y_last y_lastPid y_did y_killed : Int32) (y_ops y_as y_bs y_pages y_wake y_zombie y_blocked y_memory y_frame y_kind y_mode y_pipe y_size y_safeSize y_said : Nat → Int32), t ≤ 1001000000 → b ≤ t → uk_All t b x_changes x_saidCount x_time x_lastSlot x_sliceSteps x_latestPid x_greatestPid x_code x_codeLengths x_pids x_parents x_programs x_places x_states x_statuses x_stepCounts x_copyCounts x_wakeTimes x_registers x_pageCounts x_pageFrames x_held x_frameUsers x_frameWords x_openHolders x_openKinds x_openTargets x_openPlaces x_openModes x_pipeFirsts x_pipeCounts x_pipeWords x_nameFiles x_fileSizes x_fileWords x_safeNames x_safeSizes x_safeWords x_saidInts y_time y_last y_lastPid y_did y_killed y_ops y_as y_bs y_pages y_wake y_zombie y_blocked y_memory y_frame y_kind y_mode y_pipe y_size y_safeSize y_said → C (x_changes, x_saidCount, x_time, x_lastSlot, x_sliceSteps, x_latestPid, x_greatestPid, x_code, x_codeLengths, x_pids, x_parents, x_programs, x_places, x_states, x_statuses, x_stepCounts, x_copyCounts, x_wakeTimes, x_registers, x_pageCounts, x_pageFrames, x_held, x_frameUsers, x_frameWords, x_openHolders, x_openKinds, x_openTargets, x_openPlaces, x_openModes, x_pipeFirsts, x_pipeCounts, x_pipeWords, x_nameFiles, x_fileSizes, x_fileWords, x_safeNames, x_safeSizes, x_safeWords, x_saidInts) (x_changes, x_time, y_last, y_lastPid, y_did, x_greatestPid, x_latestPid, x_saidCount, y_killed, y_ops, y_as, y_bs, x_codeLengths, x_pids, x_parents, x_programs, x_places, x_statuses, x_stepCounts, x_copyCounts, y_pages, y_wake, y_zombie, y_blocked, x_registers, y_memory, y_frame, x_held, y_kind, x_openTargets, y_mode, x_openPlaces, x_pipeCounts, y_pipe, x_nameFiles, y_size, x_fileWords, x_safeNames, y_safeSize, x_safeWords, y_said)) : C u v := by
  obtain ⟨t, b, x_changes, x_saidCount, x_time, x_lastSlot, x_sliceSteps, x_latestPid, x_greatestPid, x_code, x_codeLengths, x_pids, x_parents, x_programs, x_places, x_states, x_statuses, x_stepCounts, x_copyCounts, x_wakeTimes, x_registers, x_pageCounts, x_pageFrames, x_held, x_frameUsers, x_frameWords, x_openHolders, x_openKinds, x_openTargets, x_openPlaces, x_openModes, x_pipeFirsts, x_pipeCounts, x_pipeWords, x_nameFiles, x_fileSizes, x_fileWords, x_safeNames, x_safeSizes, x_safeWords, x_saidInts, y_time, y_last, y_lastPid, y_did, y_killed, y_ops, y_as, y_bs, y_pages, y_wake, y_zombie, y_blocked, y_memory, y_frame, y_kind, y_mode, y_pipe, y_size, y_safeSize, y_said, ht, hbt, rfl, rfl, hA⟩ := I
  exact h t b x_changes x_saidCount x_time x_lastSlot x_sliceSteps x_latestPid x_greatestPid x_code x_codeLengths x_pids x_parents x_programs x_places x_states x_statuses x_stepCounts x_copyCounts x_wakeTimes x_registers x_pageCounts x_pageFrames x_held x_frameUsers x_frameWords x_openHolders x_openKinds x_openTargets x_openPlaces x_openModes x_pipeFirsts x_pipeCounts x_pipeWords x_nameFiles x_fileSizes x_fileWords x_safeNames x_safeSizes x_safeWords x_saidInts y_time y_last y_lastPid y_did y_killed y_ops y_as y_bs y_pages y_wake y_zombie y_blocked y_memory y_frame y_kind y_mode y_pipe y_size y_safeSize y_said ht hbt hA
theorem i_mk {k t b : Nat} {x_changes x_saidCount x_time x_lastSlot x_sliceSteps x_latestPid x_greatestPid : Int32} {x_code x_codeLengths x_pids x_parents x_programs x_places x_states x_statuses x_stepCounts x_copyCounts x_wakeTimes x_registers x_pageCounts x_pageFrames x_held x_frameUsers x_frameWords x_openHolders x_openKinds x_openTargets x_openPlaces x_openModes x_pipeFirsts x_pipeCounts x_pipeWords x_nameFiles x_fileSizes x_fileWords x_safeNames x_safeSizes x_safeWords x_saidInts : Nat → Int32} {y_time y_last y_lastPid y_did y_killed : Int32} {y_ops y_as y_bs y_pages y_wake y_zombie y_blocked y_memory y_frame y_kind y_mode y_pipe y_size y_safeSize y_said : Nat → Int32} (ht : t ≤ 1001000000) (hbt : b ≤ t) (h : uk_All t b x_changes x_saidCount x_time x_lastSlot x_sliceSteps x_latestPid x_greatestPid x_code x_codeLengths x_pids x_parents x_programs x_places x_states x_statuses x_stepCounts x_copyCounts x_wakeTimes x_registers x_pageCounts x_pageFrames x_held x_frameUsers x_frameWords x_openHolders x_openKinds x_openTargets x_openPlaces x_openModes x_pipeFirsts x_pipeCounts x_pipeWords x_nameFiles x_fileSizes x_fileWords x_safeNames x_safeSizes x_safeWords x_saidInts y_time y_last y_lastPid y_did y_killed y_ops y_as y_bs y_pages y_wake y_zombie y_blocked y_memory y_frame y_kind y_mode y_pipe y_size y_safeSize y_said) : i_Rel k (x_changes, x_saidCount, x_time, x_lastSlot, x_sliceSteps, x_latestPid, x_greatestPid, x_code, x_codeLengths, x_pids, x_parents, x_programs, x_places, x_states, x_statuses, x_stepCounts, x_copyCounts, x_wakeTimes, x_registers, x_pageCounts, x_pageFrames, x_held, x_frameUsers, x_frameWords, x_openHolders, x_openKinds, x_openTargets, x_openPlaces, x_openModes, x_pipeFirsts, x_pipeCounts, x_pipeWords, x_nameFiles, x_fileSizes, x_fileWords, x_safeNames, x_safeSizes, x_safeWords, x_saidInts) (x_changes, x_time, y_last, y_lastPid, y_did, x_greatestPid, x_latestPid, x_saidCount, y_killed, y_ops, y_as, y_bs, x_codeLengths, x_pids, x_parents, x_programs, x_places, x_statuses, x_stepCounts, x_copyCounts, y_pages, y_wake, y_zombie, y_blocked, x_registers, y_memory, y_frame, x_held, y_kind, x_openTargets, y_mode, x_openPlaces, x_pipeCounts, y_pipe, x_nameFiles, y_size, x_fileWords, x_safeNames, y_safeSize, x_safeWords, y_said) := ⟨t, b, x_changes, x_saidCount, x_time, x_lastSlot, x_sliceSteps, x_latestPid, x_greatestPid, x_code, x_codeLengths, x_pids, x_parents, x_programs, x_places, x_states, x_statuses, x_stepCounts, x_copyCounts, x_wakeTimes, x_registers, x_pageCounts, x_pageFrames, x_held, x_frameUsers, x_frameWords, x_openHolders, x_openKinds, x_openTargets, x_openPlaces, x_openModes, x_pipeFirsts, x_pipeCounts, x_pipeWords, x_nameFiles, x_fileSizes, x_fileWords, x_safeNames, x_safeSizes, x_safeWords, x_saidInts, y_time, y_last, y_lastPid, y_did, y_killed, y_ops, y_as, y_bs, y_pages, y_wake, y_zombie, y_blocked, y_memory, y_frame, y_kind, y_mode, y_pipe, y_size, y_safeSize, y_said, ht, hbt, rfl, rfl, h⟩
section
variable {t b : Nat} {x_changes x_saidCount x_time x_lastSlot x_sliceSteps x_latestPid x_greatestPid : Int32} {x_code x_codeLengths x_pids x_parents x_programs x_places x_states x_statuses x_stepCounts x_copyCounts x_wakeTimes x_registers x_pageCounts x_pageFrames x_held x_frameUsers x_frameWords x_openHolders x_openKinds x_openTargets x_openPlaces x_openModes x_pipeFirsts x_pipeCounts x_pipeWords x_nameFiles x_fileSizes x_fileWords x_safeNames x_safeSizes x_safeWords x_saidInts : Nat → Int32} {y_time y_last y_lastPid y_did y_killed : Int32} {y_ops y_as y_bs y_pages y_wake y_zombie y_blocked y_memory y_frame y_kind y_mode y_pipe y_size y_safeSize y_said : Nat → Int32}
theorem uk_aG (h : uk_All t b x_changes x_saidCount x_time x_lastSlot x_sliceSteps x_latestPid x_greatestPid x_code x_codeLengths x_pids x_parents x_programs x_places x_states x_statuses x_stepCounts x_copyCounts x_wakeTimes x_registers x_pageCounts x_pageFrames x_held x_frameUsers x_frameWords x_openHolders x_openKinds x_openTargets x_openPlaces x_openModes x_pipeFirsts x_pipeCounts x_pipeWords x_nameFiles x_fileSizes x_fileWords x_safeNames x_safeSizes x_safeWords x_saidInts y_time y_last y_lastPid y_did y_killed y_ops y_as y_bs y_pages y_wake y_zombie y_blocked y_memory y_frame y_kind y_mode y_pipe y_size y_safeSize y_said) : ∃ g, x_greatestPid = nI g ∧ g ≤ b + 1 := h.1
theorem uk_aN (h : uk_All t b x_changes x_saidCount x_time x_lastSlot x_sliceSteps x_latestPid x_greatestPid x_code x_codeLengths x_pids x_parents x_programs x_places x_states x_statuses x_stepCounts x_copyCounts x_wakeTimes x_registers x_pageCounts x_pageFrames x_held x_frameUsers x_frameWords x_openHolders x_openKinds x_openTargets x_openPlaces x_openModes x_pipeFirsts x_pipeCounts x_pipeWords x_nameFiles x_fileSizes x_fileWords x_safeNames x_safeSizes x_safeWords x_saidInts y_time y_last y_lastPid y_did y_killed y_ops y_as y_bs y_pages y_wake y_zombie y_blocked y_memory y_frame y_kind y_mode y_pipe y_size y_safeSize y_said) : ∃ n, x_saidCount = nI n ∧ n ≤ b ∧ uk_Sd n x_saidInts y_said := h.2.1
theorem uk_aC (h : uk_All t b x_changes x_saidCount x_time x_lastSlot x_sliceSteps x_latestPid x_greatestPid x_code x_codeLengths x_pids x_parents x_programs x_places x_states x_statuses x_stepCounts x_copyCounts x_wakeTimes x_registers x_pageCounts x_pageFrames x_held x_frameUsers x_frameWords x_openHolders x_openKinds x_openTargets x_openPlaces x_openModes x_pipeFirsts x_pipeCounts x_pipeWords x_nameFiles x_fileSizes x_fileWords x_safeNames x_safeSizes x_safeWords x_saidInts y_time y_last y_lastPid y_did y_killed y_ops y_as y_bs y_pages y_wake y_zombie y_blocked y_memory y_frame y_kind y_mode y_pipe y_size y_safeSize y_said) : ∃ c, x_changes = nI c ∧ c < 30 := h.2.2.1
theorem uk_aeT (h : uk_All t b x_changes x_saidCount x_time x_lastSlot x_sliceSteps x_latestPid x_greatestPid x_code x_codeLengths x_pids x_parents x_programs x_places x_states x_statuses x_stepCounts x_copyCounts x_wakeTimes x_registers x_pageCounts x_pageFrames x_held x_frameUsers x_frameWords x_openHolders x_openKinds x_openTargets x_openPlaces x_openModes x_pipeFirsts x_pipeCounts x_pipeWords x_nameFiles x_fileSizes x_fileWords x_safeNames x_safeSizes x_safeWords x_saidInts y_time y_last y_lastPid y_did y_killed y_ops y_as y_bs y_pages y_wake y_zombie y_blocked y_memory y_frame y_kind y_mode y_pipe y_size y_safeSize y_said) : x_time = nI t := h.2.2.2.1
theorem uk_aPr (h : uk_All t b x_changes x_saidCount x_time x_lastSlot x_sliceSteps x_latestPid x_greatestPid x_code x_codeLengths x_pids x_parents x_programs x_places x_states x_statuses x_stepCounts x_copyCounts x_wakeTimes x_registers x_pageCounts x_pageFrames x_held x_frameUsers x_frameWords x_openHolders x_openKinds x_openTargets x_openPlaces x_openModes x_pipeFirsts x_pipeCounts x_pipeWords x_nameFiles x_fileSizes x_fileWords x_safeNames x_safeSizes x_safeWords x_saidInts y_time y_last y_lastPid y_did y_killed y_ops y_as y_bs y_pages y_wake y_zombie y_blocked y_memory y_frame y_kind y_mode y_pipe y_size y_safeSize y_said) : uk_Pr x_code x_codeLengths y_ops y_as y_bs := h.2.2.2.2.1
theorem uk_aPs (h : uk_All t b x_changes x_saidCount x_time x_lastSlot x_sliceSteps x_latestPid x_greatestPid x_code x_codeLengths x_pids x_parents x_programs x_places x_states x_statuses x_stepCounts x_copyCounts x_wakeTimes x_registers x_pageCounts x_pageFrames x_held x_frameUsers x_frameWords x_openHolders x_openKinds x_openTargets x_openPlaces x_openModes x_pipeFirsts x_pipeCounts x_pipeWords x_nameFiles x_fileSizes x_fileWords x_safeNames x_safeSizes x_safeWords x_saidInts y_time y_last y_lastPid y_did y_killed y_ops y_as y_bs y_pages y_wake y_zombie y_blocked y_memory y_frame y_kind y_mode y_pipe y_size y_safeSize y_said) : uk_Ps x_pids x_parents x_programs x_places x_statuses x_states y_zombie y_blocked := h.2.2.2.2.2.1
theorem uk_aMe (h : uk_All t b x_changes x_saidCount x_time x_lastSlot x_sliceSteps x_latestPid x_greatestPid x_code x_codeLengths x_pids x_parents x_programs x_places x_states x_statuses x_stepCounts x_copyCounts x_wakeTimes x_registers x_pageCounts x_pageFrames x_held x_frameUsers x_frameWords x_openHolders x_openKinds x_openTargets x_openPlaces x_openModes x_pipeFirsts x_pipeCounts x_pipeWords x_nameFiles x_fileSizes x_fileWords x_safeNames x_safeSizes x_safeWords x_saidInts y_time y_last y_lastPid y_did y_killed y_ops y_as y_bs y_pages y_wake y_zombie y_blocked y_memory y_frame y_kind y_mode y_pipe y_size y_safeSize y_said) : uk_Me x_pids y_zombie x_pageCounts y_pages x_pageFrames y_frame x_frameWords y_memory := h.2.2.2.2.2.2.1
theorem uk_aFu (h : uk_All t b x_changes x_saidCount x_time x_lastSlot x_sliceSteps x_latestPid x_greatestPid x_code x_codeLengths x_pids x_parents x_programs x_places x_states x_statuses x_stepCounts x_copyCounts x_wakeTimes x_registers x_pageCounts x_pageFrames x_held x_frameUsers x_frameWords x_openHolders x_openKinds x_openTargets x_openPlaces x_openModes x_pipeFirsts x_pipeCounts x_pipeWords x_nameFiles x_fileSizes x_fileWords x_safeNames x_safeSizes x_safeWords x_saidInts y_time y_last y_lastPid y_did y_killed y_ops y_as y_bs y_pages y_wake y_zombie y_blocked y_memory y_frame y_kind y_mode y_pipe y_size y_safeSize y_said) : uk_Fu x_pids y_pages y_frame x_frameUsers := h.2.2.2.2.2.2.2.1
theorem uk_aHd (h : uk_All t b x_changes x_saidCount x_time x_lastSlot x_sliceSteps x_latestPid x_greatestPid x_code x_codeLengths x_pids x_parents x_programs x_places x_states x_statuses x_stepCounts x_copyCounts x_wakeTimes x_registers x_pageCounts x_pageFrames x_held x_frameUsers x_frameWords x_openHolders x_openKinds x_openTargets x_openPlaces x_openModes x_pipeFirsts x_pipeCounts x_pipeWords x_nameFiles x_fileSizes x_fileWords x_safeNames x_safeSizes x_safeWords x_saidInts y_time y_last y_lastPid y_did y_killed y_ops y_as y_bs y_pages y_wake y_zombie y_blocked y_memory y_frame y_kind y_mode y_pipe y_size y_safeSize y_said) : uk_Hd x_pids y_zombie x_held := h.2.2.2.2.2.2.2.2.1
theorem uk_aHo (h : uk_All t b x_changes x_saidCount x_time x_lastSlot x_sliceSteps x_latestPid x_greatestPid x_code x_codeLengths x_pids x_parents x_programs x_places x_states x_statuses x_stepCounts x_copyCounts x_wakeTimes x_registers x_pageCounts x_pageFrames x_held x_frameUsers x_frameWords x_openHolders x_openKinds x_openTargets x_openPlaces x_openModes x_pipeFirsts x_pipeCounts x_pipeWords x_nameFiles x_fileSizes x_fileWords x_safeNames x_safeSizes x_safeWords x_saidInts y_time y_last y_lastPid y_did y_killed y_ops y_as y_bs y_pages y_wake y_zombie y_blocked y_memory y_frame y_kind y_mode y_pipe y_size y_safeSize y_said) : uk_Ho x_pids y_zombie x_held x_openHolders := h.2.2.2.2.2.2.2.2.2.1
theorem uk_aOk (h : uk_All t b x_changes x_saidCount x_time x_lastSlot x_sliceSteps x_latestPid x_greatestPid x_code x_codeLengths x_pids x_parents x_programs x_places x_states x_statuses x_stepCounts x_copyCounts x_wakeTimes x_registers x_pageCounts x_pageFrames x_held x_frameUsers x_frameWords x_openHolders x_openKinds x_openTargets x_openPlaces x_openModes x_pipeFirsts x_pipeCounts x_pipeWords x_nameFiles x_fileSizes x_fileWords x_safeNames x_safeSizes x_safeWords x_saidInts y_time y_last y_lastPid y_did y_killed y_ops y_as y_bs y_pages y_wake y_zombie y_blocked y_memory y_frame y_kind y_mode y_pipe y_size y_safeSize y_said) : uk_Ok x_openHolders x_openKinds y_kind x_openTargets x_openModes y_mode x_openPlaces := h.2.2.2.2.2.2.2.2.2.2.1
theorem uk_aPi (h : uk_All t b x_changes x_saidCount x_time x_lastSlot x_sliceSteps x_latestPid x_greatestPid x_code x_codeLengths x_pids x_parents x_programs x_places x_states x_statuses x_stepCounts x_copyCounts x_wakeTimes x_registers x_pageCounts x_pageFrames x_held x_frameUsers x_frameWords x_openHolders x_openKinds x_openTargets x_openPlaces x_openModes x_pipeFirsts x_pipeCounts x_pipeWords x_nameFiles x_fileSizes x_fileWords x_safeNames x_safeSizes x_safeWords x_saidInts y_time y_last y_lastPid y_did y_killed y_ops y_as y_bs y_pages y_wake y_zombie y_blocked y_memory y_frame y_kind y_mode y_pipe y_size y_safeSize y_said) : uk_Pi x_pipeCounts x_pipeFirsts x_pipeWords y_pipe := h.2.2.2.2.2.2.2.2.2.2.2.1
theorem uk_aFi (h : uk_All t b x_changes x_saidCount x_time x_lastSlot x_sliceSteps x_latestPid x_greatestPid x_code x_codeLengths x_pids x_parents x_programs x_places x_states x_statuses x_stepCounts x_copyCounts x_wakeTimes x_registers x_pageCounts x_pageFrames x_held x_frameUsers x_frameWords x_openHolders x_openKinds x_openTargets x_openPlaces x_openModes x_pipeFirsts x_pipeCounts x_pipeWords x_nameFiles x_fileSizes x_fileWords x_safeNames x_safeSizes x_safeWords x_saidInts y_time y_last y_lastPid y_did y_killed y_ops y_as y_bs y_pages y_wake y_zombie y_blocked y_memory y_frame y_kind y_mode y_pipe y_size y_safeSize y_said) : uk_Fi x_nameFiles y_kind x_openTargets x_fileSizes y_size := h.2.2.2.2.2.2.2.2.2.2.2.2.1
theorem uk_aSa (h : uk_All t b x_changes x_saidCount x_time x_lastSlot x_sliceSteps x_latestPid x_greatestPid x_code x_codeLengths x_pids x_parents x_programs x_places x_states x_statuses x_stepCounts x_copyCounts x_wakeTimes x_registers x_pageCounts x_pageFrames x_held x_frameUsers x_frameWords x_openHolders x_openKinds x_openTargets x_openPlaces x_openModes x_pipeFirsts x_pipeCounts x_pipeWords x_nameFiles x_fileSizes x_fileWords x_safeNames x_safeSizes x_safeWords x_saidInts y_time y_last y_lastPid y_did y_killed y_ops y_as y_bs y_pages y_wake y_zombie y_blocked y_memory y_frame y_kind y_mode y_pipe y_size y_safeSize y_said) : uk_Sa x_safeNames x_safeSizes y_safeSize := h.2.2.2.2.2.2.2.2.2.2.2.2.2.1
theorem uk_aSc (h : uk_All t b x_changes x_saidCount x_time x_lastSlot x_sliceSteps x_latestPid x_greatestPid x_code x_codeLengths x_pids x_parents x_programs x_places x_states x_statuses x_stepCounts x_copyCounts x_wakeTimes x_registers x_pageCounts x_pageFrames x_held x_frameUsers x_frameWords x_openHolders x_openKinds x_openTargets x_openPlaces x_openModes x_pipeFirsts x_pipeCounts x_pipeWords x_nameFiles x_fileSizes x_fileWords x_safeNames x_safeSizes x_safeWords x_saidInts y_time y_last y_lastPid y_did y_killed y_ops y_as y_bs y_pages y_wake y_zombie y_blocked y_memory y_frame y_kind y_mode y_pipe y_size y_safeSize y_said) : uk_Sc x_pids x_lastSlot x_sliceSteps y_last y_lastPid y_did := h.2.2.2.2.2.2.2.2.2.2.2.2.2.2.1
theorem uk_aWk (h : uk_All t b x_changes x_saidCount x_time x_lastSlot x_sliceSteps x_latestPid x_greatestPid x_code x_codeLengths x_pids x_parents x_programs x_places x_states x_statuses x_stepCounts x_copyCounts x_wakeTimes x_registers x_pageCounts x_pageFrames x_held x_frameUsers x_frameWords x_openHolders x_openKinds x_openTargets x_openPlaces x_openModes x_pipeFirsts x_pipeCounts x_pipeWords x_nameFiles x_fileSizes x_fileWords x_safeNames x_safeSizes x_safeWords x_saidInts y_time y_last y_lastPid y_did y_killed y_ops y_as y_bs y_pages y_wake y_zombie y_blocked y_memory y_frame y_kind y_mode y_pipe y_size y_safeSize y_said) : uk_Wk x_pids y_zombie y_blocked x_programs x_places x_codeLengths y_ops y_bs x_wakeTimes y_wake x_registers x_held y_kind t := h.2.2.2.2.2.2.2.2.2.2.2.2.2.2.2
end
end
section
/-! X's readers -/
theorem uk_lp {i : Nat} (N : Nat) (h : i < N) (hN : N < 2 ^ 31) : (¬ nI N ≤ nI i) ∧ vp_in (nI i) N ∧ (nI i).toNatClampNeg = i := ⟨nI_ge h hN, vp_in_nI h hN, nI_clamp (by omega)⟩
theorem uk_refl (a : Int32) : a ≤ a := Int32.le_refl a
theorem uk_inE {x : Int32} {n : Nat} {N : Int32} (hN : N = nI n) (hb : n < 2 ^ 31) : vp_in x n ↔ (¬ x < 0 ∧ ¬ N ≤ x) := by
  subst hN
  constructor
  · intro h
    obtain ⟨j, hj, rfl⟩ := vp_in_of h hb
    exact ⟨nI_pos (by omega), nI_ge hj hb⟩
  · rintro ⟨h1, h2⟩
    obtain ⟨j, hj, rfl⟩ := nI_of h1
    rw [nI_leI hb hj] at h2
    exact vp_in_nI (by omega) hb
section
variable {x_changes x_saidCount x_time x_lastSlot x_sliceSteps x_latestPid x_greatestPid : Int32} {x_code x_codeLengths x_pids x_parents x_programs x_places x_states x_statuses x_stepCounts x_copyCounts x_wakeTimes x_registers x_pageCounts x_pageFrames x_held x_frameUsers x_frameWords x_openHolders x_openKinds x_openTargets x_openPlaces x_openModes x_pipeFirsts x_pipeCounts x_pipeWords x_nameFiles x_fileSizes x_fileWords x_safeNames x_safeSizes x_safeWords x_saidInts : Nat → Int32}
theorem xk_isProgram {post : Int32 → Prop} {p : Int32} (ht : vp_in p 6 → post 1) (hf : ¬ vp_in p 6 → post 0) : wpX_isProgram post (x_changes, x_saidCount, x_time, x_lastSlot, x_sliceSteps, x_latestPid, x_greatestPid, x_code, x_codeLengths, x_pids, x_parents, x_programs, x_places, x_states, x_statuses, x_stepCounts, x_copyCounts, x_wakeTimes, x_registers, x_pageCounts, x_pageFrames, x_held, x_frameUsers, x_frameWords, x_openHolders, x_openKinds, x_openTargets, x_openPlaces, x_openModes, x_pipeFirsts, x_pipeCounts, x_pipeWords, x_nameFiles, x_fileSizes, x_fileWords, x_safeNames, x_safeSizes, x_safeWords, x_saidInts) p := by
  have e := uk_inE (x := p) (n := 6) (N := 6) rfl (by decide)
  unfold wpX_isProgram
  exact ⟨fun a => hf (fun z => (e.mp z).1 a), fun a => ⟨fun b => hf (fun z => (e.mp z).2 b), fun b => ht (e.mpr ⟨a, b⟩)⟩⟩
theorem xk_isRegister {post : Int32 → Prop} {p : Int32} (ht : vp_in p 4 → post 1) (hf : ¬ vp_in p 4 → post 0) : wpX_isRegister post (x_changes, x_saidCount, x_time, x_lastSlot, x_sliceSteps, x_latestPid, x_greatestPid, x_code, x_codeLengths, x_pids, x_parents, x_programs, x_places, x_states, x_statuses, x_stepCounts, x_copyCounts, x_wakeTimes, x_registers, x_pageCounts, x_pageFrames, x_held, x_frameUsers, x_frameWords, x_openHolders, x_openKinds, x_openTargets, x_openPlaces, x_openModes, x_pipeFirsts, x_pipeCounts, x_pipeWords, x_nameFiles, x_fileSizes, x_fileWords, x_safeNames, x_safeSizes, x_safeWords, x_saidInts) p := by
  have e := uk_inE (x := p) (n := 4) (N := 4) rfl (by decide)
  unfold wpX_isRegister
  exact ⟨fun a => hf (fun z => (e.mp z).1 a), fun a => ⟨fun b => hf (fun z => (e.mp z).2 b), fun b => ht (e.mpr ⟨a, b⟩)⟩⟩
theorem xk_isName {post : Int32 → Prop} {p : Int32} (ht : vp_in p 8 → post 1) (hf : ¬ vp_in p 8 → post 0) : wpX_isName post (x_changes, x_saidCount, x_time, x_lastSlot, x_sliceSteps, x_latestPid, x_greatestPid, x_code, x_codeLengths, x_pids, x_parents, x_programs, x_places, x_states, x_statuses, x_stepCounts, x_copyCounts, x_wakeTimes, x_registers, x_pageCounts, x_pageFrames, x_held, x_frameUsers, x_frameWords, x_openHolders, x_openKinds, x_openTargets, x_openPlaces, x_openModes, x_pipeFirsts, x_pipeCounts, x_pipeWords, x_nameFiles, x_fileSizes, x_fileWords, x_safeNames, x_safeSizes, x_safeWords, x_saidInts) p := by
  have e := uk_inE (x := p) (n := 8) (N := 8) rfl (by decide)
  unfold wpX_isName
  exact ⟨fun a => hf (fun z => (e.mp z).1 a), fun a => ⟨fun b => hf (fun z => (e.mp z).2 b), fun b => ht (e.mpr ⟨a, b⟩)⟩⟩
theorem xk_countProcesses {post : Int32 → Prop} (h : post (nI (uk_cn (fun s => x_pids s ≠ 0) 8))) : wpX_countProcesses post (x_changes, x_saidCount, x_time, x_lastSlot, x_sliceSteps, x_latestPid, x_greatestPid, x_code, x_codeLengths, x_pids, x_parents, x_programs, x_places, x_states, x_statuses, x_stepCounts, x_copyCounts, x_wakeTimes, x_registers, x_pageCounts, x_pageFrames, x_held, x_frameUsers, x_frameWords, x_openHolders, x_openKinds, x_openTargets, x_openPlaces, x_openModes, x_pipeFirsts, x_pipeCounts, x_pipeWords, x_nameFiles, x_fileSizes, x_fileWords, x_safeNames, x_safeSizes, x_safeWords, x_saidInts) := by
  unfold wpX_countProcesses
  refine uk_count (fun n i c => wX_countProcesses_4 post x_changes x_saidCount x_time x_lastSlot x_sliceSteps x_latestPid x_greatestPid x_code x_codeLengths x_pids x_parents x_programs x_places x_states x_statuses x_stepCounts x_copyCounts x_wakeTimes x_registers x_pageCounts x_pageFrames x_held x_frameUsers x_frameWords x_openHolders x_openKinds x_openTargets x_openPlaces x_openModes x_pipeFirsts x_pipeCounts x_pipeWords x_nameFiles x_fileSizes x_fileWords x_safeNames x_safeSizes x_safeWords x_saidInts n c (nI i)) (fun s => x_pids s ≠ 0) 8 (fun n => br_t (uk_refl 8) h) (fun n i c hi ht hf => ?_)
  obtain ⟨z, v, e⟩ := uk_lp 8 hi (by decide)
  refine br_f z ⟨v, ?_⟩
  rw [e]
  exact ⟨fun q => nm_r (nI_1 i) (hf (fun z => z q)), fun q => nm_r (nI_1 c) (nm_r (nI_1 i) (ht q))⟩
theorem xk_countFreeFrames {post : Int32 → Prop} (h : post (nI (uk_cn (fun f => x_frameUsers f = 0) 20))) : wpX_countFreeFrames post (x_changes, x_saidCount, x_time, x_lastSlot, x_sliceSteps, x_latestPid, x_greatestPid, x_code, x_codeLengths, x_pids, x_parents, x_programs, x_places, x_states, x_statuses, x_stepCounts, x_copyCounts, x_wakeTimes, x_registers, x_pageCounts, x_pageFrames, x_held, x_frameUsers, x_frameWords, x_openHolders, x_openKinds, x_openTargets, x_openPlaces, x_openModes, x_pipeFirsts, x_pipeCounts, x_pipeWords, x_nameFiles, x_fileSizes, x_fileWords, x_safeNames, x_safeSizes, x_safeWords, x_saidInts) := by
  unfold wpX_countFreeFrames
  refine uk_count (fun n i c => wX_countFreeFrames_4 post x_changes x_saidCount x_time x_lastSlot x_sliceSteps x_latestPid x_greatestPid x_code x_codeLengths x_pids x_parents x_programs x_places x_states x_statuses x_stepCounts x_copyCounts x_wakeTimes x_registers x_pageCounts x_pageFrames x_held x_frameUsers x_frameWords x_openHolders x_openKinds x_openTargets x_openPlaces x_openModes x_pipeFirsts x_pipeCounts x_pipeWords x_nameFiles x_fileSizes x_fileWords x_safeNames x_safeSizes x_safeWords x_saidInts n c (nI i)) (fun f => x_frameUsers f = 0) 20 (fun n => br_t (uk_refl 20) h) (fun n i c hi ht hf => ?_)
  obtain ⟨z, v, e⟩ := uk_lp 20 hi (by decide)
  refine br_f z ⟨v, ?_⟩
  rw [e]
  exact ⟨fun q => nm_r (nI_1 c) (nm_r (nI_1 i) (ht q)), fun q => nm_r (nI_1 i) (hf q)⟩
theorem xk_countOpens {post : Int32 → Prop} {k p : Int32} (h : post (nI (uk_cn (fun o => ¬ x_openHolders o ≤ 0 ∧ x_openKinds o = k ∧ x_openTargets o = p) 12))) : wpX_countOpens post (x_changes, x_saidCount, x_time, x_lastSlot, x_sliceSteps, x_latestPid, x_greatestPid, x_code, x_codeLengths, x_pids, x_parents, x_programs, x_places, x_states, x_statuses, x_stepCounts, x_copyCounts, x_wakeTimes, x_registers, x_pageCounts, x_pageFrames, x_held, x_frameUsers, x_frameWords, x_openHolders, x_openKinds, x_openTargets, x_openPlaces, x_openModes, x_pipeFirsts, x_pipeCounts, x_pipeWords, x_nameFiles, x_fileSizes, x_fileWords, x_safeNames, x_safeSizes, x_safeWords, x_saidInts) k p := by
  unfold wpX_countOpens
  refine uk_count (fun n i c => wX_countOpens_5 post k p x_changes x_saidCount x_time x_lastSlot x_sliceSteps x_latestPid x_greatestPid x_code x_codeLengths x_pids x_parents x_programs x_places x_states x_statuses x_stepCounts x_copyCounts x_wakeTimes x_registers x_pageCounts x_pageFrames x_held x_frameUsers x_frameWords x_openHolders x_openKinds x_openTargets x_openPlaces x_openModes x_pipeFirsts x_pipeCounts x_pipeWords x_nameFiles x_fileSizes x_fileWords x_safeNames x_safeSizes x_safeWords x_saidInts n c (nI i)) (fun o => ¬ x_openHolders o ≤ 0 ∧ x_openKinds o = k ∧ x_openTargets o = p) 12 (fun n => br_t (uk_refl 12) h) (fun n i c hi ht hf => ?_)
  obtain ⟨z, v, e⟩ := uk_lp 12 hi (by decide)
  refine br_f z ⟨v, ?_⟩
  rw [e]
  exact ⟨fun a => nm_r (nI_1 i) (hf (fun z => z.1 a)), fun a => ⟨v, fun b => ⟨v, fun d => nm_r (nI_1 c) (nm_r (nI_1 i) (ht ⟨a, b, d⟩)), fun d => nm_r (nI_1 i) (hf (fun z => d z.2.2))⟩, fun b => nm_r (nI_1 i) (hf (fun z => b z.2.1))⟩⟩
theorem xk_countOpenFiles {post : Int32 → Prop} (h : post (nI (uk_cn (fun o => ¬ x_openHolders o ≤ 0) 12))) : wpX_countOpenFiles post (x_changes, x_saidCount, x_time, x_lastSlot, x_sliceSteps, x_latestPid, x_greatestPid, x_code, x_codeLengths, x_pids, x_parents, x_programs, x_places, x_states, x_statuses, x_stepCounts, x_copyCounts, x_wakeTimes, x_registers, x_pageCounts, x_pageFrames, x_held, x_frameUsers, x_frameWords, x_openHolders, x_openKinds, x_openTargets, x_openPlaces, x_openModes, x_pipeFirsts, x_pipeCounts, x_pipeWords, x_nameFiles, x_fileSizes, x_fileWords, x_safeNames, x_safeSizes, x_safeWords, x_saidInts) := by
  unfold wpX_countOpenFiles
  refine uk_count (fun n i c => wX_countOpenFiles_4 post x_changes x_saidCount x_time x_lastSlot x_sliceSteps x_latestPid x_greatestPid x_code x_codeLengths x_pids x_parents x_programs x_places x_states x_statuses x_stepCounts x_copyCounts x_wakeTimes x_registers x_pageCounts x_pageFrames x_held x_frameUsers x_frameWords x_openHolders x_openKinds x_openTargets x_openPlaces x_openModes x_pipeFirsts x_pipeCounts x_pipeWords x_nameFiles x_fileSizes x_fileWords x_safeNames x_safeSizes x_safeWords x_saidInts n c (nI i)) (fun o => ¬ x_openHolders o ≤ 0) 12 (fun n => br_t (uk_refl 12) h) (fun n i c hi ht hf => ?_)
  obtain ⟨z, v, e⟩ := uk_lp 12 hi (by decide)
  refine br_f z ⟨v, ?_⟩
  rw [e]
  exact ⟨fun q => nm_r (nI_1 i) (hf (fun z => z q)), fun q => nm_r (nI_1 c) (nm_r (nI_1 i) (ht q))⟩
theorem xk_countNames {post : Int32 → Prop} {f : Int32} (h : post (nI (uk_cn (fun k => x_nameFiles k = f) 8))) : wpX_countNames post (x_changes, x_saidCount, x_time, x_lastSlot, x_sliceSteps, x_latestPid, x_greatestPid, x_code, x_codeLengths, x_pids, x_parents, x_programs, x_places, x_states, x_statuses, x_stepCounts, x_copyCounts, x_wakeTimes, x_registers, x_pageCounts, x_pageFrames, x_held, x_frameUsers, x_frameWords, x_openHolders, x_openKinds, x_openTargets, x_openPlaces, x_openModes, x_pipeFirsts, x_pipeCounts, x_pipeWords, x_nameFiles, x_fileSizes, x_fileWords, x_safeNames, x_safeSizes, x_safeWords, x_saidInts) f := by
  unfold wpX_countNames
  refine uk_count (fun n i c => wX_countNames_4 post f x_changes x_saidCount x_time x_lastSlot x_sliceSteps x_latestPid x_greatestPid x_code x_codeLengths x_pids x_parents x_programs x_places x_states x_statuses x_stepCounts x_copyCounts x_wakeTimes x_registers x_pageCounts x_pageFrames x_held x_frameUsers x_frameWords x_openHolders x_openKinds x_openTargets x_openPlaces x_openModes x_pipeFirsts x_pipeCounts x_pipeWords x_nameFiles x_fileSizes x_fileWords x_safeNames x_safeSizes x_safeWords x_saidInts n c (nI i)) (fun k => x_nameFiles k = f) 8 (fun n => br_t (uk_refl 8) h) (fun n i c hi ht hf => ?_)
  obtain ⟨z, v, e⟩ := uk_lp 8 hi (by decide)
  refine br_f z ⟨v, ?_⟩
  rw [e]
  exact ⟨fun q => nm_r (nI_1 c) (nm_r (nI_1 i) (ht q)), fun q => nm_r (nI_1 i) (hf q)⟩
theorem xk_findSlot {post : Int32 → Prop} {p : Int32} (h1 : p < 1 → post (-1)) (h2 : ¬ p < 1 → post (uk_ff (fun s => x_pids s = p) 8)) : wpX_findSlot post (x_changes, x_saidCount, x_time, x_lastSlot, x_sliceSteps, x_latestPid, x_greatestPid, x_code, x_codeLengths, x_pids, x_parents, x_programs, x_places, x_states, x_statuses, x_stepCounts, x_copyCounts, x_wakeTimes, x_registers, x_pageCounts, x_pageFrames, x_held, x_frameUsers, x_frameWords, x_openHolders, x_openKinds, x_openTargets, x_openPlaces, x_openModes, x_pipeFirsts, x_pipeCounts, x_pipeWords, x_nameFiles, x_fileSizes, x_fileWords, x_safeNames, x_safeSizes, x_safeWords, x_saidInts) p := by
  unfold wpX_findSlot
  refine ⟨fun a => ?_, fun a => h1 (Int32.not_le.mp a)⟩
  refine uk_first (fun n i => wX_findSlot_9 post p x_changes x_saidCount x_time x_lastSlot x_sliceSteps x_latestPid x_greatestPid x_code x_codeLengths x_pids x_parents x_programs x_places x_states x_statuses x_stepCounts x_copyCounts x_wakeTimes x_registers x_pageCounts x_pageFrames x_held x_frameUsers x_frameWords x_openHolders x_openKinds x_openTargets x_openPlaces x_openModes x_pipeFirsts x_pipeCounts x_pipeWords x_nameFiles x_fileSizes x_fileWords x_safeNames x_safeSizes x_safeWords x_saidInts n (nI i)) post (fun s => x_pids s = p) 8 (h2 (Int32.not_lt.mpr a)) (fun n h => br_t (uk_refl 8) h) (fun n i hi ht hf => ?_)
  obtain ⟨z, v, e⟩ := uk_lp 8 hi (by decide)
  refine br_f z ⟨v, ?_⟩
  rw [e]
  exact ⟨ht, fun q => nm_r (nI_1 i) (hf q)⟩
theorem xk_freeSlot {post : Int32 → Prop} (h : post (uk_ff (fun s => x_pids s = 0) 8)) : wpX_freeSlot post (x_changes, x_saidCount, x_time, x_lastSlot, x_sliceSteps, x_latestPid, x_greatestPid, x_code, x_codeLengths, x_pids, x_parents, x_programs, x_places, x_states, x_statuses, x_stepCounts, x_copyCounts, x_wakeTimes, x_registers, x_pageCounts, x_pageFrames, x_held, x_frameUsers, x_frameWords, x_openHolders, x_openKinds, x_openTargets, x_openPlaces, x_openModes, x_pipeFirsts, x_pipeCounts, x_pipeWords, x_nameFiles, x_fileSizes, x_fileWords, x_safeNames, x_safeSizes, x_safeWords, x_saidInts) := by
  unfold wpX_freeSlot
  refine uk_first (fun n i => wX_freeSlot_2 post x_changes x_saidCount x_time x_lastSlot x_sliceSteps x_latestPid x_greatestPid x_code x_codeLengths x_pids x_parents x_programs x_places x_states x_statuses x_stepCounts x_copyCounts x_wakeTimes x_registers x_pageCounts x_pageFrames x_held x_frameUsers x_frameWords x_openHolders x_openKinds x_openTargets x_openPlaces x_openModes x_pipeFirsts x_pipeCounts x_pipeWords x_nameFiles x_fileSizes x_fileWords x_safeNames x_safeSizes x_safeWords x_saidInts n (nI i)) post (fun s => x_pids s = 0) 8 h (fun n h => br_t (uk_refl 8) h) (fun n i hi ht hf => ?_)
  obtain ⟨z, v, e⟩ := uk_lp 8 hi (by decide)
  refine br_f z ⟨v, ?_⟩
  rw [e]
  exact ⟨ht, fun q => nm_r (nI_1 i) (hf q)⟩
theorem xk_freeFrame {post : Int32 → Prop} (h : post (uk_ff (fun f => x_frameUsers f = 0) 20)) : wpX_freeFrame post (x_changes, x_saidCount, x_time, x_lastSlot, x_sliceSteps, x_latestPid, x_greatestPid, x_code, x_codeLengths, x_pids, x_parents, x_programs, x_places, x_states, x_statuses, x_stepCounts, x_copyCounts, x_wakeTimes, x_registers, x_pageCounts, x_pageFrames, x_held, x_frameUsers, x_frameWords, x_openHolders, x_openKinds, x_openTargets, x_openPlaces, x_openModes, x_pipeFirsts, x_pipeCounts, x_pipeWords, x_nameFiles, x_fileSizes, x_fileWords, x_safeNames, x_safeSizes, x_safeWords, x_saidInts) := by
  unfold wpX_freeFrame
  refine uk_first (fun n i => wX_freeFrame_2 post x_changes x_saidCount x_time x_lastSlot x_sliceSteps x_latestPid x_greatestPid x_code x_codeLengths x_pids x_parents x_programs x_places x_states x_statuses x_stepCounts x_copyCounts x_wakeTimes x_registers x_pageCounts x_pageFrames x_held x_frameUsers x_frameWords x_openHolders x_openKinds x_openTargets x_openPlaces x_openModes x_pipeFirsts x_pipeCounts x_pipeWords x_nameFiles x_fileSizes x_fileWords x_safeNames x_safeSizes x_safeWords x_saidInts n (nI i)) post (fun f => x_frameUsers f = 0) 20 h (fun n h => br_t (uk_refl 20) h) (fun n i hi ht hf => ?_)
  obtain ⟨z, v, e⟩ := uk_lp 20 hi (by decide)
  refine br_f z ⟨v, ?_⟩
  rw [e]
  exact ⟨ht, fun q => nm_r (nI_1 i) (hf q)⟩
theorem xk_freeDescriptor {post : Int32 → Prop} {s j : Nat} (hs : s < 8) (hj : j ≤ 6) (h : post (uk_fg (fun d => x_held (6 * s + d) = -1) (6 - j) j)) : wpX_freeDescriptor post (x_changes, x_saidCount, x_time, x_lastSlot, x_sliceSteps, x_latestPid, x_greatestPid, x_code, x_codeLengths, x_pids, x_parents, x_programs, x_places, x_states, x_statuses, x_stepCounts, x_copyCounts, x_wakeTimes, x_registers, x_pageCounts, x_pageFrames, x_held, x_frameUsers, x_frameWords, x_openHolders, x_openKinds, x_openTargets, x_openPlaces, x_openModes, x_pipeFirsts, x_pipeCounts, x_pipeWords, x_nameFiles, x_fileSizes, x_fileWords, x_safeNames, x_safeSizes, x_safeWords, x_saidInts) (nI s) (nI j) := by
  unfold wpX_freeDescriptor
  refine ⟨6 - j + 1, uk_firstG (fun n i => wX_freeDescriptor_2 post (nI s) x_changes x_saidCount x_time x_lastSlot x_sliceSteps x_latestPid x_greatestPid x_code x_codeLengths x_pids x_parents x_programs x_places x_states x_statuses x_stepCounts x_copyCounts x_wakeTimes x_registers x_pageCounts x_pageFrames x_held x_frameUsers x_frameWords x_openHolders x_openKinds x_openTargets x_openPlaces x_openModes x_pipeFirsts x_pipeCounts x_pipeWords x_nameFiles x_fileSizes x_fileWords x_safeNames x_safeSizes x_safeWords x_saidInts n (nI i)) post (fun d => x_held (6 * s + d) = -1) 6 (fun n h => br_t (uk_refl 6) h) (fun n i hi ht hf => ?_) (6 - j) j (by omega) h⟩
  obtain ⟨z, v, e⟩ := uk_lp 6 hi (by decide)
  refine br_f z ?_
  rw [uk_m6, nI_add]
  refine ⟨vp_in_nI (by omega) (by omega), ?_⟩
  rw [nI_clamp (by omega)]
  exact ⟨ht, fun q => nm_r (nI_1 i) (hf q)⟩
theorem xk_freeOpen {post : Int32 → Prop} {j : Nat} (hj : j ≤ 12) (h : post (uk_fg (fun o => x_openHolders o = 0) (12 - j) j)) : wpX_freeOpen post (x_changes, x_saidCount, x_time, x_lastSlot, x_sliceSteps, x_latestPid, x_greatestPid, x_code, x_codeLengths, x_pids, x_parents, x_programs, x_places, x_states, x_statuses, x_stepCounts, x_copyCounts, x_wakeTimes, x_registers, x_pageCounts, x_pageFrames, x_held, x_frameUsers, x_frameWords, x_openHolders, x_openKinds, x_openTargets, x_openPlaces, x_openModes, x_pipeFirsts, x_pipeCounts, x_pipeWords, x_nameFiles, x_fileSizes, x_fileWords, x_safeNames, x_safeSizes, x_safeWords, x_saidInts) (nI j) := by
  unfold wpX_freeOpen
  refine ⟨12 - j + 1, uk_firstG (fun n i => wX_freeOpen_2 post x_changes x_saidCount x_time x_lastSlot x_sliceSteps x_latestPid x_greatestPid x_code x_codeLengths x_pids x_parents x_programs x_places x_states x_statuses x_stepCounts x_copyCounts x_wakeTimes x_registers x_pageCounts x_pageFrames x_held x_frameUsers x_frameWords x_openHolders x_openKinds x_openTargets x_openPlaces x_openModes x_pipeFirsts x_pipeCounts x_pipeWords x_nameFiles x_fileSizes x_fileWords x_safeNames x_safeSizes x_safeWords x_saidInts n (nI i)) post (fun o => x_openHolders o = 0) 12 (fun n h => br_t (uk_refl 12) h) (fun n i hi ht hf => ?_) (12 - j) j (by omega) h⟩
  obtain ⟨z, v, e⟩ := uk_lp 12 hi (by decide)
  refine br_f z ⟨v, ?_⟩
  rw [e]
  exact ⟨ht, fun q => nm_r (nI_1 i) (hf q)⟩
theorem xk_hasChild {post : Int32 → Prop} {s : Nat} (hs : s < 8) (ht : (∃ k, k < 8 ∧ x_pids k ≠ 0 ∧ x_parents k = x_pids s) → post 1) (hf : (∀ k, k < 8 → ¬ (x_pids k ≠ 0 ∧ x_parents k = x_pids s)) → post 0) : wpX_hasChild post (x_changes, x_saidCount, x_time, x_lastSlot, x_sliceSteps, x_latestPid, x_greatestPid, x_code, x_codeLengths, x_pids, x_parents, x_programs, x_places, x_states, x_statuses, x_stepCounts, x_copyCounts, x_wakeTimes, x_registers, x_pageCounts, x_pageFrames, x_held, x_frameUsers, x_frameWords, x_openHolders, x_openKinds, x_openTargets, x_openPlaces, x_openModes, x_pipeFirsts, x_pipeCounts, x_pipeWords, x_nameFiles, x_fileSizes, x_fileWords, x_safeNames, x_safeSizes, x_safeWords, x_saidInts) (nI s) := by
  unfold wpX_hasChild
  obtain ⟨_, vs, es⟩ := uk_lp 8 hs (by decide)
  refine uk_any (fun n i => wX_hasChild_2 post (nI s) x_changes x_saidCount x_time x_lastSlot x_sliceSteps x_latestPid x_greatestPid x_code x_codeLengths x_pids x_parents x_programs x_places x_states x_statuses x_stepCounts x_copyCounts x_wakeTimes x_registers x_pageCounts x_pageFrames x_held x_frameUsers x_frameWords x_openHolders x_openKinds x_openTargets x_openPlaces x_openModes x_pipeFirsts x_pipeCounts x_pipeWords x_nameFiles x_fileSizes x_fileWords x_safeNames x_safeSizes x_safeWords x_saidInts n (nI i)) (fun k => x_pids k ≠ 0 ∧ x_parents k = x_pids s) 8 (fun h n => br_t (uk_refl 8) (hf h)) (fun n i hi h => ?_) (fun n i hi h ih => ?_)
  · obtain ⟨z, v, e⟩ := uk_lp 8 hi (by decide)
    refine br_f z ⟨v, ?_⟩
    rw [e, es]
    exact br_f h.1 ⟨v, vs, br_t h.2 (ht ⟨i, hi, h⟩)⟩
  · obtain ⟨z, v, e⟩ := uk_lp 8 hi (by decide)
    refine br_f z ⟨v, ?_⟩
    rw [e, es]
    exact ⟨fun _ => nm_r (nI_1 i) ih, fun a => ⟨v, vs, fun b => absurd ⟨a, b⟩ h, fun _ => nm_r (nI_1 i) ih⟩⟩
theorem xk_isFreePipe {post : Int32 → Prop} {p : Int32} (ht : (∀ o, o < 12 → ¬ (¬ x_openHolders o ≤ 0 ∧ x_openKinds o ≠ 1 ∧ x_openTargets o = p)) → post 1) (hf : (∃ o, o < 12 ∧ ¬ x_openHolders o ≤ 0 ∧ x_openKinds o ≠ 1 ∧ x_openTargets o = p) → post 0) : wpX_isFreePipe post (x_changes, x_saidCount, x_time, x_lastSlot, x_sliceSteps, x_latestPid, x_greatestPid, x_code, x_codeLengths, x_pids, x_parents, x_programs, x_places, x_states, x_statuses, x_stepCounts, x_copyCounts, x_wakeTimes, x_registers, x_pageCounts, x_pageFrames, x_held, x_frameUsers, x_frameWords, x_openHolders, x_openKinds, x_openTargets, x_openPlaces, x_openModes, x_pipeFirsts, x_pipeCounts, x_pipeWords, x_nameFiles, x_fileSizes, x_fileWords, x_safeNames, x_safeSizes, x_safeWords, x_saidInts) p := by
  unfold wpX_isFreePipe
  refine uk_any (fun n i => wX_isFreePipe_2 post p x_changes x_saidCount x_time x_lastSlot x_sliceSteps x_latestPid x_greatestPid x_code x_codeLengths x_pids x_parents x_programs x_places x_states x_statuses x_stepCounts x_copyCounts x_wakeTimes x_registers x_pageCounts x_pageFrames x_held x_frameUsers x_frameWords x_openHolders x_openKinds x_openTargets x_openPlaces x_openModes x_pipeFirsts x_pipeCounts x_pipeWords x_nameFiles x_fileSizes x_fileWords x_safeNames x_safeSizes x_safeWords x_saidInts n (nI i)) (fun o => ¬ x_openHolders o ≤ 0 ∧ x_openKinds o ≠ 1 ∧ x_openTargets o = p) 12 (fun h n => br_t (uk_refl 12) (ht h)) (fun n i hi h => ?_) (fun n i hi h ih => ?_)
  · obtain ⟨z, v, e⟩ := uk_lp 12 hi (by decide)
    refine br_f z ⟨v, ?_⟩
    rw [e]
    exact br_f h.1 ⟨v, br_f h.2.1 ⟨v, br_t h.2.2 (hf ⟨i, hi, h⟩)⟩⟩
  · obtain ⟨z, v, e⟩ := uk_lp 12 hi (by decide)
    refine br_f z ⟨v, ?_⟩
    rw [e]
    exact ⟨fun _ => nm_r (nI_1 i) ih, fun a => ⟨v, fun _ => nm_r (nI_1 i) ih, fun b => ⟨v, fun c => absurd ⟨a, b, c⟩ h, fun _ => nm_r (nI_1 i) ih⟩⟩⟩
theorem xk_isFreeFile {post : Int32 → Prop} {f : Int32} (ht : (∀ k, k < 8 → x_nameFiles k ≠ f) → (∀ o, o < 12 → ¬ (¬ x_openHolders o ≤ 0 ∧ x_openKinds o = 1 ∧ x_openTargets o = f)) → post 1) (hf : ((∃ k, k < 8 ∧ x_nameFiles k = f) ∨ (∃ o, o < 12 ∧ ¬ x_openHolders o ≤ 0 ∧ x_openKinds o = 1 ∧ x_openTargets o = f)) → post 0) : wpX_isFreeFile post (x_changes, x_saidCount, x_time, x_lastSlot, x_sliceSteps, x_latestPid, x_greatestPid, x_code, x_codeLengths, x_pids, x_parents, x_programs, x_places, x_states, x_statuses, x_stepCounts, x_copyCounts, x_wakeTimes, x_registers, x_pageCounts, x_pageFrames, x_held, x_frameUsers, x_frameWords, x_openHolders, x_openKinds, x_openTargets, x_openPlaces, x_openModes, x_pipeFirsts, x_pipeCounts, x_pipeWords, x_nameFiles, x_fileSizes, x_fileWords, x_safeNames, x_safeSizes, x_safeWords, x_saidInts) f := by
  unfold wpX_isFreeFile
  refine uk_any (fun n i => wX_isFreeFile_2 post f x_changes x_saidCount x_time x_lastSlot x_sliceSteps x_latestPid x_greatestPid x_code x_codeLengths x_pids x_parents x_programs x_places x_states x_statuses x_stepCounts x_copyCounts x_wakeTimes x_registers x_pageCounts x_pageFrames x_held x_frameUsers x_frameWords x_openHolders x_openKinds x_openTargets x_openPlaces x_openModes x_pipeFirsts x_pipeCounts x_pipeWords x_nameFiles x_fileSizes x_fileWords x_safeNames x_safeSizes x_safeWords x_saidInts n (nI i)) (fun k => x_nameFiles k = f) 8 (fun hN n => br_t (uk_refl 8) ?_) (fun n i hi h => ?_) (fun n i hi h ih => ?_)
  · refine uk_any (fun n i => wX_isFreeFile_28 post f x_changes x_saidCount x_time x_lastSlot x_sliceSteps x_latestPid x_greatestPid x_code x_codeLengths x_pids x_parents x_programs x_places x_states x_statuses x_stepCounts x_copyCounts x_wakeTimes x_registers x_pageCounts x_pageFrames x_held x_frameUsers x_frameWords x_openHolders x_openKinds x_openTargets x_openPlaces x_openModes x_pipeFirsts x_pipeCounts x_pipeWords x_nameFiles x_fileSizes x_fileWords x_safeNames x_safeSizes x_safeWords x_saidInts n (nI i)) (fun o => ¬ x_openHolders o ≤ 0 ∧ x_openKinds o = 1 ∧ x_openTargets o = f) 12 (fun h n => br_t (uk_refl 12) (ht hN h)) (fun n i hi h => ?_) (fun n i hi h ih => ?_)
    · obtain ⟨z, v, e⟩ := uk_lp 12 hi (by decide)
      refine br_f z ⟨v, ?_⟩
      rw [e]
      exact br_f h.1 ⟨v, br_t h.2.1 ⟨v, br_t h.2.2 (hf (Or.inr ⟨i, hi, h⟩))⟩⟩
    · obtain ⟨z, v, e⟩ := uk_lp 12 hi (by decide)
      refine br_f z ⟨v, ?_⟩
      rw [e]
      exact ⟨fun _ => nm_r (nI_1 i) ih, fun a => ⟨v, fun b => ⟨v, fun c => absurd ⟨a, b, c⟩ h, fun _ => nm_r (nI_1 i) ih⟩, fun _ => nm_r (nI_1 i) ih⟩⟩
  · obtain ⟨z, v, e⟩ := uk_lp 8 hi (by decide)
    refine br_f z ⟨v, ?_⟩
    rw [e]
    exact br_t h (hf (Or.inl ⟨i, hi, h⟩))
  · obtain ⟨z, v, e⟩ := uk_lp 8 hi (by decide)
    refine br_f z ⟨v, ?_⟩
    rw [e]
    exact br_f h (nm_r (nI_1 i) ih)
end
end
section
/-! Y's readers -/
theorem uk_vb0 : vp_nar .boolean 0 = 0 := rfl
theorem uk_vb1 : vp_nar .boolean 1 = 1 := rfl
theorem uk_le0 {x : Int32} (h : ¬ x < 0) : x ≤ 0 ↔ x = 0 := by
  obtain ⟨j, hj, rfl⟩ := nI_of h
  rw [show (0 : Int32) = nI 0 from rfl, nI_leI hj (by decide), nI_eq hj (by decide)]
  omega
theorem uk_lt1 {x : Int32} : x < 1 ↔ x ≤ 0 := by
  by_cases h : x < 0
  · exact ⟨fun _ => Int32.le_of_lt h, fun _ => Int32.lt_of_lt_of_le h (by decide)⟩
  · obtain ⟨j, hj, rfl⟩ := nI_of h
    rw [show (1 : Int32) = nI 1 from rfl, show (0 : Int32) = nI 0 from rfl, nI_leI hj (by decide), nI_ltI hj (by decide)]
    omega
theorem yk_no {post : Int32 → Prop} {x m : Int32} (n : Nat) (hm : m = nI n) (hb : n + 1 < 2 ^ 31) (hf : vp_in x (n + 1) → post 0) (ht : ¬ vp_in x (n + 1) → post 1) : wpY_no post x m := by
  subst hm
  have e := uk_inE (x := x) (n := n + 1) rfl hb
  have e2 : ¬ x < 0 → (¬ nI (n + 1) ≤ x ↔ x ≤ nI n) := fun h => by
    obtain ⟨j, hj, rfl⟩ := nI_of h
    rw [nI_leI hb hj, nI_leI hj (by omega)]; omega
  unfold wpY_no
  exact ⟨fun a => ht (fun z => (e.mp z).1 a), fun a => ⟨fun b => hf (e.mpr ⟨a, (e2 a).mpr b⟩), fun b => ht (fun z => b ((e2 a).mp (e.mp z).2))⟩⟩
section
variable {y_changes y_time y_last y_lastPid y_did y_greatest y_stepped y_says y_killed : Int32} {y_ops y_as y_bs y_length y_pid y_parent y_program y_pc y_status y_steps y_copies y_pages y_wake y_zombie y_blocked y_reg y_memory y_frame y_descriptor y_kind y_of y_mode y_place y_piped y_pipe y_names y_size y_words y_safeNames y_safeSize y_safeWords y_said : Nat → Int32}
theorem yk_processes {post : Int32 → Prop} (hP : ∀ s, s < 8 → ¬ y_pid s < 0) (h : post (nI (uk_cn (fun s => y_pid s ≠ 0) 8))) : wpY_processes post (y_changes, y_time, y_last, y_lastPid, y_did, y_greatest, y_stepped, y_says, y_killed, y_ops, y_as, y_bs, y_length, y_pid, y_parent, y_program, y_pc, y_status, y_steps, y_copies, y_pages, y_wake, y_zombie, y_blocked, y_reg, y_memory, y_frame, y_descriptor, y_kind, y_of, y_mode, y_place, y_piped, y_pipe, y_names, y_size, y_words, y_safeNames, y_safeSize, y_safeWords, y_said) := by
  unfold wpY_processes
  refine uk_count (fun n i c => wY_processes_4 post y_changes y_time y_last y_lastPid y_did y_greatest y_stepped y_says y_killed y_ops y_as y_bs y_length y_pid y_parent y_program y_pc y_status y_steps y_copies y_pages y_wake y_zombie y_blocked y_reg y_memory y_frame y_descriptor y_kind y_of y_mode y_place y_piped y_pipe y_names y_size y_words y_safeNames y_safeSize y_safeWords y_said n c (nI i)) (fun s => y_pid s ≠ 0) 8 (fun n => br_t (uk_refl 8) h) (fun n i c hi ht hf => ?_)
  obtain ⟨z, v, e⟩ := uk_lp 8 hi (by decide)
  refine br_f z ⟨v, ?_⟩
  rw [e, uk_le0 (hP i hi)]
  exact ⟨fun q => nm_r (nI_1 i) (hf (fun z => z q)), fun q => nm_r (nI_1 c) (nm_r (nI_1 i) (ht q))⟩
theorem yk_slotOf {post : Int32 → Prop} {p : Int32} (h1 : p < 1 → post (-1)) (h2 : ¬ p < 1 → post (uk_ff (fun s => y_pid s = p) 8)) : wpY_slotOf post (y_changes, y_time, y_last, y_lastPid, y_did, y_greatest, y_stepped, y_says, y_killed, y_ops, y_as, y_bs, y_length, y_pid, y_parent, y_program, y_pc, y_status, y_steps, y_copies, y_pages, y_wake, y_zombie, y_blocked, y_reg, y_memory, y_frame, y_descriptor, y_kind, y_of, y_mode, y_place, y_piped, y_pipe, y_names, y_size, y_words, y_safeNames, y_safeSize, y_safeWords, y_said) p := by
  unfold wpY_slotOf
  by_cases hp : p < 1
  · refine uk_any (fun n i => wY_slotOf_2 post p y_changes y_time y_last y_lastPid y_did y_greatest y_stepped y_says y_killed y_ops y_as y_bs y_length y_pid y_parent y_program y_pc y_status y_steps y_copies y_pages y_wake y_zombie y_blocked y_reg y_memory y_frame y_descriptor y_kind y_of y_mode y_place y_piped y_pipe y_names y_size y_words y_safeNames y_safeSize y_safeWords y_said n (nI i)) (fun _ => False) 8 (fun _ n => br_t (uk_refl 8) (h1 hp)) (fun n i hi h => h.elim) (fun n i hi h ih => ?_)
    obtain ⟨z, v, e⟩ := uk_lp 8 hi (by decide)
    exact br_f z ⟨v, fun _ => br_t (uk_lt1.mp hp) (nm_r (nI_1 i) ih), fun _ => nm_r (nI_1 i) ih⟩
  · refine uk_first (fun n i => wY_slotOf_2 post p y_changes y_time y_last y_lastPid y_did y_greatest y_stepped y_says y_killed y_ops y_as y_bs y_length y_pid y_parent y_program y_pc y_status y_steps y_copies y_pages y_wake y_zombie y_blocked y_reg y_memory y_frame y_descriptor y_kind y_of y_mode y_place y_piped y_pipe y_names y_size y_words y_safeNames y_safeSize y_safeWords y_said n (nI i)) post (fun s => y_pid s = p) 8 (h2 hp) (fun n h => br_t (uk_refl 8) h) (fun n i hi ht hf => ?_)
    obtain ⟨z, v, e⟩ := uk_lp 8 hi (by decide)
    refine br_f z ⟨v, ?_⟩
    rw [e]
    exact ⟨fun q => br_f (fun w => hp (uk_lt1.mpr w)) (ht q), fun q => nm_r (nI_1 i) (hf q)⟩
theorem yk_isUsed_in {post J : Int32 → Prop} {f : Int32} {i : Nat} (hi : i < 8) (hP : ¬ y_pid i < 0) (hn : y_pid i ≠ 0 → ∃ n, n ≤ 8 ∧ y_pages i = nI n) (h1 : (y_pid i ≠ 0 ∧ ∃ p, p < (y_pages i).toNatClampNeg ∧ y_frame (8 * i + p) = f) → post 1) (h0 : ¬ (y_pid i ≠ 0 ∧ ∃ p, p < (y_pages i).toNatClampNeg ∧ y_frame (8 * i + p) = f) → J (nI (i + 1))) : ∃ m, wY_isUsed_10 post J f (nI i) y_changes y_time y_last y_lastPid y_did y_greatest y_stepped y_says y_killed y_ops y_as y_bs y_length y_pid y_parent y_program y_pc y_status y_steps y_copies y_pages y_wake y_zombie y_blocked y_reg y_memory y_frame y_descriptor y_kind y_of y_mode y_place y_piped y_pipe y_names y_size y_words y_safeNames y_safeSize y_safeWords y_said m 0 := by
  obtain ⟨_, v, e⟩ := uk_lp 8 hi (by decide)
  by_cases hp0 : y_pid i = 0
  · refine ⟨1, v, ?_⟩
    have hJ := h0 (fun z => z.1 hp0)
    rw [e]
    exact ⟨fun _ => nm_r (nI_1 i) hJ, fun _ => ⟨v, br_t ((uk_le0 hP).mpr hp0) (nm_r (nI_1 i) hJ)⟩⟩
  · obtain ⟨n, hn8, en⟩ := hn hp0
    have hle : ¬ y_pid i ≤ 0 := fun z => hp0 ((uk_le0 hP).mp z)
    have ec : (y_pages i).toNatClampNeg = n := by rw [en, nI_clamp (by omega)]
    rw [ec] at h1 h0
    refine uk_any (fun m p => wY_isUsed_10 post J f (nI i) y_changes y_time y_last y_lastPid y_did y_greatest y_stepped y_says y_killed y_ops y_as y_bs y_length y_pid y_parent y_program y_pc y_status y_steps y_copies y_pages y_wake y_zombie y_blocked y_reg y_memory y_frame y_descriptor y_kind y_of y_mode y_place y_piped y_pipe y_names y_size y_words y_safeNames y_safeSize y_safeWords y_said m (nI p)) (fun p => y_frame (8 * i + p) = f) n (fun hx m => ⟨v, ?_⟩) (fun m p hp h => ⟨v, ?_⟩) (fun m p hp h ih => ⟨v, ?_⟩)
    · rw [e, en]
      exact br_t (uk_refl _) (nm_r (nI_1 i) (h0 (fun z => by
        obtain ⟨_, p, hp, q⟩ := z
        exact hx p hp q)))
    · rw [e, en]
      refine br_f (nI_ge hp (by omega)) ⟨v, ?_⟩
      rw [uk_8m, nI_add, nI_clamp (show 8 * i + p < 2 ^ 31 by omega)]
      exact br_f hle ⟨vp_in_nI (by omega) (by omega), br_t h (h1 ⟨hp0, p, hp, h⟩)⟩
    · rw [e, en]
      refine br_f (nI_ge hp (by omega)) ⟨v, ?_⟩
      rw [uk_8m, nI_add, nI_clamp (show 8 * i + p < 2 ^ 31 by omega)]
      exact br_f hle ⟨vp_in_nI (by omega) (by omega), br_f h (nm_r (nI_1 p) ih)⟩
theorem yk_isUsed {post : Int32 → Prop} {f : Nat} (hP : ∀ s, s < 8 → ¬ y_pid s < 0) (hn : ∀ s, s < 8 → y_pid s ≠ 0 → ∃ n, n ≤ 8 ∧ y_pages s = nI n) (ht : uk_sm (uk_rw y_pid y_pages y_frame f) 8 ≠ 0 → post 1) (hf : uk_sm (uk_rw y_pid y_pages y_frame f) 8 = 0 → post 0) : wpY_isUsed post (y_changes, y_time, y_last, y_lastPid, y_did, y_greatest, y_stepped, y_says, y_killed, y_ops, y_as, y_bs, y_length, y_pid, y_parent, y_program, y_pc, y_status, y_steps, y_copies, y_pages, y_wake, y_zombie, y_blocked, y_reg, y_memory, y_frame, y_descriptor, y_kind, y_of, y_mode, y_place, y_piped, y_pipe, y_names, y_size, y_words, y_safeNames, y_safeSize, y_safeWords, y_said) (nI f) := by
  have hu := uk_used y_pid y_pages y_frame f
  unfold wpY_isUsed
  refine uk_any (fun n i => wY_isUsed_2 post (nI f) y_changes y_time y_last y_lastPid y_did y_greatest y_stepped y_says y_killed y_ops y_as y_bs y_length y_pid y_parent y_program y_pc y_status y_steps y_copies y_pages y_wake y_zombie y_blocked y_reg y_memory y_frame y_descriptor y_kind y_of y_mode y_place y_piped y_pipe y_names y_size y_words y_safeNames y_safeSize y_safeWords y_said n (nI i)) (fun s => y_pid s ≠ 0 ∧ ∃ p, p < (y_pages s).toNatClampNeg ∧ y_frame (8 * s + p) = nI f) 8 (fun hx n => br_t (uk_refl 8) (hf (Classical.byContradiction (fun z => ?_)))) (fun n i hi h => ?_) (fun n i hi h ih => ?_)
  · obtain ⟨s, hs, a⟩ := hu.mp z
    exact hx s hs a
  · obtain ⟨z, _, _⟩ := uk_lp 8 hi (by decide)
    exact br_f z (yk_isUsed_in hi (hP i hi) (hn i hi) (fun _ => ht (hu.mpr ⟨i, hi, h⟩)) (fun w => absurd h w))
  · obtain ⟨z, _, _⟩ := uk_lp 8 hi (by decide)
    exact br_f z (yk_isUsed_in hi (hP i hi) (hn i hi) (fun w => absurd w h) (fun _ => ih))
theorem yk_freeFrames {post : Int32 → Prop} (hP : ∀ s, s < 8 → ¬ y_pid s < 0) (hn : ∀ s, s < 8 → y_pid s ≠ 0 → ∃ n, n ≤ 8 ∧ y_pages s = nI n) (h : post (nI (uk_cn (fun f => uk_sm (uk_rw y_pid y_pages y_frame f) 8 = 0) 20))) : wpY_freeFrames post (y_changes, y_time, y_last, y_lastPid, y_did, y_greatest, y_stepped, y_says, y_killed, y_ops, y_as, y_bs, y_length, y_pid, y_parent, y_program, y_pc, y_status, y_steps, y_copies, y_pages, y_wake, y_zombie, y_blocked, y_reg, y_memory, y_frame, y_descriptor, y_kind, y_of, y_mode, y_place, y_piped, y_pipe, y_names, y_size, y_words, y_safeNames, y_safeSize, y_safeWords, y_said) := by
  unfold wpY_freeFrames
  refine uk_count (fun n i c => wY_freeFrames_4 post y_changes y_time y_last y_lastPid y_did y_greatest y_stepped y_says y_killed y_ops y_as y_bs y_length y_pid y_parent y_program y_pc y_status y_steps y_copies y_pages y_wake y_zombie y_blocked y_reg y_memory y_frame y_descriptor y_kind y_of y_mode y_place y_piped y_pipe y_names y_size y_words y_safeNames y_safeSize y_safeWords y_said n c (nI i)) (fun f => uk_sm (uk_rw y_pid y_pages y_frame f) 8 = 0) 20 (fun n => br_t (uk_refl 20) h) (fun n i c hi ht hf => ?_)
  obtain ⟨z, v, e⟩ := uk_lp 20 hi (by decide)
  refine br_f z ?_
  exact yk_isUsed hP hn (fun a => br_f (by decide) (nm_r (nI_1 i) (hf a))) (fun a => br_t rfl (nm_r (nI_1 c) (nm_r (nI_1 i) (ht a))))
theorem yk_freeFrame {post : Int32 → Prop} (hP : ∀ s, s < 8 → ¬ y_pid s < 0) (hn : ∀ s, s < 8 → y_pid s ≠ 0 → ∃ n, n ≤ 8 ∧ y_pages s = nI n) (h : post (uk_ff (fun f => uk_sm (uk_rw y_pid y_pages y_frame f) 8 = 0) 20)) : wpY_freeFrame post (y_changes, y_time, y_last, y_lastPid, y_did, y_greatest, y_stepped, y_says, y_killed, y_ops, y_as, y_bs, y_length, y_pid, y_parent, y_program, y_pc, y_status, y_steps, y_copies, y_pages, y_wake, y_zombie, y_blocked, y_reg, y_memory, y_frame, y_descriptor, y_kind, y_of, y_mode, y_place, y_piped, y_pipe, y_names, y_size, y_words, y_safeNames, y_safeSize, y_safeWords, y_said) := by
  unfold wpY_freeFrame
  refine uk_first (fun n i => wY_freeFrame_2 post y_changes y_time y_last y_lastPid y_did y_greatest y_stepped y_says y_killed y_ops y_as y_bs y_length y_pid y_parent y_program y_pc y_status y_steps y_copies y_pages y_wake y_zombie y_blocked y_reg y_memory y_frame y_descriptor y_kind y_of y_mode y_place y_piped y_pipe y_names y_size y_words y_safeNames y_safeSize y_safeWords y_said n (nI i)) post (fun f => uk_sm (uk_rw y_pid y_pages y_frame f) 8 = 0) 20 h (fun n h => br_t (uk_refl 20) (br_t rfl h)) (fun n i hi ht hf => ?_)
  obtain ⟨z, v, e⟩ := uk_lp 20 hi (by decide)
  refine br_f z ?_
  exact yk_isUsed hP hn (fun a => br_f (by decide) (nm_r (nI_1 i) (hf a))) (fun a => br_t rfl (br_f (fun w => absurd ((nI_eq (b := 20) (by omega) (by decide)).mp w) (by omega)) (ht a)))
theorem yk_sharers_in {post : Int32 → Prop} {J : Int32 → Int32 → Prop} {f i c : Nat} (hi : i < 8) (hP : ¬ y_pid i < 0) (hn : y_pid i ≠ 0 → ∃ n, n ≤ 8 ∧ y_pages i = nI n) (h : J (nI (c + uk_rw y_pid y_pages y_frame f i)) (nI (i + 1))) : ∃ m, wY_sharers_13 post J (nI f) (nI i) y_changes y_time y_last y_lastPid y_did y_greatest y_stepped y_says y_killed y_ops y_as y_bs y_length y_pid y_parent y_program y_pc y_status y_steps y_copies y_pages y_wake y_zombie y_blocked y_reg y_memory y_frame y_descriptor y_kind y_of y_mode y_place y_piped y_pipe y_names y_size y_words y_safeNames y_safeSize y_safeWords y_said m (nI c) 0 := by
  obtain ⟨_, v, e⟩ := uk_lp 8 hi (by decide)
  by_cases hp0 : y_pid i = 0
  · refine ⟨1, v, ?_⟩
    rw [uk_rw0 hp0] at h
    rw [e]
    exact ⟨fun _ => nm_r (nI_1 i) h, fun _ => ⟨v, br_t ((uk_le0 hP).mpr hp0) (nm_r (nI_1 i) h)⟩⟩
  · obtain ⟨n, hn8, en⟩ := hn hp0
    have hle : ¬ y_pid i ≤ 0 := fun z => hp0 ((uk_le0 hP).mp z)
    rw [uk_rwn hp0 en (by omega)] at h
    refine ⟨n + 1, ?_⟩
    have key := uk_run (fun m p (x : Int32) => wY_sharers_13 post J (nI f) (nI i) y_changes y_time y_last y_lastPid y_did y_greatest y_stepped y_says y_killed y_ops y_as y_bs y_length y_pid y_parent y_program y_pc y_status y_steps y_copies y_pages y_wake y_zombie y_blocked y_reg y_memory y_frame y_descriptor y_kind y_of y_mode y_place y_piped y_pipe y_names y_size y_words y_safeNames y_safeSize y_safeWords y_said m x (nI p)) (fun p => nI (c + uk_cn (fun p => y_frame (8 * i + p) = nI f) p)) n (fun m => ⟨v, by
      rw [e, en]
      exact br_t (uk_refl _) (nm_r (nI_1 i) h)⟩) (fun m p hp ih => ⟨v, by
      rw [e, en]
      refine br_f (nI_ge hp (by omega)) ⟨v, ?_⟩
      rw [uk_8m, nI_add, nI_clamp (show 8 * i + p < 2 ^ 31 by omega)]
      refine br_f hle ⟨vp_in_nI (by omega) (by omega), fun a => ?_, fun a => ?_⟩
      · rw [uk_cnt (P := fun p => y_frame (8 * i + p) = nI f) a] at ih
        exact nm_r (nI_1 _) (nm_r (nI_1 p) ih)
      · rw [uk_cnf (P := fun p => y_frame (8 * i + p) = nI f) a] at ih
        exact nm_r (nI_1 p) ih⟩) n 0 (by omega)
    exact key
theorem yk_sharers {post : Int32 → Prop} {f : Nat} (hP : ∀ s, s < 8 → ¬ y_pid s < 0) (hn : ∀ s, s < 8 → y_pid s ≠ 0 → ∃ n, n ≤ 8 ∧ y_pages s = nI n) (h : post (nI (uk_sm (uk_rw y_pid y_pages y_frame f) 8))) : wpY_sharers post (y_changes, y_time, y_last, y_lastPid, y_did, y_greatest, y_stepped, y_says, y_killed, y_ops, y_as, y_bs, y_length, y_pid, y_parent, y_program, y_pc, y_status, y_steps, y_copies, y_pages, y_wake, y_zombie, y_blocked, y_reg, y_memory, y_frame, y_descriptor, y_kind, y_of, y_mode, y_place, y_piped, y_pipe, y_names, y_size, y_words, y_safeNames, y_safeSize, y_safeWords, y_said) (nI f) := by
  unfold wpY_sharers
  exact uk_run0 (fun m i (x : Int32) => wY_sharers_4 post (nI f) y_changes y_time y_last y_lastPid y_did y_greatest y_stepped y_says y_killed y_ops y_as y_bs y_length y_pid y_parent y_program y_pc y_status y_steps y_copies y_pages y_wake y_zombie y_blocked y_reg y_memory y_frame y_descriptor y_kind y_of y_mode y_place y_piped y_pipe y_names y_size y_words y_safeNames y_safeSize y_safeWords y_said m x (nI i)) (fun i => nI (uk_sm (uk_rw y_pid y_pages y_frame f) i)) 8 (fun m => br_t (uk_refl 8) h) (fun m i hi ih => by
    obtain ⟨z, _, _⟩ := uk_lp 8 hi (by decide)
    exact br_f z (yk_sharers_in hi (hP i hi) (hn i hi) ih))
theorem yk_holders {post : Int32 → Prop} {o : Nat} (hP : ∀ s, s < 8 → ¬ y_pid s < 0) (h : post (nI (uk_sm (uk_hw y_pid y_zombie y_descriptor o) 8))) : wpY_holders post (y_changes, y_time, y_last, y_lastPid, y_did, y_greatest, y_stepped, y_says, y_killed, y_ops, y_as, y_bs, y_length, y_pid, y_parent, y_program, y_pc, y_status, y_steps, y_copies, y_pages, y_wake, y_zombie, y_blocked, y_reg, y_memory, y_frame, y_descriptor, y_kind, y_of, y_mode, y_place, y_piped, y_pipe, y_names, y_size, y_words, y_safeNames, y_safeSize, y_safeWords, y_said) (nI o) := by
  rw [← uk_hold48] at h
  unfold wpY_holders
  refine uk_count (fun n i c => wY_holders_4 post (nI o) y_changes y_time y_last y_lastPid y_did y_greatest y_stepped y_says y_killed y_ops y_as y_bs y_length y_pid y_parent y_program y_pc y_status y_steps y_copies y_pages y_wake y_zombie y_blocked y_reg y_memory y_frame y_descriptor y_kind y_of y_mode y_place y_piped y_pipe y_names y_size y_words y_safeNames y_safeSize y_safeWords y_said n c (nI i)) (fun k => (y_pid (k / 6) ≠ 0 ∧ y_zombie (k / 6) = 0) ∧ y_descriptor k = nI o) 48 (fun n => br_t (uk_refl 48) h) (fun n i c hi ht hf => ?_)
  obtain ⟨z, v, e⟩ := uk_lp 48 hi (by decide)
  refine br_f z ⟨by decide, ?_⟩
  have e6 : nI i / 6 = nI (i / 6) := pk_div (d := 6) (by omega) (by decide) (by decide)
  rw [e6]
  have v6 : vp_in (nI (i / 6)) 8 := vp_in_nI (by omega) (by decide)
  refine ⟨v6, ?_⟩
  rw [nI_clamp (show i / 6 < 2 ^ 31 by omega), e, uk_le0 (hP (i / 6) (by omega))]
  exact ⟨fun a => nm_r (nI_1 i) (hf (fun z => z.1.1 a)), fun a => ⟨by decide, v6, fun b => ⟨v, fun d => nm_r (nI_1 c) (nm_r (nI_1 i) (ht ⟨⟨a, b⟩, d⟩)), fun d => nm_r (nI_1 i) (hf (fun z => d z.2))⟩, fun b => nm_r (nI_1 i) (hf (fun z => b z.1.2))⟩⟩
theorem yk_named {post : Int32 → Prop} {f : Int32} (h : post (nI (uk_cn (fun k => y_names k = f) 8))) : wpY_named post (y_changes, y_time, y_last, y_lastPid, y_did, y_greatest, y_stepped, y_says, y_killed, y_ops, y_as, y_bs, y_length, y_pid, y_parent, y_program, y_pc, y_status, y_steps, y_copies, y_pages, y_wake, y_zombie, y_blocked, y_reg, y_memory, y_frame, y_descriptor, y_kind, y_of, y_mode, y_place, y_piped, y_pipe, y_names, y_size, y_words, y_safeNames, y_safeSize, y_safeWords, y_said) f := by
  unfold wpY_named
  refine uk_count (fun n i c => wY_named_4 post f y_changes y_time y_last y_lastPid y_did y_greatest y_stepped y_says y_killed y_ops y_as y_bs y_length y_pid y_parent y_program y_pc y_status y_steps y_copies y_pages y_wake y_zombie y_blocked y_reg y_memory y_frame y_descriptor y_kind y_of y_mode y_place y_piped y_pipe y_names y_size y_words y_safeNames y_safeSize y_safeWords y_said n c (nI i)) (fun k => y_names k = f) 8 (fun n => br_t (uk_refl 8) h) (fun n i c hi ht hf => ?_)
  obtain ⟨z, v, e⟩ := uk_lp 8 hi (by decide)
  refine br_f z ⟨v, ?_⟩
  rw [e]
  exact ⟨fun q => nm_r (nI_1 c) (nm_r (nI_1 i) (ht q)), fun q => nm_r (nI_1 i) (hf q)⟩
theorem yk_openOf {post : Int32 → Prop} {f : Int32} (h : post (nI (uk_cn (fun o => y_kind o = 1 ∧ y_of o = f) 12))) : wpY_openOf post (y_changes, y_time, y_last, y_lastPid, y_did, y_greatest, y_stepped, y_says, y_killed, y_ops, y_as, y_bs, y_length, y_pid, y_parent, y_program, y_pc, y_status, y_steps, y_copies, y_pages, y_wake, y_zombie, y_blocked, y_reg, y_memory, y_frame, y_descriptor, y_kind, y_of, y_mode, y_place, y_piped, y_pipe, y_names, y_size, y_words, y_safeNames, y_safeSize, y_safeWords, y_said) f := by
  unfold wpY_openOf
  refine uk_count (fun n i c => wY_openOf_4 post f y_changes y_time y_last y_lastPid y_did y_greatest y_stepped y_says y_killed y_ops y_as y_bs y_length y_pid y_parent y_program y_pc y_status y_steps y_copies y_pages y_wake y_zombie y_blocked y_reg y_memory y_frame y_descriptor y_kind y_of y_mode y_place y_piped y_pipe y_names y_size y_words y_safeNames y_safeSize y_safeWords y_said n c (nI i)) (fun o => y_kind o = 1 ∧ y_of o = f) 12 (fun n => br_t (uk_refl 12) h) (fun n i c hi ht hf => ?_)
  obtain ⟨z, v, e⟩ := uk_lp 12 hi (by decide)
  refine br_f z ⟨v, ?_⟩
  rw [e]
  exact ⟨fun a => ⟨v, fun b => nm_r (nI_1 c) (nm_r (nI_1 i) (ht ⟨a, b⟩)), fun b => nm_r (nI_1 i) (hf (fun z => b z.2))⟩, fun a => nm_r (nI_1 i) (hf (fun z => a z.1))⟩
theorem uk_cnz {P : Nat → Prop} {n : Nat} (hn : n < 2 ^ 31) : nI (uk_cn P n) = 0 ↔ ∀ i, i < n → ¬ P i := by
  have h := uk_cnle P n
  rw [show (0 : Int32) = nI 0 from rfl, nI_eq (by omega) (by decide)]
  exact ⟨uk_cn0', uk_cn0 n⟩
theorem yk_isFree {post : Int32 → Prop} {f : Nat} (ht : uk_fre y_names y_kind y_of f → post 1) (hf : ¬ uk_fre y_names y_kind y_of f → post 0) : wpY_isFree post (y_changes, y_time, y_last, y_lastPid, y_did, y_greatest, y_stepped, y_says, y_killed, y_ops, y_as, y_bs, y_length, y_pid, y_parent, y_program, y_pc, y_status, y_steps, y_copies, y_pages, y_wake, y_zombie, y_blocked, y_reg, y_memory, y_frame, y_descriptor, y_kind, y_of, y_mode, y_place, y_piped, y_pipe, y_names, y_size, y_words, y_safeNames, y_safeSize, y_safeWords, y_said) (nI f) := by
  unfold wpY_isFree
  refine yk_named ⟨fun a => ?_, fun a => ?_⟩
  · refine yk_openOf ⟨fun b => ht ⟨(uk_cnz (by decide)).mp a, (uk_cnz (by decide)).mp b⟩, fun b => hf (fun z => b ((uk_cnz (by decide)).mpr z.2))⟩
  · exact hf (fun z => a ((uk_cnz (by decide)).mpr z.1))
theorem yk_hasEnd {post : Int32 → Prop} {p k : Int32} (ht : (∃ o, o < 12 ∧ y_kind o = k ∧ y_of o = p) → post 1) (hf : (∀ o, o < 12 → ¬ (y_kind o = k ∧ y_of o = p)) → post 0) : wpY_hasEnd post (y_changes, y_time, y_last, y_lastPid, y_did, y_greatest, y_stepped, y_says, y_killed, y_ops, y_as, y_bs, y_length, y_pid, y_parent, y_program, y_pc, y_status, y_steps, y_copies, y_pages, y_wake, y_zombie, y_blocked, y_reg, y_memory, y_frame, y_descriptor, y_kind, y_of, y_mode, y_place, y_piped, y_pipe, y_names, y_size, y_words, y_safeNames, y_safeSize, y_safeWords, y_said) p k := by
  unfold wpY_hasEnd
  refine uk_any (fun n i => wY_hasEnd_2 post p k y_changes y_time y_last y_lastPid y_did y_greatest y_stepped y_says y_killed y_ops y_as y_bs y_length y_pid y_parent y_program y_pc y_status y_steps y_copies y_pages y_wake y_zombie y_blocked y_reg y_memory y_frame y_descriptor y_kind y_of y_mode y_place y_piped y_pipe y_names y_size y_words y_safeNames y_safeSize y_safeWords y_said n (nI i)) (fun o => y_kind o = k ∧ y_of o = p) 12 (fun h n => br_t (uk_refl 12) (hf h)) (fun n i hi h => ?_) (fun n i hi h ih => ?_)
  · obtain ⟨z, v, e⟩ := uk_lp 12 hi (by decide)
    refine br_f z ⟨v, ?_⟩
    rw [e]
    exact br_t h.1 ⟨v, br_t h.2 (ht ⟨i, hi, h⟩)⟩
  · obtain ⟨z, v, e⟩ := uk_lp 12 hi (by decide)
    refine br_f z ⟨v, ?_⟩
    rw [e]
    exact ⟨fun a => ⟨v, fun b => absurd ⟨a, b⟩ h, fun _ => nm_r (nI_1 i) ih⟩, fun _ => nm_r (nI_1 i) ih⟩
theorem yk_freeOpen {post : Int32 → Prop} (h : post (uk_ff (fun o => y_kind o = 0) 12)) : wpY_freeOpen post (y_changes, y_time, y_last, y_lastPid, y_did, y_greatest, y_stepped, y_says, y_killed, y_ops, y_as, y_bs, y_length, y_pid, y_parent, y_program, y_pc, y_status, y_steps, y_copies, y_pages, y_wake, y_zombie, y_blocked, y_reg, y_memory, y_frame, y_descriptor, y_kind, y_of, y_mode, y_place, y_piped, y_pipe, y_names, y_size, y_words, y_safeNames, y_safeSize, y_safeWords, y_said) := by
  unfold wpY_freeOpen
  refine uk_first (fun n i => wY_freeOpen_2 post y_changes y_time y_last y_lastPid y_did y_greatest y_stepped y_says y_killed y_ops y_as y_bs y_length y_pid y_parent y_program y_pc y_status y_steps y_copies y_pages y_wake y_zombie y_blocked y_reg y_memory y_frame y_descriptor y_kind y_of y_mode y_place y_piped y_pipe y_names y_size y_words y_safeNames y_safeSize y_safeWords y_said n (nI i)) post (fun o => y_kind o = 0) 12 h (fun n h => br_t (uk_refl 12) h) (fun n i hi ht hf => ?_)
  obtain ⟨z, v, e⟩ := uk_lp 12 hi (by decide)
  refine br_f z ⟨v, ?_⟩
  rw [e]
  exact ⟨ht, fun q => nm_r (nI_1 i) (hf q)⟩
theorem yk_opens {post : Int32 → Prop} (h : post (nI (uk_cn (fun o => ¬ y_kind o ≤ 0) 12))) : wpY_opens post (y_changes, y_time, y_last, y_lastPid, y_did, y_greatest, y_stepped, y_says, y_killed, y_ops, y_as, y_bs, y_length, y_pid, y_parent, y_program, y_pc, y_status, y_steps, y_copies, y_pages, y_wake, y_zombie, y_blocked, y_reg, y_memory, y_frame, y_descriptor, y_kind, y_of, y_mode, y_place, y_piped, y_pipe, y_names, y_size, y_words, y_safeNames, y_safeSize, y_safeWords, y_said) := by
  unfold wpY_opens
  refine uk_count (fun n i c => wY_opens_4 post y_changes y_time y_last y_lastPid y_did y_greatest y_stepped y_says y_killed y_ops y_as y_bs y_length y_pid y_parent y_program y_pc y_status y_steps y_copies y_pages y_wake y_zombie y_blocked y_reg y_memory y_frame y_descriptor y_kind y_of y_mode y_place y_piped y_pipe y_names y_size y_words y_safeNames y_safeSize y_safeWords y_said n c (nI i)) (fun o => ¬ y_kind o ≤ 0) 12 (fun n => br_t (uk_refl 12) h) (fun n i c hi ht hf => ?_)
  obtain ⟨z, v, e⟩ := uk_lp 12 hi (by decide)
  refine br_f z ⟨v, ?_⟩
  rw [e]
  exact ⟨fun q => nm_r (nI_1 i) (hf (fun z => z q)), fun q => nm_r (nI_1 c) (nm_r (nI_1 i) (ht q))⟩
theorem yk_freeDescriptor {post : Int32 → Prop} {s j : Nat} (hs : s < 8) (hj : j ≤ 6) (hH : ∀ d, d < 6 → y_descriptor (6 * s + d) = -1 ∨ vp_in (y_descriptor (6 * s + d)) 12) (h : post (uk_fg (fun d => y_descriptor (6 * s + d) = -1) (6 - j) j)) : wpY_freeDescriptor post (y_changes, y_time, y_last, y_lastPid, y_did, y_greatest, y_stepped, y_says, y_killed, y_ops, y_as, y_bs, y_length, y_pid, y_parent, y_program, y_pc, y_status, y_steps, y_copies, y_pages, y_wake, y_zombie, y_blocked, y_reg, y_memory, y_frame, y_descriptor, y_kind, y_of, y_mode, y_place, y_piped, y_pipe, y_names, y_size, y_words, y_safeNames, y_safeSize, y_safeWords, y_said) (nI s) (nI j) := by
  unfold wpY_freeDescriptor
  refine ⟨6 - j + 1, uk_firstG (fun n i => wY_freeDescriptor_2 post (nI s) y_changes y_time y_last y_lastPid y_did y_greatest y_stepped y_says y_killed y_ops y_as y_bs y_length y_pid y_parent y_program y_pc y_status y_steps y_copies y_pages y_wake y_zombie y_blocked y_reg y_memory y_frame y_descriptor y_kind y_of y_mode y_place y_piped y_pipe y_names y_size y_words y_safeNames y_safeSize y_safeWords y_said n (nI i)) post (fun d => y_descriptor (6 * s + d) = -1) 6 (fun n h => br_t (uk_refl 6) h) (fun n i hi ht hf => ?_) (6 - j) j (by omega) h⟩
  obtain ⟨z, v, e⟩ := uk_lp 6 hi (by decide)
  refine br_f z ?_
  rw [uk_6m, nI_add]
  refine ⟨vp_in_nI (by omega) (by omega), ?_⟩
  rw [nI_clamp (by omega)]
  rcases hH i hi with a | a
  · rw [a]
    exact br_f (by decide) (ht a)
  · have a1 : 0 ≤ y_descriptor (6 * s + i) := Int32.not_lt.mp (not_or.mp a).1
    exact br_t a1 (nm_r (nI_1 i) (hf (fun w => by rw [w] at a1; exact absurd a1 (by decide))))
end
end
section
/-! readers of both sides over the same tables -/
def uk_fb (g : Nat → Nat) : Nat → Int32
  | 0 => 16
  | i + 1 => uk_fb g i - nI (g i)
def uk_pfr (ki T : Nat → Int32) (p : Int32) : Prop := ∀ o, o < 12 → ¬ ((ki o = 2 ∨ ki o = 3) ∧ T o = p)
theorem uk_okp {P zo H oh ok ki T om mo op : Nat → Int32} (hO : uk_Ok oh ok ki T om mo op) (hh : uk_Ho P zo H oh) {o : Nat} (ho : o < 12) : (¬ oh o ≤ 0 ∧ ok o ≠ 1) ↔ (ki o = 2 ∨ ki o = 3) := by
  rw [(uk_ohp hh ho).2.1]
  rcases (hO o ho).2 with ⟨a, b⟩ | ⟨a, b, c⟩
  · rw [b]; exact ⟨fun z => absurd a z.1, fun z => by rcases z with z | z <;> exact absurd z (by decide)⟩
  · rw [b]
    rcases c with c | c | c
    · rw [c.1]; exact ⟨fun z => absurd rfl z.2, fun z => by rcases z with z | z <;> exact absurd z (by decide)⟩
    · rw [c.1]; exact ⟨fun _ => Or.inl rfl, fun _ => ⟨a, by decide⟩⟩
    · rw [c.1]; exact ⟨fun _ => Or.inr rfl, fun _ => ⟨a, by decide⟩⟩
section
variable {x_changes x_saidCount x_time x_lastSlot x_sliceSteps x_latestPid x_greatestPid : Int32} {x_code x_codeLengths x_pids x_parents x_programs x_places x_states x_statuses x_stepCounts x_copyCounts x_wakeTimes x_registers x_pageCounts x_pageFrames x_held x_frameUsers x_frameWords x_openHolders x_openKinds x_openTargets x_openPlaces x_openModes x_pipeFirsts x_pipeCounts x_pipeWords x_nameFiles x_fileSizes x_fileWords x_safeNames x_safeSizes x_safeWords x_saidInts : Nat → Int32} {y_time y_last y_lastPid y_did y_killed : Int32} {y_ops y_as y_bs y_pages y_wake y_zombie y_blocked y_memory y_frame y_kind y_mode y_pipe y_size y_safeSize y_said : Nat → Int32}
theorem xk_isFree {post : Int32 → Prop} {f : Nat} (hO : uk_Ok x_openHolders x_openKinds y_kind x_openTargets x_openModes y_mode x_openPlaces) (hh : uk_Ho x_pids y_zombie x_held x_openHolders) (ht : uk_fre x_nameFiles y_kind x_openTargets f → post 1) (hf : ¬ uk_fre x_nameFiles y_kind x_openTargets f → post 0) : wpX_isFreeFile post (x_changes, x_saidCount, x_time, x_lastSlot, x_sliceSteps, x_latestPid, x_greatestPid, x_code, x_codeLengths, x_pids, x_parents, x_programs, x_places, x_states, x_statuses, x_stepCounts, x_copyCounts, x_wakeTimes, x_registers, x_pageCounts, x_pageFrames, x_held, x_frameUsers, x_frameWords, x_openHolders, x_openKinds, x_openTargets, x_openPlaces, x_openModes, x_pipeFirsts, x_pipeCounts, x_pipeWords, x_nameFiles, x_fileSizes, x_fileWords, x_safeNames, x_safeSizes, x_safeWords, x_saidInts) (nI f) := by
  refine xk_isFreeFile (fun a b => ht ⟨a, fun o ho z => ?_⟩) (fun a => hf (fun z => ?_))
  · have c := (uk_okk hO hh ho (k := 1) (by decide)).mpr z.1
    exact b o ho ⟨c.1, c.2, z.2⟩
  · rcases a with ⟨k, hk, e⟩ | ⟨o, ho, e1, e2, e3⟩
    · exact z.1 k hk e
    · exact z.2 o ho ⟨(uk_okk hO hh ho (k := 1) (by decide)).mp ⟨e1, e2⟩, e3⟩
theorem xk_freeFile {post : Int32 → Prop} (hO : uk_Ok x_openHolders x_openKinds y_kind x_openTargets x_openModes y_mode x_openPlaces) (hh : uk_Ho x_pids y_zombie x_held x_openHolders) (h : post (uk_ff (fun f => uk_fre x_nameFiles y_kind x_openTargets f) 8)) : wpX_freeFile post (x_changes, x_saidCount, x_time, x_lastSlot, x_sliceSteps, x_latestPid, x_greatestPid, x_code, x_codeLengths, x_pids, x_parents, x_programs, x_places, x_states, x_statuses, x_stepCounts, x_copyCounts, x_wakeTimes, x_registers, x_pageCounts, x_pageFrames, x_held, x_frameUsers, x_frameWords, x_openHolders, x_openKinds, x_openTargets, x_openPlaces, x_openModes, x_pipeFirsts, x_pipeCounts, x_pipeWords, x_nameFiles, x_fileSizes, x_fileWords, x_safeNames, x_safeSizes, x_safeWords, x_saidInts) := by
  unfold wpX_freeFile
  refine uk_first (fun n i => wX_freeFile_2 post x_changes x_saidCount x_time x_lastSlot x_sliceSteps x_latestPid x_greatestPid x_code x_codeLengths x_pids x_parents x_programs x_places x_states x_statuses x_stepCounts x_copyCounts x_wakeTimes x_registers x_pageCounts x_pageFrames x_held x_frameUsers x_frameWords x_openHolders x_openKinds x_openTargets x_openPlaces x_openModes x_pipeFirsts x_pipeCounts x_pipeWords x_nameFiles x_fileSizes x_fileWords x_safeNames x_safeSizes x_safeWords x_saidInts n (nI i)) post (fun f => uk_fre x_nameFiles y_kind x_openTargets f) 8 h (fun n h => br_t (uk_refl 8) h) (fun n i hi ht hf => ?_)
  obtain ⟨z, v, e⟩ := uk_lp 8 hi (by decide)
  exact br_f z (xk_isFree hO hh (fun a => br_f (by decide) (ht a)) (fun a => br_t rfl (nm_r (nI_1 i) (hf a))))
theorem xk_countFreeFiles {post : Int32 → Prop} (hO : uk_Ok x_openHolders x_openKinds y_kind x_openTargets x_openModes y_mode x_openPlaces) (hh : uk_Ho x_pids y_zombie x_held x_openHolders) (h : post (nI (uk_cn (fun f => uk_fre x_nameFiles y_kind x_openTargets f) 8))) : wpX_countFreeFiles post (x_changes, x_saidCount, x_time, x_lastSlot, x_sliceSteps, x_latestPid, x_greatestPid, x_code, x_codeLengths, x_pids, x_parents, x_programs, x_places, x_states, x_statuses, x_stepCounts, x_copyCounts, x_wakeTimes, x_registers, x_pageCounts, x_pageFrames, x_held, x_frameUsers, x_frameWords, x_openHolders, x_openKinds, x_openTargets, x_openPlaces, x_openModes, x_pipeFirsts, x_pipeCounts, x_pipeWords, x_nameFiles, x_fileSizes, x_fileWords, x_safeNames, x_safeSizes, x_safeWords, x_saidInts) := by
  unfold wpX_countFreeFiles
  refine uk_count (fun n i c => wX_countFreeFiles_4 post x_changes x_saidCount x_time x_lastSlot x_sliceSteps x_latestPid x_greatestPid x_code x_codeLengths x_pids x_parents x_programs x_places x_states x_statuses x_stepCounts x_copyCounts x_wakeTimes x_registers x_pageCounts x_pageFrames x_held x_frameUsers x_frameWords x_openHolders x_openKinds x_openTargets x_openPlaces x_openModes x_pipeFirsts x_pipeCounts x_pipeWords x_nameFiles x_fileSizes x_fileWords x_safeNames x_safeSizes x_safeWords x_saidInts n c (nI i)) (fun f => uk_fre x_nameFiles y_kind x_openTargets f) 8 (fun n => br_t (uk_refl 8) h) (fun n i c hi ht hf => ?_)
  obtain ⟨z, v, e⟩ := uk_lp 8 hi (by decide)
  exact br_f z (xk_isFree hO hh (fun a => br_f (by decide) (nm_r (nI_1 c) (nm_r (nI_1 i) (ht a)))) (fun a => br_t rfl (nm_r (nI_1 i) (hf a))))
theorem xk_isPipe {post : Int32 → Prop} {p : Int32} (hO : uk_Ok x_openHolders x_openKinds y_kind x_openTargets x_openModes y_mode x_openPlaces) (hh : uk_Ho x_pids y_zombie x_held x_openHolders) (ht : uk_pfr y_kind x_openTargets p → post 1) (hf : ¬ uk_pfr y_kind x_openTargets p → post 0) : wpX_isFreePipe post (x_changes, x_saidCount, x_time, x_lastSlot, x_sliceSteps, x_latestPid, x_greatestPid, x_code, x_codeLengths, x_pids, x_parents, x_programs, x_places, x_states, x_statuses, x_stepCounts, x_copyCounts, x_wakeTimes, x_registers, x_pageCounts, x_pageFrames, x_held, x_frameUsers, x_frameWords, x_openHolders, x_openKinds, x_openTargets, x_openPlaces, x_openModes, x_pipeFirsts, x_pipeCounts, x_pipeWords, x_nameFiles, x_fileSizes, x_fileWords, x_safeNames, x_safeSizes, x_safeWords, x_saidInts) p := by
  refine xk_isFreePipe (fun a => ht (fun o ho z => ?_)) (fun a => hf (fun z => ?_))
  · have c := (uk_okp hO hh ho).mpr z.1
    exact a o ho ⟨c.1, c.2, z.2⟩
  · obtain ⟨o, ho, e1, e2, e3⟩ := a
    exact z o ho ⟨(uk_okp hO hh ho).mp ⟨e1, e2⟩, e3⟩
theorem xk_freePipe {post : Int32 → Prop} (hO : uk_Ok x_openHolders x_openKinds y_kind x_openTargets x_openModes y_mode x_openPlaces) (hh : uk_Ho x_pids y_zombie x_held x_openHolders) (h : post (uk_ff (fun p => uk_pfr y_kind x_openTargets (nI p)) 4)) : wpX_freePipe post (x_changes, x_saidCount, x_time, x_lastSlot, x_sliceSteps, x_latestPid, x_greatestPid, x_code, x_codeLengths, x_pids, x_parents, x_programs, x_places, x_states, x_statuses, x_stepCounts, x_copyCounts, x_wakeTimes, x_registers, x_pageCounts, x_pageFrames, x_held, x_frameUsers, x_frameWords, x_openHolders, x_openKinds, x_openTargets, x_openPlaces, x_openModes, x_pipeFirsts, x_pipeCounts, x_pipeWords, x_nameFiles, x_fileSizes, x_fileWords, x_safeNames, x_safeSizes, x_safeWords, x_saidInts) := by
  unfold wpX_freePipe
  refine uk_first (fun n i => wX_freePipe_2 post x_changes x_saidCount x_time x_lastSlot x_sliceSteps x_latestPid x_greatestPid x_code x_codeLengths x_pids x_parents x_programs x_places x_states x_statuses x_stepCounts x_copyCounts x_wakeTimes x_registers x_pageCounts x_pageFrames x_held x_frameUsers x_frameWords x_openHolders x_openKinds x_openTargets x_openPlaces x_openModes x_pipeFirsts x_pipeCounts x_pipeWords x_nameFiles x_fileSizes x_fileWords x_safeNames x_safeSizes x_safeWords x_saidInts n (nI i)) post (fun p => uk_pfr y_kind x_openTargets (nI p)) 4 h (fun n h => br_t (uk_refl 4) h) (fun n i hi ht hf => ?_)
  obtain ⟨z, v, e⟩ := uk_lp 4 hi (by decide)
  exact br_f z (xk_isPipe hO hh (fun a => br_f (by decide) (ht a)) (fun a => br_t rfl (nm_r (nI_1 i) (hf a))))
theorem xk_countPipes {post : Int32 → Prop} (hO : uk_Ok x_openHolders x_openKinds y_kind x_openTargets x_openModes y_mode x_openPlaces) (hh : uk_Ho x_pids y_zombie x_held x_openHolders) (h : post (nI (uk_cn (fun p => ¬ uk_pfr y_kind x_openTargets (nI p)) 4))) : wpX_countPipes post (x_changes, x_saidCount, x_time, x_lastSlot, x_sliceSteps, x_latestPid, x_greatestPid, x_code, x_codeLengths, x_pids, x_parents, x_programs, x_places, x_states, x_statuses, x_stepCounts, x_copyCounts, x_wakeTimes, x_registers, x_pageCounts, x_pageFrames, x_held, x_frameUsers, x_frameWords, x_openHolders, x_openKinds, x_openTargets, x_openPlaces, x_openModes, x_pipeFirsts, x_pipeCounts, x_pipeWords, x_nameFiles, x_fileSizes, x_fileWords, x_safeNames, x_safeSizes, x_safeWords, x_saidInts) := by
  unfold wpX_countPipes
  refine uk_count (fun n i c => wX_countPipes_4 post x_changes x_saidCount x_time x_lastSlot x_sliceSteps x_latestPid x_greatestPid x_code x_codeLengths x_pids x_parents x_programs x_places x_states x_statuses x_stepCounts x_copyCounts x_wakeTimes x_registers x_pageCounts x_pageFrames x_held x_frameUsers x_frameWords x_openHolders x_openKinds x_openTargets x_openPlaces x_openModes x_pipeFirsts x_pipeCounts x_pipeWords x_nameFiles x_fileSizes x_fileWords x_safeNames x_safeSizes x_safeWords x_saidInts n c (nI i)) (fun p => ¬ uk_pfr y_kind x_openTargets (nI p)) 4 (fun n => br_t (uk_refl 4) h) (fun n i c hi ht hf => ?_)
  obtain ⟨z, v, e⟩ := uk_lp 4 hi (by decide)
  exact br_f z (xk_isPipe hO hh (fun a => br_f (by decide) (nm_r (nI_1 i) (hf (fun w => w a)))) (fun a => br_t rfl (nm_r (nI_1 c) (nm_r (nI_1 i) (ht a)))))
theorem xk_countFreeBlocks {post : Int32 → Prop} (hO : uk_Ok x_openHolders x_openKinds y_kind x_openTargets x_openModes y_mode x_openPlaces) (hh : uk_Ho x_pids y_zombie x_held x_openHolders) (hF : uk_Fi x_nameFiles y_kind x_openTargets x_fileSizes y_size) (h : post (uk_fb (fun f => ((y_size f).toNatClampNeg + 3) / 4) 8)) : wpX_countFreeBlocks post (x_changes, x_saidCount, x_time, x_lastSlot, x_sliceSteps, x_latestPid, x_greatestPid, x_code, x_codeLengths, x_pids, x_parents, x_programs, x_places, x_states, x_statuses, x_stepCounts, x_copyCounts, x_wakeTimes, x_registers, x_pageCounts, x_pageFrames, x_held, x_frameUsers, x_frameWords, x_openHolders, x_openKinds, x_openTargets, x_openPlaces, x_openModes, x_pipeFirsts, x_pipeCounts, x_pipeWords, x_nameFiles, x_fileSizes, x_fileWords, x_safeNames, x_safeSizes, x_safeWords, x_saidInts) := by
  unfold wpX_countFreeBlocks
  refine uk_run0 (fun m i (x : Int32) => wX_countFreeBlocks_5 post x_changes x_saidCount x_time x_lastSlot x_sliceSteps x_latestPid x_greatestPid x_code x_codeLengths x_pids x_parents x_programs x_places x_states x_statuses x_stepCounts x_copyCounts x_wakeTimes x_registers x_pageCounts x_pageFrames x_held x_frameUsers x_frameWords x_openHolders x_openKinds x_openTargets x_openPlaces x_openModes x_pipeFirsts x_pipeCounts x_pipeWords x_nameFiles x_fileSizes x_fileWords x_safeNames x_safeSizes x_safeWords x_saidInts m x (nI i)) (fun i => uk_fb (fun f => ((y_size f).toNatClampNeg + 3) / 4) i) 8 (fun m => br_t (uk_refl 8) h) (fun m i hi ih => ?_)
  obtain ⟨z, v, e⟩ := uk_lp 8 hi (by decide)
  obtain ⟨h1, h2, h3⟩ := hF.2 i hi
  obtain ⟨n, hn, en⟩ := vp_in_of h1 (by decide)
  have ih2 : wX_countFreeBlocks_5 post x_changes x_saidCount x_time x_lastSlot x_sliceSteps x_latestPid x_greatestPid x_code x_codeLengths x_pids x_parents x_programs x_places x_states x_statuses x_stepCounts x_copyCounts x_wakeTimes x_registers x_pageCounts x_pageFrames x_held x_frameUsers x_frameWords x_openHolders x_openKinds x_openTargets x_openPlaces x_openModes x_pipeFirsts x_pipeCounts x_pipeWords x_nameFiles x_fileSizes x_fileWords x_safeNames x_safeSizes x_safeWords x_saidInts m (uk_fb (fun f => ((y_size f).toNatClampNeg + 3) / 4) i - nI ((n + 3) / 4)) (nI (i + 1)) := by
    have ih3 := ih
    show wX_countFreeBlocks_5 post x_changes x_saidCount x_time x_lastSlot x_sliceSteps x_latestPid x_greatestPid x_code x_codeLengths x_pids x_parents x_programs x_places x_states x_statuses x_stepCounts x_copyCounts x_wakeTimes x_registers x_pageCounts x_pageFrames x_held x_frameUsers x_frameWords x_openHolders x_openKinds x_openTargets x_openPlaces x_openModes x_pipeFirsts x_pipeCounts x_pipeWords x_nameFiles x_fileSizes x_fileWords x_safeNames x_safeSizes x_safeWords x_saidInts m (uk_fb (fun f => ((y_size f).toNatClampNeg + 3) / 4) i - nI ((n + 3) / 4)) (nI (i + 1))
    have e4 : uk_fb (fun f => ((y_size f).toNatClampNeg + 3) / 4) (i + 1) = uk_fb (fun f => ((y_size f).toNatClampNeg + 3) / 4) i - nI ((n + 3) / 4) := by
      show uk_fb (fun f => ((y_size f).toNatClampNeg + 3) / 4) i - nI (((y_size i).toNatClampNeg + 3) / 4) = _
      rw [en, nI_clamp (by omega)]
    rw [e4] at ih3
    exact ih3
  refine br_f z (xk_isFree hO hh (fun a => ?_) (fun a => ?_))
  · have e0 : n = 0 := by
      have := h2 a
      rw [en] at this
      exact (nI_eq (b := 0) (by omega) (by decide)).mp this
    subst e0
    rw [show nI ((0 + 3) / 4) = 0 from rfl, Int32.sub_zero] at ih2
    exact br_f (by decide) (nm_r (nI_1 i) ih2)
  · refine br_t rfl ⟨v, by decide, ?_⟩
    have e1 : (x_fileSizes i + 4 - 1) / 4 = nI ((n + 3) / 4) := by
      rw [h3 a, en]
      have a1 : nI n + 4 - 1 = nI (n + 3) := (congrArg (· - 1) (nI_add n 4)).trans ((pk_sub (b := 1) (by omega)).trans (congrArg nI (by omega)))
      rw [a1]
      exact pk_div (d := 4) (by omega) (by decide) (by decide)
    rw [e, e1]
    exact nm_e (nm_r (nI_1 i) ih2)
theorem yk_isPipe {post : Int32 → Prop} {p : Int32} (ht : ¬ uk_pfr y_kind x_openTargets p → post 1) (hf : uk_pfr y_kind x_openTargets p → post 0) : wpY_isPipe post (x_changes, y_time, y_last, y_lastPid, y_did, x_greatestPid, x_latestPid, x_saidCount, y_killed, y_ops, y_as, y_bs, x_codeLengths, x_pids, x_parents, x_programs, x_places, x_statuses, x_stepCounts, x_copyCounts, y_pages, y_wake, y_zombie, y_blocked, x_registers, y_memory, y_frame, x_held, y_kind, x_openTargets, y_mode, x_openPlaces, x_pipeCounts, y_pipe, x_nameFiles, y_size, x_fileWords, x_safeNames, y_safeSize, x_safeWords, y_said) p := by
  unfold wpY_isPipe
  refine yk_hasEnd (fun a => br_f (by decide) (ht (fun z => ?_))) (fun a => br_t rfl (yk_hasEnd (fun b => br_f (by decide) (ht (fun z => ?_))) (fun b => br_t rfl (hf (fun o ho z => ?_)))))
  · obtain ⟨o, ho, e1, e2⟩ := a
    exact z o ho ⟨Or.inl e1, e2⟩
  · obtain ⟨o, ho, e1, e2⟩ := b
    exact z o ho ⟨Or.inr e1, e2⟩
  · rcases z.1 with y | y
    · exact a o ho ⟨y, z.2⟩
    · exact b o ho ⟨y, z.2⟩
theorem yk_freePipe {post : Int32 → Prop} (h : post (uk_ff (fun p => uk_pfr y_kind x_openTargets (nI p)) 4)) : wpY_freePipe post (x_changes, y_time, y_last, y_lastPid, y_did, x_greatestPid, x_latestPid, x_saidCount, y_killed, y_ops, y_as, y_bs, x_codeLengths, x_pids, x_parents, x_programs, x_places, x_statuses, x_stepCounts, x_copyCounts, y_pages, y_wake, y_zombie, y_blocked, x_registers, y_memory, y_frame, x_held, y_kind, x_openTargets, y_mode, x_openPlaces, x_pipeCounts, y_pipe, x_nameFiles, y_size, x_fileWords, x_safeNames, y_safeSize, x_safeWords, y_said) := by
  unfold wpY_freePipe
  refine uk_first (fun n i => wY_freePipe_2 post x_changes y_time y_last y_lastPid y_did x_greatestPid x_latestPid x_saidCount y_killed y_ops y_as y_bs x_codeLengths x_pids x_parents x_programs x_places x_statuses x_stepCounts x_copyCounts y_pages y_wake y_zombie y_blocked x_registers y_memory y_frame x_held y_kind x_openTargets y_mode x_openPlaces x_pipeCounts y_pipe x_nameFiles y_size x_fileWords x_safeNames y_safeSize x_safeWords y_said n (nI i)) post (fun p => uk_pfr y_kind x_openTargets (nI p)) 4 h (fun n h => br_t (uk_refl 4) h) (fun n i hi ht hf => ?_)
  obtain ⟨z, v, e⟩ := uk_lp 4 hi (by decide)
  exact br_f z (yk_isPipe (fun a => br_f (by decide) (nm_r (nI_1 i) (hf a))) (fun a => br_t rfl (ht a)))
theorem yk_freeBlocks {post : Int32 → Prop} (hF : uk_Fi x_nameFiles y_kind x_openTargets x_fileSizes y_size) (h : post (uk_fb (fun f => ((y_size f).toNatClampNeg + 3) / 4) 8)) : wpY_freeBlocks post (x_changes, y_time, y_last, y_lastPid, y_did, x_greatestPid, x_latestPid, x_saidCount, y_killed, y_ops, y_as, y_bs, x_codeLengths, x_pids, x_parents, x_programs, x_places, x_statuses, x_stepCounts, x_copyCounts, y_pages, y_wake, y_zombie, y_blocked, x_registers, y_memory, y_frame, x_held, y_kind, x_openTargets, y_mode, x_openPlaces, x_pipeCounts, y_pipe, x_nameFiles, y_size, x_fileWords, x_safeNames, y_safeSize, x_safeWords, y_said) := by
  unfold wpY_freeBlocks
  refine uk_run0 (fun m i (x : Int32) => wY_freeBlocks_5 post x_changes y_time y_last y_lastPid y_did x_greatestPid x_latestPid x_saidCount y_killed y_ops y_as y_bs x_codeLengths x_pids x_parents x_programs x_places x_statuses x_stepCounts x_copyCounts y_pages y_wake y_zombie y_blocked x_registers y_memory y_frame x_held y_kind x_openTargets y_mode x_openPlaces x_pipeCounts y_pipe x_nameFiles y_size x_fileWords x_safeNames y_safeSize x_safeWords y_said m x (nI i)) (fun i => uk_fb (fun f => ((y_size f).toNatClampNeg + 3) / 4) i) 8 (fun m => br_t (uk_refl 8) h) (fun m i hi ih => ?_)
  obtain ⟨z, v, e⟩ := uk_lp 8 hi (by decide)
  obtain ⟨n, hn, en⟩ := vp_in_of (hF.2 i hi).1 (by decide)
  refine br_f z ⟨v, by decide, ?_⟩
  have e1 : (y_size i + 3) / 4 = nI (((y_size i).toNatClampNeg + 3) / 4) := by
    rw [en, nI_clamp (by omega)]
    have a1 : nI n + 3 = nI (n + 3) := nI_add n 3
    rw [a1]
    exact pk_div (d := 4) (by omega) (by decide) (by decide)
  rw [e, e1]
  exact nm_e (nm_r (nI_1 i) ih)
theorem xk_leastZombie {post : Int32 → Prop} {s : Nat} (hs : s < 8) (h : post (uk_be x_pids (fun c => x_pids c ≠ 0 ∧ x_states c = 3 ∧ x_parents c = x_pids s) 8)) : wpX_leastZombie post (x_changes, x_saidCount, x_time, x_lastSlot, x_sliceSteps, x_latestPid, x_greatestPid, x_code, x_codeLengths, x_pids, x_parents, x_programs, x_places, x_states, x_statuses, x_stepCounts, x_copyCounts, x_wakeTimes, x_registers, x_pageCounts, x_pageFrames, x_held, x_frameUsers, x_frameWords, x_openHolders, x_openKinds, x_openTargets, x_openPlaces, x_openModes, x_pipeFirsts, x_pipeCounts, x_pipeWords, x_nameFiles, x_fileSizes, x_fileWords, x_safeNames, x_safeSizes, x_safeWords, x_saidInts) (nI s) := by
  unfold wpX_leastZombie
  obtain ⟨_, vs, es⟩ := uk_lp 8 hs (by decide)
  refine uk_run0 (fun m i (x : Int32) => wX_leastZombie_4 post (nI s) x_changes x_saidCount x_time x_lastSlot x_sliceSteps x_latestPid x_greatestPid x_code x_codeLengths x_pids x_parents x_programs x_places x_states x_statuses x_stepCounts x_copyCounts x_wakeTimes x_registers x_pageCounts x_pageFrames x_held x_frameUsers x_frameWords x_openHolders x_openKinds x_openTargets x_openPlaces x_openModes x_pipeFirsts x_pipeCounts x_pipeWords x_nameFiles x_fileSizes x_fileWords x_safeNames x_safeSizes x_safeWords x_saidInts m x (nI i)) (fun i => uk_be x_pids (fun c => x_pids c ≠ 0 ∧ x_states c = 3 ∧ x_parents c = x_pids s) i) 8 (fun m => br_t (uk_refl 8) h) (fun m i hi ih => ?_)
  obtain ⟨z, v, e⟩ := uk_lp 8 hi (by decide)
  refine br_f z ⟨v, ?_⟩
  rw [e, es]
  by_cases hZ : x_pids i ≠ 0 ∧ x_states i = 3 ∧ x_parents i = x_pids s
  · refine br_f hZ.1 ⟨v, br_t hZ.2.1 ⟨v, vs, br_t hZ.2.2 ?_⟩⟩
    refine br_f (by decide) ?_
    rw [e]
    refine ⟨fun a => ?_, fun a => ?_⟩
    · rw [uk_bet ⟨hZ, Or.inl a⟩] at ih
      exact nm_r (nI_1 i) ih
    · rcases uk_bes x_pids (fun c => x_pids c ≠ 0 ∧ x_states c = 3 ∧ x_parents c = x_pids s) i with ⟨b, _⟩ | ⟨j, hj, b, _⟩
      · exact absurd b a
      · refine ⟨v, by rw [b]; exact vp_in_nI (by omega) (by decide), fun d => ?_, fun d => ?_⟩
        · rw [uk_bef (fun w => by
            rcases w.2 with w | w
            · exact a w
            · exact Int32.not_lt.mpr d w)] at ih
          exact nm_r (nI_1 i) ih
        · rw [uk_bet ⟨hZ, Or.inr (Int32.not_le.mp d)⟩] at ih
          exact nm_r (nI_1 i) ih
  · rw [uk_bef (fun w => hZ w.1)] at ih
    have fin : wX_leastZombie_48 post (wX_leastZombie_4 post (nI s) x_changes x_saidCount x_time x_lastSlot x_sliceSteps x_latestPid x_greatestPid x_code x_codeLengths x_pids x_parents x_programs x_places x_states x_statuses x_stepCounts x_copyCounts x_wakeTimes x_registers x_pageCounts x_pageFrames x_held x_frameUsers x_frameWords x_openHolders x_openKinds x_openTargets x_openPlaces x_openModes x_pipeFirsts x_pipeCounts x_pipeWords x_nameFiles x_fileSizes x_fileWords x_safeNames x_safeSizes x_safeWords x_saidInts m) (nI s) (uk_be x_pids (fun c => x_pids c ≠ 0 ∧ x_states c = 3 ∧ x_parents c = x_pids s) i) (nI i) x_changes x_saidCount x_time x_lastSlot x_sliceSteps x_latestPid x_greatestPid x_code x_codeLengths x_pids x_parents x_programs x_places x_states x_statuses x_stepCounts x_copyCounts x_wakeTimes x_registers x_pageCounts x_pageFrames x_held x_frameUsers x_frameWords x_openHolders x_openKinds x_openTargets x_openPlaces x_openModes x_pipeFirsts x_pipeCounts x_pipeWords x_nameFiles x_fileSizes x_fileWords x_safeNames x_safeSizes x_safeWords x_saidInts := br_t rfl (nm_r (nI_1 i) ih)
    exact ⟨fun _ => fin, fun a => ⟨v, fun b => ⟨v, vs, fun c => absurd ⟨a, b, c⟩ hZ, fun _ => fin⟩, fun _ => fin⟩⟩
end
end
section
/-! the calls that only read, first part -/
theorem yk_nom {post : Int32 → Prop} {x m : Int32} (n : Nat) (hm : m = nI n - 1) (hb : n < 2 ^ 31) (hf : vp_in x n → post 0) (ht : ¬ vp_in x n → post 1) : wpY_no post x m := by
  cases n with
  | zero =>
    have e : m = -1 := hm
    have hn : ¬ vp_in x 0 := fun z => by have := uk_inc z; omega
    subst e
    unfold wpY_no
    refine ⟨fun _ => ht hn, fun a => ⟨fun b => absurd (Int32.lt_of_le_of_lt b (by decide)) a, fun _ => ht hn⟩⟩
  | succ n => exact yk_no n (hm.trans (nI_pred n)) hb hf ht
theorem i_vc_name {k : Nat} {u : SX} {v : SY} (I : i_Rel k u v) (hk : k + 5 ≤ 2560) (v1 : Int32) : wpX_name (fun r => wpY_name (fun r' => r' = r ∧ i_Rel (k + 5) u v) v v1) u v1 := by
  refine i_elim (C := fun u v => i_Rel (k + 5) u v → wpX_name (fun r => wpY_name (fun r' => r' = r ∧ i_Rel (k + 5) u v) v v1) u v1) I ?_ (i_up I)
  intro t b x_changes x_saidCount x_time x_lastSlot x_sliceSteps x_latestPid x_greatestPid x_code x_codeLengths x_pids x_parents x_programs x_places x_states x_statuses x_stepCounts x_copyCounts x_wakeTimes x_registers x_pageCounts x_pageFrames x_held x_frameUsers x_frameWords x_openHolders x_openKinds x_openTargets x_openPlaces x_openModes x_pipeFirsts x_pipeCounts x_pipeWords x_nameFiles x_fileSizes x_fileWords x_safeNames x_safeSizes x_safeWords x_saidInts y_time y_last y_lastPid y_did y_killed y_ops y_as y_bs y_pages y_wake y_zombie y_blocked y_memory y_frame y_kind y_mode y_pipe y_size y_safeSize y_said ht hbt hA J
  have eT := uk_aeT hA
  have hPr := uk_aPr hA
  have hPs := uk_aPs hA
  have hMe := uk_aMe hA
  have hFu := uk_aFu hA
  have hHd := uk_aHd hA
  have hHo := uk_aHo hA
  have hOk := uk_aOk hA
  have hFi := uk_aFi hA
  have hP : ∀ s, s < 8 → ¬ x_pids s < 0 := fun s hs => (hPs s hs).1
  have hN : ∀ s, s < 8 → x_pids s ≠ 0 → ∃ n, n ≤ 8 ∧ y_pages s = nI n := fun s hs hp => by
    obtain ⟨n, h1, _, h3, _⟩ := hMe s hs hp
    exact ⟨n, h1, h3⟩
  unfold wpX_name
  refine xk_isName (fun a => br_f (by decide) ⟨a, ?_⟩) (fun a => br_t rfl ?_)
  · unfold wpY_name
    exact yk_no 7 rfl (by decide) (fun b => br_t rfl ⟨b, rfl, J⟩) (fun b => absurd a b)
  · unfold wpY_name
    exact yk_no 7 rfl (by decide) (fun b => absurd b a) (fun b => br_f (by decide) ⟨rfl, J⟩)
theorem i_vc_said {k : Nat} {u : SX} {v : SY} (I : i_Rel k u v) (hk : k + 5 ≤ 2560) (v1 : Int32) : wpX_said (fun r => wpY_said (fun r' => r' = r ∧ i_Rel (k + 5) u v) v v1) u v1 := by
  refine i_elim (C := fun u v => i_Rel (k + 5) u v → wpX_said (fun r => wpY_said (fun r' => r' = r ∧ i_Rel (k + 5) u v) v v1) u v1) I ?_ (i_up I)
  intro t b x_changes x_saidCount x_time x_lastSlot x_sliceSteps x_latestPid x_greatestPid x_code x_codeLengths x_pids x_parents x_programs x_places x_states x_statuses x_stepCounts x_copyCounts x_wakeTimes x_registers x_pageCounts x_pageFrames x_held x_frameUsers x_frameWords x_openHolders x_openKinds x_openTargets x_openPlaces x_openModes x_pipeFirsts x_pipeCounts x_pipeWords x_nameFiles x_fileSizes x_fileWords x_safeNames x_safeSizes x_safeWords x_saidInts y_time y_last y_lastPid y_did y_killed y_ops y_as y_bs y_pages y_wake y_zombie y_blocked y_memory y_frame y_kind y_mode y_pipe y_size y_safeSize y_said ht hbt hA J
  have eT := uk_aeT hA
  have hPr := uk_aPr hA
  have hPs := uk_aPs hA
  have hMe := uk_aMe hA
  have hFu := uk_aFu hA
  have hHd := uk_aHd hA
  have hHo := uk_aHo hA
  have hOk := uk_aOk hA
  have hFi := uk_aFi hA
  have hP : ∀ s, s < 8 → ¬ x_pids s < 0 := fun s hs => (hPs s hs).1
  have hN : ∀ s, s < 8 → x_pids s ≠ 0 → ∃ n, n ≤ 8 ∧ y_pages s = nI n := fun s hs hp => by
    obtain ⟨n, h1, _, h3, _⟩ := hMe s hs hp
    exact ⟨n, h1, h3⟩
  obtain ⟨n, en, hn, hSd⟩ := uk_aN hA
  have e16 := uk_inE (x := v1) (n := 16) (N := 16) rfl (by decide)
  have y0 : ¬ vp_in v1 16 → wpY_said (fun r' => r' = 0 ∧ i_Rel (k + 5) (x_changes, x_saidCount, x_time, x_lastSlot, x_sliceSteps, x_latestPid, x_greatestPid, x_code, x_codeLengths, x_pids, x_parents, x_programs, x_places, x_states, x_statuses, x_stepCounts, x_copyCounts, x_wakeTimes, x_registers, x_pageCounts, x_pageFrames, x_held, x_frameUsers, x_frameWords, x_openHolders, x_openKinds, x_openTargets, x_openPlaces, x_openModes, x_pipeFirsts, x_pipeCounts, x_pipeWords, x_nameFiles, x_fileSizes, x_fileWords, x_safeNames, x_safeSizes, x_safeWords, x_saidInts) (x_changes, x_time, y_last, y_lastPid, y_did, x_greatestPid, x_latestPid, x_saidCount, y_killed, y_ops, y_as, y_bs, x_codeLengths, x_pids, x_parents, x_programs, x_places, x_statuses, x_stepCounts, x_copyCounts, y_pages, y_wake, y_zombie, y_blocked, x_registers, y_memory, y_frame, x_held, y_kind, x_openTargets, y_mode, x_openPlaces, x_pipeCounts, y_pipe, x_nameFiles, y_size, x_fileWords, x_safeNames, y_safeSize, x_safeWords, y_said)) (x_changes, x_time, y_last, y_lastPid, y_did, x_greatestPid, x_latestPid, x_saidCount, y_killed, y_ops, y_as, y_bs, x_codeLengths, x_pids, x_parents, x_programs, x_places, x_statuses, x_stepCounts, x_copyCounts, y_pages, y_wake, y_zombie, y_blocked, x_registers, y_memory, y_frame, x_held, y_kind, x_openTargets, y_mode, x_openPlaces, x_pipeCounts, y_pipe, x_nameFiles, y_size, x_fileWords, x_safeNames, y_safeSize, x_safeWords, y_said) v1 := fun a => by
    unfold wpY_said
    exact yk_no 15 rfl (by decide) (fun b => absurd b a) (fun b => br_f (by decide) ⟨rfl, J⟩)
  unfold wpX_said
  refine ⟨fun a => y0 (fun z => (e16.mp z).1 a), fun a => ⟨fun b => y0 (fun z => (e16.mp z).2 b), fun b => ?_⟩⟩
  have hv := e16.mpr ⟨a, b⟩
  obtain ⟨j, hj, rfl⟩ := vp_in_of hv (by decide)
  subst en
  refine ⟨fun c => ?_, fun c => ?_⟩
  · have hjn : j < n := (nI_ltI (by omega) (by omega)).mp c
    have e1 : nI n - 1 - nI j = nI (n - 1 - j) := (congrArg (· - nI j) (pk_sub (b := 1) (by omega))).trans (pk_sub (by omega))
    have e2 : nI n - 1 - nI j - (nI n - 1 - nI j) / 16 * 16 = nI ((n - 1 - j) % 16) := by
      rw [e1]
      exact pk_rem (d := 16) (by omega) (by decide) (by decide)
    rw [e2, nI_clamp (by omega)]
    refine ⟨by decide, vp_in_nI (by omega) (by decide), ?_⟩
    unfold wpY_said
    refine yk_no 15 rfl (by decide) (fun _ => br_t rfl (br_t c ⟨hv, ?_, J⟩)) (fun d => absurd hv d)
    rw [nI_clamp (by omega)]
    exact (hSd j hj hjn).symm
  · unfold wpY_said
    exact yk_no 15 rfl (by decide) (fun _ => br_t rfl (br_f c ⟨rfl, J⟩)) (fun d => absurd hv d)
theorem i_vc_word {k : Nat} {u : SX} {v : SY} (I : i_Rel k u v) (hk : k + 5 ≤ 2560) (v1 : Int32) (v2 : Int32) : wpX_word (fun r => wpY_word (fun r' => r' = r ∧ i_Rel (k + 5) u v) v v1 v2) u v1 v2 := by
  refine i_elim (C := fun u v => i_Rel (k + 5) u v → wpX_word (fun r => wpY_word (fun r' => r' = r ∧ i_Rel (k + 5) u v) v v1 v2) u v1 v2) I ?_ (i_up I)
  intro t b x_changes x_saidCount x_time x_lastSlot x_sliceSteps x_latestPid x_greatestPid x_code x_codeLengths x_pids x_parents x_programs x_places x_states x_statuses x_stepCounts x_copyCounts x_wakeTimes x_registers x_pageCounts x_pageFrames x_held x_frameUsers x_frameWords x_openHolders x_openKinds x_openTargets x_openPlaces x_openModes x_pipeFirsts x_pipeCounts x_pipeWords x_nameFiles x_fileSizes x_fileWords x_safeNames x_safeSizes x_safeWords x_saidInts y_time y_last y_lastPid y_did y_killed y_ops y_as y_bs y_pages y_wake y_zombie y_blocked y_memory y_frame y_kind y_mode y_pipe y_size y_safeSize y_said ht hbt hA J
  have eT := uk_aeT hA
  have hPr := uk_aPr hA
  have hPs := uk_aPs hA
  have hMe := uk_aMe hA
  have hFu := uk_aFu hA
  have hHd := uk_aHd hA
  have hHo := uk_aHo hA
  have hOk := uk_aOk hA
  have hFi := uk_aFi hA
  have hP : ∀ s, s < 8 → ¬ x_pids s < 0 := fun s hs => (hPs s hs).1
  have hN : ∀ s, s < 8 → x_pids s ≠ 0 → ∃ n, n ≤ 8 ∧ y_pages s = nI n := fun s hs hp => by
    obtain ⟨n, h1, _, h3, _⟩ := hMe s hs hp
    exact ⟨n, h1, h3⟩
  have e8 := uk_inE (x := v1) (n := 8) (N := 8) rfl (by decide)
  have y0 : ¬ vp_in v1 8 → wpY_word (fun r' => r' = 0 ∧ i_Rel (k + 5) (x_changes, x_saidCount, x_time, x_lastSlot, x_sliceSteps, x_latestPid, x_greatestPid, x_code, x_codeLengths, x_pids, x_parents, x_programs, x_places, x_states, x_statuses, x_stepCounts, x_copyCounts, x_wakeTimes, x_registers, x_pageCounts, x_pageFrames, x_held, x_frameUsers, x_frameWords, x_openHolders, x_openKinds, x_openTargets, x_openPlaces, x_openModes, x_pipeFirsts, x_pipeCounts, x_pipeWords, x_nameFiles, x_fileSizes, x_fileWords, x_safeNames, x_safeSizes, x_safeWords, x_saidInts) (x_changes, x_time, y_last, y_lastPid, y_did, x_greatestPid, x_latestPid, x_saidCount, y_killed, y_ops, y_as, y_bs, x_codeLengths, x_pids, x_parents, x_programs, x_places, x_statuses, x_stepCounts, x_copyCounts, y_pages, y_wake, y_zombie, y_blocked, x_registers, y_memory, y_frame, x_held, y_kind, x_openTargets, y_mode, x_openPlaces, x_pipeCounts, y_pipe, x_nameFiles, y_size, x_fileWords, x_safeNames, y_safeSize, x_safeWords, y_said)) (x_changes, x_time, y_last, y_lastPid, y_did, x_greatestPid, x_latestPid, x_saidCount, y_killed, y_ops, y_as, y_bs, x_codeLengths, x_pids, x_parents, x_programs, x_places, x_statuses, x_stepCounts, x_copyCounts, y_pages, y_wake, y_zombie, y_blocked, x_registers, y_memory, y_frame, x_held, y_kind, x_openTargets, y_mode, x_openPlaces, x_pipeCounts, y_pipe, x_nameFiles, y_size, x_fileWords, x_safeNames, y_safeSize, x_safeWords, y_said) v1 v2 := fun a => by
    unfold wpY_word
    exact yk_no 7 rfl (by decide) (fun b => absurd b a) (fun b => br_f (by decide) ⟨rfl, J⟩)
  unfold wpX_word
  refine ⟨fun a => y0 (fun z => (e8.mp z).1 a), fun a => ⟨fun b => y0 (fun z => (e8.mp z).2 b), fun b => ?_⟩⟩
  have hv := e8.mpr ⟨a, b⟩
  obtain ⟨f, hf, rfl⟩ := vp_in_of hv (by decide)
  obtain ⟨s1, s2, s3⟩ := hFi.2 f hf
  obtain ⟨m, hm, em⟩ := vp_in_of s1 (by decide)
  have y1 : ¬ vp_in v2 m → wpY_word (fun r' => r' = 0 ∧ i_Rel (k + 5) (x_changes, x_saidCount, x_time, x_lastSlot, x_sliceSteps, x_latestPid, x_greatestPid, x_code, x_codeLengths, x_pids, x_parents, x_programs, x_places, x_states, x_statuses, x_stepCounts, x_copyCounts, x_wakeTimes, x_registers, x_pageCounts, x_pageFrames, x_held, x_frameUsers, x_frameWords, x_openHolders, x_openKinds, x_openTargets, x_openPlaces, x_openModes, x_pipeFirsts, x_pipeCounts, x_pipeWords, x_nameFiles, x_fileSizes, x_fileWords, x_safeNames, x_safeSizes, x_safeWords, x_saidInts) (x_changes, x_time, y_last, y_lastPid, y_did, x_greatestPid, x_latestPid, x_saidCount, y_killed, y_ops, y_as, y_bs, x_codeLengths, x_pids, x_parents, x_programs, x_places, x_statuses, x_stepCounts, x_copyCounts, y_pages, y_wake, y_zombie, y_blocked, x_registers, y_memory, y_frame, x_held, y_kind, x_openTargets, y_mode, x_openPlaces, x_pipeCounts, y_pipe, x_nameFiles, y_size, x_fileWords, x_safeNames, y_safeSize, x_safeWords, y_said)) (x_changes, x_time, y_last, y_lastPid, y_did, x_greatestPid, x_latestPid, x_saidCount, y_killed, y_ops, y_as, y_bs, x_codeLengths, x_pids, x_parents, x_programs, x_places, x_statuses, x_stepCounts, x_copyCounts, y_pages, y_wake, y_zombie, y_blocked, x_registers, y_memory, y_frame, x_held, y_kind, x_openTargets, y_mode, x_openPlaces, x_pipeCounts, y_pipe, x_nameFiles, y_size, x_fileWords, x_safeNames, y_safeSize, x_safeWords, y_said) (nI f) v2 := fun a => by
    unfold wpY_word
    refine yk_no 7 rfl (by decide) (fun _ => br_t rfl ⟨hv, ?_⟩) (fun d => absurd hv d)
    rw [nI_clamp (show f < 2 ^ 31 by omega), em]
    exact yk_nom m rfl (by omega) (fun d => absurd d a) (fun _ => br_f (by decide) ⟨rfl, J⟩)
  refine xk_isFree hOk hHo (fun fr => br_f (by decide) (y1 (fun z => ?_))) (fun fr => br_t rfl ?_)
  · have e0 := s2 fr
    rw [em] at e0
    have := (nI_eq (b := 0) (by omega) (by decide)).mp e0
    have := uk_inc z
    omega
  · refine ⟨fun d => y1 (fun z => (not_or.mp z).1 d), fun d => ⟨hv, ?_⟩⟩
    rw [nI_clamp (show f < 2 ^ 31 by omega), s3 fr, em]
    obtain ⟨j, hj, rfl⟩ := nI_of d
    rw [uk_m16, nI_add]
    refine ⟨fun e => ?_, fun e => y1 (fun z => e (by
      have := uk_inc z
      rw [nI_clamp hj] at this
      exact nI_lt this (by omega)))⟩
    have hjm : j < m := (nI_ltI hj (by omega)).mp e
    rw [nI_clamp (show 16 * f + j < 2 ^ 31 by omega)]
    refine ⟨vp_in_nI (by omega) (by decide), ?_⟩
    unfold wpY_word
    refine yk_no 7 rfl (by decide) (fun _ => br_t rfl ⟨hv, ?_⟩) (fun d => absurd hv d)
    rw [nI_clamp (show f < 2 ^ 31 by omega), em]
    refine yk_nom m rfl (by omega) (fun _ => br_t rfl ?_) (fun w => absurd (vp_in_nI hjm (by omega)) w)
    rw [uk_16m, nI_add, nI_clamp (show 16 * f + j < 2 ^ 31 by omega)]
    exact ⟨vp_in_nI (by omega) (by decide), rfl, J⟩
section
variable {x_changes x_saidCount x_time x_lastSlot x_sliceSteps x_latestPid x_greatestPid : Int32} {x_code x_codeLengths x_pids x_parents x_programs x_places x_states x_statuses x_stepCounts x_copyCounts x_wakeTimes x_registers x_pageCounts x_pageFrames x_held x_frameUsers x_frameWords x_openHolders x_openKinds x_openTargets x_openPlaces x_openModes x_pipeFirsts x_pipeCounts x_pipeWords x_nameFiles x_fileSizes x_fileWords x_safeNames x_safeSizes x_safeWords x_saidInts : Nat → Int32} {y_time y_last y_lastPid y_did y_killed : Int32} {y_ops y_as y_bs y_pages y_wake y_zombie y_blocked y_memory y_frame y_kind y_mode y_pipe y_size y_safeSize y_said : Nat → Int32}
theorem yk_total3 {post : Int32 → Prop} (h : post (nI (uk_cn (fun f => uk_fre x_nameFiles y_kind x_openTargets f) 8))) : ∃ m, wY_total_77 post x_changes y_time y_last y_lastPid y_did x_greatestPid x_latestPid x_saidCount y_killed y_ops y_as y_bs x_codeLengths x_pids x_parents x_programs x_places x_statuses x_stepCounts x_copyCounts y_pages y_wake y_zombie y_blocked x_registers y_memory y_frame x_held y_kind x_openTargets y_mode x_openPlaces x_pipeCounts y_pipe x_nameFiles y_size x_fileWords x_safeNames y_safeSize x_safeWords y_said m 0 0 := by
  refine uk_count (fun n i c => wY_total_77 post x_changes y_time y_last y_lastPid y_did x_greatestPid x_latestPid x_saidCount y_killed y_ops y_as y_bs x_codeLengths x_pids x_parents x_programs x_places x_statuses x_stepCounts x_copyCounts y_pages y_wake y_zombie y_blocked x_registers y_memory y_frame x_held y_kind x_openTargets y_mode x_openPlaces x_pipeCounts y_pipe x_nameFiles y_size x_fileWords x_safeNames y_safeSize x_safeWords y_said n c (nI i)) (fun f => uk_fre x_nameFiles y_kind x_openTargets f) 8 (fun n => br_t (uk_refl 8) h) (fun n i c hi ht hf => ?_)
  obtain ⟨z, v, e⟩ := uk_lp 8 hi (by decide)
  exact br_f z (yk_isFree (fun a => br_f (by decide) (nm_r (nI_1 c) (nm_r (nI_1 i) (ht a)))) (fun a => br_t rfl (nm_r (nI_1 i) (hf a))))
theorem yk_total4 {post : Int32 → Prop} (h : post (nI (uk_cn (fun p => ¬ uk_pfr y_kind x_openTargets (nI p)) 4))) : ∃ m, wY_total_104 post x_changes y_time y_last y_lastPid y_did x_greatestPid x_latestPid x_saidCount y_killed y_ops y_as y_bs x_codeLengths x_pids x_parents x_programs x_places x_statuses x_stepCounts x_copyCounts y_pages y_wake y_zombie y_blocked x_registers y_memory y_frame x_held y_kind x_openTargets y_mode x_openPlaces x_pipeCounts y_pipe x_nameFiles y_size x_fileWords x_safeNames y_safeSize x_safeWords y_said m 0 0 := by
  refine uk_count (fun n i c => wY_total_104 post x_changes y_time y_last y_lastPid y_did x_greatestPid x_latestPid x_saidCount y_killed y_ops y_as y_bs x_codeLengths x_pids x_parents x_programs x_places x_statuses x_stepCounts x_copyCounts y_pages y_wake y_zombie y_blocked x_registers y_memory y_frame x_held y_kind x_openTargets y_mode x_openPlaces x_pipeCounts y_pipe x_nameFiles y_size x_fileWords x_safeNames y_safeSize x_safeWords y_said n c (nI i)) (fun p => ¬ uk_pfr y_kind x_openTargets (nI p)) 4 (fun n => br_t (uk_refl 4) h) (fun n i c hi ht hf => ?_)
  obtain ⟨z, v, e⟩ := uk_lp 4 hi (by decide)
  exact br_f z (yk_isPipe (fun a => br_f (by decide) (nm_r (nI_1 c) (nm_r (nI_1 i) (ht a)))) (fun a => br_t rfl (nm_r (nI_1 i) (hf (fun w => w a)))))
end
theorem i_vc_total {k : Nat} {u : SX} {v : SY} (I : i_Rel k u v) (hk : k + 5 ≤ 2560) (v1 : Int32) : wpX_total (fun r => wpY_total (fun r' => r' = r ∧ i_Rel (k + 5) u v) v v1) u v1 := by
  refine i_elim (C := fun u v => i_Rel (k + 5) u v → wpX_total (fun r => wpY_total (fun r' => r' = r ∧ i_Rel (k + 5) u v) v v1) u v1) I ?_ (i_up I)
  intro t b x_changes x_saidCount x_time x_lastSlot x_sliceSteps x_latestPid x_greatestPid x_code x_codeLengths x_pids x_parents x_programs x_places x_states x_statuses x_stepCounts x_copyCounts x_wakeTimes x_registers x_pageCounts x_pageFrames x_held x_frameUsers x_frameWords x_openHolders x_openKinds x_openTargets x_openPlaces x_openModes x_pipeFirsts x_pipeCounts x_pipeWords x_nameFiles x_fileSizes x_fileWords x_safeNames x_safeSizes x_safeWords x_saidInts y_time y_last y_lastPid y_did y_killed y_ops y_as y_bs y_pages y_wake y_zombie y_blocked y_memory y_frame y_kind y_mode y_pipe y_size y_safeSize y_said ht hbt hA J
  have eT := uk_aeT hA
  have hPr := uk_aPr hA
  have hPs := uk_aPs hA
  have hMe := uk_aMe hA
  have hFu := uk_aFu hA
  have hHd := uk_aHd hA
  have hHo := uk_aHo hA
  have hOk := uk_aOk hA
  have hFi := uk_aFi hA
  have hP : ∀ s, s < 8 → ¬ x_pids s < 0 := fun s hs => (hPs s hs).1
  have hN : ∀ s, s < 8 → x_pids s ≠ 0 → ∃ n, n ≤ 8 ∧ y_pages s = nI n := fun s hs hp => by
    obtain ⟨n, h1, _, h3, _⟩ := hMe s hs hp
    exact ⟨n, h1, h3⟩
  have hc1 : uk_cn (fun f => uk_sm (uk_rw x_pids y_pages y_frame f) 8 = 0) 20 = uk_cn (fun f => x_frameUsers f = 0) 20 := uk_cnc 20 (fun f hf => (uk_fun hMe hFu hf).1.symm)
  have hc8 : uk_cn (fun o => ¬ y_kind o ≤ 0) 12 = uk_cn (fun o => ¬ x_openHolders o ≤ 0) 12 := uk_cnc 12 (fun o ho => by
    rw [(uk_ohp hHo ho).2.1]
    rcases (hOk o ho).2 with ⟨a, b⟩ | ⟨a, b, c⟩
    · rw [a, b]; exact ⟨fun z => absurd (by decide) z, fun z => absurd rfl z⟩
    · refine ⟨fun _ => a, fun _ => ?_⟩
      rcases c with c | c | c <;> rw [c.1] <;> decide)
  unfold wpX_total
  refine ⟨fun a => ?_, fun a => ⟨fun b => ?_, fun b => ?_⟩⟩
  · unfold wpY_total
    exact br_t a ⟨rfl, J⟩
  · unfold wpY_total
    exact br_f a (br_t b ⟨rfl, J⟩)
  refine ⟨fun c0 => ?_, fun c0 => ?_⟩
  · refine xk_countProcesses ?_
    unfold wpY_total
    exact br_f a (br_f b (br_t c0 (yk_processes hP ⟨rfl, J⟩)))
  refine ⟨fun c1 => ?_, fun c1 => ?_⟩
  · refine xk_countFreeFrames ?_
    unfold wpY_total
    exact br_f a (br_f b (br_f c0 (br_t c1 (yk_freeFrames hP hN ⟨congrArg nI hc1, J⟩))))
  refine ⟨fun c2 => ?_, fun c2 => ?_⟩
  · refine xk_countFreeBlocks hOk hHo hFi ?_
    unfold wpY_total
    exact br_f a (br_f b (br_f c0 (br_f c1 (br_t c2 (yk_freeBlocks hFi ⟨rfl, J⟩)))))
  refine ⟨fun c3 => ?_, fun c3 => ?_⟩
  · refine xk_countFreeFiles hOk hHo ?_
    unfold wpY_total
    exact br_f a (br_f b (br_f c0 (br_f c1 (br_f c2 (br_t c3 (yk_total3 ⟨rfl, J⟩))))))
  refine ⟨fun c4 => ?_, fun c4 => ?_⟩
  · refine xk_countPipes hOk hHo ?_
    unfold wpY_total
    exact br_f a (br_f b (br_f c0 (br_f c1 (br_f c2 (br_f c3 (br_t c4 (yk_total4 ⟨rfl, J⟩)))))))
  refine ⟨fun c5 => ?_, fun c5 => ?_⟩
  · unfold wpY_total
    exact br_f a (br_f b (br_f c0 (br_f c1 (br_f c2 (br_f c3 (br_f c4 (br_t c5 ⟨rfl, J⟩)))))))
  refine ⟨fun c6 => ?_, fun c6 => ?_⟩
  · unfold wpY_total
    exact br_f a (br_f b (br_f c0 (br_f c1 (br_f c2 (br_f c3 (br_f c4 (br_f c5 (br_t c6 ⟨rfl, J⟩))))))))
  refine ⟨fun c7 => ?_, fun c7 => ?_⟩
  · unfold wpY_total
    exact br_f a (br_f b (br_f c0 (br_f c1 (br_f c2 (br_f c3 (br_f c4 (br_f c5 (br_f c6 (br_t c7 ⟨rfl, J⟩)))))))))
  refine ⟨fun c8 => ?_, fun c8 => ?_⟩
  · refine xk_countOpenFiles ?_
    unfold wpY_total
    exact br_f a (br_f b (br_f c0 (br_f c1 (br_f c2 (br_f c3 (br_f c4 (br_f c5 (br_f c6 (br_f c7 (br_t c8 (yk_opens ⟨congrArg nI hc8, J⟩)))))))))))
  refine ⟨fun c9 => ?_, fun c9 => ?_⟩
  · unfold wpY_total
    exact br_f a (br_f b (br_f c0 (br_f c1 (br_f c2 (br_f c3 (br_f c4 (br_f c5 (br_f c6 (br_f c7 (br_f c8 (br_t c9 ⟨rfl, J⟩)))))))))))
  refine ⟨fun c10 => ?_, fun c10 => ?_⟩
  · unfold wpY_total
    exact br_f a (br_f b (br_f c0 (br_f c1 (br_f c2 (br_f c3 (br_f c4 (br_f c5 (br_f c6 (br_f c7 (br_f c8 (br_f c9 (br_t c10 ⟨rfl, J⟩))))))))))))
  · trivial
end
section
/-! the calls that only read, second part -/
section
variable {x_changes x_saidCount x_time x_lastSlot x_sliceSteps x_latestPid x_greatestPid : Int32} {x_code x_codeLengths x_pids x_parents x_programs x_places x_states x_statuses x_stepCounts x_copyCounts x_wakeTimes x_registers x_pageCounts x_pageFrames x_held x_frameUsers x_frameWords x_openHolders x_openKinds x_openTargets x_openPlaces x_openModes x_pipeFirsts x_pipeCounts x_pipeWords x_nameFiles x_fileSizes x_fileWords x_safeNames x_safeSizes x_safeWords x_saidInts : Nat → Int32} {y_time y_last y_lastPid y_did y_killed : Int32} {y_ops y_as y_bs y_pages y_wake y_zombie y_blocked y_memory y_frame y_kind y_mode y_pipe y_size y_safeSize y_said : Nat → Int32}
theorem xk_wordIndex {post : Int32 → Prop} {s n : Nat} {a : Int32} (hs : s < 8) (hn : x_pageCounts s = nI n) (hn8 : n ≤ 8) (hpf : ∀ p, p < n → vp_in (x_pageFrames (8 * s + p)) 20) (h0 : ¬ vp_in a (4 * n) → post (-1)) (h1 : ∀ j, j < 4 * n → a = nI j → post (nI (4 * (x_pageFrames (8 * s + j / 4)).toNatClampNeg + j % 4))) : wpX_wordIndex post (x_changes, x_saidCount, x_time, x_lastSlot, x_sliceSteps, x_latestPid, x_greatestPid, x_code, x_codeLengths, x_pids, x_parents, x_programs, x_places, x_states, x_statuses, x_stepCounts, x_copyCounts, x_wakeTimes, x_registers, x_pageCounts, x_pageFrames, x_held, x_frameUsers, x_frameWords, x_openHolders, x_openKinds, x_openTargets, x_openPlaces, x_openModes, x_pipeFirsts, x_pipeCounts, x_pipeWords, x_nameFiles, x_fileSizes, x_fileWords, x_safeNames, x_safeSizes, x_safeWords, x_saidInts) (nI s) a := by
  obtain ⟨_, vs, es⟩ := uk_lp 8 hs (by decide)
  unfold wpX_wordIndex
  refine ⟨fun c => h0 (fun z => (not_or.mp z).1 c), fun c => ⟨vs, ?_⟩⟩
  obtain ⟨j, hj, rfl⟩ := nI_of c
  rw [es, hn, uk_m4]
  refine ⟨fun d => ⟨by decide, ?_⟩, fun d => h0 (fun z => d (by
    have := uk_inc z
    rw [nI_clamp hj] at this
    exact nI_lt this (by omega)))⟩
  have hjn : j < 4 * n := (nI_ltI hj (by omega)).mp d
  have er : nI j - nI j / 4 * 4 = nI (j % 4) := pk_rem (d := 4) hj (by decide) (by decide)
  have e4 : nI j / 4 = nI (j / 4) := pk_div (d := 4) hj (by decide) (by decide)
  rw [er, e4, uk_m8, nI_add]
  refine ⟨vp_in_nI (by omega) (by decide), ?_⟩
  rw [nI_clamp (by omega)]
  have hv := hpf (j / 4) (by omega)
  have h2 := h1 j hjn rfl
  intro y ey
  refine ⟨by decide, ?_⟩
  rw [ey, ← uk_ofin hv, uk_m4, nI_add]
  exact h2
end
theorem uk_slot {P : Nat → Int32} {p : Int32} (h : ¬ p < 1) : (uk_ff (fun s => P s = p) 8 = -1) ∨ (∃ s, s < 8 ∧ uk_ff (fun s => P s = p) 8 = nI s ∧ P s = p ∧ P s ≠ 0) := by
  rcases uk_ffs (fun s => P s = p) 8 with ⟨a, _⟩ | ⟨s, hs, a, b, _⟩
  · exact Or.inl a
  · exact Or.inr ⟨s, hs, a, b, fun z => h (by rw [← b, z]; decide)⟩
theorem i_vc_sharing {k : Nat} {u : SX} {v : SY} (I : i_Rel k u v) (hk : k + 5 ≤ 2560) (v1 : Int32) (v2 : Int32) : wpX_sharing (fun r => wpY_sharing (fun r' => r' = r ∧ i_Rel (k + 5) u v) v v1 v2) u v1 v2 := by
  refine i_elim (C := fun u v => i_Rel (k + 5) u v → wpX_sharing (fun r => wpY_sharing (fun r' => r' = r ∧ i_Rel (k + 5) u v) v v1 v2) u v1 v2) I ?_ (i_up I)
  intro t b x_changes x_saidCount x_time x_lastSlot x_sliceSteps x_latestPid x_greatestPid x_code x_codeLengths x_pids x_parents x_programs x_places x_states x_statuses x_stepCounts x_copyCounts x_wakeTimes x_registers x_pageCounts x_pageFrames x_held x_frameUsers x_frameWords x_openHolders x_openKinds x_openTargets x_openPlaces x_openModes x_pipeFirsts x_pipeCounts x_pipeWords x_nameFiles x_fileSizes x_fileWords x_safeNames x_safeSizes x_safeWords x_saidInts y_time y_last y_lastPid y_did y_killed y_ops y_as y_bs y_pages y_wake y_zombie y_blocked y_memory y_frame y_kind y_mode y_pipe y_size y_safeSize y_said ht hbt hA J
  have eT := uk_aeT hA
  have hPr := uk_aPr hA
  have hPs := uk_aPs hA
  have hMe := uk_aMe hA
  have hFu := uk_aFu hA
  have hHd := uk_aHd hA
  have hHo := uk_aHo hA
  have hOk := uk_aOk hA
  have hFi := uk_aFi hA
  have hP : ∀ s, s < 8 → ¬ x_pids s < 0 := fun s hs => (hPs s hs).1
  have hN : ∀ s, s < 8 → x_pids s ≠ 0 → ∃ n, n ≤ 8 ∧ y_pages s = nI n := fun s hs hp => by
    obtain ⟨n, h1, _, h3, _⟩ := hMe s hs hp
    exact ⟨n, h1, h3⟩
  have yn : ∀ post : Int32 → Prop, post (0) → (v1 < 1 ∨ uk_ff (fun s => x_pids s = v1) 8 = -1) → wpY_sharing post (x_changes, x_time, y_last, y_lastPid, y_did, x_greatestPid, x_latestPid, x_saidCount, y_killed, y_ops, y_as, y_bs, x_codeLengths, x_pids, x_parents, x_programs, x_places, x_statuses, x_stepCounts, x_copyCounts, y_pages, y_wake, y_zombie, y_blocked, x_registers, y_memory, y_frame, x_held, y_kind, x_openTargets, y_mode, x_openPlaces, x_pipeCounts, y_pipe, x_nameFiles, y_size, x_fileWords, x_safeNames, y_safeSize, x_safeWords, y_said) v1 v2 := fun post hp h => by
    unfold wpY_sharing
    refine yk_slotOf (fun _ => br_t (by decide) hp) (fun a => ?_)
    rcases h with h | h
    · exact absurd h a
    · rw [h]
      exact br_t (by decide) hp
  unfold wpX_sharing
  refine xk_findSlot (fun a => br_t rfl (yn _ ⟨rfl, J⟩ (Or.inl a))) (fun a => ?_)
  rcases uk_slot (P := x_pids) a with e | ⟨s, hs, e, eP, hp0⟩
  · rw [e]
    exact br_t rfl (yn _ ⟨rfl, J⟩ (Or.inr e))
  obtain ⟨_, vs, es⟩ := uk_lp 8 hs (by decide)
  obtain ⟨q, hq8, q2, q3, q4, q5⟩ := hMe s hs hp0
  have ns : ¬ nI s < 0 := nI_pos (by omega)
  have ns0 : 0 ≤ nI s := nI_pos' (by omega)
  have yS : ∀ post : Int32 → Prop, (∀ post', post' (nI s) → wpY_slotOf post' (x_changes, x_time, y_last, y_lastPid, y_did, x_greatestPid, x_latestPid, x_saidCount, y_killed, y_ops, y_as, y_bs, x_codeLengths, x_pids, x_parents, x_programs, x_places, x_statuses, x_stepCounts, x_copyCounts, y_pages, y_wake, y_zombie, y_blocked, x_registers, y_memory, y_frame, x_held, y_kind, x_openTargets, y_mode, x_openPlaces, x_pipeCounts, y_pipe, x_nameFiles, y_size, x_fileWords, x_safeNames, y_safeSize, x_safeWords, y_said) v1) := fun post post' hp => yk_slotOf (fun z => absurd z a) (fun _ => by rw [e]; exact hp)
  rw [e]
  refine br_f (uk_ne1 (by omega)) ?_
  have y0 : ¬ vp_in v2 q → wpY_sharing (fun r' => r' = 0 ∧ i_Rel (k + 5) (x_changes, x_saidCount, x_time, x_lastSlot, x_sliceSteps, x_latestPid, x_greatestPid, x_code, x_codeLengths, x_pids, x_parents, x_programs, x_places, x_states, x_statuses, x_stepCounts, x_copyCounts, x_wakeTimes, x_registers, x_pageCounts, x_pageFrames, x_held, x_frameUsers, x_frameWords, x_openHolders, x_openKinds, x_openTargets, x_openPlaces, x_openModes, x_pipeFirsts, x_pipeCounts, x_pipeWords, x_nameFiles, x_fileSizes, x_fileWords, x_safeNames, x_safeSizes, x_safeWords, x_saidInts) (x_changes, x_time, y_last, y_lastPid, y_did, x_greatestPid, x_latestPid, x_saidCount, y_killed, y_ops, y_as, y_bs, x_codeLengths, x_pids, x_parents, x_programs, x_places, x_statuses, x_stepCounts, x_copyCounts, y_pages, y_wake, y_zombie, y_blocked, x_registers, y_memory, y_frame, x_held, y_kind, x_openTargets, y_mode, x_openPlaces, x_pipeCounts, y_pipe, x_nameFiles, y_size, x_fileWords, x_safeNames, y_safeSize, x_safeWords, y_said)) (x_changes, x_time, y_last, y_lastPid, y_did, x_greatestPid, x_latestPid, x_saidCount, y_killed, y_ops, y_as, y_bs, x_codeLengths, x_pids, x_parents, x_programs, x_places, x_statuses, x_stepCounts, x_copyCounts, y_pages, y_wake, y_zombie, y_blocked, x_registers, y_memory, y_frame, x_held, y_kind, x_openTargets, y_mode, x_openPlaces, x_pipeCounts, y_pipe, x_nameFiles, y_size, x_fileWords, x_safeNames, y_safeSize, x_safeWords, y_said) v1 v2 := fun z => by
    unfold wpY_sharing
    refine yS (fun _ => True) _ (br_f ns ⟨vs, ?_⟩)
    rw [es, q3]
    exact yk_nom q rfl (by omega) (fun w => absurd w z) (fun _ => br_f (by decide) ⟨rfl, J⟩)
  refine ⟨fun d => y0 (fun z => (not_or.mp z).1 d), fun d => ⟨vs, ?_⟩⟩
  obtain ⟨j, hj, rfl⟩ := nI_of d
  rw [es, q2, uk_m8, nI_add]
  refine ⟨fun d2 => ?_, fun d2 => y0 (fun z => d2 (by
    have := uk_inc z
    rw [nI_clamp hj] at this
    exact nI_lt this (by omega)))⟩
  have hjn : j < q := (nI_ltI hj (by omega)).mp d2
  obtain ⟨f1, f2, _⟩ := q5 j hjn
  rw [nI_clamp (show 8 * s + j < 2 ^ 31 by omega), f2]
  refine ⟨vp_in_nI (by omega) (by decide), f1, ?_⟩
  unfold wpY_sharing
  refine yS (fun _ => True) _ (br_f ns ⟨vs, ?_⟩)
  rw [es, q3]
  refine yk_nom q rfl (by omega) (fun _ => br_t rfl ?_) (fun w => absurd (vp_in_nI hjn (by omega)) w)
  rw [uk_8m, nI_add, nI_clamp (show 8 * s + j < 2 ^ 31 by omega)]
  refine ⟨vp_in_nI (by omega) (by decide), ?_⟩
  obtain ⟨f, hf, ef⟩ := vp_in_of f1 (by decide)
  rw [ef, nI_clamp (show f < 2 ^ 31 by omega), hFu f hf]
  exact yk_sharers hP hN ⟨rfl, J⟩
theorem i_vc_memory {k : Nat} {u : SX} {v : SY} (I : i_Rel k u v) (hk : k + 5 ≤ 2560) (v1 : Int32) (v2 : Int32) : wpX_memory (fun r => wpY_memory (fun r' => r' = r ∧ i_Rel (k + 5) u v) v v1 v2) u v1 v2 := by
  refine i_elim (C := fun u v => i_Rel (k + 5) u v → wpX_memory (fun r => wpY_memory (fun r' => r' = r ∧ i_Rel (k + 5) u v) v v1 v2) u v1 v2) I ?_ (i_up I)
  intro t b x_changes x_saidCount x_time x_lastSlot x_sliceSteps x_latestPid x_greatestPid x_code x_codeLengths x_pids x_parents x_programs x_places x_states x_statuses x_stepCounts x_copyCounts x_wakeTimes x_registers x_pageCounts x_pageFrames x_held x_frameUsers x_frameWords x_openHolders x_openKinds x_openTargets x_openPlaces x_openModes x_pipeFirsts x_pipeCounts x_pipeWords x_nameFiles x_fileSizes x_fileWords x_safeNames x_safeSizes x_safeWords x_saidInts y_time y_last y_lastPid y_did y_killed y_ops y_as y_bs y_pages y_wake y_zombie y_blocked y_memory y_frame y_kind y_mode y_pipe y_size y_safeSize y_said ht hbt hA J
  have eT := uk_aeT hA
  have hPr := uk_aPr hA
  have hPs := uk_aPs hA
  have hMe := uk_aMe hA
  have hFu := uk_aFu hA
  have hHd := uk_aHd hA
  have hHo := uk_aHo hA
  have hOk := uk_aOk hA
  have hFi := uk_aFi hA
  have hP : ∀ s, s < 8 → ¬ x_pids s < 0 := fun s hs => (hPs s hs).1
  have hN : ∀ s, s < 8 → x_pids s ≠ 0 → ∃ n, n ≤ 8 ∧ y_pages s = nI n := fun s hs hp => by
    obtain ⟨n, h1, _, h3, _⟩ := hMe s hs hp
    exact ⟨n, h1, h3⟩
  have yn : ∀ post : Int32 → Prop, post (0) → (v1 < 1 ∨ uk_ff (fun s => x_pids s = v1) 8 = -1) → wpY_memory post (x_changes, x_time, y_last, y_lastPid, y_did, x_greatestPid, x_latestPid, x_saidCount, y_killed, y_ops, y_as, y_bs, x_codeLengths, x_pids, x_parents, x_programs, x_places, x_statuses, x_stepCounts, x_copyCounts, y_pages, y_wake, y_zombie, y_blocked, x_registers, y_memory, y_frame, x_held, y_kind, x_openTargets, y_mode, x_openPlaces, x_pipeCounts, y_pipe, x_nameFiles, y_size, x_fileWords, x_safeNames, y_safeSize, x_safeWords, y_said) v1 v2 := fun post hp h => by
    unfold wpY_memory
    refine yk_slotOf (fun _ => br_t (by decide) hp) (fun a => ?_)
    rcases h with h | h
    · exact absurd h a
    · rw [h]
      exact br_t (by decide) hp
  unfold wpX_memory
  refine xk_findSlot (fun a => br_t rfl (yn _ ⟨rfl, J⟩ (Or.inl a))) (fun a => ?_)
  rcases uk_slot (P := x_pids) a with e | ⟨s, hs, e, eP, hp0⟩
  · rw [e]
    exact br_t rfl (yn _ ⟨rfl, J⟩ (Or.inr e))
  obtain ⟨_, vs, es⟩ := uk_lp 8 hs (by decide)
  obtain ⟨q, hq8, q2, q3, q4, q5⟩ := hMe s hs hp0
  have ns : ¬ nI s < 0 := nI_pos (by omega)
  have ns0 : 0 ≤ nI s := nI_pos' (by omega)
  have yS : ∀ post : Int32 → Prop, (∀ post', post' (nI s) → wpY_slotOf post' (x_changes, x_time, y_last, y_lastPid, y_did, x_greatestPid, x_latestPid, x_saidCount, y_killed, y_ops, y_as, y_bs, x_codeLengths, x_pids, x_parents, x_programs, x_places, x_statuses, x_stepCounts, x_copyCounts, y_pages, y_wake, y_zombie, y_blocked, x_registers, y_memory, y_frame, x_held, y_kind, x_openTargets, y_mode, x_openPlaces, x_pipeCounts, y_pipe, x_nameFiles, y_size, x_fileWords, x_safeNames, y_safeSize, x_safeWords, y_said) v1) := fun post post' hp => yk_slotOf (fun z => absurd z a) (fun _ => by rw [e]; exact hp)
  rw [e]
  refine br_f (uk_ne1 (by omega)) ?_
  have y0 : ¬ vp_in v2 (4 * q) → wpY_memory (fun r' => r' = 0 ∧ i_Rel (k + 5) (x_changes, x_saidCount, x_time, x_lastSlot, x_sliceSteps, x_latestPid, x_greatestPid, x_code, x_codeLengths, x_pids, x_parents, x_programs, x_places, x_states, x_statuses, x_stepCounts, x_copyCounts, x_wakeTimes, x_registers, x_pageCounts, x_pageFrames, x_held, x_frameUsers, x_frameWords, x_openHolders, x_openKinds, x_openTargets, x_openPlaces, x_openModes, x_pipeFirsts, x_pipeCounts, x_pipeWords, x_nameFiles, x_fileSizes, x_fileWords, x_safeNames, x_safeSizes, x_safeWords, x_saidInts) (x_changes, x_time, y_last, y_lastPid, y_did, x_greatestPid, x_latestPid, x_saidCount, y_killed, y_ops, y_as, y_bs, x_codeLengths, x_pids, x_parents, x_programs, x_places, x_statuses, x_stepCounts, x_copyCounts, y_pages, y_wake, y_zombie, y_blocked, x_registers, y_memory, y_frame, x_held, y_kind, x_openTargets, y_mode, x_openPlaces, x_pipeCounts, y_pipe, x_nameFiles, y_size, x_fileWords, x_safeNames, y_safeSize, x_safeWords, y_said)) (x_changes, x_time, y_last, y_lastPid, y_did, x_greatestPid, x_latestPid, x_saidCount, y_killed, y_ops, y_as, y_bs, x_codeLengths, x_pids, x_parents, x_programs, x_places, x_statuses, x_stepCounts, x_copyCounts, y_pages, y_wake, y_zombie, y_blocked, x_registers, y_memory, y_frame, x_held, y_kind, x_openTargets, y_mode, x_openPlaces, x_pipeCounts, y_pipe, x_nameFiles, y_size, x_fileWords, x_safeNames, y_safeSize, x_safeWords, y_said) v1 v2 := fun z => by
    unfold wpY_memory
    refine yS (fun _ => True) _ (br_f ns ⟨vs, ?_⟩)
    rw [es, q3, uk_4m]
    exact yk_nom (4 * q) rfl (by omega) (fun w => absurd w z) (fun _ => br_f (by decide) ⟨rfl, J⟩)
  refine xk_wordIndex hs q2 hq8 (fun p hp => by rw [(q5 p hp).2.1]; exact (q5 p hp).1) (fun z => br_t rfl (y0 z)) (fun j hj ej => ?_)
  subst ej
  obtain ⟨f1, f2, f3⟩ := q5 (j / 4) (by omega)
  have hfl := uk_inc f1
  rw [f2]
  refine br_f (uk_ne1 (by omega)) ⟨vp_in_nI (by omega) (by decide), ?_⟩
  rw [nI_clamp (by omega), f3 (j % 4) (by omega)]
  unfold wpY_memory
  refine yS (fun _ => True) _ (br_f ns ⟨vs, ?_⟩)
  rw [es, q3, uk_4m]
  refine yk_nom (4 * q) rfl (by omega) (fun _ => br_t rfl ?_) (fun w => absurd (vp_in_nI hj (by omega)) w)
  rw [uk_32m, nI_add, nI_clamp (by omega)]
  refine ⟨vp_in_nI (by omega) (by decide), ?_, J⟩
  exact congrArg y_memory (by omega)
section
variable {x_changes x_saidCount x_time x_lastSlot x_sliceSteps x_latestPid x_greatestPid : Int32} {x_code x_codeLengths x_pids x_parents x_programs x_places x_states x_statuses x_stepCounts x_copyCounts x_wakeTimes x_registers x_pageCounts x_pageFrames x_held x_frameUsers x_frameWords x_openHolders x_openKinds x_openTargets x_openPlaces x_openModes x_pipeFirsts x_pipeCounts x_pipeWords x_nameFiles x_fileSizes x_fileWords x_safeNames x_safeSizes x_safeWords x_saidInts : Nat → Int32} {y_time y_last y_lastPid y_did y_killed : Int32} {y_ops y_as y_bs y_pages y_wake y_zombie y_blocked y_memory y_frame y_kind y_mode y_pipe y_size y_safeSize y_said : Nat → Int32}
theorem yk_descriptor {post : Int32 → Prop} {s j : Nat} {v1 v3 : Int32} (hs : s < 8) (hS : ∀ post' : Int32 → Prop, post' (nI s) → wpY_slotOf post' (x_changes, y_time, y_last, y_lastPid, y_did, x_greatestPid, x_latestPid, x_saidCount, y_killed, y_ops, y_as, y_bs, x_codeLengths, x_pids, x_parents, x_programs, x_places, x_statuses, x_stepCounts, x_copyCounts, y_pages, y_wake, y_zombie, y_blocked, x_registers, y_memory, y_frame, x_held, y_kind, x_openTargets, y_mode, x_openPlaces, x_pipeCounts, y_pipe, x_nameFiles, y_size, x_fileWords, x_safeNames, y_safeSize, x_safeWords, y_said) v1) (z1 : y_zombie s = 0) (hj : j < 6) (hv3 : vp_in v3 4) (hP : ∀ s, s < 8 → ¬ x_pids s < 0) (h : (x_held (6 * s + j) = -1 ∧ ((v3 = 0 → post 0) ∧ (¬ v3 = 0 → post (-1)))) ∨ (∃ o, o < 12 ∧ x_held (6 * s + j) = nI o ∧ ((v3 = 0 ∧ post (y_kind o)) ∨ (v3 = 1 ∧ ((y_kind o = 1 → post (x_openTargets o)) ∧ (¬ y_kind o = 1 → post (-1)))) ∨ (v3 = 2 ∧ post (x_openPlaces o)) ∨ (v3 = 3 ∧ post (nI (uk_sm (uk_hw x_pids y_zombie x_held o) 8)))))) : wpY_descriptor post (x_changes, y_time, y_last, y_lastPid, y_did, x_greatestPid, x_latestPid, x_saidCount, y_killed, y_ops, y_as, y_bs, x_codeLengths, x_pids, x_parents, x_programs, x_places, x_statuses, x_stepCounts, x_copyCounts, y_pages, y_wake, y_zombie, y_blocked, x_registers, y_memory, y_frame, x_held, y_kind, x_openTargets, y_mode, x_openPlaces, x_pipeCounts, y_pipe, x_nameFiles, y_size, x_fileWords, x_safeNames, y_safeSize, x_safeWords, y_said) v1 (nI j) v3 := by
  obtain ⟨_, vs, es⟩ := uk_lp 8 hs (by decide)
  unfold wpY_descriptor
  refine hS _ (br_f (nI_pos (by omega)) ⟨vs, ?_⟩)
  rw [es, uk_6m, nI_add, nI_clamp (show 6 * s + j < 2 ^ 31 by omega)]
  refine br_t z1 (yk_no 5 rfl (by decide) (fun a1 => br_t rfl (yk_no 3 rfl (by decide) (fun a2 => br_t rfl ⟨vp_in_nI (by omega) (by decide), ?_⟩) (fun a2 => absurd hv3 a2))) (fun a1 => absurd (vp_in_nI hj (by decide)) a1))
  rcases h with ⟨e, h⟩ | ⟨o, ho, e, h⟩
  · rw [e]
    exact nm_e (br_f (by decide) h)
  · rw [e]
    have vo : vp_in (nI o) 12 := vp_in_nI ho (by decide)
    refine nm_e (br_t (nI_pos' (by omega)) ?_)
    rw [nI_clamp (show o < 2 ^ 31 by omega)]
    rcases h with ⟨m, h⟩ | ⟨m, h⟩ | ⟨m, h⟩ | ⟨m, h⟩ <;> subst m
    · exact br_f (by decide) (br_f (by decide) (br_t rfl ⟨vo, h⟩))
    · exact br_f (by decide) (br_f (by decide) (br_f (by decide) (br_t rfl ⟨vo, fun q => ⟨vo, h.1 q⟩, h.2⟩)))
    · exact br_f (by decide) (br_f (by decide) (br_f (by decide) (br_f (by decide) (br_t rfl ⟨vo, h⟩))))
    · exact br_f (by decide) (br_t (by decide) (yk_holders hP h))
end
theorem uk_3lt {x : Int32} (h : 3 < x) : (4 : Int32) ≤ x := by
  have h0 : ¬ x < 0 := fun z => by
    have := Int32.lt_trans h z
    exact absurd this (by decide)
  obtain ⟨j, hj, rfl⟩ := nI_of h0
  exact nI_le (a := 4) (by have := (nI_ltI (a := 3) (by decide) hj).mp h; omega) hj
theorem uk_4le {x : Int32} (h : (4 : Int32) ≤ x) : 3 < x := Int32.lt_of_lt_of_le (by decide) h
theorem i_vc_descriptor {k : Nat} {u : SX} {v : SY} (I : i_Rel k u v) (hk : k + 5 ≤ 2560) (v1 : Int32) (v2 : Int32) (v3 : Int32) : wpX_descriptor (fun r => wpY_descriptor (fun r' => r' = r ∧ i_Rel (k + 5) u v) v v1 v2 v3) u v1 v2 v3 := by
  refine i_elim (C := fun u v => i_Rel (k + 5) u v → wpX_descriptor (fun r => wpY_descriptor (fun r' => r' = r ∧ i_Rel (k + 5) u v) v v1 v2 v3) u v1 v2 v3) I ?_ (i_up I)
  intro t b x_changes x_saidCount x_time x_lastSlot x_sliceSteps x_latestPid x_greatestPid x_code x_codeLengths x_pids x_parents x_programs x_places x_states x_statuses x_stepCounts x_copyCounts x_wakeTimes x_registers x_pageCounts x_pageFrames x_held x_frameUsers x_frameWords x_openHolders x_openKinds x_openTargets x_openPlaces x_openModes x_pipeFirsts x_pipeCounts x_pipeWords x_nameFiles x_fileSizes x_fileWords x_safeNames x_safeSizes x_safeWords x_saidInts y_time y_last y_lastPid y_did y_killed y_ops y_as y_bs y_pages y_wake y_zombie y_blocked y_memory y_frame y_kind y_mode y_pipe y_size y_safeSize y_said ht hbt hA J
  have eT := uk_aeT hA
  have hPr := uk_aPr hA
  have hPs := uk_aPs hA
  have hMe := uk_aMe hA
  have hFu := uk_aFu hA
  have hHd := uk_aHd hA
  have hHo := uk_aHo hA
  have hOk := uk_aOk hA
  have hFi := uk_aFi hA
  have hP : ∀ s, s < 8 → ¬ x_pids s < 0 := fun s hs => (hPs s hs).1
  have hN : ∀ s, s < 8 → x_pids s ≠ 0 → ∃ n, n ≤ 8 ∧ y_pages s = nI n := fun s hs hp => by
    obtain ⟨n, h1, _, h3, _⟩ := hMe s hs hp
    exact ⟨n, h1, h3⟩
  have yn : ∀ post : Int32 → Prop, post (-1) → (v1 < 1 ∨ uk_ff (fun s => x_pids s = v1) 8 = -1) → wpY_descriptor post (x_changes, x_time, y_last, y_lastPid, y_did, x_greatestPid, x_latestPid, x_saidCount, y_killed, y_ops, y_as, y_bs, x_codeLengths, x_pids, x_parents, x_programs, x_places, x_statuses, x_stepCounts, x_copyCounts, y_pages, y_wake, y_zombie, y_blocked, x_registers, y_memory, y_frame, x_held, y_kind, x_openTargets, y_mode, x_openPlaces, x_pipeCounts, y_pipe, x_nameFiles, y_size, x_fileWords, x_safeNames, y_safeSize, x_safeWords, y_said) v1 v2 v3 := fun post hp h => by
    unfold wpY_descriptor
    refine yk_slotOf (fun _ => br_t (by decide) hp) (fun a => ?_)
    rcases h with h | h
    · exact absurd h a
    · rw [h]
      exact br_t (by decide) hp
  unfold wpX_descriptor
  refine xk_findSlot (fun a => br_t rfl (yn _ ⟨rfl, J⟩ (Or.inl a))) (fun a => ?_)
  rcases uk_slot (P := x_pids) a with e | ⟨s, hs, e, eP, hp0⟩
  · rw [e]
    exact br_t rfl (yn _ ⟨rfl, J⟩ (Or.inr e))
  obtain ⟨_, vs, es⟩ := uk_lp 8 hs (by decide)
  obtain ⟨q, hq8, q2, q3, q4, q5⟩ := hMe s hs hp0
  have ns : ¬ nI s < 0 := nI_pos (by omega)
  have ns0 : 0 ≤ nI s := nI_pos' (by omega)
  have yS : ∀ post : Int32 → Prop, (∀ post', post' (nI s) → wpY_slotOf post' (x_changes, x_time, y_last, y_lastPid, y_did, x_greatestPid, x_latestPid, x_saidCount, y_killed, y_ops, y_as, y_bs, x_codeLengths, x_pids, x_parents, x_programs, x_places, x_statuses, x_stepCounts, x_copyCounts, y_pages, y_wake, y_zombie, y_blocked, x_registers, y_memory, y_frame, x_held, y_kind, x_openTargets, y_mode, x_openPlaces, x_pipeCounts, y_pipe, x_nameFiles, y_size, x_fileWords, x_safeNames, y_safeSize, x_safeWords, y_said) v1) := fun post post' hp => yk_slotOf (fun z => absurd z a) (fun _ => by rw [e]; exact hp)
  rw [e]
  refine br_f (uk_ne1 (by omega)) ?_
  refine ⟨vs, ?_⟩
  rw [es]
  have hst := (hPs s hs).2.2.2.2.2.2 hp0
  rcases hst with ⟨z1, z2⟩ | ⟨z1, _, z2⟩
  · rw [z2]
    refine br_t rfl ?_
    unfold wpY_descriptor
    refine yS (fun _ => True) _ (br_f ns ⟨vs, ?_⟩)
    rw [es, z1]
    exact br_f (by decide) ⟨rfl, J⟩
  have z3 : ¬ x_states s = 3 := by
    rcases z2 with ⟨_, z2⟩ | ⟨_, z2⟩ <;> rw [z2] <;> decide
  have yB : ¬ (vp_in v2 6 ∧ vp_in v3 4) → wpY_descriptor (fun r' => r' = -1 ∧ i_Rel (k + 5) (x_changes, x_saidCount, x_time, x_lastSlot, x_sliceSteps, x_latestPid, x_greatestPid, x_code, x_codeLengths, x_pids, x_parents, x_programs, x_places, x_states, x_statuses, x_stepCounts, x_copyCounts, x_wakeTimes, x_registers, x_pageCounts, x_pageFrames, x_held, x_frameUsers, x_frameWords, x_openHolders, x_openKinds, x_openTargets, x_openPlaces, x_openModes, x_pipeFirsts, x_pipeCounts, x_pipeWords, x_nameFiles, x_fileSizes, x_fileWords, x_safeNames, x_safeSizes, x_safeWords, x_saidInts) (x_changes, x_time, y_last, y_lastPid, y_did, x_greatestPid, x_latestPid, x_saidCount, y_killed, y_ops, y_as, y_bs, x_codeLengths, x_pids, x_parents, x_programs, x_places, x_statuses, x_stepCounts, x_copyCounts, y_pages, y_wake, y_zombie, y_blocked, x_registers, y_memory, y_frame, x_held, y_kind, x_openTargets, y_mode, x_openPlaces, x_pipeCounts, y_pipe, x_nameFiles, y_size, x_fileWords, x_safeNames, y_safeSize, x_safeWords, y_said)) (x_changes, x_time, y_last, y_lastPid, y_did, x_greatestPid, x_latestPid, x_saidCount, y_killed, y_ops, y_as, y_bs, x_codeLengths, x_pids, x_parents, x_programs, x_places, x_statuses, x_stepCounts, x_copyCounts, y_pages, y_wake, y_zombie, y_blocked, x_registers, y_memory, y_frame, x_held, y_kind, x_openTargets, y_mode, x_openPlaces, x_pipeCounts, y_pipe, x_nameFiles, y_size, x_fileWords, x_safeNames, y_safeSize, x_safeWords, y_said) v1 v2 v3 := fun h2 => by
    unfold wpY_descriptor
    refine yS (fun _ => True) _ (br_f ns ⟨vs, ?_⟩)
    rw [es]
    exact br_t z1 (yk_no 5 rfl (by decide) (fun a1 => br_t rfl (yk_no 3 rfl (by decide) (fun a2 => absurd ⟨a1, a2⟩ h2) (fun a2 => br_f (by decide) ⟨rfl, J⟩))) (fun a1 => br_f (by decide) ⟨rfl, J⟩))
  have e6 := uk_inE (x := v2) (n := 6) (N := 6) rfl (by decide)
  have e4 := uk_inE (x := v3) (n := 4) (N := 4) rfl (by decide)
  refine br_f z3 ⟨fun d => yB (fun w => absurd d (e6.mp w.1).1), fun d => ⟨fun d2 => ?_, fun d2 => yB (fun w => absurd (Int32.not_le.mp (e6.mp w.1).2) d2)⟩⟩
  have hv2 := e6.mpr ⟨d, Int32.not_le.mpr d2⟩
  obtain ⟨j, hj, rfl⟩ := vp_in_of hv2 (by decide)
  rw [uk_m6, nI_add, nI_clamp (show 6 * s + j < 2 ^ 31 by omega)]
  refine ⟨vp_in_nI (by omega) (by decide), ?_⟩
  have yG := fun (post : Int32 → Prop) (hv3 : vp_in v3 4) => yk_descriptor (post := post) (v1 := v1) (v3 := v3) hs (yS (fun _ => True)) z1 hj hv3 hP
  rcases hHd s hs hp0 z1 j hj with hx | hx
  · rw [hx]
    refine nm_e (br_t rfl ⟨fun d3 => ?_, fun d3 => ?_⟩)
    · have hv3 : vp_in v3 4 := by rw [d3]; exact vp_in_nI (n := 0) (by decide) (by decide)
      exact yG _ hv3 (Or.inl ⟨hx, br_t d3 ⟨rfl, J⟩⟩)
    · by_cases hv3 : vp_in v3 4
      · exact yG _ hv3 (Or.inl ⟨hx, br_f d3 ⟨rfl, J⟩⟩)
      · exact yB (fun w => hv3 w.2)
  · obtain ⟨o, ho, eo⟩ := vp_in_of hx (by decide)
    rw [eo]
    have hoh : x_openHolders o ≠ 0 := fun z => by
      have h1 := (uk_ohn hHo ho).mp z
      have h2 := uk_hwp hs hp0 z1 hj eo
      omega
    obtain ⟨_, k1⟩ := hOk o ho
    rcases k1 with ⟨k1, _⟩ | ⟨_, k1, _⟩
    · exact absurd k1 hoh
    refine nm_e (br_f (uk_ne1 (by omega)) ?_)
    have vo : vp_in (nI o) 12 := vp_in_nI ho (by decide)
    rw [nI_clamp (show o < 2 ^ 31 by omega)]
    refine ⟨fun d3 => yB (fun w => absurd d3 (e4.mp w.2).1), fun d3 => ⟨fun d4 => yB (fun w => (e4.mp w.2).2 (uk_3lt d4)), fun d4 => ?_⟩⟩
    have hv3 : vp_in v3 4 := e4.mpr ⟨d3, fun z => d4 (uk_4le z)⟩
    have yO := fun (post : Int32 → Prop) (a : _) => yG post hv3 (Or.inr ⟨o, ho, eo, a⟩)
    refine ⟨fun m0 => ⟨vo, ?_⟩, fun m0 => ⟨fun m1 => ⟨vo, ?_⟩, fun m1 => ⟨fun m2 => ⟨vo, ?_⟩, fun m2 => ⟨fun m3 => ⟨vo, ?_⟩, fun _ => trivial⟩⟩⟩⟩
    · exact yO _ (Or.inl ⟨m0, k1.symm, J⟩)
    · rw [k1]
      exact ⟨fun m4 => ⟨vo, yO _ (Or.inr (Or.inl ⟨m1, br_t m4 ⟨rfl, J⟩⟩))⟩, fun m4 => yO _ (Or.inr (Or.inl ⟨m1, br_f m4 ⟨rfl, J⟩⟩))⟩
    · exact yO _ (Or.inr (Or.inr (Or.inl ⟨m2, rfl, J⟩)))
    · exact yO _ (Or.inr (Or.inr (Or.inr ⟨m3, (hHo o ho).symm, J⟩)))
theorem i_vc_file {k : Nat} {u : SX} {v : SY} (I : i_Rel k u v) (hk : k + 5 ≤ 2560) (v1 : Int32) (v2 : Int32) : wpX_file (fun r => wpY_file (fun r' => r' = r ∧ i_Rel (k + 5) u v) v v1 v2) u v1 v2 := by
  refine i_elim (C := fun u v => i_Rel (k + 5) u v → wpX_file (fun r => wpY_file (fun r' => r' = r ∧ i_Rel (k + 5) u v) v v1 v2) u v1 v2) I ?_ (i_up I)
  intro t b x_changes x_saidCount x_time x_lastSlot x_sliceSteps x_latestPid x_greatestPid x_code x_codeLengths x_pids x_parents x_programs x_places x_states x_statuses x_stepCounts x_copyCounts x_wakeTimes x_registers x_pageCounts x_pageFrames x_held x_frameUsers x_frameWords x_openHolders x_openKinds x_openTargets x_openPlaces x_openModes x_pipeFirsts x_pipeCounts x_pipeWords x_nameFiles x_fileSizes x_fileWords x_safeNames x_safeSizes x_safeWords x_saidInts y_time y_last y_lastPid y_did y_killed y_ops y_as y_bs y_pages y_wake y_zombie y_blocked y_memory y_frame y_kind y_mode y_pipe y_size y_safeSize y_said ht hbt hA J
  have eT := uk_aeT hA
  have hPr := uk_aPr hA
  have hPs := uk_aPs hA
  have hMe := uk_aMe hA
  have hFu := uk_aFu hA
  have hHd := uk_aHd hA
  have hHo := uk_aHo hA
  have hOk := uk_aOk hA
  have hFi := uk_aFi hA
  have hP : ∀ s, s < 8 → ¬ x_pids s < 0 := fun s hs => (hPs s hs).1
  have hN : ∀ s, s < 8 → x_pids s ≠ 0 → ∃ n, n ≤ 8 ∧ y_pages s = nI n := fun s hs hp => by
    obtain ⟨n, h1, _, h3, _⟩ := hMe s hs hp
    exact ⟨n, h1, h3⟩
  have e8 := uk_inE (x := v1) (n := 8) (N := 8) rfl (by decide)
  have y0 : ¬ vp_in v1 8 → wpY_file (fun r' => r' = -1 ∧ i_Rel (k + 5) (x_changes, x_saidCount, x_time, x_lastSlot, x_sliceSteps, x_latestPid, x_greatestPid, x_code, x_codeLengths, x_pids, x_parents, x_programs, x_places, x_states, x_statuses, x_stepCounts, x_copyCounts, x_wakeTimes, x_registers, x_pageCounts, x_pageFrames, x_held, x_frameUsers, x_frameWords, x_openHolders, x_openKinds, x_openTargets, x_openPlaces, x_openModes, x_pipeFirsts, x_pipeCounts, x_pipeWords, x_nameFiles, x_fileSizes, x_fileWords, x_safeNames, x_safeSizes, x_safeWords, x_saidInts) (x_changes, x_time, y_last, y_lastPid, y_did, x_greatestPid, x_latestPid, x_saidCount, y_killed, y_ops, y_as, y_bs, x_codeLengths, x_pids, x_parents, x_programs, x_places, x_statuses, x_stepCounts, x_copyCounts, y_pages, y_wake, y_zombie, y_blocked, x_registers, y_memory, y_frame, x_held, y_kind, x_openTargets, y_mode, x_openPlaces, x_pipeCounts, y_pipe, x_nameFiles, y_size, x_fileWords, x_safeNames, y_safeSize, x_safeWords, y_said)) (x_changes, x_time, y_last, y_lastPid, y_did, x_greatestPid, x_latestPid, x_saidCount, y_killed, y_ops, y_as, y_bs, x_codeLengths, x_pids, x_parents, x_programs, x_places, x_statuses, x_stepCounts, x_copyCounts, y_pages, y_wake, y_zombie, y_blocked, x_registers, y_memory, y_frame, x_held, y_kind, x_openTargets, y_mode, x_openPlaces, x_pipeCounts, y_pipe, x_nameFiles, y_size, x_fileWords, x_safeNames, y_safeSize, x_safeWords, y_said) v1 v2 := fun a => by
    unfold wpY_file
    exact yk_no 7 rfl (by decide) (fun b => absurd b a) (fun b => br_f (by decide) ⟨rfl, J⟩)
  unfold wpX_file
  refine ⟨fun a => y0 (fun z => (e8.mp z).1 a), fun a => ⟨fun b => y0 (fun z => (e8.mp z).2 b), fun b => ?_⟩⟩
  have hv := e8.mpr ⟨a, b⟩
  obtain ⟨f, hf, rfl⟩ := vp_in_of hv (by decide)
  obtain ⟨s1, s2, s3⟩ := hFi.2 f hf
  refine xk_isFree hOk hHo (fun fr => br_f (by decide) ?_) (fun fr => br_t rfl ?_)
  · unfold wpY_file
    exact yk_no 7 rfl (by decide) (fun _ => br_t rfl (yk_isFree (fun _ => br_f (by decide) ⟨rfl, J⟩) (fun z => absurd fr z))) (fun b => absurd hv b)
  · have y1 : ∀ post : Int32 → Prop, ((v2 = 0 → (vp_in (nI f) 8 ∧ post (y_size (nI f).toNatClampNeg))) ∧ (¬ v2 = 0 → ((v2 = 1 → wpY_named (fun r => post r) (x_changes, x_time, y_last, y_lastPid, y_did, x_greatestPid, x_latestPid, x_saidCount, y_killed, y_ops, y_as, y_bs, x_codeLengths, x_pids, x_parents, x_programs, x_places, x_statuses, x_stepCounts, x_copyCounts, y_pages, y_wake, y_zombie, y_blocked, x_registers, y_memory, y_frame, x_held, y_kind, x_openTargets, y_mode, x_openPlaces, x_pipeCounts, y_pipe, x_nameFiles, y_size, x_fileWords, x_safeNames, y_safeSize, x_safeWords, y_said) (nI f)) ∧ (¬ v2 = 1 → ((v2 = 2 → wpY_openOf (fun r => post r) (x_changes, x_time, y_last, y_lastPid, y_did, x_greatestPid, x_latestPid, x_saidCount, y_killed, y_ops, y_as, y_bs, x_codeLengths, x_pids, x_parents, x_programs, x_places, x_statuses, x_stepCounts, x_copyCounts, y_pages, y_wake, y_zombie, y_blocked, x_registers, y_memory, y_frame, x_held, y_kind, x_openTargets, y_mode, x_openPlaces, x_pipeCounts, y_pipe, x_nameFiles, y_size, x_fileWords, x_safeNames, y_safeSize, x_safeWords, y_said) (nI f)) ∧ (¬ v2 = 2 → post (-1))))))) → wpY_file post (x_changes, x_time, y_last, y_lastPid, y_did, x_greatestPid, x_latestPid, x_saidCount, y_killed, y_ops, y_as, y_bs, x_codeLengths, x_pids, x_parents, x_programs, x_places, x_statuses, x_stepCounts, x_copyCounts, y_pages, y_wake, y_zombie, y_blocked, x_registers, y_memory, y_frame, x_held, y_kind, x_openTargets, y_mode, x_openPlaces, x_pipeCounts, y_pipe, x_nameFiles, y_size, x_fileWords, x_safeNames, y_safeSize, x_safeWords, y_said) (nI f) v2 := fun post h => by
      unfold wpY_file
      exact yk_no 7 rfl (by decide) (fun _ => br_t rfl (yk_isFree (fun z => absurd z fr) (fun _ => br_t rfl h))) (fun b => absurd hv b)
    refine ⟨fun d => y1 _ (br_f (fun z => by rw [z] at d; exact absurd d (by decide)) (br_f (fun z => by rw [z] at d; exact absurd d (by decide)) (br_f (fun z => by rw [z] at d; exact absurd d (by decide)) ⟨rfl, J⟩))), fun d => ⟨fun d2 => y1 _ (br_f (fun z => by rw [z] at d2; exact absurd d2 (by decide)) (br_f (fun z => by rw [z] at d2; exact absurd d2 (by decide)) (br_f (fun z => by rw [z] at d2; exact absurd d2 (by decide)) ⟨rfl, J⟩))), fun d2 => ⟨fun m0 => ⟨hv, ?_⟩, fun m0 => ⟨fun m1 => ?_, fun m1 => ⟨fun m2 => ?_, fun _ => trivial⟩⟩⟩⟩⟩
    · rw [nI_clamp (by omega), s3 fr]
      refine y1 _ (br_t m0 ⟨hv, ?_, J⟩)
      rw [nI_clamp (by omega)]
    · exact xk_countNames (y1 _ (br_f m0 (br_t m1 (yk_named ⟨rfl, J⟩))))
    · refine xk_countOpens (y1 _ (br_f m0 (br_f m1 (br_t m2 (yk_openOf ⟨congrArg nI (uk_cnc 12 (fun o ho => ?_)), J⟩)))))
      rw [← uk_okk hOk hHo ho (k := 1) (by decide), and_assoc]
end
section
/-! who is ready -/
theorem uk_hk {P zo H oh ok ki T om mo op : Nat → Int32} {s d o : Nat} (hHo : uk_Ho P zo H oh) (hOk : uk_Ok oh ok ki T om mo op) (hs : s < 8) (hp : P s ≠ 0) (hz : zo s = 0) (hd : d < 6) (ho : o < 12) (e : H (6 * s + d) = nI o) : oh o ≠ 0 ∧ ok o = ki o ∧ ((ki o = 1 ∧ om o = mo o ∧ mo o &&& 3 ≠ 0 ∧ vp_in (T o) 8) ∨ (ki o = 2 ∧ om o = 1 ∧ vp_in (T o) 4) ∨ (ki o = 3 ∧ om o = 2 ∧ vp_in (T o) 4)) := by
  have hoh : oh o ≠ 0 := fun z => by
    have h1 := (uk_ohn hHo ho).mp z
    have h2 := uk_hwp hs hp hz hd e
    omega
  rcases (hOk o ho).2 with ⟨a, _⟩ | ⟨_, b, c⟩
  · exact absurd a hoh
  · exact ⟨hoh, b, c⟩
theorem uk_n12 : ¬ (1 : Int32) = 2 := by decide
theorem uk_n13 : ¬ (1 : Int32) = 3 := by decide
theorem uk_n23 : ¬ (2 : Int32) = 3 := by decide
theorem uk_n32 : ¬ (3 : Int32) = 2 := by decide
theorem uk_m11 : (1 : Int32) &&& 1 ≠ 0 := by decide
theorem uk_m21 : (2 : Int32) &&& 1 = 0 := by decide
theorem uk_m22 : (2 : Int32) &&& 2 ≠ 0 := by decide
theorem uk_m12 : (1 : Int32) &&& 2 = 0 := by decide
theorem uk_nIn {a b : Nat} (ha : a < 2 ^ 31) (hb : b < 2 ^ 31) (h : nI a = nI b) : a = b := (nI_eq ha hb).mp h
section
variable {x_changes x_saidCount x_time x_lastSlot x_sliceSteps x_latestPid x_greatestPid : Int32} {x_code x_codeLengths x_pids x_parents x_programs x_places x_states x_statuses x_stepCounts x_copyCounts x_wakeTimes x_registers x_pageCounts x_pageFrames x_held x_frameUsers x_frameWords x_openHolders x_openKinds x_openTargets x_openPlaces x_openModes x_pipeFirsts x_pipeCounts x_pipeWords x_nameFiles x_fileSizes x_fileWords x_safeNames x_safeSizes x_safeWords x_saidInts : Nat → Int32} {y_time y_last y_lastPid y_did y_killed : Int32} {y_ops y_as y_bs y_pages y_wake y_zombie y_blocked y_memory y_frame y_kind y_mode y_pipe y_size y_safeSize y_said : Nat → Int32}
theorem xk_openFor {post : Int32 → Prop} {s : Nat} {m : Int32} (hs : s < 8) (hH : ∀ d, d < 6 → x_held (6 * s + d) = -1 ∨ vp_in (x_held (6 * s + d)) 12) (h0 : (¬ ∃ d o, d < 6 ∧ o < 12 ∧ x_registers (4 * s) = nI d ∧ x_held (6 * s + d) = nI o ∧ x_openModes o &&& m ≠ 0) → post (-1)) (h1 : ∀ d o, d < 6 → o < 12 → x_registers (4 * s) = nI d → x_held (6 * s + d) = nI o → x_openModes o &&& m ≠ 0 → post (nI o)) : wpX_openFor post (x_changes, x_saidCount, x_time, x_lastSlot, x_sliceSteps, x_latestPid, x_greatestPid, x_code, x_codeLengths, x_pids, x_parents, x_programs, x_places, x_states, x_statuses, x_stepCounts, x_copyCounts, x_wakeTimes, x_registers, x_pageCounts, x_pageFrames, x_held, x_frameUsers, x_frameWords, x_openHolders, x_openKinds, x_openTargets, x_openPlaces, x_openModes, x_pipeFirsts, x_pipeCounts, x_pipeWords, x_nameFiles, x_fileSizes, x_fileWords, x_safeNames, x_safeSizes, x_safeWords, x_saidInts) (nI s) m := by
  unfold wpX_openFor
  rw [uk_m4]
  refine ⟨vp_in_nI (by omega) (by decide), ?_⟩
  rw [nI_clamp (show 4 * s < 2 ^ 31 by omega)]
  refine nm_e ⟨fun a => h0 (fun z => ?_), fun a => ?_⟩
  · obtain ⟨d, o, hd, _, e, _⟩ := z
    rw [e] at a
    exact nI_pos (by omega) a
  obtain ⟨d, hd, ed⟩ := nI_of a
  rw [ed, uk_m6, nI_add]
  refine ⟨fun b => ?_, fun b => h0 (fun z => ?_)⟩
  · have hd6 : d < 6 := (nI_ltI (b := 6) hd (by decide)).mp b
    refine ⟨vp_in_nI (by omega) (by decide), ?_⟩
    rw [nI_clamp (show 6 * s + d < 2 ^ 31 by omega)]
    rcases hH d hd6 with e | e
    · rw [e]
      refine nm_e (br_t rfl (h0 (fun z => ?_)))
      obtain ⟨d', o, hd', ho, e1, e2, _⟩ := z
      have := uk_nIn hd (by omega) (ed.symm.trans e1)
      subst this
      exact uk_ne1 (n := o) (by omega) (e2.symm.trans e)
    · obtain ⟨o, ho, eo⟩ := vp_in_of e (by decide)
      rw [eo]
      refine nm_e (br_f (uk_ne1 (by omega)) ⟨vp_in_nI ho (by decide), ?_⟩)
      rw [nI_clamp (show o < 2 ^ 31 by omega)]
      refine ⟨fun c => h0 (fun z => ?_), fun c => h1 d o hd6 ho ed eo c⟩
      obtain ⟨d', o', hd', ho', e1, e2, e3⟩ := z
      have := uk_nIn hd (by omega) (ed.symm.trans e1)
      subst this
      have := uk_nIn (by omega) (by omega) (eo.symm.trans e2)
      subst this
      exact e3 c
  · obtain ⟨d', o, hd', ho, e1, e2, _⟩ := z
    have := uk_nIn hd (by omega) (ed.symm.trans e1)
    subst this
    exact b (nI_lt (b := 6) hd' (by decide))
theorem uk_ends (hHo : uk_Ho x_pids y_zombie x_held x_openHolders) (hOk : uk_Ok x_openHolders x_openKinds y_kind x_openTargets x_openModes y_mode x_openPlaces) {k p : Int32} (hk : k ≠ 0) : nI (uk_cn (fun o => ¬ x_openHolders o ≤ 0 ∧ x_openKinds o = k ∧ x_openTargets o = p) 12) ≤ 0 ↔ ¬ ∃ e, e < 12 ∧ y_kind e = k ∧ x_openTargets e = p := by
  have hle := uk_cnle (fun o => ¬ x_openHolders o ≤ 0 ∧ x_openKinds o = k ∧ x_openTargets o = p) 12
  rw [uk_le0 (nI_pos (by omega)), uk_cnz (by decide)]
  constructor
  · rintro h ⟨e, he, e1, e2⟩
    have := (uk_okk hOk hHo he hk).mpr e1
    exact h e he ⟨this.1, this.2, e2⟩
  · intro h e he z
    exact h ⟨e, he, (uk_okk hOk hHo he hk).mp ⟨z.1, z.2.1⟩, z.2.2⟩
theorem xk_readBlocks {post : Int32 → Prop} {s : Nat} (hHd : uk_Hd x_pids y_zombie x_held) (hHo : uk_Ho x_pids y_zombie x_held x_openHolders) (hOk : uk_Ok x_openHolders x_openKinds y_kind x_openTargets x_openModes y_mode x_openPlaces) (hs : s < 8) (hp : x_pids s ≠ 0) (hz : y_zombie s = 0) (ht : uk_Bk x_pids x_parents y_zombie x_registers x_held y_kind x_openTargets x_pipeCounts s 7 → post 1) (hf : ¬ uk_Bk x_pids x_parents y_zombie x_registers x_held y_kind x_openTargets x_pipeCounts s 7 → post 0) : wpX_readBlocks post (x_changes, x_saidCount, x_time, x_lastSlot, x_sliceSteps, x_latestPid, x_greatestPid, x_code, x_codeLengths, x_pids, x_parents, x_programs, x_places, x_states, x_statuses, x_stepCounts, x_copyCounts, x_wakeTimes, x_registers, x_pageCounts, x_pageFrames, x_held, x_frameUsers, x_frameWords, x_openHolders, x_openKinds, x_openTargets, x_openPlaces, x_openModes, x_pipeFirsts, x_pipeCounts, x_pipeWords, x_nameFiles, x_fileSizes, x_fileWords, x_safeNames, x_safeSizes, x_safeWords, x_saidInts) (nI s) := by
  unfold wpX_readBlocks
  have hB : uk_Bk x_pids x_parents y_zombie x_registers x_held y_kind x_openTargets x_pipeCounts s 7 ↔ (∃ d o, d < 6 ∧ o < 12 ∧ x_registers (4 * s) = nI d ∧ x_held (6 * s + d) = nI o ∧ y_kind o = 2 ∧ x_pipeCounts (x_openTargets o).toNatClampNeg = 0 ∧ ∃ e, e < 12 ∧ y_kind e = 3 ∧ x_openTargets e = x_openTargets o) :=
    ⟨fun z => by
      rcases z with z | z | z
      · exact absurd z.1 (by decide)
      · exact z.2
      · exact absurd z.1 (by decide), fun z => Or.inr (Or.inl ⟨rfl, z⟩)⟩
  refine xk_openFor hs (hHd s hs hp hz) (fun h0 => br_t rfl (hf (fun z => ?_))) (fun d o hd ho e1 e2 e3 => br_f (uk_ne1 (by omega)) ⟨vp_in_nI ho (by decide), ?_⟩)
  · obtain ⟨d, o, hd, ho, e1, e2, e3, _⟩ := hB.mp z
    have := (uk_hk hHo hOk hs hp hz hd ho e2).2.2
    rw [e3] at this
    rcases this with c | c | c
    · exact absurd c.1 (by decide)
    · exact h0 ⟨d, o, hd, ho, e1, e2, by rw [c.2.1]; exact uk_m11⟩
    · exact absurd c.1 (by decide)
  · have hu : ∀ d' o', d' < 6 → o' < 12 → x_registers (4 * s) = nI d' → x_held (6 * s + d') = nI o' → o' = o := fun d' o' hd' ho' f1 f2 => by
      have := uk_nIn (by omega) (by omega) (e1.symm.trans f1)
      subst this
      exact (uk_nIn (by omega) (by omega) (e2.symm.trans f2)).symm
    rw [nI_clamp (show o < 2 ^ 31 by omega)]
    obtain ⟨k1, k2, k3⟩ := uk_hk hHo hOk hs hp hz hd ho e2
    rw [k2]
    refine ⟨fun a => ⟨vp_in_nI ho (by decide), nm_e ?_⟩, fun a => hf (fun z => ?_)⟩
    · rw [a] at k3
      rcases k3 with c | c | c
      · exact absurd c.1 (by decide)
      · refine ⟨c.2.2, fun b => xk_countOpens ⟨fun w => hf (fun z => ?_), fun w => ht ?_⟩, fun b => hf (fun z => ?_)⟩
        · obtain ⟨d', o', hd', ho', f1, f2, f3, f4, f5⟩ := hB.mp z
          have := hu d' o' hd' ho' f1 f2
          subst this
          exact (uk_ends hHo hOk (by decide)).mp w f5
        · exact hB.mpr ⟨d, o, hd, ho, e1, e2, a, b, Classical.byContradiction (fun y => w ((uk_ends hHo hOk (by decide)).mpr y))⟩
        · obtain ⟨d', o', hd', ho', f1, f2, f3, f4, f5⟩ := hB.mp z
          have := hu d' o' hd' ho' f1 f2
          subst this
          exact b f4
      · exact absurd c.1 (by decide)
    · obtain ⟨d', o', hd', ho', f1, f2, f3, f4, f5⟩ := hB.mp z
      have := hu d' o' hd' ho' f1 f2
      subst this
      exact a f3
theorem uk_c4 {C pf pw pi : Nat → Int32} (h : uk_Pi C pf pw pi) {x : Int32} (hx : vp_in x 4) : (C x.toNatClampNeg < 4 ↔ ¬ C x.toNatClampNeg = 4) ∧ (¬ 0 < C x.toNatClampNeg ↔ C x.toNatClampNeg = 0) := by
  obtain ⟨c, f, h1, h2, h3, _⟩ := h x.toNatClampNeg (uk_inc hx)
  rw [h3, show (4 : Int32) = nI 4 from rfl, show (0 : Int32) = nI 0 from rfl, nI_ltI (by omega) (by decide), nI_eq (by omega) (by decide), nI_ltI (by decide) (by omega), nI_eq (by omega) (by decide)]
  omega
theorem xk_writeBlocks {post : Int32 → Prop} {s : Nat} (hHd : uk_Hd x_pids y_zombie x_held) (hHo : uk_Ho x_pids y_zombie x_held x_openHolders) (hOk : uk_Ok x_openHolders x_openKinds y_kind x_openTargets x_openModes y_mode x_openPlaces) (hPi : uk_Pi x_pipeCounts x_pipeFirsts x_pipeWords y_pipe) (hs : s < 8) (hp : x_pids s ≠ 0) (hz : y_zombie s = 0) (ht : uk_Bk x_pids x_parents y_zombie x_registers x_held y_kind x_openTargets x_pipeCounts s 8 → post 1) (hf : ¬ uk_Bk x_pids x_parents y_zombie x_registers x_held y_kind x_openTargets x_pipeCounts s 8 → post 0) : wpX_writeBlocks post (x_changes, x_saidCount, x_time, x_lastSlot, x_sliceSteps, x_latestPid, x_greatestPid, x_code, x_codeLengths, x_pids, x_parents, x_programs, x_places, x_states, x_statuses, x_stepCounts, x_copyCounts, x_wakeTimes, x_registers, x_pageCounts, x_pageFrames, x_held, x_frameUsers, x_frameWords, x_openHolders, x_openKinds, x_openTargets, x_openPlaces, x_openModes, x_pipeFirsts, x_pipeCounts, x_pipeWords, x_nameFiles, x_fileSizes, x_fileWords, x_safeNames, x_safeSizes, x_safeWords, x_saidInts) (nI s) := by
  unfold wpX_writeBlocks
  have hB : uk_Bk x_pids x_parents y_zombie x_registers x_held y_kind x_openTargets x_pipeCounts s 8 ↔ (∃ d o, d < 6 ∧ o < 12 ∧ x_registers (4 * s) = nI d ∧ x_held (6 * s + d) = nI o ∧ y_kind o = 3 ∧ x_pipeCounts (x_openTargets o).toNatClampNeg = 4 ∧ ∃ e, e < 12 ∧ y_kind e = 2 ∧ x_openTargets e = x_openTargets o) :=
    ⟨fun z => by
      rcases z with z | z | z
      · exact absurd z.1 (by decide)
      · exact absurd z.1 (by decide)
      · exact z.2, fun z => Or.inr (Or.inr ⟨rfl, z⟩)⟩
  refine xk_openFor hs (hHd s hs hp hz) (fun h0 => br_t rfl (hf (fun z => ?_))) (fun d o hd ho e1 e2 e3 => br_f (uk_ne1 (by omega)) ⟨vp_in_nI ho (by decide), ?_⟩)
  · obtain ⟨d, o, hd, ho, e1, e2, e3, _⟩ := hB.mp z
    have := (uk_hk hHo hOk hs hp hz hd ho e2).2.2
    rw [e3] at this
    rcases this with c | c | c
    · exact absurd c.1 (by decide)
    · exact absurd c.1 (by decide)
    · exact h0 ⟨d, o, hd, ho, e1, e2, by rw [c.2.1]; exact uk_m22⟩
  · have hu : ∀ d' o', d' < 6 → o' < 12 → x_registers (4 * s) = nI d' → x_held (6 * s + d') = nI o' → o' = o := fun d' o' hd' ho' f1 f2 => by
      have := uk_nIn (by omega) (by omega) (e1.symm.trans f1)
      subst this
      exact (uk_nIn (by omega) (by omega) (e2.symm.trans f2)).symm
    rw [nI_clamp (show o < 2 ^ 31 by omega)]
    obtain ⟨k1, k2, k3⟩ := uk_hk hHo hOk hs hp hz hd ho e2
    rw [k2]
    refine ⟨fun a => ⟨vp_in_nI ho (by decide), nm_e ?_⟩, fun a => hf (fun z => ?_)⟩
    · rw [a] at k3
      rcases k3 with c | c | c
      · exact absurd c.1 (by decide)
      · exact absurd c.1 (by decide)
      · refine ⟨c.2.2, fun b => hf (fun z => ?_), fun b => xk_countOpens ⟨fun w => hf (fun z => ?_), fun w => ht ?_⟩⟩
        · obtain ⟨d', o', hd', ho', f1, f2, f3, f4, f5⟩ := hB.mp z
          have := hu d' o' hd' ho' f1 f2
          subst this
          exact (uk_c4 hPi c.2.2).1.mp b f4
        · obtain ⟨d', o', hd', ho', f1, f2, f3, f4, f5⟩ := hB.mp z
          have := hu d' o' hd' ho' f1 f2
          subst this
          exact (uk_ends hHo hOk (by decide)).mp w f5
        · exact hB.mpr ⟨d, o, hd, ho, e1, e2, a, Classical.byContradiction (fun y => b ((uk_c4 hPi c.2.2).1.mpr y)), Classical.byContradiction (fun y => w ((uk_ends hHo hOk (by decide)).mpr y))⟩
    · obtain ⟨d', o', hd', ho', f1, f2, f3, f4, f5⟩ := hB.mp z
      have := hu d' o' hd' ho' f1 f2
      subst this
      exact a f3
theorem uk_zst (hPs : uk_Ps x_pids x_parents x_programs x_places x_statuses x_states y_zombie y_blocked) {c : Nat} (hc : c < 8) (hp : x_pids c ≠ 0) : x_states c = 3 ↔ y_zombie c = 1 := by
  rcases (hPs c hc).2.2.2.2.2.2 hp with ⟨a, b⟩ | ⟨a, _, b⟩
  · exact ⟨fun _ => a, fun _ => b⟩
  · rw [a]
    rcases b with ⟨_, b⟩ | ⟨_, b⟩ <;> rw [b] <;> exact ⟨fun z => absurd z (by decide), fun z => absurd z (by decide)⟩
theorem xk_wouldBlock {post : Int32 → Prop} {s : Nat} {c : Int32} (hPs : uk_Ps x_pids x_parents x_programs x_places x_statuses x_states y_zombie y_blocked) (hHd : uk_Hd x_pids y_zombie x_held) (hHo : uk_Ho x_pids y_zombie x_held x_openHolders) (hOk : uk_Ok x_openHolders x_openKinds y_kind x_openTargets x_openModes y_mode x_openPlaces) (hPi : uk_Pi x_pipeCounts x_pipeFirsts x_pipeWords y_pipe) (hs : s < 8) (hp : x_pids s ≠ 0) (hz : y_zombie s = 0) (h14 : c ≠ 14) (ht : uk_Bk x_pids x_parents y_zombie x_registers x_held y_kind x_openTargets x_pipeCounts s c → post 1) (hf : ¬ uk_Bk x_pids x_parents y_zombie x_registers x_held y_kind x_openTargets x_pipeCounts s c → post 0) : wpX_wouldBlock post (x_changes, x_saidCount, x_time, x_lastSlot, x_sliceSteps, x_latestPid, x_greatestPid, x_code, x_codeLengths, x_pids, x_parents, x_programs, x_places, x_states, x_statuses, x_stepCounts, x_copyCounts, x_wakeTimes, x_registers, x_pageCounts, x_pageFrames, x_held, x_frameUsers, x_frameWords, x_openHolders, x_openKinds, x_openTargets, x_openPlaces, x_openModes, x_pipeFirsts, x_pipeCounts, x_pipeWords, x_nameFiles, x_fileSizes, x_fileWords, x_safeNames, x_safeSizes, x_safeWords, x_saidInts) (nI s) c := by
  unfold wpX_wouldBlock
  refine ⟨fun e2 => ?_, fun e2 => ⟨fun e7 => ?_, fun e7 => ⟨fun e8 => ?_, fun e8 => br_f h14 (hf (fun z => ?_))⟩⟩⟩
  · subst e2
    refine xk_hasChild hs (fun a => br_f (by decide) (xk_leastZombie hs ?_)) (fun a => br_t rfl (hf (fun z => ?_)))
    · rcases uk_bes x_pids (fun c => x_pids c ≠ 0 ∧ x_states c = 3 ∧ x_parents c = x_pids s) 8 with ⟨b, b2⟩ | ⟨i, hi, b, b2⟩
      · rw [b]
        exact br_t rfl (ht (Or.inl ⟨rfl, a, fun k hk z => b2 k hk ⟨z.1, (uk_zst hPs hk z.1).mpr z.2.1, z.2.2⟩⟩))
      · rw [b]
        refine br_f (uk_ne1 (by omega)) (hf (fun z => ?_))
        rcases z with z | z | z
        · exact z.2.2 i hi ⟨b2.1, (uk_zst hPs hi b2.1).mp b2.2.1, b2.2.2⟩
        · exact absurd z.1 (by decide)
        · exact absurd z.1 (by decide)
    · rcases z with z | z | z
      · obtain ⟨k, hk, z1⟩ := z.2.1
        exact a k hk z1
      · exact absurd z.1 (by decide)
      · exact absurd z.1 (by decide)
  · subst e7
    exact xk_readBlocks hHd hHo hOk hs hp hz (fun a => ⟨rfl, ht a⟩) (fun a => ⟨rfl, hf a⟩)
  · subst e8
    exact xk_writeBlocks hHd hHo hOk hPi hs hp hz (fun a => ⟨rfl, ht a⟩) (fun a => ⟨rfl, hf a⟩)
  · rcases z with z | z | z
    · exact e2 z.1
    · exact e7 z.1
    · exact e8 z.1
end
end
section
/-! who is ready, Y's side; the choice -/
section
variable {x_changes x_saidCount x_time x_lastSlot x_sliceSteps x_latestPid x_greatestPid : Int32} {x_code x_codeLengths x_pids x_parents x_programs x_places x_states x_statuses x_stepCounts x_copyCounts x_wakeTimes x_registers x_pageCounts x_pageFrames x_held x_frameUsers x_frameWords x_openHolders x_openKinds x_openTargets x_openPlaces x_openModes x_pipeFirsts x_pipeCounts x_pipeWords x_nameFiles x_fileSizes x_fileWords x_safeNames x_safeSizes x_safeWords x_saidInts : Nat → Int32} {y_time y_last y_lastPid y_did y_killed : Int32} {y_ops y_as y_bs y_pages y_wake y_zombie y_blocked y_memory y_frame y_kind y_mode y_pipe y_size y_safeSize y_said : Nat → Int32}
theorem yk_child {post : Int32 → Prop} {s : Nat} {w : Int32} (hs : s < 8) (Z : Nat → Prop) (hZ : ∀ c, c < 8 → (Z c ↔ (x_pids c ≠ 0 ∧ x_parents c = x_pids s ∧ (w ≠ 0 → y_zombie c ≠ 0)))) (h : post (uk_be x_pids Z 8)) : wpY_child post (x_changes, y_time, y_last, y_lastPid, y_did, x_greatestPid, x_latestPid, x_saidCount, y_killed, y_ops, y_as, y_bs, x_codeLengths, x_pids, x_parents, x_programs, x_places, x_statuses, x_stepCounts, x_copyCounts, y_pages, y_wake, y_zombie, y_blocked, x_registers, y_memory, y_frame, x_held, y_kind, x_openTargets, y_mode, x_openPlaces, x_pipeCounts, y_pipe, x_nameFiles, y_size, x_fileWords, x_safeNames, y_safeSize, x_safeWords, y_said) (nI s) w := by
  unfold wpY_child
  obtain ⟨_, vs, es⟩ := uk_lp 8 hs (by decide)
  refine uk_run0 (fun m i (x : Int32) => wY_child_5 post (nI s) w x_changes y_time y_last y_lastPid y_did x_greatestPid x_latestPid x_saidCount y_killed y_ops y_as y_bs x_codeLengths x_pids x_parents x_programs x_places x_statuses x_stepCounts x_copyCounts y_pages y_wake y_zombie y_blocked x_registers y_memory y_frame x_held y_kind x_openTargets y_mode x_openPlaces x_pipeCounts y_pipe x_nameFiles y_size x_fileWords x_safeNames y_safeSize x_safeWords y_said m x (nI i)) (fun i => uk_be x_pids Z i) 8 (fun m => br_t (uk_refl 8) h) (fun m i hi ih => ?_)
  obtain ⟨z, v, e⟩ := uk_lp 8 hi (by decide)
  refine br_f z ⟨v, ?_⟩
  rw [e, es]
  have skip : ¬ Z i → ∀ x : Int32, x = nI i + 1 → wY_child_5 post (nI s) w x_changes y_time y_last y_lastPid y_did x_greatestPid x_latestPid x_saidCount y_killed y_ops y_as y_bs x_codeLengths x_pids x_parents x_programs x_places x_statuses x_stepCounts x_copyCounts y_pages y_wake y_zombie y_blocked x_registers y_memory y_frame x_held y_kind x_openTargets y_mode x_openPlaces x_pipeCounts y_pipe x_nameFiles y_size x_fileWords x_safeNames y_safeSize x_safeWords y_said m (uk_be x_pids Z i) x := fun hn => by
    rw [uk_bef (fun q => hn q.1)] at ih
    exact nm_r (nI_1 i) ih
  have take : Z i → wY_child_55 post (wY_child_5 post (nI s) w x_changes y_time y_last y_lastPid y_did x_greatestPid x_latestPid x_saidCount y_killed y_ops y_as y_bs x_codeLengths x_pids x_parents x_programs x_places x_statuses x_stepCounts x_copyCounts y_pages y_wake y_zombie y_blocked x_registers y_memory y_frame x_held y_kind x_openTargets y_mode x_openPlaces x_pipeCounts y_pipe x_nameFiles y_size x_fileWords x_safeNames y_safeSize x_safeWords y_said m) (nI s) w (uk_be x_pids Z i) (nI i) x_changes y_time y_last y_lastPid y_did x_greatestPid x_latestPid x_saidCount y_killed y_ops y_as y_bs x_codeLengths x_pids x_parents x_programs x_places x_statuses x_stepCounts x_copyCounts y_pages y_wake y_zombie y_blocked x_registers y_memory y_frame x_held y_kind x_openTargets y_mode x_openPlaces x_pipeCounts y_pipe x_nameFiles y_size x_fileWords x_safeNames y_safeSize x_safeWords y_said := fun hz => by
    rcases uk_bes x_pids Z i with ⟨b, _⟩ | ⟨j, hj, b, _⟩
    · rw [uk_bet ⟨hz, Or.inl b⟩] at ih
      rw [b]
      exact br_t (by decide) (nm_r (nI_1 i) ih)
    · have hb1 : ¬ uk_be x_pids Z i = -1 := by rw [b]; exact uk_ne1 (by omega)
      have hcl : (uk_be x_pids Z i).toNatClampNeg = j := by rw [b, nI_clamp (by omega)]
      by_cases hlt : x_pids i < x_pids j
      · rw [uk_bet ⟨hz, Or.inr (by rw [hcl]; exact hlt)⟩] at ih
        rw [b]
        refine br_f (nI_pos (by omega)) ⟨v, vp_in_nI (by omega) (by decide), ?_⟩
        rw [e, nI_clamp (show j < 2 ^ 31 by omega)]
        exact br_f (Int32.not_le.mpr hlt) (nm_r (nI_1 i) ih)
      · rw [uk_bef (fun q => by
          rcases q.2 with q | q
          · exact hb1 q
          · rw [hcl] at q; exact hlt q)] at ih
        rw [b] at ih ⊢
        refine br_f (nI_pos (by omega)) ⟨v, vp_in_nI (by omega) (by decide), ?_⟩
        rw [e, nI_clamp (show j < 2 ^ 31 by omega)]
        exact br_t (Int32.not_lt.mp hlt) (nm_r (nI_1 i) ih)
  refine ⟨fun a => skip (fun q => ((hZ i hi).mp q).1 a), fun a => ⟨v, vs, fun b => ⟨fun c => take ((hZ i hi).mpr ⟨a, b, fun q => absurd c q⟩), fun c => ⟨v, fun d => skip (fun q => ((hZ i hi).mp q).2.2 c d), fun d => take ((hZ i hi).mpr ⟨a, b, fun _ => d⟩)⟩⟩, fun b => skip (fun q => b ((hZ i hi).mp q).2.1)⟩⟩
theorem yk_child1 {post : Int32 → Prop} {s : Nat} (hPs : uk_Ps x_pids x_parents x_programs x_places x_statuses x_states y_zombie y_blocked) (hs : s < 8) (h : post (uk_be x_pids (fun c => x_pids c ≠ 0 ∧ x_states c = 3 ∧ x_parents c = x_pids s) 8)) : wpY_child post (x_changes, y_time, y_last, y_lastPid, y_did, x_greatestPid, x_latestPid, x_saidCount, y_killed, y_ops, y_as, y_bs, x_codeLengths, x_pids, x_parents, x_programs, x_places, x_statuses, x_stepCounts, x_copyCounts, y_pages, y_wake, y_zombie, y_blocked, x_registers, y_memory, y_frame, x_held, y_kind, x_openTargets, y_mode, x_openPlaces, x_pipeCounts, y_pipe, x_nameFiles, y_size, x_fileWords, x_safeNames, y_safeSize, x_safeWords, y_said) (nI s) 1 :=
  yk_child hs (fun c => x_pids c ≠ 0 ∧ x_states c = 3 ∧ x_parents c = x_pids s) (fun c hc => ⟨fun q => ⟨q.1, q.2.2, fun _ z => by
    rw [(uk_zst hPs hc q.1).mp q.2.1] at z
    exact absurd z (by decide)⟩, fun q => ⟨q.1, (uk_zst hPs hc q.1).mpr ((hPs c hc).2.2.2.2.1.resolve_left (q.2.2 (by decide))), q.2.1⟩⟩) h
theorem yk_child0 {post : Int32 → Prop} {s : Nat} (hs : s < 8) (h1 : (∃ k, k < 8 ∧ x_pids k ≠ 0 ∧ x_parents k = x_pids s) → ∀ i, i < 8 → post (nI i)) (h0 : (∀ k, k < 8 → ¬ (x_pids k ≠ 0 ∧ x_parents k = x_pids s)) → post (-1)) : wpY_child post (x_changes, y_time, y_last, y_lastPid, y_did, x_greatestPid, x_latestPid, x_saidCount, y_killed, y_ops, y_as, y_bs, x_codeLengths, x_pids, x_parents, x_programs, x_places, x_statuses, x_stepCounts, x_copyCounts, y_pages, y_wake, y_zombie, y_blocked, x_registers, y_memory, y_frame, x_held, y_kind, x_openTargets, y_mode, x_openPlaces, x_pipeCounts, y_pipe, x_nameFiles, y_size, x_fileWords, x_safeNames, y_safeSize, x_safeWords, y_said) (nI s) 0 := by
  refine yk_child hs (fun c => x_pids c ≠ 0 ∧ x_parents c = x_pids s) (fun c hc => ⟨fun q => ⟨q.1, q.2, fun z => absurd rfl z⟩, fun q => ⟨q.1, q.2.1⟩⟩) ?_
  rcases uk_bes x_pids (fun c => x_pids c ≠ 0 ∧ x_parents c = x_pids s) 8 with ⟨b, b2⟩ | ⟨i, hi, b, b2⟩
  · rw [b]; exact h0 b2
  · rw [b]; exact h1 ⟨i, hi, b2⟩ i hi
theorem yk_waits {post : Int32 → Prop} {s : Nat} {c : Int32} (hPs : uk_Ps x_pids x_parents x_programs x_places x_statuses x_states y_zombie y_blocked) (hHd : uk_Hd x_pids y_zombie x_held) (hHo : uk_Ho x_pids y_zombie x_held x_openHolders) (hOk : uk_Ok x_openHolders x_openKinds y_kind x_openTargets x_openModes y_mode x_openPlaces) (hs : s < 8) (hp : x_pids s ≠ 0) (hz : y_zombie s = 0) (h14 : c ≠ 14) (ht : uk_Bk x_pids x_parents y_zombie x_registers x_held y_kind x_openTargets x_pipeCounts s c → post 1) (hf : ¬ uk_Bk x_pids x_parents y_zombie x_registers x_held y_kind x_openTargets x_pipeCounts s c → post 0) : wpY_waits post (x_changes, y_time, y_last, y_lastPid, y_did, x_greatestPid, x_latestPid, x_saidCount, y_killed, y_ops, y_as, y_bs, x_codeLengths, x_pids, x_parents, x_programs, x_places, x_statuses, x_stepCounts, x_copyCounts, y_pages, y_wake, y_zombie, y_blocked, x_registers, y_memory, y_frame, x_held, y_kind, x_openTargets, y_mode, x_openPlaces, x_pipeCounts, y_pipe, x_nameFiles, y_size, x_fileWords, x_safeNames, y_safeSize, x_safeWords, y_said) (nI s) c (x_registers (4 * s)) := by
  unfold wpY_waits
  have n0 : ∀ i, i < 8 → 0 ≤ nI i := fun i hi => nI_pos' (by omega)
  refine ⟨fun e2 => ?_, fun e2 => br_f h14 ?_⟩
  · subst e2
    refine yk_child1 hPs hs ?_
    rcases uk_bes x_pids (fun c => x_pids c ≠ 0 ∧ x_states c = 3 ∧ x_parents c = x_pids s) 8 with ⟨b, b2⟩ | ⟨i, hi, b, b2⟩
    · rw [b]
      refine br_f (by decide) (yk_child0 hs (fun q i hi => br_f (nI_pos (by omega)) (ht (Or.inl ⟨rfl, q, fun k hk z => b2 k hk ⟨z.1, (uk_zst hPs hk z.1).mpr z.2.1, z.2.2⟩⟩))) (fun q => br_t (by decide) (hf (fun z => ?_))))
      rcases z with z | z | z
      · obtain ⟨k, hk, z1⟩ := z.2.1
        exact q k hk z1
      · exact absurd z.1 (by decide)
      · exact absurd z.1 (by decide)
    · rw [b]
      refine br_t (n0 i hi) (hf (fun z => ?_))
      rcases z with z | z | z
      · exact z.2.2 i hi ⟨b2.1, (uk_zst hPs hi b2.1).mp b2.2.1, b2.2.2⟩
      · exact absurd z.1 (by decide)
      · exact absurd z.1 (by decide)
  have m116 : ∀ c' : Int32, ¬ uk_Bk x_pids x_parents y_zombie x_registers x_held y_kind x_openTargets x_pipeCounts s c → wY_waits_116 post c' x_changes y_time y_last y_lastPid y_did x_greatestPid x_latestPid x_saidCount y_killed y_ops y_as y_bs x_codeLengths x_pids x_parents x_programs x_places x_statuses x_stepCounts x_copyCounts y_pages y_wake y_zombie y_blocked x_registers y_memory y_frame x_held y_kind x_openTargets y_mode x_openPlaces x_pipeCounts y_pipe x_nameFiles y_size x_fileWords x_safeNames y_safeSize x_safeWords y_said := fun c' q => br_t (by decide) (hf q)
  have m94 : (c = 7 ∨ c = 8) → wY_waits_94 post (nI s) c (x_registers (4 * s)) x_changes y_time y_last y_lastPid y_did x_greatestPid x_latestPid x_saidCount y_killed y_ops y_as y_bs x_codeLengths x_pids x_parents x_programs x_places x_statuses x_stepCounts x_copyCounts y_pages y_wake y_zombie y_blocked x_registers y_memory y_frame x_held y_kind x_openTargets y_mode x_openPlaces x_pipeCounts y_pipe x_nameFiles y_size x_fileWords x_safeNames y_safeSize x_safeWords y_said := fun hc => by
    have hB : uk_Bk x_pids x_parents y_zombie x_registers x_held y_kind x_openTargets x_pipeCounts s c ↔ (∃ d o, d < 6 ∧ o < 12 ∧ x_registers (4 * s) = nI d ∧ x_held (6 * s + d) = nI o ∧ ((c = 7 ∧ y_kind o = 2 ∧ x_pipeCounts (x_openTargets o).toNatClampNeg = 0 ∧ ∃ e, e < 12 ∧ y_kind e = 3 ∧ x_openTargets e = x_openTargets o) ∨ (c = 8 ∧ y_kind o = 3 ∧ x_pipeCounts (x_openTargets o).toNatClampNeg = 4 ∧ ∃ e, e < 12 ∧ y_kind e = 2 ∧ x_openTargets e = x_openTargets o))) := by
      constructor
      · rintro (z | z | z)
        · exact absurd z.1 e2
        · obtain ⟨a, d, o, hd, ho, f1, f2, f3⟩ := z
          exact ⟨d, o, hd, ho, f1, f2, Or.inl ⟨a, f3⟩⟩
        · obtain ⟨a, d, o, hd, ho, f1, f2, f3⟩ := z
          exact ⟨d, o, hd, ho, f1, f2, Or.inr ⟨a, f3⟩⟩
      · rintro ⟨d, o, hd, ho, f1, f2, ⟨a, f3⟩ | ⟨a, f3⟩⟩
        · exact Or.inr (Or.inl ⟨a, d, o, hd, ho, f1, f2, f3⟩)
        · exact Or.inr (Or.inr ⟨a, d, o, hd, ho, f1, f2, f3⟩)
    refine yk_no 5 rfl (by decide) (fun a => br_t rfl ?_) (fun a => br_f (by decide) (m116 c (fun z => ?_)))
    · obtain ⟨d, hd, ed⟩ := vp_in_of a (by decide)
      rw [ed, uk_6m, nI_add]
      refine ⟨vp_in_nI (by omega) (by decide), ?_⟩
      rw [nI_clamp (show 6 * s + d < 2 ^ 31 by omega)]
      have hu : ∀ d', d' < 6 → x_registers (4 * s) = nI d' → d' = d := fun d' hd' f => uk_nIn (by omega) (by omega) (f.symm.trans ed)
      rcases hHd s hs hp hz d hd with e | e
      · rw [e]
        refine br_t (by decide) (hf (fun z => ?_))
        obtain ⟨d', o, hd', ho, f1, f2, _⟩ := hB.mp z
        have := hu d' hd' f1
        subst this
        exact uk_ne1 (n := o) (by omega) (f2.symm.trans e)
      · obtain ⟨o, ho, eo⟩ := vp_in_of e (by decide)
        rw [eo]
        obtain ⟨k1, k2, k3⟩ := uk_hk hHo hOk hs hp hz hd ho eo
        have vo : vp_in (nI o) 12 := vp_in_nI ho (by decide)
        have hu2 : ∀ d' o', d' < 6 → o' < 12 → x_registers (4 * s) = nI d' → x_held (6 * s + d') = nI o' → o' = o := fun d' o' hd' ho' f1 f2 => by
          have := hu d' hd' f1
          subst this
          exact (uk_nIn (by omega) (by omega) (eo.symm.trans f2)).symm
        refine br_f (nI_pos (by omega)) ⟨vo, ?_⟩
        have en : (nI o).toNatClampNeg = o := nI_clamp (by omega)
        refine ⟨fun c7 => ?_, fun c7 => ?_⟩
        · unfold wY_waits_142
          rw [en]
          refine ⟨fun k => br_t c7 ⟨vo, ?_⟩, fun k => hf (fun z => ?_)⟩
          · rw [k] at k3
            rcases k3 with q | q | q
            · exact absurd q.1 (by decide)
            · refine ⟨q.2.2, fun b => ⟨vo, yk_hasEnd (fun w => br_f (by decide) (ht (hB.mpr ⟨d, o, hd, ho, ed, eo, Or.inl ⟨c7, k, b, w⟩⟩))) (fun w => br_t rfl (hf (fun z => ?_)))⟩, fun b => hf (fun z => ?_)⟩
              · obtain ⟨d', o', hd', ho', f1, f2, ⟨_, f3, f4, ex, hx, f5⟩ | ⟨f3, _⟩⟩ := hB.mp z
                · have := hu2 d' o' hd' ho' f1 f2
                  subst this
                  exact w ex hx f5
                · rw [c7] at f3; exact absurd f3 (by decide)
              · obtain ⟨d', o', hd', ho', f1, f2, ⟨_, f3, f4, _⟩ | ⟨f3, _⟩⟩ := hB.mp z
                · have := hu2 d' o' hd' ho' f1 f2
                  subst this
                  exact b f4
                · rw [c7] at f3; exact absurd f3 (by decide)
            · exact absurd q.1 (by decide)
          · obtain ⟨d', o', hd', ho', f1, f2, ⟨_, f3, f4, _⟩ | ⟨f3, _⟩⟩ := hB.mp z
            · have := hu2 d' o' hd' ho' f1 f2
              subst this
              exact k f3
            · rw [c7] at f3; exact absurd f3 (by decide)
        · have c8 := hc.resolve_left c7
          unfold wY_waits_142
          rw [en]
          refine ⟨fun k => br_f c7 ⟨vo, ?_⟩, fun k => hf (fun z => ?_)⟩
          · rw [k] at k3
            rcases k3 with q | q | q
            · exact absurd q.1 (by decide)
            · exact absurd q.1 (by decide)
            · refine ⟨q.2.2, fun b => ⟨vo, yk_hasEnd (fun w => br_f (by decide) (ht (hB.mpr ⟨d, o, hd, ho, ed, eo, Or.inr ⟨c8, k, b, w⟩⟩))) (fun w => br_t rfl (hf (fun z => ?_)))⟩, fun b => hf (fun z => ?_)⟩
              · obtain ⟨d', o', hd', ho', f1, f2, ⟨f3, _⟩ | ⟨_, f3, f4, ex, hx, f5⟩⟩ := hB.mp z
                · exact absurd f3 c7
                · have := hu2 d' o' hd' ho' f1 f2
                  subst this
                  exact w ex hx f5
              · obtain ⟨d', o', hd', ho', f1, f2, ⟨f3, _⟩ | ⟨_, f3, f4, _⟩⟩ := hB.mp z
                · exact absurd f3 c7
                · have := hu2 d' o' hd' ho' f1 f2
                  subst this
                  exact b f4
          · obtain ⟨d', o', hd', ho', f1, f2, ⟨f3, _⟩ | ⟨_, f3, f4, _⟩⟩ := hB.mp z
            · exact absurd f3 c7
            · have := hu2 d' o' hd' ho' f1 f2
              subst this
              exact k f3
    · obtain ⟨d', o, hd', ho, f1, _⟩ := hB.mp z
      exact a (by rw [f1]; exact vp_in_nI hd' (by decide))
  refine ⟨fun e7 => m94 (Or.inl e7), fun e7 => ⟨fun e8 => m94 (Or.inr e8), fun e8 => m116 c (fun z => ?_)⟩⟩
  rcases z with z | z | z
  · exact e2 z.1
  · exact e7 z.1
  · exact e8 z.1
end
end
section
/-! who is ready, both sides; the choice -/
theorem uk_cix (g l : Nat) : (nI g * 24 + nI l) * 3 = nI (3 * (24 * g + l)) := by rw [uk_m24, nI_add, uk_m3]
theorem uk_cix2 (g l : Nat) : (nI g * 24 + nI l) * 3 + 2 = nI (3 * (24 * g + l) + 2) := by rw [uk_cix]; exact nI_add _ 2
theorem uk_cix1 (g l : Nat) : (nI g * 24 + nI l) * 3 + 1 = nI (3 * (24 * g + l) + 1) := by rw [uk_cix]; exact nI_add _ 1
section
variable {x_changes x_saidCount x_time x_lastSlot x_sliceSteps x_latestPid x_greatestPid : Int32} {x_code x_codeLengths x_pids x_parents x_programs x_places x_states x_statuses x_stepCounts x_copyCounts x_wakeTimes x_registers x_pageCounts x_pageFrames x_held x_frameUsers x_frameWords x_openHolders x_openKinds x_openTargets x_openPlaces x_openModes x_pipeFirsts x_pipeCounts x_pipeWords x_nameFiles x_fileSizes x_fileWords x_safeNames x_safeSizes x_safeWords x_saidInts : Nat → Int32} {y_time y_last y_lastPid y_did y_killed : Int32} {y_ops y_as y_bs y_pages y_wake y_zombie y_blocked y_memory y_frame y_kind y_mode y_pipe y_size y_safeSize y_said : Nat → Int32}
theorem uk_gl (hPr : uk_Pr x_code x_codeLengths y_ops y_as y_bs) (hPs : uk_Ps x_pids x_parents x_programs x_places x_statuses x_states y_zombie y_blocked) {s : Nat} (hs : s < 8) : ∃ g l m, g < 6 ∧ l ≤ 24 ∧ m ≤ 24 ∧ x_programs s = nI g ∧ x_places s = nI l ∧ x_codeLengths g = nI m ∧ (∀ j, j < m → uk_val (x_code (3 * (24 * g + j))) (x_code (3 * (24 * g + j) + 1)) (x_code (3 * (24 * g + j) + 2))) := by
  obtain ⟨_, _, h3, h4, _⟩ := hPs s hs
  obtain ⟨g, hg, eg⟩ := vp_in_of h3 (by decide)
  obtain ⟨l, hl, el⟩ := vp_in_of h4 (by decide)
  obtain ⟨m, hm, em, hv⟩ := hPr.2 g hg
  exact ⟨g, l, m, hg, by omega, hm, eg, el, em, hv⟩
theorem xk_isReady {post : Int32 → Prop} {s t : Nat} (hs : s < 8) (hPr : uk_Pr x_code x_codeLengths y_ops y_as y_bs) (hPs : uk_Ps x_pids x_parents x_programs x_places x_statuses x_states y_zombie y_blocked) (hHd : uk_Hd x_pids y_zombie x_held) (hHo : uk_Ho x_pids y_zombie x_held x_openHolders) (hOk : uk_Ok x_openHolders x_openKinds y_kind x_openTargets x_openModes y_mode x_openPlaces) (hPi : uk_Pi x_pipeCounts x_pipeFirsts x_pipeWords y_pipe) (hWk : uk_Wk x_pids y_zombie y_blocked x_programs x_places x_codeLengths y_ops y_bs x_wakeTimes y_wake x_registers x_held y_kind t) (ht : uk_Rd x_pids x_parents y_zombie y_blocked x_programs x_places y_bs y_wake x_registers x_held y_kind x_openTargets x_pipeCounts x_time s → post 1) (hf : ¬ uk_Rd x_pids x_parents y_zombie y_blocked x_programs x_places y_bs y_wake x_registers x_held y_kind x_openTargets x_pipeCounts x_time s → post 0) : wpX_isReady post (x_changes, x_saidCount, x_time, x_lastSlot, x_sliceSteps, x_latestPid, x_greatestPid, x_code, x_codeLengths, x_pids, x_parents, x_programs, x_places, x_states, x_statuses, x_stepCounts, x_copyCounts, x_wakeTimes, x_registers, x_pageCounts, x_pageFrames, x_held, x_frameUsers, x_frameWords, x_openHolders, x_openKinds, x_openTargets, x_openPlaces, x_openModes, x_pipeFirsts, x_pipeCounts, x_pipeWords, x_nameFiles, x_fileSizes, x_fileWords, x_safeNames, x_safeSizes, x_safeWords, x_saidInts) (nI s) := by
  obtain ⟨_, vs, es⟩ := uk_lp 8 hs (by decide)
  unfold wpX_isReady
  refine ⟨vs, ?_⟩
  rw [es]
  refine ⟨fun a => hf (fun z => z.1 a), fun hp => ⟨vs, ?_⟩⟩
  rcases (hPs s hs).2.2.2.2.2.2 hp with ⟨a, b⟩ | ⟨hz, _, b⟩
  · rw [b]
    exact br_t rfl (hf (fun z => absurd (a.symm.trans z.2.1) (by decide)))
  rcases b with ⟨b1, b2⟩ | ⟨b1, b2⟩
  · rw [b2]
    exact br_f (by decide) ⟨vs, br_t rfl (ht ⟨hp, hz, Or.inl b1⟩)⟩
  rw [b2]
  refine br_f (by decide) ⟨vs, br_f (by decide) ⟨vs, vs, ?_⟩⟩
  rcases hWk s hs hp hz with ⟨w, _⟩ | ⟨_, w1, w2, w3⟩
  · exact absurd (b1.symm.trans w) (by decide)
  obtain ⟨g, l, m, hg, hl, hm, eg, el, em, _⟩ := uk_gl hPr hPs hs
  unfold wpX_codeIndex
  dsimp only
  rw [eg, el, nI_clamp (show g < 2 ^ 31 by omega), em, nI_clamp (show l < 2 ^ 31 by omega), nI_clamp (show m < 2 ^ 31 by omega)] at w1
  rw [eg, el, nI_clamp (show g < 2 ^ 31 by omega), nI_clamp (show l < 2 ^ 31 by omega)] at w3
  have hR : uk_Rd x_pids x_parents y_zombie y_blocked x_programs x_places y_bs y_wake x_registers x_held y_kind x_openTargets x_pipeCounts x_time s ↔ ((y_bs (24 * g + l) ≠ 14 ∧ ¬ uk_Bk x_pids x_parents y_zombie x_registers x_held y_kind x_openTargets x_pipeCounts s (y_bs (24 * g + l))) ∨ (y_bs (24 * g + l) = 14 ∧ y_wake s ≤ x_time)) := by
    unfold uk_Rd
    rw [eg, el, nI_clamp (show g < 2 ^ 31 by omega), nI_clamp (show l < 2 ^ 31 by omega)]
    exact ⟨fun z => z.2.2.resolve_left (fun w => absurd (b1.symm.trans w) (by decide)), fun z => ⟨hp, hz, Or.inr z⟩⟩
  rw [eg, el, uk_cix2, nI_clamp (show 3 * (24 * g + l) + 2 < 2 ^ 31 by omega), ← (hPr.1 (24 * g + l) (by omega)).2.1]
  refine ⟨vp_in_nI (by omega) (by decide), ?_⟩
  by_cases h14 : y_bs (24 * g + l) = 14
  · rcases w3 with ⟨_, w, hw, hw2, e1, e2⟩ | ⟨_, _, w3⟩
    · rw [h14]
      unfold wpX_wouldBlock
      refine br_f (by decide) (br_f (by decide) (br_f (by decide) (br_t rfl ⟨vs, ?_⟩)))
      rw [es, e1, ← e2]
      exact ⟨fun q => br_t rfl (ht (hR.mpr (Or.inr ⟨h14, q⟩))), fun q => br_f (by decide) (hf (fun z => by
        rcases hR.mp z with y | y
        · exact y.1 h14
        · exact q y.2))⟩
    · rw [h14] at w3
      rcases w3 with w3 | w3 | w3
      · exact absurd w3 (by decide)
      · exact absurd w3.1 (by decide)
      · exact absurd w3.1 (by decide)
  · exact xk_wouldBlock hPs hHd hHo hOk hPi hs hp hz h14 (fun q => br_f (by decide) (hf (fun z => by
      rcases hR.mp z with y | y
      · exact y.2 q
      · exact h14 y.1))) (fun q => br_t rfl (ht (hR.mpr (Or.inl ⟨h14, q⟩))))
theorem yk_isReady {post : Int32 → Prop} {s t : Nat} (hs : s < 8) (hPr : uk_Pr x_code x_codeLengths y_ops y_as y_bs) (hPs : uk_Ps x_pids x_parents x_programs x_places x_statuses x_states y_zombie y_blocked) (hHd : uk_Hd x_pids y_zombie x_held) (hHo : uk_Ho x_pids y_zombie x_held x_openHolders) (hOk : uk_Ok x_openHolders x_openKinds y_kind x_openTargets x_openModes y_mode x_openPlaces) (hPi : uk_Pi x_pipeCounts x_pipeFirsts x_pipeWords y_pipe) (hWk : uk_Wk x_pids y_zombie y_blocked x_programs x_places x_codeLengths y_ops y_bs x_wakeTimes y_wake x_registers x_held y_kind t) (ht : uk_Rd x_pids x_parents y_zombie y_blocked x_programs x_places y_bs y_wake x_registers x_held y_kind x_openTargets x_pipeCounts y_time s → post 1) (hf : ¬ uk_Rd x_pids x_parents y_zombie y_blocked x_programs x_places y_bs y_wake x_registers x_held y_kind x_openTargets x_pipeCounts y_time s → post 0) : wpY_isReady post (x_changes, y_time, y_last, y_lastPid, y_did, x_greatestPid, x_latestPid, x_saidCount, y_killed, y_ops, y_as, y_bs, x_codeLengths, x_pids, x_parents, x_programs, x_places, x_statuses, x_stepCounts, x_copyCounts, y_pages, y_wake, y_zombie, y_blocked, x_registers, y_memory, y_frame, x_held, y_kind, x_openTargets, y_mode, x_openPlaces, x_pipeCounts, y_pipe, x_nameFiles, y_size, x_fileWords, x_safeNames, y_safeSize, x_safeWords, y_said) (nI s) := by
  obtain ⟨_, vs, es⟩ := uk_lp 8 hs (by decide)
  unfold wpY_isReady
  refine ⟨vs, ?_⟩
  rw [es, uk_le0 (hPs s hs).1]
  refine ⟨fun a => hf (fun z => z.1 a), fun hp => ⟨vs, ?_⟩⟩
  rcases (hPs s hs).2.2.2.2.2.2 hp with ⟨a, b⟩ | ⟨hz, _, b⟩
  · rw [a]
    exact br_f (by decide) (hf (fun z => absurd (a.symm.trans z.2.1) (by decide)))
  rcases b with ⟨b1, b2⟩ | ⟨b1, b2⟩
  · rw [b1]
    exact br_t hz ⟨vs, br_t rfl (ht ⟨hp, hz, Or.inl b1⟩)⟩
  rw [b1]
  refine br_t hz ⟨vs, br_f (by decide) ?_⟩
  rcases hWk s hs hp hz with ⟨w, _⟩ | ⟨_, w1, w2, w3⟩
  · exact absurd (b1.symm.trans w) (by decide)
  obtain ⟨g, l, m, hg, hl, hm, eg, el, em, _⟩ := uk_gl hPr hPs hs
  rw [eg, el, nI_clamp (show g < 2 ^ 31 by omega), em, nI_clamp (show l < 2 ^ 31 by omega), nI_clamp (show m < 2 ^ 31 by omega)] at w1
  rw [eg, el, nI_clamp (show g < 2 ^ 31 by omega), nI_clamp (show l < 2 ^ 31 by omega)] at w3
  have hR : uk_Rd x_pids x_parents y_zombie y_blocked x_programs x_places y_bs y_wake x_registers x_held y_kind x_openTargets x_pipeCounts y_time s ↔ ((y_bs (24 * g + l) ≠ 14 ∧ ¬ uk_Bk x_pids x_parents y_zombie x_registers x_held y_kind x_openTargets x_pipeCounts s (y_bs (24 * g + l))) ∨ (y_bs (24 * g + l) = 14 ∧ y_wake s ≤ y_time)) := by
    unfold uk_Rd
    rw [eg, el, nI_clamp (show g < 2 ^ 31 by omega), nI_clamp (show l < 2 ^ 31 by omega)]
    exact ⟨fun z => z.2.2.resolve_left (fun w => absurd (b1.symm.trans w) (by decide)), fun z => ⟨hp, hz, Or.inr z⟩⟩
  unfold wpY_canGo
  dsimp only
  rw [es, eg, el, uk_24m, nI_add, nI_clamp (show 24 * g + l < 2 ^ 31 by omega)]
  refine ⟨vs, vs, vp_in_nI (by omega) (by decide), nm_e ?_⟩
  rcases w3 with ⟨h14, w, hw, hw2, e1, e2⟩ | ⟨_, _, w3⟩
  · rw [h14]
    refine br_f (by decide) (br_t rfl ⟨vs, fun q => br_t rfl (hf (fun z => ?_)), fun q => br_f (by decide) (ht (hR.mpr (Or.inr ⟨h14, Int32.not_lt.mp q⟩)))⟩)
    rcases hR.mp z with y | y
    · exact y.1 h14
    · exact Int32.not_lt.mpr y.2 q
  rcases w3 with c2 | ⟨c7, d, o, hd, ho, f1, f2, f3⟩ | ⟨c8, d, o, hd, ho, f1, f2, f3⟩
  · rw [c2] at hR ⊢
    refine br_t rfl (yk_child1 hPs hs ?_)
    rcases uk_bes x_pids (fun c => x_pids c ≠ 0 ∧ x_states c = 3 ∧ x_parents c = x_pids s) 8 with ⟨b, b3⟩ | ⟨i, hi, b, b3⟩
    · rw [b]
      refine br_f (by decide) (yk_child0 hs (fun q i hi => br_t (nI_pos' (by omega)) (br_t rfl (hf (fun z => ?_)))) (fun q => br_f (by decide) (br_f (by decide) (ht (hR.mpr (Or.inl ⟨by decide, fun z => ?_⟩))))))
      · rcases hR.mp z with y | y
        · exact y.2 (Or.inl ⟨rfl, q, fun k hk z => b3 k hk ⟨z.1, (uk_zst hPs hk z.1).mpr z.2.1, z.2.2⟩⟩)
        · exact absurd y.1 (by decide)
      · rcases z with z | z | z
        · obtain ⟨k, hk, z1⟩ := z.2.1
          exact q k hk z1
        · exact absurd z.1 (by decide)
        · exact absurd z.1 (by decide)
    · rw [b]
      refine br_t (nI_pos' (by omega)) (br_f (by decide) (ht (hR.mpr (Or.inl ⟨by decide, fun z => ?_⟩))))
      rcases z with z | z | z
      · exact z.2.2 i hi ⟨b3.1, (uk_zst hPs hi b3.1).mp b3.2.1, b3.2.2⟩
      · exact absurd z.1 (by decide)
      · exact absurd z.1 (by decide)
  · have vt : vp_in (x_openTargets o) 4 := by
      have := (uk_hk hHo hOk hs hp hz hd ho f2).2.2
      rw [f3] at this
      rcases this with q | q | q
      · exact absurd q.1 (by decide)
      · exact q.2.2
      · exact q.2.2
    have hu2 : ∀ d' o', d' < 6 → o' < 12 → x_registers (4 * s) = nI d' → x_held (6 * s + d') = nI o' → o' = o := fun d' o' hd' ho' g1 g2 => by
      have := uk_nIn (by omega) (by omega) (g1.symm.trans f1)
      subst this
      exact uk_nIn (by omega) (by omega) (g2.symm.trans f2)
    rw [c7] at hR ⊢
    refine br_f (by decide) (br_f (by decide) ?_)
    rw [uk_4m, nI_clamp (show 4 * s < 2 ^ 31 by omega), f1, uk_6m, nI_add, nI_clamp (show 6 * s + d < 2 ^ 31 by omega), f2, nI_clamp (show o < 2 ^ 31 by omega)]
    refine ⟨vp_in_nI (by omega) (by decide), vp_in_nI (by omega) (by decide), vp_in_nI ho (by decide), nm_e (br_t rfl ⟨vt, fun q => br_f (by decide) (ht (hR.mpr (Or.inl ⟨by decide, fun z => ?_⟩))), fun q => yk_hasEnd (fun y => br_f (by decide) (br_t rfl (hf (fun z => ?_)))) (fun y => br_t rfl (br_f (by decide) (ht (hR.mpr (Or.inl ⟨by decide, fun z => ?_⟩)))))⟩)⟩
    · rcases z with z | z | z
      · exact absurd z.1 (by decide)
      · obtain ⟨_, d', o', hd', ho', g1, g2, g3, g4, g5⟩ := z
        have := hu2 d' o' hd' ho' g1 g2
        subst this
        exact ((uk_c4 hPi vt).2.mpr g4) q
      · exact absurd z.1 (by decide)
    · rcases hR.mp z with w | w
      · exact w.2 (Or.inr (Or.inl ⟨rfl, d, o, hd, ho, f1, f2, f3, (uk_c4 hPi vt).2.mp q, y⟩))
      · exact absurd w.1 (by decide)
    · rcases z with z | z | z
      · exact absurd z.1 (by decide)
      · obtain ⟨_, d', o', hd', ho', g1, g2, g3, g4, ex, hx, g5⟩ := z
        have := hu2 d' o' hd' ho' g1 g2
        subst this
        exact y ex hx g5
      · exact absurd z.1 (by decide)
  · have vt : vp_in (x_openTargets o) 4 := by
      have := (uk_hk hHo hOk hs hp hz hd ho f2).2.2
      rw [f3] at this
      rcases this with q | q | q
      · exact absurd q.1 (by decide)
      · exact q.2.2
      · exact q.2.2
    have hu2 : ∀ d' o', d' < 6 → o' < 12 → x_registers (4 * s) = nI d' → x_held (6 * s + d') = nI o' → o' = o := fun d' o' hd' ho' g1 g2 => by
      have := uk_nIn (by omega) (by omega) (g1.symm.trans f1)
      subst this
      exact uk_nIn (by omega) (by omega) (g2.symm.trans f2)
    rw [c8] at hR ⊢
    refine br_f (by decide) (br_f (by decide) ?_)
    rw [uk_4m, nI_clamp (show 4 * s < 2 ^ 31 by omega), f1, uk_6m, nI_add, nI_clamp (show 6 * s + d < 2 ^ 31 by omega), f2, nI_clamp (show o < 2 ^ 31 by omega)]
    refine ⟨vp_in_nI (by omega) (by decide), vp_in_nI (by omega) (by decide), vp_in_nI ho (by decide), nm_e (br_f (by decide) ⟨vt, fun q => br_f (by decide) (ht (hR.mpr (Or.inl ⟨by decide, fun z => ?_⟩))), fun q => yk_hasEnd (fun y => br_f (by decide) (br_t rfl (hf (fun z => ?_)))) (fun y => br_t rfl (br_f (by decide) (ht (hR.mpr (Or.inl ⟨by decide, fun z => ?_⟩)))))⟩)⟩
    · rcases z with z | z | z
      · exact absurd z.1 (by decide)
      · exact absurd z.1 (by decide)
      · obtain ⟨_, d', o', hd', ho', g1, g2, g3, g4, g5⟩ := z
        have := hu2 d' o' hd' ho' g1 g2
        subst this
        exact (uk_c4 hPi vt).1.mp q g4
    · rcases hR.mp z with w | w
      · exact w.2 (Or.inr (Or.inr ⟨rfl, d, o, hd, ho, f1, f2, f3, Classical.byContradiction (fun y2 => q ((uk_c4 hPi vt).1.mpr y2)), y⟩))
      · exact absurd w.1 (by decide)
    · rcases z with z | z | z
      · exact absurd z.1 (by decide)
      · exact absurd z.1 (by decide)
      · obtain ⟨_, d', o', hd', ho', g1, g2, g3, g4, ex, hx, g5⟩ := z
        have := hu2 d' o' hd' ho' g1 g2
        subst this
        exact y ex hx g5
end
end
section
/-! a descriptor goes, on both sides -/
section
variable {x_changes x_saidCount x_time x_lastSlot x_sliceSteps x_latestPid x_greatestPid : Int32} {x_code x_codeLengths x_pids x_parents x_programs x_places x_states x_statuses x_stepCounts x_copyCounts x_wakeTimes x_registers x_pageCounts x_pageFrames x_held x_frameUsers x_frameWords x_openHolders x_openKinds x_openTargets x_openPlaces x_openModes x_pipeFirsts x_pipeCounts x_pipeWords x_nameFiles x_fileSizes x_fileWords x_safeNames x_safeSizes x_safeWords x_saidInts : Nat → Int32} {y_time y_last y_lastPid y_did y_killed : Int32} {y_ops y_as y_bs y_pages y_wake y_zombie y_blocked y_reg y_memory y_frame y_kind y_mode y_pipe y_size y_safeSize y_said : Nat → Int32}
theorem xk_letGo {post : SX → Prop} {s d : Nat} (hs : s < 8) (hd : d < 6) (hH : x_held (6 * s + d) = -1 ∨ vp_in (x_held (6 * s + d)) 12) (h0 : x_held (6 * s + d) = -1 → post (x_changes, x_saidCount, x_time, x_lastSlot, x_sliceSteps, x_latestPid, x_greatestPid, x_code, x_codeLengths, x_pids, x_parents, x_programs, x_places, x_states, x_statuses, x_stepCounts, x_copyCounts, x_wakeTimes, x_registers, x_pageCounts, x_pageFrames, x_held, x_frameUsers, x_frameWords, x_openHolders, x_openKinds, x_openTargets, x_openPlaces, x_openModes, x_pipeFirsts, x_pipeCounts, x_pipeWords, x_nameFiles, x_fileSizes, x_fileWords, x_safeNames, x_safeSizes, x_safeWords, x_saidInts)) (h1 : ∀ o, o < 12 → x_held (6 * s + d) = nI o → post (x_changes, x_saidCount, x_time, x_lastSlot, x_sliceSteps, x_latestPid, x_greatestPid, x_code, x_codeLengths, x_pids, x_parents, x_programs, x_places, x_states, x_statuses, x_stepCounts, x_copyCounts, x_wakeTimes, x_registers, x_pageCounts, x_pageFrames, upd x_held (6 * s + d) (-1), x_frameUsers, x_frameWords, upd x_openHolders o (x_openHolders o - 1), x_openKinds, x_openTargets, x_openPlaces, x_openModes, x_pipeFirsts, x_pipeCounts, x_pipeWords, x_nameFiles, x_fileSizes, x_fileWords, x_safeNames, x_safeSizes, x_safeWords, x_saidInts)) : wpX_letGo post (x_changes, x_saidCount, x_time, x_lastSlot, x_sliceSteps, x_latestPid, x_greatestPid, x_code, x_codeLengths, x_pids, x_parents, x_programs, x_places, x_states, x_statuses, x_stepCounts, x_copyCounts, x_wakeTimes, x_registers, x_pageCounts, x_pageFrames, x_held, x_frameUsers, x_frameWords, x_openHolders, x_openKinds, x_openTargets, x_openPlaces, x_openModes, x_pipeFirsts, x_pipeCounts, x_pipeWords, x_nameFiles, x_fileSizes, x_fileWords, x_safeNames, x_safeSizes, x_safeWords, x_saidInts) (nI s) (nI d) := by
  unfold wpX_letGo
  rw [uk_m6, nI_add, nI_clamp (show 6 * s + d < 2 ^ 31 by omega)]
  have v : vp_in (nI (6 * s + d)) 48 := vp_in_nI (by omega) (by decide)
  refine ⟨v, ?_⟩
  rcases hH with e | e
  · rw [e]
    exact nm_e (br_t rfl (h0 e))
  · obtain ⟨o, ho, eo⟩ := vp_in_of e (by decide)
    rw [eo]
    have vo : vp_in (nI o) 12 := vp_in_nI ho (by decide)
    refine nm_e (br_f (uk_ne1 (by omega)) ⟨vo, vo, ?_⟩)
    rw [nI_clamp (show o < 2 ^ 31 by omega)]
    exact nm_e ⟨v, nm_e (h1 o ho eo)⟩
theorem yk_release {post : SY → Prop} {f : Nat} (hf8 : f < 8) (h1 : uk_fre x_nameFiles y_kind x_openTargets f → post (x_changes, y_time, y_last, y_lastPid, y_did, x_greatestPid, x_latestPid, x_saidCount, y_killed, y_ops, y_as, y_bs, x_codeLengths, x_pids, x_parents, x_programs, x_places, x_statuses, x_stepCounts, x_copyCounts, y_pages, y_wake, y_zombie, y_blocked, y_reg, y_memory, y_frame, x_held, y_kind, x_openTargets, y_mode, x_openPlaces, x_pipeCounts, y_pipe, x_nameFiles, upd y_size f 0, x_fileWords, x_safeNames, y_safeSize, x_safeWords, y_said)) (h0 : ¬ uk_fre x_nameFiles y_kind x_openTargets f → post (x_changes, y_time, y_last, y_lastPid, y_did, x_greatestPid, x_latestPid, x_saidCount, y_killed, y_ops, y_as, y_bs, x_codeLengths, x_pids, x_parents, x_programs, x_places, x_statuses, x_stepCounts, x_copyCounts, y_pages, y_wake, y_zombie, y_blocked, y_reg, y_memory, y_frame, x_held, y_kind, x_openTargets, y_mode, x_openPlaces, x_pipeCounts, y_pipe, x_nameFiles, y_size, x_fileWords, x_safeNames, y_safeSize, x_safeWords, y_said)) : wpY_release post (x_changes, y_time, y_last, y_lastPid, y_did, x_greatestPid, x_latestPid, x_saidCount, y_killed, y_ops, y_as, y_bs, x_codeLengths, x_pids, x_parents, x_programs, x_places, x_statuses, x_stepCounts, x_copyCounts, y_pages, y_wake, y_zombie, y_blocked, y_reg, y_memory, y_frame, x_held, y_kind, x_openTargets, y_mode, x_openPlaces, x_pipeCounts, y_pipe, x_nameFiles, y_size, x_fileWords, x_safeNames, y_safeSize, x_safeWords, y_said) (nI f) := by
  unfold wpY_release
  refine yk_isFree (fun a => br_f (by decide) ⟨vp_in_nI hf8 (by decide), ?_⟩) (fun a => br_t rfl (h0 a))
  rw [nI_clamp (show f < 2 ^ 31 by omega)]
  exact nm_e (h1 a)
theorem yk_close {post : SY → Prop} {s d : Nat} (hs : s < 8) (hd : d < 6) (hP : ∀ s, s < 8 → ¬ x_pids s < 0) (hH : x_held (6 * s + d) = -1 ∨ vp_in (x_held (6 * s + d)) 12) (hT : ∀ o, o < 12 → y_kind o = 1 → x_held (6 * s + d) = nI o → vp_in (x_openTargets o) 8)
  (h0 : x_held (6 * s + d) = -1 → post (x_changes, y_time, y_last, y_lastPid, y_did, x_greatestPid, x_latestPid, x_saidCount, y_killed, y_ops, y_as, y_bs, x_codeLengths, x_pids, x_parents, x_programs, x_places, x_statuses, x_stepCounts, x_copyCounts, y_pages, y_wake, y_zombie, y_blocked, y_reg, y_memory, y_frame, upd x_held (6 * s + d) (-1), y_kind, x_openTargets, y_mode, x_openPlaces, x_pipeCounts, y_pipe, x_nameFiles, y_size, x_fileWords, x_safeNames, y_safeSize, x_safeWords, y_said))
  (h1 : ∀ o, o < 12 → x_held (6 * s + d) = nI o → uk_sm (uk_hw x_pids y_zombie (upd x_held (6 * s + d) (-1)) o) 8 ≠ 0 → post (x_changes, y_time, y_last, y_lastPid, y_did, x_greatestPid, x_latestPid, x_saidCount, y_killed, y_ops, y_as, y_bs, x_codeLengths, x_pids, x_parents, x_programs, x_places, x_statuses, x_stepCounts, x_copyCounts, y_pages, y_wake, y_zombie, y_blocked, y_reg, y_memory, y_frame, upd x_held (6 * s + d) (-1), y_kind, x_openTargets, y_mode, x_openPlaces, x_pipeCounts, y_pipe, x_nameFiles, y_size, x_fileWords, x_safeNames, y_safeSize, x_safeWords, y_said))
  (h2 : ∀ o, o < 12 → x_held (6 * s + d) = nI o → uk_sm (uk_hw x_pids y_zombie (upd x_held (6 * s + d) (-1)) o) 8 = 0 → y_kind o ≠ 1 → post (x_changes, y_time, y_last, y_lastPid, y_did, x_greatestPid, x_latestPid, x_saidCount, y_killed, y_ops, y_as, y_bs, x_codeLengths, x_pids, x_parents, x_programs, x_places, x_statuses, x_stepCounts, x_copyCounts, y_pages, y_wake, y_zombie, y_blocked, y_reg, y_memory, y_frame, upd x_held (6 * s + d) (-1), upd y_kind o 0, x_openTargets, y_mode, x_openPlaces, x_pipeCounts, y_pipe, x_nameFiles, y_size, x_fileWords, x_safeNames, y_safeSize, x_safeWords, y_said))
  (h3 : ∀ o f, o < 12 → f < 8 → x_held (6 * s + d) = nI o → uk_sm (uk_hw x_pids y_zombie (upd x_held (6 * s + d) (-1)) o) 8 = 0 → y_kind o = 1 → x_openTargets o = nI f → uk_fre x_nameFiles (upd y_kind o 0) x_openTargets f → post (x_changes, y_time, y_last, y_lastPid, y_did, x_greatestPid, x_latestPid, x_saidCount, y_killed, y_ops, y_as, y_bs, x_codeLengths, x_pids, x_parents, x_programs, x_places, x_statuses, x_stepCounts, x_copyCounts, y_pages, y_wake, y_zombie, y_blocked, y_reg, y_memory, y_frame, upd x_held (6 * s + d) (-1), upd y_kind o 0, x_openTargets, y_mode, x_openPlaces, x_pipeCounts, y_pipe, x_nameFiles, upd y_size f 0, x_fileWords, x_safeNames, y_safeSize, x_safeWords, y_said))
  (h4 : ∀ o f, o < 12 → f < 8 → x_held (6 * s + d) = nI o → uk_sm (uk_hw x_pids y_zombie (upd x_held (6 * s + d) (-1)) o) 8 = 0 → y_kind o = 1 → x_openTargets o = nI f → ¬ uk_fre x_nameFiles (upd y_kind o 0) x_openTargets f → post (x_changes, y_time, y_last, y_lastPid, y_did, x_greatestPid, x_latestPid, x_saidCount, y_killed, y_ops, y_as, y_bs, x_codeLengths, x_pids, x_parents, x_programs, x_places, x_statuses, x_stepCounts, x_copyCounts, y_pages, y_wake, y_zombie, y_blocked, y_reg, y_memory, y_frame, upd x_held (6 * s + d) (-1), upd y_kind o 0, x_openTargets, y_mode, x_openPlaces, x_pipeCounts, y_pipe, x_nameFiles, y_size, x_fileWords, x_safeNames, y_safeSize, x_safeWords, y_said))
  : wpY_close post (x_changes, y_time, y_last, y_lastPid, y_did, x_greatestPid, x_latestPid, x_saidCount, y_killed, y_ops, y_as, y_bs, x_codeLengths, x_pids, x_parents, x_programs, x_places, x_statuses, x_stepCounts, x_copyCounts, y_pages, y_wake, y_zombie, y_blocked, y_reg, y_memory, y_frame, x_held, y_kind, x_openTargets, y_mode, x_openPlaces, x_pipeCounts, y_pipe, x_nameFiles, y_size, x_fileWords, x_safeNames, y_safeSize, x_safeWords, y_said) (nI s) (nI d) := by
  unfold wpY_close
  rw [uk_6m, nI_add, nI_clamp (show 6 * s + d < 2 ^ 31 by omega)]
  have v : vp_in (nI (6 * s + d)) 48 := vp_in_nI (by omega) (by decide)
  refine ⟨v, ?_⟩
  rcases hH with e | e
  · have h0' := h0 e
    rw [e]
    exact nm_e ⟨v, nm_e (br_t (by decide) h0')⟩
  · obtain ⟨o, ho, eo⟩ := vp_in_of e (by decide)
    have vo : vp_in (nI o) 12 := vp_in_nI ho (by decide)
    have k1 := h1 o ho eo
    have k2 := h2 o ho eo
    have k3 := fun f hf => h3 o f ho hf eo
    have k4 := fun f hf => h4 o f ho hf eo
    have kT := hT o ho
    rw [eo]
    refine nm_e ⟨v, nm_e (br_f (nI_pos (by omega)) (yk_holders hP ?_))⟩
    have hle := uk_hsle x_pids y_zombie (upd x_held (6 * s + d) (-1)) o
    refine ⟨fun z => ⟨vo, ?_⟩, fun z => k1 (fun w => z (by rw [w]; rfl))⟩
    have z0 := uk_nIn (b := 0) (by omega) (by decide) z
    rw [nI_clamp (show o < 2 ^ 31 by omega)]
    refine ⟨fun a => ⟨vo, ?_⟩, fun a => ⟨vo, ?_⟩⟩
    · obtain ⟨f, hf, ef⟩ := vp_in_of (kT a eo) (by decide)
      unfold wY_close_56
      rw [nI_clamp (show o < 2 ^ 31 by omega), ef]
      refine ⟨vo, nm_e (br_f (nI_pos (by omega)) (yk_release hf (fun b => k3 f hf z0 a ef b) (fun b => k4 f hf z0 a ef b)))⟩
    · rw [nI_clamp (show o < 2 ^ 31 by omega)]
      exact nm_e (br_t (by decide) (k2 z0 a))
/-- one descriptor of s goes on both sides -/
theorem uk_go1 {zo1 : Nat → Int32} {t s d : Nat} (hs : s < 8) (hd : d < 6) (hp : x_pids s ≠ 0) (hz : y_zombie s = 0) (hP : ∀ s, s < 8 → ¬ x_pids s < 0) (hHd : uk_Hd x_pids y_zombie x_held) (hHo : uk_Ho x_pids y_zombie x_held x_openHolders) (hOk : uk_Ok x_openHolders x_openKinds y_kind x_openTargets x_openModes y_mode x_openPlaces) (hFi : uk_Fi x_nameFiles y_kind x_openTargets x_fileSizes y_size) (hWk : uk_Wk x_pids zo1 y_blocked x_programs x_places x_codeLengths y_ops y_bs x_wakeTimes y_wake x_registers x_held y_kind t) (hzo : ∀ s', s' < 8 → s' ≠ s → zo1 s' = 0 → y_zombie s' = 0) (hs1 : zo1 s = 0 → y_blocked s = 0 ∧ x_wakeTimes s = 0 ∧ y_wake s = -1) :
  ∃ oh' ki' sz', uk_Hd x_pids y_zombie (upd x_held (6 * s + d) (-1)) ∧ uk_Ho x_pids y_zombie (upd x_held (6 * s + d) (-1)) oh' ∧ uk_Ok oh' x_openKinds ki' x_openTargets x_openModes y_mode x_openPlaces ∧ uk_Fi x_nameFiles ki' x_openTargets x_fileSizes sz' ∧ uk_Wk x_pids zo1 y_blocked x_programs x_places x_codeLengths y_ops y_bs x_wakeTimes y_wake x_registers (upd x_held (6 * s + d) (-1)) ki' t ∧
  (∀ post, post (x_changes, x_saidCount, x_time, x_lastSlot, x_sliceSteps, x_latestPid, x_greatestPid, x_code, x_codeLengths, x_pids, x_parents, x_programs, x_places, x_states, x_statuses, x_stepCounts, x_copyCounts, x_wakeTimes, x_registers, x_pageCounts, x_pageFrames, upd x_held (6 * s + d) (-1), x_frameUsers, x_frameWords, oh', x_openKinds, x_openTargets, x_openPlaces, x_openModes, x_pipeFirsts, x_pipeCounts, x_pipeWords, x_nameFiles, x_fileSizes, x_fileWords, x_safeNames, x_safeSizes, x_safeWords, x_saidInts) → wpX_letGo post (x_changes, x_saidCount, x_time, x_lastSlot, x_sliceSteps, x_latestPid, x_greatestPid, x_code, x_codeLengths, x_pids, x_parents, x_programs, x_places, x_states, x_statuses, x_stepCounts, x_copyCounts, x_wakeTimes, x_registers, x_pageCounts, x_pageFrames, x_held, x_frameUsers, x_frameWords, x_openHolders, x_openKinds, x_openTargets, x_openPlaces, x_openModes, x_pipeFirsts, x_pipeCounts, x_pipeWords, x_nameFiles, x_fileSizes, x_fileWords, x_safeNames, x_safeSizes, x_safeWords, x_saidInts) (nI s) (nI d)) ∧ (∀ post, post (x_changes, y_time, y_last, y_lastPid, y_did, x_greatestPid, x_latestPid, x_saidCount, y_killed, y_ops, y_as, y_bs, x_codeLengths, x_pids, x_parents, x_programs, x_places, x_statuses, x_stepCounts, x_copyCounts, y_pages, y_wake, y_zombie, y_blocked, y_reg, y_memory, y_frame, upd x_held (6 * s + d) (-1), ki', x_openTargets, y_mode, x_openPlaces, x_pipeCounts, y_pipe, x_nameFiles, sz', x_fileWords, x_safeNames, y_safeSize, x_safeWords, y_said) → wpY_close post (x_changes, y_time, y_last, y_lastPid, y_did, x_greatestPid, x_latestPid, x_saidCount, y_killed, y_ops, y_as, y_bs, x_codeLengths, x_pids, x_parents, x_programs, x_places, x_statuses, x_stepCounts, x_copyCounts, y_pages, y_wake, y_zombie, y_blocked, y_reg, y_memory, y_frame, x_held, y_kind, x_openTargets, y_mode, x_openPlaces, x_pipeCounts, y_pipe, x_nameFiles, y_size, x_fileWords, x_safeNames, y_safeSize, x_safeWords, y_said) (nI s) (nI d)) := by
  have hH := hHd s hs hp hz d hd
  have hHd' : uk_Hd x_pids y_zombie (upd x_held (6 * s + d) (-1)) := uk_HdU hHd (Or.inl rfl)
  have hT : ∀ o, o < 12 → y_kind o = 1 → x_held (6 * s + d) = nI o → vp_in (x_openTargets o) 8 := fun o ho k e => by
    rcases (uk_hk hHo hOk hs hp hz hd ho e).2.2 with c | c | c
    · exact c.2.2.2
    · exact absurd (k.symm.trans c.1) (by decide)
    · exact absurd (k.symm.trans c.1) (by decide)
  rcases hH with e | e
  · have eu : upd x_held (6 * s + d) (-1) = x_held := by rw [← e]; exact uk_uself _ _
    refine ⟨x_openHolders, y_kind, y_size, hHd', by rw [eu]; exact hHo, hOk, hFi, by rw [eu]; exact hWk, fun post h => ?_, fun post h => ?_⟩
    · rw [eu] at h
      exact xk_letGo hs hd (Or.inl e) (fun _ => h) (fun o ho z => absurd (z.symm.trans e) (uk_ne1 (by omega)))
    · have hno : ∀ o, o < 12 → ¬ x_held (6 * s + d) = nI o := fun o ho z => absurd (z.symm.trans e) (uk_ne1 (by omega))
      exact yk_close hs hd hP (Or.inl e) hT (fun _ => h) (fun o ho z => absurd z (hno o ho)) (fun o ho z => absurd z (hno o ho)) (fun o _ ho _ z => absurd z (hno o ho)) (fun o _ ho _ z => absurd z (hno o ho))
  · obtain ⟨o, ho, eo⟩ := vp_in_of e (by decide)
    have hu : ∀ o', o' < 12 → x_held (6 * s + d) = nI o' → o' = o := fun o' ho' z => uk_nIn (by omega) (by omega) (z.symm.trans eo)
    have nn : ¬ x_held (6 * s + d) = -1 := fun z => uk_ne1 (n := o) (by omega) (eo.symm.trans z)
    have hX : ∀ post : SX → Prop, post (x_changes, x_saidCount, x_time, x_lastSlot, x_sliceSteps, x_latestPid, x_greatestPid, x_code, x_codeLengths, x_pids, x_parents, x_programs, x_places, x_states, x_statuses, x_stepCounts, x_copyCounts, x_wakeTimes, x_registers, x_pageCounts, x_pageFrames, upd x_held (6 * s + d) (-1), x_frameUsers, x_frameWords, upd x_openHolders o (x_openHolders o - 1), x_openKinds, x_openTargets, x_openPlaces, x_openModes, x_pipeFirsts, x_pipeCounts, x_pipeWords, x_nameFiles, x_fileSizes, x_fileWords, x_safeNames, x_safeSizes, x_safeWords, x_saidInts) → wpX_letGo post (x_changes, x_saidCount, x_time, x_lastSlot, x_sliceSteps, x_latestPid, x_greatestPid, x_code, x_codeLengths, x_pids, x_parents, x_programs, x_places, x_states, x_statuses, x_stepCounts, x_copyCounts, x_wakeTimes, x_registers, x_pageCounts, x_pageFrames, x_held, x_frameUsers, x_frameWords, x_openHolders, x_openKinds, x_openTargets, x_openPlaces, x_openModes, x_pipeFirsts, x_pipeCounts, x_pipeWords, x_nameFiles, x_fileSizes, x_fileWords, x_safeNames, x_safeSizes, x_safeWords, x_saidInts) (nI s) (nI d) := fun post h => xk_letGo hs hd (Or.inr e) (fun z => absurd z nn) (fun o' ho' z => by
      have := hu o' ho' z
      subst this
      exact h)
    have hHo' := uk_cl_Ho hHo hs hp hz hd ho eo
    by_cases hn : uk_sm (uk_hw x_pids y_zombie (upd x_held (6 * s + d) (-1)) o) 8 = 0
    · have hOk' := uk_cl_Ok0 hOk hHo hs hp hz hd ho eo hn
      have hWk' := uk_cl_Wk (zo := y_zombie) (ki' := upd y_kind o 0) hWk hd hzo hs1 (fun o' z => pk_un z) (Or.inl hn)
      by_cases hk : y_kind o = 1
      · obtain ⟨f, hf, ef⟩ := vp_in_of (hT o ho hk eo) (by decide)
        by_cases hfr : uk_fre x_nameFiles (upd y_kind o 0) x_openTargets f
        · refine ⟨_, _, _, hHd', hHo', hOk', uk_cl_Fi3 hFi hf ef hfr, hWk', hX, fun post h => ?_⟩
          exact yk_close hs hd hP (Or.inr e) hT (fun z => absurd z nn) (fun o' ho' z w => by
              have := hu o' ho' z
              subst this
              exact absurd hn w) (fun o' ho' z _ w => by
              have := hu o' ho' z
              subst this
              exact absurd hk w) (fun o' f' ho' hf' z _ _ w _ => by
              have := hu o' ho' z
              subst this
              have := uk_nIn (by omega) (by omega) (w.symm.trans ef)
              subst this
              exact h) (fun o' f' ho' hf' z _ _ w y => by
              have := hu o' ho' z
              subst this
              have := uk_nIn (by omega) (by omega) (w.symm.trans ef)
              subst this
              exact absurd hfr y)
        · refine ⟨_, _, _, hHd', hHo', hOk', uk_cl_Fi2 hFi hf ef hfr ho hk, hWk', hX, fun post h => ?_⟩
          exact yk_close hs hd hP (Or.inr e) hT (fun z => absurd z nn) (fun o' ho' z w => by
              have := hu o' ho' z
              subst this
              exact absurd hn w) (fun o' ho' z _ w => by
              have := hu o' ho' z
              subst this
              exact absurd hk w) (fun o' f' ho' hf' z _ _ w y => by
              have := hu o' ho' z
              subst this
              have := uk_nIn (by omega) (by omega) (w.symm.trans ef)
              subst this
              exact absurd y hfr) (fun o' f' ho' hf' z _ _ w _ => by
              have := hu o' ho' z
              subst this
              exact h)
      · refine ⟨_, _, _, hHd', hHo', hOk', uk_cl_Fi1 hFi hk, hWk', hX, fun post h => ?_⟩
        exact yk_close hs hd hP (Or.inr e) hT (fun z => absurd z nn) (fun o' ho' z w => by
            have := hu o' ho' z
            subst this
            exact absurd hn w) (fun o' ho' z _ _ => by
            have := hu o' ho' z
            subst this
            exact h) (fun o' _ ho' _ z _ w _ _ => by
            have := hu o' ho' z
            subst this
            exact absurd w hk) (fun o' _ ho' _ z _ w _ _ => by
            have := hu o' ho' z
            subst this
            exact absurd w hk)
    · have hOk' := uk_cl_Ok1 hOk hHo hs hp hz hd ho eo hn
      have hWk' := uk_cl_Wk (zo := y_zombie) (ki' := y_kind) (o := o) hWk hd hzo hs1 (fun _ _ => rfl) (Or.inr rfl)
      refine ⟨_, y_kind, y_size, hHd', hHo', hOk', hFi, hWk', hX, fun post h => ?_⟩
      exact yk_close hs hd hP (Or.inr e) hT (fun z => absurd z nn) (fun o' ho' z _ => h) (fun o' ho' z w => by
          have := hu o' ho' z
          subst this
          exact absurd w hn) (fun o' _ ho' _ z w => by
          have := hu o' ho' z
          subst this
          exact absurd w hn) (fun o' _ ho' _ z w => by
          have := hu o' ho' z
          subst this
          exact absurd w hn)
end
end
section
/-! a process ends, on both sides -/
section
variable {x_changes x_saidCount x_time x_lastSlot x_sliceSteps x_latestPid x_greatestPid : Int32} {x_code x_codeLengths x_pids x_parents x_programs x_places x_states x_statuses x_stepCounts x_copyCounts x_wakeTimes x_registers x_pageCounts x_pageFrames x_held x_frameUsers x_frameWords x_openHolders x_openKinds x_openTargets x_openPlaces x_openModes x_pipeFirsts x_pipeCounts x_pipeWords x_nameFiles x_fileSizes x_fileWords x_safeNames x_safeSizes x_safeWords x_saidInts : Nat → Int32} {y_time y_last y_lastPid y_did y_killed : Int32} {y_ops y_as y_bs y_pages y_wake y_zombie y_blocked y_reg y_memory y_frame y_kind y_mode y_pipe y_size y_safeSize y_said : Nat → Int32}
theorem xk_dropPages {post : SX → Prop} {s n : Nat} (hs : s < 8) (hn : x_pageCounts s = nI n) (hn8 : n ≤ 8) (hpf : ∀ p, p < n → vp_in (x_pageFrames (8 * s + p)) 20) (h : post (x_changes, x_saidCount, x_time, x_lastSlot, x_sliceSteps, x_latestPid, x_greatestPid, x_code, x_codeLengths, x_pids, x_parents, x_programs, x_places, x_states, x_statuses, x_stepCounts, x_copyCounts, x_wakeTimes, x_registers, upd x_pageCounts s 0, x_pageFrames, x_held, uk_dec x_frameUsers x_pageFrames (8 * s) n, x_frameWords, x_openHolders, x_openKinds, x_openTargets, x_openPlaces, x_openModes, x_pipeFirsts, x_pipeCounts, x_pipeWords, x_nameFiles, x_fileSizes, x_fileWords, x_safeNames, x_safeSizes, x_safeWords, x_saidInts)) : wpX_dropPages post (x_changes, x_saidCount, x_time, x_lastSlot, x_sliceSteps, x_latestPid, x_greatestPid, x_code, x_codeLengths, x_pids, x_parents, x_programs, x_places, x_states, x_statuses, x_stepCounts, x_copyCounts, x_wakeTimes, x_registers, x_pageCounts, x_pageFrames, x_held, x_frameUsers, x_frameWords, x_openHolders, x_openKinds, x_openTargets, x_openPlaces, x_openModes, x_pipeFirsts, x_pipeCounts, x_pipeWords, x_nameFiles, x_fileSizes, x_fileWords, x_safeNames, x_safeSizes, x_safeWords, x_saidInts) (nI s) := by
  obtain ⟨_, vs, es⟩ := uk_lp 8 hs (by decide)
  unfold wpX_dropPages
  refine uk_run0 (fun m p (fu : Nat → Int32) => wX_dropPages_2 post (nI s) x_changes x_saidCount x_time x_lastSlot x_sliceSteps x_latestPid x_greatestPid m (nI p) x_code x_codeLengths x_pids x_parents x_programs x_places x_states x_statuses x_stepCounts x_copyCounts x_wakeTimes x_registers x_pageCounts x_pageFrames x_held fu x_frameWords x_openHolders x_openKinds x_openTargets x_openPlaces x_openModes x_pipeFirsts x_pipeCounts x_pipeWords x_nameFiles x_fileSizes x_fileWords x_safeNames x_safeSizes x_safeWords x_saidInts) (fun p => uk_dec x_frameUsers x_pageFrames (8 * s) p) n (fun m => ⟨vs, ?_⟩) (fun m p hp ih => ⟨vs, ?_⟩)
  · rw [es, hn]
    exact br_t (uk_refl _) ⟨vs, nm_e h⟩
  · rw [es, hn]
    refine br_f (nI_ge hp (by omega)) ?_
    rw [uk_m8, nI_add, nI_clamp (show 8 * s + p < 2 ^ 31 by omega)]
    exact ⟨vp_in_nI (by omega) (by decide), hpf p hp, hpf p hp, nm_e (nm_r (nI_1 p) ih)⟩
theorem uk_gos {zo1 : Nat → Int32} {t s : Nat} (hs : s < 8) (hp : x_pids s ≠ 0) (hz : y_zombie s = 0) (hP : ∀ s, s < 8 → ¬ x_pids s < 0) (hHd : uk_Hd x_pids y_zombie x_held) (hHo : uk_Ho x_pids y_zombie x_held x_openHolders) (hOk : uk_Ok x_openHolders x_openKinds y_kind x_openTargets x_openModes y_mode x_openPlaces) (hFi : uk_Fi x_nameFiles y_kind x_openTargets x_fileSizes y_size) (hWk : uk_Wk x_pids zo1 y_blocked x_programs x_places x_codeLengths y_ops y_bs x_wakeTimes y_wake x_registers x_held y_kind t) (hzo : ∀ s', s' < 8 → s' ≠ s → zo1 s' = 0 → y_zombie s' = 0) (hs1 : zo1 s = 0 → y_blocked s = 0 ∧ x_wakeTimes s = 0 ∧ y_wake s = -1) : ∀ d, d ≤ 6 →
  ∃ oh' ki' sz', uk_Hd x_pids y_zombie (uk_fl x_held (6 * s) (fun _ => -1) d) ∧ uk_Ho x_pids y_zombie (uk_fl x_held (6 * s) (fun _ => -1) d) oh' ∧ uk_Ok oh' x_openKinds ki' x_openTargets x_openModes y_mode x_openPlaces ∧ uk_Fi x_nameFiles ki' x_openTargets x_fileSizes sz' ∧ uk_Wk x_pids zo1 y_blocked x_programs x_places x_codeLengths y_ops y_bs x_wakeTimes y_wake x_registers (uk_fl x_held (6 * s) (fun _ => -1) d) ki' t ∧
  (∀ (post : SX → Prop) (st q : Int32) (m : Nat), wX_endProcess_10 post (nI s) st q m (nI d) x_changes x_saidCount x_time x_lastSlot x_sliceSteps x_latestPid x_greatestPid x_code x_codeLengths x_pids x_parents x_programs x_places x_states x_statuses x_stepCounts x_copyCounts x_wakeTimes x_registers x_pageCounts x_pageFrames (uk_fl x_held (6 * s) (fun _ => -1) d) x_frameUsers x_frameWords oh' x_openKinds x_openTargets x_openPlaces x_openModes x_pipeFirsts x_pipeCounts x_pipeWords x_nameFiles x_fileSizes x_fileWords x_safeNames x_safeSizes x_safeWords x_saidInts → wX_endProcess_10 post (nI s) st q (m + d) 0 x_changes x_saidCount x_time x_lastSlot x_sliceSteps x_latestPid x_greatestPid x_code x_codeLengths x_pids x_parents x_programs x_places x_states x_statuses x_stepCounts x_copyCounts x_wakeTimes x_registers x_pageCounts x_pageFrames x_held x_frameUsers x_frameWords x_openHolders x_openKinds x_openTargets x_openPlaces x_openModes x_pipeFirsts x_pipeCounts x_pipeWords x_nameFiles x_fileSizes x_fileWords x_safeNames x_safeSizes x_safeWords x_saidInts) ∧
  (∀ (post : SY → Prop) (st q : Int32) (m : Nat), wY_exit_10 post (nI s) st q m (nI d) x_changes y_time y_last y_lastPid y_did x_greatestPid x_latestPid x_saidCount y_killed y_ops y_as y_bs x_codeLengths x_pids x_parents x_programs x_places x_statuses x_stepCounts x_copyCounts y_pages y_wake y_zombie y_blocked y_reg y_memory y_frame (uk_fl x_held (6 * s) (fun _ => -1) d) ki' x_openTargets y_mode x_openPlaces x_pipeCounts y_pipe x_nameFiles sz' x_fileWords x_safeNames y_safeSize x_safeWords y_said → wY_exit_10 post (nI s) st q (m + d) 0 x_changes y_time y_last y_lastPid y_did x_greatestPid x_latestPid x_saidCount y_killed y_ops y_as y_bs x_codeLengths x_pids x_parents x_programs x_places x_statuses x_stepCounts x_copyCounts y_pages y_wake y_zombie y_blocked y_reg y_memory y_frame x_held y_kind x_openTargets y_mode x_openPlaces x_pipeCounts y_pipe x_nameFiles y_size x_fileWords x_safeNames y_safeSize x_safeWords y_said)
  | 0, _ => by
    rw [uk_fl0]
    exact ⟨_, _, _, hHd, hHo, hOk, hFi, hWk, fun _ _ _ _ h => h, fun _ _ _ _ h => h⟩
  | d + 1, hd => by
    obtain ⟨oh, ki, sz, a1, a2, a3, a4, a5, a6, a7⟩ := uk_gos hs hp hz hP hHd hHo hOk hFi hWk hzo hs1 d (by omega)
    obtain ⟨oh2, ki2, sz2, b1, b2, b3, b4, b5, b6, b7⟩ := uk_go1 (d := d) (x_changes := x_changes) (x_saidCount := x_saidCount) (x_time := x_time) (x_lastSlot := x_lastSlot) (x_sliceSteps := x_sliceSteps) (x_latestPid := x_latestPid) (x_greatestPid := x_greatestPid) (x_code := x_code) (x_codeLengths := x_codeLengths) (x_pids := x_pids) (x_parents := x_parents) (x_programs := x_programs) (x_places := x_places) (x_states := x_states) (x_statuses := x_statuses) (x_stepCounts := x_stepCounts) (x_copyCounts := x_copyCounts) (x_wakeTimes := x_wakeTimes) (x_registers := x_registers) (x_pageCounts := x_pageCounts) (x_pageFrames := x_pageFrames) (x_held := uk_fl x_held (6 * s) (fun _ => -1) d) (x_frameUsers := x_frameUsers) (x_frameWords := x_frameWords) (x_openHolders := oh) (x_openKinds := x_openKinds) (x_openTargets := x_openTargets) (x_openPlaces := x_openPlaces) (x_openModes := x_openModes) (x_pipeFirsts := x_pipeFirsts) (x_pipeCounts := x_pipeCounts) (x_pipeWords := x_pipeWords) (x_nameFiles := x_nameFiles) (x_fileSizes := x_fileSizes) (x_fileWords := x_fileWords) (x_safeNames := x_safeNames) (x_safeSizes := x_safeSizes) (x_safeWords := x_safeWords) (x_saidInts := x_saidInts) (y_time := y_time) (y_last := y_last) (y_lastPid := y_lastPid) (y_did := y_did) (y_killed := y_killed) (y_ops := y_ops) (y_as := y_as) (y_bs := y_bs) (y_pages := y_pages) (y_wake := y_wake) (y_zombie := y_zombie) (y_blocked := y_blocked) (y_reg := y_reg) (y_memory := y_memory) (y_frame := y_frame) (y_kind := ki) (y_mode := y_mode) (y_pipe := y_pipe) (y_size := sz) (y_safeSize := y_safeSize) (y_said := y_said) hs (by omega) hp hz hP a1 a2 a3 a4 a5 hzo hs1
    rw [uk_fls (g := fun _ => -1)] at b1 b2 b5 b6 b7
    refine ⟨oh2, ki2, sz2, b1, b2, b3, b4, b5, fun post st q m h => ?_, fun post st q m h => ?_⟩
    · rw [show m + (d + 1) = (m + 1) + d by omega]
      exact a6 post st q (m + 1) (br_f (nI_ge (b := 6) (by omega) (by decide)) (b6 _ (nm_r (nI_1 d) h)))
    · rw [show m + (d + 1) = (m + 1) + d by omega]
      exact a7 post st q (m + 1) (br_f (nI_ge (b := 6) (by omega) (by decide)) (b7 _ (nm_r (nI_1 d) h)))
theorem uk_orph {zo1 : Nat → Int32} {t e : Nat} {q heir : Int32} (he : e < 8) (hz : y_zombie e = 0) (hh : ¬ heir < 0) (hPs : uk_Ps x_pids x_parents x_programs x_places x_statuses x_states y_zombie y_blocked) (hMe : uk_Me x_pids y_zombie x_pageCounts y_pages x_pageFrames y_frame x_frameWords y_memory) (hFu : uk_Fu x_pids y_pages y_frame x_frameUsers) (hHd : uk_Hd x_pids y_zombie x_held) (hHo : uk_Ho x_pids y_zombie x_held x_openHolders) (hWk : uk_Wk x_pids zo1 y_blocked x_programs x_places x_codeLengths y_ops y_bs x_wakeTimes y_wake x_registers x_held y_kind t) (hSc : uk_Sc x_pids x_lastSlot x_sliceSteps y_last y_lastPid y_did) : ∀ c, c ≤ 8 →
  ∃ P' Q', uk_Ps P' Q' x_programs x_places x_statuses x_states y_zombie y_blocked ∧ uk_Me P' y_zombie x_pageCounts y_pages x_pageFrames y_frame x_frameWords y_memory ∧ uk_Fu P' y_pages y_frame x_frameUsers ∧ uk_Hd P' y_zombie x_held ∧ uk_Ho P' y_zombie x_held x_openHolders ∧ uk_Wk P' zo1 y_blocked x_programs x_places x_codeLengths y_ops y_bs x_wakeTimes y_wake x_registers x_held y_kind t ∧ uk_Sc P' x_lastSlot x_sliceSteps y_last y_lastPid y_did ∧ P' e = x_pids e ∧
  (∀ (post : SX → Prop) (st : Int32) (m : Nat), wX_endProcess_86 post (nI e) st q heir x_changes x_saidCount x_time x_lastSlot x_sliceSteps x_latestPid x_greatestPid m (nI c) x_code x_codeLengths P' Q' x_programs x_places x_states x_statuses x_stepCounts x_copyCounts x_wakeTimes x_registers x_pageCounts x_pageFrames x_held x_frameUsers x_frameWords x_openHolders x_openKinds x_openTargets x_openPlaces x_openModes x_pipeFirsts x_pipeCounts x_pipeWords x_nameFiles x_fileSizes x_fileWords x_safeNames x_safeSizes x_safeWords x_saidInts → wX_endProcess_86 post (nI e) st q heir x_changes x_saidCount x_time x_lastSlot x_sliceSteps x_latestPid x_greatestPid (m + c) 0 x_code x_codeLengths x_pids x_parents x_programs x_places x_states x_statuses x_stepCounts x_copyCounts x_wakeTimes x_registers x_pageCounts x_pageFrames x_held x_frameUsers x_frameWords x_openHolders x_openKinds x_openTargets x_openPlaces x_openModes x_pipeFirsts x_pipeCounts x_pipeWords x_nameFiles x_fileSizes x_fileWords x_safeNames x_safeSizes x_safeWords x_saidInts) ∧
  (∀ (post : SY → Prop) (st : Int32) (m : Nat), wY_exit_74 post (nI e) st q heir x_changes y_time y_last y_lastPid y_did x_greatestPid x_latestPid x_saidCount y_killed m (nI c) y_ops y_as y_bs x_codeLengths P' Q' x_programs x_places x_statuses x_stepCounts x_copyCounts y_pages y_wake y_zombie y_blocked y_reg y_memory y_frame x_held y_kind x_openTargets y_mode x_openPlaces x_pipeCounts y_pipe x_nameFiles y_size x_fileWords x_safeNames y_safeSize x_safeWords y_said → wY_exit_74 post (nI e) st q heir x_changes y_time y_last y_lastPid y_did x_greatestPid x_latestPid x_saidCount y_killed (m + c) 0 y_ops y_as y_bs x_codeLengths x_pids x_parents x_programs x_places x_statuses x_stepCounts x_copyCounts y_pages y_wake y_zombie y_blocked y_reg y_memory y_frame x_held y_kind x_openTargets y_mode x_openPlaces x_pipeCounts y_pipe x_nameFiles y_size x_fileWords x_safeNames y_safeSize x_safeWords y_said)
  | 0, _ => ⟨_, _, hPs, hMe, hFu, hHd, hHo, hWk, hSc, rfl, fun _ _ _ h => h, fun _ _ _ h => h⟩
  | c + 1, hc => by
    obtain ⟨P', Q', a1, a2, a3, a4, a5, a6, a7, a8, a9, a10⟩ := uk_orph he hz hh hPs hMe hFu hHd hHo hWk hSc c (by omega)
    obtain ⟨z, v, ev⟩ := uk_lp 8 (show c < 8 by omega) (by decide)
    have eX : ∀ m, m + (c + 1) = (m + 1) + c := fun m => by omega
    by_cases h1 : P' c = 0
    · refine ⟨P', Q', a1, a2, a3, a4, a5, a6, a7, a8, fun post st m h => ?_, fun post st m h => ?_⟩
      · rw [eX]
        refine a9 post st (m + 1) (br_f z ⟨v, ?_⟩)
        rw [ev]
        exact br_t h1 (nm_r (nI_1 c) h)
      · rw [eX]
        refine a10 post st (m + 1) (br_f z ⟨v, ?_⟩)
        rw [ev]
        exact br_t h1 (nm_r (nI_1 c) h)
    by_cases h2 : Q' c = q
    · have b1 : uk_Ps P' (upd Q' c heir) x_programs x_places x_statuses x_states y_zombie y_blocked := fun s hs => by
        obtain ⟨k1, k2, k3⟩ := a1 s hs
        refine ⟨k1, ?_, k3⟩
        by_cases e2 : s = c
        · subst e2; rw [pk_us]; exact hh
        · rw [pk_un e2]; exact k2
      by_cases h3 : heir = 0
      · by_cases h4 : y_zombie c = 0
        · have h5 : ¬ x_states c = 3 := fun w => absurd (((uk_zst a1 (by omega) h1).mp w).symm.trans h4) (by decide)
          refine ⟨P', upd Q' c heir, b1, a2, a3, a4, a5, a6, a7, a8, fun post st m h => ?_, fun post st m h => ?_⟩
          · rw [eX]
            refine a9 post st (m + 1) (br_f z ⟨v, ?_⟩)
            rw [ev]
            exact br_f h1 ⟨v, br_t h2 ⟨v, nm_e (br_t h3 ⟨v, br_f h5 (nm_r (nI_1 c) h)⟩)⟩⟩
          · rw [eX]
            refine a10 post st (m + 1) (br_f z ⟨v, ?_⟩)
            rw [ev]
            exact br_f h1 ⟨v, br_t h2 ⟨v, nm_e (br_t h3 ⟨v, br_t h4 (nm_r (nI_1 c) h)⟩)⟩⟩
        · have h4' : y_zombie c = 1 := (a1 c (by omega)).2.2.2.2.1.resolve_left h4
          have h5 : x_states c = 3 := (uk_zst a1 (by omega) h1).mpr h4'
          have hce : e ≠ c := fun w => by subst w; exact h4 hz
          have hpg : P' c ≠ 0 → y_pages c = 0 := fun w => by
            obtain ⟨n, _, _, k3, k4, _⟩ := a2 c (by omega) w
            rw [k3, k4 h4']; rfl
          refine ⟨upd P' c 0, upd Q' c heir, uk_P0_Ps c b1, uk_P0_Me c a2, uk_P0_Fu c a3 hpg, uk_P0_Hd c a4, uk_P0_Ho c a5 (fun o _ => uk_hw0 (fun w => h4 w.2)), uk_P0_Wk c a6, uk_P0_Sc c a7, (pk_un hce).trans a8, fun post st m h => ?_, fun post st m h => ?_⟩
          · rw [eX]
            refine a9 post st (m + 1) (br_f z ⟨v, ?_⟩)
            rw [ev]
            exact br_f h1 ⟨v, br_t h2 ⟨v, nm_e (br_t h3 ⟨v, br_t h5 ⟨v, nm_e (nm_r (nI_1 c) h)⟩⟩)⟩⟩
          · rw [eX]
            refine a10 post st (m + 1) (br_f z ⟨v, ?_⟩)
            rw [ev]
            exact br_f h1 ⟨v, br_t h2 ⟨v, nm_e (br_t h3 ⟨v, br_f h4 ⟨v, nm_e (nm_r (nI_1 c) h)⟩⟩)⟩⟩
      · refine ⟨P', upd Q' c heir, b1, a2, a3, a4, a5, a6, a7, a8, fun post st m h => ?_, fun post st m h => ?_⟩
        · rw [eX]
          refine a9 post st (m + 1) (br_f z ⟨v, ?_⟩)
          rw [ev]
          exact br_f h1 ⟨v, br_t h2 ⟨v, nm_e (br_f h3 (nm_r (nI_1 c) h))⟩⟩
        · rw [eX]
          refine a10 post st (m + 1) (br_f z ⟨v, ?_⟩)
          rw [ev]
          exact br_f h1 ⟨v, br_t h2 ⟨v, nm_e (br_f h3 (nm_r (nI_1 c) h))⟩⟩
    · refine ⟨P', Q', a1, a2, a3, a4, a5, a6, a7, a8, fun post st m h => ?_, fun post st m h => ?_⟩
      · rw [eX]
        refine a9 post st (m + 1) (br_f z ⟨v, ?_⟩)
        rw [ev]
        exact br_f h1 ⟨v, br_f h2 (nm_r (nI_1 c) h)⟩
      · rw [eX]
        refine a10 post st (m + 1) (br_f z ⟨v, ?_⟩)
        rw [ev]
        exact br_f h1 ⟨v, br_f h2 (nm_r (nI_1 c) h)⟩
end
end
section
/-! a process ends: the whole of it -/
section
variable {x_changes x_saidCount x_time x_lastSlot x_sliceSteps x_latestPid x_greatestPid : Int32} {x_code x_codeLengths x_pids x_parents x_programs x_places x_states x_statuses x_stepCounts x_copyCounts x_wakeTimes x_registers x_pageCounts x_pageFrames x_held x_frameUsers x_frameWords x_openHolders x_openKinds x_openTargets x_openPlaces x_openModes x_pipeFirsts x_pipeCounts x_pipeWords x_nameFiles x_fileSizes x_fileWords x_safeNames x_safeSizes x_safeWords x_saidInts : Nat → Int32} {y_time y_last y_lastPid y_did y_killed : Int32} {y_ops y_as y_bs y_pages y_wake y_zombie y_blocked y_reg y_memory y_frame y_kind y_mode y_pipe y_size y_safeSize y_said : Nat → Int32}
theorem uk_heir {e : Nat} {st : Int32} (he : e < 8) (hPs : uk_Ps x_pids x_parents x_programs x_places x_statuses x_states y_zombie y_blocked) {n : Nat} (hn : x_pageCounts e = nI n) (hn8 : n ≤ 8) (hpf : ∀ p, p < n → vp_in (x_pageFrames (8 * e + p)) 20) : ∃ heir : Int32, (heir = 0 ∨ heir = 1) ∧
  (∀ (post : SX → Prop) (m : Nat), wX_endProcess_86 post (nI e) st (x_pids e) heir x_changes x_saidCount x_time x_lastSlot x_sliceSteps x_latestPid x_greatestPid m 0 x_code x_codeLengths x_pids x_parents x_programs x_places x_states x_statuses x_stepCounts x_copyCounts x_wakeTimes x_registers (upd x_pageCounts e 0) x_pageFrames x_held (uk_dec x_frameUsers x_pageFrames (8 * e) n) x_frameWords x_openHolders x_openKinds x_openTargets x_openPlaces x_openModes x_pipeFirsts x_pipeCounts x_pipeWords x_nameFiles x_fileSizes x_fileWords x_safeNames x_safeSizes x_safeWords x_saidInts → wX_endProcess_10 post (nI e) st (x_pids e) 1 (nI 6) x_changes x_saidCount x_time x_lastSlot x_sliceSteps x_latestPid x_greatestPid x_code x_codeLengths x_pids x_parents x_programs x_places x_states x_statuses x_stepCounts x_copyCounts x_wakeTimes x_registers x_pageCounts x_pageFrames x_held x_frameUsers x_frameWords x_openHolders x_openKinds x_openTargets x_openPlaces x_openModes x_pipeFirsts x_pipeCounts x_pipeWords x_nameFiles x_fileSizes x_fileWords x_safeNames x_safeSizes x_safeWords x_saidInts) ∧
  (∀ (post : SY → Prop) (m : Nat), wY_exit_74 post (nI e) st (x_pids e) heir x_changes y_time y_last y_lastPid y_did x_greatestPid x_latestPid x_saidCount y_killed m 0 y_ops y_as y_bs x_codeLengths x_pids x_parents x_programs x_places x_statuses x_stepCounts x_copyCounts (upd y_pages e 0) y_wake y_zombie y_blocked y_reg y_memory y_frame x_held y_kind x_openTargets y_mode x_openPlaces x_pipeCounts y_pipe x_nameFiles y_size x_fileWords x_safeNames y_safeSize x_safeWords y_said → wY_exit_10 post (nI e) st (x_pids e) 1 (nI 6) x_changes y_time y_last y_lastPid y_did x_greatestPid x_latestPid x_saidCount y_killed y_ops y_as y_bs x_codeLengths x_pids x_parents x_programs x_places x_statuses x_stepCounts x_copyCounts y_pages y_wake y_zombie y_blocked y_reg y_memory y_frame x_held y_kind x_openTargets y_mode x_openPlaces x_pipeCounts y_pipe x_nameFiles y_size x_fileWords x_safeNames y_safeSize x_safeWords y_said) := by
  obtain ⟨_, vs, es⟩ := uk_lp 8 he (by decide)
  have n11 : ¬ (1 : Int32) < 1 := by decide
  have key : ∀ heir : Int32, ((x_pids e = 1 ∧ heir = 0) ∨ (x_pids e ≠ 1 ∧ ((uk_ff (fun s => x_pids s = 1) 8 = -1 ∧ heir = 0) ∨ (∃ i, i < 8 ∧ uk_ff (fun s => x_pids s = 1) 8 = nI i ∧ ((x_states i = 3 ∧ y_zombie i ≠ 0 ∧ heir = 0) ∨ (x_states i ≠ 3 ∧ y_zombie i = 0 ∧ heir = 1)))))) →
    (∀ (post : SX → Prop) (m : Nat), wX_endProcess_86 post (nI e) st (x_pids e) heir x_changes x_saidCount x_time x_lastSlot x_sliceSteps x_latestPid x_greatestPid m 0 x_code x_codeLengths x_pids x_parents x_programs x_places x_states x_statuses x_stepCounts x_copyCounts x_wakeTimes x_registers (upd x_pageCounts e 0) x_pageFrames x_held (uk_dec x_frameUsers x_pageFrames (8 * e) n) x_frameWords x_openHolders x_openKinds x_openTargets x_openPlaces x_openModes x_pipeFirsts x_pipeCounts x_pipeWords x_nameFiles x_fileSizes x_fileWords x_safeNames x_safeSizes x_safeWords x_saidInts → wX_endProcess_10 post (nI e) st (x_pids e) 1 (nI 6) x_changes x_saidCount x_time x_lastSlot x_sliceSteps x_latestPid x_greatestPid x_code x_codeLengths x_pids x_parents x_programs x_places x_states x_statuses x_stepCounts x_copyCounts x_wakeTimes x_registers x_pageCounts x_pageFrames x_held x_frameUsers x_frameWords x_openHolders x_openKinds x_openTargets x_openPlaces x_openModes x_pipeFirsts x_pipeCounts x_pipeWords x_nameFiles x_fileSizes x_fileWords x_safeNames x_safeSizes x_safeWords x_saidInts) ∧
    (∀ (post : SY → Prop) (m : Nat), wY_exit_74 post (nI e) st (x_pids e) heir x_changes y_time y_last y_lastPid y_did x_greatestPid x_latestPid x_saidCount y_killed m 0 y_ops y_as y_bs x_codeLengths x_pids x_parents x_programs x_places x_statuses x_stepCounts x_copyCounts (upd y_pages e 0) y_wake y_zombie y_blocked y_reg y_memory y_frame x_held y_kind x_openTargets y_mode x_openPlaces x_pipeCounts y_pipe x_nameFiles y_size x_fileWords x_safeNames y_safeSize x_safeWords y_said → wY_exit_10 post (nI e) st (x_pids e) 1 (nI 6) x_changes y_time y_last y_lastPid y_did x_greatestPid x_latestPid x_saidCount y_killed y_ops y_as y_bs x_codeLengths x_pids x_parents x_programs x_places x_statuses x_stepCounts x_copyCounts y_pages y_wake y_zombie y_blocked y_reg y_memory y_frame x_held y_kind x_openTargets y_mode x_openPlaces x_pipeCounts y_pipe x_nameFiles y_size x_fileWords x_safeNames y_safeSize x_safeWords y_said) := fun heir hc => by
    constructor
    · intro post m h
      refine br_t (uk_refl 6) (xk_dropPages he hn hn8 hpf (xk_findSlot (fun z => absurd z n11) (fun _ => ?_)))
      rcases hc with ⟨c1, rfl⟩ | ⟨c1, c2⟩
      · exact br_t c1 (br_f (by decide) ⟨m, h⟩)
      · refine br_f c1 ?_
        rcases c2 with ⟨c2, rfl⟩ | ⟨i, hi, c2, c3⟩
        · rw [c2]
          exact br_t rfl (br_f (by decide) ⟨m, h⟩)
        · rw [c2]
          refine br_f (uk_ne1 (by omega)) ⟨vp_in_nI hi (by decide), ?_⟩
          rw [nI_clamp (show i < 2 ^ 31 by omega)]
          rcases c3 with ⟨c3, _, rfl⟩ | ⟨c3, _, rfl⟩
          · exact br_t c3 (br_f (by decide) ⟨m, h⟩)
          · exact br_f c3 (br_t rfl ⟨m, h⟩)
    · intro post m h
      refine br_t (uk_refl 6) ⟨vs, ?_⟩
      rw [es]
      refine nm_e (yk_slotOf (fun z => absurd z n11) (fun _ => ?_))
      rcases hc with ⟨c1, rfl⟩ | ⟨c1, c2⟩
      · exact br_t c1 ⟨m, h⟩
      · refine br_f c1 ?_
        rcases c2 with ⟨c2, rfl⟩ | ⟨i, hi, c2, c3⟩
        · rw [c2]
          exact br_t (by decide) ⟨m, h⟩
        · rw [c2]
          refine br_f (nI_pos (by omega)) ⟨vp_in_nI hi (by decide), ?_⟩
          rw [nI_clamp (show i < 2 ^ 31 by omega)]
          rcases c3 with ⟨_, c3, rfl⟩ | ⟨_, c3, rfl⟩
          · exact br_f c3 ⟨m, h⟩
          · exact br_t c3 ⟨m, h⟩
  by_cases c1 : x_pids e = 1
  · exact ⟨0, Or.inl rfl, key 0 (Or.inl ⟨c1, rfl⟩)⟩
  · rcases uk_slot (P := x_pids) n11 with c2 | ⟨i, hi, c2, c3, c4⟩
    · exact ⟨0, Or.inl rfl, key 0 (Or.inr ⟨c1, Or.inl ⟨c2, rfl⟩⟩)⟩
    · by_cases c5 : y_zombie i = 0
      · exact ⟨1, Or.inr rfl, key 1 (Or.inr ⟨c1, Or.inr ⟨i, hi, c2, Or.inr ⟨fun w => absurd (((uk_zst hPs hi c4).mp w).symm.trans c5) (by decide), c5, rfl⟩⟩⟩)⟩
      · exact ⟨0, Or.inl rfl, key 0 (Or.inr ⟨c1, Or.inr ⟨i, hi, c2, Or.inl ⟨(uk_zst hPs hi c4).mpr ((hPs i hi).2.2.2.2.1.resolve_left c5), c5, rfl⟩⟩⟩)⟩
theorem uk_exit {t e : Nat} (st : Int32) (he : e < 8) (hp : x_pids e ≠ 0) (hz : y_zombie e = 0) (hPs : uk_Ps x_pids x_parents x_programs x_places x_statuses x_states y_zombie y_blocked) (hMe : uk_Me x_pids y_zombie x_pageCounts y_pages x_pageFrames y_frame x_frameWords y_memory) (hFu : uk_Fu x_pids y_pages y_frame x_frameUsers) (hHd : uk_Hd x_pids y_zombie x_held) (hHo : uk_Ho x_pids y_zombie x_held x_openHolders) (hOk : uk_Ok x_openHolders x_openKinds y_kind x_openTargets x_openModes y_mode x_openPlaces) (hFi : uk_Fi x_nameFiles y_kind x_openTargets x_fileSizes y_size) (hSc : uk_Sc x_pids x_lastSlot x_sliceSteps y_last y_lastPid y_did) (hWk : uk_Wk x_pids y_zombie y_blocked x_programs x_places x_codeLengths y_ops y_bs x_wakeTimes y_wake x_registers x_held y_kind t) :
  ∃ P' Q' zo' oh' ki' sz' fu', uk_Ps P' Q' x_programs x_places (upd x_statuses e st) (upd x_states e 3) zo' (upd y_blocked e 0) ∧ uk_Me P' zo' (upd x_pageCounts e 0) (upd y_pages e 0) x_pageFrames y_frame x_frameWords y_memory ∧ uk_Fu P' (upd y_pages e 0) y_frame fu' ∧ uk_Hd P' zo' (uk_fl x_held (6 * e) (fun _ => -1) 6) ∧ uk_Ho P' zo' (uk_fl x_held (6 * e) (fun _ => -1) 6) oh' ∧ uk_Ok oh' x_openKinds ki' x_openTargets x_openModes y_mode x_openPlaces ∧ uk_Fi x_nameFiles ki' x_openTargets x_fileSizes sz' ∧ uk_Sc P' x_lastSlot x_sliceSteps y_last y_lastPid y_did ∧ uk_Wk P' zo' (upd y_blocked e 0) x_programs x_places x_codeLengths y_ops y_bs x_wakeTimes y_wake x_registers (uk_fl x_held (6 * e) (fun _ => -1) 6) ki' t ∧
  (∀ post : SX → Prop, post (x_changes, x_saidCount, x_time, x_lastSlot, x_sliceSteps, x_latestPid, x_greatestPid, x_code, x_codeLengths, P', Q', x_programs, x_places, upd x_states e 3, upd x_statuses e st, x_stepCounts, x_copyCounts, x_wakeTimes, x_registers, upd x_pageCounts e 0, x_pageFrames, uk_fl x_held (6 * e) (fun _ => -1) 6, fu', x_frameWords, oh', x_openKinds, x_openTargets, x_openPlaces, x_openModes, x_pipeFirsts, x_pipeCounts, x_pipeWords, x_nameFiles, x_fileSizes, x_fileWords, x_safeNames, x_safeSizes, x_safeWords, x_saidInts) → wpX_endProcess post (x_changes, x_saidCount, x_time, x_lastSlot, x_sliceSteps, x_latestPid, x_greatestPid, x_code, x_codeLengths, x_pids, x_parents, x_programs, x_places, x_states, x_statuses, x_stepCounts, x_copyCounts, x_wakeTimes, x_registers, x_pageCounts, x_pageFrames, x_held, x_frameUsers, x_frameWords, x_openHolders, x_openKinds, x_openTargets, x_openPlaces, x_openModes, x_pipeFirsts, x_pipeCounts, x_pipeWords, x_nameFiles, x_fileSizes, x_fileWords, x_safeNames, x_safeSizes, x_safeWords, x_saidInts) (nI e) st) ∧
  (∀ post : SY → Prop, post (x_changes, y_time, y_last, y_lastPid, y_did, x_greatestPid, x_latestPid, x_saidCount, y_killed, y_ops, y_as, y_bs, x_codeLengths, P', Q', x_programs, x_places, upd x_statuses e st, x_stepCounts, x_copyCounts, upd y_pages e 0, y_wake, zo', upd y_blocked e 0, y_reg, y_memory, y_frame, uk_fl x_held (6 * e) (fun _ => -1) 6, ki', x_openTargets, y_mode, x_openPlaces, x_pipeCounts, y_pipe, x_nameFiles, sz', x_fileWords, x_safeNames, y_safeSize, x_safeWords, y_said) → wpY_exit post (x_changes, y_time, y_last, y_lastPid, y_did, x_greatestPid, x_latestPid, x_saidCount, y_killed, y_ops, y_as, y_bs, x_codeLengths, x_pids, x_parents, x_programs, x_places, x_statuses, x_stepCounts, x_copyCounts, y_pages, y_wake, y_zombie, y_blocked, y_reg, y_memory, y_frame, x_held, y_kind, x_openTargets, y_mode, x_openPlaces, x_pipeCounts, y_pipe, x_nameFiles, y_size, x_fileWords, x_safeNames, y_safeSize, x_safeWords, y_said) (nI e) st) := by
  obtain ⟨_, vs, es⟩ := uk_lp 8 he (by decide)
  have hP : ∀ s, s < 8 → ¬ x_pids s < 0 := fun s hs => (hPs s hs).1
  obtain ⟨n, hn8, n2, n3, n4, n5⟩ := hMe e he hp
  have hpf : ∀ p, p < n → vp_in (x_pageFrames (8 * e + p)) 20 := fun p hp => by rw [(n5 p hp).2.1]; exact (n5 p hp).1
  have hWk1 : uk_Wk x_pids (upd y_zombie e 1) y_blocked x_programs x_places x_codeLengths y_ops y_bs x_wakeTimes y_wake x_registers x_held y_kind t := uk_WkC (Nat.le_refl t) hWk (fun s' hs' hP' hz' => by
    by_cases w : s' = e
    · subst w; rw [pk_us] at hz'; exact absurd hz' (by decide)
    · rw [pk_un w] at hz'
      exact Or.inr ⟨hP', hz', rfl, rfl, rfl, rfl, rfl, rfl, fun _ _ => rfl, fun _ _ _ _ _ _ => rfl⟩)
  obtain ⟨oh', ki', sz', a1, a2, a3, a4, a5, a6, a7⟩ := uk_gos (x_changes := x_changes) (x_saidCount := x_saidCount) (x_time := x_time) (x_lastSlot := x_lastSlot) (x_sliceSteps := x_sliceSteps) (x_latestPid := x_latestPid) (x_greatestPid := x_greatestPid) (x_code := x_code) (x_codeLengths := x_codeLengths) (x_pids := x_pids) (x_parents := x_parents) (x_programs := x_programs) (x_places := x_places) (x_states := x_states) (x_statuses := x_statuses) (x_stepCounts := x_stepCounts) (x_copyCounts := x_copyCounts) (x_wakeTimes := x_wakeTimes) (x_registers := x_registers) (x_pageCounts := x_pageCounts) (x_pageFrames := x_pageFrames) (x_held := x_held) (x_frameUsers := x_frameUsers) (x_frameWords := x_frameWords) (x_openHolders := x_openHolders) (x_openKinds := x_openKinds) (x_openTargets := x_openTargets) (x_openPlaces := x_openPlaces) (x_openModes := x_openModes) (x_pipeFirsts := x_pipeFirsts) (x_pipeCounts := x_pipeCounts) (x_pipeWords := x_pipeWords) (x_nameFiles := x_nameFiles) (x_fileSizes := x_fileSizes) (x_fileWords := x_fileWords) (x_safeNames := x_safeNames) (x_safeSizes := x_safeSizes) (x_safeWords := x_safeWords) (x_saidInts := x_saidInts) (y_time := y_time) (y_last := y_last) (y_lastPid := y_lastPid) (y_did := y_did) (y_killed := y_killed) (y_ops := y_ops) (y_as := y_as) (y_bs := y_bs) (y_pages := y_pages) (y_wake := y_wake) (y_zombie := y_zombie) (y_blocked := y_blocked) (y_reg := y_reg) (y_memory := y_memory) (y_frame := y_frame) (y_kind := y_kind) (y_mode := y_mode) (y_pipe := y_pipe) (y_size := y_size) (y_safeSize := y_safeSize) (y_said := y_said) (zo1 := upd y_zombie e 1) he hp hz hP hHd hHo hOk hFi hWk1 (fun s' _ w z => by rw [pk_un w] at z; exact z) (fun z => by rw [pk_us] at z; exact absurd z (by decide)) 6 (Nat.le_refl 6)
  have hMe' := uk_drop_Me e hMe
  have hFu' := uk_drop_Fu hMe hFu he hp n3 (by omega)
  obtain ⟨heir, hh, b1, b2⟩ := uk_heir (x_changes := x_changes) (x_saidCount := x_saidCount) (x_time := x_time) (x_lastSlot := x_lastSlot) (x_sliceSteps := x_sliceSteps) (x_latestPid := x_latestPid) (x_greatestPid := x_greatestPid) (x_code := x_code) (x_codeLengths := x_codeLengths) (x_pids := x_pids) (x_parents := x_parents) (x_programs := x_programs) (x_places := x_places) (x_states := x_states) (x_statuses := x_statuses) (x_stepCounts := x_stepCounts) (x_copyCounts := x_copyCounts) (x_wakeTimes := x_wakeTimes) (x_registers := x_registers) (x_pageCounts := x_pageCounts) (x_pageFrames := x_pageFrames) (x_held := uk_fl x_held (6 * e) (fun _ => -1) 6) (x_frameUsers := x_frameUsers) (x_frameWords := x_frameWords) (x_openHolders := oh') (x_openKinds := x_openKinds) (x_openTargets := x_openTargets) (x_openPlaces := x_openPlaces) (x_openModes := x_openModes) (x_pipeFirsts := x_pipeFirsts) (x_pipeCounts := x_pipeCounts) (x_pipeWords := x_pipeWords) (x_nameFiles := x_nameFiles) (x_fileSizes := x_fileSizes) (x_fileWords := x_fileWords) (x_safeNames := x_safeNames) (x_safeSizes := x_safeSizes) (x_safeWords := x_safeWords) (x_saidInts := x_saidInts) (y_time := y_time) (y_last := y_last) (y_lastPid := y_lastPid) (y_did := y_did) (y_killed := y_killed) (y_ops := y_ops) (y_as := y_as) (y_bs := y_bs) (y_pages := y_pages) (y_wake := y_wake) (y_zombie := y_zombie) (y_blocked := y_blocked) (y_reg := y_reg) (y_memory := y_memory) (y_frame := y_frame) (y_kind := ki') (y_mode := y_mode) (y_pipe := y_pipe) (y_size := sz') (y_safeSize := y_safeSize) (y_said := y_said) (st := st) he hPs n2 hn8 hpf
  have hh0 : ¬ heir < 0 := by rcases hh with h | h <;> rw [h] <;> decide
  obtain ⟨P', Q', c1, c2, c3, c4, c5, c6, c7, c8, c9, c10⟩ := uk_orph (x_changes := x_changes) (x_saidCount := x_saidCount) (x_time := x_time) (x_lastSlot := x_lastSlot) (x_sliceSteps := x_sliceSteps) (x_latestPid := x_latestPid) (x_greatestPid := x_greatestPid) (x_code := x_code) (x_codeLengths := x_codeLengths) (x_pids := x_pids) (x_parents := x_parents) (x_programs := x_programs) (x_places := x_places) (x_states := x_states) (x_statuses := x_statuses) (x_stepCounts := x_stepCounts) (x_copyCounts := x_copyCounts) (x_wakeTimes := x_wakeTimes) (x_registers := x_registers) (x_pageCounts := upd x_pageCounts e 0) (x_pageFrames := x_pageFrames) (x_held := uk_fl x_held (6 * e) (fun _ => -1) 6) (x_frameUsers := uk_dec x_frameUsers x_pageFrames (8 * e) n) (x_frameWords := x_frameWords) (x_openHolders := oh') (x_openKinds := x_openKinds) (x_openTargets := x_openTargets) (x_openPlaces := x_openPlaces) (x_openModes := x_openModes) (x_pipeFirsts := x_pipeFirsts) (x_pipeCounts := x_pipeCounts) (x_pipeWords := x_pipeWords) (x_nameFiles := x_nameFiles) (x_fileSizes := x_fileSizes) (x_fileWords := x_fileWords) (x_safeNames := x_safeNames) (x_safeSizes := x_safeSizes) (x_safeWords := x_safeWords) (x_saidInts := x_saidInts) (y_time := y_time) (y_last := y_last) (y_lastPid := y_lastPid) (y_did := y_did) (y_killed := y_killed) (y_ops := y_ops) (y_as := y_as) (y_bs := y_bs) (y_pages := upd y_pages e 0) (y_wake := y_wake) (y_zombie := y_zombie) (y_blocked := y_blocked) (y_reg := y_reg) (y_memory := y_memory) (y_frame := y_frame) (y_kind := ki') (y_mode := y_mode) (y_pipe := y_pipe) (y_size := sz') (y_safeSize := y_safeSize) (y_said := y_said) (q := x_pids e) he hz hh0 hPs hMe' hFu' a1 a2 a5 hSc 8 (Nat.le_refl 8)
  have hH1 : ∀ d, d < 6 → uk_fl x_held (6 * e) (fun _ => -1) 6 (6 * e + d) = -1 := fun d hd => uk_flin hd
  have hpe : P' e ≠ 0 := by rw [c8]; exact hp
  have hq0 := (c1 e he).2.1
  have wX : ∀ post : SX → Prop, wX_endProcess_86 post (nI e) st (x_pids e) heir x_changes x_saidCount x_time x_lastSlot x_sliceSteps x_latestPid x_greatestPid 1 (nI 8) x_code x_codeLengths P' Q' x_programs x_places x_states x_statuses x_stepCounts x_copyCounts x_wakeTimes x_registers (upd x_pageCounts e 0) x_pageFrames (uk_fl x_held (6 * e) (fun _ => -1) 6) (uk_dec x_frameUsers x_pageFrames (8 * e) n) x_frameWords oh' x_openKinds x_openTargets x_openPlaces x_openModes x_pipeFirsts x_pipeCounts x_pipeWords x_nameFiles x_fileSizes x_fileWords x_safeNames x_safeSizes x_safeWords x_saidInts → wpX_endProcess post (x_changes, x_saidCount, x_time, x_lastSlot, x_sliceSteps, x_latestPid, x_greatestPid, x_code, x_codeLengths, x_pids, x_parents, x_programs, x_places, x_states, x_statuses, x_stepCounts, x_copyCounts, x_wakeTimes, x_registers, x_pageCounts, x_pageFrames, x_held, x_frameUsers, x_frameWords, x_openHolders, x_openKinds, x_openTargets, x_openPlaces, x_openModes, x_pipeFirsts, x_pipeCounts, x_pipeWords, x_nameFiles, x_fileSizes, x_fileWords, x_safeNames, x_safeSizes, x_safeWords, x_saidInts) (nI e) st := fun post h => by
    unfold wpX_endProcess
    refine ⟨vs, ?_⟩
    rw [es]
    exact nm_e ⟨1 + 6, a6 post st _ 1 (b1 post _ (c9 post st 1 h))⟩
  have wY : ∀ post : SY → Prop, wY_exit_74 post (nI e) st (x_pids e) heir x_changes y_time y_last y_lastPid y_did x_greatestPid x_latestPid x_saidCount y_killed 1 (nI 8) y_ops y_as y_bs x_codeLengths P' Q' x_programs x_places x_statuses x_stepCounts x_copyCounts (upd y_pages e 0) y_wake y_zombie y_blocked y_reg y_memory y_frame (uk_fl x_held (6 * e) (fun _ => -1) 6) ki' x_openTargets y_mode x_openPlaces x_pipeCounts y_pipe x_nameFiles sz' x_fileWords x_safeNames y_safeSize x_safeWords y_said → wpY_exit post (x_changes, y_time, y_last, y_lastPid, y_did, x_greatestPid, x_latestPid, x_saidCount, y_killed, y_ops, y_as, y_bs, x_codeLengths, x_pids, x_parents, x_programs, x_places, x_statuses, x_stepCounts, x_copyCounts, y_pages, y_wake, y_zombie, y_blocked, y_reg, y_memory, y_frame, x_held, y_kind, x_openTargets, y_mode, x_openPlaces, x_pipeCounts, y_pipe, x_nameFiles, y_size, x_fileWords, x_safeNames, y_safeSize, x_safeWords, y_said) (nI e) st := fun post h => by
    unfold wpY_exit
    refine ⟨vs, ?_⟩
    rw [es]
    exact nm_e ⟨1 + 6, a7 post st _ 1 (b2 post _ (c10 post st 1 h))⟩
  have c6' : ∀ P'', (∀ s, P'' s ≠ 0 → P' s ≠ 0) → ∀ zz : Int32, (P'' e ≠ 0 → zz = 1) → uk_Wk P'' (upd y_zombie e zz) (upd y_blocked e 0) x_programs x_places x_codeLengths y_ops y_bs x_wakeTimes y_wake x_registers (uk_fl x_held (6 * e) (fun _ => -1) 6) ki' t := fun P'' h1 zz h2 => uk_WkC (Nat.le_refl t) c6 (fun s' hs' hP' hz' => by
    by_cases w : s' = e
    · subst w; rw [pk_us, h2 hP'] at hz'; exact absurd hz' (by decide)
    · rw [pk_un w] at hz'
      exact Or.inr ⟨h1 s' hP', by rw [pk_un w]; exact hz', by rw [pk_un w], rfl, rfl, rfl, rfl, rfl, fun _ _ => rfl, fun _ _ _ _ _ _ => rfl⟩)
  by_cases hq : Q' e = 0
  · have k1 : ¬ upd P' e 0 e ≠ 0 := fun w => w pk_us
    refine ⟨upd P' e 0, Q', upd y_zombie e 0, oh', ki', sz', _, uk_end_Ps st 0 (uk_P0_Ps e c1) (Or.inl rfl) (fun w => absurd w k1), uk_end_Me 0 (uk_P0_Me e c2) pk_us, uk_P0_Fu e c3 (fun _ => pk_us), uk_end_Hd 0 (uk_P0_Hd e c4) (fun w => absurd w k1), uk_end_Ho 0 (uk_P0_Ho e c5 (fun o ho => ?_)) hH1, a3, a4, uk_P0_Sc e c7, c6' _ (fun s hs => (uk_P0n hs).2) 0 (fun w => absurd w k1), fun post h => wX post ?_, fun post h => wY post ?_⟩
    · rw [uk_hwn hpe hz]
      exact uk_cn0 6 (fun d hd w => uk_ne1 (n := o) (by omega) (w.symm.trans (hH1 d hd)))
    · refine br_t (uk_refl 8) ⟨vs, ?_⟩
      rw [es]
      exact nm_e ⟨vs, nm_e ⟨vs, br_t hq ⟨vs, nm_e h⟩⟩⟩
    · refine br_t (uk_refl 8) ⟨vs, ?_⟩
      rw [es]
      refine nm_e ⟨vs, br_t ((uk_le0 hq0).mpr hq) ⟨vs, ?_⟩⟩
      rw [es]
      exact nm_e ⟨vs, nm_e ⟨vs, br_t pk_us ⟨vs, nm_e h⟩⟩⟩
  · refine ⟨P', Q', upd y_zombie e 1, oh', ki', sz', _, uk_end_Ps st 1 c1 (Or.inr rfl) (fun _ => rfl), uk_end_Me 1 c2 pk_us, c3, uk_end_Hd 1 c4 (fun _ => rfl), uk_end_Ho 1 c5 hH1, a3, a4, c7, c6' _ (fun s hs => hs) 1 (fun _ => rfl), fun post h => wX post ?_, fun post h => wY post ?_⟩
    · refine br_t (uk_refl 8) ⟨vs, ?_⟩
      rw [es]
      exact nm_e ⟨vs, nm_e ⟨vs, br_f hq h⟩⟩
    · refine br_t (uk_refl 8) ⟨vs, ?_⟩
      rw [es]
      refine nm_e ⟨vs, br_f (fun w => hq ((uk_le0 hq0).mp w)) ⟨vs, ?_⟩⟩
      rw [es]
      exact nm_e ⟨vs, nm_e ⟨vs, br_f (by rw [pk_us]; decide) h⟩⟩
end
end
section
/-! the instructions that change registers and places alone -/
def uk_R (yt : Int32) (t b : Nat) (u : SX) (v : SY) : Prop := ∃ (x_changes x_saidCount x_time x_lastSlot x_sliceSteps x_latestPid x_greatestPid : Int32) (x_code x_codeLengths x_pids x_parents x_programs x_places x_states x_statuses x_stepCounts x_copyCounts x_wakeTimes x_registers x_pageCounts x_pageFrames x_held x_frameUsers x_frameWords x_openHolders x_openKinds x_openTargets x_openPlaces x_openModes x_pipeFirsts x_pipeCounts x_pipeWords x_nameFiles x_fileSizes x_fileWords x_safeNames x_safeSizes x_safeWords x_saidInts : Nat → Int32) (y_time y_last y_lastPid y_did y_killed : Int32) (y_ops y_as y_bs y_pages y_wake y_zombie y_blocked y_memory y_frame y_kind y_mode y_pipe y_size y_safeSize y_said : Nat → Int32), u = (x_changes, x_saidCount, x_time, x_lastSlot, x_sliceSteps, x_latestPid, x_greatestPid, x_code, x_codeLengths, x_pids, x_parents, x_programs, x_places, x_states, x_statuses, x_stepCounts, x_copyCounts, x_wakeTimes, x_registers, x_pageCounts, x_pageFrames, x_held, x_frameUsers, x_frameWords, x_openHolders, x_openKinds, x_openTargets, x_openPlaces, x_openModes, x_pipeFirsts, x_pipeCounts, x_pipeWords, x_nameFiles, x_fileSizes, x_fileWords, x_safeNames, x_safeSizes, x_safeWords, x_saidInts) ∧ v = (x_changes, yt, y_last, y_lastPid, y_did, x_greatestPid, x_latestPid, x_saidCount, y_killed, y_ops, y_as, y_bs, x_codeLengths, x_pids, x_parents, x_programs, x_places, x_statuses, x_stepCounts, x_copyCounts, y_pages, y_wake, y_zombie, y_blocked, x_registers, y_memory, y_frame, x_held, y_kind, x_openTargets, y_mode, x_openPlaces, x_pipeCounts, y_pipe, x_nameFiles, y_size, x_fileWords, x_safeNames, y_safeSize, x_safeWords, y_said) ∧ uk_All t b x_changes x_saidCount x_time x_lastSlot x_sliceSteps x_latestPid x_greatestPid x_code x_codeLengths x_pids x_parents x_programs x_places x_states x_statuses x_stepCounts x_copyCounts x_wakeTimes x_registers x_pageCounts x_pageFrames x_held x_frameUsers x_frameWords x_openHolders x_openKinds x_openTargets x_openPlaces x_openModes x_pipeFirsts x_pipeCounts x_pipeWords x_nameFiles x_fileSizes x_fileWords x_safeNames x_safeSizes x_safeWords x_saidInts y_time y_last y_lastPid y_did y_killed y_ops y_as y_bs y_pages y_wake y_zombie y_blocked y_memory y_frame y_kind y_mode y_pipe y_size y_safeSize y_said
section
variable {x_changes x_saidCount x_time x_lastSlot x_sliceSteps x_latestPid x_greatestPid : Int32} {x_code x_codeLengths x_pids x_parents x_programs x_places x_states x_statuses x_stepCounts x_copyCounts x_wakeTimes x_registers x_pageCounts x_pageFrames x_held x_frameUsers x_frameWords x_openHolders x_openKinds x_openTargets x_openPlaces x_openModes x_pipeFirsts x_pipeCounts x_pipeWords x_nameFiles x_fileSizes x_fileWords x_safeNames x_safeSizes x_safeWords x_saidInts : Nat → Int32} {y_time y_last y_lastPid y_did y_killed : Int32} {y_ops y_as y_bs y_pages y_wake y_zombie y_blocked y_memory y_frame y_kind y_mode y_pipe y_size y_safeSize y_said : Nat → Int32}
theorem uk_Rmk {t b : Nat} (h : uk_All t b x_changes x_saidCount x_time x_lastSlot x_sliceSteps x_latestPid x_greatestPid x_code x_codeLengths x_pids x_parents x_programs x_places x_states x_statuses x_stepCounts x_copyCounts x_wakeTimes x_registers x_pageCounts x_pageFrames x_held x_frameUsers x_frameWords x_openHolders x_openKinds x_openTargets x_openPlaces x_openModes x_pipeFirsts x_pipeCounts x_pipeWords x_nameFiles x_fileSizes x_fileWords x_safeNames x_safeSizes x_safeWords x_saidInts y_time y_last y_lastPid y_did y_killed y_ops y_as y_bs y_pages y_wake y_zombie y_blocked y_memory y_frame y_kind y_mode y_pipe y_size y_safeSize y_said) : uk_R y_time t b (x_changes, x_saidCount, x_time, x_lastSlot, x_sliceSteps, x_latestPid, x_greatestPid, x_code, x_codeLengths, x_pids, x_parents, x_programs, x_places, x_states, x_statuses, x_stepCounts, x_copyCounts, x_wakeTimes, x_registers, x_pageCounts, x_pageFrames, x_held, x_frameUsers, x_frameWords, x_openHolders, x_openKinds, x_openTargets, x_openPlaces, x_openModes, x_pipeFirsts, x_pipeCounts, x_pipeWords, x_nameFiles, x_fileSizes, x_fileWords, x_safeNames, x_safeSizes, x_safeWords, x_saidInts) (x_changes, y_time, y_last, y_lastPid, y_did, x_greatestPid, x_latestPid, x_saidCount, y_killed, y_ops, y_as, y_bs, x_codeLengths, x_pids, x_parents, x_programs, x_places, x_statuses, x_stepCounts, x_copyCounts, y_pages, y_wake, y_zombie, y_blocked, x_registers, y_memory, y_frame, x_held, y_kind, x_openTargets, y_mode, x_openPlaces, x_pipeCounts, y_pipe, x_nameFiles, y_size, x_fileWords, x_safeNames, y_safeSize, x_safeWords, y_said) := ⟨x_changes, x_saidCount, x_time, x_lastSlot, x_sliceSteps, x_latestPid, x_greatestPid, x_code, x_codeLengths, x_pids, x_parents, x_programs, x_places, x_states, x_statuses, x_stepCounts, x_copyCounts, x_wakeTimes, x_registers, x_pageCounts, x_pageFrames, x_held, x_frameUsers, x_frameWords, x_openHolders, x_openKinds, x_openTargets, x_openPlaces, x_openModes, x_pipeFirsts, x_pipeCounts, x_pipeWords, x_nameFiles, x_fileSizes, x_fileWords, x_safeNames, x_safeSizes, x_safeWords, x_saidInts, y_time, y_last, y_lastPid, y_did, y_killed, y_ops, y_as, y_bs, y_pages, y_wake, y_zombie, y_blocked, y_memory, y_frame, y_kind, y_mode, y_pipe, y_size, y_safeSize, y_said, rfl, rfl, h⟩
theorem uk_RmkK {t b : Nat} (kk : Int32) (h : uk_All t b x_changes x_saidCount x_time x_lastSlot x_sliceSteps x_latestPid x_greatestPid x_code x_codeLengths x_pids x_parents x_programs x_places x_states x_statuses x_stepCounts x_copyCounts x_wakeTimes x_registers x_pageCounts x_pageFrames x_held x_frameUsers x_frameWords x_openHolders x_openKinds x_openTargets x_openPlaces x_openModes x_pipeFirsts x_pipeCounts x_pipeWords x_nameFiles x_fileSizes x_fileWords x_safeNames x_safeSizes x_safeWords x_saidInts y_time y_last y_lastPid y_did y_killed y_ops y_as y_bs y_pages y_wake y_zombie y_blocked y_memory y_frame y_kind y_mode y_pipe y_size y_safeSize y_said) : uk_R y_time t b (x_changes, x_saidCount, x_time, x_lastSlot, x_sliceSteps, x_latestPid, x_greatestPid, x_code, x_codeLengths, x_pids, x_parents, x_programs, x_places, x_states, x_statuses, x_stepCounts, x_copyCounts, x_wakeTimes, x_registers, x_pageCounts, x_pageFrames, x_held, x_frameUsers, x_frameWords, x_openHolders, x_openKinds, x_openTargets, x_openPlaces, x_openModes, x_pipeFirsts, x_pipeCounts, x_pipeWords, x_nameFiles, x_fileSizes, x_fileWords, x_safeNames, x_safeSizes, x_safeWords, x_saidInts) (x_changes, y_time, y_last, y_lastPid, y_did, x_greatestPid, x_latestPid, x_saidCount, kk, y_ops, y_as, y_bs, x_codeLengths, x_pids, x_parents, x_programs, x_places, x_statuses, x_stepCounts, x_copyCounts, y_pages, y_wake, y_zombie, y_blocked, x_registers, y_memory, y_frame, x_held, y_kind, x_openTargets, y_mode, x_openPlaces, x_pipeCounts, y_pipe, x_nameFiles, y_size, x_fileWords, x_safeNames, y_safeSize, x_safeWords, y_said) := ⟨x_changes, x_saidCount, x_time, x_lastSlot, x_sliceSteps, x_latestPid, x_greatestPid, x_code, x_codeLengths, x_pids, x_parents, x_programs, x_places, x_states, x_statuses, x_stepCounts, x_copyCounts, x_wakeTimes, x_registers, x_pageCounts, x_pageFrames, x_held, x_frameUsers, x_frameWords, x_openHolders, x_openKinds, x_openTargets, x_openPlaces, x_openModes, x_pipeFirsts, x_pipeCounts, x_pipeWords, x_nameFiles, x_fileSizes, x_fileWords, x_safeNames, x_safeSizes, x_safeWords, x_saidInts, y_time, y_last, y_lastPid, y_did, kk, y_ops, y_as, y_bs, y_pages, y_wake, y_zombie, y_blocked, y_memory, y_frame, y_kind, y_mode, y_pipe, y_size, y_safeSize, y_said, rfl, rfl, h⟩
theorem uk_up1 {t b b' : Nat} (hb : b ≤ b') (A : uk_All t b x_changes x_saidCount x_time x_lastSlot x_sliceSteps x_latestPid x_greatestPid x_code x_codeLengths x_pids x_parents x_programs x_places x_states x_statuses x_stepCounts x_copyCounts x_wakeTimes x_registers x_pageCounts x_pageFrames x_held x_frameUsers x_frameWords x_openHolders x_openKinds x_openTargets x_openPlaces x_openModes x_pipeFirsts x_pipeCounts x_pipeWords x_nameFiles x_fileSizes x_fileWords x_safeNames x_safeSizes x_safeWords x_saidInts y_time y_last y_lastPid y_did y_killed y_ops y_as y_bs y_pages y_wake y_zombie y_blocked y_memory y_frame y_kind y_mode y_pipe y_size y_safeSize y_said) : uk_All t b' x_changes x_saidCount x_time x_lastSlot x_sliceSteps x_latestPid x_greatestPid x_code x_codeLengths x_pids x_parents x_programs x_places x_states x_statuses x_stepCounts x_copyCounts x_wakeTimes x_registers x_pageCounts x_pageFrames x_held x_frameUsers x_frameWords x_openHolders x_openKinds x_openTargets x_openPlaces x_openModes x_pipeFirsts x_pipeCounts x_pipeWords x_nameFiles x_fileSizes x_fileWords x_safeNames x_safeSizes x_safeWords x_saidInts y_time y_last y_lastPid y_did y_killed y_ops y_as y_bs y_pages y_wake y_zombie y_blocked y_memory y_frame y_kind y_mode y_pipe y_size y_safeSize y_said := by
  obtain ⟨g, g1, g2⟩ := uk_aG A
  obtain ⟨n, n1, n2, n3⟩ := uk_aN A
  exact ⟨⟨g, g1, by omega⟩, ⟨n, n1, by omega, n3⟩, uk_aC A, uk_aeT A, uk_aPr A, uk_aPs A, uk_aMe A, uk_aFu A, uk_aHd A, uk_aHo A, uk_aOk A, uk_aPi A, uk_aFi A, uk_aSa A, uk_aSc A, uk_aWk A⟩
theorem uk_run1 {t b s : Nat} (A : uk_All t b x_changes x_saidCount x_time x_lastSlot x_sliceSteps x_latestPid x_greatestPid x_code x_codeLengths x_pids x_parents x_programs x_places x_states x_statuses x_stepCounts x_copyCounts x_wakeTimes x_registers x_pageCounts x_pageFrames x_held x_frameUsers x_frameWords x_openHolders x_openKinds x_openTargets x_openPlaces x_openModes x_pipeFirsts x_pipeCounts x_pipeWords x_nameFiles x_fileSizes x_fileWords x_safeNames x_safeSizes x_safeWords x_saidInts y_time y_last y_lastPid y_did y_killed y_ops y_as y_bs y_pages y_wake y_zombie y_blocked y_memory y_frame y_kind y_mode y_pipe y_size y_safeSize y_said) (hs : s < 8) (hp : x_pids s ≠ 0) (hz : y_zombie s = 0) (hb : y_blocked s = 0) : y_blocked s = 0 ∧ x_wakeTimes s = 0 ∧ y_wake s = -1 := by
  rcases uk_aWk A s hs hp hz with h | h
  · exact h
  · exact absurd (hb.symm.trans h.1) (by decide)
theorem uk_Wk_reg {R' : Nat → Int32} {t b s : Nat} (A : uk_All t b x_changes x_saidCount x_time x_lastSlot x_sliceSteps x_latestPid x_greatestPid x_code x_codeLengths x_pids x_parents x_programs x_places x_states x_statuses x_stepCounts x_copyCounts x_wakeTimes x_registers x_pageCounts x_pageFrames x_held x_frameUsers x_frameWords x_openHolders x_openKinds x_openTargets x_openPlaces x_openModes x_pipeFirsts x_pipeCounts x_pipeWords x_nameFiles x_fileSizes x_fileWords x_safeNames x_safeSizes x_safeWords x_saidInts y_time y_last y_lastPid y_did y_killed y_ops y_as y_bs y_pages y_wake y_zombie y_blocked y_memory y_frame y_kind y_mode y_pipe y_size y_safeSize y_said) (hs : s < 8) (hp : x_pids s ≠ 0) (hz : y_zombie s = 0) (hb : y_blocked s = 0) (hR : ∀ s', s' < 8 → s' ≠ s → R' (4 * s') = x_registers (4 * s')) : uk_Wk x_pids y_zombie y_blocked x_programs x_places x_codeLengths y_ops y_bs x_wakeTimes y_wake R' x_held y_kind t := uk_WkC (Nat.le_refl t) (uk_aWk A) (fun s' hs' hp' hz' => by
  by_cases e : s' = s
  · subst e
    exact Or.inl (uk_run1 A hs hp hz hb)
  · exact Or.inr ⟨hp', hz', rfl, rfl, rfl, rfl, rfl, hR s' hs' e, fun _ _ => rfl, fun _ _ _ _ _ _ => rfl⟩)
theorem uk_All_reg {t b s i : Nat} {x : Int32} (A : uk_All t b x_changes x_saidCount x_time x_lastSlot x_sliceSteps x_latestPid x_greatestPid x_code x_codeLengths x_pids x_parents x_programs x_places x_states x_statuses x_stepCounts x_copyCounts x_wakeTimes x_registers x_pageCounts x_pageFrames x_held x_frameUsers x_frameWords x_openHolders x_openKinds x_openTargets x_openPlaces x_openModes x_pipeFirsts x_pipeCounts x_pipeWords x_nameFiles x_fileSizes x_fileWords x_safeNames x_safeSizes x_safeWords x_saidInts y_time y_last y_lastPid y_did y_killed y_ops y_as y_bs y_pages y_wake y_zombie y_blocked y_memory y_frame y_kind y_mode y_pipe y_size y_safeSize y_said) (hs : s < 8) (hp : x_pids s ≠ 0) (hz : y_zombie s = 0) (hb : y_blocked s = 0) (hi : i < 4) : uk_All t b x_changes x_saidCount x_time x_lastSlot x_sliceSteps x_latestPid x_greatestPid x_code x_codeLengths x_pids x_parents x_programs x_places x_states x_statuses x_stepCounts x_copyCounts x_wakeTimes (upd x_registers (4 * s + i) x) x_pageCounts x_pageFrames x_held x_frameUsers x_frameWords x_openHolders x_openKinds x_openTargets x_openPlaces x_openModes x_pipeFirsts x_pipeCounts x_pipeWords x_nameFiles x_fileSizes x_fileWords x_safeNames x_safeSizes x_safeWords x_saidInts y_time y_last y_lastPid y_did y_killed y_ops y_as y_bs y_pages y_wake y_zombie y_blocked y_memory y_frame y_kind y_mode y_pipe y_size y_safeSize y_said :=
  ⟨uk_aG A, uk_aN A, uk_aC A, uk_aeT A, uk_aPr A, uk_aPs A, uk_aMe A, uk_aFu A, uk_aHd A, uk_aHo A, uk_aOk A, uk_aPi A, uk_aFi A, uk_aSa A, uk_aSc A, uk_Wk_reg A hs hp hz hb (fun s' _ e => pk_un (by omega))⟩
theorem uk_All_pl {t b s l : Nat} (A : uk_All t b x_changes x_saidCount x_time x_lastSlot x_sliceSteps x_latestPid x_greatestPid x_code x_codeLengths x_pids x_parents x_programs x_places x_states x_statuses x_stepCounts x_copyCounts x_wakeTimes x_registers x_pageCounts x_pageFrames x_held x_frameUsers x_frameWords x_openHolders x_openKinds x_openTargets x_openPlaces x_openModes x_pipeFirsts x_pipeCounts x_pipeWords x_nameFiles x_fileSizes x_fileWords x_safeNames x_safeSizes x_safeWords x_saidInts y_time y_last y_lastPid y_did y_killed y_ops y_as y_bs y_pages y_wake y_zombie y_blocked y_memory y_frame y_kind y_mode y_pipe y_size y_safeSize y_said) (hs : s < 8) (hp : x_pids s ≠ 0) (hz : y_zombie s = 0) (hb : y_blocked s = 0) (hl : l < 25) : uk_All t b x_changes x_saidCount x_time x_lastSlot x_sliceSteps x_latestPid x_greatestPid x_code x_codeLengths x_pids x_parents x_programs (upd x_places s (nI l)) x_states x_statuses x_stepCounts x_copyCounts x_wakeTimes x_registers x_pageCounts x_pageFrames x_held x_frameUsers x_frameWords x_openHolders x_openKinds x_openTargets x_openPlaces x_openModes x_pipeFirsts x_pipeCounts x_pipeWords x_nameFiles x_fileSizes x_fileWords x_safeNames x_safeSizes x_safeWords x_saidInts y_time y_last y_lastPid y_did y_killed y_ops y_as y_bs y_pages y_wake y_zombie y_blocked y_memory y_frame y_kind y_mode y_pipe y_size y_safeSize y_said :=
  ⟨uk_aG A, uk_aN A, uk_aC A, uk_aeT A, uk_aPr A, fun s' hs' => by
    obtain ⟨h1, h2, h3, h4, h5⟩ := uk_aPs A s' hs'
    refine ⟨h1, h2, h3, ?_, h5⟩
    by_cases e : s' = s
    · subst e; rw [pk_us]; exact vp_in_nI hl (by decide)
    · rw [pk_un e]; exact h4, uk_aMe A, uk_aFu A, uk_aHd A, uk_aHo A, uk_aOk A, uk_aPi A, uk_aFi A, uk_aSa A, uk_aSc A, uk_WkC (Nat.le_refl t) (uk_aWk A) (fun s' hs' hp' hz' => by
    by_cases e : s' = s
    · subst e
      exact Or.inl (uk_run1 A hs hp hz hb)
    · exact Or.inr ⟨hp', hz', rfl, rfl, pk_un e, rfl, rfl, rfl, fun _ _ => rfl, fun _ _ _ _ _ _ => rfl⟩)⟩
theorem xk_op0 {post : SX → Prop} {s i : Nat} (hs : s < 8) (hi : i < 4) {bb : Int32} (h : post (x_changes, x_saidCount, x_time, x_lastSlot, x_sliceSteps, x_latestPid, x_greatestPid, x_code, x_codeLengths, x_pids, x_parents, x_programs, x_places, x_states, x_statuses, x_stepCounts, x_copyCounts, x_wakeTimes, upd x_registers (4 * s + i) bb, x_pageCounts, x_pageFrames, x_held, x_frameUsers, x_frameWords, x_openHolders, x_openKinds, x_openTargets, x_openPlaces, x_openModes, x_pipeFirsts, x_pipeCounts, x_pipeWords, x_nameFiles, x_fileSizes, x_fileWords, x_safeNames, x_safeSizes, x_safeWords, x_saidInts)) : wpX_compute post (x_changes, x_saidCount, x_time, x_lastSlot, x_sliceSteps, x_latestPid, x_greatestPid, x_code, x_codeLengths, x_pids, x_parents, x_programs, x_places, x_states, x_statuses, x_stepCounts, x_copyCounts, x_wakeTimes, x_registers, x_pageCounts, x_pageFrames, x_held, x_frameUsers, x_frameWords, x_openHolders, x_openKinds, x_openTargets, x_openPlaces, x_openModes, x_pipeFirsts, x_pipeCounts, x_pipeWords, x_nameFiles, x_fileSizes, x_fileWords, x_safeNames, x_safeSizes, x_safeWords, x_saidInts) (nI s) 0 (nI i) bb := by
  unfold wpX_compute
  dsimp only
  rw [uk_m4]
  refine nm_e ?_
  rw [nI_add, nI_clamp (show 4 * s + i < 2 ^ 31 by omega)]
  have vi : vp_in (nI (4 * s + i)) 32 := vp_in_nI (by omega) (by decide)
  exact br_f (by decide) (br_f (by decide) (br_t rfl ⟨vi, nm_e h⟩))
theorem xk_op1 {post : SX → Prop} {s i j : Nat} (hs : s < 8) (hi : i < 4) (hj : j < 4) (h : post (x_changes, x_saidCount, x_time, x_lastSlot, x_sliceSteps, x_latestPid, x_greatestPid, x_code, x_codeLengths, x_pids, x_parents, x_programs, x_places, x_states, x_statuses, x_stepCounts, x_copyCounts, x_wakeTimes, upd x_registers (4 * s + i) (x_registers (4 * s + i) + x_registers (4 * s + j)), x_pageCounts, x_pageFrames, x_held, x_frameUsers, x_frameWords, x_openHolders, x_openKinds, x_openTargets, x_openPlaces, x_openModes, x_pipeFirsts, x_pipeCounts, x_pipeWords, x_nameFiles, x_fileSizes, x_fileWords, x_safeNames, x_safeSizes, x_safeWords, x_saidInts)) : wpX_compute post (x_changes, x_saidCount, x_time, x_lastSlot, x_sliceSteps, x_latestPid, x_greatestPid, x_code, x_codeLengths, x_pids, x_parents, x_programs, x_places, x_states, x_statuses, x_stepCounts, x_copyCounts, x_wakeTimes, x_registers, x_pageCounts, x_pageFrames, x_held, x_frameUsers, x_frameWords, x_openHolders, x_openKinds, x_openTargets, x_openPlaces, x_openModes, x_pipeFirsts, x_pipeCounts, x_pipeWords, x_nameFiles, x_fileSizes, x_fileWords, x_safeNames, x_safeSizes, x_safeWords, x_saidInts) (nI s) 1 (nI i) (nI j) := by
  unfold wpX_compute
  dsimp only
  rw [uk_m4]
  refine nm_e ?_
  rw [nI_add, nI_clamp (show 4 * s + i < 2 ^ 31 by omega)]
  have vi : vp_in (nI (4 * s + i)) 32 := vp_in_nI (by omega) (by decide)
  rw [nI_add, nI_clamp (show 4 * s + j < 2 ^ 31 by omega)]
  have vj : vp_in (nI (4 * s + j)) 32 := vp_in_nI (by omega) (by decide)
  exact br_f (by decide) (br_f (by decide) (br_f (by decide) (br_t rfl ⟨vi, vj, vi, nm_e h⟩)))
theorem xk_op2 {post : SX → Prop} {s i j : Nat} (hs : s < 8) (hi : i < 4) (hj : j < 4) (h : post (x_changes, x_saidCount, x_time, x_lastSlot, x_sliceSteps, x_latestPid, x_greatestPid, x_code, x_codeLengths, x_pids, x_parents, x_programs, x_places, x_states, x_statuses, x_stepCounts, x_copyCounts, x_wakeTimes, upd x_registers (4 * s + i) (x_registers (4 * s + i) - x_registers (4 * s + j)), x_pageCounts, x_pageFrames, x_held, x_frameUsers, x_frameWords, x_openHolders, x_openKinds, x_openTargets, x_openPlaces, x_openModes, x_pipeFirsts, x_pipeCounts, x_pipeWords, x_nameFiles, x_fileSizes, x_fileWords, x_safeNames, x_safeSizes, x_safeWords, x_saidInts)) : wpX_compute post (x_changes, x_saidCount, x_time, x_lastSlot, x_sliceSteps, x_latestPid, x_greatestPid, x_code, x_codeLengths, x_pids, x_parents, x_programs, x_places, x_states, x_statuses, x_stepCounts, x_copyCounts, x_wakeTimes, x_registers, x_pageCounts, x_pageFrames, x_held, x_frameUsers, x_frameWords, x_openHolders, x_openKinds, x_openTargets, x_openPlaces, x_openModes, x_pipeFirsts, x_pipeCounts, x_pipeWords, x_nameFiles, x_fileSizes, x_fileWords, x_safeNames, x_safeSizes, x_safeWords, x_saidInts) (nI s) 2 (nI i) (nI j) := by
  unfold wpX_compute
  dsimp only
  rw [uk_m4]
  refine nm_e ?_
  rw [nI_add, nI_clamp (show 4 * s + i < 2 ^ 31 by omega)]
  have vi : vp_in (nI (4 * s + i)) 32 := vp_in_nI (by omega) (by decide)
  rw [nI_add, nI_clamp (show 4 * s + j < 2 ^ 31 by omega)]
  have vj : vp_in (nI (4 * s + j)) 32 := vp_in_nI (by omega) (by decide)
  exact br_f (by decide) (br_f (by decide) (br_f (by decide) (br_f (by decide) (br_t rfl ⟨vi, vj, vi, nm_e h⟩))))
theorem xk_op3 {post : SX → Prop} {s i j : Nat} (hs : s < 8) (hi : i < 4) (hj : j < 4) (h0 : x_registers (4 * s + j) ≤ x_registers (4 * s + i) → post (x_changes, x_saidCount, x_time, x_lastSlot, x_sliceSteps, x_latestPid, x_greatestPid, x_code, x_codeLengths, x_pids, x_parents, x_programs, x_places, x_states, x_statuses, x_stepCounts, x_copyCounts, x_wakeTimes, upd x_registers (4 * s + i) 0, x_pageCounts, x_pageFrames, x_held, x_frameUsers, x_frameWords, x_openHolders, x_openKinds, x_openTargets, x_openPlaces, x_openModes, x_pipeFirsts, x_pipeCounts, x_pipeWords, x_nameFiles, x_fileSizes, x_fileWords, x_safeNames, x_safeSizes, x_safeWords, x_saidInts)) (h1 : ¬ x_registers (4 * s + j) ≤ x_registers (4 * s + i) → post (x_changes, x_saidCount, x_time, x_lastSlot, x_sliceSteps, x_latestPid, x_greatestPid, x_code, x_codeLengths, x_pids, x_parents, x_programs, x_places, x_states, x_statuses, x_stepCounts, x_copyCounts, x_wakeTimes, upd x_registers (4 * s + i) 1, x_pageCounts, x_pageFrames, x_held, x_frameUsers, x_frameWords, x_openHolders, x_openKinds, x_openTargets, x_openPlaces, x_openModes, x_pipeFirsts, x_pipeCounts, x_pipeWords, x_nameFiles, x_fileSizes, x_fileWords, x_safeNames, x_safeSizes, x_safeWords, x_saidInts)) : wpX_compute post (x_changes, x_saidCount, x_time, x_lastSlot, x_sliceSteps, x_latestPid, x_greatestPid, x_code, x_codeLengths, x_pids, x_parents, x_programs, x_places, x_states, x_statuses, x_stepCounts, x_copyCounts, x_wakeTimes, x_registers, x_pageCounts, x_pageFrames, x_held, x_frameUsers, x_frameWords, x_openHolders, x_openKinds, x_openTargets, x_openPlaces, x_openModes, x_pipeFirsts, x_pipeCounts, x_pipeWords, x_nameFiles, x_fileSizes, x_fileWords, x_safeNames, x_safeSizes, x_safeWords, x_saidInts) (nI s) 3 (nI i) (nI j) := by
  unfold wpX_compute
  dsimp only
  rw [uk_m4]
  refine nm_e ?_
  rw [nI_add, nI_clamp (show 4 * s + i < 2 ^ 31 by omega)]
  have vi : vp_in (nI (4 * s + i)) 32 := vp_in_nI (by omega) (by decide)
  rw [nI_add, nI_clamp (show 4 * s + j < 2 ^ 31 by omega)]
  have vj : vp_in (nI (4 * s + j)) 32 := vp_in_nI (by omega) (by decide)
  exact br_f (by decide) (br_f (by decide) (br_f (by decide) (br_f (by decide) (br_f (by decide) (br_t rfl ⟨vi, vj, fun a => ⟨vi, nm_e (h0 a)⟩, fun a => ⟨vi, nm_e (h1 a)⟩⟩)))))
theorem xk_op6 {post : SX → Prop} {s : Nat} {aa bb : Int32} (hs : s < 8) (h : post (x_changes, x_saidCount, x_time, x_lastSlot, x_sliceSteps, x_latestPid, x_greatestPid, x_code, x_codeLengths, x_pids, x_parents, x_programs, upd x_places s bb, x_states, x_statuses, x_stepCounts, x_copyCounts, x_wakeTimes, x_registers, x_pageCounts, x_pageFrames, x_held, x_frameUsers, x_frameWords, x_openHolders, x_openKinds, x_openTargets, x_openPlaces, x_openModes, x_pipeFirsts, x_pipeCounts, x_pipeWords, x_nameFiles, x_fileSizes, x_fileWords, x_safeNames, x_safeSizes, x_safeWords, x_saidInts)) : wpX_compute post (x_changes, x_saidCount, x_time, x_lastSlot, x_sliceSteps, x_latestPid, x_greatestPid, x_code, x_codeLengths, x_pids, x_parents, x_programs, x_places, x_states, x_statuses, x_stepCounts, x_copyCounts, x_wakeTimes, x_registers, x_pageCounts, x_pageFrames, x_held, x_frameUsers, x_frameWords, x_openHolders, x_openKinds, x_openTargets, x_openPlaces, x_openModes, x_pipeFirsts, x_pipeCounts, x_pipeWords, x_nameFiles, x_fileSizes, x_fileWords, x_safeNames, x_safeSizes, x_safeWords, x_saidInts) (nI s) 6 aa bb := by
  obtain ⟨_, vs, es⟩ := uk_lp 8 hs (by decide)
  unfold wpX_compute
  dsimp only
  rw [es]
  exact nm_e (br_f (by decide) (br_f (by decide) (br_f (by decide) (br_f (by decide) (br_f (by decide) (br_f (by decide) (br_f (by decide) (br_f (by decide) (br_t rfl ⟨vs, nm_e h⟩)))))))))
theorem xk_op7 {post : SX → Prop} {s i : Nat} {bb : Int32} (hs : s < 8) (hi : i < 4) (h1 : x_registers (4 * s + i) = 0 → post (x_changes, x_saidCount, x_time, x_lastSlot, x_sliceSteps, x_latestPid, x_greatestPid, x_code, x_codeLengths, x_pids, x_parents, x_programs, upd x_places s bb, x_states, x_statuses, x_stepCounts, x_copyCounts, x_wakeTimes, x_registers, x_pageCounts, x_pageFrames, x_held, x_frameUsers, x_frameWords, x_openHolders, x_openKinds, x_openTargets, x_openPlaces, x_openModes, x_pipeFirsts, x_pipeCounts, x_pipeWords, x_nameFiles, x_fileSizes, x_fileWords, x_safeNames, x_safeSizes, x_safeWords, x_saidInts)) (h0 : ¬ x_registers (4 * s + i) = 0 → post (x_changes, x_saidCount, x_time, x_lastSlot, x_sliceSteps, x_latestPid, x_greatestPid, x_code, x_codeLengths, x_pids, x_parents, x_programs, x_places, x_states, x_statuses, x_stepCounts, x_copyCounts, x_wakeTimes, x_registers, x_pageCounts, x_pageFrames, x_held, x_frameUsers, x_frameWords, x_openHolders, x_openKinds, x_openTargets, x_openPlaces, x_openModes, x_pipeFirsts, x_pipeCounts, x_pipeWords, x_nameFiles, x_fileSizes, x_fileWords, x_safeNames, x_safeSizes, x_safeWords, x_saidInts)) : wpX_compute post (x_changes, x_saidCount, x_time, x_lastSlot, x_sliceSteps, x_latestPid, x_greatestPid, x_code, x_codeLengths, x_pids, x_parents, x_programs, x_places, x_states, x_statuses, x_stepCounts, x_copyCounts, x_wakeTimes, x_registers, x_pageCounts, x_pageFrames, x_held, x_frameUsers, x_frameWords, x_openHolders, x_openKinds, x_openTargets, x_openPlaces, x_openModes, x_pipeFirsts, x_pipeCounts, x_pipeWords, x_nameFiles, x_fileSizes, x_fileWords, x_safeNames, x_safeSizes, x_safeWords, x_saidInts) (nI s) 7 (nI i) bb := by
  obtain ⟨_, vs, es⟩ := uk_lp 8 hs (by decide)
  unfold wpX_compute
  dsimp only
  rw [es, uk_m4]
  refine nm_e ?_
  rw [nI_add, nI_clamp (show 4 * s + i < 2 ^ 31 by omega)]
  have vi : vp_in (nI (4 * s + i)) 32 := vp_in_nI (by omega) (by decide)
  exact br_f (by decide) (br_f (by decide) (br_f (by decide) (br_f (by decide) (br_f (by decide) (br_f (by decide) (br_f (by decide) (br_f (by decide) (br_f (by decide) (br_t rfl ⟨vi, fun a => ⟨vs, nm_e (h1 a)⟩, h0⟩)))))))))
theorem yk_op0 {post : SY → Prop} {s i : Nat} {L0 : Nat → Int32} {bb : Int32} (hi : i < 4) (hs : s < 8) (hL : upd L0 s (L0 s + 1) = x_places) (h : post (x_changes, y_time, y_last, y_lastPid, y_did, x_greatestPid, x_latestPid, x_saidCount, y_killed, y_ops, y_as, y_bs, x_codeLengths, x_pids, x_parents, x_programs, x_places, x_statuses, x_stepCounts, x_copyCounts, y_pages, y_wake, y_zombie, y_blocked, upd x_registers (4 * s + i) bb, y_memory, y_frame, x_held, y_kind, x_openTargets, y_mode, x_openPlaces, x_pipeCounts, y_pipe, x_nameFiles, y_size, x_fileWords, x_safeNames, y_safeSize, x_safeWords, y_said)) : wpY_plain post (x_changes, y_time, y_last, y_lastPid, y_did, x_greatestPid, x_latestPid, x_saidCount, y_killed, y_ops, y_as, y_bs, x_codeLengths, x_pids, x_parents, x_programs, L0, x_statuses, x_stepCounts, x_copyCounts, y_pages, y_wake, y_zombie, y_blocked, x_registers, y_memory, y_frame, x_held, y_kind, x_openTargets, y_mode, x_openPlaces, x_pipeCounts, y_pipe, x_nameFiles, y_size, x_fileWords, x_safeNames, y_safeSize, x_safeWords, y_said) (nI s) 0 (nI (4 * s + i)) bb := by
  obtain ⟨_, vs, es⟩ := uk_lp 8 hs (by decide)
  unfold wpY_plain
  dsimp only
  refine br_t (by decide) ?_
  unfold wY_plain_24
  unfold wY_plain_25
  rw [es, nI_clamp (show 4 * s + i < 2 ^ 31 by omega)]
  refine ⟨vs, vs, nm_r hL ?_⟩
  have vi : vp_in (nI (4 * s + i)) 32 := vp_in_nI (by omega) (by decide)
  exact br_f (by decide) (br_f (by decide) (br_t rfl ⟨vi, nm_e h⟩))
theorem yk_op1 {post : SY → Prop} {s i j : Nat} {L0 : Nat → Int32} (hi : i < 4) (hj : j < 4) (hs : s < 8) (hL : upd L0 s (L0 s + 1) = x_places) (h : post (x_changes, y_time, y_last, y_lastPid, y_did, x_greatestPid, x_latestPid, x_saidCount, y_killed, y_ops, y_as, y_bs, x_codeLengths, x_pids, x_parents, x_programs, x_places, x_statuses, x_stepCounts, x_copyCounts, y_pages, y_wake, y_zombie, y_blocked, upd x_registers (4 * s + i) (x_registers (4 * s + i) + x_registers (4 * s + j)), y_memory, y_frame, x_held, y_kind, x_openTargets, y_mode, x_openPlaces, x_pipeCounts, y_pipe, x_nameFiles, y_size, x_fileWords, x_safeNames, y_safeSize, x_safeWords, y_said)) : wpY_plain post (x_changes, y_time, y_last, y_lastPid, y_did, x_greatestPid, x_latestPid, x_saidCount, y_killed, y_ops, y_as, y_bs, x_codeLengths, x_pids, x_parents, x_programs, L0, x_statuses, x_stepCounts, x_copyCounts, y_pages, y_wake, y_zombie, y_blocked, x_registers, y_memory, y_frame, x_held, y_kind, x_openTargets, y_mode, x_openPlaces, x_pipeCounts, y_pipe, x_nameFiles, y_size, x_fileWords, x_safeNames, y_safeSize, x_safeWords, y_said) (nI s) 1 (nI (4 * s + i)) (nI j) := by
  obtain ⟨_, vs, es⟩ := uk_lp 8 hs (by decide)
  unfold wpY_plain
  dsimp only
  rw [uk_4m, nI_add, nI_clamp (show 4 * s + j < 2 ^ 31 by omega)]
  refine br_f (by decide) (br_f (by decide) ⟨vp_in_nI (by omega) (by decide), ?_⟩)
  unfold wY_plain_25
  rw [es, nI_clamp (show 4 * s + i < 2 ^ 31 by omega)]
  refine ⟨vs, vs, nm_r hL ?_⟩
  have vi : vp_in (nI (4 * s + i)) 32 := vp_in_nI (by omega) (by decide)
  exact br_f (by decide) (br_f (by decide) (br_f (by decide) (br_t rfl ⟨vi, vi, nm_e h⟩)))
theorem yk_op2 {post : SY → Prop} {s i j : Nat} {L0 : Nat → Int32} (hi : i < 4) (hj : j < 4) (hs : s < 8) (hL : upd L0 s (L0 s + 1) = x_places) (h : post (x_changes, y_time, y_last, y_lastPid, y_did, x_greatestPid, x_latestPid, x_saidCount, y_killed, y_ops, y_as, y_bs, x_codeLengths, x_pids, x_parents, x_programs, x_places, x_statuses, x_stepCounts, x_copyCounts, y_pages, y_wake, y_zombie, y_blocked, upd x_registers (4 * s + i) (x_registers (4 * s + i) - x_registers (4 * s + j)), y_memory, y_frame, x_held, y_kind, x_openTargets, y_mode, x_openPlaces, x_pipeCounts, y_pipe, x_nameFiles, y_size, x_fileWords, x_safeNames, y_safeSize, x_safeWords, y_said)) : wpY_plain post (x_changes, y_time, y_last, y_lastPid, y_did, x_greatestPid, x_latestPid, x_saidCount, y_killed, y_ops, y_as, y_bs, x_codeLengths, x_pids, x_parents, x_programs, L0, x_statuses, x_stepCounts, x_copyCounts, y_pages, y_wake, y_zombie, y_blocked, x_registers, y_memory, y_frame, x_held, y_kind, x_openTargets, y_mode, x_openPlaces, x_pipeCounts, y_pipe, x_nameFiles, y_size, x_fileWords, x_safeNames, y_safeSize, x_safeWords, y_said) (nI s) 2 (nI (4 * s + i)) (nI j) := by
  obtain ⟨_, vs, es⟩ := uk_lp 8 hs (by decide)
  unfold wpY_plain
  dsimp only
  rw [uk_4m, nI_add, nI_clamp (show 4 * s + j < 2 ^ 31 by omega)]
  refine br_f (by decide) (br_f (by decide) ⟨vp_in_nI (by omega) (by decide), ?_⟩)
  unfold wY_plain_25
  rw [es, nI_clamp (show 4 * s + i < 2 ^ 31 by omega)]
  refine ⟨vs, vs, nm_r hL ?_⟩
  have vi : vp_in (nI (4 * s + i)) 32 := vp_in_nI (by omega) (by decide)
  exact br_f (by decide) (br_f (by decide) (br_f (by decide) (br_f (by decide) (br_t rfl ⟨vi, vi, nm_e h⟩))))
theorem yk_op3 {post : SY → Prop} {s i j : Nat} {L0 : Nat → Int32} (hi : i < 4) (hj : j < 4) (hs : s < 8) (hL : upd L0 s (L0 s + 1) = x_places) (h0 : x_registers (4 * s + j) ≤ x_registers (4 * s + i) → post (x_changes, y_time, y_last, y_lastPid, y_did, x_greatestPid, x_latestPid, x_saidCount, y_killed, y_ops, y_as, y_bs, x_codeLengths, x_pids, x_parents, x_programs, x_places, x_statuses, x_stepCounts, x_copyCounts, y_pages, y_wake, y_zombie, y_blocked, upd x_registers (4 * s + i) 0, y_memory, y_frame, x_held, y_kind, x_openTargets, y_mode, x_openPlaces, x_pipeCounts, y_pipe, x_nameFiles, y_size, x_fileWords, x_safeNames, y_safeSize, x_safeWords, y_said)) (h1 : ¬ x_registers (4 * s + j) ≤ x_registers (4 * s + i) → post (x_changes, y_time, y_last, y_lastPid, y_did, x_greatestPid, x_latestPid, x_saidCount, y_killed, y_ops, y_as, y_bs, x_codeLengths, x_pids, x_parents, x_programs, x_places, x_statuses, x_stepCounts, x_copyCounts, y_pages, y_wake, y_zombie, y_blocked, upd x_registers (4 * s + i) 1, y_memory, y_frame, x_held, y_kind, x_openTargets, y_mode, x_openPlaces, x_pipeCounts, y_pipe, x_nameFiles, y_size, x_fileWords, x_safeNames, y_safeSize, x_safeWords, y_said)) : wpY_plain post (x_changes, y_time, y_last, y_lastPid, y_did, x_greatestPid, x_latestPid, x_saidCount, y_killed, y_ops, y_as, y_bs, x_codeLengths, x_pids, x_parents, x_programs, L0, x_statuses, x_stepCounts, x_copyCounts, y_pages, y_wake, y_zombie, y_blocked, x_registers, y_memory, y_frame, x_held, y_kind, x_openTargets, y_mode, x_openPlaces, x_pipeCounts, y_pipe, x_nameFiles, y_size, x_fileWords, x_safeNames, y_safeSize, x_safeWords, y_said) (nI s) 3 (nI (4 * s + i)) (nI j) := by
  obtain ⟨_, vs, es⟩ := uk_lp 8 hs (by decide)
  unfold wpY_plain
  dsimp only
  rw [uk_4m, nI_add, nI_clamp (show 4 * s + j < 2 ^ 31 by omega)]
  refine br_f (by decide) (br_f (by decide) ⟨vp_in_nI (by omega) (by decide), ?_⟩)
  unfold wY_plain_25
  rw [es, nI_clamp (show 4 * s + i < 2 ^ 31 by omega)]
  refine ⟨vs, vs, nm_r hL ?_⟩
  have vi : vp_in (nI (4 * s + i)) 32 := vp_in_nI (by omega) (by decide)
  exact br_f (by decide) (br_f (by decide) (br_f (by decide) (br_f (by decide) (br_f (by decide) (br_t rfl ⟨vi, fun a => ⟨vi, nm_e (h0 a)⟩, fun a => ⟨vi, nm_e (h1 a)⟩⟩)))))
theorem yk_op6 {post : SY → Prop} {s : Nat} {L0 : Nat → Int32} {aa bb : Int32} (hs : s < 8) (hL : upd L0 s (L0 s + 1) = x_places) (h : post (x_changes, y_time, y_last, y_lastPid, y_did, x_greatestPid, x_latestPid, x_saidCount, y_killed, y_ops, y_as, y_bs, x_codeLengths, x_pids, x_parents, x_programs, upd x_places s bb, x_statuses, x_stepCounts, x_copyCounts, y_pages, y_wake, y_zombie, y_blocked, x_registers, y_memory, y_frame, x_held, y_kind, x_openTargets, y_mode, x_openPlaces, x_pipeCounts, y_pipe, x_nameFiles, y_size, x_fileWords, x_safeNames, y_safeSize, x_safeWords, y_said)) : wpY_plain post (x_changes, y_time, y_last, y_lastPid, y_did, x_greatestPid, x_latestPid, x_saidCount, y_killed, y_ops, y_as, y_bs, x_codeLengths, x_pids, x_parents, x_programs, L0, x_statuses, x_stepCounts, x_copyCounts, y_pages, y_wake, y_zombie, y_blocked, x_registers, y_memory, y_frame, x_held, y_kind, x_openTargets, y_mode, x_openPlaces, x_pipeCounts, y_pipe, x_nameFiles, y_size, x_fileWords, x_safeNames, y_safeSize, x_safeWords, y_said) (nI s) 6 aa bb := by
  obtain ⟨_, vs, es⟩ := uk_lp 8 hs (by decide)
  unfold wpY_plain
  dsimp only
  refine br_f (by decide) (br_t (by decide) ?_)
  unfold wY_plain_24
  unfold wY_plain_25
  rw [es]
  refine ⟨vs, vs, nm_r hL ?_⟩
  exact br_f (by decide) (br_f (by decide) (br_f (by decide) (br_f (by decide) (br_f (by decide) (br_f (by decide) (br_f (by decide) (br_f (by decide) (br_t rfl ⟨vs, nm_e h⟩))))))))
theorem yk_op7 {post : SY → Prop} {s i : Nat} {L0 : Nat → Int32} {bb : Int32} (hi : i < 4) (hs : s < 8) (hL : upd L0 s (L0 s + 1) = x_places) (h1 : x_registers (4 * s + i) = 0 → post (x_changes, y_time, y_last, y_lastPid, y_did, x_greatestPid, x_latestPid, x_saidCount, y_killed, y_ops, y_as, y_bs, x_codeLengths, x_pids, x_parents, x_programs, upd x_places s bb, x_statuses, x_stepCounts, x_copyCounts, y_pages, y_wake, y_zombie, y_blocked, x_registers, y_memory, y_frame, x_held, y_kind, x_openTargets, y_mode, x_openPlaces, x_pipeCounts, y_pipe, x_nameFiles, y_size, x_fileWords, x_safeNames, y_safeSize, x_safeWords, y_said)) (h0 : ¬ x_registers (4 * s + i) = 0 → post (x_changes, y_time, y_last, y_lastPid, y_did, x_greatestPid, x_latestPid, x_saidCount, y_killed, y_ops, y_as, y_bs, x_codeLengths, x_pids, x_parents, x_programs, x_places, x_statuses, x_stepCounts, x_copyCounts, y_pages, y_wake, y_zombie, y_blocked, x_registers, y_memory, y_frame, x_held, y_kind, x_openTargets, y_mode, x_openPlaces, x_pipeCounts, y_pipe, x_nameFiles, y_size, x_fileWords, x_safeNames, y_safeSize, x_safeWords, y_said)) : wpY_plain post (x_changes, y_time, y_last, y_lastPid, y_did, x_greatestPid, x_latestPid, x_saidCount, y_killed, y_ops, y_as, y_bs, x_codeLengths, x_pids, x_parents, x_programs, L0, x_statuses, x_stepCounts, x_copyCounts, y_pages, y_wake, y_zombie, y_blocked, x_registers, y_memory, y_frame, x_held, y_kind, x_openTargets, y_mode, x_openPlaces, x_pipeCounts, y_pipe, x_nameFiles, y_size, x_fileWords, x_safeNames, y_safeSize, x_safeWords, y_said) (nI s) 7 (nI (4 * s + i)) bb := by
  obtain ⟨_, vs, es⟩ := uk_lp 8 hs (by decide)
  unfold wpY_plain
  dsimp only
  refine br_f (by decide) (br_t (by decide) ?_)
  unfold wY_plain_24
  unfold wY_plain_25
  rw [es, nI_clamp (show 4 * s + i < 2 ^ 31 by omega)]
  refine ⟨vs, vs, nm_r hL ?_⟩
  have vi : vp_in (nI (4 * s + i)) 32 := vp_in_nI (by omega) (by decide)
  exact br_f (by decide) (br_f (by decide) (br_f (by decide) (br_f (by decide) (br_f (by decide) (br_f (by decide) (br_f (by decide) (br_f (by decide) (br_f (by decide) (br_t rfl ⟨vi, fun a => ⟨vs, nm_e (h1 a)⟩, h0⟩)))))))))
end
end
section
/-! LOAD and STORE -/
section
variable {x_changes x_saidCount x_time x_lastSlot x_sliceSteps x_latestPid x_greatestPid : Int32} {x_code x_codeLengths x_pids x_parents x_programs x_places x_states x_statuses x_stepCounts x_copyCounts x_wakeTimes x_registers x_pageCounts x_pageFrames x_held x_frameUsers x_frameWords x_openHolders x_openKinds x_openTargets x_openPlaces x_openModes x_pipeFirsts x_pipeCounts x_pipeWords x_nameFiles x_fileSizes x_fileWords x_safeNames x_safeSizes x_safeWords x_saidInts : Nat → Int32} {y_time y_last y_lastPid y_did y_killed : Int32} {y_ops y_as y_bs y_pages y_wake y_zombie y_blocked y_memory y_frame y_kind y_mode y_pipe y_size y_safeSize y_said : Nat → Int32}
theorem uk_exitA {t b e : Nat} (st : Int32) (A : uk_All t b x_changes x_saidCount x_time x_lastSlot x_sliceSteps x_latestPid x_greatestPid x_code x_codeLengths x_pids x_parents x_programs x_places x_states x_statuses x_stepCounts x_copyCounts x_wakeTimes x_registers x_pageCounts x_pageFrames x_held x_frameUsers x_frameWords x_openHolders x_openKinds x_openTargets x_openPlaces x_openModes x_pipeFirsts x_pipeCounts x_pipeWords x_nameFiles x_fileSizes x_fileWords x_safeNames x_safeSizes x_safeWords x_saidInts y_time y_last y_lastPid y_did y_killed y_ops y_as y_bs y_pages y_wake y_zombie y_blocked y_memory y_frame y_kind y_mode y_pipe y_size y_safeSize y_said) (he : e < 8) (hp : x_pids e ≠ 0) (hz : y_zombie e = 0) :
  ∃ P' Q' zo' oh' ki' sz' fu', uk_All t b x_changes x_saidCount x_time x_lastSlot x_sliceSteps x_latestPid x_greatestPid x_code x_codeLengths P' Q' x_programs x_places (upd x_states e 3) (upd x_statuses e st) x_stepCounts x_copyCounts x_wakeTimes x_registers (upd x_pageCounts e 0) x_pageFrames (uk_fl x_held (6 * e) (fun _ => -1) 6) fu' x_frameWords oh' x_openKinds x_openTargets x_openPlaces x_openModes x_pipeFirsts x_pipeCounts x_pipeWords x_nameFiles x_fileSizes x_fileWords x_safeNames x_safeSizes x_safeWords x_saidInts y_time y_last y_lastPid y_did y_killed y_ops y_as y_bs (upd y_pages e 0) y_wake zo' (upd y_blocked e 0) y_memory y_frame ki' y_mode y_pipe sz' y_safeSize y_said ∧
  (∀ post : SX → Prop, post (x_changes, x_saidCount, x_time, x_lastSlot, x_sliceSteps, x_latestPid, x_greatestPid, x_code, x_codeLengths, P', Q', x_programs, x_places, upd x_states e 3, upd x_statuses e st, x_stepCounts, x_copyCounts, x_wakeTimes, x_registers, upd x_pageCounts e 0, x_pageFrames, uk_fl x_held (6 * e) (fun _ => -1) 6, fu', x_frameWords, oh', x_openKinds, x_openTargets, x_openPlaces, x_openModes, x_pipeFirsts, x_pipeCounts, x_pipeWords, x_nameFiles, x_fileSizes, x_fileWords, x_safeNames, x_safeSizes, x_safeWords, x_saidInts) → wpX_endProcess post (x_changes, x_saidCount, x_time, x_lastSlot, x_sliceSteps, x_latestPid, x_greatestPid, x_code, x_codeLengths, x_pids, x_parents, x_programs, x_places, x_states, x_statuses, x_stepCounts, x_copyCounts, x_wakeTimes, x_registers, x_pageCounts, x_pageFrames, x_held, x_frameUsers, x_frameWords, x_openHolders, x_openKinds, x_openTargets, x_openPlaces, x_openModes, x_pipeFirsts, x_pipeCounts, x_pipeWords, x_nameFiles, x_fileSizes, x_fileWords, x_safeNames, x_safeSizes, x_safeWords, x_saidInts) (nI e) st) ∧
  (∀ post : SY → Prop, post (x_changes, y_time, y_last, y_lastPid, y_did, x_greatestPid, x_latestPid, x_saidCount, y_killed, y_ops, y_as, y_bs, x_codeLengths, P', Q', x_programs, x_places, upd x_statuses e st, x_stepCounts, x_copyCounts, upd y_pages e 0, y_wake, zo', upd y_blocked e 0, x_registers, y_memory, y_frame, uk_fl x_held (6 * e) (fun _ => -1) 6, ki', x_openTargets, y_mode, x_openPlaces, x_pipeCounts, y_pipe, x_nameFiles, sz', x_fileWords, x_safeNames, y_safeSize, x_safeWords, y_said) → wpY_exit post (x_changes, y_time, y_last, y_lastPid, y_did, x_greatestPid, x_latestPid, x_saidCount, y_killed, y_ops, y_as, y_bs, x_codeLengths, x_pids, x_parents, x_programs, x_places, x_statuses, x_stepCounts, x_copyCounts, y_pages, y_wake, y_zombie, y_blocked, x_registers, y_memory, y_frame, x_held, y_kind, x_openTargets, y_mode, x_openPlaces, x_pipeCounts, y_pipe, x_nameFiles, y_size, x_fileWords, x_safeNames, y_safeSize, x_safeWords, y_said) (nI e) st) := by
  obtain ⟨P', Q', zo', oh', ki', sz', fu', a1, a2, a3, a4, a5, a6, a7, a8, a9, a10, a11⟩ := uk_exit (x_changes := x_changes) (x_saidCount := x_saidCount) (x_time := x_time) (x_lastSlot := x_lastSlot) (x_sliceSteps := x_sliceSteps) (x_latestPid := x_latestPid) (x_greatestPid := x_greatestPid) (x_code := x_code) (x_codeLengths := x_codeLengths) (x_pids := x_pids) (x_parents := x_parents) (x_programs := x_programs) (x_places := x_places) (x_states := x_states) (x_statuses := x_statuses) (x_stepCounts := x_stepCounts) (x_copyCounts := x_copyCounts) (x_wakeTimes := x_wakeTimes) (x_registers := x_registers) (x_pageCounts := x_pageCounts) (x_pageFrames := x_pageFrames) (x_held := x_held) (x_frameUsers := x_frameUsers) (x_frameWords := x_frameWords) (x_openHolders := x_openHolders) (x_openKinds := x_openKinds) (x_openTargets := x_openTargets) (x_openPlaces := x_openPlaces) (x_openModes := x_openModes) (x_pipeFirsts := x_pipeFirsts) (x_pipeCounts := x_pipeCounts) (x_pipeWords := x_pipeWords) (x_nameFiles := x_nameFiles) (x_fileSizes := x_fileSizes) (x_fileWords := x_fileWords) (x_safeNames := x_safeNames) (x_safeSizes := x_safeSizes) (x_safeWords := x_safeWords) (x_saidInts := x_saidInts) (y_time := y_time) (y_last := y_last) (y_lastPid := y_lastPid) (y_did := y_did) (y_killed := y_killed) (y_ops := y_ops) (y_as := y_as) (y_bs := y_bs) (y_pages := y_pages) (y_wake := y_wake) (y_zombie := y_zombie) (y_blocked := y_blocked) (y_memory := y_memory) (y_frame := y_frame) (y_kind := y_kind) (y_mode := y_mode) (y_pipe := y_pipe) (y_size := y_size) (y_safeSize := y_safeSize) (y_said := y_said) (y_reg := x_registers) st he hp hz (uk_aPs A) (uk_aMe A) (uk_aFu A) (uk_aHd A) (uk_aHo A) (uk_aOk A) (uk_aFi A) (uk_aSc A) (uk_aWk A)
  exact ⟨P', Q', zo', oh', ki', sz', fu', ⟨uk_aG A, uk_aN A, uk_aC A, uk_aeT A, uk_aPr A, a1, a2, a3, a4, a5, a6, uk_aPi A, a7, uk_aSa A, a8, a9⟩, a10, a11⟩
theorem uk_load {t b s i j : Nat} {L0 : Nat → Int32} (A : uk_All t b x_changes x_saidCount x_time x_lastSlot x_sliceSteps x_latestPid x_greatestPid x_code x_codeLengths x_pids x_parents x_programs x_places x_states x_statuses x_stepCounts x_copyCounts x_wakeTimes x_registers x_pageCounts x_pageFrames x_held x_frameUsers x_frameWords x_openHolders x_openKinds x_openTargets x_openPlaces x_openModes x_pipeFirsts x_pipeCounts x_pipeWords x_nameFiles x_fileSizes x_fileWords x_safeNames x_safeSizes x_safeWords x_saidInts y_time y_last y_lastPid y_did y_killed y_ops y_as y_bs y_pages y_wake y_zombie y_blocked y_memory y_frame y_kind y_mode y_pipe y_size y_safeSize y_said) (hs : s < 8) (hp : x_pids s ≠ 0) (hz : y_zombie s = 0) (hb : y_blocked s = 0) (hi : i < 4) (hj : j < 4) (hL : upd L0 s (L0 s + 1) = x_places) :
  ∃ u' v', (∀ post : SX → Prop, post u' → wpX_compute post (x_changes, x_saidCount, x_time, x_lastSlot, x_sliceSteps, x_latestPid, x_greatestPid, x_code, x_codeLengths, x_pids, x_parents, x_programs, x_places, x_states, x_statuses, x_stepCounts, x_copyCounts, x_wakeTimes, x_registers, x_pageCounts, x_pageFrames, x_held, x_frameUsers, x_frameWords, x_openHolders, x_openKinds, x_openTargets, x_openPlaces, x_openModes, x_pipeFirsts, x_pipeCounts, x_pipeWords, x_nameFiles, x_fileSizes, x_fileWords, x_safeNames, x_safeSizes, x_safeWords, x_saidInts) (nI s) 4 (nI i) (nI j)) ∧ (∀ post : SY → Prop, post v' → wpY_plain post (x_changes, y_time, y_last, y_lastPid, y_did, x_greatestPid, x_latestPid, x_saidCount, y_killed, y_ops, y_as, y_bs, x_codeLengths, x_pids, x_parents, x_programs, L0, x_statuses, x_stepCounts, x_copyCounts, y_pages, y_wake, y_zombie, y_blocked, x_registers, y_memory, y_frame, x_held, y_kind, x_openTargets, y_mode, x_openPlaces, x_pipeCounts, y_pipe, x_nameFiles, y_size, x_fileWords, x_safeNames, y_safeSize, x_safeWords, y_said) (nI s) 4 (nI (4 * s + i)) (nI j)) ∧ uk_R y_time t b u' v' := by
  obtain ⟨_, vs, es⟩ := uk_lp 8 hs (by decide)
  obtain ⟨n, hn8, n2, n3, n4, n5⟩ := uk_aMe A s hs hp
  have hpf : ∀ p, p < n → vp_in (x_pageFrames (8 * s + p)) 20 := fun p hp => by rw [(n5 p hp).2.1]; exact (n5 p hp).1
  have vi : vp_in (nI (4 * s + i)) 32 := vp_in_nI (by omega) (by decide)
  have vj : vp_in (nI (4 * s + j)) 32 := vp_in_nI (by omega) (by decide)
  have hX : ∀ post : SX → Prop, wpX_loadWord post (x_changes, x_saidCount, x_time, x_lastSlot, x_sliceSteps, x_latestPid, x_greatestPid, x_code, x_codeLengths, x_pids, x_parents, x_programs, x_places, x_states, x_statuses, x_stepCounts, x_copyCounts, x_wakeTimes, x_registers, x_pageCounts, x_pageFrames, x_held, x_frameUsers, x_frameWords, x_openHolders, x_openKinds, x_openTargets, x_openPlaces, x_openModes, x_pipeFirsts, x_pipeCounts, x_pipeWords, x_nameFiles, x_fileSizes, x_fileWords, x_safeNames, x_safeSizes, x_safeWords, x_saidInts) (nI s) (nI (4 * s + i)) (x_registers (4 * s + j)) → wpX_compute post (x_changes, x_saidCount, x_time, x_lastSlot, x_sliceSteps, x_latestPid, x_greatestPid, x_code, x_codeLengths, x_pids, x_parents, x_programs, x_places, x_states, x_statuses, x_stepCounts, x_copyCounts, x_wakeTimes, x_registers, x_pageCounts, x_pageFrames, x_held, x_frameUsers, x_frameWords, x_openHolders, x_openKinds, x_openTargets, x_openPlaces, x_openModes, x_pipeFirsts, x_pipeCounts, x_pipeWords, x_nameFiles, x_fileSizes, x_fileWords, x_safeNames, x_safeSizes, x_safeWords, x_saidInts) (nI s) 4 (nI i) (nI j) := fun post h => by
    unfold wpX_compute
    dsimp only
    rw [uk_m4]
    refine nm_e ?_
    rw [nI_add, nI_add, nI_clamp (show 4 * s + j < 2 ^ 31 by omega)]
    exact br_f (by decide) (br_f (by decide) (br_f (by decide) (br_f (by decide) (br_f (by decide) (br_f (by decide) (br_t rfl ⟨vj, h⟩))))))
  have hY : ∀ post : SY → Prop, wY_plain_179 post (nI s) 4 (nI (4 * s + i)) (x_registers (4 * s + j)) x_changes y_time y_last y_lastPid y_did x_greatestPid x_latestPid x_saidCount y_killed y_ops y_as y_bs x_codeLengths x_pids x_parents x_programs x_places x_statuses x_stepCounts x_copyCounts y_pages y_wake y_zombie y_blocked x_registers y_memory y_frame x_held y_kind x_openTargets y_mode x_openPlaces x_pipeCounts y_pipe x_nameFiles y_size x_fileWords x_safeNames y_safeSize x_safeWords y_said → wpY_plain post (x_changes, y_time, y_last, y_lastPid, y_did, x_greatestPid, x_latestPid, x_saidCount, y_killed, y_ops, y_as, y_bs, x_codeLengths, x_pids, x_parents, x_programs, L0, x_statuses, x_stepCounts, x_copyCounts, y_pages, y_wake, y_zombie, y_blocked, x_registers, y_memory, y_frame, x_held, y_kind, x_openTargets, y_mode, x_openPlaces, x_pipeCounts, y_pipe, x_nameFiles, y_size, x_fileWords, x_safeNames, y_safeSize, x_safeWords, y_said) (nI s) 4 (nI (4 * s + i)) (nI j) := fun post h => by
    unfold wpY_plain
    dsimp only
    rw [uk_4m, nI_add, nI_clamp (show 4 * s + j < 2 ^ 31 by omega)]
    refine br_f (by decide) (br_f (by decide) ⟨vj, ?_⟩)
    unfold wY_plain_25
    rw [es]
    exact ⟨vs, vs, nm_r hL (br_f (by decide) (br_f (by decide) (br_f (by decide) (br_f (by decide) (br_f (by decide) (br_f (by decide) (br_t rfl h)))))))⟩
  by_cases hv : vp_in (x_registers (4 * s + j)) (4 * n)
  · obtain ⟨a, ha, ea⟩ := vp_in_of hv (by omega)
    obtain ⟨f1, f2, f3⟩ := n5 (a / 4) (by omega)
    have hfl := uk_inc f1
    refine ⟨(x_changes, x_saidCount, x_time, x_lastSlot, x_sliceSteps, x_latestPid, x_greatestPid, x_code, x_codeLengths, x_pids, x_parents, x_programs, x_places, x_states, x_statuses, x_stepCounts, x_copyCounts, x_wakeTimes, upd x_registers (4 * s + i) (y_memory (32 * s + a)), x_pageCounts, x_pageFrames, x_held, x_frameUsers, x_frameWords, x_openHolders, x_openKinds, x_openTargets, x_openPlaces, x_openModes, x_pipeFirsts, x_pipeCounts, x_pipeWords, x_nameFiles, x_fileSizes, x_fileWords, x_safeNames, x_safeSizes, x_safeWords, x_saidInts), (x_changes, y_time, y_last, y_lastPid, y_did, x_greatestPid, x_latestPid, x_saidCount, y_killed, y_ops, y_as, y_bs, x_codeLengths, x_pids, x_parents, x_programs, x_places, x_statuses, x_stepCounts, x_copyCounts, y_pages, y_wake, y_zombie, y_blocked, upd x_registers (4 * s + i) (y_memory (32 * s + a)), y_memory, y_frame, x_held, y_kind, x_openTargets, y_mode, x_openPlaces, x_pipeCounts, y_pipe, x_nameFiles, y_size, x_fileWords, x_safeNames, y_safeSize, x_safeWords, y_said), fun post h => hX post ?_, fun post h => hY post ?_, uk_Rmk (uk_All_reg A hs hp hz hb hi)⟩
    · unfold wpX_loadWord
      refine xk_wordIndex hs n2 hn8 hpf (fun z => absurd hv z) (fun k hk ek => ?_)
      have : k = a := uk_nIn (by omega) (by omega) (ek.symm.trans ea)
      subst this
      rw [f2]
      refine br_f (uk_ne1 (by omega)) ⟨vp_in_nI (by omega) (by decide), vi, ?_⟩
      rw [nI_clamp (show 4 * s + i < 2 ^ 31 by omega), nI_clamp (show 4 * (y_frame (8 * s + k / 4)).toNatClampNeg + k % 4 < 2 ^ 31 by omega), f3 (k % 4) (by omega), show 32 * s + 4 * (k / 4) + k % 4 = 32 * s + k by omega]
      exact nm_e h
    · unfold wY_plain_179
      refine ⟨vs, ?_⟩
      rw [es, n3, uk_4m, ea]
      refine yk_nom (4 * n) rfl (by omega) (fun _ => br_t rfl (br_t rfl ?_)) (fun z => absurd (vp_in_nI ha (by omega)) z)
      rw [uk_32m, nI_add, nI_clamp (show 4 * s + i < 2 ^ 31 by omega), nI_clamp (show 32 * s + a < 2 ^ 31 by omega)]
      exact ⟨vp_in_nI (by omega) (by decide), vi, nm_e h⟩
  · obtain ⟨P', Q', zo', oh', ki', sz', fu', A', x1, y1⟩ := uk_exitA (-1) A hs hp hz
    refine ⟨_, _, fun post h => hX post ?_, fun post h => hY post ?_, uk_RmkK 1 A'⟩
    · unfold wpX_loadWord
      exact xk_wordIndex hs n2 hn8 hpf (fun z => br_t rfl (x1 _ h)) (fun k hk ek => absurd (by rw [ek]; exact vp_in_nI hk (by omega)) hv)
    · unfold wY_plain_179
      refine ⟨vs, ?_⟩
      rw [es, n3, uk_4m]
      refine yk_nom (4 * n) rfl (by omega) (fun z => absurd z hv) (fun z => br_f (by decide) ?_)
      unfold wpY_kill
      exact y1 _ h
theorem xk_ownPage {post : Int32 → SX → Prop} {s p f0 : Nat} (hs : s < 8) (hp8 : p < 8) (hf0 : f0 < 20) (ef : x_pageFrames (8 * s + p) = nI f0) (h1 : x_frameUsers f0 = 1 → post 1 (x_changes, x_saidCount, x_time, x_lastSlot, x_sliceSteps, x_latestPid, x_greatestPid, x_code, x_codeLengths, x_pids, x_parents, x_programs, x_places, x_states, x_statuses, x_stepCounts, x_copyCounts, x_wakeTimes, x_registers, x_pageCounts, x_pageFrames, x_held, x_frameUsers, x_frameWords, x_openHolders, x_openKinds, x_openTargets, x_openPlaces, x_openModes, x_pipeFirsts, x_pipeCounts, x_pipeWords, x_nameFiles, x_fileSizes, x_fileWords, x_safeNames, x_safeSizes, x_safeWords, x_saidInts)) (h0 : x_frameUsers f0 ≠ 1 → uk_ff (fun f => x_frameUsers f = 0) 20 = -1 → post 0 (x_changes, x_saidCount, x_time, x_lastSlot, x_sliceSteps, x_latestPid, x_greatestPid, x_code, x_codeLengths, x_pids, x_parents, x_programs, x_places, x_states, x_statuses, x_stepCounts, x_copyCounts, x_wakeTimes, x_registers, x_pageCounts, x_pageFrames, x_held, x_frameUsers, x_frameWords, x_openHolders, x_openKinds, x_openTargets, x_openPlaces, x_openModes, x_pipeFirsts, x_pipeCounts, x_pipeWords, x_nameFiles, x_fileSizes, x_fileWords, x_safeNames, x_safeSizes, x_safeWords, x_saidInts)) (h2 : x_frameUsers f0 ≠ 1 → ∀ f, f < 20 → f ≠ f0 → uk_ff (fun f => x_frameUsers f = 0) 20 = nI f → post 1 (x_changes, x_saidCount, x_time, x_lastSlot, x_sliceSteps, x_latestPid, x_greatestPid, x_code, x_codeLengths, x_pids, x_parents, x_programs, x_places, x_states, x_statuses, x_stepCounts, upd x_copyCounts s (x_copyCounts s + 1), x_wakeTimes, x_registers, x_pageCounts, upd x_pageFrames (8 * s + p) (nI f), x_held, upd (upd x_frameUsers f0 (x_frameUsers f0 - 1)) f 1, uk_fl x_frameWords (4 * f) (fun k => x_frameWords (4 * f0 + k)) 4, x_openHolders, x_openKinds, x_openTargets, x_openPlaces, x_openModes, x_pipeFirsts, x_pipeCounts, x_pipeWords, x_nameFiles, x_fileSizes, x_fileWords, x_safeNames, x_safeSizes, x_safeWords, x_saidInts)) (hz0 : x_frameUsers f0 ≠ 0) : wpX_ownPage post (x_changes, x_saidCount, x_time, x_lastSlot, x_sliceSteps, x_latestPid, x_greatestPid, x_code, x_codeLengths, x_pids, x_parents, x_programs, x_places, x_states, x_statuses, x_stepCounts, x_copyCounts, x_wakeTimes, x_registers, x_pageCounts, x_pageFrames, x_held, x_frameUsers, x_frameWords, x_openHolders, x_openKinds, x_openTargets, x_openPlaces, x_openModes, x_pipeFirsts, x_pipeCounts, x_pipeWords, x_nameFiles, x_fileSizes, x_fileWords, x_safeNames, x_safeSizes, x_safeWords, x_saidInts) (nI s) (nI p) := by
  obtain ⟨_, vs, es⟩ := uk_lp 8 hs (by decide)
  have v64 : vp_in (nI (8 * s + p)) 64 := vp_in_nI (by omega) (by decide)
  have v0 : vp_in (nI f0) 20 := vp_in_nI hf0 (by decide)
  unfold wpX_ownPage
  dsimp only
  rw [uk_m8, nI_add]
  refine nm_e ⟨v64, ?_⟩
  rw [nI_clamp (show 8 * s + p < 2 ^ 31 by omega), ef]
  refine nm_e ⟨v0, ?_⟩
  rw [nI_clamp (show f0 < 2 ^ 31 by omega)]
  refine ⟨h1, fun hn => xk_freeFrame ?_⟩
  rcases uk_ffs (fun f => x_frameUsers f = 0) 20 with ⟨e, _⟩ | ⟨f, hf, e, e0, _⟩
  · rw [e]
    exact br_t rfl (h0 hn e)
  · have hff : f ≠ f0 := fun z => by subst z; exact hz0 e0
    have k2 := h2 hn f hf hff e
    rw [e]
    have vf : vp_in (nI f) 20 := vp_in_nI hf (by decide)
    refine br_f (uk_ne1 (by omega)) ?_
    have key := uk_run0 (fun m k (fw : Nat → Int32) => wX_ownPage_45 post (nI s) (nI (8 * s + p)) (nI f0) (nI f) x_changes x_saidCount x_time x_lastSlot x_sliceSteps x_latestPid x_greatestPid m (nI k) x_code x_codeLengths x_pids x_parents x_programs x_places x_states x_statuses x_stepCounts x_copyCounts x_wakeTimes x_registers x_pageCounts x_pageFrames x_held x_frameUsers fw x_openHolders x_openKinds x_openTargets x_openPlaces x_openModes x_pipeFirsts x_pipeCounts x_pipeWords x_nameFiles x_fileSizes x_fileWords x_safeNames x_safeSizes x_safeWords x_saidInts) (fun k => uk_fl x_frameWords (4 * f) (fun k => x_frameWords (4 * f0 + k)) k) 4 (fun m => by
      refine br_t (uk_refl 4) ⟨v0, v0, ?_⟩
      rw [es, nI_clamp (show f0 < 2 ^ 31 by omega), nI_clamp (show f < 2 ^ 31 by omega), nI_clamp (show 8 * s + p < 2 ^ 31 by omega)]
      exact nm_e ⟨vf, nm_e ⟨v64, nm_e ⟨vs, vs, nm_e k2⟩⟩⟩) (fun m k hk ih => by
      refine br_f (nI_ge (b := 4) hk (by decide)) ?_
      rw [uk_m4, uk_m4, nI_add, nI_add, nI_clamp (show 4 * f0 + k < 2 ^ 31 by omega), nI_clamp (show 4 * f + k < 2 ^ 31 by omega), uk_flout (show 4 * f0 + k < 4 * f ∨ 4 * f + k ≤ 4 * f0 + k by omega)]
      refine ⟨vp_in_nI (by omega) (by decide), vp_in_nI (by omega) (by decide), nm_r (uk_fls (g := fun k => x_frameWords (4 * f0 + k))) (nm_r (nI_1 k) ih)⟩)
    rw [uk_fl0] at key
    exact key
theorem uk_store {t b s i j : Nat} {L0 : Nat → Int32} (A : uk_All t b x_changes x_saidCount x_time x_lastSlot x_sliceSteps x_latestPid x_greatestPid x_code x_codeLengths x_pids x_parents x_programs x_places x_states x_statuses x_stepCounts x_copyCounts x_wakeTimes x_registers x_pageCounts x_pageFrames x_held x_frameUsers x_frameWords x_openHolders x_openKinds x_openTargets x_openPlaces x_openModes x_pipeFirsts x_pipeCounts x_pipeWords x_nameFiles x_fileSizes x_fileWords x_safeNames x_safeSizes x_safeWords x_saidInts y_time y_last y_lastPid y_did y_killed y_ops y_as y_bs y_pages y_wake y_zombie y_blocked y_memory y_frame y_kind y_mode y_pipe y_size y_safeSize y_said) (hs : s < 8) (hp : x_pids s ≠ 0) (hz : y_zombie s = 0) (hi : i < 4) (hj : j < 4) (hL : upd L0 s (L0 s + 1) = x_places) :
  ∃ u' v', (∀ post : SX → Prop, post u' → wpX_compute post (x_changes, x_saidCount, x_time, x_lastSlot, x_sliceSteps, x_latestPid, x_greatestPid, x_code, x_codeLengths, x_pids, x_parents, x_programs, x_places, x_states, x_statuses, x_stepCounts, x_copyCounts, x_wakeTimes, x_registers, x_pageCounts, x_pageFrames, x_held, x_frameUsers, x_frameWords, x_openHolders, x_openKinds, x_openTargets, x_openPlaces, x_openModes, x_pipeFirsts, x_pipeCounts, x_pipeWords, x_nameFiles, x_fileSizes, x_fileWords, x_safeNames, x_safeSizes, x_safeWords, x_saidInts) (nI s) 5 (nI i) (nI j)) ∧ (∀ post : SY → Prop, post v' → wpY_plain post (x_changes, y_time, y_last, y_lastPid, y_did, x_greatestPid, x_latestPid, x_saidCount, y_killed, y_ops, y_as, y_bs, x_codeLengths, x_pids, x_parents, x_programs, L0, x_statuses, x_stepCounts, x_copyCounts, y_pages, y_wake, y_zombie, y_blocked, x_registers, y_memory, y_frame, x_held, y_kind, x_openTargets, y_mode, x_openPlaces, x_pipeCounts, y_pipe, x_nameFiles, y_size, x_fileWords, x_safeNames, y_safeSize, x_safeWords, y_said) (nI s) 5 (nI (4 * s + i)) (nI j)) ∧ uk_R y_time t b u' v' := by
  obtain ⟨_, vs, es⟩ := uk_lp 8 hs (by decide)
  have hMe := uk_aMe A
  have hFu := uk_aFu A
  have hP : ∀ s, s < 8 → ¬ x_pids s < 0 := fun s hs => (uk_aPs A s hs).1
  have hN : ∀ s, s < 8 → x_pids s ≠ 0 → ∃ n, n ≤ 8 ∧ y_pages s = nI n := fun s hs hp => by
    obtain ⟨n, h1, _, h3, _⟩ := hMe s hs hp
    exact ⟨n, h1, h3⟩
  obtain ⟨n, hn8, n2, n3, n4, n5⟩ := hMe s hs hp
  have hpf : ∀ p, p < n → vp_in (x_pageFrames (8 * s + p)) 20 := fun p hp => by rw [(n5 p hp).2.1]; exact (n5 p hp).1
  have vi : vp_in (nI (4 * s + i)) 32 := vp_in_nI (by omega) (by decide)
  have vj : vp_in (nI (4 * s + j)) 32 := vp_in_nI (by omega) (by decide)
  have hX : ∀ post : SX → Prop, wpX_storeWord post (x_changes, x_saidCount, x_time, x_lastSlot, x_sliceSteps, x_latestPid, x_greatestPid, x_code, x_codeLengths, x_pids, x_parents, x_programs, x_places, x_states, x_statuses, x_stepCounts, x_copyCounts, x_wakeTimes, x_registers, x_pageCounts, x_pageFrames, x_held, x_frameUsers, x_frameWords, x_openHolders, x_openKinds, x_openTargets, x_openPlaces, x_openModes, x_pipeFirsts, x_pipeCounts, x_pipeWords, x_nameFiles, x_fileSizes, x_fileWords, x_safeNames, x_safeSizes, x_safeWords, x_saidInts) (nI s) (x_registers (4 * s + i)) (x_registers (4 * s + j)) → wpX_compute post (x_changes, x_saidCount, x_time, x_lastSlot, x_sliceSteps, x_latestPid, x_greatestPid, x_code, x_codeLengths, x_pids, x_parents, x_programs, x_places, x_states, x_statuses, x_stepCounts, x_copyCounts, x_wakeTimes, x_registers, x_pageCounts, x_pageFrames, x_held, x_frameUsers, x_frameWords, x_openHolders, x_openKinds, x_openTargets, x_openPlaces, x_openModes, x_pipeFirsts, x_pipeCounts, x_pipeWords, x_nameFiles, x_fileSizes, x_fileWords, x_safeNames, x_safeSizes, x_safeWords, x_saidInts) (nI s) 5 (nI i) (nI j) := fun post h => by
    unfold wpX_compute
    dsimp only
    rw [uk_m4]
    refine nm_e ?_
    rw [nI_add, nI_add, nI_clamp (show 4 * s + j < 2 ^ 31 by omega), nI_clamp (show 4 * s + i < 2 ^ 31 by omega)]
    exact br_f (by decide) (br_f (by decide) (br_f (by decide) (br_f (by decide) (br_f (by decide) (br_f (by decide) (br_f (by decide) (br_t rfl ⟨vi, vj, h⟩)))))))
  have hY : ∀ post : SY → Prop, wY_plain_179 post (nI s) 5 (nI (4 * s + i)) (x_registers (4 * s + j)) x_changes y_time y_last y_lastPid y_did x_greatestPid x_latestPid x_saidCount y_killed y_ops y_as y_bs x_codeLengths x_pids x_parents x_programs x_places x_statuses x_stepCounts x_copyCounts y_pages y_wake y_zombie y_blocked x_registers y_memory y_frame x_held y_kind x_openTargets y_mode x_openPlaces x_pipeCounts y_pipe x_nameFiles y_size x_fileWords x_safeNames y_safeSize x_safeWords y_said → wpY_plain post (x_changes, y_time, y_last, y_lastPid, y_did, x_greatestPid, x_latestPid, x_saidCount, y_killed, y_ops, y_as, y_bs, x_codeLengths, x_pids, x_parents, x_programs, L0, x_statuses, x_stepCounts, x_copyCounts, y_pages, y_wake, y_zombie, y_blocked, x_registers, y_memory, y_frame, x_held, y_kind, x_openTargets, y_mode, x_openPlaces, x_pipeCounts, y_pipe, x_nameFiles, y_size, x_fileWords, x_safeNames, y_safeSize, x_safeWords, y_said) (nI s) 5 (nI (4 * s + i)) (nI j) := fun post h => by
    unfold wpY_plain
    dsimp only
    rw [uk_4m, nI_add, nI_clamp (show 4 * s + j < 2 ^ 31 by omega)]
    refine br_f (by decide) (br_f (by decide) ⟨vj, ?_⟩)
    unfold wY_plain_25
    rw [es]
    exact ⟨vs, vs, nm_r hL (br_f (by decide) (br_f (by decide) (br_f (by decide) (br_f (by decide) (br_f (by decide) (br_f (by decide) (br_f (by decide) (br_t rfl h))))))))⟩
  by_cases hv : vp_in (x_registers (4 * s + j)) (4 * n)
  · obtain ⟨a, ha, ea⟩ := vp_in_of hv (by omega)
    obtain ⟨f1, f2, f3⟩ := n5 (a / 4) (by omega)
    obtain ⟨f0, hf0, ef⟩ := vp_in_of f1 (by decide)
    have epf : x_pageFrames (8 * s + a / 4) = nI f0 := f2.trans ef
    have hsum := hFu f0 hf0
    have hle := uk_rsle hMe f0
    have hge : 0 < uk_sm (uk_rw x_pids y_pages y_frame f0) 8 := by
      have h1 := uk_smle (g := uk_rw x_pids y_pages y_frame f0) 8 hs
      rw [uk_rwn hp n3 (by omega)] at h1
      have h2 := uk_cnp (P := fun p => y_frame (8 * s + p) = nI f0) ef n (show a / 4 < n by omega)
      omega
    have hn0 : x_frameUsers f0 ≠ 0 := fun z => by
      have := (uk_fun hMe hFu hf0).1.mp z
      omega
    have e4 : nI a / 4 = nI (a / 4) := pk_div (d := 4) (by omega) (by decide) (by decide)
    have ea4 : 32 * s + 4 * (a / 4) + a % 4 = 32 * s + a := by omega
    have hY2 : ∀ post : SY → Prop, wpY_store post (x_changes, y_time, y_last, y_lastPid, y_did, x_greatestPid, x_latestPid, x_saidCount, y_killed, y_ops, y_as, y_bs, x_codeLengths, x_pids, x_parents, x_programs, x_places, x_statuses, x_stepCounts, x_copyCounts, y_pages, y_wake, y_zombie, y_blocked, x_registers, y_memory, y_frame, x_held, y_kind, x_openTargets, y_mode, x_openPlaces, x_pipeCounts, y_pipe, x_nameFiles, y_size, x_fileWords, x_safeNames, y_safeSize, x_safeWords, y_said) (nI s) (nI a) (x_registers (4 * s + i)) → wY_plain_179 post (nI s) 5 (nI (4 * s + i)) (x_registers (4 * s + j)) x_changes y_time y_last y_lastPid y_did x_greatestPid x_latestPid x_saidCount y_killed y_ops y_as y_bs x_codeLengths x_pids x_parents x_programs x_places x_statuses x_stepCounts x_copyCounts y_pages y_wake y_zombie y_blocked x_registers y_memory y_frame x_held y_kind x_openTargets y_mode x_openPlaces x_pipeCounts y_pipe x_nameFiles y_size x_fileWords x_safeNames y_safeSize x_safeWords y_said := fun post h => by
      unfold wY_plain_179
      refine ⟨vs, ?_⟩
      rw [es, n3, uk_4m, ea]
      refine yk_nom (4 * n) rfl (by omega) (fun _ => br_t rfl (br_f (by decide) ⟨vi, ?_⟩)) (fun z => absurd (vp_in_nI ha (by omega)) z)
      rw [nI_clamp (show 4 * s + i < 2 ^ 31 by omega)]
      exact h
    have v64 : vp_in (nI (8 * s + a / 4)) 64 := vp_in_nI (by omega) (by decide)
    have v256 : vp_in (nI (32 * s + a)) 256 := vp_in_nI (by omega) (by decide)
    have hff : uk_ff (fun f => uk_sm (uk_rw x_pids y_pages y_frame f) 8 = 0) 20 = uk_ff (fun f => x_frameUsers f = 0) 20 := uk_ffc 20 (fun f hf => (uk_fun hMe hFu hf).1.symm)
    by_cases h1 : x_frameUsers f0 = 1
    · have hs1 := (uk_fun hMe hFu hf0).2.mp h1
      have hM' := uk_wr_Me (x_registers (4 * s + i)) hMe hs hp n3 hn8 (show a / 4 < n by omega) ef hf0 hs1 (show a % 4 < 4 by omega)
      rw [ea4] at hM'
      have A1 : uk_All t b x_changes x_saidCount x_time x_lastSlot x_sliceSteps x_latestPid x_greatestPid x_code x_codeLengths x_pids x_parents x_programs x_places x_states x_statuses x_stepCounts x_copyCounts x_wakeTimes x_registers x_pageCounts x_pageFrames x_held x_frameUsers (upd x_frameWords (4 * f0 + a % 4) (x_registers (4 * s + i))) x_openHolders x_openKinds x_openTargets x_openPlaces x_openModes x_pipeFirsts x_pipeCounts x_pipeWords x_nameFiles x_fileSizes x_fileWords x_safeNames x_safeSizes x_safeWords x_saidInts y_time y_last y_lastPid y_did y_killed y_ops y_as y_bs y_pages y_wake y_zombie y_blocked (upd y_memory (32 * s + a) (x_registers (4 * s + i))) y_frame y_kind y_mode y_pipe y_size y_safeSize y_said := ⟨uk_aG A, uk_aN A, uk_aC A, uk_aeT A, uk_aPr A, uk_aPs A, hM', uk_aFu A, uk_aHd A, uk_aHo A, uk_aOk A, uk_aPi A, uk_aFi A, uk_aSa A, uk_aSc A, uk_aWk A⟩
      refine ⟨_, _, fun post h => hX post ?_, fun post h => hY post (hY2 post ?_), uk_Rmk A1⟩
      · unfold wpX_storeWord
        refine xk_wordIndex hs n2 hn8 hpf (fun z => absurd hv z) (fun k hk ek => br_f (uk_ne1 ?_) ⟨by decide, ?_⟩)
        · have := uk_inc (hpf (k / 4) (by omega)); omega
        · rw [ea, e4]
          refine xk_ownPage hs (by omega) hf0 epf (fun _ => br_f (by decide) ?_) (fun z => absurd h1 z) (fun z => absurd h1 z) hn0
          refine xk_wordIndex hs n2 hn8 hpf (fun z => absurd (vp_in_nI ha (by omega)) z) (fun k2 hk2 ek2 => ?_)
          have : k2 = a := (uk_nIn (by omega) (by omega) ek2).symm
          subst this
          rw [epf, nI_clamp (show f0 < 2 ^ 31 by omega)]
          refine ⟨vp_in_nI (by omega) (by decide), ?_⟩
          rw [nI_clamp (show 4 * f0 + k2 % 4 < 2 ^ 31 by omega)]
          exact nm_e h
      · unfold wpY_store
        dsimp only
        rw [e4, uk_8m, nI_add]
        refine ⟨by decide, nm_e ⟨v64, ?_⟩⟩
        rw [nI_clamp (show 8 * s + a / 4 < 2 ^ 31 by omega), ef]
        refine yk_sharers hP hN (br_t (by rw [hs1]; decide) ?_)
        unfold wY_store_61
        rw [uk_32m, nI_add, nI_clamp (show 32 * s + a < 2 ^ 31 by omega)]
        exact ⟨v256, nm_e h⟩
    · have hs2 : ¬ nI (uk_sm (uk_rw x_pids y_pages y_frame f0) 8) ≤ 1 := fun z => by
        have z1 := (nI_leI (b := 1) (by omega) (by decide)).mp z
        exact h1 ((uk_fun hMe hFu hf0).2.mpr (by omega))
      have yS : ∀ post : SY → Prop, (wpY_freeFrame (fun r => ((0 ≤ r → (vp_in (nI (8 * s + a / 4)) 64 ∧ ∀ fr', fr' = upd y_frame (8 * s + a / 4) r → (vp_in (nI s) 8 ∧ (vp_in (nI s) 8 ∧ ∀ cp, cp = upd x_copyCounts s (x_copyCounts s + 1) → wY_store_61 post (nI s) (nI a) (x_registers (4 * s + i)) x_changes y_time y_last y_lastPid y_did x_greatestPid x_latestPid x_saidCount y_killed y_ops y_as y_bs x_codeLengths x_pids x_parents x_programs x_places x_statuses x_stepCounts cp y_pages y_wake y_zombie y_blocked x_registers y_memory fr' x_held y_kind x_openTargets y_mode x_openPlaces x_pipeCounts y_pipe x_nameFiles y_size x_fileWords x_safeNames y_safeSize x_safeWords y_said)))) ∧ (¬ 0 ≤ r → wpY_kill post (x_changes, y_time, y_last, y_lastPid, y_did, x_greatestPid, x_latestPid, x_saidCount, y_killed, y_ops, y_as, y_bs, x_codeLengths, x_pids, x_parents, x_programs, x_places, x_statuses, x_stepCounts, x_copyCounts, y_pages, y_wake, y_zombie, y_blocked, x_registers, y_memory, y_frame, x_held, y_kind, x_openTargets, y_mode, x_openPlaces, x_pipeCounts, y_pipe, x_nameFiles, y_size, x_fileWords, x_safeNames, y_safeSize, x_safeWords, y_said) (nI s)))) (x_changes, y_time, y_last, y_lastPid, y_did, x_greatestPid, x_latestPid, x_saidCount, y_killed, y_ops, y_as, y_bs, x_codeLengths, x_pids, x_parents, x_programs, x_places, x_statuses, x_stepCounts, x_copyCounts, y_pages, y_wake, y_zombie, y_blocked, x_registers, y_memory, y_frame, x_held, y_kind, x_openTargets, y_mode, x_openPlaces, x_pipeCounts, y_pipe, x_nameFiles, y_size, x_fileWords, x_safeNames, y_safeSize, x_safeWords, y_said)) → wpY_store post (x_changes, y_time, y_last, y_lastPid, y_did, x_greatestPid, x_latestPid, x_saidCount, y_killed, y_ops, y_as, y_bs, x_codeLengths, x_pids, x_parents, x_programs, x_places, x_statuses, x_stepCounts, x_copyCounts, y_pages, y_wake, y_zombie, y_blocked, x_registers, y_memory, y_frame, x_held, y_kind, x_openTargets, y_mode, x_openPlaces, x_pipeCounts, y_pipe, x_nameFiles, y_size, x_fileWords, x_safeNames, y_safeSize, x_safeWords, y_said) (nI s) (nI a) (x_registers (4 * s + i)) := fun post h => by
        unfold wpY_store
        dsimp only
        rw [e4, uk_8m, nI_add]
        refine ⟨by decide, nm_e ⟨v64, ?_⟩⟩
        rw [nI_clamp (show 8 * s + a / 4 < 2 ^ 31 by omega), ef, es]
        exact yk_sharers hP hN (br_f hs2 h)
      rcases uk_ffs (fun f => x_frameUsers f = 0) 20 with ⟨e, _⟩ | ⟨f, hf, e, e0, _⟩
      · obtain ⟨P', Q', zo', oh', ki', sz', fu', A', x1, y1⟩ := uk_exitA (-1) A hs hp hz
        refine ⟨_, _, fun post h => hX post ?_, fun post h => hY post (hY2 post (yS post ?_)), uk_RmkK 1 A'⟩
        · unfold wpX_storeWord
          refine xk_wordIndex hs n2 hn8 hpf (fun z => absurd hv z) (fun k hk ek => br_f (uk_ne1 ?_) ⟨by decide, ?_⟩)
          · have := uk_inc (hpf (k / 4) (by omega)); omega
          · rw [ea, e4]
            refine xk_ownPage hs (by omega) hf0 epf (fun z => absurd z h1) (fun _ _ => br_t rfl ?_) (fun _ f hf _ ee => absurd (ee.symm.trans e) (uk_ne1 (by omega))) hn0
            unfold wX_storeWord_21
            exact x1 _ h
        · refine yk_freeFrame hP hN ?_
          rw [hff, e]
          refine br_f (by decide) ?_
          unfold wpY_kill
          exact y1 _ h
      · have hs0 := (uk_fun hMe hFu hf).1.mp e0
        have hM1 := uk_ow_Me hMe hs n3 (by omega) (show a / 4 < n by omega) ef hf0 hf hs0
        have hF1 := uk_ow_Fu hMe hFu hs hp n3 hn8 (show a / 4 < n by omega) ef hf0 hf hs0
        have hs1 : uk_sm (uk_rw x_pids y_pages (upd y_frame (8 * s + a / 4) (nI f)) f) 8 = 1 := by
          have := (uk_fun hM1 hF1 hf).2
          exact this.mp pk_us
        have hM' := uk_wr_Me (x_registers (4 * s + i)) hM1 hs hp n3 hn8 (show a / 4 < n by omega) pk_us hf hs1 (show a % 4 < 4 by omega)
        rw [ea4] at hM'
        have A1 : uk_All t b x_changes x_saidCount x_time x_lastSlot x_sliceSteps x_latestPid x_greatestPid x_code x_codeLengths x_pids x_parents x_programs x_places x_states x_statuses x_stepCounts (upd x_copyCounts s (x_copyCounts s + 1)) x_wakeTimes x_registers x_pageCounts (upd x_pageFrames (8 * s + a / 4) (nI f)) x_held (upd (upd x_frameUsers f0 (x_frameUsers f0 - 1)) f 1) (upd (uk_fl x_frameWords (4 * f) (fun k => x_frameWords (4 * f0 + k)) 4) (4 * f + a % 4) (x_registers (4 * s + i))) x_openHolders x_openKinds x_openTargets x_openPlaces x_openModes x_pipeFirsts x_pipeCounts x_pipeWords x_nameFiles x_fileSizes x_fileWords x_safeNames x_safeSizes x_safeWords x_saidInts y_time y_last y_lastPid y_did y_killed y_ops y_as y_bs y_pages y_wake y_zombie y_blocked (upd y_memory (32 * s + a) (x_registers (4 * s + i))) (upd y_frame (8 * s + a / 4) (nI f)) y_kind y_mode y_pipe y_size y_safeSize y_said := ⟨uk_aG A, uk_aN A, uk_aC A, uk_aeT A, uk_aPr A, uk_aPs A, hM', hF1, uk_aHd A, uk_aHo A, uk_aOk A, uk_aPi A, uk_aFi A, uk_aSa A, uk_aSc A, uk_aWk A⟩
        refine ⟨_, _, fun post h => hX post ?_, fun post h => hY post (hY2 post (yS post ?_)), uk_Rmk A1⟩
        · unfold wpX_storeWord
          refine xk_wordIndex hs n2 hn8 hpf (fun z => absurd hv z) (fun k hk ek => br_f (uk_ne1 ?_) ⟨by decide, ?_⟩)
          · have := uk_inc (hpf (k / 4) (by omega)); omega
          · rw [ea, e4]
            refine xk_ownPage hs (by omega) hf0 epf (fun z => absurd z h1) (fun _ ee => absurd (e.symm.trans ee) (uk_ne1 (by omega))) (fun _ f' hf' _ ee => ?_) hn0
            have : f' = f := uk_nIn (by omega) (by omega) (ee.symm.trans e)
            subst this
            refine br_f (by decide) (xk_wordIndex hs n2 hn8 (fun p hp => ?_) (fun z => absurd (vp_in_nI ha (by omega)) z) (fun k2 hk2 ek2 => ?_))
            · by_cases w : p = a / 4
              · subst w; rw [pk_us]; exact vp_in_nI hf (by decide)
              · rw [pk_un (by omega)]; exact hpf p hp
            · have : k2 = a := (uk_nIn (by omega) (by omega) ek2).symm
              subst this
              rw [pk_us, nI_clamp (show f' < 2 ^ 31 by omega)]
              refine ⟨vp_in_nI (by omega) (by decide), ?_⟩
              rw [nI_clamp (show 4 * f' + k2 % 4 < 2 ^ 31 by omega)]
              exact nm_e h
        · refine yk_freeFrame hP hN ?_
          rw [hff, e]
          refine br_t (nI_pos' (by omega)) ⟨v64, nm_e ⟨vs, vs, nm_e ?_⟩⟩
          unfold wY_store_61
          rw [uk_32m, nI_add, nI_clamp (show 32 * s + a < 2 ^ 31 by omega)]
          exact ⟨v256, nm_e h⟩
  · obtain ⟨P', Q', zo', oh', ki', sz', fu', A', x1, y1⟩ := uk_exitA (-1) A hs hp hz
    refine ⟨_, _, fun post h => hX post ?_, fun post h => hY post ?_, uk_RmkK 1 A'⟩
    · unfold wpX_storeWord
      refine xk_wordIndex hs n2 hn8 hpf (fun z => br_t rfl ?_) (fun k hk ek => absurd (by rw [ek]; exact vp_in_nI hk (by omega)) hv)
      unfold wX_storeWord_21
      exact x1 _ h
    · unfold wY_plain_179
      refine ⟨vs, ?_⟩
      rw [es, n3, uk_4m]
      refine yk_nom (4 * n) rfl (by omega) (fun z => absurd z hv) (fun z => br_f (by decide) ?_)
      unfold wpY_kill
      exact y1 _ h
end
end
section
/-! the calls: their frame, and the small ones -/
theorem uk_rg0 (R : Nat → Int32) {s : Nat} (hs : s < 8) : R (nI (4 * s)).toNatClampNeg = R (4 * s) := by rw [nI_clamp (by omega)]
theorem uk_rgv {s : Nat} (hs : s < 8) : vp_in (nI (4 * s) + 1) 32 := by rw [nI_1]; exact vp_in_nI (by omega) (by decide)
theorem uk_rg1 (R : Nat → Int32) {s : Nat} (hs : s < 8) : R (nI (4 * s) + 1).toNatClampNeg = R (4 * s + 1) := by rw [nI_1, nI_clamp (by omega)]
theorem uk_1000 {x : Int32} (h : 1000 < x) : (1001 : Int32) ≤ x := by
  have h0 : ¬ x < 0 := fun z => by
    have := Int32.lt_trans h z
    exact absurd this (by decide)
  obtain ⟨j, hj, rfl⟩ := nI_of h0
  exact nI_le (a := 1001) (by have := (nI_ltI (a := 1000) (by decide) hj).mp h; omega) hj
section
variable {x_changes x_saidCount x_time x_lastSlot x_sliceSteps x_latestPid x_greatestPid : Int32} {x_code x_codeLengths x_pids x_parents x_programs x_places x_states x_statuses x_stepCounts x_copyCounts x_wakeTimes x_registers x_pageCounts x_pageFrames x_held x_frameUsers x_frameWords x_openHolders x_openKinds x_openTargets x_openPlaces x_openModes x_pipeFirsts x_pipeCounts x_pipeWords x_nameFiles x_fileSizes x_fileWords x_safeNames x_safeSizes x_safeWords x_saidInts : Nat → Int32} {y_time y_last y_lastPid y_did y_killed : Int32} {y_ops y_as y_bs y_pages y_wake y_zombie y_blocked y_memory y_frame y_kind y_mode y_pipe y_size y_safeSize y_said : Nat → Int32}
theorem xk_copy1 {post : SX → Prop} (h : post (x_changes, x_saidCount, x_time, x_lastSlot, x_sliceSteps, x_latestPid, x_greatestPid, x_code, x_codeLengths, x_pids, x_parents, x_programs, x_places, x_states, x_statuses, x_stepCounts, x_copyCounts, x_wakeTimes, x_registers, x_pageCounts, x_pageFrames, x_held, x_frameUsers, x_frameWords, x_openHolders, x_openKinds, x_openTargets, x_openPlaces, x_openModes, x_pipeFirsts, x_pipeCounts, x_pipeWords, x_nameFiles, x_fileSizes, x_fileWords, uk_fl x_safeNames 0 x_nameFiles 8, uk_fl x_safeSizes 0 x_fileSizes 8, uk_fl x_safeWords 0 x_fileWords 128, x_saidInts)) : wpX_copyFiles__nameFiles_fileSizes_fileWords_safeNames_safeSizes_safeWords post (x_changes, x_saidCount, x_time, x_lastSlot, x_sliceSteps, x_latestPid, x_greatestPid, x_code, x_codeLengths, x_pids, x_parents, x_programs, x_places, x_states, x_statuses, x_stepCounts, x_copyCounts, x_wakeTimes, x_registers, x_pageCounts, x_pageFrames, x_held, x_frameUsers, x_frameWords, x_openHolders, x_openKinds, x_openTargets, x_openPlaces, x_openModes, x_pipeFirsts, x_pipeCounts, x_pipeWords, x_nameFiles, x_fileSizes, x_fileWords, x_safeNames, x_safeSizes, x_safeWords, x_saidInts) := by
  unfold wpX_copyFiles__nameFiles_fileSizes_fileWords_safeNames_safeSizes_safeWords
  have k1 := uk_run0 (fun m k (w : Nat → Int32) => wX_copyFiles__nameFiles_fileSizes_fileWords_safeNames_safeSizes_safeWords_3 post x_changes x_saidCount x_time x_lastSlot x_sliceSteps x_latestPid x_greatestPid m (nI k) x_code x_codeLengths x_pids x_parents x_programs x_places x_states x_statuses x_stepCounts x_copyCounts x_wakeTimes x_registers x_pageCounts x_pageFrames x_held x_frameUsers x_frameWords x_openHolders x_openKinds x_openTargets x_openPlaces x_openModes x_pipeFirsts x_pipeCounts x_pipeWords x_nameFiles x_fileSizes x_fileWords w x_safeSizes x_safeWords x_saidInts) (fun k => uk_fl x_safeNames 0 x_nameFiles k) 8 (fun m => br_t (uk_refl 8) (by
    have k2 := uk_run0 (fun m k (w : Nat → Int32) => wX_copyFiles__nameFiles_fileSizes_fileWords_safeNames_safeSizes_safeWords_28 post x_changes x_saidCount x_time x_lastSlot x_sliceSteps x_latestPid x_greatestPid m (nI k) x_code x_codeLengths x_pids x_parents x_programs x_places x_states x_statuses x_stepCounts x_copyCounts x_wakeTimes x_registers x_pageCounts x_pageFrames x_held x_frameUsers x_frameWords x_openHolders x_openKinds x_openTargets x_openPlaces x_openModes x_pipeFirsts x_pipeCounts x_pipeWords x_nameFiles x_fileSizes x_fileWords (uk_fl x_safeNames 0 x_nameFiles 8) w x_safeWords x_saidInts) (fun k => uk_fl x_safeSizes 0 x_fileSizes k) 8 (fun m => br_t (uk_refl 8) (by
      have k3 := uk_run0 (fun m k (w : Nat → Int32) => wX_copyFiles__nameFiles_fileSizes_fileWords_safeNames_safeSizes_safeWords_53 post x_changes x_saidCount x_time x_lastSlot x_sliceSteps x_latestPid x_greatestPid m (nI k) x_code x_codeLengths x_pids x_parents x_programs x_places x_states x_statuses x_stepCounts x_copyCounts x_wakeTimes x_registers x_pageCounts x_pageFrames x_held x_frameUsers x_frameWords x_openHolders x_openKinds x_openTargets x_openPlaces x_openModes x_pipeFirsts x_pipeCounts x_pipeWords x_nameFiles x_fileSizes x_fileWords (uk_fl x_safeNames 0 x_nameFiles 8) (uk_fl x_safeSizes 0 x_fileSizes 8) w x_saidInts) (fun k => uk_fl x_safeWords 0 x_fileWords k) 128 (fun m => br_t (uk_refl 128) h) (fun m k hk ih => by
        obtain ⟨z, v, e⟩ := uk_lp 128 hk (by decide)
        refine br_f z ⟨v, v, ?_⟩
        rw [e]
        exact nm_r uk_fls0 (nm_r (nI_1 k) ih))
      rw [uk_fl0] at k3
      exact k3)) (fun m k hk ih => by
      obtain ⟨z, v, e⟩ := uk_lp 8 hk (by decide)
      refine br_f z ⟨v, v, ?_⟩
      rw [e]
      exact nm_r uk_fls0 (nm_r (nI_1 k) ih))
    rw [uk_fl0] at k2
    exact k2)) (fun m k hk ih => by
    obtain ⟨z, v, e⟩ := uk_lp 8 hk (by decide)
    refine br_f z ⟨v, v, ?_⟩
    rw [e]
    exact nm_r uk_fls0 (nm_r (nI_1 k) ih))
  rw [uk_fl0] at k1
  exact k1
theorem xk_commit {post : SX → Prop} (h : post (0, x_saidCount, x_time, x_lastSlot, x_sliceSteps, x_latestPid, x_greatestPid, x_code, x_codeLengths, x_pids, x_parents, x_programs, x_places, x_states, x_statuses, x_stepCounts, x_copyCounts, x_wakeTimes, x_registers, x_pageCounts, x_pageFrames, x_held, x_frameUsers, x_frameWords, x_openHolders, x_openKinds, x_openTargets, x_openPlaces, x_openModes, x_pipeFirsts, x_pipeCounts, x_pipeWords, x_nameFiles, x_fileSizes, x_fileWords, uk_fl x_safeNames 0 x_nameFiles 8, uk_fl x_safeSizes 0 x_fileSizes 8, uk_fl x_safeWords 0 x_fileWords 128, x_saidInts)) : wpX_commitFiles post (x_changes, x_saidCount, x_time, x_lastSlot, x_sliceSteps, x_latestPid, x_greatestPid, x_code, x_codeLengths, x_pids, x_parents, x_programs, x_places, x_states, x_statuses, x_stepCounts, x_copyCounts, x_wakeTimes, x_registers, x_pageCounts, x_pageFrames, x_held, x_frameUsers, x_frameWords, x_openHolders, x_openKinds, x_openTargets, x_openPlaces, x_openModes, x_pipeFirsts, x_pipeCounts, x_pipeWords, x_nameFiles, x_fileSizes, x_fileWords, x_safeNames, x_safeSizes, x_safeWords, x_saidInts) := by
  unfold wpX_commitFiles
  exact xk_copy1 h
theorem yk_commit {post : SY → Prop} (h : post (0, y_time, y_last, y_lastPid, y_did, x_greatestPid, x_latestPid, x_saidCount, y_killed, y_ops, y_as, y_bs, x_codeLengths, x_pids, x_parents, x_programs, x_places, x_statuses, x_stepCounts, x_copyCounts, y_pages, y_wake, y_zombie, y_blocked, x_registers, y_memory, y_frame, x_held, y_kind, x_openTargets, y_mode, x_openPlaces, x_pipeCounts, y_pipe, x_nameFiles, y_size, x_fileWords, uk_fl x_safeNames 0 x_nameFiles 8, uk_fl y_safeSize 0 y_size 8, uk_fl x_safeWords 0 x_fileWords 128, y_said)) : wpY_commit post (x_changes, y_time, y_last, y_lastPid, y_did, x_greatestPid, x_latestPid, x_saidCount, y_killed, y_ops, y_as, y_bs, x_codeLengths, x_pids, x_parents, x_programs, x_places, x_statuses, x_stepCounts, x_copyCounts, y_pages, y_wake, y_zombie, y_blocked, x_registers, y_memory, y_frame, x_held, y_kind, x_openTargets, y_mode, x_openPlaces, x_pipeCounts, y_pipe, x_nameFiles, y_size, x_fileWords, x_safeNames, y_safeSize, x_safeWords, y_said) := by
  unfold wpY_commit
  have k1 := uk_run0 (fun m k (w : (Nat → Int32) × (Nat → Int32)) => wY_commit_7 post 0 y_time y_last y_lastPid y_did x_greatestPid x_latestPid x_saidCount y_killed m (nI k) y_ops y_as y_bs x_codeLengths x_pids x_parents x_programs x_places x_statuses x_stepCounts x_copyCounts y_pages y_wake y_zombie y_blocked x_registers y_memory y_frame x_held y_kind x_openTargets y_mode x_openPlaces x_pipeCounts y_pipe x_nameFiles y_size x_fileWords w.1 w.2 x_safeWords y_said) (fun k => (uk_fl x_safeNames 0 x_nameFiles k, uk_fl y_safeSize 0 y_size k)) 8 (fun m => br_t (uk_refl 8) (by
    have k3 := uk_run0 (fun m k (w : Nat → Int32) => wY_commit_45 post 0 y_time y_last y_lastPid y_did x_greatestPid x_latestPid x_saidCount y_killed m (nI k) y_ops y_as y_bs x_codeLengths x_pids x_parents x_programs x_places x_statuses x_stepCounts x_copyCounts y_pages y_wake y_zombie y_blocked x_registers y_memory y_frame x_held y_kind x_openTargets y_mode x_openPlaces x_pipeCounts y_pipe x_nameFiles y_size x_fileWords (uk_fl x_safeNames 0 x_nameFiles 8) (uk_fl y_safeSize 0 y_size 8) w y_said) (fun k => uk_fl x_safeWords 0 x_fileWords k) 128 (fun m => br_t (uk_refl 128) h) (fun m k hk ih => by
      obtain ⟨z, v, e⟩ := uk_lp 128 hk (by decide)
      refine br_f z ⟨v, v, ?_⟩
      rw [e]
      exact nm_r uk_fls0 (nm_r (nI_1 k) ih))
    rw [uk_fl0] at k3
    exact k3)) (fun m k hk ih => by
    obtain ⟨z, v, e⟩ := uk_lp 8 hk (by decide)
    refine br_f z ⟨v, v, ?_⟩
    rw [e]
    exact nm_r uk_fls0 ⟨v, v, nm_r uk_fls0 (nm_r (nI_1 k) ih)⟩)
  dsimp only at k1
  rw [uk_fl0, uk_fl0] at k1
  exact k1
theorem uk_cm {t b : Nat} (A : uk_All t b x_changes x_saidCount x_time x_lastSlot x_sliceSteps x_latestPid x_greatestPid x_code x_codeLengths x_pids x_parents x_programs x_places x_states x_statuses x_stepCounts x_copyCounts x_wakeTimes x_registers x_pageCounts x_pageFrames x_held x_frameUsers x_frameWords x_openHolders x_openKinds x_openTargets x_openPlaces x_openModes x_pipeFirsts x_pipeCounts x_pipeWords x_nameFiles x_fileSizes x_fileWords x_safeNames x_safeSizes x_safeWords x_saidInts y_time y_last y_lastPid y_did y_killed y_ops y_as y_bs y_pages y_wake y_zombie y_blocked y_memory y_frame y_kind y_mode y_pipe y_size y_safeSize y_said) : uk_All t b 0 x_saidCount x_time x_lastSlot x_sliceSteps x_latestPid x_greatestPid x_code x_codeLengths x_pids x_parents x_programs x_places x_states x_statuses x_stepCounts x_copyCounts x_wakeTimes x_registers x_pageCounts x_pageFrames x_held x_frameUsers x_frameWords x_openHolders x_openKinds x_openTargets x_openPlaces x_openModes x_pipeFirsts x_pipeCounts x_pipeWords x_nameFiles x_fileSizes x_fileWords (uk_fl x_safeNames 0 x_nameFiles 8) (uk_fl x_safeSizes 0 x_fileSizes 8) (uk_fl x_safeWords 0 x_fileWords 128) x_saidInts y_time y_last y_lastPid y_did y_killed y_ops y_as y_bs y_pages y_wake y_zombie y_blocked y_memory y_frame y_kind y_mode y_pipe y_size (uk_fl y_safeSize 0 y_size 8) y_said :=
  ⟨uk_aG A, uk_aN A, ⟨0, rfl, by decide⟩, uk_aeT A, uk_aPr A, uk_aPs A, uk_aMe A, uk_aFu A, uk_aHd A, uk_aHo A, uk_aOk A, uk_aPi A, uk_aFi A, uk_Sa_cm (uk_aFi A), uk_aSc A, uk_aWk A⟩
theorem xk_tail0 {post : SX → Prop} {s c : Nat} {g : Int32} (hs : s < 8) (ec : x_changes = nI c) (hc : c < 30) (h : post (x_changes, x_saidCount, x_time, x_lastSlot, x_sliceSteps, x_latestPid, x_greatestPid, x_code, x_codeLengths, x_pids, x_parents, x_programs, x_places, x_states, x_statuses, x_stepCounts, x_copyCounts, x_wakeTimes, upd x_registers (4 * s) g, x_pageCounts, x_pageFrames, x_held, x_frameUsers, x_frameWords, x_openHolders, x_openKinds, x_openTargets, x_openPlaces, x_openModes, x_pipeFirsts, x_pipeCounts, x_pipeWords, x_nameFiles, x_fileSizes, x_fileWords, x_safeNames, x_safeSizes, x_safeWords, x_saidInts)) : wX_doCall_344 post (nI (4 * s)) g x_changes x_saidCount x_time x_lastSlot x_sliceSteps x_latestPid x_greatestPid x_code x_codeLengths x_pids x_parents x_programs x_places x_states x_statuses x_stepCounts x_copyCounts x_wakeTimes x_registers x_pageCounts x_pageFrames x_held x_frameUsers x_frameWords x_openHolders x_openKinds x_openTargets x_openPlaces x_openModes x_pipeFirsts x_pipeCounts x_pipeWords x_nameFiles x_fileSizes x_fileWords x_safeNames x_safeSizes x_safeWords x_saidInts := by
  unfold wX_doCall_344
  refine ⟨vp_in_nI (by omega) (by decide), ?_⟩
  rw [nI_clamp (show 4 * s < 2 ^ 31 by omega)]
  exact nm_e (br_t (by rw [ec]; exact nI_lt (b := 30) hc (by decide)) h)
theorem xk_tail1 {post : SX → Prop} {s : Nat} {g : Int32} (hs : s < 8) (ec : x_changes = nI 30) (h : post (0, x_saidCount, x_time, x_lastSlot, x_sliceSteps, x_latestPid, x_greatestPid, x_code, x_codeLengths, x_pids, x_parents, x_programs, x_places, x_states, x_statuses, x_stepCounts, x_copyCounts, x_wakeTimes, upd x_registers (4 * s) g, x_pageCounts, x_pageFrames, x_held, x_frameUsers, x_frameWords, x_openHolders, x_openKinds, x_openTargets, x_openPlaces, x_openModes, x_pipeFirsts, x_pipeCounts, x_pipeWords, x_nameFiles, x_fileSizes, x_fileWords, uk_fl x_safeNames 0 x_nameFiles 8, uk_fl x_safeSizes 0 x_fileSizes 8, uk_fl x_safeWords 0 x_fileWords 128, x_saidInts)) : wX_doCall_344 post (nI (4 * s)) g x_changes x_saidCount x_time x_lastSlot x_sliceSteps x_latestPid x_greatestPid x_code x_codeLengths x_pids x_parents x_programs x_places x_states x_statuses x_stepCounts x_copyCounts x_wakeTimes x_registers x_pageCounts x_pageFrames x_held x_frameUsers x_frameWords x_openHolders x_openKinds x_openTargets x_openPlaces x_openModes x_pipeFirsts x_pipeCounts x_pipeWords x_nameFiles x_fileSizes x_fileWords x_safeNames x_safeSizes x_safeWords x_saidInts := by
  unfold wX_doCall_344
  refine ⟨vp_in_nI (by omega) (by decide), ?_⟩
  rw [nI_clamp (show 4 * s < 2 ^ 31 by omega)]
  exact nm_e (br_f (by rw [ec]; decide) (xk_commit h))
theorem yk_tail0 {post : SY → Prop} {s : Nat} {g : Int32} (hs : s < 8) (h : post (x_changes, y_time, y_last, y_lastPid, y_did, x_greatestPid, x_latestPid, x_saidCount, 0, y_ops, y_as, y_bs, x_codeLengths, x_pids, x_parents, x_programs, x_places, x_statuses, x_stepCounts, x_copyCounts, y_pages, y_wake, y_zombie, y_blocked, upd x_registers (4 * s) g, y_memory, y_frame, x_held, y_kind, x_openTargets, y_mode, x_openPlaces, x_pipeCounts, y_pipe, x_nameFiles, y_size, x_fileWords, x_safeNames, y_safeSize, x_safeWords, y_said)) : wY_call_169 post (nI s) g x_changes y_time y_last y_lastPid y_did x_greatestPid x_latestPid x_saidCount 0 y_ops y_as y_bs x_codeLengths x_pids x_parents x_programs x_places x_statuses x_stepCounts x_copyCounts y_pages y_wake y_zombie y_blocked x_registers y_memory y_frame x_held y_kind x_openTargets y_mode x_openPlaces x_pipeCounts y_pipe x_nameFiles y_size x_fileWords x_safeNames y_safeSize x_safeWords y_said := by
  unfold wY_call_169
  refine br_t rfl ?_
  rw [uk_4m, nI_clamp (show 4 * s < 2 ^ 31 by omega)]
  exact ⟨vp_in_nI (by omega) (by decide), nm_e h⟩
theorem yk_change {post : SY → Prop} {c : Nat} (ec : x_changes = nI c) (hc : c < 30) (h1 : c + 1 ≠ 30 → post (nI (c + 1), y_time, y_last, y_lastPid, y_did, x_greatestPid, x_latestPid, x_saidCount, y_killed, y_ops, y_as, y_bs, x_codeLengths, x_pids, x_parents, x_programs, x_places, x_statuses, x_stepCounts, x_copyCounts, y_pages, y_wake, y_zombie, y_blocked, x_registers, y_memory, y_frame, x_held, y_kind, x_openTargets, y_mode, x_openPlaces, x_pipeCounts, y_pipe, x_nameFiles, y_size, x_fileWords, x_safeNames, y_safeSize, x_safeWords, y_said)) (h2 : c + 1 = 30 → post (0, y_time, y_last, y_lastPid, y_did, x_greatestPid, x_latestPid, x_saidCount, y_killed, y_ops, y_as, y_bs, x_codeLengths, x_pids, x_parents, x_programs, x_places, x_statuses, x_stepCounts, x_copyCounts, y_pages, y_wake, y_zombie, y_blocked, x_registers, y_memory, y_frame, x_held, y_kind, x_openTargets, y_mode, x_openPlaces, x_pipeCounts, y_pipe, x_nameFiles, y_size, x_fileWords, uk_fl x_safeNames 0 x_nameFiles 8, uk_fl y_safeSize 0 y_size 8, uk_fl x_safeWords 0 x_fileWords 128, y_said)) : wpY_change post (x_changes, y_time, y_last, y_lastPid, y_did, x_greatestPid, x_latestPid, x_saidCount, y_killed, y_ops, y_as, y_bs, x_codeLengths, x_pids, x_parents, x_programs, x_places, x_statuses, x_stepCounts, x_copyCounts, y_pages, y_wake, y_zombie, y_blocked, x_registers, y_memory, y_frame, x_held, y_kind, x_openTargets, y_mode, x_openPlaces, x_pipeCounts, y_pipe, x_nameFiles, y_size, x_fileWords, x_safeNames, y_safeSize, x_safeWords, y_said) := by
  unfold wpY_change
  refine nm_r (show x_changes + 1 = nI (c + 1) by rw [ec]; exact nI_1 c) ⟨fun a => ?_, fun a => h1 (fun z => a (by rw [z]; rfl))⟩
  have e30 : c + 1 = 30 := uk_nIn (b := 30) (by omega) (by decide) a
  exact yk_commit (h2 e30)
/-- both sides' ends of a call that gives g, without a change -/
theorem uk_end0 {t b s : Nat} {g : Int32} (A : uk_All t b x_changes x_saidCount x_time x_lastSlot x_sliceSteps x_latestPid x_greatestPid x_code x_codeLengths x_pids x_parents x_programs x_places x_states x_statuses x_stepCounts x_copyCounts x_wakeTimes x_registers x_pageCounts x_pageFrames x_held x_frameUsers x_frameWords x_openHolders x_openKinds x_openTargets x_openPlaces x_openModes x_pipeFirsts x_pipeCounts x_pipeWords x_nameFiles x_fileSizes x_fileWords x_safeNames x_safeSizes x_safeWords x_saidInts y_time y_last y_lastPid y_did y_killed y_ops y_as y_bs y_pages y_wake y_zombie y_blocked y_memory y_frame y_kind y_mode y_pipe y_size y_safeSize y_said) (hs : s < 8) (hp : x_pids s ≠ 0) (hz : y_zombie s = 0) (hb : y_blocked s = 0) : uk_R y_time t (b + 1) (x_changes, x_saidCount, x_time, x_lastSlot, x_sliceSteps, x_latestPid, x_greatestPid, x_code, x_codeLengths, x_pids, x_parents, x_programs, x_places, x_states, x_statuses, x_stepCounts, x_copyCounts, x_wakeTimes, upd x_registers (4 * s) g, x_pageCounts, x_pageFrames, x_held, x_frameUsers, x_frameWords, x_openHolders, x_openKinds, x_openTargets, x_openPlaces, x_openModes, x_pipeFirsts, x_pipeCounts, x_pipeWords, x_nameFiles, x_fileSizes, x_fileWords, x_safeNames, x_safeSizes, x_safeWords, x_saidInts) (x_changes, y_time, y_last, y_lastPid, y_did, x_greatestPid, x_latestPid, x_saidCount, 0, y_ops, y_as, y_bs, x_codeLengths, x_pids, x_parents, x_programs, x_places, x_statuses, x_stepCounts, x_copyCounts, y_pages, y_wake, y_zombie, y_blocked, upd x_registers (4 * s) g, y_memory, y_frame, x_held, y_kind, x_openTargets, y_mode, x_openPlaces, x_pipeCounts, y_pipe, x_nameFiles, y_size, x_fileWords, x_safeNames, y_safeSize, x_safeWords, y_said) := by
  have A1 := uk_up1 (Nat.le_succ b) (uk_All_reg (i := 0) (x := g) A hs hp hz hb (by decide))
  exact uk_RmkK 0 A1
theorem uk_call15 {t b s : Nat} (A : uk_All t b x_changes x_saidCount x_time x_lastSlot x_sliceSteps x_latestPid x_greatestPid x_code x_codeLengths x_pids x_parents x_programs x_places x_states x_statuses x_stepCounts x_copyCounts x_wakeTimes x_registers x_pageCounts x_pageFrames x_held x_frameUsers x_frameWords x_openHolders x_openKinds x_openTargets x_openPlaces x_openModes x_pipeFirsts x_pipeCounts x_pipeWords x_nameFiles x_fileSizes x_fileWords x_safeNames x_safeSizes x_safeWords x_saidInts y_time y_last y_lastPid y_did y_killed y_ops y_as y_bs y_pages y_wake y_zombie y_blocked y_memory y_frame y_kind y_mode y_pipe y_size y_safeSize y_said) (hs : s < 8) (hp : x_pids s ≠ 0) (hz : y_zombie s = 0) (hb : y_blocked s = 0) :
  ∃ u' v', (∀ post : SX → Prop, post u' → wpX_doCall post (x_changes, x_saidCount, x_time, x_lastSlot, x_sliceSteps, x_latestPid, x_greatestPid, x_code, x_codeLengths, x_pids, x_parents, x_programs, x_places, x_states, x_statuses, x_stepCounts, x_copyCounts, x_wakeTimes, x_registers, x_pageCounts, x_pageFrames, x_held, x_frameUsers, x_frameWords, x_openHolders, x_openKinds, x_openTargets, x_openPlaces, x_openModes, x_pipeFirsts, x_pipeCounts, x_pipeWords, x_nameFiles, x_fileSizes, x_fileWords, x_safeNames, x_safeSizes, x_safeWords, x_saidInts) (nI s) 15) ∧ (∀ post : SY → Prop, post v' → wY_call_127 post (nI s) 15 (x_registers (4 * s)) (x_registers (4 * s + 1)) x_changes y_time y_last y_lastPid y_did x_greatestPid x_latestPid x_saidCount 0 y_ops y_as y_bs x_codeLengths x_pids x_parents x_programs x_places x_statuses x_stepCounts x_copyCounts y_pages y_wake y_zombie y_blocked x_registers y_memory y_frame x_held y_kind x_openTargets y_mode x_openPlaces x_pipeCounts y_pipe x_nameFiles y_size x_fileWords x_safeNames y_safeSize x_safeWords y_said) ∧ uk_R y_time t (b + 1) u' v' := by
  obtain ⟨_, vs, es⟩ := uk_lp 8 hs (by decide)
  obtain ⟨c, ec, hc⟩ := uk_aC A
  refine ⟨_, _, fun post h => ?_, fun post h => ?_, uk_end0 (g := x_pids s) A hs hp hz hb⟩
  · unfold wpX_doCall
    refine nm_r (uk_m4 s) ⟨vp_in_nI (by omega) (by decide), nm_r (uk_rg0 x_registers hs) ⟨uk_rgv hs, nm_r (uk_rg1 x_registers hs) (br_f (by decide) (br_f (by decide) (br_f (by decide) (br_f (by decide) (br_f (by decide) (br_f (by decide) (br_f (by decide) (br_f (by decide) (br_f (by decide) (br_f (by decide) (br_f (by decide) (br_f (by decide) (br_f (by decide) (br_f (by decide) (br_f (by decide) (br_f (by decide) (br_f (by decide) (br_t rfl ?_))))))))))))))))))⟩⟩
    refine ⟨vs, nm_r (congrArg x_pids es) (xk_tail0 hs ec hc h)⟩
  · unfold wY_call_127
    refine br_t (by decide) (br_t (by decide) ?_)
    unfold wpY_others
    refine br_f (by decide) (br_f (by decide) (br_f (by decide) (br_f (by decide) (br_f (by decide) (br_f (by decide) (br_t rfl ⟨vs, ?_⟩))))))
    rw [es]
    exact yk_tail0 hs h
theorem uk_call18 {t b s : Nat} (A : uk_All t b x_changes x_saidCount x_time x_lastSlot x_sliceSteps x_latestPid x_greatestPid x_code x_codeLengths x_pids x_parents x_programs x_places x_states x_statuses x_stepCounts x_copyCounts x_wakeTimes x_registers x_pageCounts x_pageFrames x_held x_frameUsers x_frameWords x_openHolders x_openKinds x_openTargets x_openPlaces x_openModes x_pipeFirsts x_pipeCounts x_pipeWords x_nameFiles x_fileSizes x_fileWords x_safeNames x_safeSizes x_safeWords x_saidInts y_time y_last y_lastPid y_did y_killed y_ops y_as y_bs y_pages y_wake y_zombie y_blocked y_memory y_frame y_kind y_mode y_pipe y_size y_safeSize y_said) (hs : s < 8) (hp : x_pids s ≠ 0) (hz : y_zombie s = 0) (hb : y_blocked s = 0) :
  ∃ u' v', (∀ post : SX → Prop, post u' → wpX_doCall post (x_changes, x_saidCount, x_time, x_lastSlot, x_sliceSteps, x_latestPid, x_greatestPid, x_code, x_codeLengths, x_pids, x_parents, x_programs, x_places, x_states, x_statuses, x_stepCounts, x_copyCounts, x_wakeTimes, x_registers, x_pageCounts, x_pageFrames, x_held, x_frameUsers, x_frameWords, x_openHolders, x_openKinds, x_openTargets, x_openPlaces, x_openModes, x_pipeFirsts, x_pipeCounts, x_pipeWords, x_nameFiles, x_fileSizes, x_fileWords, x_safeNames, x_safeSizes, x_safeWords, x_saidInts) (nI s) 18) ∧ (∀ post : SY → Prop, post v' → wY_call_127 post (nI s) 18 (x_registers (4 * s)) (x_registers (4 * s + 1)) x_changes y_time y_last y_lastPid y_did x_greatestPid x_latestPid x_saidCount 0 y_ops y_as y_bs x_codeLengths x_pids x_parents x_programs x_places x_statuses x_stepCounts x_copyCounts y_pages y_wake y_zombie y_blocked x_registers y_memory y_frame x_held y_kind x_openTargets y_mode x_openPlaces x_pipeCounts y_pipe x_nameFiles y_size x_fileWords x_safeNames y_safeSize x_safeWords y_said) ∧ uk_R y_time t (b + 1) u' v' := by
  obtain ⟨_, vs, es⟩ := uk_lp 8 hs (by decide)
  obtain ⟨c, ec, hc⟩ := uk_aC A
  have A1 := uk_cm A
  refine ⟨_, _, fun post h => ?_, fun post h => ?_, uk_end0 (g := 0) A1 hs hp hz hb⟩
  · unfold wpX_doCall
    refine nm_r (uk_m4 s) ⟨vp_in_nI (by omega) (by decide), nm_r (uk_rg0 x_registers hs) ⟨uk_rgv hs, nm_r (uk_rg1 x_registers hs) (br_f (by decide) (br_f (by decide) (br_f (by decide) (br_f (by decide) (br_f (by decide) (br_f (by decide) (br_f (by decide) (br_f (by decide) (br_f (by decide) (br_f (by decide) (br_f (by decide) (br_f (by decide) (br_f (by decide) (br_f (by decide) (br_f (by decide) (br_f (by decide) (br_f (by decide) (br_f (by decide) (br_f (by decide) (br_f (by decide) (br_t rfl ?_)))))))))))))))))))))⟩⟩
    exact xk_commit (xk_tail0 (c := 0) hs rfl (by decide) h)
  · unfold wY_call_127
    refine br_t (by decide) (br_t (by decide) ?_)
    unfold wpY_others
    exact br_f (by decide) (br_t (by decide) (yk_commit (yk_tail0 hs h)))
theorem uk_call14 {t b s : Nat} (A : uk_All t b x_changes x_saidCount x_time x_lastSlot x_sliceSteps x_latestPid x_greatestPid x_code x_codeLengths x_pids x_parents x_programs x_places x_states x_statuses x_stepCounts x_copyCounts x_wakeTimes x_registers x_pageCounts x_pageFrames x_held x_frameUsers x_frameWords x_openHolders x_openKinds x_openTargets x_openPlaces x_openModes x_pipeFirsts x_pipeCounts x_pipeWords x_nameFiles x_fileSizes x_fileWords x_safeNames x_safeSizes x_safeWords x_saidInts y_time y_last y_lastPid y_did y_killed y_ops y_as y_bs y_pages y_wake y_zombie y_blocked y_memory y_frame y_kind y_mode y_pipe y_size y_safeSize y_said) (hs : s < 8) (hp : x_pids s ≠ 0) (hz : y_zombie s = 0) (hb : y_blocked s = 0) {W0 : Nat → Int32} (eu : upd W0 s 0 = x_wakeTimes) :
  ∃ u' v', (∀ post : SX → Prop, post u' → wpX_doCall post (x_changes, x_saidCount, x_time, x_lastSlot, x_sliceSteps, x_latestPid, x_greatestPid, x_code, x_codeLengths, x_pids, x_parents, x_programs, x_places, x_states, x_statuses, x_stepCounts, x_copyCounts, W0, x_registers, x_pageCounts, x_pageFrames, x_held, x_frameUsers, x_frameWords, x_openHolders, x_openKinds, x_openTargets, x_openPlaces, x_openModes, x_pipeFirsts, x_pipeCounts, x_pipeWords, x_nameFiles, x_fileSizes, x_fileWords, x_safeNames, x_safeSizes, x_safeWords, x_saidInts) (nI s) 14) ∧ (∀ post : SY → Prop, post v' → wY_call_127 post (nI s) 14 (x_registers (4 * s)) (x_registers (4 * s + 1)) x_changes y_time y_last y_lastPid y_did x_greatestPid x_latestPid x_saidCount 0 y_ops y_as y_bs x_codeLengths x_pids x_parents x_programs x_places x_statuses x_stepCounts x_copyCounts y_pages y_wake y_zombie y_blocked x_registers y_memory y_frame x_held y_kind x_openTargets y_mode x_openPlaces x_pipeCounts y_pipe x_nameFiles y_size x_fileWords x_safeNames y_safeSize x_safeWords y_said) ∧ uk_R y_time t (b + 1) u' v' := by
  obtain ⟨_, vs, es⟩ := uk_lp 8 hs (by decide)
  obtain ⟨c, ec, hc⟩ := uk_aC A
  have e1001 := uk_inE (x := x_registers (4 * s)) (n := 1001) (N := 1001) rfl (by decide)
  have hX : ∀ (post : SX → Prop) (g : Int32), ((vp_in (x_registers (4 * s)) 1001 ∧ g = 0) ∨ (¬ vp_in (x_registers (4 * s)) 1001 ∧ g = -1)) → post (x_changes, x_saidCount, x_time, x_lastSlot, x_sliceSteps, x_latestPid, x_greatestPid, x_code, x_codeLengths, x_pids, x_parents, x_programs, x_places, x_states, x_statuses, x_stepCounts, x_copyCounts, x_wakeTimes, upd x_registers (4 * s) g, x_pageCounts, x_pageFrames, x_held, x_frameUsers, x_frameWords, x_openHolders, x_openKinds, x_openTargets, x_openPlaces, x_openModes, x_pipeFirsts, x_pipeCounts, x_pipeWords, x_nameFiles, x_fileSizes, x_fileWords, x_safeNames, x_safeSizes, x_safeWords, x_saidInts) → wpX_doCall post (x_changes, x_saidCount, x_time, x_lastSlot, x_sliceSteps, x_latestPid, x_greatestPid, x_code, x_codeLengths, x_pids, x_parents, x_programs, x_places, x_states, x_statuses, x_stepCounts, x_copyCounts, W0, x_registers, x_pageCounts, x_pageFrames, x_held, x_frameUsers, x_frameWords, x_openHolders, x_openKinds, x_openTargets, x_openPlaces, x_openModes, x_pipeFirsts, x_pipeCounts, x_pipeWords, x_nameFiles, x_fileSizes, x_fileWords, x_safeNames, x_safeSizes, x_safeWords, x_saidInts) (nI s) 14 := fun post g hg h => by
    unfold wpX_doCall
    refine nm_r (uk_m4 s) ⟨vp_in_nI (by omega) (by decide), nm_r (uk_rg0 x_registers hs) ⟨uk_rgv hs, nm_r (uk_rg1 x_registers hs) (br_f (by decide) (br_f (by decide) (br_f (by decide) (br_f (by decide) (br_f (by decide) (br_f (by decide) (br_f (by decide) (br_f (by decide) (br_f (by decide) (br_f (by decide) (br_f (by decide) (br_f (by decide) (br_f (by decide) (br_f (by decide) (br_f (by decide) (br_f (by decide) (br_t rfl ?_)))))))))))))))))⟩⟩
    unfold wpX_wakeUp
    refine ⟨vs, ?_⟩
    rw [es]
    refine nm_r eu ⟨fun a => ?_, fun a => ⟨fun a2 => ?_, fun a2 => ?_⟩⟩
    · rcases hg with ⟨k, rfl⟩ | ⟨k, rfl⟩
      · exact absurd a (e1001.mp k).1
      · exact xk_tail0 hs ec hc h
    · rcases hg with ⟨k, rfl⟩ | ⟨k, rfl⟩
      · exact absurd (Int32.le_trans (show (1001 : Int32) ≤ x_registers (4 * s) from uk_1000 a2) (uk_refl _)) (e1001.mp k).2
      · exact xk_tail0 hs ec hc h
    · rcases hg with ⟨k, rfl⟩ | ⟨k, rfl⟩
      · exact xk_tail0 hs ec hc h
      · exact absurd (e1001.mpr ⟨a, fun z => a2 (Int32.lt_of_lt_of_le (by decide) z)⟩) k
  have hY : ∀ (post : SY → Prop) (g : Int32), ((vp_in (x_registers (4 * s)) 1001 ∧ g = 0) ∨ (¬ vp_in (x_registers (4 * s)) 1001 ∧ g = -1)) → post (x_changes, y_time, y_last, y_lastPid, y_did, x_greatestPid, x_latestPid, x_saidCount, 0, y_ops, y_as, y_bs, x_codeLengths, x_pids, x_parents, x_programs, x_places, x_statuses, x_stepCounts, x_copyCounts, y_pages, y_wake, y_zombie, y_blocked, upd x_registers (4 * s) g, y_memory, y_frame, x_held, y_kind, x_openTargets, y_mode, x_openPlaces, x_pipeCounts, y_pipe, x_nameFiles, y_size, x_fileWords, x_safeNames, y_safeSize, x_safeWords, y_said) → wY_call_127 post (nI s) 14 (x_registers (4 * s)) (x_registers (4 * s + 1)) x_changes y_time y_last y_lastPid y_did x_greatestPid x_latestPid x_saidCount 0 y_ops y_as y_bs x_codeLengths x_pids x_parents x_programs x_places x_statuses x_stepCounts x_copyCounts y_pages y_wake y_zombie y_blocked x_registers y_memory y_frame x_held y_kind x_openTargets y_mode x_openPlaces x_pipeCounts y_pipe x_nameFiles y_size x_fileWords x_safeNames y_safeSize x_safeWords y_said := fun post g hg h => by
    unfold wY_call_127
    refine br_t (by decide) (br_t (by decide) ?_)
    unfold wpY_others
    refine br_f (by decide) (br_f (by decide) (br_f (by decide) (br_f (by decide) (br_f (by decide) (br_t rfl (yk_no 1000 rfl (by decide) (fun k => br_t rfl ?_) (fun k => br_f (by decide) ?_)))))))
    · rcases hg with ⟨_, rfl⟩ | ⟨k2, _⟩
      · exact yk_tail0 hs h
      · exact absurd k k2
    · rcases hg with ⟨k2, _⟩ | ⟨_, rfl⟩
      · exact absurd k2 k
      · exact yk_tail0 hs h
  by_cases hv : vp_in (x_registers (4 * s)) 1001
  · exact ⟨_, _, fun post h => hX post 0 (Or.inl ⟨hv, rfl⟩) h, fun post h => hY post 0 (Or.inl ⟨hv, rfl⟩) h, uk_end0 A hs hp hz hb⟩
  · exact ⟨_, _, fun post h => hX post (-1) (Or.inr ⟨hv, rfl⟩) h, fun post h => hY post (-1) (Or.inr ⟨hv, rfl⟩) h, uk_end0 A hs hp hz hb⟩
end
end
section
/-! the calls, second part -/
section
variable {x_changes x_saidCount x_time x_lastSlot x_sliceSteps x_latestPid x_greatestPid : Int32} {x_code x_codeLengths x_pids x_parents x_programs x_places x_states x_statuses x_stepCounts x_copyCounts x_wakeTimes x_registers x_pageCounts x_pageFrames x_held x_frameUsers x_frameWords x_openHolders x_openKinds x_openTargets x_openPlaces x_openModes x_pipeFirsts x_pipeCounts x_pipeWords x_nameFiles x_fileSizes x_fileWords x_safeNames x_safeSizes x_safeWords x_saidInts : Nat → Int32} {y_time y_last y_lastPid y_did y_killed : Int32} {y_ops y_as y_bs y_pages y_wake y_zombie y_blocked y_memory y_frame y_kind y_mode y_pipe y_size y_safeSize y_said : Nat → Int32}
theorem uk_desc {t b s : Nat} (A : uk_All t b x_changes x_saidCount x_time x_lastSlot x_sliceSteps x_latestPid x_greatestPid x_code x_codeLengths x_pids x_parents x_programs x_places x_states x_statuses x_stepCounts x_copyCounts x_wakeTimes x_registers x_pageCounts x_pageFrames x_held x_frameUsers x_frameWords x_openHolders x_openKinds x_openTargets x_openPlaces x_openModes x_pipeFirsts x_pipeCounts x_pipeWords x_nameFiles x_fileSizes x_fileWords x_safeNames x_safeSizes x_safeWords x_saidInts y_time y_last y_lastPid y_did y_killed y_ops y_as y_bs y_pages y_wake y_zombie y_blocked y_memory y_frame y_kind y_mode y_pipe y_size y_safeSize y_said) (hs : s < 8) (hp : x_pids s ≠ 0) (hz : y_zombie s = 0) : (∀ d, d < 6 → x_registers (4 * s) = nI d → x_held (6 * s + d) = -1) ∨ (∃ d o, d < 6 ∧ o < 12 ∧ x_registers (4 * s) = nI d ∧ x_held (6 * s + d) = nI o ∧ x_openHolders o ≠ 0 ∧ x_openKinds o = y_kind o ∧ x_openModes o &&& 3 ≠ 0 ∧ ((y_kind o = 1 ∧ x_openModes o = y_mode o ∧ y_mode o &&& 3 ≠ 0 ∧ vp_in (x_openTargets o) 8) ∨ (y_kind o = 2 ∧ x_openModes o = 1 ∧ vp_in (x_openTargets o) 4) ∨ (y_kind o = 3 ∧ x_openModes o = 2 ∧ vp_in (x_openTargets o) 4))) := by
  by_cases h : ∃ d, d < 6 ∧ x_registers (4 * s) = nI d ∧ x_held (6 * s + d) ≠ -1
  · obtain ⟨d, hd, e1, e2⟩ := h
    obtain ⟨o, ho, eo⟩ := vp_in_of ((uk_aHd A s hs hp hz d hd).resolve_left e2) (by decide)
    obtain ⟨k1, k2, k3⟩ := uk_hk (uk_aHo A) (uk_aOk A) hs hp hz hd ho eo
    refine Or.inr ⟨d, o, hd, ho, e1, eo, k1, k2, ?_, k3⟩
    rcases k3 with k3 | k3 | k3
    · rw [k3.2.1]; exact k3.2.2.1
    · rw [k3.2.1]; decide
    · rw [k3.2.1]; decide
  · exact Or.inl (fun d hd e => Classical.byContradiction (fun z => h ⟨d, hd, e, z⟩))
theorem xk_of0 {post : Int32 → Prop} {s : Nat} {m : Int32} (hs : s < 8) (hH : ∀ d, d < 6 → x_held (6 * s + d) = -1 ∨ vp_in (x_held (6 * s + d)) 12) (h0 : ∀ d, d < 6 → x_registers (4 * s) = nI d → x_held (6 * s + d) = -1) (h : post (-1)) : wpX_openFor post (x_changes, x_saidCount, x_time, x_lastSlot, x_sliceSteps, x_latestPid, x_greatestPid, x_code, x_codeLengths, x_pids, x_parents, x_programs, x_places, x_states, x_statuses, x_stepCounts, x_copyCounts, x_wakeTimes, x_registers, x_pageCounts, x_pageFrames, x_held, x_frameUsers, x_frameWords, x_openHolders, x_openKinds, x_openTargets, x_openPlaces, x_openModes, x_pipeFirsts, x_pipeCounts, x_pipeWords, x_nameFiles, x_fileSizes, x_fileWords, x_safeNames, x_safeSizes, x_safeWords, x_saidInts) (nI s) m := xk_openFor hs hH (fun _ => h) (fun d o hd ho e1 e2 _ => absurd ((h0 d hd e1).symm.trans e2).symm (uk_ne1 (by omega)))
theorem xk_of1 {post : Int32 → Prop} {s d o : Nat} {m : Int32} (hs : s < 8) (hH : ∀ d, d < 6 → x_held (6 * s + d) = -1 ∨ vp_in (x_held (6 * s + d)) 12) (hd : d < 6) (ho : o < 12) (e1 : x_registers (4 * s) = nI d) (e2 : x_held (6 * s + d) = nI o) (hm : x_openModes o &&& m ≠ 0 → post (nI o)) (hm0 : x_openModes o &&& m = 0 → post (-1)) : wpX_openFor post (x_changes, x_saidCount, x_time, x_lastSlot, x_sliceSteps, x_latestPid, x_greatestPid, x_code, x_codeLengths, x_pids, x_parents, x_programs, x_places, x_states, x_statuses, x_stepCounts, x_copyCounts, x_wakeTimes, x_registers, x_pageCounts, x_pageFrames, x_held, x_frameUsers, x_frameWords, x_openHolders, x_openKinds, x_openTargets, x_openPlaces, x_openModes, x_pipeFirsts, x_pipeCounts, x_pipeWords, x_nameFiles, x_fileSizes, x_fileWords, x_safeNames, x_safeSizes, x_safeWords, x_saidInts) (nI s) m := xk_openFor hs hH (fun h0 => hm0 (Classical.byContradiction (fun z => h0 ⟨d, o, hd, ho, e1, e2, z⟩))) (fun d' o' hd' ho' f1 f2 f3 => by
  have := uk_nIn (by omega) (by omega) (f1.symm.trans e1)
  subst this
  have := uk_nIn (by omega) (by omega) (f2.symm.trans e2)
  subst this
  exact hm f3)
theorem yk_ds0 {post : Int32 → SY → Prop} {s : Nat} {k y : Int32} (hs : s < 8) (k5 : k ≠ 5) (k6 : k ≠ 6) (h0 : ∀ d, d < 6 → x_registers (4 * s) = nI d → x_held (6 * s + d) = -1) (h : post (-1) (x_changes, y_time, y_last, y_lastPid, y_did, x_greatestPid, x_latestPid, x_saidCount, y_killed, y_ops, y_as, y_bs, x_codeLengths, x_pids, x_parents, x_programs, x_places, x_statuses, x_stepCounts, x_copyCounts, y_pages, y_wake, y_zombie, y_blocked, x_registers, y_memory, y_frame, x_held, y_kind, x_openTargets, y_mode, x_openPlaces, x_pipeCounts, y_pipe, x_nameFiles, y_size, x_fileWords, x_safeNames, y_safeSize, x_safeWords, y_said)) : wpY_descriptors post (x_changes, y_time, y_last, y_lastPid, y_did, x_greatestPid, x_latestPid, x_saidCount, y_killed, y_ops, y_as, y_bs, x_codeLengths, x_pids, x_parents, x_programs, x_places, x_statuses, x_stepCounts, x_copyCounts, y_pages, y_wake, y_zombie, y_blocked, x_registers, y_memory, y_frame, x_held, y_kind, x_openTargets, y_mode, x_openPlaces, x_pipeCounts, y_pipe, x_nameFiles, y_size, x_fileWords, x_safeNames, y_safeSize, x_safeWords, y_said) (nI s) k (x_registers (4 * s)) y := by
  unfold wpY_descriptors
  refine br_f k5 (br_f k6 (yk_no 5 rfl (by decide) (fun v => br_t rfl ?_) (fun v => br_f (by decide) (br_f (by decide) h))))
  obtain ⟨d, hd, ed⟩ := vp_in_of v (by decide)
  have e := h0 d hd ed
  rw [ed, uk_6m, nI_add, nI_clamp (show 6 * s + d < 2 ^ 31 by omega), e]
  exact ⟨vp_in_nI (by omega) (by decide), br_f (by decide) h⟩
theorem yk_ds1 {post : Int32 → SY → Prop} {s d o : Nat} {k y : Int32} (hs : s < 8) (k5 : k ≠ 5) (k6 : k ≠ 6) (hd : d < 6) (e1 : x_registers (4 * s) = nI d) (e2 : x_held (6 * s + d) = nI o) (h : wY_descriptors_42 post (nI s) k (nI d) y (nI o) x_changes y_time y_last y_lastPid y_did x_greatestPid x_latestPid x_saidCount y_killed y_ops y_as y_bs x_codeLengths x_pids x_parents x_programs x_places x_statuses x_stepCounts x_copyCounts y_pages y_wake y_zombie y_blocked x_registers y_memory y_frame x_held y_kind x_openTargets y_mode x_openPlaces x_pipeCounts y_pipe x_nameFiles y_size x_fileWords x_safeNames y_safeSize x_safeWords y_said) : wpY_descriptors post (x_changes, y_time, y_last, y_lastPid, y_did, x_greatestPid, x_latestPid, x_saidCount, y_killed, y_ops, y_as, y_bs, x_codeLengths, x_pids, x_parents, x_programs, x_places, x_statuses, x_stepCounts, x_copyCounts, y_pages, y_wake, y_zombie, y_blocked, x_registers, y_memory, y_frame, x_held, y_kind, x_openTargets, y_mode, x_openPlaces, x_pipeCounts, y_pipe, x_nameFiles, y_size, x_fileWords, x_safeNames, y_safeSize, x_safeWords, y_said) (nI s) k (x_registers (4 * s)) y := by
  unfold wpY_descriptors
  rw [e1]
  refine br_f k5 (br_f k6 (yk_no 5 rfl (by decide) (fun v => br_t rfl ?_) (fun v => absurd (vp_in_nI hd (by decide)) v)))
  rw [uk_6m, nI_add, nI_clamp (show 6 * s + d < 2 ^ 31 by omega), e2]
  exact ⟨vp_in_nI (by omega) (by decide), h⟩
theorem uk_call0 {t b s : Nat} (A : uk_All t b x_changes x_saidCount x_time x_lastSlot x_sliceSteps x_latestPid x_greatestPid x_code x_codeLengths x_pids x_parents x_programs x_places x_states x_statuses x_stepCounts x_copyCounts x_wakeTimes x_registers x_pageCounts x_pageFrames x_held x_frameUsers x_frameWords x_openHolders x_openKinds x_openTargets x_openPlaces x_openModes x_pipeFirsts x_pipeCounts x_pipeWords x_nameFiles x_fileSizes x_fileWords x_safeNames x_safeSizes x_safeWords x_saidInts y_time y_last y_lastPid y_did y_killed y_ops y_as y_bs y_pages y_wake y_zombie y_blocked y_memory y_frame y_kind y_mode y_pipe y_size y_safeSize y_said) (hs : s < 8) (hp : x_pids s ≠ 0) (hz : y_zombie s = 0) (hb : y_blocked s = 0) :
  ∃ u' v', (∀ post : SX → Prop, post u' → wpX_doCall post (x_changes, x_saidCount, x_time, x_lastSlot, x_sliceSteps, x_latestPid, x_greatestPid, x_code, x_codeLengths, x_pids, x_parents, x_programs, x_places, x_states, x_statuses, x_stepCounts, x_copyCounts, x_wakeTimes, x_registers, x_pageCounts, x_pageFrames, x_held, x_frameUsers, x_frameWords, x_openHolders, x_openKinds, x_openTargets, x_openPlaces, x_openModes, x_pipeFirsts, x_pipeCounts, x_pipeWords, x_nameFiles, x_fileSizes, x_fileWords, x_safeNames, x_safeSizes, x_safeWords, x_saidInts) (nI s) 0) ∧ (∀ post : SY → Prop, post v' → wpY_exit post (x_changes, y_time, y_last, y_lastPid, y_did, x_greatestPid, x_latestPid, x_saidCount, 0, y_ops, y_as, y_bs, x_codeLengths, x_pids, x_parents, x_programs, x_places, x_statuses, x_stepCounts, x_copyCounts, y_pages, y_wake, y_zombie, y_blocked, x_registers, y_memory, y_frame, x_held, y_kind, x_openTargets, y_mode, x_openPlaces, x_pipeCounts, y_pipe, x_nameFiles, y_size, x_fileWords, x_safeNames, y_safeSize, x_safeWords, y_said) (nI s) (x_registers (4 * s))) ∧ uk_R y_time t (b + 1) u' v' := by
  obtain ⟨_, vs, es⟩ := uk_lp 8 hs (by decide)
  obtain ⟨c, ec, hc⟩ := uk_aC A
  have A0 : uk_All t b x_changes x_saidCount x_time x_lastSlot x_sliceSteps x_latestPid x_greatestPid x_code x_codeLengths x_pids x_parents x_programs x_places x_states x_statuses x_stepCounts x_copyCounts x_wakeTimes x_registers x_pageCounts x_pageFrames x_held x_frameUsers x_frameWords x_openHolders x_openKinds x_openTargets x_openPlaces x_openModes x_pipeFirsts x_pipeCounts x_pipeWords x_nameFiles x_fileSizes x_fileWords x_safeNames x_safeSizes x_safeWords x_saidInts y_time y_last y_lastPid y_did 0 y_ops y_as y_bs y_pages y_wake y_zombie y_blocked y_memory y_frame y_kind y_mode y_pipe y_size y_safeSize y_said := A
  obtain ⟨P', Q', zo', oh', ki', sz', fu', A', x1, y1⟩ := uk_exitA (x_registers (4 * s)) A0 hs hp hz
  refine ⟨_, _, fun post h => ?_, fun post h => y1 post h, uk_RmkK 0 (uk_up1 (Nat.le_succ b) A')⟩
  unfold wpX_doCall
  refine nm_r (uk_m4 s) ⟨vp_in_nI (by omega) (by decide), nm_r (uk_rg0 x_registers hs) ⟨uk_rgv hs, nm_r (uk_rg1 x_registers hs) (br_f (by decide) (br_f (by decide) (br_t rfl ?_)))⟩⟩
  refine x1 _ (xk_tail0 hs ec hc ?_)
  rw [uk_uself]
  exact h
theorem uk_call9 {t b s : Nat} (A : uk_All t b x_changes x_saidCount x_time x_lastSlot x_sliceSteps x_latestPid x_greatestPid x_code x_codeLengths x_pids x_parents x_programs x_places x_states x_statuses x_stepCounts x_copyCounts x_wakeTimes x_registers x_pageCounts x_pageFrames x_held x_frameUsers x_frameWords x_openHolders x_openKinds x_openTargets x_openPlaces x_openModes x_pipeFirsts x_pipeCounts x_pipeWords x_nameFiles x_fileSizes x_fileWords x_safeNames x_safeSizes x_safeWords x_saidInts y_time y_last y_lastPid y_did y_killed y_ops y_as y_bs y_pages y_wake y_zombie y_blocked y_memory y_frame y_kind y_mode y_pipe y_size y_safeSize y_said) (hs : s < 8) (hp : x_pids s ≠ 0) (hz : y_zombie s = 0) (hb : y_blocked s = 0) :
  ∃ u' v', (∀ post : SX → Prop, post u' → wpX_doCall post (x_changes, x_saidCount, x_time, x_lastSlot, x_sliceSteps, x_latestPid, x_greatestPid, x_code, x_codeLengths, x_pids, x_parents, x_programs, x_places, x_states, x_statuses, x_stepCounts, x_copyCounts, x_wakeTimes, x_registers, x_pageCounts, x_pageFrames, x_held, x_frameUsers, x_frameWords, x_openHolders, x_openKinds, x_openTargets, x_openPlaces, x_openModes, x_pipeFirsts, x_pipeCounts, x_pipeWords, x_nameFiles, x_fileSizes, x_fileWords, x_safeNames, x_safeSizes, x_safeWords, x_saidInts) (nI s) 9) ∧ (∀ post : SY → Prop, post v' → wY_call_127 post (nI s) 9 (x_registers (4 * s)) (x_registers (4 * s + 1)) x_changes y_time y_last y_lastPid y_did x_greatestPid x_latestPid x_saidCount 0 y_ops y_as y_bs x_codeLengths x_pids x_parents x_programs x_places x_statuses x_stepCounts x_copyCounts y_pages y_wake y_zombie y_blocked x_registers y_memory y_frame x_held y_kind x_openTargets y_mode x_openPlaces x_pipeCounts y_pipe x_nameFiles y_size x_fileWords x_safeNames y_safeSize x_safeWords y_said) ∧ uk_R y_time t (b + 1) u' v' := by
  obtain ⟨_, vs, es⟩ := uk_lp 8 hs (by decide)
  obtain ⟨c, ec, hc⟩ := uk_aC A
  have A0 : uk_All t b x_changes x_saidCount x_time x_lastSlot x_sliceSteps x_latestPid x_greatestPid x_code x_codeLengths x_pids x_parents x_programs x_places x_states x_statuses x_stepCounts x_copyCounts x_wakeTimes x_registers x_pageCounts x_pageFrames x_held x_frameUsers x_frameWords x_openHolders x_openKinds x_openTargets x_openPlaces x_openModes x_pipeFirsts x_pipeCounts x_pipeWords x_nameFiles x_fileSizes x_fileWords x_safeNames x_safeSizes x_safeWords x_saidInts y_time y_last y_lastPid y_did 0 y_ops y_as y_bs y_pages y_wake y_zombie y_blocked y_memory y_frame y_kind y_mode y_pipe y_size y_safeSize y_said := A
  have hH := uk_aHd A s hs hp hz
  have hP : ∀ s, s < 8 → ¬ x_pids s < 0 := fun s hs => (uk_aPs A s hs).1
  rcases uk_desc A hs hp hz with h0 | ⟨d, o, hd, ho, e1, e2, k1, k2, k3, k4⟩
  · refine ⟨_, _, fun post h => ?_, fun post h => ?_, uk_end0 (g := -1) A hs hp hz hb⟩
    · unfold wpX_doCall
      refine nm_r (uk_m4 s) ⟨vp_in_nI (by omega) (by decide), nm_r (uk_rg0 x_registers hs) ⟨uk_rgv hs, nm_r (uk_rg1 x_registers hs) (br_f (by decide) (br_f (by decide) (br_f (by decide) (br_f (by decide) (br_f (by decide) (br_f (by decide) (br_f (by decide) (br_f (by decide) (br_f (by decide) (br_f (by decide) (br_f (by decide) (br_t rfl ?_))))))))))))⟩⟩
      unfold wpX_closeDescriptor
      exact xk_of0 hs hH h0 (br_t rfl (xk_tail0 hs ec hc h))
    · unfold wY_call_127
      exact br_t (by decide) (br_f (by decide) (yk_ds0 hs (by decide) (by decide) h0 (yk_tail0 hs h)))
  · obtain ⟨oh2, ki2, sz2, b1, b2, b3, b4, b5, b6, b7⟩ := uk_go1 (d := d) (x_changes := x_changes) (x_saidCount := x_saidCount) (x_time := x_time) (x_lastSlot := x_lastSlot) (x_sliceSteps := x_sliceSteps) (x_latestPid := x_latestPid) (x_greatestPid := x_greatestPid) (x_code := x_code) (x_codeLengths := x_codeLengths) (x_pids := x_pids) (x_parents := x_parents) (x_programs := x_programs) (x_places := x_places) (x_states := x_states) (x_statuses := x_statuses) (x_stepCounts := x_stepCounts) (x_copyCounts := x_copyCounts) (x_wakeTimes := x_wakeTimes) (x_registers := x_registers) (x_pageCounts := x_pageCounts) (x_pageFrames := x_pageFrames) (x_held := x_held) (x_frameUsers := x_frameUsers) (x_frameWords := x_frameWords) (x_openHolders := x_openHolders) (x_openKinds := x_openKinds) (x_openTargets := x_openTargets) (x_openPlaces := x_openPlaces) (x_openModes := x_openModes) (x_pipeFirsts := x_pipeFirsts) (x_pipeCounts := x_pipeCounts) (x_pipeWords := x_pipeWords) (x_nameFiles := x_nameFiles) (x_fileSizes := x_fileSizes) (x_fileWords := x_fileWords) (x_safeNames := x_safeNames) (x_safeSizes := x_safeSizes) (x_safeWords := x_safeWords) (x_saidInts := x_saidInts) (y_time := y_time) (y_last := y_last) (y_lastPid := y_lastPid) (y_did := y_did) (y_killed := 0) (y_ops := y_ops) (y_as := y_as) (y_bs := y_bs) (y_pages := y_pages) (y_wake := y_wake) (y_zombie := y_zombie) (y_blocked := y_blocked) (y_memory := y_memory) (y_frame := y_frame) (y_kind := y_kind) (y_mode := y_mode) (y_pipe := y_pipe) (y_size := y_size) (y_safeSize := y_safeSize) (y_said := y_said) (y_reg := x_registers) hs hd hp hz hP (uk_aHd A) (uk_aHo A) (uk_aOk A) (uk_aFi A) (uk_aWk A) (fun _ _ _ z => z) (fun _ => uk_run1 A hs hp hz hb)
    have A1 : uk_All t b x_changes x_saidCount x_time x_lastSlot x_sliceSteps x_latestPid x_greatestPid x_code x_codeLengths x_pids x_parents x_programs x_places x_states x_statuses x_stepCounts x_copyCounts x_wakeTimes x_registers x_pageCounts x_pageFrames (upd x_held (6 * s + d) (-1)) x_frameUsers x_frameWords oh2 x_openKinds x_openTargets x_openPlaces x_openModes x_pipeFirsts x_pipeCounts x_pipeWords x_nameFiles x_fileSizes x_fileWords x_safeNames x_safeSizes x_safeWords x_saidInts y_time y_last y_lastPid y_did y_killed y_ops y_as y_bs y_pages y_wake y_zombie y_blocked y_memory y_frame ki2 y_mode y_pipe sz2 y_safeSize y_said := ⟨uk_aG A, uk_aN A, uk_aC A, uk_aeT A, uk_aPr A, uk_aPs A, uk_aMe A, uk_aFu A, b1, b2, b3, uk_aPi A, b4, uk_aSa A, uk_aSc A, b5⟩
    refine ⟨_, _, fun post h => ?_, fun post h => ?_, uk_end0 (g := 0) A1 hs hp hz hb⟩
    · unfold wpX_doCall
      refine nm_r (uk_m4 s) ⟨vp_in_nI (by omega) (by decide), nm_r (uk_rg0 x_registers hs) ⟨uk_rgv hs, nm_r (uk_rg1 x_registers hs) (br_f (by decide) (br_f (by decide) (br_f (by decide) (br_f (by decide) (br_f (by decide) (br_f (by decide) (br_f (by decide) (br_f (by decide) (br_f (by decide) (br_f (by decide) (br_f (by decide) (br_t rfl ?_))))))))))))⟩⟩
      unfold wpX_closeDescriptor
      refine xk_of1 hs hH hd ho e1 e2 (fun _ => br_f (uk_ne1 (by omega)) ?_) (fun z => absurd z k3)
      rw [e1]
      exact b6 _ (xk_tail0 hs ec hc h)
    · unfold wY_call_127
      refine br_t (by decide) (br_f (by decide) (yk_ds1 hs (by decide) (by decide) hd e1 e2 ?_))
      exact br_t (nI_pos' (by omega)) (br_f (by decide) (br_f (by decide) (br_t rfl (b7 _ (yk_tail0 hs h)))))
theorem uk_call10 {t b s : Nat} (A : uk_All t b x_changes x_saidCount x_time x_lastSlot x_sliceSteps x_latestPid x_greatestPid x_code x_codeLengths x_pids x_parents x_programs x_places x_states x_statuses x_stepCounts x_copyCounts x_wakeTimes x_registers x_pageCounts x_pageFrames x_held x_frameUsers x_frameWords x_openHolders x_openKinds x_openTargets x_openPlaces x_openModes x_pipeFirsts x_pipeCounts x_pipeWords x_nameFiles x_fileSizes x_fileWords x_safeNames x_safeSizes x_safeWords x_saidInts y_time y_last y_lastPid y_did y_killed y_ops y_as y_bs y_pages y_wake y_zombie y_blocked y_memory y_frame y_kind y_mode y_pipe y_size y_safeSize y_said) (hs : s < 8) (hp : x_pids s ≠ 0) (hz : y_zombie s = 0) (hb : y_blocked s = 0) :
  ∃ u' v', (∀ post : SX → Prop, post u' → wpX_doCall post (x_changes, x_saidCount, x_time, x_lastSlot, x_sliceSteps, x_latestPid, x_greatestPid, x_code, x_codeLengths, x_pids, x_parents, x_programs, x_places, x_states, x_statuses, x_stepCounts, x_copyCounts, x_wakeTimes, x_registers, x_pageCounts, x_pageFrames, x_held, x_frameUsers, x_frameWords, x_openHolders, x_openKinds, x_openTargets, x_openPlaces, x_openModes, x_pipeFirsts, x_pipeCounts, x_pipeWords, x_nameFiles, x_fileSizes, x_fileWords, x_safeNames, x_safeSizes, x_safeWords, x_saidInts) (nI s) 10) ∧ (∀ post : SY → Prop, post v' → wY_call_127 post (nI s) 10 (x_registers (4 * s)) (x_registers (4 * s + 1)) x_changes y_time y_last y_lastPid y_did x_greatestPid x_latestPid x_saidCount 0 y_ops y_as y_bs x_codeLengths x_pids x_parents x_programs x_places x_statuses x_stepCounts x_copyCounts y_pages y_wake y_zombie y_blocked x_registers y_memory y_frame x_held y_kind x_openTargets y_mode x_openPlaces x_pipeCounts y_pipe x_nameFiles y_size x_fileWords x_safeNames y_safeSize x_safeWords y_said) ∧ uk_R y_time t (b + 1) u' v' := by
  obtain ⟨_, vs, es⟩ := uk_lp 8 hs (by decide)
  obtain ⟨c, ec, hc⟩ := uk_aC A
  have A0 : uk_All t b x_changes x_saidCount x_time x_lastSlot x_sliceSteps x_latestPid x_greatestPid x_code x_codeLengths x_pids x_parents x_programs x_places x_states x_statuses x_stepCounts x_copyCounts x_wakeTimes x_registers x_pageCounts x_pageFrames x_held x_frameUsers x_frameWords x_openHolders x_openKinds x_openTargets x_openPlaces x_openModes x_pipeFirsts x_pipeCounts x_pipeWords x_nameFiles x_fileSizes x_fileWords x_safeNames x_safeSizes x_safeWords x_saidInts y_time y_last y_lastPid y_did 0 y_ops y_as y_bs y_pages y_wake y_zombie y_blocked y_memory y_frame y_kind y_mode y_pipe y_size y_safeSize y_said := A
  have hH := uk_aHd A s hs hp hz
  have hP : ∀ s, s < 8 → ¬ x_pids s < 0 := fun s hs => (uk_aPs A s hs).1
  have hX0 : ∀ post : SX → Prop, ((∀ d, d < 6 → x_registers (4 * s) = nI d → x_held (6 * s + d) = -1) ∨ uk_fg (fun d => x_held (6 * s + d) = -1) 6 0 = -1) → post (x_changes, x_saidCount, x_time, x_lastSlot, x_sliceSteps, x_latestPid, x_greatestPid, x_code, x_codeLengths, x_pids, x_parents, x_programs, x_places, x_states, x_statuses, x_stepCounts, x_copyCounts, x_wakeTimes, upd x_registers (4 * s) (-1), x_pageCounts, x_pageFrames, x_held, x_frameUsers, x_frameWords, x_openHolders, x_openKinds, x_openTargets, x_openPlaces, x_openModes, x_pipeFirsts, x_pipeCounts, x_pipeWords, x_nameFiles, x_fileSizes, x_fileWords, x_safeNames, x_safeSizes, x_safeWords, x_saidInts) → wpX_doCall post (x_changes, x_saidCount, x_time, x_lastSlot, x_sliceSteps, x_latestPid, x_greatestPid, x_code, x_codeLengths, x_pids, x_parents, x_programs, x_places, x_states, x_statuses, x_stepCounts, x_copyCounts, x_wakeTimes, x_registers, x_pageCounts, x_pageFrames, x_held, x_frameUsers, x_frameWords, x_openHolders, x_openKinds, x_openTargets, x_openPlaces, x_openModes, x_pipeFirsts, x_pipeCounts, x_pipeWords, x_nameFiles, x_fileSizes, x_fileWords, x_safeNames, x_safeSizes, x_safeWords, x_saidInts) (nI s) 10 := fun post hc0 h => by
    unfold wpX_doCall
    refine nm_r (uk_m4 s) ⟨vp_in_nI (by omega) (by decide), nm_r (uk_rg0 x_registers hs) ⟨uk_rgv hs, nm_r (uk_rg1 x_registers hs) (br_f (by decide) (br_f (by decide) (br_f (by decide) (br_f (by decide) (br_f (by decide) (br_f (by decide) (br_f (by decide) (br_f (by decide) (br_f (by decide) (br_f (by decide) (br_f (by decide) (br_f (by decide) (br_t rfl ?_)))))))))))))⟩⟩
    unfold wpX_copyDescriptor
    rcases hc0 with h0 | h0
    · exact xk_of0 hs hH h0 (xk_freeDescriptor (j := 0) hs (by decide) (br_t rfl (xk_tail0 hs ec hc h)))
    · rcases uk_desc A hs hp hz with h1 | ⟨d, o, hd, ho, e1, e2, k1, k2, k3, k4⟩
      · exact xk_of0 hs hH h1 (xk_freeDescriptor (j := 0) hs (by decide) (br_t rfl (xk_tail0 hs ec hc h)))
      · refine xk_of1 hs hH hd ho e1 e2 (fun _ => xk_freeDescriptor (j := 0) hs (by decide) ?_) (fun z => absurd z k3)
        rw [h0]
        exact br_f (uk_ne1 (by omega)) (br_t rfl (xk_tail0 hs ec hc h))
  rcases uk_desc A hs hp hz with h0 | ⟨d, o, hd, ho, e1, e2, k1, k2, k3, k4⟩
  · refine ⟨_, _, fun post h => hX0 post (Or.inl h0) h, fun post h => ?_, uk_end0 (g := -1) A hs hp hz hb⟩
    unfold wY_call_127
    exact br_t (by decide) (br_f (by decide) (yk_ds0 hs (by decide) (by decide) h0 (yk_tail0 hs h)))
  · have yD : ∀ post : SY → Prop, wpY_freeDescriptor (fun r => ((r < 0 → wY_call_169 post (nI s) r x_changes y_time y_last y_lastPid y_did x_greatestPid x_latestPid x_saidCount 0 y_ops y_as y_bs x_codeLengths x_pids x_parents x_programs x_places x_statuses x_stepCounts x_copyCounts y_pages y_wake y_zombie y_blocked x_registers y_memory y_frame x_held y_kind x_openTargets y_mode x_openPlaces x_pipeCounts y_pipe x_nameFiles y_size x_fileWords x_safeNames y_safeSize x_safeWords y_said) ∧ (¬ r < 0 → (vp_in ((6 * nI s) + r) 48 ∧ ∀ H', H' = upd x_held ((6 * nI s) + r).toNatClampNeg (nI o) → wY_call_169 post (nI s) r x_changes y_time y_last y_lastPid y_did x_greatestPid x_latestPid x_saidCount 0 y_ops y_as y_bs x_codeLengths x_pids x_parents x_programs x_places x_statuses x_stepCounts x_copyCounts y_pages y_wake y_zombie y_blocked x_registers y_memory y_frame H' y_kind x_openTargets y_mode x_openPlaces x_pipeCounts y_pipe x_nameFiles y_size x_fileWords x_safeNames y_safeSize x_safeWords y_said)))) (x_changes, y_time, y_last, y_lastPid, y_did, x_greatestPid, x_latestPid, x_saidCount, 0, y_ops, y_as, y_bs, x_codeLengths, x_pids, x_parents, x_programs, x_places, x_statuses, x_stepCounts, x_copyCounts, y_pages, y_wake, y_zombie, y_blocked, x_registers, y_memory, y_frame, x_held, y_kind, x_openTargets, y_mode, x_openPlaces, x_pipeCounts, y_pipe, x_nameFiles, y_size, x_fileWords, x_safeNames, y_safeSize, x_safeWords, y_said) (nI s) (nI 0) → wY_call_127 post (nI s) 10 (x_registers (4 * s)) (x_registers (4 * s + 1)) x_changes y_time y_last y_lastPid y_did x_greatestPid x_latestPid x_saidCount 0 y_ops y_as y_bs x_codeLengths x_pids x_parents x_programs x_places x_statuses x_stepCounts x_copyCounts y_pages y_wake y_zombie y_blocked x_registers y_memory y_frame x_held y_kind x_openTargets y_mode x_openPlaces x_pipeCounts y_pipe x_nameFiles y_size x_fileWords x_safeNames y_safeSize x_safeWords y_said := fun post h => by
      unfold wY_call_127
      refine br_t (by decide) (br_f (by decide) (yk_ds1 hs (by decide) (by decide) hd e1 e2 ?_))
      exact br_t (nI_pos' (by omega)) (br_f (by decide) (br_f (by decide) (br_f (by decide) h)))
    rcases uk_fgs (fun d => x_held (6 * s + d) = -1) 6 0 with ⟨f, _⟩ | ⟨i, _, hi, f, f2, _⟩
    · refine ⟨_, _, fun post h => hX0 post (Or.inr f) h, fun post h => yD post (yk_freeDescriptor hs (by decide) hH ?_), uk_end0 (g := -1) A hs hp hz hb⟩
      show _ ∧ _
      rw [f]
      exact br_t (by decide) (yk_tail0 hs h)
    · have hi6 : i < 6 := by omega
      have hWk1 := uk_du_Wk (x := nI o) (ki' := y_kind) (uk_aWk A) hi6 (uk_run1 A hs hp hz hb) (fun _ _ _ => rfl)
      have A1 : uk_All t b x_changes x_saidCount x_time x_lastSlot x_sliceSteps x_latestPid x_greatestPid x_code x_codeLengths x_pids x_parents x_programs x_places x_states x_statuses x_stepCounts x_copyCounts x_wakeTimes x_registers x_pageCounts x_pageFrames (upd x_held (6 * s + i) (nI o)) x_frameUsers x_frameWords (upd x_openHolders o (x_openHolders o + 1)) x_openKinds x_openTargets x_openPlaces x_openModes x_pipeFirsts x_pipeCounts x_pipeWords x_nameFiles x_fileSizes x_fileWords x_safeNames x_safeSizes x_safeWords x_saidInts y_time y_last y_lastPid y_did y_killed y_ops y_as y_bs y_pages y_wake y_zombie y_blocked y_memory y_frame y_kind y_mode y_pipe y_size y_safeSize y_said := ⟨uk_aG A, uk_aN A, uk_aC A, uk_aeT A, uk_aPr A, uk_aPs A, uk_aMe A, uk_aFu A, uk_HdU (uk_aHd A) (Or.inr (vp_in_nI ho (by decide))), uk_du_Ho (uk_aHo A) hs hp hz hi6 ho f2, uk_du_Ok (uk_aOk A) (uk_aHo A) hs hp hz hi6 ho f2 k1, uk_aPi A, uk_aFi A, uk_aSa A, uk_aSc A, hWk1⟩
      refine ⟨_, _, fun post h => ?_, fun post h => yD post (yk_freeDescriptor hs (by decide) hH ?_), uk_end0 (g := nI i) A1 hs hp hz hb⟩
      · unfold wpX_doCall
        refine nm_r (uk_m4 s) ⟨vp_in_nI (by omega) (by decide), nm_r (uk_rg0 x_registers hs) ⟨uk_rgv hs, nm_r (uk_rg1 x_registers hs) (br_f (by decide) (br_f (by decide) (br_f (by decide) (br_f (by decide) (br_f (by decide) (br_f (by decide) (br_f (by decide) (br_f (by decide) (br_f (by decide) (br_f (by decide) (br_f (by decide) (br_f (by decide) (br_t rfl ?_)))))))))))))⟩⟩
        unfold wpX_copyDescriptor
        refine xk_of1 hs hH hd ho e1 e2 (fun _ => xk_freeDescriptor (j := 0) hs (by decide) ?_) (fun z => absurd z k3)
        rw [f, uk_m6, nI_add, nI_clamp (show 6 * s + i < 2 ^ 31 by omega), nI_clamp (show o < 2 ^ 31 by omega)]
        have vo : vp_in (nI o) 12 := vp_in_nI ho (by decide)
        exact br_f (uk_ne1 (by omega)) (br_f (uk_ne1 (by omega)) ⟨vp_in_nI (by omega) (by decide), nm_e ⟨vo, vo, nm_e (xk_tail0 hs ec hc h)⟩⟩)
      · show _ ∧ _
        rw [f, uk_6m, nI_add, nI_clamp (show 6 * s + i < 2 ^ 31 by omega)]
        exact br_f (nI_pos (by omega)) ⟨vp_in_nI (by omega) (by decide), nm_e (yk_tail0 hs h)⟩
theorem uk_call2 {t b s : Nat} (A : uk_All t b x_changes x_saidCount x_time x_lastSlot x_sliceSteps x_latestPid x_greatestPid x_code x_codeLengths x_pids x_parents x_programs x_places x_states x_statuses x_stepCounts x_copyCounts x_wakeTimes x_registers x_pageCounts x_pageFrames x_held x_frameUsers x_frameWords x_openHolders x_openKinds x_openTargets x_openPlaces x_openModes x_pipeFirsts x_pipeCounts x_pipeWords x_nameFiles x_fileSizes x_fileWords x_safeNames x_safeSizes x_safeWords x_saidInts y_time y_last y_lastPid y_did y_killed y_ops y_as y_bs y_pages y_wake y_zombie y_blocked y_memory y_frame y_kind y_mode y_pipe y_size y_safeSize y_said) (hs : s < 8) (hp : x_pids s ≠ 0) (hz : y_zombie s = 0) (hb : y_blocked s = 0) :
  ∃ u' v', (∀ post : SX → Prop, post u' → wpX_doCall post (x_changes, x_saidCount, x_time, x_lastSlot, x_sliceSteps, x_latestPid, x_greatestPid, x_code, x_codeLengths, x_pids, x_parents, x_programs, x_places, x_states, x_statuses, x_stepCounts, x_copyCounts, x_wakeTimes, x_registers, x_pageCounts, x_pageFrames, x_held, x_frameUsers, x_frameWords, x_openHolders, x_openKinds, x_openTargets, x_openPlaces, x_openModes, x_pipeFirsts, x_pipeCounts, x_pipeWords, x_nameFiles, x_fileSizes, x_fileWords, x_safeNames, x_safeSizes, x_safeWords, x_saidInts) (nI s) 2) ∧ (∀ post : SY → Prop, post v' → wY_call_127 post (nI s) 2 (x_registers (4 * s)) (x_registers (4 * s + 1)) x_changes y_time y_last y_lastPid y_did x_greatestPid x_latestPid x_saidCount 0 y_ops y_as y_bs x_codeLengths x_pids x_parents x_programs x_places x_statuses x_stepCounts x_copyCounts y_pages y_wake y_zombie y_blocked x_registers y_memory y_frame x_held y_kind x_openTargets y_mode x_openPlaces x_pipeCounts y_pipe x_nameFiles y_size x_fileWords x_safeNames y_safeSize x_safeWords y_said) ∧ uk_R y_time t (b + 1) u' v' := by
  obtain ⟨_, vs, es⟩ := uk_lp 8 hs (by decide)
  obtain ⟨c, ec, hc⟩ := uk_aC A
  have A0 : uk_All t b x_changes x_saidCount x_time x_lastSlot x_sliceSteps x_latestPid x_greatestPid x_code x_codeLengths x_pids x_parents x_programs x_places x_states x_statuses x_stepCounts x_copyCounts x_wakeTimes x_registers x_pageCounts x_pageFrames x_held x_frameUsers x_frameWords x_openHolders x_openKinds x_openTargets x_openPlaces x_openModes x_pipeFirsts x_pipeCounts x_pipeWords x_nameFiles x_fileSizes x_fileWords x_safeNames x_safeSizes x_safeWords x_saidInts y_time y_last y_lastPid y_did 0 y_ops y_as y_bs y_pages y_wake y_zombie y_blocked y_memory y_frame y_kind y_mode y_pipe y_size y_safeSize y_said := A
  have hH := uk_aHd A s hs hp hz
  have hP : ∀ s, s < 8 → ¬ x_pids s < 0 := fun s hs => (uk_aPs A s hs).1
  have hz1 := uk_bes x_pids (fun c => x_pids c ≠ 0 ∧ x_states c = 3 ∧ x_parents c = x_pids s) 8
  rcases hz1 with ⟨f, _⟩ | ⟨z, hz8, f, f1, f2, f3⟩
  · refine ⟨_, _, fun post h => ?_, fun post h => ?_, uk_end0 (g := -1) A hs hp hz hb⟩
    · unfold wpX_doCall
      refine nm_r (uk_m4 s) ⟨vp_in_nI (by omega) (by decide), nm_r (uk_rg0 x_registers hs) ⟨uk_rgv hs, nm_r (uk_rg1 x_registers hs) (br_f (by decide) (br_f (by decide) (br_f (by decide) (br_f (by decide) (br_t rfl ?_)))))⟩⟩
      unfold wpX_reapChild
      refine xk_leastZombie hs ?_
      rw [f]
      exact br_t rfl (xk_tail0 hs ec hc h)
    · unfold wY_call_127
      refine br_f (by decide) ?_
      unfold wpY_family
      refine br_f (by decide) (br_t rfl (yk_child1 (uk_aPs A) hs ?_))
      rw [f]
      exact br_f (by decide) (yk_tail0 hs h)
  · have zz := (uk_zst (uk_aPs A) hz8 f1).mp f2
    have hpg : x_pids z ≠ 0 → y_pages z = 0 := fun w => by
      obtain ⟨n, _, _, k3, k4, _⟩ := uk_aMe A z hz8 w
      rw [k3, k4 zz]; rfl
    have hsz : s ≠ z := fun w => by subst w; exact absurd (hz.symm.trans zz) (by decide)
    have A1 : uk_All t b x_changes x_saidCount x_time x_lastSlot x_sliceSteps x_latestPid x_greatestPid x_code x_codeLengths (upd x_pids z 0) x_parents x_programs x_places x_states x_statuses x_stepCounts x_copyCounts x_wakeTimes x_registers x_pageCounts x_pageFrames x_held x_frameUsers x_frameWords x_openHolders x_openKinds x_openTargets x_openPlaces x_openModes x_pipeFirsts x_pipeCounts x_pipeWords x_nameFiles x_fileSizes x_fileWords x_safeNames x_safeSizes x_safeWords x_saidInts y_time y_last y_lastPid y_did y_killed y_ops y_as y_bs y_pages y_wake y_zombie y_blocked y_memory y_frame y_kind y_mode y_pipe y_size y_safeSize y_said := ⟨uk_aG A, uk_aN A, uk_aC A, uk_aeT A, uk_aPr A, uk_P0_Ps z (uk_aPs A), uk_P0_Me z (uk_aMe A), uk_P0_Fu z (uk_aFu A) hpg, uk_P0_Hd z (uk_aHd A), uk_P0_Ho z (uk_aHo A) (fun o _ => uk_hw0 (fun w => absurd (zz.symm.trans w.2) (by decide))), uk_aOk A, uk_aPi A, uk_aFi A, uk_aSa A, uk_P0_Sc z (uk_aSc A), uk_P0_Wk z (uk_aWk A)⟩
    have hp1 : upd x_pids z 0 s ≠ 0 := by rw [pk_un hsz]; exact hp
    have A2 := uk_All_reg (i := 1) (x := x_statuses z) A1 hs hp1 hz hb (by decide)
    have vz : vp_in (nI z) 8 := vp_in_nI hz8 (by decide)
    refine ⟨_, _, fun post h => ?_, fun post h => ?_, uk_end0 (g := x_pids z) A2 hs hp1 hz hb⟩
    · unfold wpX_doCall
      refine nm_r (uk_m4 s) ⟨vp_in_nI (by omega) (by decide), nm_r (uk_rg0 x_registers hs) ⟨uk_rgv hs, nm_r (uk_rg1 x_registers hs) (br_f (by decide) (br_f (by decide) (br_f (by decide) (br_f (by decide) (br_t rfl ?_)))))⟩⟩
      unfold wpX_reapChild
      refine xk_leastZombie hs ?_
      rw [f, uk_m4, nI_1, nI_clamp (show 4 * s + 1 < 2 ^ 31 by omega), nI_clamp (show z < 2 ^ 31 by omega)]
      exact br_f (uk_ne1 (by omega)) ⟨vz, nm_e ⟨vz, vp_in_nI (by omega) (by decide), nm_e ⟨vz, nm_e (xk_tail0 hs ec hc h)⟩⟩⟩
    · unfold wY_call_127
      refine br_f (by decide) ?_
      unfold wpY_family
      refine br_f (by decide) (br_t rfl (yk_child1 (uk_aPs A) hs ?_))
      rw [f, uk_4m, nI_1, nI_clamp (show 4 * s + 1 < 2 ^ 31 by omega), nI_clamp (show z < 2 ^ 31 by omega)]
      exact br_t (nI_pos' (by omega)) ⟨vz, nm_e ⟨vz, vp_in_nI (by omega) (by decide), nm_e ⟨vz, nm_e (yk_tail0 hs h)⟩⟩⟩
end
end
section
/-! the calls, third part -/
section
variable {x_changes x_saidCount x_time x_lastSlot x_sliceSteps x_latestPid x_greatestPid : Int32} {x_code x_codeLengths x_pids x_parents x_programs x_places x_states x_statuses x_stepCounts x_copyCounts x_wakeTimes x_registers x_pageCounts x_pageFrames x_held x_frameUsers x_frameWords x_openHolders x_openKinds x_openTargets x_openPlaces x_openModes x_pipeFirsts x_pipeCounts x_pipeWords x_nameFiles x_fileSizes x_fileWords x_safeNames x_safeSizes x_safeWords x_saidInts : Nat → Int32} {y_time y_last y_lastPid y_did y_killed : Int32} {y_ops y_as y_bs y_pages y_wake y_zombie y_blocked y_memory y_frame y_kind y_mode y_pipe y_size y_safeSize y_said : Nat → Int32}
theorem uk_call3 {t b s : Nat} (A : uk_All t b x_changes x_saidCount x_time x_lastSlot x_sliceSteps x_latestPid x_greatestPid x_code x_codeLengths x_pids x_parents x_programs x_places x_states x_statuses x_stepCounts x_copyCounts x_wakeTimes x_registers x_pageCounts x_pageFrames x_held x_frameUsers x_frameWords x_openHolders x_openKinds x_openTargets x_openPlaces x_openModes x_pipeFirsts x_pipeCounts x_pipeWords x_nameFiles x_fileSizes x_fileWords x_safeNames x_safeSizes x_safeWords x_saidInts y_time y_last y_lastPid y_did y_killed y_ops y_as y_bs y_pages y_wake y_zombie y_blocked y_memory y_frame y_kind y_mode y_pipe y_size y_safeSize y_said) (hs : s < 8) (hp : x_pids s ≠ 0) (hz : y_zombie s = 0) (hb : y_blocked s = 0) :
  ∃ u' v', (∀ post : SX → Prop, post u' → wpX_doCall post (x_changes, x_saidCount, x_time, x_lastSlot, x_sliceSteps, x_latestPid, x_greatestPid, x_code, x_codeLengths, x_pids, x_parents, x_programs, x_places, x_states, x_statuses, x_stepCounts, x_copyCounts, x_wakeTimes, x_registers, x_pageCounts, x_pageFrames, x_held, x_frameUsers, x_frameWords, x_openHolders, x_openKinds, x_openTargets, x_openPlaces, x_openModes, x_pipeFirsts, x_pipeCounts, x_pipeWords, x_nameFiles, x_fileSizes, x_fileWords, x_safeNames, x_safeSizes, x_safeWords, x_saidInts) (nI s) 3) ∧ (∀ post : SY → Prop, post v' → wY_call_127 post (nI s) 3 (x_registers (4 * s)) (x_registers (4 * s + 1)) x_changes y_time y_last y_lastPid y_did x_greatestPid x_latestPid x_saidCount 0 y_ops y_as y_bs x_codeLengths x_pids x_parents x_programs x_places x_statuses x_stepCounts x_copyCounts y_pages y_wake y_zombie y_blocked x_registers y_memory y_frame x_held y_kind x_openTargets y_mode x_openPlaces x_pipeCounts y_pipe x_nameFiles y_size x_fileWords x_safeNames y_safeSize x_safeWords y_said) ∧ uk_R y_time t (b + 1) u' v' := by
  obtain ⟨_, vs, es⟩ := uk_lp 8 hs (by decide)
  obtain ⟨c, ec, hc⟩ := uk_aC A
  have A0 : uk_All t b x_changes x_saidCount x_time x_lastSlot x_sliceSteps x_latestPid x_greatestPid x_code x_codeLengths x_pids x_parents x_programs x_places x_states x_statuses x_stepCounts x_copyCounts x_wakeTimes x_registers x_pageCounts x_pageFrames x_held x_frameUsers x_frameWords x_openHolders x_openKinds x_openTargets x_openPlaces x_openModes x_pipeFirsts x_pipeCounts x_pipeWords x_nameFiles x_fileSizes x_fileWords x_safeNames x_safeSizes x_safeWords x_saidInts y_time y_last y_lastPid y_did 0 y_ops y_as y_bs y_pages y_wake y_zombie y_blocked y_memory y_frame y_kind y_mode y_pipe y_size y_safeSize y_said := A
  have hH := uk_aHd A s hs hp hz
  have hP : ∀ s, s < 8 → ¬ x_pids s < 0 := fun s hs => (uk_aPs A s hs).1
  have hXn : ∀ post : SX → Prop, (x_registers (4 * s) < 1 ∨ uk_ff (fun i => x_pids i = x_registers (4 * s)) 8 = -1) → post (x_changes, x_saidCount, x_time, x_lastSlot, x_sliceSteps, x_latestPid, x_greatestPid, x_code, x_codeLengths, x_pids, x_parents, x_programs, x_places, x_states, x_statuses, x_stepCounts, x_copyCounts, x_wakeTimes, upd x_registers (4 * s) (-1), x_pageCounts, x_pageFrames, x_held, x_frameUsers, x_frameWords, x_openHolders, x_openKinds, x_openTargets, x_openPlaces, x_openModes, x_pipeFirsts, x_pipeCounts, x_pipeWords, x_nameFiles, x_fileSizes, x_fileWords, x_safeNames, x_safeSizes, x_safeWords, x_saidInts) → wpX_doCall post (x_changes, x_saidCount, x_time, x_lastSlot, x_sliceSteps, x_latestPid, x_greatestPid, x_code, x_codeLengths, x_pids, x_parents, x_programs, x_places, x_states, x_statuses, x_stepCounts, x_copyCounts, x_wakeTimes, x_registers, x_pageCounts, x_pageFrames, x_held, x_frameUsers, x_frameWords, x_openHolders, x_openKinds, x_openTargets, x_openPlaces, x_openModes, x_pipeFirsts, x_pipeCounts, x_pipeWords, x_nameFiles, x_fileSizes, x_fileWords, x_safeNames, x_safeSizes, x_safeWords, x_saidInts) (nI s) 3 := fun post hn h => by
    unfold wpX_doCall
    refine nm_r (uk_m4 s) ⟨vp_in_nI (by omega) (by decide), nm_r (uk_rg0 x_registers hs) ⟨uk_rgv hs, nm_r (uk_rg1 x_registers hs) (br_f (by decide) (br_f (by decide) (br_f (by decide) (br_f (by decide) (br_f (by decide) (br_t rfl ?_))))))⟩⟩
    unfold wpX_killProcess
    refine xk_findSlot (fun _ => br_t rfl (xk_tail0 hs ec hc h)) (fun a => ?_)
    rcases hn with hn | hn
    · exact absurd hn a
    · rw [hn]
      exact br_t rfl (xk_tail0 hs ec hc h)
  have hYn : ∀ post : SY → Prop, (x_registers (4 * s) < 1 ∨ uk_ff (fun i => x_pids i = x_registers (4 * s)) 8 = -1) → post (x_changes, y_time, y_last, y_lastPid, y_did, x_greatestPid, x_latestPid, x_saidCount, 0, y_ops, y_as, y_bs, x_codeLengths, x_pids, x_parents, x_programs, x_places, x_statuses, x_stepCounts, x_copyCounts, y_pages, y_wake, y_zombie, y_blocked, upd x_registers (4 * s) (-1), y_memory, y_frame, x_held, y_kind, x_openTargets, y_mode, x_openPlaces, x_pipeCounts, y_pipe, x_nameFiles, y_size, x_fileWords, x_safeNames, y_safeSize, x_safeWords, y_said) → wY_call_127 post (nI s) 3 (x_registers (4 * s)) (x_registers (4 * s + 1)) x_changes y_time y_last y_lastPid y_did x_greatestPid x_latestPid x_saidCount 0 y_ops y_as y_bs x_codeLengths x_pids x_parents x_programs x_places x_statuses x_stepCounts x_copyCounts y_pages y_wake y_zombie y_blocked x_registers y_memory y_frame x_held y_kind x_openTargets y_mode x_openPlaces x_pipeCounts y_pipe x_nameFiles y_size x_fileWords x_safeNames y_safeSize x_safeWords y_said := fun post hn h => by
    unfold wY_call_127
    refine br_f (by decide) ?_
    unfold wpY_family
    refine br_f (by decide) (br_f (by decide) (br_t rfl (yk_slotOf (fun _ => br_t (by decide) (yk_tail0 hs h)) (fun a => ?_))))
    rcases hn with hn | hn
    · exact absurd hn a
    · rw [hn]
      exact br_t (by decide) (yk_tail0 hs h)
  by_cases hlt : x_registers (4 * s) < 1
  · exact ⟨_, _, fun post h => hXn post (Or.inl hlt) h, fun post h => hYn post (Or.inl hlt) h, uk_end0 (g := -1) A hs hp hz hb⟩
  rcases uk_slot (P := x_pids) hlt with hn | ⟨e, he, f, f1, f2⟩
  · exact ⟨_, _, fun post h => hXn post (Or.inr hn) h, fun post h => hYn post (Or.inr hn) h, uk_end0 (g := -1) A hs hp hz hb⟩
  obtain ⟨_, ve, ee⟩ := uk_lp 8 he (by decide)
  have hX1 : ∀ post : SX → Prop, (((x_states e = 3 → wX_doCall_344 post (nI (4 * s)) (-1) x_changes x_saidCount x_time x_lastSlot x_sliceSteps x_latestPid x_greatestPid x_code x_codeLengths x_pids x_parents x_programs x_places x_states x_statuses x_stepCounts x_copyCounts x_wakeTimes x_registers x_pageCounts x_pageFrames x_held x_frameUsers x_frameWords x_openHolders x_openKinds x_openTargets x_openPlaces x_openModes x_pipeFirsts x_pipeCounts x_pipeWords x_nameFiles x_fileSizes x_fileWords x_safeNames x_safeSizes x_safeWords x_saidInts) ∧ (¬ x_states e = 3 → wpX_endProcess (fun u => match u with | (x_changes, x_saidCount, x_time, x_lastSlot, x_sliceSteps, x_latestPid, x_greatestPid, x_code, x_codeLengths, x_pids, x_parents, x_programs, x_places, x_states, x_statuses, x_stepCounts, x_copyCounts, x_wakeTimes, x_registers, x_pageCounts, x_pageFrames, x_held, x_frameUsers, x_frameWords, x_openHolders, x_openKinds, x_openTargets, x_openPlaces, x_openModes, x_pipeFirsts, x_pipeCounts, x_pipeWords, x_nameFiles, x_fileSizes, x_fileWords, x_safeNames, x_safeSizes, x_safeWords, x_saidInts) => wX_doCall_344 post (nI (4 * s)) 0 x_changes x_saidCount x_time x_lastSlot x_sliceSteps x_latestPid x_greatestPid x_code x_codeLengths x_pids x_parents x_programs x_places x_states x_statuses x_stepCounts x_copyCounts x_wakeTimes x_registers x_pageCounts x_pageFrames x_held x_frameUsers x_frameWords x_openHolders x_openKinds x_openTargets x_openPlaces x_openModes x_pipeFirsts x_pipeCounts x_pipeWords x_nameFiles x_fileSizes x_fileWords x_safeNames x_safeSizes x_safeWords x_saidInts) (x_changes, x_saidCount, x_time, x_lastSlot, x_sliceSteps, x_latestPid, x_greatestPid, x_code, x_codeLengths, x_pids, x_parents, x_programs, x_places, x_states, x_statuses, x_stepCounts, x_copyCounts, x_wakeTimes, x_registers, x_pageCounts, x_pageFrames, x_held, x_frameUsers, x_frameWords, x_openHolders, x_openKinds, x_openTargets, x_openPlaces, x_openModes, x_pipeFirsts, x_pipeCounts, x_pipeWords, x_nameFiles, x_fileSizes, x_fileWords, x_safeNames, x_safeSizes, x_safeWords, x_saidInts) (nI e) (-1)))) → wpX_doCall post (x_changes, x_saidCount, x_time, x_lastSlot, x_sliceSteps, x_latestPid, x_greatestPid, x_code, x_codeLengths, x_pids, x_parents, x_programs, x_places, x_states, x_statuses, x_stepCounts, x_copyCounts, x_wakeTimes, x_registers, x_pageCounts, x_pageFrames, x_held, x_frameUsers, x_frameWords, x_openHolders, x_openKinds, x_openTargets, x_openPlaces, x_openModes, x_pipeFirsts, x_pipeCounts, x_pipeWords, x_nameFiles, x_fileSizes, x_fileWords, x_safeNames, x_safeSizes, x_safeWords, x_saidInts) (nI s) 3 := fun post h => by
    unfold wpX_doCall
    refine nm_r (uk_m4 s) ⟨vp_in_nI (by omega) (by decide), nm_r (uk_rg0 x_registers hs) ⟨uk_rgv hs, nm_r (uk_rg1 x_registers hs) (br_f (by decide) (br_f (by decide) (br_f (by decide) (br_f (by decide) (br_f (by decide) (br_t rfl ?_))))))⟩⟩
    unfold wpX_killProcess
    refine xk_findSlot (fun w => absurd w hlt) (fun _ => ?_)
    rw [f]
    refine br_f (uk_ne1 (by omega)) ⟨ve, ?_⟩
    rw [ee]
    exact h
  have hY1 : ∀ post : SY → Prop, ((y_zombie e = 0 → ((nI e = nI s → wpY_kill (fun u => match u with | (y_changes, y_time, y_last, y_lastPid, y_did, y_greatest, y_stepped, y_says, y_killed, y_ops, y_as, y_bs, y_length, y_pid, y_parent, y_program, y_pc, y_status, y_steps, y_copies, y_pages, y_wake, y_zombie, y_blocked, y_reg, y_memory, y_frame, y_descriptor, y_kind, y_of, y_mode, y_place, y_piped, y_pipe, y_names, y_size, y_words, y_safeNames, y_safeSize, y_safeWords, y_said) => wY_call_169 post (nI s) 0 y_changes y_time y_last y_lastPid y_did y_greatest y_stepped y_says y_killed y_ops y_as y_bs y_length y_pid y_parent y_program y_pc y_status y_steps y_copies y_pages y_wake y_zombie y_blocked y_reg y_memory y_frame y_descriptor y_kind y_of y_mode y_place y_piped y_pipe y_names y_size y_words y_safeNames y_safeSize y_safeWords y_said) (x_changes, y_time, y_last, y_lastPid, y_did, x_greatestPid, x_latestPid, x_saidCount, 0, y_ops, y_as, y_bs, x_codeLengths, x_pids, x_parents, x_programs, x_places, x_statuses, x_stepCounts, x_copyCounts, y_pages, y_wake, y_zombie, y_blocked, upd x_registers (4 * s) 0, y_memory, y_frame, x_held, y_kind, x_openTargets, y_mode, x_openPlaces, x_pipeCounts, y_pipe, x_nameFiles, y_size, x_fileWords, x_safeNames, y_safeSize, x_safeWords, y_said) (nI e)) ∧ (¬ nI e = nI s → wpY_exit (fun u => match u with | (y_changes, y_time, y_last, y_lastPid, y_did, y_greatest, y_stepped, y_says, y_killed, y_ops, y_as, y_bs, y_length, y_pid, y_parent, y_program, y_pc, y_status, y_steps, y_copies, y_pages, y_wake, y_zombie, y_blocked, y_reg, y_memory, y_frame, y_descriptor, y_kind, y_of, y_mode, y_place, y_piped, y_pipe, y_names, y_size, y_words, y_safeNames, y_safeSize, y_safeWords, y_said) => wY_call_169 post (nI s) 0 y_changes y_time y_last y_lastPid y_did y_greatest y_stepped y_says y_killed y_ops y_as y_bs y_length y_pid y_parent y_program y_pc y_status y_steps y_copies y_pages y_wake y_zombie y_blocked y_reg y_memory y_frame y_descriptor y_kind y_of y_mode y_place y_piped y_pipe y_names y_size y_words y_safeNames y_safeSize y_safeWords y_said) (x_changes, y_time, y_last, y_lastPid, y_did, x_greatestPid, x_latestPid, x_saidCount, 0, y_ops, y_as, y_bs, x_codeLengths, x_pids, x_parents, x_programs, x_places, x_statuses, x_stepCounts, x_copyCounts, y_pages, y_wake, y_zombie, y_blocked, upd x_registers (4 * s) 0, y_memory, y_frame, x_held, y_kind, x_openTargets, y_mode, x_openPlaces, x_pipeCounts, y_pipe, x_nameFiles, y_size, x_fileWords, x_safeNames, y_safeSize, x_safeWords, y_said) (nI e) (-1)))) ∧ (¬ y_zombie e = 0 → wY_call_169 post (nI s) (-1) x_changes y_time y_last y_lastPid y_did x_greatestPid x_latestPid x_saidCount 0 y_ops y_as y_bs x_codeLengths x_pids x_parents x_programs x_places x_statuses x_stepCounts x_copyCounts y_pages y_wake y_zombie y_blocked x_registers y_memory y_frame x_held y_kind x_openTargets y_mode x_openPlaces x_pipeCounts y_pipe x_nameFiles y_size x_fileWords x_safeNames y_safeSize x_safeWords y_said)) → wY_call_127 post (nI s) 3 (x_registers (4 * s)) (x_registers (4 * s + 1)) x_changes y_time y_last y_lastPid y_did x_greatestPid x_latestPid x_saidCount 0 y_ops y_as y_bs x_codeLengths x_pids x_parents x_programs x_places x_statuses x_stepCounts x_copyCounts y_pages y_wake y_zombie y_blocked x_registers y_memory y_frame x_held y_kind x_openTargets y_mode x_openPlaces x_pipeCounts y_pipe x_nameFiles y_size x_fileWords x_safeNames y_safeSize x_safeWords y_said := fun post h => by
    unfold wY_call_127
    refine br_f (by decide) ?_
    unfold wpY_family
    refine br_f (by decide) (br_f (by decide) (br_t rfl (yk_slotOf (fun w => absurd w hlt) (fun _ => ?_))))
    rw [f]
    refine br_f (nI_pos (by omega)) ⟨ve, ?_⟩
    rw [ee, uk_4m, nI_clamp (show 4 * s < 2 ^ 31 by omega)]
    exact ⟨fun a => ⟨vp_in_nI (by omega) (by decide), nm_e (h.1 a)⟩, h.2⟩
  by_cases hze : y_zombie e = 0
  · have hst : ¬ x_states e = 3 := fun w => absurd (((uk_zst (uk_aPs A) he f2).mp w).symm.trans hze) (by decide)
    obtain ⟨P', Q', zo', oh', ki', sz', fu', a1, a2, a3, a4, a5, a6, a7, a8, a9, a10, a11⟩ := uk_exit (x_changes := x_changes) (x_saidCount := x_saidCount) (x_time := x_time) (x_lastSlot := x_lastSlot) (x_sliceSteps := x_sliceSteps) (x_latestPid := x_latestPid) (x_greatestPid := x_greatestPid) (x_code := x_code) (x_codeLengths := x_codeLengths) (x_pids := x_pids) (x_parents := x_parents) (x_programs := x_programs) (x_places := x_places) (x_states := x_states) (x_statuses := x_statuses) (x_stepCounts := x_stepCounts) (x_copyCounts := x_copyCounts) (x_wakeTimes := x_wakeTimes) (x_registers := x_registers) (x_pageCounts := x_pageCounts) (x_pageFrames := x_pageFrames) (x_held := x_held) (x_frameUsers := x_frameUsers) (x_frameWords := x_frameWords) (x_openHolders := x_openHolders) (x_openKinds := x_openKinds) (x_openTargets := x_openTargets) (x_openPlaces := x_openPlaces) (x_openModes := x_openModes) (x_pipeFirsts := x_pipeFirsts) (x_pipeCounts := x_pipeCounts) (x_pipeWords := x_pipeWords) (x_nameFiles := x_nameFiles) (x_fileSizes := x_fileSizes) (x_fileWords := x_fileWords) (x_safeNames := x_safeNames) (x_safeSizes := x_safeSizes) (x_safeWords := x_safeWords) (x_saidInts := x_saidInts) (y_time := y_time) (y_last := y_last) (y_lastPid := y_lastPid) (y_did := y_did) (y_killed := 0) (y_ops := y_ops) (y_as := y_as) (y_bs := y_bs) (y_pages := y_pages) (y_wake := y_wake) (y_zombie := y_zombie) (y_blocked := y_blocked) (y_memory := y_memory) (y_frame := y_frame) (y_kind := y_kind) (y_mode := y_mode) (y_pipe := y_pipe) (y_size := y_size) (y_safeSize := y_safeSize) (y_said := y_said) (y_reg := upd x_registers (4 * s) 0) (-1) he f2 hze (uk_aPs A) (uk_aMe A) (uk_aFu A) (uk_aHd A) (uk_aHo A) (uk_aOk A) (uk_aFi A) (uk_aSc A) (uk_aWk A)
    have hr := uk_run1 A hs hp hz hb
    have hWk1 := uk_WkC (R' := upd x_registers (4 * s) 0) (Nat.le_refl t) a9 (P' := P') (zo' := zo') (bl' := upd y_blocked e 0) (G' := x_programs) (L' := x_places) (wt' := x_wakeTimes) (wk' := y_wake) (H' := uk_fl x_held (6 * e) (fun _ => -1) 6) (ki' := ki') (fun s' hs' hp' hz' => by
      by_cases w : s' = s
      · subst w
        by_cases w2 : s' = e
        · subst w2
          rcases (a1 s' hs').2.2.2.2.2.2 hp' with ⟨q1, _⟩ | ⟨_, _, q⟩
          · exact absurd (q1.symm.trans hz') (by decide)
          · have e3 : upd x_states s' 3 s' = 3 := pk_us
            rw [e3] at q
            rcases q with ⟨_, q⟩ | ⟨_, q⟩ <;> exact absurd q (by decide)
        · exact Or.inl ⟨(pk_un w2).trans hr.1, hr.2⟩
      · exact Or.inr ⟨hp', hz', rfl, rfl, rfl, rfl, rfl, pk_un (by omega), fun _ _ => rfl, fun _ _ _ _ _ _ => rfl⟩)
    have A' : uk_All t b x_changes x_saidCount x_time x_lastSlot x_sliceSteps x_latestPid x_greatestPid x_code x_codeLengths P' Q' x_programs x_places (upd x_states e 3) (upd x_statuses e (-1)) x_stepCounts x_copyCounts x_wakeTimes (upd x_registers (4 * s) 0) (upd x_pageCounts e 0) x_pageFrames (uk_fl x_held (6 * e) (fun _ => -1) 6) fu' x_frameWords oh' x_openKinds x_openTargets x_openPlaces x_openModes x_pipeFirsts x_pipeCounts x_pipeWords x_nameFiles x_fileSizes x_fileWords x_safeNames x_safeSizes x_safeWords x_saidInts y_time y_last y_lastPid y_did y_killed y_ops y_as y_bs (upd y_pages e 0) y_wake zo' (upd y_blocked e 0) y_memory y_frame ki' y_mode y_pipe sz' y_safeSize y_said := ⟨uk_aG A, uk_aN A, uk_aC A, uk_aeT A, uk_aPr A, a1, a2, a3, a4, a5, a6, uk_aPi A, a7, uk_aSa A, a8, hWk1⟩
    by_cases hes : nI e = nI s
    · refine ⟨_, _, fun post h => hX1 post (br_f hst (a10 _ (xk_tail0 hs ec hc h))), fun post h => hY1 post (br_t hze (br_t hes ?_)), uk_RmkK 1 (uk_up1 (Nat.le_succ b) A')⟩
      unfold wpY_kill
      refine a11 _ ?_
      exact br_f (by decide) h
    · refine ⟨_, _, fun post h => hX1 post (br_f hst (a10 _ (xk_tail0 hs ec hc h))), fun post h => hY1 post (br_t hze (br_f hes ?_)), uk_RmkK 0 (uk_up1 (Nat.le_succ b) A')⟩
      refine a11 _ (yk_tail0 hs ?_)
      rw [uk_uu]
      exact h
  · have hst := (uk_zst (uk_aPs A) he f2).mpr ((uk_aPs A e he).2.2.2.2.1.resolve_left hze)
    exact ⟨_, _, fun post h => hX1 post (br_t hst (xk_tail0 hs ec hc h)), fun post h => hY1 post (br_f hze (yk_tail0 hs h)), uk_end0 (g := -1) A hs hp hz hb⟩
theorem uk_nfre {t b f o : Nat} (A : uk_All t b x_changes x_saidCount x_time x_lastSlot x_sliceSteps x_latestPid x_greatestPid x_code x_codeLengths x_pids x_parents x_programs x_places x_states x_statuses x_stepCounts x_copyCounts x_wakeTimes x_registers x_pageCounts x_pageFrames x_held x_frameUsers x_frameWords x_openHolders x_openKinds x_openTargets x_openPlaces x_openModes x_pipeFirsts x_pipeCounts x_pipeWords x_nameFiles x_fileSizes x_fileWords x_safeNames x_safeSizes x_safeWords x_saidInts y_time y_last y_lastPid y_did y_killed y_ops y_as y_bs y_pages y_wake y_zombie y_blocked y_memory y_frame y_kind y_mode y_pipe y_size y_safeSize y_said) (ho : o < 12) (hf : f < 8) (hk : y_kind o = 1) (hT : x_openTargets o = nI f) : ¬ uk_fre x_nameFiles y_kind x_openTargets f ∧ x_fileSizes f = y_size f ∧ ∃ m, m ≤ 16 ∧ y_size f = nI m := by
  have h : ¬ uk_fre x_nameFiles y_kind x_openTargets f := fun z => z.2 o ho ⟨hk, hT⟩
  obtain ⟨h1, _, h3⟩ := (uk_aFi A).2 f hf
  obtain ⟨m, hm, em⟩ := vp_in_of h1 (by decide)
  exact ⟨h, h3 h, m, by omega, em⟩
theorem uk_call17 {t b s : Nat} (A : uk_All t b x_changes x_saidCount x_time x_lastSlot x_sliceSteps x_latestPid x_greatestPid x_code x_codeLengths x_pids x_parents x_programs x_places x_states x_statuses x_stepCounts x_copyCounts x_wakeTimes x_registers x_pageCounts x_pageFrames x_held x_frameUsers x_frameWords x_openHolders x_openKinds x_openTargets x_openPlaces x_openModes x_pipeFirsts x_pipeCounts x_pipeWords x_nameFiles x_fileSizes x_fileWords x_safeNames x_safeSizes x_safeWords x_saidInts y_time y_last y_lastPid y_did y_killed y_ops y_as y_bs y_pages y_wake y_zombie y_blocked y_memory y_frame y_kind y_mode y_pipe y_size y_safeSize y_said) (hs : s < 8) (hp : x_pids s ≠ 0) (hz : y_zombie s = 0) (hb : y_blocked s = 0) :
  ∃ u' v', (∀ post : SX → Prop, post u' → wpX_doCall post (x_changes, x_saidCount, x_time, x_lastSlot, x_sliceSteps, x_latestPid, x_greatestPid, x_code, x_codeLengths, x_pids, x_parents, x_programs, x_places, x_states, x_statuses, x_stepCounts, x_copyCounts, x_wakeTimes, x_registers, x_pageCounts, x_pageFrames, x_held, x_frameUsers, x_frameWords, x_openHolders, x_openKinds, x_openTargets, x_openPlaces, x_openModes, x_pipeFirsts, x_pipeCounts, x_pipeWords, x_nameFiles, x_fileSizes, x_fileWords, x_safeNames, x_safeSizes, x_safeWords, x_saidInts) (nI s) 17) ∧ (∀ post : SY → Prop, post v' → wY_call_127 post (nI s) 17 (x_registers (4 * s)) (x_registers (4 * s + 1)) x_changes y_time y_last y_lastPid y_did x_greatestPid x_latestPid x_saidCount 0 y_ops y_as y_bs x_codeLengths x_pids x_parents x_programs x_places x_statuses x_stepCounts x_copyCounts y_pages y_wake y_zombie y_blocked x_registers y_memory y_frame x_held y_kind x_openTargets y_mode x_openPlaces x_pipeCounts y_pipe x_nameFiles y_size x_fileWords x_safeNames y_safeSize x_safeWords y_said) ∧ uk_R y_time t (b + 1) u' v' := by
  obtain ⟨_, vs, es⟩ := uk_lp 8 hs (by decide)
  obtain ⟨c, ec, hc⟩ := uk_aC A
  have A0 : uk_All t b x_changes x_saidCount x_time x_lastSlot x_sliceSteps x_latestPid x_greatestPid x_code x_codeLengths x_pids x_parents x_programs x_places x_states x_statuses x_stepCounts x_copyCounts x_wakeTimes x_registers x_pageCounts x_pageFrames x_held x_frameUsers x_frameWords x_openHolders x_openKinds x_openTargets x_openPlaces x_openModes x_pipeFirsts x_pipeCounts x_pipeWords x_nameFiles x_fileSizes x_fileWords x_safeNames x_safeSizes x_safeWords x_saidInts y_time y_last y_lastPid y_did 0 y_ops y_as y_bs y_pages y_wake y_zombie y_blocked y_memory y_frame y_kind y_mode y_pipe y_size y_safeSize y_said := A
  have hH := uk_aHd A s hs hp hz
  have hP : ∀ s, s < 8 → ¬ x_pids s < 0 := fun s hs => (uk_aPs A s hs).1
  have hX0 : ∀ post : SX → Prop, ((∀ d, d < 6 → x_registers (4 * s) = nI d → x_held (6 * s + d) = -1) ∨ (∃ d o, d < 6 ∧ o < 12 ∧ x_registers (4 * s) = nI d ∧ x_held (6 * s + d) = nI o ∧ (y_kind o ≠ 1 ∨ (∃ f m, f < 8 ∧ m ≤ 16 ∧ x_openTargets o = nI f ∧ y_size f = nI m ∧ ¬ vp_in (x_registers (4 * s + 1)) (m + 1))))) → post (x_changes, x_saidCount, x_time, x_lastSlot, x_sliceSteps, x_latestPid, x_greatestPid, x_code, x_codeLengths, x_pids, x_parents, x_programs, x_places, x_states, x_statuses, x_stepCounts, x_copyCounts, x_wakeTimes, upd x_registers (4 * s) (-1), x_pageCounts, x_pageFrames, x_held, x_frameUsers, x_frameWords, x_openHolders, x_openKinds, x_openTargets, x_openPlaces, x_openModes, x_pipeFirsts, x_pipeCounts, x_pipeWords, x_nameFiles, x_fileSizes, x_fileWords, x_safeNames, x_safeSizes, x_safeWords, x_saidInts) → wpX_doCall post (x_changes, x_saidCount, x_time, x_lastSlot, x_sliceSteps, x_latestPid, x_greatestPid, x_code, x_codeLengths, x_pids, x_parents, x_programs, x_places, x_states, x_statuses, x_stepCounts, x_copyCounts, x_wakeTimes, x_registers, x_pageCounts, x_pageFrames, x_held, x_frameUsers, x_frameWords, x_openHolders, x_openKinds, x_openTargets, x_openPlaces, x_openModes, x_pipeFirsts, x_pipeCounts, x_pipeWords, x_nameFiles, x_fileSizes, x_fileWords, x_safeNames, x_safeSizes, x_safeWords, x_saidInts) (nI s) 17 := fun post hn h => by
    unfold wpX_doCall
    refine nm_r (uk_m4 s) ⟨vp_in_nI (by omega) (by decide), nm_r (uk_rg0 x_registers hs) ⟨uk_rgv hs, nm_r (uk_rg1 x_registers hs) (br_f (by decide) (br_f (by decide) (br_f (by decide) (br_f (by decide) (br_f (by decide) (br_f (by decide) (br_f (by decide) (br_f (by decide) (br_f (by decide) (br_f (by decide) (br_f (by decide) (br_f (by decide) (br_f (by decide) (br_f (by decide) (br_f (by decide) (br_f (by decide) (br_f (by decide) (br_f (by decide) (br_f (by decide) (br_t rfl ?_))))))))))))))))))))⟩⟩
    unfold wpX_seekPlace
    rcases hn with h0 | ⟨d, o, hd, ho, e1, e2, h0⟩
    · exact xk_of0 hs hH h0 (br_t rfl (xk_tail0 hs ec hc h))
    · obtain ⟨k1, k2, k3⟩ := uk_hk (uk_aHo A) (uk_aOk A) hs hp hz hd ho e2
      refine xk_of1 hs hH hd ho e1 e2 (fun _ => br_f (uk_ne1 (by omega)) ⟨vp_in_nI ho (by decide), ?_⟩) (fun _ => br_t rfl (xk_tail0 hs ec hc h))
      rw [nI_clamp (show o < 2 ^ 31 by omega), k2]
      refine ⟨fun a => ?_, fun _ => xk_tail0 hs ec hc h⟩
      rcases h0 with h0 | ⟨f, m, hf, hm, eT, eS, h0⟩
      · exact absurd a h0
      · obtain ⟨_, q2, _⟩ := uk_nfre A ho hf a eT
        refine ⟨fun _ => xk_tail0 hs ec hc h, fun g => ⟨vp_in_nI ho (by decide), ?_⟩⟩
        rw [eT, nI_clamp (show f < 2 ^ 31 by omega), q2, eS]
        refine ⟨vp_in_nI hf (by decide), fun w => absurd ?_ h0, fun _ => xk_tail0 hs ec hc h⟩
        obtain ⟨j, hj, ej⟩ := nI_of g
        rw [ej] at w ⊢
        exact vp_in_nI (by have := (nI_leI hj (by omega)).mp w; omega) (by omega)
  have hY0 : ∀ post : SY → Prop, ((∀ d, d < 6 → x_registers (4 * s) = nI d → x_held (6 * s + d) = -1) ∨ (∃ d o, d < 6 ∧ o < 12 ∧ x_registers (4 * s) = nI d ∧ x_held (6 * s + d) = nI o ∧ (y_kind o ≠ 1 ∨ (∃ f m, f < 8 ∧ m ≤ 16 ∧ x_openTargets o = nI f ∧ y_size f = nI m ∧ ¬ vp_in (x_registers (4 * s + 1)) (m + 1))))) → post (x_changes, y_time, y_last, y_lastPid, y_did, x_greatestPid, x_latestPid, x_saidCount, 0, y_ops, y_as, y_bs, x_codeLengths, x_pids, x_parents, x_programs, x_places, x_statuses, x_stepCounts, x_copyCounts, y_pages, y_wake, y_zombie, y_blocked, upd x_registers (4 * s) (-1), y_memory, y_frame, x_held, y_kind, x_openTargets, y_mode, x_openPlaces, x_pipeCounts, y_pipe, x_nameFiles, y_size, x_fileWords, x_safeNames, y_safeSize, x_safeWords, y_said) → wY_call_127 post (nI s) 17 (x_registers (4 * s)) (x_registers (4 * s + 1)) x_changes y_time y_last y_lastPid y_did x_greatestPid x_latestPid x_saidCount 0 y_ops y_as y_bs x_codeLengths x_pids x_parents x_programs x_places x_statuses x_stepCounts x_copyCounts y_pages y_wake y_zombie y_blocked x_registers y_memory y_frame x_held y_kind x_openTargets y_mode x_openPlaces x_pipeCounts y_pipe x_nameFiles y_size x_fileWords x_safeNames y_safeSize x_safeWords y_said := fun post hn h => by
    unfold wY_call_127
    refine br_t (by decide) (br_t (by decide) ?_)
    unfold wpY_others
    refine br_f (by decide) (br_f (by decide) (br_f (by decide) (br_f (by decide) (br_f (by decide) (br_f (by decide) (br_f (by decide) (br_f (by decide) (br_t rfl ?_))))))))
    unfold wpY_seek
    refine yk_no 5 rfl (by decide) (fun v => br_t rfl ?_) (fun v => br_f (by decide) (br_t (by decide) (yk_tail0 hs h)))
    obtain ⟨d, hd, ed⟩ := vp_in_of v (by decide)
    rw [ed, uk_6m, nI_add, nI_clamp (show 6 * s + d < 2 ^ 31 by omega)]
    refine ⟨vp_in_nI (by omega) (by decide), ?_⟩
    rcases hn with h0 | ⟨d', o, hd', ho, e1, e2, h0⟩
    · rw [h0 d hd ed]
      exact br_t (by decide) (yk_tail0 hs h)
    · have := uk_nIn (by omega) (by omega) (e1.symm.trans ed)
      subst this
      rw [e2]
      refine br_f (nI_pos (by omega)) ⟨vp_in_nI ho (by decide), ?_⟩
      rw [nI_clamp (show o < 2 ^ 31 by omega)]
      refine ⟨fun a => ⟨vp_in_nI ho (by decide), ?_⟩, fun _ => yk_tail0 hs h⟩
      rcases h0 with h0 | ⟨f, m, hf, hm, eT, eS, h0⟩
      · exact absurd a h0
      · rw [eT, nI_clamp (show f < 2 ^ 31 by omega), eS]
        exact ⟨vp_in_nI hf (by decide), yk_no m rfl (by omega) (fun w => absurd w h0) (fun _ => br_f (by decide) (yk_tail0 hs h))⟩
  rcases uk_desc A hs hp hz with h0 | ⟨d, o, hd, ho, e1, e2, k1, k2, k3, k4⟩
  · exact ⟨_, _, fun post h => hX0 post (Or.inl h0) h, fun post h => hY0 post (Or.inl h0) h, uk_end0 (g := -1) A hs hp hz hb⟩
  by_cases hk : y_kind o = 1
  · have vT : vp_in (x_openTargets o) 8 := by
      rcases k4 with q | q | q
      · exact q.2.2.2
      · exact absurd (hk.symm.trans q.1) (by decide)
      · exact absurd (hk.symm.trans q.1) (by decide)
    obtain ⟨f, hf, eT⟩ := vp_in_of vT (by decide)
    obtain ⟨q1, q2, m, hm, eS⟩ := uk_nfre A ho hf hk eT
    by_cases hv : vp_in (x_registers (4 * s + 1)) (m + 1)
    · obtain ⟨j, hj, ej⟩ := vp_in_of hv (by omega)
      have A1 : uk_All t b x_changes x_saidCount x_time x_lastSlot x_sliceSteps x_latestPid x_greatestPid x_code x_codeLengths x_pids x_parents x_programs x_places x_states x_statuses x_stepCounts x_copyCounts x_wakeTimes x_registers x_pageCounts x_pageFrames x_held x_frameUsers x_frameWords x_openHolders x_openKinds x_openTargets (upd x_openPlaces o (x_registers (4 * s + 1))) x_openModes x_pipeFirsts x_pipeCounts x_pipeWords x_nameFiles x_fileSizes x_fileWords x_safeNames x_safeSizes x_safeWords x_saidInts y_time y_last y_lastPid y_did y_killed y_ops y_as y_bs y_pages y_wake y_zombie y_blocked y_memory y_frame y_kind y_mode y_pipe y_size y_safeSize y_said := ⟨uk_aG A, uk_aN A, uk_aC A, uk_aeT A, uk_aPr A, uk_aPs A, uk_aMe A, uk_aFu A, uk_aHd A, uk_aHo A, uk_Ok_op o (uk_aOk A) (by rw [ej]; exact vp_in_nI (by omega) (by decide)), uk_aPi A, uk_aFi A, uk_aSa A, uk_aSc A, uk_aWk A⟩
      have vo : vp_in (nI o) 12 := vp_in_nI ho (by decide)
      refine ⟨_, _, fun post h => ?_, fun post h => ?_, uk_end0 (g := 0) A1 hs hp hz hb⟩
      · unfold wpX_doCall
        refine nm_r (uk_m4 s) ⟨vp_in_nI (by omega) (by decide), nm_r (uk_rg0 x_registers hs) ⟨uk_rgv hs, nm_r (uk_rg1 x_registers hs) (br_f (by decide) (br_f (by decide) (br_f (by decide) (br_f (by decide) (br_f (by decide) (br_f (by decide) (br_f (by decide) (br_f (by decide) (br_f (by decide) (br_f (by decide) (br_f (by decide) (br_f (by decide) (br_f (by decide) (br_f (by decide) (br_f (by decide) (br_f (by decide) (br_f (by decide) (br_f (by decide) (br_f (by decide) (br_t rfl ?_))))))))))))))))))))⟩⟩
        unfold wpX_seekPlace
        refine xk_of1 hs hH hd ho e1 e2 (fun _ => br_f (uk_ne1 (by omega)) ⟨vo, ?_⟩) (fun z => absurd z k3)
        rw [nI_clamp (show o < 2 ^ 31 by omega), k2, eT, nI_clamp (show f < 2 ^ 31 by omega), q2, eS]
        refine br_t hk (br_f (by rw [ej]; exact nI_pos (by omega)) ⟨vo, vp_in_nI hf (by decide), br_t (by rw [ej]; exact nI_le (by omega) (by omega)) ⟨vo, nm_e (xk_tail0 hs ec hc h)⟩⟩)
      · unfold wY_call_127
        refine br_t (by decide) (br_t (by decide) ?_)
        unfold wpY_others
        refine br_f (by decide) (br_f (by decide) (br_f (by decide) (br_f (by decide) (br_f (by decide) (br_f (by decide) (br_f (by decide) (br_f (by decide) (br_t rfl ?_))))))))
        unfold wpY_seek
        rw [e1]
        refine yk_no 5 rfl (by decide) (fun v => br_t rfl ?_) (fun v => absurd (vp_in_nI hd (by decide)) v)
        rw [uk_6m, nI_add, nI_clamp (show 6 * s + d < 2 ^ 31 by omega), e2]
        refine ⟨vp_in_nI (by omega) (by decide), br_f (nI_pos (by omega)) ⟨vo, ?_⟩⟩
        rw [nI_clamp (show o < 2 ^ 31 by omega), eT, nI_clamp (show f < 2 ^ 31 by omega), eS]
        exact br_t hk ⟨vo, vp_in_nI hf (by decide), yk_no m rfl (by omega) (fun _ => br_t rfl ⟨vo, nm_e (yk_tail0 hs h)⟩) (fun w => absurd hv w)⟩
    · exact ⟨_, _, fun post h => hX0 post (Or.inr ⟨d, o, hd, ho, e1, e2, Or.inr ⟨f, m, hf, hm, eT, eS, hv⟩⟩) h, fun post h => hY0 post (Or.inr ⟨d, o, hd, ho, e1, e2, Or.inr ⟨f, m, hf, hm, eT, eS, hv⟩⟩) h, uk_end0 (g := -1) A hs hp hz hb⟩
  · exact ⟨_, _, fun post h => hX0 post (Or.inr ⟨d, o, hd, ho, e1, e2, Or.inl hk⟩) h, fun post h => hY0 post (Or.inr ⟨d, o, hd, ho, e1, e2, Or.inl hk⟩) h, uk_end0 (g := -1) A hs hp hz hb⟩
theorem yk_say {post : Int32 → SY → Prop} {x : Int32} (h : post x (x_changes, y_time, y_last, y_lastPid, y_did, x_greatestPid, x_latestPid, x_saidCount + 1, y_killed, y_ops, y_as, y_bs, x_codeLengths, x_pids, x_parents, x_programs, x_places, x_statuses, x_stepCounts, x_copyCounts, y_pages, y_wake, y_zombie, y_blocked, x_registers, y_memory, y_frame, x_held, y_kind, x_openTargets, y_mode, x_openPlaces, x_pipeCounts, y_pipe, x_nameFiles, y_size, x_fileWords, x_safeNames, y_safeSize, x_safeWords, uk_sh y_said x)) : ∃ m, wY_others_186 post x x_changes y_time y_last y_lastPid y_did x_greatestPid x_latestPid x_saidCount y_killed m 15 y_ops y_as y_bs x_codeLengths x_pids x_parents x_programs x_places x_statuses x_stepCounts x_copyCounts y_pages y_wake y_zombie y_blocked x_registers y_memory y_frame x_held y_kind x_openTargets y_mode x_openPlaces x_pipeCounts y_pipe x_nameFiles y_size x_fileWords x_safeNames y_safeSize x_safeWords y_said := by
  have key : ∀ j, j ≤ 15 → wY_others_186 post x x_changes y_time y_last y_lastPid y_did x_greatestPid x_latestPid x_saidCount y_killed (j + 1) (nI j) y_ops y_as y_bs x_codeLengths x_pids x_parents x_programs x_places x_statuses x_stepCounts x_copyCounts y_pages y_wake y_zombie y_blocked x_registers y_memory y_frame x_held y_kind x_openTargets y_mode x_openPlaces x_pipeCounts y_pipe x_nameFiles y_size x_fileWords x_safeNames y_safeSize x_safeWords (fun i => if j < i ∧ i < 16 then y_said (i - 1) else y_said i) := by
    intro j
    induction j with
    | zero =>
      intro _
      refine br_t (uk_refl 0) (nm_r ?_ (nm_e h))
      funext i
      by_cases e : i = 0
      · subst e; rw [pk_us]; rfl
      · rw [pk_un e]
        show (if 0 < i ∧ i < 16 then y_said (i - 1) else y_said i) = (if i = 0 then x else if i < 16 then y_said (i - 1) else y_said i)
        rw [if_neg e]
        by_cases e2 : i < 16
        · rw [if_pos (by omega), if_pos e2]
        · rw [if_neg (by omega), if_neg e2]
    | succ j ih =>
      intro hj
      have ih2 := ih (by omega)
      refine br_f (nI_nle (by omega) (by omega)) ?_
      have e1 : nI (j + 1) - 1 = nI j := nI_pred j
      rw [e1, nI_clamp (show j < 2 ^ 31 by omega), nI_clamp (show j + 1 < 2 ^ 31 by omega)]
      refine ⟨vp_in_nI (by omega) (by decide), vp_in_nI (by omega) (by decide), nm_r ?_ (nm_r (pk_m1 j) ih2)⟩
      funext i
      by_cases e : i = j + 1
      · subst e
        rw [pk_us]
        show (if j + 1 < j ∧ j < 16 then y_said (j - 1) else y_said j) = (if j < j + 1 ∧ j + 1 < 16 then y_said (j + 1 - 1) else y_said (j + 1))
        rw [if_neg (by omega), if_pos (by omega)]
        rfl
      · rw [pk_un e]
        show (if j + 1 < i ∧ i < 16 then y_said (i - 1) else y_said i) = (if j < i ∧ i < 16 then y_said (i - 1) else y_said i)
        by_cases e2 : j < i ∧ i < 16
        · rw [if_pos e2, if_pos (by omega)]
        · rw [if_neg e2, if_neg (by omega)]
  have k := key 15 (by decide)
  have e : (fun i => if 15 < i ∧ i < 16 then y_said (i - 1) else y_said i) = y_said := by
    funext i
    exact if_neg (by omega)
  rw [e] at k
  exact ⟨_, k⟩
theorem uk_call16 {t b s : Nat} (A : uk_All t b x_changes x_saidCount x_time x_lastSlot x_sliceSteps x_latestPid x_greatestPid x_code x_codeLengths x_pids x_parents x_programs x_places x_states x_statuses x_stepCounts x_copyCounts x_wakeTimes x_registers x_pageCounts x_pageFrames x_held x_frameUsers x_frameWords x_openHolders x_openKinds x_openTargets x_openPlaces x_openModes x_pipeFirsts x_pipeCounts x_pipeWords x_nameFiles x_fileSizes x_fileWords x_safeNames x_safeSizes x_safeWords x_saidInts y_time y_last y_lastPid y_did y_killed y_ops y_as y_bs y_pages y_wake y_zombie y_blocked y_memory y_frame y_kind y_mode y_pipe y_size y_safeSize y_said) (hs : s < 8) (hp : x_pids s ≠ 0) (hz : y_zombie s = 0) (hb : y_blocked s = 0) (hbb : b < 2000000000) :
  ∃ u' v', (∀ post : SX → Prop, post u' → wpX_doCall post (x_changes, x_saidCount, x_time, x_lastSlot, x_sliceSteps, x_latestPid, x_greatestPid, x_code, x_codeLengths, x_pids, x_parents, x_programs, x_places, x_states, x_statuses, x_stepCounts, x_copyCounts, x_wakeTimes, x_registers, x_pageCounts, x_pageFrames, x_held, x_frameUsers, x_frameWords, x_openHolders, x_openKinds, x_openTargets, x_openPlaces, x_openModes, x_pipeFirsts, x_pipeCounts, x_pipeWords, x_nameFiles, x_fileSizes, x_fileWords, x_safeNames, x_safeSizes, x_safeWords, x_saidInts) (nI s) 16) ∧ (∀ post : SY → Prop, post v' → wY_call_127 post (nI s) 16 (x_registers (4 * s)) (x_registers (4 * s + 1)) x_changes y_time y_last y_lastPid y_did x_greatestPid x_latestPid x_saidCount 0 y_ops y_as y_bs x_codeLengths x_pids x_parents x_programs x_places x_statuses x_stepCounts x_copyCounts y_pages y_wake y_zombie y_blocked x_registers y_memory y_frame x_held y_kind x_openTargets y_mode x_openPlaces x_pipeCounts y_pipe x_nameFiles y_size x_fileWords x_safeNames y_safeSize x_safeWords y_said) ∧ uk_R y_time t (b + 1) u' v' := by
  obtain ⟨_, vs, es⟩ := uk_lp 8 hs (by decide)
  obtain ⟨c, ec, hc⟩ := uk_aC A
  have A0 : uk_All t b x_changes x_saidCount x_time x_lastSlot x_sliceSteps x_latestPid x_greatestPid x_code x_codeLengths x_pids x_parents x_programs x_places x_states x_statuses x_stepCounts x_copyCounts x_wakeTimes x_registers x_pageCounts x_pageFrames x_held x_frameUsers x_frameWords x_openHolders x_openKinds x_openTargets x_openPlaces x_openModes x_pipeFirsts x_pipeCounts x_pipeWords x_nameFiles x_fileSizes x_fileWords x_safeNames x_safeSizes x_safeWords x_saidInts y_time y_last y_lastPid y_did 0 y_ops y_as y_bs y_pages y_wake y_zombie y_blocked y_memory y_frame y_kind y_mode y_pipe y_size y_safeSize y_said := A
  have hH := uk_aHd A s hs hp hz
  have hP : ∀ s, s < 8 → ¬ x_pids s < 0 := fun s hs => (uk_aPs A s hs).1
  obtain ⟨n, en, hn, hSd⟩ := uk_aN A
  have A1 : uk_All t (b + 1) x_changes (x_saidCount + 1) x_time x_lastSlot x_sliceSteps x_latestPid x_greatestPid x_code x_codeLengths x_pids x_parents x_programs x_places x_states x_statuses x_stepCounts x_copyCounts x_wakeTimes x_registers x_pageCounts x_pageFrames x_held x_frameUsers x_frameWords x_openHolders x_openKinds x_openTargets x_openPlaces x_openModes x_pipeFirsts x_pipeCounts x_pipeWords x_nameFiles x_fileSizes x_fileWords x_safeNames x_safeSizes x_safeWords (upd x_saidInts (n % 16) (x_registers (4 * s))) y_time y_last y_lastPid y_did y_killed y_ops y_as y_bs y_pages y_wake y_zombie y_blocked y_memory y_frame y_kind y_mode y_pipe y_size y_safeSize (uk_sh y_said (x_registers (4 * s))) := by
    have Ab := uk_up1 (Nat.le_succ b) A
    exact ⟨uk_aG Ab, ⟨n + 1, by rw [en]; exact nI_1 n, by omega, uk_Sd_say _ hSd⟩, uk_aC Ab, uk_aeT Ab, uk_aPr Ab, uk_aPs Ab, uk_aMe Ab, uk_aFu Ab, uk_aHd Ab, uk_aHo Ab, uk_aOk Ab, uk_aPi Ab, uk_aFi Ab, uk_aSa Ab, uk_aSc Ab, uk_aWk Ab⟩
  refine ⟨_, _, fun post h => ?_, fun post h => ?_, uk_RmkK 0 (uk_All_reg (i := 0) (x := x_registers (4 * s)) A1 hs hp hz hb (by decide))⟩
  · unfold wpX_doCall
    refine nm_r (uk_m4 s) ⟨vp_in_nI (by omega) (by decide), nm_r (uk_rg0 x_registers hs) ⟨uk_rgv hs, nm_r (uk_rg1 x_registers hs) (br_f (by decide) (br_f (by decide) (br_f (by decide) (br_f (by decide) (br_f (by decide) (br_f (by decide) (br_f (by decide) (br_f (by decide) (br_f (by decide) (br_f (by decide) (br_f (by decide) (br_f (by decide) (br_f (by decide) (br_f (by decide) (br_f (by decide) (br_f (by decide) (br_f (by decide) (br_f (by decide) (br_t rfl ?_)))))))))))))))))))⟩⟩
    unfold wpX_keepSaid
    dsimp only
    have er : x_saidCount - x_saidCount / 16 * 16 = nI (n % 16) := by rw [en]; exact pk_rem (d := 16) (by omega) (by decide) (by decide)
    rw [er, nI_clamp (show n % 16 < 2 ^ 31 by omega)]
    exact ⟨by decide, vp_in_nI (by omega) (by decide), nm_e (nm_e (xk_tail0 hs ec hc h))⟩
  · unfold wY_call_127
    refine br_t (by decide) (br_t (by decide) ?_)
    unfold wpY_others
    exact br_f (by decide) (br_f (by decide) (br_f (by decide) (br_f (by decide) (br_f (by decide) (br_f (by decide) (br_f (by decide) (br_t rfl (yk_say (yk_tail0 hs h)))))))))
end
end
section
/-! the calls, fourth part: names -/
section
variable {x_changes x_saidCount x_time x_lastSlot x_sliceSteps x_latestPid x_greatestPid : Int32} {x_code x_codeLengths x_pids x_parents x_programs x_places x_states x_statuses x_stepCounts x_copyCounts x_wakeTimes x_registers x_pageCounts x_pageFrames x_held x_frameUsers x_frameWords x_openHolders x_openKinds x_openTargets x_openPlaces x_openModes x_pipeFirsts x_pipeCounts x_pipeWords x_nameFiles x_fileSizes x_fileWords x_safeNames x_safeSizes x_safeWords x_saidInts : Nat → Int32} {y_time y_last y_lastPid y_did y_killed : Int32} {y_ops y_as y_bs y_pages y_wake y_zombie y_blocked y_memory y_frame y_kind y_mode y_pipe y_size y_safeSize y_said : Nat → Int32}
/-- both sides' ends of a call that gives g, with a change -/
theorem uk_endc1 {t b s c : Nat} {g : Int32} (A : uk_All t b x_changes x_saidCount x_time x_lastSlot x_sliceSteps x_latestPid x_greatestPid x_code x_codeLengths x_pids x_parents x_programs x_places x_states x_statuses x_stepCounts x_copyCounts x_wakeTimes x_registers x_pageCounts x_pageFrames x_held x_frameUsers x_frameWords x_openHolders x_openKinds x_openTargets x_openPlaces x_openModes x_pipeFirsts x_pipeCounts x_pipeWords x_nameFiles x_fileSizes x_fileWords x_safeNames x_safeSizes x_safeWords x_saidInts y_time y_last y_lastPid y_did y_killed y_ops y_as y_bs y_pages y_wake y_zombie y_blocked y_memory y_frame y_kind y_mode y_pipe y_size y_safeSize y_said) (hs : s < 8) (hp : x_pids s ≠ 0) (hz : y_zombie s = 0) (hb : y_blocked s = 0) (hc : c + 1 < 30) : uk_R y_time t (b + 1) (nI (c + 1), x_saidCount, x_time, x_lastSlot, x_sliceSteps, x_latestPid, x_greatestPid, x_code, x_codeLengths, x_pids, x_parents, x_programs, x_places, x_states, x_statuses, x_stepCounts, x_copyCounts, x_wakeTimes, upd x_registers (4 * s) g, x_pageCounts, x_pageFrames, x_held, x_frameUsers, x_frameWords, x_openHolders, x_openKinds, x_openTargets, x_openPlaces, x_openModes, x_pipeFirsts, x_pipeCounts, x_pipeWords, x_nameFiles, x_fileSizes, x_fileWords, x_safeNames, x_safeSizes, x_safeWords, x_saidInts) (nI (c + 1), y_time, y_last, y_lastPid, y_did, x_greatestPid, x_latestPid, x_saidCount, 0, y_ops, y_as, y_bs, x_codeLengths, x_pids, x_parents, x_programs, x_places, x_statuses, x_stepCounts, x_copyCounts, y_pages, y_wake, y_zombie, y_blocked, upd x_registers (4 * s) g, y_memory, y_frame, x_held, y_kind, x_openTargets, y_mode, x_openPlaces, x_pipeCounts, y_pipe, x_nameFiles, y_size, x_fileWords, x_safeNames, y_safeSize, x_safeWords, y_said) := by
  have A1 := uk_up1 (Nat.le_succ b) (uk_All_reg (i := 0) (x := g) A hs hp hz hb (by decide))
  have A2 : uk_All t (b + 1) (nI (c + 1)) x_saidCount x_time x_lastSlot x_sliceSteps x_latestPid x_greatestPid x_code x_codeLengths x_pids x_parents x_programs x_places x_states x_statuses x_stepCounts x_copyCounts x_wakeTimes (upd x_registers (4 * s) g) x_pageCounts x_pageFrames x_held x_frameUsers x_frameWords x_openHolders x_openKinds x_openTargets x_openPlaces x_openModes x_pipeFirsts x_pipeCounts x_pipeWords x_nameFiles x_fileSizes x_fileWords x_safeNames x_safeSizes x_safeWords x_saidInts y_time y_last y_lastPid y_did y_killed y_ops y_as y_bs y_pages y_wake y_zombie y_blocked y_memory y_frame y_kind y_mode y_pipe y_size y_safeSize y_said := ⟨uk_aG A1, uk_aN A1, ⟨c + 1, rfl, hc⟩, uk_aeT A1, uk_aPr A1, uk_aPs A1, uk_aMe A1, uk_aFu A1, uk_aHd A1, uk_aHo A1, uk_aOk A1, uk_aPi A1, uk_aFi A1, uk_aSa A1, uk_aSc A1, uk_aWk A1⟩
  exact uk_RmkK 0 A2
theorem uk_endc2 {t b s : Nat} {g : Int32} (A : uk_All t b x_changes x_saidCount x_time x_lastSlot x_sliceSteps x_latestPid x_greatestPid x_code x_codeLengths x_pids x_parents x_programs x_places x_states x_statuses x_stepCounts x_copyCounts x_wakeTimes x_registers x_pageCounts x_pageFrames x_held x_frameUsers x_frameWords x_openHolders x_openKinds x_openTargets x_openPlaces x_openModes x_pipeFirsts x_pipeCounts x_pipeWords x_nameFiles x_fileSizes x_fileWords x_safeNames x_safeSizes x_safeWords x_saidInts y_time y_last y_lastPid y_did y_killed y_ops y_as y_bs y_pages y_wake y_zombie y_blocked y_memory y_frame y_kind y_mode y_pipe y_size y_safeSize y_said) (hs : s < 8) (hp : x_pids s ≠ 0) (hz : y_zombie s = 0) (hb : y_blocked s = 0) : uk_R y_time t (b + 1) (0, x_saidCount, x_time, x_lastSlot, x_sliceSteps, x_latestPid, x_greatestPid, x_code, x_codeLengths, x_pids, x_parents, x_programs, x_places, x_states, x_statuses, x_stepCounts, x_copyCounts, x_wakeTimes, upd x_registers (4 * s) g, x_pageCounts, x_pageFrames, x_held, x_frameUsers, x_frameWords, x_openHolders, x_openKinds, x_openTargets, x_openPlaces, x_openModes, x_pipeFirsts, x_pipeCounts, x_pipeWords, x_nameFiles, x_fileSizes, x_fileWords, uk_fl x_safeNames 0 x_nameFiles 8, uk_fl x_safeSizes 0 x_fileSizes 8, uk_fl x_safeWords 0 x_fileWords 128, x_saidInts) (0, y_time, y_last, y_lastPid, y_did, x_greatestPid, x_latestPid, x_saidCount, 0, y_ops, y_as, y_bs, x_codeLengths, x_pids, x_parents, x_programs, x_places, x_statuses, x_stepCounts, x_copyCounts, y_pages, y_wake, y_zombie, y_blocked, upd x_registers (4 * s) g, y_memory, y_frame, x_held, y_kind, x_openTargets, y_mode, x_openPlaces, x_pipeCounts, y_pipe, x_nameFiles, y_size, x_fileWords, uk_fl x_safeNames 0 x_nameFiles 8, uk_fl y_safeSize 0 y_size 8, uk_fl x_safeWords 0 x_fileWords 128, y_said) := by
  have A1 := uk_up1 (Nat.le_succ b) (uk_All_reg (i := 0) (x := g) (uk_cm A) hs hp hz hb (by decide))
  exact uk_RmkK 0 A1
theorem uk_call12 {t b s : Nat} (A : uk_All t b x_changes x_saidCount x_time x_lastSlot x_sliceSteps x_latestPid x_greatestPid x_code x_codeLengths x_pids x_parents x_programs x_places x_states x_statuses x_stepCounts x_copyCounts x_wakeTimes x_registers x_pageCounts x_pageFrames x_held x_frameUsers x_frameWords x_openHolders x_openKinds x_openTargets x_openPlaces x_openModes x_pipeFirsts x_pipeCounts x_pipeWords x_nameFiles x_fileSizes x_fileWords x_safeNames x_safeSizes x_safeWords x_saidInts y_time y_last y_lastPid y_did y_killed y_ops y_as y_bs y_pages y_wake y_zombie y_blocked y_memory y_frame y_kind y_mode y_pipe y_size y_safeSize y_said) (hs : s < 8) (hp : x_pids s ≠ 0) (hz : y_zombie s = 0) (hb : y_blocked s = 0) :
  ∃ u' v', (∀ post : SX → Prop, post u' → wpX_doCall post (x_changes, x_saidCount, x_time, x_lastSlot, x_sliceSteps, x_latestPid, x_greatestPid, x_code, x_codeLengths, x_pids, x_parents, x_programs, x_places, x_states, x_statuses, x_stepCounts, x_copyCounts, x_wakeTimes, x_registers, x_pageCounts, x_pageFrames, x_held, x_frameUsers, x_frameWords, x_openHolders, x_openKinds, x_openTargets, x_openPlaces, x_openModes, x_pipeFirsts, x_pipeCounts, x_pipeWords, x_nameFiles, x_fileSizes, x_fileWords, x_safeNames, x_safeSizes, x_safeWords, x_saidInts) (nI s) 12) ∧ (∀ post : SY → Prop, post v' → wY_call_127 post (nI s) 12 (x_registers (4 * s)) (x_registers (4 * s + 1)) x_changes y_time y_last y_lastPid y_did x_greatestPid x_latestPid x_saidCount 0 y_ops y_as y_bs x_codeLengths x_pids x_parents x_programs x_places x_statuses x_stepCounts x_copyCounts y_pages y_wake y_zombie y_blocked x_registers y_memory y_frame x_held y_kind x_openTargets y_mode x_openPlaces x_pipeCounts y_pipe x_nameFiles y_size x_fileWords x_safeNames y_safeSize x_safeWords y_said) ∧ uk_R y_time t (b + 1) u' v' := by
  obtain ⟨_, vs, es⟩ := uk_lp 8 hs (by decide)
  obtain ⟨c, ec, hc⟩ := uk_aC A
  have A0 : uk_All t b x_changes x_saidCount x_time x_lastSlot x_sliceSteps x_latestPid x_greatestPid x_code x_codeLengths x_pids x_parents x_programs x_places x_states x_statuses x_stepCounts x_copyCounts x_wakeTimes x_registers x_pageCounts x_pageFrames x_held x_frameUsers x_frameWords x_openHolders x_openKinds x_openTargets x_openPlaces x_openModes x_pipeFirsts x_pipeCounts x_pipeWords x_nameFiles x_fileSizes x_fileWords x_safeNames x_safeSizes x_safeWords x_saidInts y_time y_last y_lastPid y_did 0 y_ops y_as y_bs y_pages y_wake y_zombie y_blocked y_memory y_frame y_kind y_mode y_pipe y_size y_safeSize y_said := A
  have hH := uk_aHd A s hs hp hz
  have hP : ∀ s, s < 8 → ¬ x_pids s < 0 := fun s hs => (uk_aPs A s hs).1
  have hNm : ∀ k, k < 8 → (x_nameFiles k < 0 ↔ x_nameFiles k = -1) := fun k hk => by
    rcases (uk_aFi A).1 k hk with e | e
    · rw [e]; exact ⟨fun _ => rfl, fun _ => by decide⟩
    · exact ⟨fun z => absurd z (not_or.mp e).1, fun z => by rw [z] at e; exact absurd (by decide) (not_or.mp e).1⟩
  have ec1 : x_changes + 1 = nI (c + 1) := by rw [ec]; exact nI_1 c
  have hX : ∀ post : SX → Prop, (¬ (vp_in (x_registers (4 * s)) 8 ∧ vp_in (x_registers (4 * s + 1)) 8 ∧ x_nameFiles (x_registers (4 * s)).toNatClampNeg ≠ -1 ∧ x_nameFiles (x_registers (4 * s + 1)).toNatClampNeg = -1) → wX_doCall_344 post (nI (4 * s)) (-1) x_changes x_saidCount x_time x_lastSlot x_sliceSteps x_latestPid x_greatestPid x_code x_codeLengths x_pids x_parents x_programs x_places x_states x_statuses x_stepCounts x_copyCounts x_wakeTimes x_registers x_pageCounts x_pageFrames x_held x_frameUsers x_frameWords x_openHolders x_openKinds x_openTargets x_openPlaces x_openModes x_pipeFirsts x_pipeCounts x_pipeWords x_nameFiles x_fileSizes x_fileWords x_safeNames x_safeSizes x_safeWords x_saidInts) → ((vp_in (x_registers (4 * s)) 8 ∧ vp_in (x_registers (4 * s + 1)) 8 ∧ x_nameFiles (x_registers (4 * s)).toNatClampNeg ≠ -1 ∧ x_nameFiles (x_registers (4 * s + 1)).toNatClampNeg = -1) → wX_doCall_344 post (nI (4 * s)) 0 (nI (c + 1)) x_saidCount x_time x_lastSlot x_sliceSteps x_latestPid x_greatestPid x_code x_codeLengths x_pids x_parents x_programs x_places x_states x_statuses x_stepCounts x_copyCounts x_wakeTimes x_registers x_pageCounts x_pageFrames x_held x_frameUsers x_frameWords x_openHolders x_openKinds x_openTargets x_openPlaces x_openModes x_pipeFirsts x_pipeCounts x_pipeWords (upd x_nameFiles (x_registers (4 * s + 1)).toNatClampNeg (x_nameFiles (x_registers (4 * s)).toNatClampNeg)) x_fileSizes x_fileWords x_safeNames x_safeSizes x_safeWords x_saidInts) → wpX_doCall post (x_changes, x_saidCount, x_time, x_lastSlot, x_sliceSteps, x_latestPid, x_greatestPid, x_code, x_codeLengths, x_pids, x_parents, x_programs, x_places, x_states, x_statuses, x_stepCounts, x_copyCounts, x_wakeTimes, x_registers, x_pageCounts, x_pageFrames, x_held, x_frameUsers, x_frameWords, x_openHolders, x_openKinds, x_openTargets, x_openPlaces, x_openModes, x_pipeFirsts, x_pipeCounts, x_pipeWords, x_nameFiles, x_fileSizes, x_fileWords, x_safeNames, x_safeSizes, x_safeWords, x_saidInts) (nI s) 12 := fun post h0 h1 => by
    unfold wpX_doCall
    refine nm_r (uk_m4 s) ⟨vp_in_nI (by omega) (by decide), nm_r (uk_rg0 x_registers hs) ⟨uk_rgv hs, nm_r (uk_rg1 x_registers hs) (br_f (by decide) (br_f (by decide) (br_f (by decide) (br_f (by decide) (br_f (by decide) (br_f (by decide) (br_f (by decide) (br_f (by decide) (br_f (by decide) (br_f (by decide) (br_f (by decide) (br_f (by decide) (br_f (by decide) (br_f (by decide) (br_t rfl ?_)))))))))))))))⟩⟩
    unfold wpX_linkName
    exact xk_isName (fun a1 => br_f (by decide) (xk_isName (fun a2 => br_f (by decide) ⟨a1, fun a3 => h0 (fun z => z.2.2.1 a3), fun a3 => ⟨a2, fun a4 => ⟨a1, a2, nm_e (nm_r ec1 (h1 ⟨a1, a2, a3, a4⟩))⟩, fun a4 => h0 (fun z => a4 z.2.2.2)⟩⟩) (fun a2 => br_t rfl (h0 (fun z => a2 z.2.1))))) (fun a1 => br_t rfl (h0 (fun z => a1 z.1)))
  have hY : ∀ post : SY → Prop, (¬ (vp_in (x_registers (4 * s)) 8 ∧ vp_in (x_registers (4 * s + 1)) 8 ∧ x_nameFiles (x_registers (4 * s)).toNatClampNeg ≠ -1 ∧ x_nameFiles (x_registers (4 * s + 1)).toNatClampNeg = -1) → wY_call_169 post (nI s) (-1) x_changes y_time y_last y_lastPid y_did x_greatestPid x_latestPid x_saidCount 0 y_ops y_as y_bs x_codeLengths x_pids x_parents x_programs x_places x_statuses x_stepCounts x_copyCounts y_pages y_wake y_zombie y_blocked x_registers y_memory y_frame x_held y_kind x_openTargets y_mode x_openPlaces x_pipeCounts y_pipe x_nameFiles y_size x_fileWords x_safeNames y_safeSize x_safeWords y_said) → ((vp_in (x_registers (4 * s)) 8 ∧ vp_in (x_registers (4 * s + 1)) 8 ∧ x_nameFiles (x_registers (4 * s)).toNatClampNeg ≠ -1 ∧ x_nameFiles (x_registers (4 * s + 1)).toNatClampNeg = -1) → wpY_change (fun u => match u with | (y_changes, y_time, y_last, y_lastPid, y_did, y_greatest, y_stepped, y_says, y_killed, y_ops, y_as, y_bs, y_length, y_pid, y_parent, y_program, y_pc, y_status, y_steps, y_copies, y_pages, y_wake, y_zombie, y_blocked, y_reg, y_memory, y_frame, y_descriptor, y_kind, y_of, y_mode, y_place, y_piped, y_pipe, y_names, y_size, y_words, y_safeNames, y_safeSize, y_safeWords, y_said) => wY_call_169 post (nI s) 0 y_changes y_time y_last y_lastPid y_did y_greatest y_stepped y_says y_killed y_ops y_as y_bs y_length y_pid y_parent y_program y_pc y_status y_steps y_copies y_pages y_wake y_zombie y_blocked y_reg y_memory y_frame y_descriptor y_kind y_of y_mode y_place y_piped y_pipe y_names y_size y_words y_safeNames y_safeSize y_safeWords y_said) (x_changes, y_time, y_last, y_lastPid, y_did, x_greatestPid, x_latestPid, x_saidCount, 0, y_ops, y_as, y_bs, x_codeLengths, x_pids, x_parents, x_programs, x_places, x_statuses, x_stepCounts, x_copyCounts, y_pages, y_wake, y_zombie, y_blocked, x_registers, y_memory, y_frame, x_held, y_kind, x_openTargets, y_mode, x_openPlaces, x_pipeCounts, y_pipe, upd x_nameFiles (x_registers (4 * s + 1)).toNatClampNeg (x_nameFiles (x_registers (4 * s)).toNatClampNeg), y_size, x_fileWords, x_safeNames, y_safeSize, x_safeWords, y_said)) → wY_call_127 post (nI s) 12 (x_registers (4 * s)) (x_registers (4 * s + 1)) x_changes y_time y_last y_lastPid y_did x_greatestPid x_latestPid x_saidCount 0 y_ops y_as y_bs x_codeLengths x_pids x_parents x_programs x_places x_statuses x_stepCounts x_copyCounts y_pages y_wake y_zombie y_blocked x_registers y_memory y_frame x_held y_kind x_openTargets y_mode x_openPlaces x_pipeCounts y_pipe x_nameFiles y_size x_fileWords x_safeNames y_safeSize x_safeWords y_said := fun post h0 h1 => by
    unfold wY_call_127
    refine br_t (by decide) (br_t (by decide) ?_)
    unfold wpY_others
    refine br_f (by decide) (br_f (by decide) (br_f (by decide) (br_t rfl ?_)))
    refine yk_no 7 rfl (by decide) (fun a1 => br_t rfl (yk_no 7 rfl (by decide) (fun a2 => br_t rfl ⟨a1, ?_⟩) (fun a2 => br_f (by decide) (h0 (fun z => a2 z.2.1))))) (fun a1 => br_f (by decide) (h0 (fun z => a1 z.1)))
    rw [hNm _ (uk_inc a1), hNm _ (uk_inc a2)]
    exact ⟨fun a3 => h0 (fun z => z.2.2.1 a3), fun a3 => ⟨a2, fun a4 => ⟨a1, a2, nm_e (h1 ⟨a1, a2, a3, a4⟩)⟩, fun a4 => h0 (fun z => a4 z.2.2.2)⟩⟩
  by_cases hv : vp_in (x_registers (4 * s)) 8 ∧ vp_in (x_registers (4 * s + 1)) 8 ∧ x_nameFiles (x_registers (4 * s)).toNatClampNeg ≠ -1 ∧ x_nameFiles (x_registers (4 * s + 1)).toNatClampNeg = -1
  · have A1 : uk_All t b x_changes x_saidCount x_time x_lastSlot x_sliceSteps x_latestPid x_greatestPid x_code x_codeLengths x_pids x_parents x_programs x_places x_states x_statuses x_stepCounts x_copyCounts x_wakeTimes x_registers x_pageCounts x_pageFrames x_held x_frameUsers x_frameWords x_openHolders x_openKinds x_openTargets x_openPlaces x_openModes x_pipeFirsts x_pipeCounts x_pipeWords (upd x_nameFiles (x_registers (4 * s + 1)).toNatClampNeg (x_nameFiles (x_registers (4 * s)).toNatClampNeg)) x_fileSizes x_fileWords x_safeNames x_safeSizes x_safeWords x_saidInts y_time y_last y_lastPid y_did y_killed y_ops y_as y_bs y_pages y_wake y_zombie y_blocked y_memory y_frame y_kind y_mode y_pipe y_size y_safeSize y_said := ⟨uk_aG A, uk_aN A, uk_aC A, uk_aeT A, uk_aPr A, uk_aPs A, uk_aMe A, uk_aFu A, uk_aHd A, uk_aHo A, uk_aOk A, uk_aPi A, uk_Fi_ln (uk_aFi A) (uk_inc hv.1) (uk_inc hv.2.1) hv.2.2.2, uk_aSa A, uk_aSc A, uk_aWk A⟩
    by_cases hc1 : c + 1 = 30
    · exact ⟨_, _, fun post h => hX post (fun z => absurd hv z) (fun _ => xk_tail1 hs (congrArg nI hc1) h), fun post h => hY post (fun z => absurd hv z) (fun _ => yk_change ec hc (fun z => absurd hc1 z) (fun _ => yk_tail0 hs h)), uk_endc2 (g := 0) A1 hs hp hz hb⟩
    · exact ⟨_, _, fun post h => hX post (fun z => absurd hv z) (fun _ => xk_tail0 hs rfl (by omega) h), fun post h => hY post (fun z => absurd hv z) (fun _ => yk_change ec hc (fun _ => yk_tail0 hs h) (fun z => absurd z hc1)), uk_endc1 (g := 0) (c := c) A1 hs hp hz hb (by omega)⟩
  · exact ⟨_, _, fun post h => hX post (fun _ => xk_tail0 hs ec hc h) (fun z => absurd z hv), fun post h => hY post (fun _ => yk_tail0 hs h) (fun z => absurd z hv), uk_end0 (g := -1) A hs hp hz hb⟩
theorem uk_call13 {t b s : Nat} (A : uk_All t b x_changes x_saidCount x_time x_lastSlot x_sliceSteps x_latestPid x_greatestPid x_code x_codeLengths x_pids x_parents x_programs x_places x_states x_statuses x_stepCounts x_copyCounts x_wakeTimes x_registers x_pageCounts x_pageFrames x_held x_frameUsers x_frameWords x_openHolders x_openKinds x_openTargets x_openPlaces x_openModes x_pipeFirsts x_pipeCounts x_pipeWords x_nameFiles x_fileSizes x_fileWords x_safeNames x_safeSizes x_safeWords x_saidInts y_time y_last y_lastPid y_did y_killed y_ops y_as y_bs y_pages y_wake y_zombie y_blocked y_memory y_frame y_kind y_mode y_pipe y_size y_safeSize y_said) (hs : s < 8) (hp : x_pids s ≠ 0) (hz : y_zombie s = 0) (hb : y_blocked s = 0) :
  ∃ u' v', (∀ post : SX → Prop, post u' → wpX_doCall post (x_changes, x_saidCount, x_time, x_lastSlot, x_sliceSteps, x_latestPid, x_greatestPid, x_code, x_codeLengths, x_pids, x_parents, x_programs, x_places, x_states, x_statuses, x_stepCounts, x_copyCounts, x_wakeTimes, x_registers, x_pageCounts, x_pageFrames, x_held, x_frameUsers, x_frameWords, x_openHolders, x_openKinds, x_openTargets, x_openPlaces, x_openModes, x_pipeFirsts, x_pipeCounts, x_pipeWords, x_nameFiles, x_fileSizes, x_fileWords, x_safeNames, x_safeSizes, x_safeWords, x_saidInts) (nI s) 13) ∧ (∀ post : SY → Prop, post v' → wY_call_127 post (nI s) 13 (x_registers (4 * s)) (x_registers (4 * s + 1)) x_changes y_time y_last y_lastPid y_did x_greatestPid x_latestPid x_saidCount 0 y_ops y_as y_bs x_codeLengths x_pids x_parents x_programs x_places x_statuses x_stepCounts x_copyCounts y_pages y_wake y_zombie y_blocked x_registers y_memory y_frame x_held y_kind x_openTargets y_mode x_openPlaces x_pipeCounts y_pipe x_nameFiles y_size x_fileWords x_safeNames y_safeSize x_safeWords y_said) ∧ uk_R y_time t (b + 1) u' v' := by
  obtain ⟨_, vs, es⟩ := uk_lp 8 hs (by decide)
  obtain ⟨c, ec, hc⟩ := uk_aC A
  have A0 : uk_All t b x_changes x_saidCount x_time x_lastSlot x_sliceSteps x_latestPid x_greatestPid x_code x_codeLengths x_pids x_parents x_programs x_places x_states x_statuses x_stepCounts x_copyCounts x_wakeTimes x_registers x_pageCounts x_pageFrames x_held x_frameUsers x_frameWords x_openHolders x_openKinds x_openTargets x_openPlaces x_openModes x_pipeFirsts x_pipeCounts x_pipeWords x_nameFiles x_fileSizes x_fileWords x_safeNames x_safeSizes x_safeWords x_saidInts y_time y_last y_lastPid y_did 0 y_ops y_as y_bs y_pages y_wake y_zombie y_blocked y_memory y_frame y_kind y_mode y_pipe y_size y_safeSize y_said := A
  have hH := uk_aHd A s hs hp hz
  have hP : ∀ s, s < 8 → ¬ x_pids s < 0 := fun s hs => (uk_aPs A s hs).1
  have hNm : ∀ k, k < 8 → (x_nameFiles k < 0 ↔ x_nameFiles k = -1) := fun k hk => by
    rcases (uk_aFi A).1 k hk with e | e
    · rw [e]; exact ⟨fun _ => rfl, fun _ => by decide⟩
    · exact ⟨fun z => absurd z (not_or.mp e).1, fun z => by rw [z] at e; exact absurd (by decide) (not_or.mp e).1⟩
  have ec1 : x_changes + 1 = nI (c + 1) := by rw [ec]; exact nI_1 c
  have hX : ∀ post : SX → Prop, (¬ (vp_in (x_registers (4 * s)) 8 ∧ x_nameFiles (x_registers (4 * s)).toNatClampNeg ≠ -1) → wX_doCall_344 post (nI (4 * s)) (-1) x_changes x_saidCount x_time x_lastSlot x_sliceSteps x_latestPid x_greatestPid x_code x_codeLengths x_pids x_parents x_programs x_places x_states x_statuses x_stepCounts x_copyCounts x_wakeTimes x_registers x_pageCounts x_pageFrames x_held x_frameUsers x_frameWords x_openHolders x_openKinds x_openTargets x_openPlaces x_openModes x_pipeFirsts x_pipeCounts x_pipeWords x_nameFiles x_fileSizes x_fileWords x_safeNames x_safeSizes x_safeWords x_saidInts) → ((vp_in (x_registers (4 * s)) 8 ∧ x_nameFiles (x_registers (4 * s)).toNatClampNeg ≠ -1) → wX_doCall_344 post (nI (4 * s)) 0 (nI (c + 1)) x_saidCount x_time x_lastSlot x_sliceSteps x_latestPid x_greatestPid x_code x_codeLengths x_pids x_parents x_programs x_places x_states x_statuses x_stepCounts x_copyCounts x_wakeTimes x_registers x_pageCounts x_pageFrames x_held x_frameUsers x_frameWords x_openHolders x_openKinds x_openTargets x_openPlaces x_openModes x_pipeFirsts x_pipeCounts x_pipeWords (upd x_nameFiles (x_registers (4 * s)).toNatClampNeg (-1)) x_fileSizes x_fileWords x_safeNames x_safeSizes x_safeWords x_saidInts) → wpX_doCall post (x_changes, x_saidCount, x_time, x_lastSlot, x_sliceSteps, x_latestPid, x_greatestPid, x_code, x_codeLengths, x_pids, x_parents, x_programs, x_places, x_states, x_statuses, x_stepCounts, x_copyCounts, x_wakeTimes, x_registers, x_pageCounts, x_pageFrames, x_held, x_frameUsers, x_frameWords, x_openHolders, x_openKinds, x_openTargets, x_openPlaces, x_openModes, x_pipeFirsts, x_pipeCounts, x_pipeWords, x_nameFiles, x_fileSizes, x_fileWords, x_safeNames, x_safeSizes, x_safeWords, x_saidInts) (nI s) 13 := fun post h0 h1 => by
    unfold wpX_doCall
    refine nm_r (uk_m4 s) ⟨vp_in_nI (by omega) (by decide), nm_r (uk_rg0 x_registers hs) ⟨uk_rgv hs, nm_r (uk_rg1 x_registers hs) (br_f (by decide) (br_f (by decide) (br_f (by decide) (br_f (by decide) (br_f (by decide) (br_f (by decide) (br_f (by decide) (br_f (by decide) (br_f (by decide) (br_f (by decide) (br_f (by decide) (br_f (by decide) (br_f (by decide) (br_f (by decide) (br_f (by decide) (br_t rfl ?_))))))))))))))))⟩⟩
    unfold wpX_unlinkName
    exact xk_isName (fun a1 => br_f (by decide) ⟨a1, fun a3 => h0 (fun z => z.2 a3), fun a3 => ⟨a1, nm_e (nm_r ec1 (h1 ⟨a1, a3⟩))⟩⟩) (fun a1 => br_t rfl (h0 (fun z => a1 z.1)))
  have hY : ∀ post : SY → Prop, (¬ (vp_in (x_registers (4 * s)) 8 ∧ x_nameFiles (x_registers (4 * s)).toNatClampNeg ≠ -1) → wY_call_169 post (nI s) (-1) x_changes y_time y_last y_lastPid y_did x_greatestPid x_latestPid x_saidCount 0 y_ops y_as y_bs x_codeLengths x_pids x_parents x_programs x_places x_statuses x_stepCounts x_copyCounts y_pages y_wake y_zombie y_blocked x_registers y_memory y_frame x_held y_kind x_openTargets y_mode x_openPlaces x_pipeCounts y_pipe x_nameFiles y_size x_fileWords x_safeNames y_safeSize x_safeWords y_said) → ((vp_in (x_registers (4 * s)) 8 ∧ x_nameFiles (x_registers (4 * s)).toNatClampNeg ≠ -1) → wpY_release (fun u => match u with | (y_changes, y_time, y_last, y_lastPid, y_did, y_greatest, y_stepped, y_says, y_killed, y_ops, y_as, y_bs, y_length, y_pid, y_parent, y_program, y_pc, y_status, y_steps, y_copies, y_pages, y_wake, y_zombie, y_blocked, y_reg, y_memory, y_frame, y_descriptor, y_kind, y_of, y_mode, y_place, y_piped, y_pipe, y_names, y_size, y_words, y_safeNames, y_safeSize, y_safeWords, y_said) => wpY_change (fun u => match u with | (y_changes, y_time, y_last, y_lastPid, y_did, y_greatest, y_stepped, y_says, y_killed, y_ops, y_as, y_bs, y_length, y_pid, y_parent, y_program, y_pc, y_status, y_steps, y_copies, y_pages, y_wake, y_zombie, y_blocked, y_reg, y_memory, y_frame, y_descriptor, y_kind, y_of, y_mode, y_place, y_piped, y_pipe, y_names, y_size, y_words, y_safeNames, y_safeSize, y_safeWords, y_said) => wY_call_169 post (nI s) 0 y_changes y_time y_last y_lastPid y_did y_greatest y_stepped y_says y_killed y_ops y_as y_bs y_length y_pid y_parent y_program y_pc y_status y_steps y_copies y_pages y_wake y_zombie y_blocked y_reg y_memory y_frame y_descriptor y_kind y_of y_mode y_place y_piped y_pipe y_names y_size y_words y_safeNames y_safeSize y_safeWords y_said) (y_changes, y_time, y_last, y_lastPid, y_did, y_greatest, y_stepped, y_says, y_killed, y_ops, y_as, y_bs, y_length, y_pid, y_parent, y_program, y_pc, y_status, y_steps, y_copies, y_pages, y_wake, y_zombie, y_blocked, y_reg, y_memory, y_frame, y_descriptor, y_kind, y_of, y_mode, y_place, y_piped, y_pipe, y_names, y_size, y_words, y_safeNames, y_safeSize, y_safeWords, y_said)) (x_changes, y_time, y_last, y_lastPid, y_did, x_greatestPid, x_latestPid, x_saidCount, 0, y_ops, y_as, y_bs, x_codeLengths, x_pids, x_parents, x_programs, x_places, x_statuses, x_stepCounts, x_copyCounts, y_pages, y_wake, y_zombie, y_blocked, x_registers, y_memory, y_frame, x_held, y_kind, x_openTargets, y_mode, x_openPlaces, x_pipeCounts, y_pipe, upd x_nameFiles (x_registers (4 * s)).toNatClampNeg (-1), y_size, x_fileWords, x_safeNames, y_safeSize, x_safeWords, y_said) (x_nameFiles (x_registers (4 * s)).toNatClampNeg)) → wY_call_127 post (nI s) 13 (x_registers (4 * s)) (x_registers (4 * s + 1)) x_changes y_time y_last y_lastPid y_did x_greatestPid x_latestPid x_saidCount 0 y_ops y_as y_bs x_codeLengths x_pids x_parents x_programs x_places x_statuses x_stepCounts x_copyCounts y_pages y_wake y_zombie y_blocked x_registers y_memory y_frame x_held y_kind x_openTargets y_mode x_openPlaces x_pipeCounts y_pipe x_nameFiles y_size x_fileWords x_safeNames y_safeSize x_safeWords y_said := fun post h0 h1 => by
    unfold wY_call_127
    refine br_t (by decide) (br_t (by decide) ?_)
    unfold wpY_others
    refine br_f (by decide) (br_f (by decide) (br_f (by decide) (br_f (by decide) (br_t rfl ?_))))
    refine yk_no 7 rfl (by decide) (fun a1 => br_t rfl ⟨a1, fun a3 => ⟨a1, nm_e ⟨a1, nm_e (h1 ⟨a1, fun z => ?_⟩)⟩⟩, fun a3 => h0 (fun z => z.2 ((hNm _ (uk_inc a1)).mp (Int32.not_le.mp a3)))⟩) (fun a1 => br_f (by decide) (h0 (fun z => a1 z.1)))
    rw [z] at a3
    exact absurd a3 (by decide)
  by_cases hv : vp_in (x_registers (4 * s)) 8 ∧ x_nameFiles (x_registers (4 * s)).toNatClampNeg ≠ -1
  · have hx8 := uk_inc hv.1
    obtain ⟨f, hf, ef⟩ := vp_in_of (((uk_aFi A).1 _ hx8).resolve_left hv.2) (by decide)
    by_cases hfr : uk_fre (upd x_nameFiles (x_registers (4 * s)).toNatClampNeg (-1)) y_kind x_openTargets f
    · have A1 : uk_All t b x_changes x_saidCount x_time x_lastSlot x_sliceSteps x_latestPid x_greatestPid x_code x_codeLengths x_pids x_parents x_programs x_places x_states x_statuses x_stepCounts x_copyCounts x_wakeTimes x_registers x_pageCounts x_pageFrames x_held x_frameUsers x_frameWords x_openHolders x_openKinds x_openTargets x_openPlaces x_openModes x_pipeFirsts x_pipeCounts x_pipeWords (upd x_nameFiles (x_registers (4 * s)).toNatClampNeg (-1)) x_fileSizes x_fileWords x_safeNames x_safeSizes x_safeWords x_saidInts y_time y_last y_lastPid y_did y_killed y_ops y_as y_bs y_pages y_wake y_zombie y_blocked y_memory y_frame y_kind y_mode y_pipe (upd y_size f 0) y_safeSize y_said := ⟨uk_aG A, uk_aN A, uk_aC A, uk_aeT A, uk_aPr A, uk_aPs A, uk_aMe A, uk_aFu A, uk_aHd A, uk_aHo A, uk_aOk A, uk_aPi A, uk_Fi_ul0 (uk_aFi A) hx8 hf ef hfr, uk_aSa A, uk_aSc A, uk_aWk A⟩
      by_cases hc1 : c + 1 = 30
      · refine ⟨_, _, fun post h => hX post (fun z => absurd hv z) (fun _ => xk_tail1 hs (congrArg nI hc1) h), fun post h => hY post (fun z => absurd hv z) (fun _ => ?_), uk_endc2 (g := 0) A1 hs hp hz hb⟩
        rw [ef]
        exact yk_release hf (fun _ => yk_change ec hc (fun z => absurd hc1 z) (fun _ => yk_tail0 hs h)) (fun z => absurd hfr z)
      · refine ⟨_, _, fun post h => hX post (fun z => absurd hv z) (fun _ => xk_tail0 hs rfl (by omega) h), fun post h => hY post (fun z => absurd hv z) (fun _ => ?_), uk_endc1 (g := 0) (c := c) A1 hs hp hz hb (by omega)⟩
        rw [ef]
        exact yk_release hf (fun _ => yk_change ec hc (fun _ => yk_tail0 hs h) (fun z => absurd z hc1)) (fun z => absurd hfr z)
    · have A1 : uk_All t b x_changes x_saidCount x_time x_lastSlot x_sliceSteps x_latestPid x_greatestPid x_code x_codeLengths x_pids x_parents x_programs x_places x_states x_statuses x_stepCounts x_copyCounts x_wakeTimes x_registers x_pageCounts x_pageFrames x_held x_frameUsers x_frameWords x_openHolders x_openKinds x_openTargets x_openPlaces x_openModes x_pipeFirsts x_pipeCounts x_pipeWords (upd x_nameFiles (x_registers (4 * s)).toNatClampNeg (-1)) x_fileSizes x_fileWords x_safeNames x_safeSizes x_safeWords x_saidInts y_time y_last y_lastPid y_did y_killed y_ops y_as y_bs y_pages y_wake y_zombie y_blocked y_memory y_frame y_kind y_mode y_pipe y_size y_safeSize y_said := ⟨uk_aG A, uk_aN A, uk_aC A, uk_aeT A, uk_aPr A, uk_aPs A, uk_aMe A, uk_aFu A, uk_aHd A, uk_aHo A, uk_aOk A, uk_aPi A, uk_Fi_ul1 (uk_aFi A) hx8 hf ef hfr, uk_aSa A, uk_aSc A, uk_aWk A⟩
      by_cases hc1 : c + 1 = 30
      · refine ⟨_, _, fun post h => hX post (fun z => absurd hv z) (fun _ => xk_tail1 hs (congrArg nI hc1) h), fun post h => hY post (fun z => absurd hv z) (fun _ => ?_), uk_endc2 (g := 0) A1 hs hp hz hb⟩
        rw [ef]
        exact yk_release hf (fun z => absurd z hfr) (fun _ => yk_change ec hc (fun z => absurd hc1 z) (fun _ => yk_tail0 hs h))
      · refine ⟨_, _, fun post h => hX post (fun z => absurd hv z) (fun _ => xk_tail0 hs rfl (by omega) h), fun post h => hY post (fun z => absurd hv z) (fun _ => ?_), uk_endc1 (g := 0) (c := c) A1 hs hp hz hb (by omega)⟩
        rw [ef]
        exact yk_release hf (fun z => absurd z hfr) (fun _ => yk_change ec hc (fun _ => yk_tail0 hs h) (fun z => absurd z hc1))
  · exact ⟨_, _, fun post h => hX post (fun _ => xk_tail0 hs ec hc h) (fun z => absurd z hv), fun post h => hY post (fun _ => yk_tail0 hs h) (fun z => absurd z hv), uk_end0 (g := -1) A hs hp hz hb⟩
end
end
section
/-! FORK -/
theorem uk_flh {a g : Nat → Int32} {b N : Nat} {x : Int32} (hN : 0 < N) : upd (uk_fl a b g N) b x = uk_fl a b (fun r => if r = 0 then x else g r) N := by
  funext j
  by_cases e : j = b
  · subst e
    rw [pk_us]
    have := uk_flin (a := a) (b := j) (g := fun r => if r = 0 then x else g r) hN
    rw [Nat.add_zero] at this
    rw [this]
    rfl
  · rw [pk_un e]
    by_cases h : b ≤ j ∧ j < b + N
    · obtain ⟨i, rfl⟩ : ∃ i, j = b + i := ⟨j - b, by omega⟩
      rw [uk_flin (show i < N by omega), uk_flin (show i < N by omega)]
      exact (if_neg (by omega)).symm
    · rw [uk_flout (by omega), uk_flout (by omega)]
section
variable {x_changes x_saidCount x_time x_lastSlot x_sliceSteps x_latestPid x_greatestPid : Int32} {x_code x_codeLengths x_pids x_parents x_programs x_places x_states x_statuses x_stepCounts x_copyCounts x_wakeTimes x_registers x_pageCounts x_pageFrames x_held x_frameUsers x_frameWords x_openHolders x_openKinds x_openTargets x_openPlaces x_openModes x_pipeFirsts x_pipeCounts x_pipeWords x_nameFiles x_fileSizes x_fileWords x_safeNames x_safeSizes x_safeWords x_saidInts : Nat → Int32} {y_time y_last y_lastPid y_did y_killed : Int32} {y_ops y_as y_bs y_pages y_wake y_zombie y_blocked y_memory y_frame y_kind y_mode y_pipe y_size y_safeSize y_said : Nat → Int32}
theorem xk_share {post : SX → Prop} {s c n : Nat} (hs : s < 8) (hc : c < 8) (hsc : s ≠ c) (hn : x_pageCounts s = nI n) (hn8 : n ≤ 8) (hpf : ∀ p, p < n → vp_in (x_pageFrames (8 * s + p)) 20) (h : post (x_changes, x_saidCount, x_time, x_lastSlot, x_sliceSteps, x_latestPid, x_greatestPid, x_code, x_codeLengths, x_pids, x_parents, x_programs, x_places, x_states, x_statuses, x_stepCounts, x_copyCounts, x_wakeTimes, x_registers, upd x_pageCounts c (nI n), uk_fl x_pageFrames (8 * c) (fun p => x_pageFrames (8 * s + p)) n, x_held, uk_icc x_frameUsers x_pageFrames (8 * s) n, x_frameWords, x_openHolders, x_openKinds, x_openTargets, x_openPlaces, x_openModes, x_pipeFirsts, x_pipeCounts, x_pipeWords, x_nameFiles, x_fileSizes, x_fileWords, x_safeNames, x_safeSizes, x_safeWords, x_saidInts)) : wpX_sharePages post (x_changes, x_saidCount, x_time, x_lastSlot, x_sliceSteps, x_latestPid, x_greatestPid, x_code, x_codeLengths, x_pids, x_parents, x_programs, x_places, x_states, x_statuses, x_stepCounts, x_copyCounts, x_wakeTimes, x_registers, x_pageCounts, x_pageFrames, x_held, x_frameUsers, x_frameWords, x_openHolders, x_openKinds, x_openTargets, x_openPlaces, x_openModes, x_pipeFirsts, x_pipeCounts, x_pipeWords, x_nameFiles, x_fileSizes, x_fileWords, x_safeNames, x_safeSizes, x_safeWords, x_saidInts) (nI s) (nI c) := by
  obtain ⟨_, vs, es⟩ := uk_lp 8 hs (by decide)
  obtain ⟨_, vc, ecc⟩ := uk_lp 8 hc (by decide)
  unfold wpX_sharePages
  have key := uk_run0 (fun m p (w : (Nat → Int32) × (Nat → Int32)) => wX_sharePages_2 post (nI s) (nI c) x_changes x_saidCount x_time x_lastSlot x_sliceSteps x_latestPid x_greatestPid m (nI p) x_code x_codeLengths x_pids x_parents x_programs x_places x_states x_statuses x_stepCounts x_copyCounts x_wakeTimes x_registers x_pageCounts w.1 x_held w.2 x_frameWords x_openHolders x_openKinds x_openTargets x_openPlaces x_openModes x_pipeFirsts x_pipeCounts x_pipeWords x_nameFiles x_fileSizes x_fileWords x_safeNames x_safeSizes x_safeWords x_saidInts) (fun p => (uk_fl x_pageFrames (8 * c) (fun p => x_pageFrames (8 * s + p)) p, uk_icc x_frameUsers x_pageFrames (8 * s) p)) n (fun m => by
    refine ⟨vs, ?_⟩
    rw [es, ecc, hn]
    exact br_t (uk_refl _) ⟨vs, vc, nm_e h⟩) (fun m p hp ih => by
    refine ⟨vs, ?_⟩
    rw [es, hn]
    refine br_f (nI_ge hp (by omega)) ?_
    rw [uk_m8, uk_m8, nI_add, nI_add, nI_clamp (show 8 * s + p < 2 ^ 31 by omega), nI_clamp (show 8 * c + p < 2 ^ 31 by omega)]
    dsimp only
    have er : uk_fl x_pageFrames (8 * c) (fun p => x_pageFrames (8 * s + p)) p (8 * s + p) = x_pageFrames (8 * s + p) := uk_flout (by omega)
    exact ⟨vp_in_nI (by omega) (by decide), nm_r er ⟨vp_in_nI (by omega) (by decide), nm_r (uk_fls (g := fun p => x_pageFrames (8 * s + p))) ⟨hpf p hp, hpf p hp, nm_e (nm_r (nI_1 p) ih)⟩⟩⟩)
  dsimp only at key
  rw [uk_fl0] at key
  exact key
theorem xk_fork {post : Int32 → SX → Prop} {s c n g : Nat} (hs : s < 8) (hc : c < 8) (hsc : s ≠ c) (hff : uk_ff (fun i => x_pids i = 0) 8 = nI c) (eg : x_greatestPid = nI g) (hn : x_pageCounts s = nI n) (hn8 : n ≤ 8) (hpf : ∀ p, p < n → vp_in (x_pageFrames (8 * s + p)) 20) (hH : ∀ d, d < 6 → x_held (6 * s + d) = -1 ∨ vp_in (x_held (6 * s + d)) 12) (h : post (nI (g + 1)) (x_changes, x_saidCount, x_time, x_lastSlot, x_sliceSteps, x_latestPid, nI (g + 1), x_code, x_codeLengths, upd x_pids c (nI (g + 1)), upd x_parents c (x_pids s), upd x_programs c (x_programs s), upd x_places c (x_places s), upd x_states c 1, upd x_statuses c 0, upd x_stepCounts c 0, upd x_copyCounts c 0, upd x_wakeTimes c 0, uk_fl x_registers (4 * c) (fun r => if r = 0 then 0 else x_registers (4 * s + r)) 4, upd x_pageCounts c (nI n), uk_fl x_pageFrames (8 * c) (fun p => x_pageFrames (8 * s + p)) n, uk_fl x_held (6 * c) (fun d => x_held (6 * s + d)) 6, uk_icc x_frameUsers x_pageFrames (8 * s) n, x_frameWords, uk_hic x_openHolders x_held (6 * s) 6, x_openKinds, x_openTargets, x_openPlaces, x_openModes, x_pipeFirsts, x_pipeCounts, x_pipeWords, x_nameFiles, x_fileSizes, x_fileWords, x_safeNames, x_safeSizes, x_safeWords, x_saidInts)) : wpX_forkProcess post (x_changes, x_saidCount, x_time, x_lastSlot, x_sliceSteps, x_latestPid, x_greatestPid, x_code, x_codeLengths, x_pids, x_parents, x_programs, x_places, x_states, x_statuses, x_stepCounts, x_copyCounts, x_wakeTimes, x_registers, x_pageCounts, x_pageFrames, x_held, x_frameUsers, x_frameWords, x_openHolders, x_openKinds, x_openTargets, x_openPlaces, x_openModes, x_pipeFirsts, x_pipeCounts, x_pipeWords, x_nameFiles, x_fileSizes, x_fileWords, x_safeNames, x_safeSizes, x_safeWords, x_saidInts) (nI s) := by
  obtain ⟨_, vs, es⟩ := uk_lp 8 hs (by decide)
  obtain ⟨_, vc, ecc⟩ := uk_lp 8 hc (by decide)
  unfold wpX_forkProcess
  refine xk_freeSlot ?_
  rw [hff]
  refine br_f (uk_ne1 (by omega)) (nm_r (show x_greatestPid + 1 = nI (g + 1) by rw [eg]; exact nI_1 g) ⟨vs, ?_⟩)
  rw [es, ecc]
  unfold wpX_beginProcess
  dsimp only
  rw [ecc]
  refine ⟨vc, nm_e ⟨vc, nm_e ⟨vc, nm_e ⟨vc, nm_e ⟨vc, nm_e ⟨vc, nm_e ⟨vc, nm_e ⟨vc, nm_e ⟨vs, vc, nm_e ⟨vs, vc, nm_e ?_⟩⟩⟩⟩⟩⟩⟩⟩⟩⟩
  have kR := uk_run0 (fun m r (w : Nat → Int32) => wX_forkProcess_63 post (nI s) (nI c) x_changes x_saidCount x_time x_lastSlot x_sliceSteps x_latestPid (nI (g + 1)) m (nI r) x_code x_codeLengths (upd x_pids c (nI (g + 1))) (upd x_parents c (x_pids s)) (upd x_programs c (x_programs s)) (upd x_places c (x_places s)) (upd x_states c 1) (upd x_statuses c 0) (upd x_stepCounts c 0) (upd x_copyCounts c 0) (upd x_wakeTimes c 0) w (upd x_pageCounts c 0) x_pageFrames x_held x_frameUsers x_frameWords x_openHolders x_openKinds x_openTargets x_openPlaces x_openModes x_pipeFirsts x_pipeCounts x_pipeWords x_nameFiles x_fileSizes x_fileWords x_safeNames x_safeSizes x_safeWords x_saidInts) (fun r => uk_fl x_registers (4 * c) (fun r => x_registers (4 * s + r)) r) 4 (fun m => by
    refine br_t (uk_refl 4) ?_
    rw [uk_m4, nI_clamp (show 4 * c < 2 ^ 31 by omega)]
    refine ⟨vp_in_nI (by omega) (by decide), nm_r (uk_flh (by decide)) (xk_share (n := n) hs hc hsc ((pk_un hsc).trans hn) hn8 hpf ?_)⟩
    rw [uk_uu]
    have kH := uk_run0 (fun m d (w : (Nat → Int32) × (Nat → Int32)) => wX_forkProcess_111 post (nI s) (nI c) x_changes x_saidCount x_time x_lastSlot x_sliceSteps x_latestPid (nI (g + 1)) m (nI d) x_code x_codeLengths (upd x_pids c (nI (g + 1))) (upd x_parents c (x_pids s)) (upd x_programs c (x_programs s)) (upd x_places c (x_places s)) (upd x_states c 1) (upd x_statuses c 0) (upd x_stepCounts c 0) (upd x_copyCounts c 0) (upd x_wakeTimes c 0) (uk_fl x_registers (4 * c) (fun r => if r = 0 then 0 else x_registers (4 * s + r)) 4) (upd x_pageCounts c (nI n)) (uk_fl x_pageFrames (8 * c) (fun p => x_pageFrames (8 * s + p)) n) w.1 (uk_icc x_frameUsers x_pageFrames (8 * s) n) x_frameWords w.2 x_openKinds x_openTargets x_openPlaces x_openModes x_pipeFirsts x_pipeCounts x_pipeWords x_nameFiles x_fileSizes x_fileWords x_safeNames x_safeSizes x_safeWords x_saidInts) (fun d => (uk_fl x_held (6 * c) (fun d => x_held (6 * s + d)) d, uk_hic x_openHolders x_held (6 * s) d)) 6 (fun m => br_t (uk_refl 6) h) (fun m d hd ih => by
      refine br_f (nI_ge (b := 6) hd (by decide)) ?_
      rw [uk_m6, uk_m6, nI_add, nI_add, nI_clamp (show 6 * s + d < 2 ^ 31 by omega), nI_clamp (show 6 * c + d < 2 ^ 31 by omega)]
      dsimp only
      have er : uk_fl x_held (6 * c) (fun d => x_held (6 * s + d)) d (6 * s + d) = x_held (6 * s + d) := uk_flout (by omega)
      refine ⟨vp_in_nI (by omega) (by decide), nm_r er ⟨vp_in_nI (by omega) (by decide), nm_r (uk_fls (g := fun d => x_held (6 * s + d))) ?_⟩⟩
      by_cases e1 : x_held (6 * s + d) = -1
      · have ei : uk_hic x_openHolders x_held (6 * s) (d + 1) = uk_hic x_openHolders x_held (6 * s) d := if_pos e1
        dsimp only at ih
        rw [ei] at ih
        exact br_t e1 (nm_r (nI_1 d) ih)
      · have hv := (hH d hd).resolve_left e1
        have ei : uk_hic x_openHolders x_held (6 * s) (d + 1) = upd (uk_hic x_openHolders x_held (6 * s) d) (x_held (6 * s + d)).toNatClampNeg (uk_hic x_openHolders x_held (6 * s) d (x_held (6 * s + d)).toNatClampNeg + 1) := if_neg e1
        dsimp only at ih
        rw [ei] at ih
        exact br_f e1 ⟨hv, hv, nm_e (nm_r (nI_1 d) ih)⟩)
    dsimp only at kH
    rw [uk_fl0] at kH
    exact kH) (fun m r hr ih => by
    refine br_f (nI_ge (b := 4) hr (by decide)) ?_
    rw [uk_m4, uk_m4, nI_add, nI_add, nI_clamp (show 4 * s + r < 2 ^ 31 by omega), nI_clamp (show 4 * c + r < 2 ^ 31 by omega), uk_flout (show 4 * s + r < 4 * c ∨ 4 * c + r ≤ 4 * s + r by omega)]
    exact ⟨vp_in_nI (by omega) (by decide), vp_in_nI (by omega) (by decide), nm_r (uk_fls (g := fun r => x_registers (4 * s + r))) (nm_r (nI_1 r) ih)⟩)
  rw [uk_fl0] at kR
  exact kR
theorem yk_fork {post : Int32 → SY → Prop} {s c n g : Nat} (hs : s < 8) (hc : c < 8) (hsc : s ≠ c) (hP : ∀ s, s < 8 → ¬ x_pids s < 0) (hpc : x_pids c = 0) (hfirst : ∀ i, i < c → x_pids i ≠ 0) (eg : x_greatestPid = nI g) (hn : y_pages s = nI n) (h : post (nI (g + 1)) (x_changes, y_time, y_last, y_lastPid, y_did, nI (g + 1), x_latestPid, x_saidCount, y_killed, y_ops, y_as, y_bs, x_codeLengths, upd x_pids c (nI (g + 1)), upd x_parents c (x_pids s), upd x_programs c (x_programs s), upd x_places c (x_places s), upd x_statuses c 0, upd x_stepCounts c 0, upd x_copyCounts c 0, upd y_pages c (nI n), upd y_wake c (-1), upd y_zombie c 0, upd y_blocked c 0, uk_fl x_registers (4 * c) (fun r => if r = 0 then 0 else x_registers (4 * s + r)) 4, uk_fl y_memory (32 * c) (fun k => y_memory (32 * s + k)) 32, uk_fl y_frame (8 * c) (fun p => y_frame (8 * s + p)) 8, uk_fl x_held (6 * c) (fun d => x_held (6 * s + d)) 6, y_kind, x_openTargets, y_mode, x_openPlaces, x_pipeCounts, y_pipe, x_nameFiles, y_size, x_fileWords, x_safeNames, y_safeSize, x_safeWords, y_said)) : wpY_fork post (x_changes, y_time, y_last, y_lastPid, y_did, x_greatestPid, x_latestPid, x_saidCount, y_killed, y_ops, y_as, y_bs, x_codeLengths, x_pids, x_parents, x_programs, x_places, x_statuses, x_stepCounts, x_copyCounts, y_pages, y_wake, y_zombie, y_blocked, x_registers, y_memory, y_frame, x_held, y_kind, x_openTargets, y_mode, x_openPlaces, x_pipeCounts, y_pipe, x_nameFiles, y_size, x_fileWords, x_safeNames, y_safeSize, x_safeWords, y_said) (nI s) := by
  obtain ⟨_, vs, es⟩ := uk_lp 8 hs (by decide)
  obtain ⟨_, vc, ecc⟩ := uk_lp 8 hc (by decide)
  have k23 : wY_fork_23 post (nI s) (nI c) x_changes y_time y_last y_lastPid y_did x_greatestPid x_latestPid x_saidCount y_killed y_ops y_as y_bs x_codeLengths x_pids x_parents x_programs x_places x_statuses x_stepCounts x_copyCounts y_pages y_wake y_zombie y_blocked x_registers y_memory y_frame x_held y_kind x_openTargets y_mode x_openPlaces x_pipeCounts y_pipe x_nameFiles y_size x_fileWords x_safeNames y_safeSize x_safeWords y_said := by
    unfold wY_fork_23
    refine br_f (fun z => absurd (uk_nIn (b := 8) (by omega) (by decide) z) (by omega)) ⟨vs, vs, ?_⟩
    rw [es]
    unfold wpY_create
    dsimp only
    rw [ecc]
    have eg1 : x_greatestPid + 1 = nI (g + 1) := by rw [eg]; exact nI_1 g
    rw [eg1]
    refine nm_e ⟨vc, nm_e ⟨vc, nm_e ⟨vc, nm_e ⟨vc, nm_e ⟨vc, nm_e ⟨vc, nm_e ⟨vc, nm_e ⟨vc, nm_e ⟨vc, nm_e ⟨vs, vc, nm_e ⟨vs, vc, nm_r (congrArg (upd y_pages c) hn) ?_⟩⟩⟩⟩⟩⟩⟩⟩⟩⟩⟩
    have kM := uk_run0 (fun m k (w : Nat → Int32) => wY_fork_74 post (nI s) (nI c) x_changes y_time y_last y_lastPid y_did (nI (g + 1)) x_latestPid x_saidCount y_killed m (nI k) y_ops y_as y_bs x_codeLengths (upd x_pids c (nI (g + 1))) (upd x_parents c (x_pids s)) (upd x_programs c (x_programs s)) (upd x_places c (x_places s)) (upd x_statuses c 0) (upd x_stepCounts c 0) (upd x_copyCounts c 0) (upd y_pages c (nI n)) (upd y_wake c (-1)) (upd y_zombie c 0) (upd y_blocked c 0) x_registers w y_frame x_held y_kind x_openTargets y_mode x_openPlaces x_pipeCounts y_pipe x_nameFiles y_size x_fileWords x_safeNames y_safeSize x_safeWords y_said) (fun k => uk_fl y_memory (32 * c) (fun k => y_memory (32 * s + k)) k) 32 (fun m => br_t (uk_refl 32) (by
      have kF := uk_run0 (fun m k (w : Nat → Int32) => wY_fork_110 post (nI s) (nI c) x_changes y_time y_last y_lastPid y_did (nI (g + 1)) x_latestPid x_saidCount y_killed m (nI k) y_ops y_as y_bs x_codeLengths (upd x_pids c (nI (g + 1))) (upd x_parents c (x_pids s)) (upd x_programs c (x_programs s)) (upd x_places c (x_places s)) (upd x_statuses c 0) (upd x_stepCounts c 0) (upd x_copyCounts c 0) (upd y_pages c (nI n)) (upd y_wake c (-1)) (upd y_zombie c 0) (upd y_blocked c 0) x_registers (uk_fl y_memory (32 * c) (fun k => y_memory (32 * s + k)) 32) w x_held y_kind x_openTargets y_mode x_openPlaces x_pipeCounts y_pipe x_nameFiles y_size x_fileWords x_safeNames y_safeSize x_safeWords y_said) (fun k => uk_fl y_frame (8 * c) (fun p => y_frame (8 * s + p)) k) 8 (fun m => br_t (uk_refl 8) (by
        have kR := uk_run0 (fun m k (w : Nat → Int32) => wY_fork_146 post (nI s) (nI c) x_changes y_time y_last y_lastPid y_did (nI (g + 1)) x_latestPid x_saidCount y_killed m (nI k) y_ops y_as y_bs x_codeLengths (upd x_pids c (nI (g + 1))) (upd x_parents c (x_pids s)) (upd x_programs c (x_programs s)) (upd x_places c (x_places s)) (upd x_statuses c 0) (upd x_stepCounts c 0) (upd x_copyCounts c 0) (upd y_pages c (nI n)) (upd y_wake c (-1)) (upd y_zombie c 0) (upd y_blocked c 0) w (uk_fl y_memory (32 * c) (fun k => y_memory (32 * s + k)) 32) (uk_fl y_frame (8 * c) (fun p => y_frame (8 * s + p)) 8) x_held y_kind x_openTargets y_mode x_openPlaces x_pipeCounts y_pipe x_nameFiles y_size x_fileWords x_safeNames y_safeSize x_safeWords y_said) (fun k => uk_fl x_registers (4 * c) (fun r => if r = 0 then 0 else x_registers (4 * s + r)) k) 4 (fun m => br_t (uk_refl 4) (by
          have kD := uk_run0 (fun m k (w : Nat → Int32) => wY_fork_187 post (nI s) (nI c) x_changes y_time y_last y_lastPid y_did (nI (g + 1)) x_latestPid x_saidCount y_killed m (nI k) y_ops y_as y_bs x_codeLengths (upd x_pids c (nI (g + 1))) (upd x_parents c (x_pids s)) (upd x_programs c (x_programs s)) (upd x_places c (x_places s)) (upd x_statuses c 0) (upd x_stepCounts c 0) (upd x_copyCounts c 0) (upd y_pages c (nI n)) (upd y_wake c (-1)) (upd y_zombie c 0) (upd y_blocked c 0) (uk_fl x_registers (4 * c) (fun r => if r = 0 then 0 else x_registers (4 * s + r)) 4) (uk_fl y_memory (32 * c) (fun k => y_memory (32 * s + k)) 32) (uk_fl y_frame (8 * c) (fun p => y_frame (8 * s + p)) 8) w y_kind x_openTargets y_mode x_openPlaces x_pipeCounts y_pipe x_nameFiles y_size x_fileWords x_safeNames y_safeSize x_safeWords y_said) (fun k => uk_fl x_held (6 * c) (fun d => x_held (6 * s + d)) k) 6 (fun m => by
            refine br_t (uk_refl 6) ⟨vc, ?_⟩
            rw [ecc, pk_us]
            exact h) (fun m k hk ih => by
            refine br_f (nI_ge (b := 6) hk (by decide)) ?_
            rw [uk_6m, uk_6m, nI_add, nI_add, nI_clamp (show 6 * s + k < 2 ^ 31 by omega), nI_clamp (show 6 * c + k < 2 ^ 31 by omega), uk_flout (show 6 * s + k < 6 * c ∨ 6 * c + k ≤ 6 * s + k by omega)]
            exact ⟨vp_in_nI (by omega) (by decide), vp_in_nI (by omega) (by decide), nm_r (uk_fls (g := fun d => x_held (6 * s + d))) (nm_r (nI_1 k) ih)⟩)
          rw [uk_fl0] at kD
          exact kD)) (fun m k hk ih => by
          refine br_f (nI_ge (b := 4) hk (by decide)) ?_
          rw [uk_4m, uk_4m, nI_add, nI_add, nI_clamp (show 4 * s + k < 2 ^ 31 by omega), nI_clamp (show 4 * c + k < 2 ^ 31 by omega), uk_flout (show 4 * s + k < 4 * c ∨ 4 * c + k ≤ 4 * s + k by omega)]
          refine ⟨fun e0 => ⟨vp_in_nI (by omega) (by decide), nm_r ?_ (nm_r (nI_1 k) ih)⟩, fun e0 => ⟨vp_in_nI (by omega) (by decide), vp_in_nI (by omega) (by decide), nm_r ?_ (nm_r (nI_1 k) ih)⟩⟩
          · have k0 : k = 0 := uk_nIn (b := 0) (by omega) (by decide) e0
            subst k0
            exact uk_fls (g := fun r => if r = 0 then 0 else x_registers (4 * s + r))
          · have k0 : k ≠ 0 := fun z => e0 (by rw [z]; rfl)
            have eg2 : (if k = 0 then (0 : Int32) else x_registers (4 * s + k)) = x_registers (4 * s + k) := if_neg k0
            rw [← eg2]
            exact uk_fls (g := fun r => if r = 0 then 0 else x_registers (4 * s + r)))
        rw [uk_fl0] at kR
        exact kR)) (fun m k hk ih => by
        refine br_f (nI_ge (b := 8) hk (by decide)) ?_
        rw [uk_8m, uk_8m, nI_add, nI_add, nI_clamp (show 8 * s + k < 2 ^ 31 by omega), nI_clamp (show 8 * c + k < 2 ^ 31 by omega), uk_flout (show 8 * s + k < 8 * c ∨ 8 * c + k ≤ 8 * s + k by omega)]
        exact ⟨vp_in_nI (by omega) (by decide), vp_in_nI (by omega) (by decide), nm_r (uk_fls (g := fun p => y_frame (8 * s + p))) (nm_r (nI_1 k) ih)⟩)
      rw [uk_fl0] at kF
      exact kF)) (fun m k hk ih => by
      refine br_f (nI_ge (b := 32) hk (by decide)) ?_
      rw [uk_32m, uk_32m, nI_add, nI_add, nI_clamp (show 32 * s + k < 2 ^ 31 by omega), nI_clamp (show 32 * c + k < 2 ^ 31 by omega), uk_flout (show 32 * s + k < 32 * c ∨ 32 * c + k ≤ 32 * s + k by omega)]
      exact ⟨vp_in_nI (by omega) (by decide), vp_in_nI (by omega) (by decide), nm_r (uk_fls (g := fun k => y_memory (32 * s + k))) (nm_r (nI_1 k) ih)⟩)
    rw [uk_fl0] at kM
    exact kM
  unfold wpY_fork
  have key := uk_run0 (fun m i (_ : Unit) => wY_fork_2 post (nI s) x_changes y_time y_last y_lastPid y_did x_greatestPid x_latestPid x_saidCount y_killed y_ops y_as y_bs x_codeLengths x_pids x_parents x_programs x_places x_statuses x_stepCounts x_copyCounts y_pages y_wake y_zombie y_blocked x_registers y_memory y_frame x_held y_kind x_openTargets y_mode x_openPlaces x_pipeCounts y_pipe x_nameFiles y_size x_fileWords x_safeNames y_safeSize x_safeWords y_said m (nI i)) (fun _ => ()) c (fun m => by
    refine br_f (nI_ge (b := 8) hc (by decide)) ⟨vc, ?_⟩
    rw [ecc]
    exact br_t ((uk_le0 (hP c hc)).mpr hpc) k23) (fun m i hi ih => by
    obtain ⟨z, v, e⟩ := uk_lp 8 (show i < 8 by omega) (by decide)
    refine br_f z ⟨v, ?_⟩
    rw [e]
    exact br_f (fun w => hfirst i hi ((uk_le0 (hP i (by omega))).mp w)) (nm_r (nI_1 i) ih))
  exact key
theorem uk_call1 {t b s : Nat} (A : uk_All t b x_changes x_saidCount x_time x_lastSlot x_sliceSteps x_latestPid x_greatestPid x_code x_codeLengths x_pids x_parents x_programs x_places x_states x_statuses x_stepCounts x_copyCounts x_wakeTimes x_registers x_pageCounts x_pageFrames x_held x_frameUsers x_frameWords x_openHolders x_openKinds x_openTargets x_openPlaces x_openModes x_pipeFirsts x_pipeCounts x_pipeWords x_nameFiles x_fileSizes x_fileWords x_safeNames x_safeSizes x_safeWords x_saidInts y_time y_last y_lastPid y_did y_killed y_ops y_as y_bs y_pages y_wake y_zombie y_blocked y_memory y_frame y_kind y_mode y_pipe y_size y_safeSize y_said) (hs : s < 8) (hp : x_pids s ≠ 0) (hz : y_zombie s = 0) (hb : y_blocked s = 0) (hla : y_last.toNatClampNeg = s) (hbb : b < 2000000000) :
  ∃ u' v', (∀ post : SX → Prop, post u' → wpX_doCall post (x_changes, x_saidCount, x_time, x_lastSlot, x_sliceSteps, x_latestPid, x_greatestPid, x_code, x_codeLengths, x_pids, x_parents, x_programs, x_places, x_states, x_statuses, x_stepCounts, x_copyCounts, x_wakeTimes, x_registers, x_pageCounts, x_pageFrames, x_held, x_frameUsers, x_frameWords, x_openHolders, x_openKinds, x_openTargets, x_openPlaces, x_openModes, x_pipeFirsts, x_pipeCounts, x_pipeWords, x_nameFiles, x_fileSizes, x_fileWords, x_safeNames, x_safeSizes, x_safeWords, x_saidInts) (nI s) 1) ∧ (∀ post : SY → Prop, post v' → wY_call_127 post (nI s) 1 (x_registers (4 * s)) (x_registers (4 * s + 1)) x_changes y_time y_last y_lastPid y_did x_greatestPid x_latestPid x_saidCount 0 y_ops y_as y_bs x_codeLengths x_pids x_parents x_programs x_places x_statuses x_stepCounts x_copyCounts y_pages y_wake y_zombie y_blocked x_registers y_memory y_frame x_held y_kind x_openTargets y_mode x_openPlaces x_pipeCounts y_pipe x_nameFiles y_size x_fileWords x_safeNames y_safeSize x_safeWords y_said) ∧ uk_R y_time t (b + 1) u' v' := by
  obtain ⟨_, vs, es⟩ := uk_lp 8 hs (by decide)
  obtain ⟨c, ec, hc⟩ := uk_aC A
  have hH := uk_aHd A s hs hp hz
  have hP : ∀ s, s < 8 → ¬ x_pids s < 0 := fun s hs => (uk_aPs A s hs).1
  obtain ⟨g, eg, hg⟩ := uk_aG A
  obtain ⟨n, hn8, n2, n3, n4, n5⟩ := uk_aMe A s hs hp
  have hpf : ∀ p, p < n → vp_in (x_pageFrames (8 * s + p)) 20 := fun p hp => by rw [(n5 p hp).2.1]; exact (n5 p hp).1
  rcases uk_ffs (fun i => x_pids i = 0) 8 with ⟨f, f1⟩ | ⟨c', hc', f, f1, f2⟩
  · refine ⟨_, _, fun post h => ?_, fun post h => ?_, uk_end0 (g := -1) A hs hp hz hb⟩
    · unfold wpX_doCall
      refine nm_r (uk_m4 s) ⟨vp_in_nI (by omega) (by decide), nm_r (uk_rg0 x_registers hs) ⟨uk_rgv hs, nm_r (uk_rg1 x_registers hs) (br_f (by decide) (br_f (by decide) (br_f (by decide) (br_t rfl ?_))))⟩⟩
      unfold wpX_forkProcess
      refine xk_freeSlot ?_
      rw [f]
      exact br_t rfl (xk_tail0 hs ec hc h)
    · unfold wY_call_127
      refine br_f (by decide) ?_
      unfold wpY_family
      refine br_t rfl ?_
      unfold wpY_fork
      have key := uk_run0 (fun m i (_ : Unit) => wY_fork_2 (fun r_279 u => match u with | (y_changes, y_time, y_last, y_lastPid, y_did, y_greatest, y_stepped, y_says, y_killed, y_ops, y_as, y_bs, y_length, y_pid, y_parent, y_program, y_pc, y_status, y_steps, y_copies, y_pages, y_wake, y_zombie, y_blocked, y_reg, y_memory, y_frame, y_descriptor, y_kind, y_of, y_mode, y_place, y_piped, y_pipe, y_names, y_size, y_words, y_safeNames, y_safeSize, y_safeWords, y_said) => wY_call_169 post (nI s) r_279 y_changes y_time y_last y_lastPid y_did y_greatest y_stepped y_says y_killed y_ops y_as y_bs y_length y_pid y_parent y_program y_pc y_status y_steps y_copies y_pages y_wake y_zombie y_blocked y_reg y_memory y_frame y_descriptor y_kind y_of y_mode y_place y_piped y_pipe y_names y_size y_words y_safeNames y_safeSize y_safeWords y_said) (nI s) x_changes y_time y_last y_lastPid y_did x_greatestPid x_latestPid x_saidCount 0 y_ops y_as y_bs x_codeLengths x_pids x_parents x_programs x_places x_statuses x_stepCounts x_copyCounts y_pages y_wake y_zombie y_blocked x_registers y_memory y_frame x_held y_kind x_openTargets y_mode x_openPlaces x_pipeCounts y_pipe x_nameFiles y_size x_fileWords x_safeNames y_safeSize x_safeWords y_said m (nI i)) (fun _ => ()) 8 (fun m => br_t (uk_refl 8) (br_t rfl (yk_tail0 hs h))) (fun m i hi ih => by
        obtain ⟨z, v, e⟩ := uk_lp 8 hi (by decide)
        refine br_f z ⟨v, ?_⟩
        rw [e]
        exact br_f (fun w => f1 i hi ((uk_le0 (hP i hi)).mp w)) (nm_r (nI_1 i) ih))
      exact key
  · have hsc : s ≠ c' := fun z => by subst z; exact hp f1
    have x0 : nI (g + 1) ≠ 0 := nI_ne0 (by omega) (by omega)
    have hsg : ¬ nI (g + 1) < 0 := nI_pos (by omega)
    have hp1 : upd x_pids c' (nI (g + 1)) s ≠ 0 := by rw [pk_un hsc]; exact hp
    have hz1 : upd y_zombie c' 0 s = 0 := by rw [pk_un hsc]; exact hz
    have hb1 : upd y_blocked c' 0 s = 0 := by rw [pk_un hsc]; exact hb
    have hSc1 : uk_Sc (upd x_pids c' (nI (g + 1))) x_lastSlot x_sliceSteps y_last y_lastPid y_did := by
      obtain ⟨q1, q2, q3⟩ := uk_aSc A
      refine ⟨q1, q2, ?_⟩
      rcases q3 with q3 | ⟨q3, q4⟩
      · exact absurd (q3 s hs) hp
      · refine Or.inr ⟨q3, ?_⟩
        rw [hla, pk_un hsc]
        rw [hla] at q4
        exact q4
    have A1 : uk_All t (b + 1) x_changes x_saidCount x_time x_lastSlot x_sliceSteps x_latestPid (nI (g + 1)) x_code x_codeLengths (upd x_pids c' (nI (g + 1))) (upd x_parents c' (x_pids s)) (upd x_programs c' (x_programs s)) (upd x_places c' (x_places s)) (upd x_states c' 1) (upd x_statuses c' 0) (upd x_stepCounts c' 0) (upd x_copyCounts c' 0) (upd x_wakeTimes c' 0) (uk_fl x_registers (4 * c') (fun r => if r = 0 then 0 else x_registers (4 * s + r)) 4) (upd x_pageCounts c' (nI n)) (uk_fl x_pageFrames (8 * c') (fun p => x_pageFrames (8 * s + p)) n) (uk_fl x_held (6 * c') (fun d => x_held (6 * s + d)) 6) (uk_icc x_frameUsers x_pageFrames (8 * s) n) x_frameWords (uk_hic x_openHolders x_held (6 * s) 6) x_openKinds x_openTargets x_openPlaces x_openModes x_pipeFirsts x_pipeCounts x_pipeWords x_nameFiles x_fileSizes x_fileWords x_safeNames x_safeSizes x_safeWords x_saidInts y_time y_last y_lastPid y_did y_killed y_ops y_as y_bs (upd y_pages c' (nI n)) (upd y_wake c' (-1)) (upd y_zombie c' 0) (upd y_blocked c' 0) (uk_fl y_memory (32 * c') (fun k => y_memory (32 * s + k)) 32) (uk_fl y_frame (8 * c') (fun p => y_frame (8 * s + p)) 8) y_kind y_mode y_pipe y_size y_safeSize y_said := by
      have Ab := uk_up1 (Nat.le_succ b) A
      exact ⟨⟨g + 1, rfl, by omega⟩, uk_aN Ab, uk_aC Ab, uk_aeT Ab, uk_aPr Ab, uk_fk_Ps (uk_aPs A) hs hsg, uk_fk_Me (uk_aMe A) hs hp f1 n3 hn8, uk_fk_Fu (uk_aMe A) (uk_aFu A) hs hc' hp f1 x0 n3 hn8, uk_fk_Hd (uk_aHd A) hs hp hz, uk_fk_Ho (uk_aHd A) (uk_aHo A) hs hc' hp hz f1 x0, uk_fk_Ok (uk_aHd A) (uk_aHo A) (uk_aOk A) hs hp hz, uk_aPi Ab, uk_aFi Ab, uk_aSa Ab, hSc1, uk_fk_Wk (uk_aWk A) (fun s' _ w => uk_flout (by omega))⟩
    refine ⟨_, _, fun post h => ?_, fun post h => ?_, uk_RmkK 0 (uk_All_reg (i := 0) (x := nI (g + 1)) A1 hs hp1 hz1 hb1 (by decide))⟩
    · unfold wpX_doCall
      refine nm_r (uk_m4 s) ⟨vp_in_nI (by omega) (by decide), nm_r (uk_rg0 x_registers hs) ⟨uk_rgv hs, nm_r (uk_rg1 x_registers hs) (br_f (by decide) (br_f (by decide) (br_f (by decide) (br_t rfl ?_))))⟩⟩
      exact xk_fork hs hc' hsc f eg n2 hn8 hpf hH (xk_tail0 hs ec hc h)
    · unfold wY_call_127
      refine br_f (by decide) ?_
      unfold wpY_family
      exact br_t rfl (yk_fork hs hc' hsc hP f1 f2 eg n3 (yk_tail0 hs h))
end
end
section
/-! GROW and EXEC -/
section
variable {x_changes x_saidCount x_time x_lastSlot x_sliceSteps x_latestPid x_greatestPid : Int32} {x_code x_codeLengths x_pids x_parents x_programs x_places x_states x_statuses x_stepCounts x_copyCounts x_wakeTimes x_registers x_pageCounts x_pageFrames x_held x_frameUsers x_frameWords x_openHolders x_openKinds x_openTargets x_openPlaces x_openModes x_pipeFirsts x_pipeCounts x_pipeWords x_nameFiles x_fileSizes x_fileWords x_safeNames x_safeSizes x_safeWords x_saidInts : Nat → Int32} {y_time y_last y_lastPid y_did y_killed : Int32} {y_ops y_as y_bs y_pages y_wake y_zombie y_blocked y_memory y_frame y_kind y_mode y_pipe y_size y_safeSize y_said : Nat → Int32}
theorem xk_addPage {post : SX → Prop} {s n f : Nat} (hs : s < 8) (hn : x_pageCounts s = nI n) (hn8 : n < 8) (hf : f < 20) (h : post (x_changes, x_saidCount, x_time, x_lastSlot, x_sliceSteps, x_latestPid, x_greatestPid, x_code, x_codeLengths, x_pids, x_parents, x_programs, x_places, x_states, x_statuses, x_stepCounts, x_copyCounts, x_wakeTimes, x_registers, upd x_pageCounts s (nI (n + 1)), upd x_pageFrames (8 * s + n) (nI f), x_held, upd x_frameUsers f 1, uk_fl x_frameWords (4 * f) (fun _ => 0) 4, x_openHolders, x_openKinds, x_openTargets, x_openPlaces, x_openModes, x_pipeFirsts, x_pipeCounts, x_pipeWords, x_nameFiles, x_fileSizes, x_fileWords, x_safeNames, x_safeSizes, x_safeWords, x_saidInts)) : wpX_addPage post (x_changes, x_saidCount, x_time, x_lastSlot, x_sliceSteps, x_latestPid, x_greatestPid, x_code, x_codeLengths, x_pids, x_parents, x_programs, x_places, x_states, x_statuses, x_stepCounts, x_copyCounts, x_wakeTimes, x_registers, x_pageCounts, x_pageFrames, x_held, x_frameUsers, x_frameWords, x_openHolders, x_openKinds, x_openTargets, x_openPlaces, x_openModes, x_pipeFirsts, x_pipeCounts, x_pipeWords, x_nameFiles, x_fileSizes, x_fileWords, x_safeNames, x_safeSizes, x_safeWords, x_saidInts) (nI s) (nI f) := by
  obtain ⟨_, vs, es⟩ := uk_lp 8 hs (by decide)
  unfold wpX_addPage
  have key := uk_run0 (fun m k (w : Nat → Int32) => wX_addPage_2 post (nI s) (nI f) x_changes x_saidCount x_time x_lastSlot x_sliceSteps x_latestPid x_greatestPid m (nI k) x_code x_codeLengths x_pids x_parents x_programs x_places x_states x_statuses x_stepCounts x_copyCounts x_wakeTimes x_registers x_pageCounts x_pageFrames x_held x_frameUsers w x_openHolders x_openKinds x_openTargets x_openPlaces x_openModes x_pipeFirsts x_pipeCounts x_pipeWords x_nameFiles x_fileSizes x_fileWords x_safeNames x_safeSizes x_safeWords x_saidInts) (fun k => uk_fl x_frameWords (4 * f) (fun _ => 0) k) 4 (fun m => by
    refine br_t (uk_refl 4) ⟨vp_in_nI hf (by decide), ?_⟩
    rw [es, hn, uk_m8, nI_add, nI_1, nI_clamp (show f < 2 ^ 31 by omega), nI_clamp (show 8 * s + n < 2 ^ 31 by omega)]
    exact nm_e ⟨vs, vp_in_nI (by omega) (by decide), nm_e ⟨vs, vs, nm_e h⟩⟩) (fun m k hk ih => by
    refine br_f (nI_ge (b := 4) hk (by decide)) ?_
    rw [uk_m4, nI_add, nI_clamp (show 4 * f + k < 2 ^ 31 by omega)]
    exact ⟨vp_in_nI (by omega) (by decide), nm_r (uk_fls (g := fun _ => 0)) (nm_r (nI_1 k) ih)⟩)
  rw [uk_fl0] at key
  exact key
theorem yk_morePages {post : Int32 → SY → Prop} {s n : Nat} (hs : s < 8) (hP : ∀ s, s < 8 → ¬ x_pids s < 0) (hN : ∀ s, s < 8 → x_pids s ≠ 0 → ∃ n, n ≤ 8 ∧ y_pages s = nI n) (hn : y_pages s = nI n) (hn8 : n < 8) (h0 : uk_ff (fun f => uk_sm (uk_rw x_pids y_pages y_frame f) 8 = 0) 20 = -1 → post 0 (x_changes, y_time, y_last, y_lastPid, y_did, x_greatestPid, x_latestPid, x_saidCount, y_killed, y_ops, y_as, y_bs, x_codeLengths, x_pids, x_parents, x_programs, x_places, x_statuses, x_stepCounts, x_copyCounts, y_pages, y_wake, y_zombie, y_blocked, x_registers, y_memory, y_frame, x_held, y_kind, x_openTargets, y_mode, x_openPlaces, x_pipeCounts, y_pipe, x_nameFiles, y_size, x_fileWords, x_safeNames, y_safeSize, x_safeWords, y_said)) (h1 : ∀ f, f < 20 → uk_ff (fun f => uk_sm (uk_rw x_pids y_pages y_frame f) 8 = 0) 20 = nI f → post 1 (x_changes, y_time, y_last, y_lastPid, y_did, x_greatestPid, x_latestPid, x_saidCount, y_killed, y_ops, y_as, y_bs, x_codeLengths, x_pids, x_parents, x_programs, x_places, x_statuses, x_stepCounts, x_copyCounts, upd y_pages s (nI (n + 1)), y_wake, y_zombie, y_blocked, x_registers, uk_fl y_memory (32 * s + 4 * n) (fun _ => 0) 4, upd y_frame (8 * s + n) (nI f), x_held, y_kind, x_openTargets, y_mode, x_openPlaces, x_pipeCounts, y_pipe, x_nameFiles, y_size, x_fileWords, x_safeNames, y_safeSize, x_safeWords, y_said)) : wpY_morePages post (x_changes, y_time, y_last, y_lastPid, y_did, x_greatestPid, x_latestPid, x_saidCount, y_killed, y_ops, y_as, y_bs, x_codeLengths, x_pids, x_parents, x_programs, x_places, x_statuses, x_stepCounts, x_copyCounts, y_pages, y_wake, y_zombie, y_blocked, x_registers, y_memory, y_frame, x_held, y_kind, x_openTargets, y_mode, x_openPlaces, x_pipeCounts, y_pipe, x_nameFiles, y_size, x_fileWords, x_safeNames, y_safeSize, x_safeWords, y_said) (nI s) := by
  obtain ⟨_, vs, es⟩ := uk_lp 8 hs (by decide)
  unfold wpY_morePages
  refine yk_freeFrame hP hN ?_
  rcases uk_ffs (fun f => uk_sm (uk_rw x_pids y_pages y_frame f) 8 = 0) 20 with ⟨e, _⟩ | ⟨f, hf, e, _, _⟩
  · rw [e]
    exact br_f (by decide) (h0 e)
  · have k := h1 f hf e
    rw [e]
    refine br_t (nI_pos' (by omega)) ⟨vs, vs, ?_⟩
    rw [es, hn, nI_1]
    refine nm_e (nm_e ?_)
    rw [uk_8m, nI_add, nI_clamp (show 8 * s + n < 2 ^ 31 by omega)]
    refine ⟨vp_in_nI (by omega) (by decide), nm_e ?_⟩
    have key := uk_run0 (fun m k (w : Nat → Int32) => wY_morePages_38 post (nI s) (nI n) x_changes y_time y_last y_lastPid y_did x_greatestPid x_latestPid x_saidCount y_killed m (nI k) y_ops y_as y_bs x_codeLengths x_pids x_parents x_programs x_places x_statuses x_stepCounts x_copyCounts (upd y_pages s (nI (n + 1))) y_wake y_zombie y_blocked x_registers w (upd y_frame (8 * s + n) (nI f)) x_held y_kind x_openTargets y_mode x_openPlaces x_pipeCounts y_pipe x_nameFiles y_size x_fileWords x_safeNames y_safeSize x_safeWords y_said) (fun k => uk_fl y_memory (32 * s + 4 * n) (fun _ => 0) k) 4 (fun m => br_t (uk_refl 4) k) (fun m k hk ih => by
      refine br_f (nI_ge (b := 4) hk (by decide)) ?_
      rw [uk_32m, uk_4m, nI_add, nI_add, nI_clamp (show 32 * s + 4 * n + k < 2 ^ 31 by omega)]
      exact ⟨vp_in_nI (by omega) (by decide), nm_r (uk_fls (g := fun _ => 0)) (nm_r (nI_1 k) ih)⟩)
    rw [uk_fl0] at key
    exact key
theorem uk_grow {s n x : Nat} (hs : s < 8) (hp : x_pids s ≠ 0) (hz : y_zombie s = 0) (hP : ∀ s, s < 8 → ¬ x_pids s < 0) (hMe : uk_Me x_pids y_zombie x_pageCounts y_pages x_pageFrames y_frame x_frameWords y_memory) (hFu : uk_Fu x_pids y_pages y_frame x_frameUsers) (n2 : x_pageCounts s = nI n) (n3 : y_pages s = nI n) (hnx : n + x ≤ 8) (hfree : x ≤ uk_cn (fun f => x_frameUsers f = 0) 20) : ∀ k, k ≤ x →
  ∃ pc' pg' pf' fr' fu' fw' me', uk_Me x_pids y_zombie pc' pg' pf' fr' fw' me' ∧ uk_Fu x_pids pg' fr' fu' ∧ pc' s = nI (n + k) ∧ pg' s = nI (n + k) ∧ x ≤ k + uk_cn (fun f => fu' f = 0) 20 ∧
  (∀ (post : Int32 → SX → Prop) (g : Int32) (m : Nat), wX_growPages_38 post (nI s) (nI x) g m (nI k) x_changes x_saidCount x_time x_lastSlot x_sliceSteps x_latestPid x_greatestPid x_code x_codeLengths x_pids x_parents x_programs x_places x_states x_statuses x_stepCounts x_copyCounts x_wakeTimes x_registers pc' pf' x_held fu' fw' x_openHolders x_openKinds x_openTargets x_openPlaces x_openModes x_pipeFirsts x_pipeCounts x_pipeWords x_nameFiles x_fileSizes x_fileWords x_safeNames x_safeSizes x_safeWords x_saidInts → wX_growPages_38 post (nI s) (nI x) g (m + k) 0 x_changes x_saidCount x_time x_lastSlot x_sliceSteps x_latestPid x_greatestPid x_code x_codeLengths x_pids x_parents x_programs x_places x_states x_statuses x_stepCounts x_copyCounts x_wakeTimes x_registers x_pageCounts x_pageFrames x_held x_frameUsers x_frameWords x_openHolders x_openKinds x_openTargets x_openPlaces x_openModes x_pipeFirsts x_pipeCounts x_pipeWords x_nameFiles x_fileSizes x_fileWords x_safeNames x_safeSizes x_safeWords x_saidInts) ∧
  (∀ (post : Int32 → SY → Prop) (g : Int32) (m : Nat), wY_family_173 post (nI s) (nI x) g m (nI k) x_changes y_time y_last y_lastPid y_did x_greatestPid x_latestPid x_saidCount y_killed y_ops y_as y_bs x_codeLengths x_pids x_parents x_programs x_places x_statuses x_stepCounts x_copyCounts pg' y_wake y_zombie y_blocked x_registers me' fr' x_held y_kind x_openTargets y_mode x_openPlaces x_pipeCounts y_pipe x_nameFiles y_size x_fileWords x_safeNames y_safeSize x_safeWords y_said → wY_family_173 post (nI s) (nI x) g (m + k) 0 x_changes y_time y_last y_lastPid y_did x_greatestPid x_latestPid x_saidCount y_killed y_ops y_as y_bs x_codeLengths x_pids x_parents x_programs x_places x_statuses x_stepCounts x_copyCounts y_pages y_wake y_zombie y_blocked x_registers y_memory y_frame x_held y_kind x_openTargets y_mode x_openPlaces x_pipeCounts y_pipe x_nameFiles y_size x_fileWords x_safeNames y_safeSize x_safeWords y_said)
  | 0, _ => ⟨_, _, _, _, _, _, _, hMe, hFu, n2, n3, by omega, fun _ _ _ h => h, fun _ _ _ h => h⟩
  | k + 1, hk => by
    obtain ⟨pc', pg', pf', fr', fu', fw', me', a1, a2, a3, a4, a5, a6, a7⟩ := uk_grow hs hp hz hP hMe hFu n2 n3 hnx hfree k (by omega)
    have hN : ∀ s, s < 8 → x_pids s ≠ 0 → ∃ n, n ≤ 8 ∧ pg' s = nI n := fun s hs hp => by
      obtain ⟨n, h1, _, h3, _⟩ := a1 s hs hp
      exact ⟨n, h1, h3⟩
    have hff : uk_ff (fun f => uk_sm (uk_rw x_pids pg' fr' f) 8 = 0) 20 = uk_ff (fun f => fu' f = 0) 20 := uk_ffc 20 (fun f hf => (uk_fun a1 a2 hf).1.symm)
    rcases uk_ffs (fun f => fu' f = 0) 20 with ⟨_, e0⟩ | ⟨f, hf, e, e0, _⟩
    · have := uk_cn0 (P := fun f => fu' f = 0) 20 e0
      omega
    · have hs0 := (uk_fun a1 a2 hf).1.mp e0
      have hM := uk_ad_Me a1 hs hz a4 (by omega) hf hs0
      have hF := uk_ad_Fu a1 a2 hs hp a4 (by omega) hf hs0
      have hcn : uk_cn (fun f => fu' f = 0) 20 = uk_cn (fun i => upd fu' f 1 i = 0) 20 + 1 := uk_cnset (P := fun i => upd fu' f 1 i = 0) (Q := fun f => fu' f = 0) (k := f) (by show ¬ upd fu' f 1 f = 0; rw [pk_us]; decide) e0 20 hf (fun i _ w => by rw [pk_un w])
      have epc : pc' s = nI (n + k) := a3
      refine ⟨upd pc' s (nI (n + k + 1)), upd pg' s (nI (n + k + 1)), _, _, upd fu' f 1, _, _, hM, hF, pk_us, pk_us, by omega, fun post g m h => ?_, fun post g m h => ?_⟩
      · rw [show m + (k + 1) = (m + 1) + k by omega]
        refine a6 post g (m + 1) (br_f (nI_ge (by omega) (by omega)) (xk_freeFrame ?_))
        rw [e]
        exact xk_addPage hs epc (by omega) hf (nm_r (nI_1 k) h)
      · rw [show m + (k + 1) = (m + 1) + k by omega]
        refine a7 post g (m + 1) (br_f (nI_ge (by omega) (by omega)) (yk_morePages hs hP hN a4 (by omega) (fun w => absurd (w.symm.trans (hff.trans e)).symm (uk_ne1 (by omega))) (fun f' hf' w => ?_)))
        have : f' = f := uk_nIn (by omega) (by omega) (w.symm.trans (hff.trans e))
        subst this
        exact nm_r (nI_1 k) h
theorem uk_call4 {t b s : Nat} (A : uk_All t b x_changes x_saidCount x_time x_lastSlot x_sliceSteps x_latestPid x_greatestPid x_code x_codeLengths x_pids x_parents x_programs x_places x_states x_statuses x_stepCounts x_copyCounts x_wakeTimes x_registers x_pageCounts x_pageFrames x_held x_frameUsers x_frameWords x_openHolders x_openKinds x_openTargets x_openPlaces x_openModes x_pipeFirsts x_pipeCounts x_pipeWords x_nameFiles x_fileSizes x_fileWords x_safeNames x_safeSizes x_safeWords x_saidInts y_time y_last y_lastPid y_did y_killed y_ops y_as y_bs y_pages y_wake y_zombie y_blocked y_memory y_frame y_kind y_mode y_pipe y_size y_safeSize y_said) (hs : s < 8) (hp : x_pids s ≠ 0) (hz : y_zombie s = 0) (hb : y_blocked s = 0) :
  ∃ u' v', (∀ post : SX → Prop, post u' → wpX_doCall post (x_changes, x_saidCount, x_time, x_lastSlot, x_sliceSteps, x_latestPid, x_greatestPid, x_code, x_codeLengths, x_pids, x_parents, x_programs, x_places, x_states, x_statuses, x_stepCounts, x_copyCounts, x_wakeTimes, x_registers, x_pageCounts, x_pageFrames, x_held, x_frameUsers, x_frameWords, x_openHolders, x_openKinds, x_openTargets, x_openPlaces, x_openModes, x_pipeFirsts, x_pipeCounts, x_pipeWords, x_nameFiles, x_fileSizes, x_fileWords, x_safeNames, x_safeSizes, x_safeWords, x_saidInts) (nI s) 4) ∧ (∀ post : SY → Prop, post v' → wY_call_127 post (nI s) 4 (x_registers (4 * s)) (x_registers (4 * s + 1)) x_changes y_time y_last y_lastPid y_did x_greatestPid x_latestPid x_saidCount 0 y_ops y_as y_bs x_codeLengths x_pids x_parents x_programs x_places x_statuses x_stepCounts x_copyCounts y_pages y_wake y_zombie y_blocked x_registers y_memory y_frame x_held y_kind x_openTargets y_mode x_openPlaces x_pipeCounts y_pipe x_nameFiles y_size x_fileWords x_safeNames y_safeSize x_safeWords y_said) ∧ uk_R y_time t (b + 1) u' v' := by
  obtain ⟨_, vs, es⟩ := uk_lp 8 hs (by decide)
  obtain ⟨c, ec, hc⟩ := uk_aC A
  have hP : ∀ s, s < 8 → ¬ x_pids s < 0 := fun s hs => (uk_aPs A s hs).1
  have hMe := uk_aMe A
  have hFu := uk_aFu A
  have hN : ∀ s, s < 8 → x_pids s ≠ 0 → ∃ n, n ≤ 8 ∧ y_pages s = nI n := fun s hs hp => by
    obtain ⟨n, h1, _, h3, _⟩ := hMe s hs hp
    exact ⟨n, h1, h3⟩
  obtain ⟨n, hn8, n2, n3, n4, n5⟩ := hMe s hs hp
  have hcnt : uk_cn (fun f => uk_sm (uk_rw x_pids y_pages y_frame f) 8 = 0) 20 = uk_cn (fun f => x_frameUsers f = 0) 20 := uk_cnc 20 (fun f hf => (uk_fun hMe hFu hf).1.symm)
  have hle := uk_cnle (fun f => x_frameUsers f = 0) 20
  have e8 := uk_inE (x := x_registers (4 * s)) (n := 8) (N := 8) rfl (by decide)
  by_cases hv : vp_in (x_registers (4 * s)) 8 ∧ n + (x_registers (4 * s)).toNatClampNeg ≤ 8 ∧ (x_registers (4 * s)).toNatClampNeg ≤ uk_cn (fun f => x_frameUsers f = 0) 20
  · obtain ⟨hv1, hv2, hv3⟩ := hv
    obtain ⟨x, hx, ex⟩ := vp_in_of hv1 (by decide)
    rw [ex, nI_clamp (show x < 2 ^ 31 by omega)] at hv2 hv3
    obtain ⟨pc', pg', pf', fr', fu', fw', me', a1, a2, a3, a4, a5, a6, a7⟩ := uk_grow (x_changes := x_changes) (x_saidCount := x_saidCount) (x_time := x_time) (x_lastSlot := x_lastSlot) (x_sliceSteps := x_sliceSteps) (x_latestPid := x_latestPid) (x_greatestPid := x_greatestPid) (x_code := x_code) (x_codeLengths := x_codeLengths) (x_pids := x_pids) (x_parents := x_parents) (x_programs := x_programs) (x_places := x_places) (x_states := x_states) (x_statuses := x_statuses) (x_stepCounts := x_stepCounts) (x_copyCounts := x_copyCounts) (x_wakeTimes := x_wakeTimes) (x_registers := x_registers) (x_pageCounts := x_pageCounts) (x_pageFrames := x_pageFrames) (x_held := x_held) (x_frameUsers := x_frameUsers) (x_frameWords := x_frameWords) (x_openHolders := x_openHolders) (x_openKinds := x_openKinds) (x_openTargets := x_openTargets) (x_openPlaces := x_openPlaces) (x_openModes := x_openModes) (x_pipeFirsts := x_pipeFirsts) (x_pipeCounts := x_pipeCounts) (x_pipeWords := x_pipeWords) (x_nameFiles := x_nameFiles) (x_fileSizes := x_fileSizes) (x_fileWords := x_fileWords) (x_safeNames := x_safeNames) (x_safeSizes := x_safeSizes) (x_safeWords := x_safeWords) (x_saidInts := x_saidInts) (y_time := y_time) (y_last := y_last) (y_lastPid := y_lastPid) (y_did := y_did) (y_killed := 0) (y_ops := y_ops) (y_as := y_as) (y_bs := y_bs) (y_pages := y_pages) (y_wake := y_wake) (y_zombie := y_zombie) (y_blocked := y_blocked) (y_memory := y_memory) (y_frame := y_frame) (y_kind := y_kind) (y_mode := y_mode) (y_pipe := y_pipe) (y_size := y_size) (y_safeSize := y_safeSize) (y_said := y_said) hs hp hz hP hMe hFu n2 n3 hv2 hv3 x (Nat.le_refl x)
    have A1 : uk_All t b x_changes x_saidCount x_time x_lastSlot x_sliceSteps x_latestPid x_greatestPid x_code x_codeLengths x_pids x_parents x_programs x_places x_states x_statuses x_stepCounts x_copyCounts x_wakeTimes x_registers pc' pf' x_held fu' fw' x_openHolders x_openKinds x_openTargets x_openPlaces x_openModes x_pipeFirsts x_pipeCounts x_pipeWords x_nameFiles x_fileSizes x_fileWords x_safeNames x_safeSizes x_safeWords x_saidInts y_time y_last y_lastPid y_did y_killed y_ops y_as y_bs pg' y_wake y_zombie y_blocked me' fr' y_kind y_mode y_pipe y_size y_safeSize y_said := ⟨uk_aG A, uk_aN A, uk_aC A, uk_aeT A, uk_aPr A, uk_aPs A, a1, a2, uk_aHd A, uk_aHo A, uk_aOk A, uk_aPi A, uk_aFi A, uk_aSa A, uk_aSc A, uk_aWk A⟩
    refine ⟨_, _, fun post h => ?_, fun post h => ?_, uk_end0 (g := nI n) A1 hs hp hz hb⟩
    · unfold wpX_doCall
      refine nm_r (uk_m4 s) ⟨vp_in_nI (by omega) (by decide), nm_r (uk_rg0 x_registers hs) ⟨uk_rgv hs, nm_r (uk_rg1 x_registers hs) (br_f (by decide) (br_f (by decide) (br_f (by decide) (br_f (by decide) (br_f (by decide) (br_f (by decide) (br_t rfl ?_)))))))⟩⟩
      unfold wpX_growPages
      refine ⟨vs, ?_⟩
      rw [es, n2, ex]
      refine nm_e (br_f (nI_pos (by omega)) (br_f (nI_nlt (a := 7) (by omega) (by decide)) ?_))
      rw [nI_add]
      refine br_f (nI_nlt (a := 8) (by omega) (by decide)) (xk_countFreeFrames (br_t (nI_le hv3 (by omega)) ⟨1 + x, a6 _ _ 1 (br_t (uk_refl _) (xk_tail0 hs ec hc h))⟩))
    · unfold wY_call_127
      refine br_f (by decide) ?_
      unfold wpY_family
      rw [ex]
      refine br_f (by decide) (br_f (by decide) (br_f (by decide) (yk_no 7 rfl (by decide) (fun _ => br_t rfl ⟨vs, ?_⟩) (fun z => absurd (vp_in_nI hx (by decide)) z))))
      rw [es, n3, nI_add]
      refine br_f (nI_nlt (a := 8) (by omega) (by decide)) (yk_freeFrames hP hN ?_)
      rw [hcnt]
      exact br_t (nI_le hv3 (by omega)) ⟨vs, nm_e ⟨1 + x, a7 _ _ 1 (br_t (uk_refl _) (yk_tail0 hs h))⟩⟩
  · refine ⟨_, _, fun post h => ?_, fun post h => ?_, uk_end0 (g := -1) A hs hp hz hb⟩
    · unfold wpX_doCall
      refine nm_r (uk_m4 s) ⟨vp_in_nI (by omega) (by decide), nm_r (uk_rg0 x_registers hs) ⟨uk_rgv hs, nm_r (uk_rg1 x_registers hs) (br_f (by decide) (br_f (by decide) (br_f (by decide) (br_f (by decide) (br_f (by decide) (br_f (by decide) (br_t rfl ?_)))))))⟩⟩
      unfold wpX_growPages
      refine ⟨vs, ?_⟩
      rw [es, n2]
      refine nm_e ⟨fun _ => xk_tail0 hs ec hc h, fun g1 => ⟨fun _ => xk_tail0 hs ec hc h, fun g2 => ⟨fun _ => xk_tail0 hs ec hc h, fun g3 => xk_countFreeFrames ⟨fun g4 => absurd ?_ hv, fun _ => xk_tail0 hs ec hc h⟩⟩⟩⟩
      obtain ⟨x, hx, ex⟩ := nI_of g1
      rw [ex] at g2 g3 g4
      have x8 : x < 8 := by
        have : ¬ 7 < x := fun z => g2 (nI_lt (a := 7) z hx)
        omega
      rw [nI_add] at g3
      have g5 : n + x ≤ 8 := by
        have : ¬ 8 < n + x := fun z => g3 (nI_lt (a := 8) z (by omega))
        omega
      have g6 := (nI_leI hx (by omega)).mp g4
      rw [ex, nI_clamp hx]
      exact ⟨vp_in_nI x8 (by decide), g5, g6⟩
    · unfold wY_call_127
      refine br_f (by decide) ?_
      unfold wpY_family
      refine br_f (by decide) (br_f (by decide) (br_f (by decide) (yk_no 7 rfl (by decide) (fun v => br_t rfl ⟨vs, ?_⟩) (fun z => br_f (by decide) (yk_tail0 hs h)))))
      rw [es, n3]
      refine ⟨fun _ => yk_tail0 hs h, fun g3 => yk_freeFrames hP hN ?_⟩
      rw [hcnt]
      refine ⟨fun g4 => absurd ?_ hv, fun _ => yk_tail0 hs h⟩
      obtain ⟨x, hx, ex⟩ := vp_in_of v (by decide)
      rw [ex] at g3 g4
      rw [nI_add] at g3
      have g5 : n + x ≤ 8 := by
        have : ¬ 8 < n + x := fun z => g3 (nI_lt (a := 8) z (by omega))
        omega
      have g6 := (nI_leI (by omega) (by omega)).mp g4
      rw [ex, nI_clamp (show x < 2 ^ 31 by omega)]
      exact ⟨vp_in_nI hx (by decide), g5, g6⟩
theorem uk_call5b {t b s : Nat} (A : uk_All t b x_changes x_saidCount x_time x_lastSlot x_sliceSteps x_latestPid x_greatestPid x_code x_codeLengths x_pids x_parents x_programs x_places x_states x_statuses x_stepCounts x_copyCounts x_wakeTimes x_registers x_pageCounts x_pageFrames x_held x_frameUsers x_frameWords x_openHolders x_openKinds x_openTargets x_openPlaces x_openModes x_pipeFirsts x_pipeCounts x_pipeWords x_nameFiles x_fileSizes x_fileWords x_safeNames x_safeSizes x_safeWords x_saidInts y_time y_last y_lastPid y_did y_killed y_ops y_as y_bs y_pages y_wake y_zombie y_blocked y_memory y_frame y_kind y_mode y_pipe y_size y_safeSize y_said) (hs : s < 8) (hp : x_pids s ≠ 0) (hz : y_zombie s = 0) (hb : y_blocked s = 0) (hv : ¬ vp_in (x_registers (4 * s)) 6) :
  ∃ u' v', (∀ post : SX → Prop, post u' → wpX_doCall post (x_changes, x_saidCount, x_time, x_lastSlot, x_sliceSteps, x_latestPid, x_greatestPid, x_code, x_codeLengths, x_pids, x_parents, x_programs, x_places, x_states, x_statuses, x_stepCounts, x_copyCounts, x_wakeTimes, x_registers, x_pageCounts, x_pageFrames, x_held, x_frameUsers, x_frameWords, x_openHolders, x_openKinds, x_openTargets, x_openPlaces, x_openModes, x_pipeFirsts, x_pipeCounts, x_pipeWords, x_nameFiles, x_fileSizes, x_fileWords, x_safeNames, x_safeSizes, x_safeWords, x_saidInts) (nI s) 5) ∧ (∀ post : SY → Prop, post v' → wY_call_127 post (nI s) 5 (x_registers (4 * s)) (x_registers (4 * s + 1)) x_changes y_time y_last y_lastPid y_did x_greatestPid x_latestPid x_saidCount 0 y_ops y_as y_bs x_codeLengths x_pids x_parents x_programs x_places x_statuses x_stepCounts x_copyCounts y_pages y_wake y_zombie y_blocked x_registers y_memory y_frame x_held y_kind x_openTargets y_mode x_openPlaces x_pipeCounts y_pipe x_nameFiles y_size x_fileWords x_safeNames y_safeSize x_safeWords y_said) ∧ uk_R y_time t (b + 1) u' v' := by
  obtain ⟨c, ec, hc⟩ := uk_aC A
  refine ⟨_, _, fun post h => ?_, fun post h => ?_, uk_end0 (g := -1) A hs hp hz hb⟩
  · unfold wpX_doCall
    refine nm_r (uk_m4 s) ⟨vp_in_nI (by omega) (by decide), nm_r (uk_rg0 x_registers hs) ⟨uk_rgv hs, nm_r (uk_rg1 x_registers hs) (br_f (by decide) (br_f (by decide) (br_f (by decide) (br_f (by decide) (br_f (by decide) (br_f (by decide) (br_f (by decide) (br_t rfl ?_))))))))⟩⟩
    unfold wpX_execProgram
    exact xk_isProgram (fun w => absurd w hv) (fun _ => br_t rfl (xk_tail0 hs ec hc h))
  · unfold wY_call_127
    refine br_t (by decide) (br_f (by decide) ?_)
    unfold wpY_descriptors
    exact br_t rfl (yk_tail0 hs h)
theorem uk_call5a {t b s : Nat} (A : uk_All t b x_changes x_saidCount x_time x_lastSlot x_sliceSteps x_latestPid x_greatestPid x_code x_codeLengths x_pids x_parents x_programs x_places x_states x_statuses x_stepCounts x_copyCounts x_wakeTimes x_registers x_pageCounts x_pageFrames x_held x_frameUsers x_frameWords x_openHolders x_openKinds x_openTargets x_openPlaces x_openModes x_pipeFirsts x_pipeCounts x_pipeWords x_nameFiles x_fileSizes x_fileWords x_safeNames x_safeSizes x_safeWords x_saidInts y_time y_last y_lastPid y_did y_killed y_ops y_as y_bs y_pages y_wake y_zombie y_blocked y_memory y_frame y_kind y_mode y_pipe y_size y_safeSize y_said) (hs : s < 8) (hp : x_pids s ≠ 0) (hz : y_zombie s = 0) (hb : y_blocked s = 0) (hv : vp_in (x_registers (4 * s)) 6) :
  ∃ u' v', (∀ post : SX → Prop, post u' → wpX_doCall post (x_changes, x_saidCount, x_time, x_lastSlot, x_sliceSteps, x_latestPid, x_greatestPid, x_code, x_codeLengths, x_pids, x_parents, x_programs, x_places, x_states, x_statuses, x_stepCounts, x_copyCounts, x_wakeTimes, x_registers, x_pageCounts, x_pageFrames, x_held, x_frameUsers, x_frameWords, x_openHolders, x_openKinds, x_openTargets, x_openPlaces, x_openModes, x_pipeFirsts, x_pipeCounts, x_pipeWords, x_nameFiles, x_fileSizes, x_fileWords, x_safeNames, x_safeSizes, x_safeWords, x_saidInts) (nI s) 5) ∧ (∀ post : SY → Prop, post v' → wpY_begin post (x_changes, y_time, y_last, y_lastPid, y_did, x_greatestPid, x_latestPid, x_saidCount, 0, y_ops, y_as, y_bs, x_codeLengths, x_pids, x_parents, x_programs, x_places, x_statuses, x_stepCounts, x_copyCounts, y_pages, y_wake, y_zombie, y_blocked, x_registers, y_memory, y_frame, x_held, y_kind, x_openTargets, y_mode, x_openPlaces, x_pipeCounts, y_pipe, x_nameFiles, y_size, x_fileWords, x_safeNames, y_safeSize, x_safeWords, y_said) (nI s) (x_registers (4 * s))) ∧ uk_R y_time t (b + 1) u' v' := by
  obtain ⟨_, vs, es⟩ := uk_lp 8 hs (by decide)
  obtain ⟨c, ec, hc⟩ := uk_aC A
  have hP : ∀ s, s < 8 → ¬ x_pids s < 0 := fun s hs => (uk_aPs A s hs).1
  obtain ⟨n, hn8, n2, n3, n4, n5⟩ := uk_aMe A s hs hp
  have hpf : ∀ p, p < n → vp_in (x_pageFrames (8 * s + p)) 20 := fun p hp => by rw [(n5 p hp).2.1]; exact (n5 p hp).1
  have hMe := uk_drop_Me s (uk_aMe A)
  have hFu := uk_drop_Fu (uk_aMe A) (uk_aFu A) hs hp n3 (by omega)
  have A1 : uk_All t b x_changes x_saidCount x_time x_lastSlot x_sliceSteps x_latestPid x_greatestPid x_code x_codeLengths x_pids x_parents x_programs x_places x_states x_statuses x_stepCounts x_copyCounts x_wakeTimes x_registers (upd x_pageCounts s 0) x_pageFrames x_held (uk_dec x_frameUsers x_pageFrames (8 * s) n) x_frameWords x_openHolders x_openKinds x_openTargets x_openPlaces x_openModes x_pipeFirsts x_pipeCounts x_pipeWords x_nameFiles x_fileSizes x_fileWords x_safeNames x_safeSizes x_safeWords x_saidInts y_time y_last y_lastPid y_did 0 y_ops y_as y_bs (upd y_pages s 0) y_wake y_zombie y_blocked y_memory y_frame y_kind y_mode y_pipe y_size y_safeSize y_said := ⟨uk_aG A, uk_aN A, uk_aC A, uk_aeT A, uk_aPr A, uk_aPs A, hMe, hFu, uk_aHd A, uk_aHo A, uk_aOk A, uk_aPi A, uk_aFi A, uk_aSa A, uk_aSc A, uk_aWk A⟩
  have hN : ∀ i, i < 8 → x_pids i ≠ 0 → ∃ n, n ≤ 8 ∧ upd y_pages s 0 i = nI n := fun s hs hp => by
    obtain ⟨n, h1, _, h3, _⟩ := hMe s hs hp
    exact ⟨n, h1, h3⟩
  have hff : uk_ff (fun f => uk_sm (uk_rw x_pids (upd y_pages s 0) y_frame f) 8 = 0) 20 = uk_ff (fun f => uk_dec x_frameUsers x_pageFrames (8 * s) n f = 0) 20 := uk_ffc 20 (fun f hf => (uk_fun hMe hFu hf).1.symm)
  rcases uk_ffs (fun f => uk_dec x_frameUsers x_pageFrames (8 * s) n f = 0) 20 with ⟨e, _⟩ | ⟨f, hf, e, e0, _⟩
  · obtain ⟨P', Q', zo', oh', ki', sz', fu', A', x1, y1⟩ := uk_exitA (-1) A1 hs hp hz
    refine ⟨_, _, fun post h => ?_, fun post h => ?_, uk_RmkK 1 (uk_up1 (Nat.le_succ b) A')⟩
    · unfold wpX_doCall
      refine nm_r (uk_m4 s) ⟨vp_in_nI (by omega) (by decide), nm_r (uk_rg0 x_registers hs) ⟨uk_rgv hs, nm_r (uk_rg1 x_registers hs) (br_f (by decide) (br_f (by decide) (br_f (by decide) (br_f (by decide) (br_f (by decide) (br_f (by decide) (br_f (by decide) (br_t rfl ?_))))))))⟩⟩
      unfold wpX_execProgram
      refine xk_isProgram (fun _ => br_f (by decide) (xk_dropPages hs n2 hn8 hpf (xk_freeFrame ?_))) (fun w => absurd hv w)
      rw [e]
      refine br_t rfl (x1 _ (xk_tail0 hs ec hc ?_))
      rw [uk_uself]
      exact h
    · unfold wpY_begin
      refine ⟨vs, ?_⟩
      rw [es]
      refine nm_e (yk_morePages (n := 0) hs hP hN pk_us (by decide) (fun _ => br_t rfl ?_) (fun f hf w => absurd (w.symm.trans (hff.trans e)) (uk_ne1 (by omega))))
      unfold wpY_kill
      exact y1 _ h
  · have hs0 := (uk_fun hMe hFu hf).1.mp e0
    have hM := uk_ad_Me (n := 0) hMe hs hz pk_us (by decide) hf hs0
    have hF := uk_ad_Fu (n := 0) hMe hFu hs hp pk_us (by decide) hf hs0
    have epc : upd (upd x_pageCounts s 0) s (nI (0 + 1)) = upd x_pageCounts s 1 := uk_uu _ _ _ _
    have epg : upd (upd y_pages s 0) s (nI (0 + 1)) = upd y_pages s 1 := uk_uu _ _ _ _
    rw [epc, epg] at hM
    rw [epg] at hF
    have A2 : uk_All t b x_changes x_saidCount x_time x_lastSlot x_sliceSteps x_latestPid x_greatestPid x_code x_codeLengths x_pids x_parents x_programs x_places x_states x_statuses x_stepCounts x_copyCounts x_wakeTimes x_registers (upd x_pageCounts s 1) (upd x_pageFrames (8 * s + 0) (nI f)) x_held (upd (uk_dec x_frameUsers x_pageFrames (8 * s) n) f 1) (uk_fl x_frameWords (4 * f) (fun _ => 0) 4) x_openHolders x_openKinds x_openTargets x_openPlaces x_openModes x_pipeFirsts x_pipeCounts x_pipeWords x_nameFiles x_fileSizes x_fileWords x_safeNames x_safeSizes x_safeWords x_saidInts y_time y_last y_lastPid y_did 0 y_ops y_as y_bs (upd y_pages s 1) y_wake y_zombie y_blocked (uk_fl y_memory (32 * s + 4 * 0) (fun _ => 0) 4) (upd y_frame (8 * s + 0) (nI f)) y_kind y_mode y_pipe y_size y_safeSize y_said := ⟨uk_aG A, uk_aN A, uk_aC A, uk_aeT A, uk_aPr A, uk_aPs A, hM, hF, uk_aHd A, uk_aHo A, uk_aOk A, uk_aPi A, uk_aFi A, uk_aSa A, uk_aSc A, uk_aWk A⟩
    have A3 := uk_All_pl (l := 0) A2 hs hp hz hb (by decide)
    have A4 : uk_All t b x_changes x_saidCount x_time x_lastSlot x_sliceSteps x_latestPid x_greatestPid x_code x_codeLengths x_pids x_parents (upd x_programs s (x_registers (4 * s))) (upd x_places s 0) x_states x_statuses x_stepCounts x_copyCounts x_wakeTimes (uk_fl x_registers (4 * s) (fun _ => 0) 4) (upd x_pageCounts s 1) (upd x_pageFrames (8 * s + 0) (nI f)) x_held (upd (uk_dec x_frameUsers x_pageFrames (8 * s) n) f 1) (uk_fl x_frameWords (4 * f) (fun _ => 0) 4) x_openHolders x_openKinds x_openTargets x_openPlaces x_openModes x_pipeFirsts x_pipeCounts x_pipeWords x_nameFiles x_fileSizes x_fileWords x_safeNames x_safeSizes x_safeWords x_saidInts y_time y_last y_lastPid y_did 0 y_ops y_as y_bs (upd y_pages s 1) y_wake y_zombie y_blocked (uk_fl y_memory (32 * s + 4 * 0) (fun _ => 0) 4) (upd y_frame (8 * s + 0) (nI f)) y_kind y_mode y_pipe y_size y_safeSize y_said :=
      ⟨uk_aG A3, uk_aN A3, uk_aC A3, uk_aeT A3, uk_aPr A3, fun s' hs' => by
        obtain ⟨h1, h2, h3, h4, h5⟩ := uk_aPs A3 s' hs'
        refine ⟨h1, h2, ?_, h4, h5⟩
        by_cases w : s' = s
        · subst w; rw [pk_us]; exact hv
        · rw [pk_un w]; exact h3, uk_aMe A3, uk_aFu A3, uk_aHd A3, uk_aHo A3, uk_aOk A3, uk_aPi A3, uk_aFi A3, uk_aSa A3, uk_aSc A3, uk_WkC (Nat.le_refl t) (uk_aWk A3) (fun s' hs' hp' hz' => by
        by_cases w : s' = s
        · subst w
          exact Or.inl (uk_run1 A3 hs hp hz hb)
        · exact Or.inr ⟨hp', hz', rfl, pk_un w, rfl, rfl, rfl, uk_flout (by omega), fun _ _ => rfl, fun _ _ _ _ _ _ => rfl⟩)⟩
    have er0 : uk_fl x_registers (4 * s) (fun _ => 0) 4 (4 * s) = 0 := by
      have := uk_flin (a := x_registers) (b := 4 * s) (N := 4) (g := fun _ => 0) (j := 0) (by decide)
      exact this
    refine ⟨_, _, fun post h => ?_, fun post h => ?_, uk_RmkK 0 (uk_up1 (Nat.le_succ b) A4)⟩
    · unfold wpX_doCall
      refine nm_r (uk_m4 s) ⟨vp_in_nI (by omega) (by decide), nm_r (uk_rg0 x_registers hs) ⟨uk_rgv hs, nm_r (uk_rg1 x_registers hs) (br_f (by decide) (br_f (by decide) (br_f (by decide) (br_f (by decide) (br_f (by decide) (br_f (by decide) (br_f (by decide) (br_t rfl ?_))))))))⟩⟩
      unfold wpX_execProgram
      refine xk_isProgram (fun _ => br_f (by decide) (xk_dropPages hs n2 hn8 hpf (xk_freeFrame ?_))) (fun w => absurd hv w)
      rw [e]
      refine br_f (uk_ne1 (by omega)) ?_
      unfold wpX_startProgram
      refine xk_addPage (n := 0) hs pk_us (by decide) hf ?_
      rw [epc]
      have key := uk_run0 (fun m k (w : Nat → Int32) => wX_startProgram_9 (fun u => match u with | (x_changes, x_saidCount, x_time, x_lastSlot, x_sliceSteps, x_latestPid, x_greatestPid, x_code, x_codeLengths, x_pids, x_parents, x_programs, x_places, x_states, x_statuses, x_stepCounts, x_copyCounts, x_wakeTimes, x_registers, x_pageCounts, x_pageFrames, x_held, x_frameUsers, x_frameWords, x_openHolders, x_openKinds, x_openTargets, x_openPlaces, x_openModes, x_pipeFirsts, x_pipeCounts, x_pipeWords, x_nameFiles, x_fileSizes, x_fileWords, x_safeNames, x_safeSizes, x_safeWords, x_saidInts) => wX_doCall_344 post (nI (4 * s)) 0 x_changes x_saidCount x_time x_lastSlot x_sliceSteps x_latestPid x_greatestPid x_code x_codeLengths x_pids x_parents x_programs x_places x_states x_statuses x_stepCounts x_copyCounts x_wakeTimes x_registers x_pageCounts x_pageFrames x_held x_frameUsers x_frameWords x_openHolders x_openKinds x_openTargets x_openPlaces x_openModes x_pipeFirsts x_pipeCounts x_pipeWords x_nameFiles x_fileSizes x_fileWords x_safeNames x_safeSizes x_safeWords x_saidInts) (nI s) (x_registers (4 * s)) x_changes x_saidCount x_time x_lastSlot x_sliceSteps x_latestPid x_greatestPid m (nI k) x_code x_codeLengths x_pids x_parents x_programs x_places x_states x_statuses x_stepCounts x_copyCounts x_wakeTimes w (upd x_pageCounts s 1) (upd x_pageFrames (8 * s + 0) (nI f)) x_held (upd (uk_dec x_frameUsers x_pageFrames (8 * s) n) f 1) (uk_fl x_frameWords (4 * f) (fun _ => 0) 4) x_openHolders x_openKinds x_openTargets x_openPlaces x_openModes x_pipeFirsts x_pipeCounts x_pipeWords x_nameFiles x_fileSizes x_fileWords x_safeNames x_safeSizes x_safeWords x_saidInts) (fun k => uk_fl x_registers (4 * s) (fun _ => 0) k) 4 (fun m => by
        refine br_t (uk_refl 4) ⟨vs, ?_⟩
        rw [es]
        refine nm_e ⟨vs, nm_e (xk_tail0 hs ec hc ?_)⟩
        have eu : upd (uk_fl x_registers (4 * s) (fun _ => 0) 4) (4 * s) 0 = uk_fl x_registers (4 * s) (fun _ => 0) 4 := by
          have := uk_uself (uk_fl x_registers (4 * s) (fun _ => 0) 4) (4 * s)
          rw [er0] at this
          exact this
        rw [eu]
        exact h) (fun m k hk ih => by
        refine br_f (nI_ge (b := 4) hk (by decide)) ?_
        rw [uk_m4, nI_add, nI_clamp (show 4 * s + k < 2 ^ 31 by omega)]
        exact ⟨vp_in_nI (by omega) (by decide), nm_r (uk_fls (g := fun _ => 0)) (nm_r (nI_1 k) ih)⟩)
      rw [uk_fl0] at key
      exact key
    · unfold wpY_begin
      refine ⟨vs, ?_⟩
      rw [es]
      refine nm_e (yk_morePages (n := 0) hs hP hN pk_us (by decide) (fun w => absurd ((hff.trans e).symm.trans w) (uk_ne1 (by omega))) (fun f' hf' w => ?_))
      have : f' = f := uk_nIn (by omega) (by omega) (w.symm.trans (hff.trans e))
      subst this
      rw [epg]
      refine br_f (by decide) ⟨vs, nm_e ⟨vs, nm_e ?_⟩⟩
      have key := uk_run0 (fun m k (w : Nat → Int32) => wY_begin_40 post (nI s) x_changes y_time y_last y_lastPid y_did x_greatestPid x_latestPid x_saidCount 0 m (nI k) y_ops y_as y_bs x_codeLengths x_pids x_parents (upd x_programs s (x_registers (4 * s))) (upd x_places s 0) x_statuses x_stepCounts x_copyCounts (upd y_pages s 1) y_wake y_zombie y_blocked w (uk_fl y_memory (32 * s + 4 * 0) (fun _ => 0) 4) (upd y_frame (8 * s + 0) (nI f')) x_held y_kind x_openTargets y_mode x_openPlaces x_pipeCounts y_pipe x_nameFiles y_size x_fileWords x_safeNames y_safeSize x_safeWords y_said) (fun k => uk_fl x_registers (4 * s) (fun _ => 0) k) 4 (fun m => br_t (uk_refl 4) h) (fun m k hk ih => by
        refine br_f (nI_ge (b := 4) hk (by decide)) ?_
        rw [uk_4m, nI_add, nI_clamp (show 4 * s + k < 2 ^ 31 by omega)]
        exact ⟨vp_in_nI (by omega) (by decide), nm_r (uk_fls (g := fun _ => 0)) (nm_r (nI_1 k) ih)⟩)
      rw [uk_fl0] at key
      exact key
end
end
section
/-! READ -/
section
variable {x_changes x_saidCount x_time x_lastSlot x_sliceSteps x_latestPid x_greatestPid : Int32} {x_code x_codeLengths x_pids x_parents x_programs x_places x_states x_statuses x_stepCounts x_copyCounts x_wakeTimes x_registers x_pageCounts x_pageFrames x_held x_frameUsers x_frameWords x_openHolders x_openKinds x_openTargets x_openPlaces x_openModes x_pipeFirsts x_pipeCounts x_pipeWords x_nameFiles x_fileSizes x_fileWords x_safeNames x_safeSizes x_safeWords x_saidInts : Nat → Int32} {y_time y_last y_lastPid y_did y_killed : Int32} {y_ops y_as y_bs y_pages y_wake y_zombie y_blocked y_memory y_frame y_kind y_mode y_pipe y_size y_safeSize y_said : Nat → Int32}
theorem uk_call7 {t b s : Nat} (A : uk_All t b x_changes x_saidCount x_time x_lastSlot x_sliceSteps x_latestPid x_greatestPid x_code x_codeLengths x_pids x_parents x_programs x_places x_states x_statuses x_stepCounts x_copyCounts x_wakeTimes x_registers x_pageCounts x_pageFrames x_held x_frameUsers x_frameWords x_openHolders x_openKinds x_openTargets x_openPlaces x_openModes x_pipeFirsts x_pipeCounts x_pipeWords x_nameFiles x_fileSizes x_fileWords x_safeNames x_safeSizes x_safeWords x_saidInts y_time y_last y_lastPid y_did y_killed y_ops y_as y_bs y_pages y_wake y_zombie y_blocked y_memory y_frame y_kind y_mode y_pipe y_size y_safeSize y_said) (hs : s < 8) (hp : x_pids s ≠ 0) (hz : y_zombie s = 0) (hb : y_blocked s = 0) :
  ∃ u' v', (∀ post : SX → Prop, post u' → wpX_doCall post (x_changes, x_saidCount, x_time, x_lastSlot, x_sliceSteps, x_latestPid, x_greatestPid, x_code, x_codeLengths, x_pids, x_parents, x_programs, x_places, x_states, x_statuses, x_stepCounts, x_copyCounts, x_wakeTimes, x_registers, x_pageCounts, x_pageFrames, x_held, x_frameUsers, x_frameWords, x_openHolders, x_openKinds, x_openTargets, x_openPlaces, x_openModes, x_pipeFirsts, x_pipeCounts, x_pipeWords, x_nameFiles, x_fileSizes, x_fileWords, x_safeNames, x_safeSizes, x_safeWords, x_saidInts) (nI s) 7) ∧ (∀ post : SY → Prop, post v' → wY_call_127 post (nI s) 7 (x_registers (4 * s)) (x_registers (4 * s + 1)) x_changes y_time y_last y_lastPid y_did x_greatestPid x_latestPid x_saidCount 0 y_ops y_as y_bs x_codeLengths x_pids x_parents x_programs x_places x_statuses x_stepCounts x_copyCounts y_pages y_wake y_zombie y_blocked x_registers y_memory y_frame x_held y_kind x_openTargets y_mode x_openPlaces x_pipeCounts y_pipe x_nameFiles y_size x_fileWords x_safeNames y_safeSize x_safeWords y_said) ∧ uk_R y_time t (b + 1) u' v' := by
  obtain ⟨_, vs, es⟩ := uk_lp 8 hs (by decide)
  obtain ⟨c, ec, hc⟩ := uk_aC A
  have hH := uk_aHd A s hs hp hz
  have hHo := uk_aHo A
  have hOk := uk_aOk A
  have hPi := uk_aPi A
  have hFi := uk_aFi A
  rcases uk_desc A hs hp hz with h0 | ⟨d, o, hd, ho, e1, e2, k1, k2, k3, k4⟩
  · refine ⟨_, _, fun post h => ?_, fun post h => ?_, uk_end0 (g := -1) A hs hp hz hb⟩
    · unfold wpX_doCall
      refine nm_r (uk_m4 s) ⟨vp_in_nI (by omega) (by decide), nm_r (uk_rg0 x_registers hs) ⟨uk_rgv hs, nm_r (uk_rg1 x_registers hs) (br_f (by decide) (br_f (by decide) (br_f (by decide) (br_f (by decide) (br_f (by decide) (br_f (by decide) (br_f (by decide) (br_f (by decide) (br_f (by decide) (br_t rfl ?_))))))))))⟩⟩
      unfold wpX_readWord
      exact xk_of0 hs hH h0 (br_t rfl (xk_tail0 hs ec hc h))
    · unfold wY_call_127
      exact br_t (by decide) (br_f (by decide) (yk_ds0 hs (by decide) (by decide) h0 (yk_tail0 hs h)))
  have vo : vp_in (nI o) 12 := vp_in_nI ho (by decide)
  have eo : (nI o).toNatClampNeg = o := nI_clamp (by omega)
  have hX : ∀ post : SX → Prop, (x_openModes o &&& 1 = 0 → wX_doCall_344 post (nI (4 * s)) (-1) x_changes x_saidCount x_time x_lastSlot x_sliceSteps x_latestPid x_greatestPid x_code x_codeLengths x_pids x_parents x_programs x_places x_states x_statuses x_stepCounts x_copyCounts x_wakeTimes x_registers x_pageCounts x_pageFrames x_held x_frameUsers x_frameWords x_openHolders x_openKinds x_openTargets x_openPlaces x_openModes x_pipeFirsts x_pipeCounts x_pipeWords x_nameFiles x_fileSizes x_fileWords x_safeNames x_safeSizes x_safeWords x_saidInts) → (x_openModes o &&& 1 ≠ 0 → (((x_openKinds o = 2 → wpX_readPipe (fun r u => match u with | (x_changes, x_saidCount, x_time, x_lastSlot, x_sliceSteps, x_latestPid, x_greatestPid, x_code, x_codeLengths, x_pids, x_parents, x_programs, x_places, x_states, x_statuses, x_stepCounts, x_copyCounts, x_wakeTimes, x_registers, x_pageCounts, x_pageFrames, x_held, x_frameUsers, x_frameWords, x_openHolders, x_openKinds, x_openTargets, x_openPlaces, x_openModes, x_pipeFirsts, x_pipeCounts, x_pipeWords, x_nameFiles, x_fileSizes, x_fileWords, x_safeNames, x_safeSizes, x_safeWords, x_saidInts) => wX_doCall_344 post (nI (4 * s)) r x_changes x_saidCount x_time x_lastSlot x_sliceSteps x_latestPid x_greatestPid x_code x_codeLengths x_pids x_parents x_programs x_places x_states x_statuses x_stepCounts x_copyCounts x_wakeTimes x_registers x_pageCounts x_pageFrames x_held x_frameUsers x_frameWords x_openHolders x_openKinds x_openTargets x_openPlaces x_openModes x_pipeFirsts x_pipeCounts x_pipeWords x_nameFiles x_fileSizes x_fileWords x_safeNames x_safeSizes x_safeWords x_saidInts) (x_changes, x_saidCount, x_time, x_lastSlot, x_sliceSteps, x_latestPid, x_greatestPid, x_code, x_codeLengths, x_pids, x_parents, x_programs, x_places, x_states, x_statuses, x_stepCounts, x_copyCounts, x_wakeTimes, x_registers, x_pageCounts, x_pageFrames, x_held, x_frameUsers, x_frameWords, x_openHolders, x_openKinds, x_openTargets, x_openPlaces, x_openModes, x_pipeFirsts, x_pipeCounts, x_pipeWords, x_nameFiles, x_fileSizes, x_fileWords, x_safeNames, x_safeSizes, x_safeWords, x_saidInts) (nI s) (x_openTargets o)) ∧ (¬ x_openKinds o = 2 → (vp_in (nI o) 12 ∧ ∀ x4, x4 = x_openPlaces o → (vp_in (x_openTargets o) 8 ∧ ((x4 < x_fileSizes (x_openTargets o).toNatClampNeg → (vp_in ((x_openTargets o * 16) + x4) 128 ∧ (vp_in ((nI s * 4) + 1) 32 ∧ ∀ R', R' = upd x_registers ((nI s * 4) + 1).toNatClampNeg (x_fileWords ((x_openTargets o * 16) + x4).toNatClampNeg) → (vp_in (nI o) 12 ∧ ∀ op', op' = upd x_openPlaces o (x4 + 1) → wX_doCall_344 post (nI (4 * s)) 1 x_changes x_saidCount x_time x_lastSlot x_sliceSteps x_latestPid x_greatestPid x_code x_codeLengths x_pids x_parents x_programs x_places x_states x_statuses x_stepCounts x_copyCounts x_wakeTimes R' x_pageCounts x_pageFrames x_held x_frameUsers x_frameWords x_openHolders x_openKinds x_openTargets op' x_openModes x_pipeFirsts x_pipeCounts x_pipeWords x_nameFiles x_fileSizes x_fileWords x_safeNames x_safeSizes x_safeWords x_saidInts)))) ∧ (¬ x4 < x_fileSizes (x_openTargets o).toNatClampNeg → wX_doCall_344 post (nI (4 * s)) 0 x_changes x_saidCount x_time x_lastSlot x_sliceSteps x_latestPid x_greatestPid x_code x_codeLengths x_pids x_parents x_programs x_places x_states x_statuses x_stepCounts x_copyCounts x_wakeTimes x_registers x_pageCounts x_pageFrames x_held x_frameUsers x_frameWords x_openHolders x_openKinds x_openTargets x_openPlaces x_openModes x_pipeFirsts x_pipeCounts x_pipeWords x_nameFiles x_fileSizes x_fileWords x_safeNames x_safeSizes x_safeWords x_saidInts)))))))) → wpX_doCall post (x_changes, x_saidCount, x_time, x_lastSlot, x_sliceSteps, x_latestPid, x_greatestPid, x_code, x_codeLengths, x_pids, x_parents, x_programs, x_places, x_states, x_statuses, x_stepCounts, x_copyCounts, x_wakeTimes, x_registers, x_pageCounts, x_pageFrames, x_held, x_frameUsers, x_frameWords, x_openHolders, x_openKinds, x_openTargets, x_openPlaces, x_openModes, x_pipeFirsts, x_pipeCounts, x_pipeWords, x_nameFiles, x_fileSizes, x_fileWords, x_safeNames, x_safeSizes, x_safeWords, x_saidInts) (nI s) 7 := fun post h0 h1 => by
    unfold wpX_doCall
    refine nm_r (uk_m4 s) ⟨vp_in_nI (by omega) (by decide), nm_r (uk_rg0 x_registers hs) ⟨uk_rgv hs, nm_r (uk_rg1 x_registers hs) (br_f (by decide) (br_f (by decide) (br_f (by decide) (br_f (by decide) (br_f (by decide) (br_f (by decide) (br_f (by decide) (br_f (by decide) (br_f (by decide) (br_t rfl ?_))))))))))⟩⟩
    unfold wpX_readWord
    refine xk_of1 hs hH hd ho e1 e2 (fun w => br_f (uk_ne1 (by omega)) ⟨vo, ?_⟩) (fun w => br_t rfl (h0 w))
    rw [eo]
    exact nm_e ⟨vo, h1 w⟩
  have hY : ∀ post : SY → Prop, wpY_take (fun r u => match u with | (y_changes, y_time, y_last, y_lastPid, y_did, y_greatest, y_stepped, y_says, y_killed, y_ops, y_as, y_bs, y_length, y_pid, y_parent, y_program, y_pc, y_status, y_steps, y_copies, y_pages, y_wake, y_zombie, y_blocked, y_reg, y_memory, y_frame, y_descriptor, y_kind, y_of, y_mode, y_place, y_piped, y_pipe, y_names, y_size, y_words, y_safeNames, y_safeSize, y_safeWords, y_said) => wY_call_169 post (nI s) r y_changes y_time y_last y_lastPid y_did y_greatest y_stepped y_says y_killed y_ops y_as y_bs y_length y_pid y_parent y_program y_pc y_status y_steps y_copies y_pages y_wake y_zombie y_blocked y_reg y_memory y_frame y_descriptor y_kind y_of y_mode y_place y_piped y_pipe y_names y_size y_words y_safeNames y_safeSize y_safeWords y_said) (x_changes, y_time, y_last, y_lastPid, y_did, x_greatestPid, x_latestPid, x_saidCount, 0, y_ops, y_as, y_bs, x_codeLengths, x_pids, x_parents, x_programs, x_places, x_statuses, x_stepCounts, x_copyCounts, y_pages, y_wake, y_zombie, y_blocked, x_registers, y_memory, y_frame, x_held, y_kind, x_openTargets, y_mode, x_openPlaces, x_pipeCounts, y_pipe, x_nameFiles, y_size, x_fileWords, x_safeNames, y_safeSize, x_safeWords, y_said) (nI s) (nI o) → wY_call_127 post (nI s) 7 (x_registers (4 * s)) (x_registers (4 * s + 1)) x_changes y_time y_last y_lastPid y_did x_greatestPid x_latestPid x_saidCount 0 y_ops y_as y_bs x_codeLengths x_pids x_parents x_programs x_places x_statuses x_stepCounts x_copyCounts y_pages y_wake y_zombie y_blocked x_registers y_memory y_frame x_held y_kind x_openTargets y_mode x_openPlaces x_pipeCounts y_pipe x_nameFiles y_size x_fileWords x_safeNames y_safeSize x_safeWords y_said := fun post h => by
    unfold wY_call_127
    refine br_t (by decide) (br_f (by decide) (yk_ds1 hs (by decide) (by decide) hd e1 e2 ?_))
    exact br_t (nI_pos' (by omega)) (br_t rfl h)
  rcases k4 with ⟨q1, q2, q3, q4⟩ | ⟨q1, q2, q3⟩ | ⟨q1, q2, q3⟩
  ·
    obtain ⟨f, hf, eT⟩ := vp_in_of q4 (by decide)
    obtain ⟨r1, r2, m, hm, eS⟩ := uk_nfre A ho hf q1 eT
    obtain ⟨p, hp16, eP⟩ := vp_in_of (hOk o ho).1 (by decide)
    by_cases hmo : x_openModes o &&& 1 = 0
    · refine ⟨_, _, fun post h => hX post (fun _ => xk_tail0 hs ec hc h) (fun w => absurd hmo w), fun post h => hY post ?_, uk_end0 (g := -1) A hs hp hz hb⟩
      unfold wpY_take
      refine ⟨vo, ?_⟩
      rw [eo]
      refine nm_e ⟨vo, br_t q1 ⟨vo, br_t ?_ (yk_tail0 hs h)⟩⟩
      rw [← q2]; exact hmo
    · have hkn : ¬ x_openKinds o = 2 := by rw [k2, q1]; decide
      have hmo2 : ¬ y_mode o &&& 1 = 0 := by rw [← q2]; exact hmo
      by_cases hpl : p < m
      · have A1 : uk_All t b x_changes x_saidCount x_time x_lastSlot x_sliceSteps x_latestPid x_greatestPid x_code x_codeLengths x_pids x_parents x_programs x_places x_states x_statuses x_stepCounts x_copyCounts x_wakeTimes x_registers x_pageCounts x_pageFrames x_held x_frameUsers x_frameWords x_openHolders x_openKinds x_openTargets (upd x_openPlaces o (nI (p + 1))) x_openModes x_pipeFirsts x_pipeCounts x_pipeWords x_nameFiles x_fileSizes x_fileWords x_safeNames x_safeSizes x_safeWords x_saidInts y_time y_last y_lastPid y_did y_killed y_ops y_as y_bs y_pages y_wake y_zombie y_blocked y_memory y_frame y_kind y_mode y_pipe y_size y_safeSize y_said := ⟨uk_aG A, uk_aN A, uk_aC A, uk_aeT A, uk_aPr A, uk_aPs A, uk_aMe A, uk_aFu A, uk_aHd A, uk_aHo A, uk_Ok_op o hOk (vp_in_nI (by omega) (by decide)), uk_aPi A, uk_aFi A, uk_aSa A, uk_aSc A, uk_aWk A⟩
        have A2 := uk_All_reg (i := 1) (x := x_fileWords (16 * f + p)) A1 hs hp hz hb (by decide)
        refine ⟨_, _, fun post h => hX post (fun w => absurd w hmo) (fun _ => br_f hkn ⟨vo, ?_⟩), fun post h => hY post ?_, uk_end0 (g := 1) A2 hs hp hz hb⟩
        · rw [eP]
          refine nm_e ⟨q4, ?_⟩
          rw [eT, nI_clamp (show f < 2 ^ 31 by omega), r2, eS, uk_m16, nI_add, uk_m4, nI_1, nI_1, nI_clamp (show 16 * f + p < 2 ^ 31 by omega), nI_clamp (show 4 * s + 1 < 2 ^ 31 by omega)]
          exact br_t (nI_lt hpl (by omega)) ⟨vp_in_nI (by omega) (by decide), vp_in_nI (by omega) (by decide), nm_e ⟨vo, nm_e (xk_tail0 hs ec hc h)⟩⟩
        · unfold wpY_take
          refine ⟨vo, ?_⟩
          rw [eo, eT]
          refine nm_e ⟨vo, br_t q1 ⟨vo, br_f hmo2 ⟨vo, vp_in_nI hf (by decide), ?_⟩⟩⟩
          rw [nI_clamp (show f < 2 ^ 31 by omega), eS, eP, uk_16m, nI_add, uk_4m, nI_1, nI_1, nI_clamp (show 16 * f + p < 2 ^ 31 by omega), nI_clamp (show 4 * s + 1 < 2 ^ 31 by omega)]
          exact br_t (nI_lt hpl (by omega)) ⟨vo, vo, nm_e ⟨vp_in_nI (by omega) (by decide), vp_in_nI (by omega) (by decide), nm_e (yk_tail0 hs h)⟩⟩
      · refine ⟨_, _, fun post h => hX post (fun w => absurd w hmo) (fun _ => br_f hkn ⟨vo, ?_⟩), fun post h => hY post ?_, uk_end0 (g := 0) A hs hp hz hb⟩
        · rw [eP]
          refine nm_e ⟨q4, ?_⟩
          rw [eT, nI_clamp (show f < 2 ^ 31 by omega), r2, eS]
          exact br_f (nI_nlt (by omega) (by omega)) (xk_tail0 hs ec hc h)
        · unfold wpY_take
          refine ⟨vo, ?_⟩
          rw [eo, eT]
          refine nm_e ⟨vo, br_t q1 ⟨vo, br_f hmo2 ⟨vo, vp_in_nI hf (by decide), ?_⟩⟩⟩
          rw [nI_clamp (show f < 2 ^ 31 by omega), eS, eP]
          exact br_f (nI_nlt (by omega) (by omega)) (yk_tail0 hs h)
  ·
    have hmo : ¬ x_openModes o &&& 1 = 0 := by rw [q2]; decide
    have hk2 : x_openKinds o = 2 := k2.trans q1
    obtain ⟨pp, hpp, eT⟩ := vp_in_of q3 (by decide)
    obtain ⟨cc, ff, c1, c2, c3, c4, c5⟩ := hPi pp hpp
    have vp4 : vp_in (nI pp) 4 := vp_in_nI hpp (by decide)
    have yk1 : ¬ y_kind o = 1 := by rw [q1]; decide
    have yk3 : ¬ y_kind o = 3 := by rw [q1]; decide
    cases cc with
    | zero =>
      refine ⟨_, _, fun post h => hX post (fun w => absurd w hmo) (fun _ => br_t hk2 ?_), fun post h => hY post ?_, uk_end0 (g := 0) A hs hp hz hb⟩
      · unfold wpX_readPipe
        rw [eT]
        refine ⟨vp4, ?_⟩
        rw [nI_clamp (show pp < 2 ^ 31 by omega), c3]
        exact br_t rfl (xk_tail0 hs ec hc h)
      · unfold wpY_take
        refine ⟨vo, ?_⟩
        rw [eo, eT]
        refine nm_e ⟨vo, br_f yk1 ⟨vo, br_f yk3 ⟨vp4, ?_⟩⟩⟩
        rw [nI_clamp (show pp < 2 ^ 31 by omega), c3]
        exact br_t rfl (yk_tail0 hs h)
    | succ cc =>
      obtain ⟨w1, w2⟩ := uk_pi_rd hPi hpp c3 c4 (by omega) c2
      have A1 : uk_All t b x_changes x_saidCount x_time x_lastSlot x_sliceSteps x_latestPid x_greatestPid x_code x_codeLengths x_pids x_parents x_programs x_places x_states x_statuses x_stepCounts x_copyCounts x_wakeTimes x_registers x_pageCounts x_pageFrames x_held x_frameUsers x_frameWords x_openHolders x_openKinds x_openTargets x_openPlaces x_openModes (upd x_pipeFirsts pp (nI ((ff + 1) % 4))) (upd x_pipeCounts pp (nI cc)) x_pipeWords x_nameFiles x_fileSizes x_fileWords x_safeNames x_safeSizes x_safeWords x_saidInts y_time y_last y_lastPid y_did y_killed y_ops y_as y_bs y_pages y_wake y_zombie y_blocked y_memory y_frame y_kind y_mode (uk_fl y_pipe (4 * pp) (fun k => y_pipe (4 * pp + k + 1)) cc) y_size y_safeSize y_said := ⟨uk_aG A, uk_aN A, uk_aC A, uk_aeT A, uk_aPr A, uk_aPs A, uk_aMe A, uk_aFu A, uk_aHd A, uk_aHo A, uk_aOk A, w2, uk_aFi A, uk_aSa A, uk_aSc A, uk_aWk A⟩
      have A2 := uk_All_reg (i := 1) (x := y_pipe (4 * pp)) A1 hs hp hz hb (by decide)
      have n0 : ¬ nI (cc + 1) = 0 := nI_ne0 (by omega) (by omega)
      have epred : nI (cc + 1) - 1 = nI cc := nI_pred cc
      refine ⟨_, _, fun post h => hX post (fun w => absurd w hmo) (fun _ => br_t hk2 ?_), fun post h => hY post ?_, uk_end0 (g := 1) A2 hs hp hz hb⟩
      · unfold wpX_readPipe
        rw [eT]
        refine ⟨vp4, ?_⟩
        rw [nI_clamp (show pp < 2 ^ 31 by omega), c3, c4]
        refine br_f n0 ⟨vp4, nm_e ?_⟩
        have er : nI ff + 1 - (nI ff + 1) / 4 * 4 = nI ((ff + 1) % 4) := by rw [nI_1]; exact pk_rem (d := 4) (by omega) (by decide) (by decide)
        rw [er, uk_m4, uk_m4, nI_add, nI_1, nI_clamp (show 4 * pp + ff < 2 ^ 31 by omega), nI_clamp (show 4 * s + 1 < 2 ^ 31 by omega), w1, epred]
        exact ⟨vp_in_nI (by omega) (by decide), vp_in_nI (by omega) (by decide), nm_e ⟨by decide, vp4, nm_e ⟨vp4, vp4, nm_e (xk_tail0 hs ec hc h)⟩⟩⟩
      · unfold wpY_take
        refine ⟨vo, ?_⟩
        rw [eo, eT]
        refine nm_e ⟨vo, br_f yk1 ⟨vo, br_f yk3 ⟨vp4, ?_⟩⟩⟩
        rw [nI_clamp (show pp < 2 ^ 31 by omega), c3, uk_4m, uk_4m, nI_1, nI_clamp (show 4 * pp < 2 ^ 31 by omega), nI_clamp (show 4 * s + 1 < 2 ^ 31 by omega), epred]
        refine br_f n0 ⟨vp_in_nI (by omega) (by decide), vp_in_nI (by omega) (by decide), nm_e ⟨vp4, vp4, nm_e ?_⟩⟩
        have key := uk_run0 (fun m k (w : Nat → Int32) => wY_take_134 (fun r u => match u with | (y_changes, y_time, y_last, y_lastPid, y_did, y_greatest, y_stepped, y_says, y_killed, y_ops, y_as, y_bs, y_length, y_pid, y_parent, y_program, y_pc, y_status, y_steps, y_copies, y_pages, y_wake, y_zombie, y_blocked, y_reg, y_memory, y_frame, y_descriptor, y_kind, y_of, y_mode, y_place, y_piped, y_pipe, y_names, y_size, y_words, y_safeNames, y_safeSize, y_safeWords, y_said) => wY_call_169 post (nI s) r y_changes y_time y_last y_lastPid y_did y_greatest y_stepped y_says y_killed y_ops y_as y_bs y_length y_pid y_parent y_program y_pc y_status y_steps y_copies y_pages y_wake y_zombie y_blocked y_reg y_memory y_frame y_descriptor y_kind y_of y_mode y_place y_piped y_pipe y_names y_size y_words y_safeNames y_safeSize y_safeWords y_said) (nI pp) x_changes y_time y_last y_lastPid y_did x_greatestPid x_latestPid x_saidCount 0 m (nI k) y_ops y_as y_bs x_codeLengths x_pids x_parents x_programs x_places x_statuses x_stepCounts x_copyCounts y_pages y_wake y_zombie y_blocked (upd x_registers (4 * s + 1) (y_pipe (4 * pp))) y_memory y_frame x_held y_kind x_openTargets y_mode x_openPlaces (upd x_pipeCounts pp (nI cc)) w x_nameFiles y_size x_fileWords x_safeNames y_safeSize x_safeWords y_said) (fun k => uk_fl y_pipe (4 * pp) (fun k => y_pipe (4 * pp + k + 1)) k) cc (fun m => by
          refine ⟨vp4, ?_⟩
          rw [nI_clamp (show pp < 2 ^ 31 by omega), pk_us]
          exact br_t (uk_refl _) (yk_tail0 hs h)) (fun m k hk ih => by
          refine ⟨vp4, ?_⟩
          rw [nI_clamp (show pp < 2 ^ 31 by omega), pk_us]
          refine br_f (nI_ge hk (by omega)) ?_
          rw [uk_4m, nI_add, nI_1, nI_clamp (show 4 * pp + k < 2 ^ 31 by omega), nI_clamp (show 4 * pp + k + 1 < 2 ^ 31 by omega), uk_flout (show 4 * pp + k + 1 < 4 * pp ∨ 4 * pp + k ≤ 4 * pp + k + 1 by omega)]
          exact ⟨vp_in_nI (by omega) (by decide), vp_in_nI (by omega) (by decide), nm_r (uk_fls (g := fun k => y_pipe (4 * pp + k + 1))) (nm_r (nI_1 k) ih)⟩)
        rw [uk_fl0] at key
        exact key
  ·
    have hmo : x_openModes o &&& 1 = 0 := by rw [q2]; decide
    refine ⟨_, _, fun post h => hX post (fun _ => xk_tail0 hs ec hc h) (fun w => absurd hmo w), fun post h => hY post ?_, uk_end0 (g := -1) A hs hp hz hb⟩
    unfold wpY_take
    refine ⟨vo, ?_⟩
    rw [eo]
    exact nm_e ⟨vo, br_f (by rw [q1]; decide) ⟨vo, br_t q1 (yk_tail0 hs h)⟩⟩
end
end
section
/-! WRITE -/
section
variable {x_changes x_saidCount x_time x_lastSlot x_sliceSteps x_latestPid x_greatestPid : Int32} {x_code x_codeLengths x_pids x_parents x_programs x_places x_states x_statuses x_stepCounts x_copyCounts x_wakeTimes x_registers x_pageCounts x_pageFrames x_held x_frameUsers x_frameWords x_openHolders x_openKinds x_openTargets x_openPlaces x_openModes x_pipeFirsts x_pipeCounts x_pipeWords x_nameFiles x_fileSizes x_fileWords x_safeNames x_safeSizes x_safeWords x_saidInts : Nat → Int32} {y_time y_last y_lastPid y_did y_killed : Int32} {y_ops y_as y_bs y_pages y_wake y_zombie y_blocked y_memory y_frame y_kind y_mode y_pipe y_size y_safeSize y_said : Nat → Int32}
/-- X's side of a word written to file f at place q -/
theorem xk_fw {post : Int32 → SX → Prop} {f o m q c : Nat} {v : Int32} (hf : f < 8) (ho : o < 12) (hm : m ≤ 16) (hq : q ≤ m) (ec : x_changes = nI c) (es : x_fileSizes f = nI m) (hOk : uk_Ok x_openHolders x_openKinds y_kind x_openTargets x_openModes y_mode x_openPlaces) (hHo : uk_Ho x_pids y_zombie x_held x_openHolders) (hFi : uk_Fi x_nameFiles y_kind x_openTargets x_fileSizes y_size)
  (h0 : (q = 16 ∨ (q = m ∧ m % 4 = 0 ∧ uk_fb (fun f => ((y_size f).toNatClampNeg + 3) / 4) 8 = 0)) → post 0 (x_changes, x_saidCount, x_time, x_lastSlot, x_sliceSteps, x_latestPid, x_greatestPid, x_code, x_codeLengths, x_pids, x_parents, x_programs, x_places, x_states, x_statuses, x_stepCounts, x_copyCounts, x_wakeTimes, x_registers, x_pageCounts, x_pageFrames, x_held, x_frameUsers, x_frameWords, x_openHolders, x_openKinds, x_openTargets, x_openPlaces, x_openModes, x_pipeFirsts, x_pipeCounts, x_pipeWords, x_nameFiles, x_fileSizes, x_fileWords, x_safeNames, x_safeSizes, x_safeWords, x_saidInts))
  (h1 : q < 16 → ¬ (q = m ∧ m % 4 = 0 ∧ uk_fb (fun f => ((y_size f).toNatClampNeg + 3) / 4) 8 = 0) → q = m → post 1 (nI (c + 1), x_saidCount, x_time, x_lastSlot, x_sliceSteps, x_latestPid, x_greatestPid, x_code, x_codeLengths, x_pids, x_parents, x_programs, x_places, x_states, x_statuses, x_stepCounts, x_copyCounts, x_wakeTimes, x_registers, x_pageCounts, x_pageFrames, x_held, x_frameUsers, x_frameWords, x_openHolders, x_openKinds, x_openTargets, upd x_openPlaces o (nI (q + 1)), x_openModes, x_pipeFirsts, x_pipeCounts, x_pipeWords, x_nameFiles, upd x_fileSizes f (nI (m + 1)), upd x_fileWords (16 * f + q) v, x_safeNames, x_safeSizes, x_safeWords, x_saidInts))
  (h2 : q < 16 → q ≠ m → post 1 (nI (c + 1), x_saidCount, x_time, x_lastSlot, x_sliceSteps, x_latestPid, x_greatestPid, x_code, x_codeLengths, x_pids, x_parents, x_programs, x_places, x_states, x_statuses, x_stepCounts, x_copyCounts, x_wakeTimes, x_registers, x_pageCounts, x_pageFrames, x_held, x_frameUsers, x_frameWords, x_openHolders, x_openKinds, x_openTargets, upd x_openPlaces o (nI (q + 1)), x_openModes, x_pipeFirsts, x_pipeCounts, x_pipeWords, x_nameFiles, x_fileSizes, upd x_fileWords (16 * f + q) v, x_safeNames, x_safeSizes, x_safeWords, x_saidInts)) : wX_writeWord_71 post v (nI o) (nI f) (nI m) (nI q) x_changes x_saidCount x_time x_lastSlot x_sliceSteps x_latestPid x_greatestPid x_code x_codeLengths x_pids x_parents x_programs x_places x_states x_statuses x_stepCounts x_copyCounts x_wakeTimes x_registers x_pageCounts x_pageFrames x_held x_frameUsers x_frameWords x_openHolders x_openKinds x_openTargets x_openPlaces x_openModes x_pipeFirsts x_pipeCounts x_pipeWords x_nameFiles x_fileSizes x_fileWords x_safeNames x_safeSizes x_safeWords x_saidInts := by
  have vo : vp_in (nI o) 12 := vp_in_nI ho (by decide)
  have vf : vp_in (nI f) 8 := vp_in_nI hf (by decide)
  have ec1 : x_changes + 1 = nI (c + 1) := by rw [ec]; exact nI_1 c
  have eqm : nI q = nI m ↔ q = m := nI_eq (by omega) (by omega)
  have e16 : (16 : Int32) ≤ nI q ↔ q = 16 := by
    rw [show (16 : Int32) = nI 16 from rfl, nI_leI (by decide) (by omega)]; omega
  have er : nI m - nI m / 4 * 4 = nI (m % 4) := pk_rem (d := 4) (by omega) (by decide) (by decide)
  have er0 : nI (m % 4) = 0 ↔ m % 4 = 0 := nI_eq (b := 0) (by omega) (by decide)
  have k115 : q < 16 → ¬ (q = m ∧ m % 4 = 0 ∧ uk_fb (fun f => ((y_size f).toNatClampNeg + 3) / 4) 8 = 0) → wX_writeWord_115 post v (nI o) (nI f) (nI m) (nI q) x_changes x_saidCount x_time x_lastSlot x_sliceSteps x_latestPid x_greatestPid x_code x_codeLengths x_pids x_parents x_programs x_places x_states x_statuses x_stepCounts x_copyCounts x_wakeTimes x_registers x_pageCounts x_pageFrames x_held x_frameUsers x_frameWords x_openHolders x_openKinds x_openTargets x_openPlaces x_openModes x_pipeFirsts x_pipeCounts x_pipeWords x_nameFiles x_fileSizes x_fileWords x_safeNames x_safeSizes x_safeWords x_saidInts := fun q16 hn => by
    unfold wX_writeWord_115
    rw [uk_m16, nI_add, nI_clamp (show 16 * f + q < 2 ^ 31 by omega)]
    refine ⟨vp_in_nI (by omega) (by decide), nm_e ⟨fun a => ⟨vf, vf, ?_⟩, fun a => ?_⟩⟩
    · have hqm := eqm.mp a
      rw [nI_clamp (show f < 2 ^ 31 by omega), es, nI_1]
      refine nm_e ?_
      unfold wX_writeWord_147
      refine ⟨vo, ?_⟩
      rw [nI_clamp (show o < 2 ^ 31 by omega), nI_1]
      exact nm_e (nm_r ec1 (h1 q16 hn hqm))
    · unfold wX_writeWord_147
      refine ⟨vo, ?_⟩
      rw [nI_clamp (show o < 2 ^ 31 by omega), nI_1]
      exact nm_e (nm_r ec1 (h2 q16 (fun z => a (eqm.mpr z))))
  have k91 : ¬ (q = m ∧ m % 4 = 0) → wX_writeWord_91 post v (nI o) (nI f) (nI m) (nI q) x_changes x_saidCount x_time x_lastSlot x_sliceSteps x_latestPid x_greatestPid x_code x_codeLengths x_pids x_parents x_programs x_places x_states x_statuses x_stepCounts x_copyCounts x_wakeTimes x_registers x_pageCounts x_pageFrames x_held x_frameUsers x_frameWords x_openHolders x_openKinds x_openTargets x_openPlaces x_openModes x_pipeFirsts x_pipeCounts x_pipeWords x_nameFiles x_fileSizes x_fileWords x_safeNames x_safeSizes x_safeWords x_saidInts := fun hn => by
    unfold wX_writeWord_91 wX_writeWord_92
    exact ⟨fun a => h0 (Or.inl (e16.mp a)), fun a => br_t rfl (k115 (by have := fun z => a (e16.mpr z); have h : ¬ q = 16 := this; omega) (fun z => hn ⟨z.1, z.2.1⟩))⟩
  unfold wX_writeWord_71
  refine ⟨fun a => ⟨by decide, ?_⟩, fun a => k91 (fun z => a (eqm.mpr z.1))⟩
  rw [er, er0]
  refine ⟨fun b => ?_, fun b => k91 (fun z => b z.2)⟩
  unfold wX_writeWord_92
  refine ⟨fun d => h0 (Or.inl (e16.mp d)), fun d => br_f (by decide) (xk_countFreeBlocks hOk hHo hFi ⟨fun w => h0 (Or.inr ⟨eqm.mp a, b, w⟩), fun w => k115 (by have h : ¬ q = 16 := fun z => d (e16.mpr z); omega) (fun z => w z.2.2)⟩)⟩
theorem yk_fw {post : Int32 → SY → Prop} {f o m q c : Nat} {v : Int32} (hf : f < 8) (ho : o < 12) (hm : m ≤ 16) (hq : q ≤ m) (ec : x_changes = nI c) (hc : c < 30) (es : y_size f = nI m) (hFi : uk_Fi x_nameFiles y_kind x_openTargets x_fileSizes y_size)
  (h0 : (q = 16 ∨ (q = m ∧ m % 4 = 0 ∧ uk_fb (fun f => ((y_size f).toNatClampNeg + 3) / 4) 8 = 0)) → post 0 (x_changes, y_time, y_last, y_lastPid, y_did, x_greatestPid, x_latestPid, x_saidCount, y_killed, y_ops, y_as, y_bs, x_codeLengths, x_pids, x_parents, x_programs, x_places, x_statuses, x_stepCounts, x_copyCounts, y_pages, y_wake, y_zombie, y_blocked, x_registers, y_memory, y_frame, x_held, y_kind, x_openTargets, y_mode, x_openPlaces, x_pipeCounts, y_pipe, x_nameFiles, y_size, x_fileWords, x_safeNames, y_safeSize, x_safeWords, y_said))
  (h1 : q < 16 → ¬ (q = m ∧ m % 4 = 0 ∧ uk_fb (fun f => ((y_size f).toNatClampNeg + 3) / 4) 8 = 0) → q = m → (c + 1 ≠ 30 → post 1 (nI (c + 1), y_time, y_last, y_lastPid, y_did, x_greatestPid, x_latestPid, x_saidCount, y_killed, y_ops, y_as, y_bs, x_codeLengths, x_pids, x_parents, x_programs, x_places, x_statuses, x_stepCounts, x_copyCounts, y_pages, y_wake, y_zombie, y_blocked, x_registers, y_memory, y_frame, x_held, y_kind, x_openTargets, y_mode, upd x_openPlaces o (nI (q + 1)), x_pipeCounts, y_pipe, x_nameFiles, upd y_size f (nI (m + 1)), upd x_fileWords (16 * f + q) v, x_safeNames, y_safeSize, x_safeWords, y_said)) ∧ (c + 1 = 30 → post 1 (0, y_time, y_last, y_lastPid, y_did, x_greatestPid, x_latestPid, x_saidCount, y_killed, y_ops, y_as, y_bs, x_codeLengths, x_pids, x_parents, x_programs, x_places, x_statuses, x_stepCounts, x_copyCounts, y_pages, y_wake, y_zombie, y_blocked, x_registers, y_memory, y_frame, x_held, y_kind, x_openTargets, y_mode, upd x_openPlaces o (nI (q + 1)), x_pipeCounts, y_pipe, x_nameFiles, upd y_size f (nI (m + 1)), upd x_fileWords (16 * f + q) v, uk_fl x_safeNames 0 x_nameFiles 8, uk_fl y_safeSize 0 (upd y_size f (nI (m + 1))) 8, uk_fl x_safeWords 0 (upd x_fileWords (16 * f + q) v) 128, y_said)))
  (h2 : q < 16 → q ≠ m → (c + 1 ≠ 30 → post 1 (nI (c + 1), y_time, y_last, y_lastPid, y_did, x_greatestPid, x_latestPid, x_saidCount, y_killed, y_ops, y_as, y_bs, x_codeLengths, x_pids, x_parents, x_programs, x_places, x_statuses, x_stepCounts, x_copyCounts, y_pages, y_wake, y_zombie, y_blocked, x_registers, y_memory, y_frame, x_held, y_kind, x_openTargets, y_mode, upd x_openPlaces o (nI (q + 1)), x_pipeCounts, y_pipe, x_nameFiles, y_size, upd x_fileWords (16 * f + q) v, x_safeNames, y_safeSize, x_safeWords, y_said)) ∧ (c + 1 = 30 → post 1 (0, y_time, y_last, y_lastPid, y_did, x_greatestPid, x_latestPid, x_saidCount, y_killed, y_ops, y_as, y_bs, x_codeLengths, x_pids, x_parents, x_programs, x_places, x_statuses, x_stepCounts, x_copyCounts, y_pages, y_wake, y_zombie, y_blocked, x_registers, y_memory, y_frame, x_held, y_kind, x_openTargets, y_mode, upd x_openPlaces o (nI (q + 1)), x_pipeCounts, y_pipe, x_nameFiles, y_size, upd x_fileWords (16 * f + q) v, uk_fl x_safeNames 0 x_nameFiles 8, uk_fl y_safeSize 0 y_size 8, uk_fl x_safeWords 0 (upd x_fileWords (16 * f + q) v) 128, y_said))) : wY_put_130 post (nI o) v (nI f) (nI q) x_changes y_time y_last y_lastPid y_did x_greatestPid x_latestPid x_saidCount y_killed y_ops y_as y_bs x_codeLengths x_pids x_parents x_programs x_places x_statuses x_stepCounts x_copyCounts y_pages y_wake y_zombie y_blocked x_registers y_memory y_frame x_held y_kind x_openTargets y_mode x_openPlaces x_pipeCounts y_pipe x_nameFiles y_size x_fileWords x_safeNames y_safeSize x_safeWords y_said := by
  have vo : vp_in (nI o) 12 := vp_in_nI ho (by decide)
  have vf : vp_in (nI f) 8 := vp_in_nI hf (by decide)
  have eqm : nI q = nI m ↔ q = m := nI_eq (by omega) (by omega)
  have e16 : nI q = 16 ↔ q = 16 := nI_eq (b := 16) (by omega) (by decide)
  have er : nI q - nI q / 4 * 4 = nI (q % 4) := pk_rem (d := 4) (by omega) (by decide) (by decide)
  have er0 : nI (q % 4) = 0 ↔ q % 4 = 0 := nI_eq (b := 0) (by omega) (by decide)
  have k167 : q < 16 → ¬ (q = m ∧ m % 4 = 0 ∧ uk_fb (fun f => ((y_size f).toNatClampNeg + 3) / 4) 8 = 0) → wY_put_167 post (nI o) v (nI f) (nI q) x_changes y_time y_last y_lastPid y_did x_greatestPid x_latestPid x_saidCount y_killed y_ops y_as y_bs x_codeLengths x_pids x_parents x_programs x_places x_statuses x_stepCounts x_copyCounts y_pages y_wake y_zombie y_blocked x_registers y_memory y_frame x_held y_kind x_openTargets y_mode x_openPlaces x_pipeCounts y_pipe x_nameFiles y_size x_fileWords x_safeNames y_safeSize x_safeWords y_said := fun q16 hn => by
    unfold wY_put_167
    rw [uk_16m, nI_add, nI_clamp (show 16 * f + q < 2 ^ 31 by omega), nI_clamp (show o < 2 ^ 31 by omega), nI_clamp (show f < 2 ^ 31 by omega), es, nI_1, nI_1]
    refine ⟨vp_in_nI (by omega) (by decide), nm_e ⟨vo, nm_e ⟨vf, fun a => ⟨vf, vf, nm_e ?_⟩, fun a => ?_⟩⟩⟩
    · obtain ⟨k1, k2⟩ := h1 q16 hn (eqm.mp a)
      unfold wY_put_214
      exact yk_change ec hc k1 k2
    · obtain ⟨k1, k2⟩ := h2 q16 (fun z => a (eqm.mpr z))
      unfold wY_put_214
      exact yk_change ec hc k1 k2
  unfold wY_put_130
  refine ⟨fun a => h0 (Or.inl (e16.mp a)), fun a => ⟨vf, ?_⟩⟩
  have q16 : q < 16 := by have h : ¬ q = 16 := fun z => a (e16.mpr z); omega
  rw [nI_clamp (show f < 2 ^ 31 by omega), es]
  refine ⟨fun b => ⟨by decide, ?_⟩, fun b => k167 q16 (fun z => b (eqm.mpr z.1))⟩
  have hqm := eqm.mp b
  rw [er, er0]
  exact ⟨fun d => yk_freeBlocks hFi ⟨fun w => h0 (Or.inr ⟨hqm, by rw [← hqm]; exact d, w⟩), fun w => k167 q16 (fun z => w z.2.2)⟩, fun d => k167 q16 (fun z => d (by rw [hqm]; exact z.2.1))⟩
theorem uk_call8 {t b s : Nat} (A : uk_All t b x_changes x_saidCount x_time x_lastSlot x_sliceSteps x_latestPid x_greatestPid x_code x_codeLengths x_pids x_parents x_programs x_places x_states x_statuses x_stepCounts x_copyCounts x_wakeTimes x_registers x_pageCounts x_pageFrames x_held x_frameUsers x_frameWords x_openHolders x_openKinds x_openTargets x_openPlaces x_openModes x_pipeFirsts x_pipeCounts x_pipeWords x_nameFiles x_fileSizes x_fileWords x_safeNames x_safeSizes x_safeWords x_saidInts y_time y_last y_lastPid y_did y_killed y_ops y_as y_bs y_pages y_wake y_zombie y_blocked y_memory y_frame y_kind y_mode y_pipe y_size y_safeSize y_said) (hs : s < 8) (hp : x_pids s ≠ 0) (hz : y_zombie s = 0) (hb : y_blocked s = 0) (hnb : ¬ uk_Bk x_pids x_parents y_zombie x_registers x_held y_kind x_openTargets x_pipeCounts s 8) :
  ∃ u' v', (∀ post : SX → Prop, post u' → wpX_doCall post (x_changes, x_saidCount, x_time, x_lastSlot, x_sliceSteps, x_latestPid, x_greatestPid, x_code, x_codeLengths, x_pids, x_parents, x_programs, x_places, x_states, x_statuses, x_stepCounts, x_copyCounts, x_wakeTimes, x_registers, x_pageCounts, x_pageFrames, x_held, x_frameUsers, x_frameWords, x_openHolders, x_openKinds, x_openTargets, x_openPlaces, x_openModes, x_pipeFirsts, x_pipeCounts, x_pipeWords, x_nameFiles, x_fileSizes, x_fileWords, x_safeNames, x_safeSizes, x_safeWords, x_saidInts) (nI s) 8) ∧ (∀ post : SY → Prop, post v' → wY_call_127 post (nI s) 8 (x_registers (4 * s)) (x_registers (4 * s + 1)) x_changes y_time y_last y_lastPid y_did x_greatestPid x_latestPid x_saidCount 0 y_ops y_as y_bs x_codeLengths x_pids x_parents x_programs x_places x_statuses x_stepCounts x_copyCounts y_pages y_wake y_zombie y_blocked x_registers y_memory y_frame x_held y_kind x_openTargets y_mode x_openPlaces x_pipeCounts y_pipe x_nameFiles y_size x_fileWords x_safeNames y_safeSize x_safeWords y_said) ∧ uk_R y_time t (b + 1) u' v' := by
  obtain ⟨_, vs, es⟩ := uk_lp 8 hs (by decide)
  obtain ⟨c, ec, hc⟩ := uk_aC A
  have hH := uk_aHd A s hs hp hz
  have hHo := uk_aHo A
  have hOk := uk_aOk A
  have hPi := uk_aPi A
  have hFi := uk_aFi A
  have hXn : ∀ (post : SX → Prop), (∀ K : Int32 → Prop, K (-1) → wpX_openFor K (x_changes, x_saidCount, x_time, x_lastSlot, x_sliceSteps, x_latestPid, x_greatestPid, x_code, x_codeLengths, x_pids, x_parents, x_programs, x_places, x_states, x_statuses, x_stepCounts, x_copyCounts, x_wakeTimes, x_registers, x_pageCounts, x_pageFrames, x_held, x_frameUsers, x_frameWords, x_openHolders, x_openKinds, x_openTargets, x_openPlaces, x_openModes, x_pipeFirsts, x_pipeCounts, x_pipeWords, x_nameFiles, x_fileSizes, x_fileWords, x_safeNames, x_safeSizes, x_safeWords, x_saidInts) (nI s) 2) → post (x_changes, x_saidCount, x_time, x_lastSlot, x_sliceSteps, x_latestPid, x_greatestPid, x_code, x_codeLengths, x_pids, x_parents, x_programs, x_places, x_states, x_statuses, x_stepCounts, x_copyCounts, x_wakeTimes, upd x_registers (4 * s) (-1), x_pageCounts, x_pageFrames, x_held, x_frameUsers, x_frameWords, x_openHolders, x_openKinds, x_openTargets, x_openPlaces, x_openModes, x_pipeFirsts, x_pipeCounts, x_pipeWords, x_nameFiles, x_fileSizes, x_fileWords, x_safeNames, x_safeSizes, x_safeWords, x_saidInts) → wpX_doCall post (x_changes, x_saidCount, x_time, x_lastSlot, x_sliceSteps, x_latestPid, x_greatestPid, x_code, x_codeLengths, x_pids, x_parents, x_programs, x_places, x_states, x_statuses, x_stepCounts, x_copyCounts, x_wakeTimes, x_registers, x_pageCounts, x_pageFrames, x_held, x_frameUsers, x_frameWords, x_openHolders, x_openKinds, x_openTargets, x_openPlaces, x_openModes, x_pipeFirsts, x_pipeCounts, x_pipeWords, x_nameFiles, x_fileSizes, x_fileWords, x_safeNames, x_safeSizes, x_safeWords, x_saidInts) (nI s) 8 := fun post hO h => by
    unfold wpX_doCall
    refine nm_r (uk_m4 s) ⟨vp_in_nI (by omega) (by decide), nm_r (uk_rg0 x_registers hs) ⟨uk_rgv hs, nm_r (uk_rg1 x_registers hs) (br_f (by decide) (br_f (by decide) (br_f (by decide) (br_f (by decide) (br_f (by decide) (br_f (by decide) (br_f (by decide) (br_f (by decide) (br_f (by decide) (br_f (by decide) (br_t rfl ?_)))))))))))⟩⟩
    unfold wpX_hasNoReader
    refine hO _ (br_t rfl (br_t rfl ?_))
    unfold wpX_writeWord
    exact hO _ (br_t rfl (xk_tail0 hs ec hc h))
  rcases uk_desc A hs hp hz with h0 | ⟨d, o, hd, ho, e1, e2, k1, k2, k3, k4⟩
  · refine ⟨_, _, fun post h => hXn post (fun K hK => xk_of0 hs hH h0 hK) h, fun post h => ?_, uk_end0 (g := -1) A hs hp hz hb⟩
    unfold wY_call_127
    exact br_t (by decide) (br_f (by decide) (yk_ds0 hs (by decide) (by decide) h0 (yk_tail0 hs h)))
  have vo : vp_in (nI o) 12 := vp_in_nI ho (by decide)
  have eo : (nI o).toNatClampNeg = o := nI_clamp (by omega)
  have hXm : x_openModes o &&& 2 = 0 → ∀ K : Int32 → Prop, K (-1) → wpX_openFor K (x_changes, x_saidCount, x_time, x_lastSlot, x_sliceSteps, x_latestPid, x_greatestPid, x_code, x_codeLengths, x_pids, x_parents, x_programs, x_places, x_states, x_statuses, x_stepCounts, x_copyCounts, x_wakeTimes, x_registers, x_pageCounts, x_pageFrames, x_held, x_frameUsers, x_frameWords, x_openHolders, x_openKinds, x_openTargets, x_openPlaces, x_openModes, x_pipeFirsts, x_pipeCounts, x_pipeWords, x_nameFiles, x_fileSizes, x_fileWords, x_safeNames, x_safeSizes, x_safeWords, x_saidInts) (nI s) 2 := fun hm K hK => xk_of1 hs hH hd ho e1 e2 (fun w => absurd hm w) (fun _ => hK)
  have hXo : x_openModes o &&& 2 ≠ 0 → ∀ K : Int32 → Prop, K (nI o) → wpX_openFor K (x_changes, x_saidCount, x_time, x_lastSlot, x_sliceSteps, x_latestPid, x_greatestPid, x_code, x_codeLengths, x_pids, x_parents, x_programs, x_places, x_states, x_statuses, x_stepCounts, x_copyCounts, x_wakeTimes, x_registers, x_pageCounts, x_pageFrames, x_held, x_frameUsers, x_frameWords, x_openHolders, x_openKinds, x_openTargets, x_openPlaces, x_openModes, x_pipeFirsts, x_pipeCounts, x_pipeWords, x_nameFiles, x_fileSizes, x_fileWords, x_safeNames, x_safeSizes, x_safeWords, x_saidInts) (nI s) 2 := fun hm K hK => xk_of1 hs hH hd ho e1 e2 (fun _ => hK) (fun w => absurd w hm)
  have hY : ∀ post : SY → Prop, wpY_put (fun r u => match u with | (y_changes, y_time, y_last, y_lastPid, y_did, y_greatest, y_stepped, y_says, y_killed, y_ops, y_as, y_bs, y_length, y_pid, y_parent, y_program, y_pc, y_status, y_steps, y_copies, y_pages, y_wake, y_zombie, y_blocked, y_reg, y_memory, y_frame, y_descriptor, y_kind, y_of, y_mode, y_place, y_piped, y_pipe, y_names, y_size, y_words, y_safeNames, y_safeSize, y_safeWords, y_said) => wY_call_169 post (nI s) r y_changes y_time y_last y_lastPid y_did y_greatest y_stepped y_says y_killed y_ops y_as y_bs y_length y_pid y_parent y_program y_pc y_status y_steps y_copies y_pages y_wake y_zombie y_blocked y_reg y_memory y_frame y_descriptor y_kind y_of y_mode y_place y_piped y_pipe y_names y_size y_words y_safeNames y_safeSize y_safeWords y_said) (x_changes, y_time, y_last, y_lastPid, y_did, x_greatestPid, x_latestPid, x_saidCount, 0, y_ops, y_as, y_bs, x_codeLengths, x_pids, x_parents, x_programs, x_places, x_statuses, x_stepCounts, x_copyCounts, y_pages, y_wake, y_zombie, y_blocked, x_registers, y_memory, y_frame, x_held, y_kind, x_openTargets, y_mode, x_openPlaces, x_pipeCounts, y_pipe, x_nameFiles, y_size, x_fileWords, x_safeNames, y_safeSize, x_safeWords, y_said) (nI s) (nI o) (x_registers (4 * s + 1)) → wY_call_127 post (nI s) 8 (x_registers (4 * s)) (x_registers (4 * s + 1)) x_changes y_time y_last y_lastPid y_did x_greatestPid x_latestPid x_saidCount 0 y_ops y_as y_bs x_codeLengths x_pids x_parents x_programs x_places x_statuses x_stepCounts x_copyCounts y_pages y_wake y_zombie y_blocked x_registers y_memory y_frame x_held y_kind x_openTargets y_mode x_openPlaces x_pipeCounts y_pipe x_nameFiles y_size x_fileWords x_safeNames y_safeSize x_safeWords y_said := fun post h => by
    unfold wY_call_127
    refine br_t (by decide) (br_f (by decide) (yk_ds1 hs (by decide) (by decide) hd e1 e2 ?_))
    exact br_t (nI_pos' (by omega)) (br_f (by decide) (br_t rfl h))
  rcases k4 with ⟨q1, q2, q3, q4⟩ | ⟨q1, q2, q3⟩ | ⟨q1, q2, q3⟩
  ·
    obtain ⟨f, hf, eT⟩ := vp_in_of q4 (by decide)
    obtain ⟨r1, r2, m, hm, eS⟩ := uk_nfre A ho hf q1 eT
    obtain ⟨p, hp16, eP⟩ := vp_in_of (hOk o ho).1 (by decide)
    by_cases hmo : x_openModes o &&& 2 = 0
    · refine ⟨_, _, fun post h => hXn post (hXm hmo) h, fun post h => hY post ?_, uk_end0 (g := -1) A hs hp hz hb⟩
      unfold wpY_put
      refine ⟨vo, ?_⟩
      rw [eo]
      exact nm_e ⟨vo, br_f (by rw [q1]; decide) ⟨vo, br_t q1 ⟨vo, br_t (by rw [← q2]; exact hmo) (yk_tail0 hs h)⟩⟩⟩
    · have hkn : ¬ x_openKinds o = 3 := by rw [k2, q1]; decide
      have hmo2 : ¬ y_mode o &&& 2 = 0 := by rw [← q2]; exact hmo
      have eSx : x_fileSizes f = nI m := r2.trans eS
      obtain ⟨q, hqm, hX1, hY1⟩ : ∃ q, q ≤ m ∧ (∀ post : SX → Prop, wX_writeWord_71 (fun r u => match u with | (x_changes, x_saidCount, x_time, x_lastSlot, x_sliceSteps, x_latestPid, x_greatestPid, x_code, x_codeLengths, x_pids, x_parents, x_programs, x_places, x_states, x_statuses, x_stepCounts, x_copyCounts, x_wakeTimes, x_registers, x_pageCounts, x_pageFrames, x_held, x_frameUsers, x_frameWords, x_openHolders, x_openKinds, x_openTargets, x_openPlaces, x_openModes, x_pipeFirsts, x_pipeCounts, x_pipeWords, x_nameFiles, x_fileSizes, x_fileWords, x_safeNames, x_safeSizes, x_safeWords, x_saidInts) => wX_doCall_344 post (nI (4 * s)) r x_changes x_saidCount x_time x_lastSlot x_sliceSteps x_latestPid x_greatestPid x_code x_codeLengths x_pids x_parents x_programs x_places x_states x_statuses x_stepCounts x_copyCounts x_wakeTimes x_registers x_pageCounts x_pageFrames x_held x_frameUsers x_frameWords x_openHolders x_openKinds x_openTargets x_openPlaces x_openModes x_pipeFirsts x_pipeCounts x_pipeWords x_nameFiles x_fileSizes x_fileWords x_safeNames x_safeSizes x_safeWords x_saidInts) (x_registers (4 * s + 1)) (nI o) (nI f) (nI m) (nI q) x_changes x_saidCount x_time x_lastSlot x_sliceSteps x_latestPid x_greatestPid x_code x_codeLengths x_pids x_parents x_programs x_places x_states x_statuses x_stepCounts x_copyCounts x_wakeTimes x_registers x_pageCounts x_pageFrames x_held x_frameUsers x_frameWords x_openHolders x_openKinds x_openTargets x_openPlaces x_openModes x_pipeFirsts x_pipeCounts x_pipeWords x_nameFiles x_fileSizes x_fileWords x_safeNames x_safeSizes x_safeWords x_saidInts → wpX_doCall post (x_changes, x_saidCount, x_time, x_lastSlot, x_sliceSteps, x_latestPid, x_greatestPid, x_code, x_codeLengths, x_pids, x_parents, x_programs, x_places, x_states, x_statuses, x_stepCounts, x_copyCounts, x_wakeTimes, x_registers, x_pageCounts, x_pageFrames, x_held, x_frameUsers, x_frameWords, x_openHolders, x_openKinds, x_openTargets, x_openPlaces, x_openModes, x_pipeFirsts, x_pipeCounts, x_pipeWords, x_nameFiles, x_fileSizes, x_fileWords, x_safeNames, x_safeSizes, x_safeWords, x_saidInts) (nI s) 8) ∧ (∀ post : SY → Prop, wY_put_130 (fun r u => match u with | (y_changes, y_time, y_last, y_lastPid, y_did, y_greatest, y_stepped, y_says, y_killed, y_ops, y_as, y_bs, y_length, y_pid, y_parent, y_program, y_pc, y_status, y_steps, y_copies, y_pages, y_wake, y_zombie, y_blocked, y_reg, y_memory, y_frame, y_descriptor, y_kind, y_of, y_mode, y_place, y_piped, y_pipe, y_names, y_size, y_words, y_safeNames, y_safeSize, y_safeWords, y_said) => wY_call_169 post (nI s) r y_changes y_time y_last y_lastPid y_did y_greatest y_stepped y_says y_killed y_ops y_as y_bs y_length y_pid y_parent y_program y_pc y_status y_steps y_copies y_pages y_wake y_zombie y_blocked y_reg y_memory y_frame y_descriptor y_kind y_of y_mode y_place y_piped y_pipe y_names y_size y_words y_safeNames y_safeSize y_safeWords y_said) (nI o) (x_registers (4 * s + 1)) (nI f) (nI q) x_changes y_time y_last y_lastPid y_did x_greatestPid x_latestPid x_saidCount 0 y_ops y_as y_bs x_codeLengths x_pids x_parents x_programs x_places x_statuses x_stepCounts x_copyCounts y_pages y_wake y_zombie y_blocked x_registers y_memory y_frame x_held y_kind x_openTargets y_mode x_openPlaces x_pipeCounts y_pipe x_nameFiles y_size x_fileWords x_safeNames y_safeSize x_safeWords y_said → wY_call_127 post (nI s) 8 (x_registers (4 * s)) (x_registers (4 * s + 1)) x_changes y_time y_last y_lastPid y_did x_greatestPid x_latestPid x_saidCount 0 y_ops y_as y_bs x_codeLengths x_pids x_parents x_programs x_places x_statuses x_stepCounts x_copyCounts y_pages y_wake y_zombie y_blocked x_registers y_memory y_frame x_held y_kind x_openTargets y_mode x_openPlaces x_pipeCounts y_pipe x_nameFiles y_size x_fileWords x_safeNames y_safeSize x_safeWords y_said) := by
        have hXw : ∀ post : SX → Prop, ((nI m ≤ nI p → wX_writeWord_71 (fun r u => match u with | (x_changes, x_saidCount, x_time, x_lastSlot, x_sliceSteps, x_latestPid, x_greatestPid, x_code, x_codeLengths, x_pids, x_parents, x_programs, x_places, x_states, x_statuses, x_stepCounts, x_copyCounts, x_wakeTimes, x_registers, x_pageCounts, x_pageFrames, x_held, x_frameUsers, x_frameWords, x_openHolders, x_openKinds, x_openTargets, x_openPlaces, x_openModes, x_pipeFirsts, x_pipeCounts, x_pipeWords, x_nameFiles, x_fileSizes, x_fileWords, x_safeNames, x_safeSizes, x_safeWords, x_saidInts) => wX_doCall_344 post (nI (4 * s)) r x_changes x_saidCount x_time x_lastSlot x_sliceSteps x_latestPid x_greatestPid x_code x_codeLengths x_pids x_parents x_programs x_places x_states x_statuses x_stepCounts x_copyCounts x_wakeTimes x_registers x_pageCounts x_pageFrames x_held x_frameUsers x_frameWords x_openHolders x_openKinds x_openTargets x_openPlaces x_openModes x_pipeFirsts x_pipeCounts x_pipeWords x_nameFiles x_fileSizes x_fileWords x_safeNames x_safeSizes x_safeWords x_saidInts) (x_registers (4 * s + 1)) (nI o) (nI f) (nI m) (nI m) x_changes x_saidCount x_time x_lastSlot x_sliceSteps x_latestPid x_greatestPid x_code x_codeLengths x_pids x_parents x_programs x_places x_states x_statuses x_stepCounts x_copyCounts x_wakeTimes x_registers x_pageCounts x_pageFrames x_held x_frameUsers x_frameWords x_openHolders x_openKinds x_openTargets x_openPlaces x_openModes x_pipeFirsts x_pipeCounts x_pipeWords x_nameFiles x_fileSizes x_fileWords x_safeNames x_safeSizes x_safeWords x_saidInts) ∧ (¬ nI m ≤ nI p → wX_writeWord_71 (fun r u => match u with | (x_changes, x_saidCount, x_time, x_lastSlot, x_sliceSteps, x_latestPid, x_greatestPid, x_code, x_codeLengths, x_pids, x_parents, x_programs, x_places, x_states, x_statuses, x_stepCounts, x_copyCounts, x_wakeTimes, x_registers, x_pageCounts, x_pageFrames, x_held, x_frameUsers, x_frameWords, x_openHolders, x_openKinds, x_openTargets, x_openPlaces, x_openModes, x_pipeFirsts, x_pipeCounts, x_pipeWords, x_nameFiles, x_fileSizes, x_fileWords, x_safeNames, x_safeSizes, x_safeWords, x_saidInts) => wX_doCall_344 post (nI (4 * s)) r x_changes x_saidCount x_time x_lastSlot x_sliceSteps x_latestPid x_greatestPid x_code x_codeLengths x_pids x_parents x_programs x_places x_states x_statuses x_stepCounts x_copyCounts x_wakeTimes x_registers x_pageCounts x_pageFrames x_held x_frameUsers x_frameWords x_openHolders x_openKinds x_openTargets x_openPlaces x_openModes x_pipeFirsts x_pipeCounts x_pipeWords x_nameFiles x_fileSizes x_fileWords x_safeNames x_safeSizes x_safeWords x_saidInts) (x_registers (4 * s + 1)) (nI o) (nI f) (nI m) (nI p) x_changes x_saidCount x_time x_lastSlot x_sliceSteps x_latestPid x_greatestPid x_code x_codeLengths x_pids x_parents x_programs x_places x_states x_statuses x_stepCounts x_copyCounts x_wakeTimes x_registers x_pageCounts x_pageFrames x_held x_frameUsers x_frameWords x_openHolders x_openKinds x_openTargets x_openPlaces x_openModes x_pipeFirsts x_pipeCounts x_pipeWords x_nameFiles x_fileSizes x_fileWords x_safeNames x_safeSizes x_safeWords x_saidInts)) → wpX_doCall post (x_changes, x_saidCount, x_time, x_lastSlot, x_sliceSteps, x_latestPid, x_greatestPid, x_code, x_codeLengths, x_pids, x_parents, x_programs, x_places, x_states, x_statuses, x_stepCounts, x_copyCounts, x_wakeTimes, x_registers, x_pageCounts, x_pageFrames, x_held, x_frameUsers, x_frameWords, x_openHolders, x_openKinds, x_openTargets, x_openPlaces, x_openModes, x_pipeFirsts, x_pipeCounts, x_pipeWords, x_nameFiles, x_fileSizes, x_fileWords, x_safeNames, x_safeSizes, x_safeWords, x_saidInts) (nI s) 8 := fun post h => by
          unfold wpX_doCall
          refine nm_r (uk_m4 s) ⟨vp_in_nI (by omega) (by decide), nm_r (uk_rg0 x_registers hs) ⟨uk_rgv hs, nm_r (uk_rg1 x_registers hs) (br_f (by decide) (br_f (by decide) (br_f (by decide) (br_f (by decide) (br_f (by decide) (br_f (by decide) (br_f (by decide) (br_f (by decide) (br_f (by decide) (br_f (by decide) (br_t rfl ?_)))))))))))⟩⟩
          unfold wpX_hasNoReader
          refine hXo hmo _ (br_f (uk_ne1 (by omega)) ⟨vo, ?_⟩)
          rw [eo]
          refine br_f hkn (br_t rfl ?_)
          unfold wpX_writeWord
          refine hXo hmo _ (br_f (uk_ne1 (by omega)) ⟨vo, ?_⟩)
          rw [eo, eT]
          refine nm_e ⟨vo, br_f hkn ⟨vp_in_nI hf (by decide), ?_⟩⟩
          rw [nI_clamp (show f < 2 ^ 31 by omega), eSx, eP]
          exact nm_e ⟨vo, h.1, fun a => ⟨vo, h.2 a⟩⟩
        have hYw : ∀ post : SY → Prop, ((nI m ≤ nI p → wY_put_130 (fun r u => match u with | (y_changes, y_time, y_last, y_lastPid, y_did, y_greatest, y_stepped, y_says, y_killed, y_ops, y_as, y_bs, y_length, y_pid, y_parent, y_program, y_pc, y_status, y_steps, y_copies, y_pages, y_wake, y_zombie, y_blocked, y_reg, y_memory, y_frame, y_descriptor, y_kind, y_of, y_mode, y_place, y_piped, y_pipe, y_names, y_size, y_words, y_safeNames, y_safeSize, y_safeWords, y_said) => wY_call_169 post (nI s) r y_changes y_time y_last y_lastPid y_did y_greatest y_stepped y_says y_killed y_ops y_as y_bs y_length y_pid y_parent y_program y_pc y_status y_steps y_copies y_pages y_wake y_zombie y_blocked y_reg y_memory y_frame y_descriptor y_kind y_of y_mode y_place y_piped y_pipe y_names y_size y_words y_safeNames y_safeSize y_safeWords y_said) (nI o) (x_registers (4 * s + 1)) (nI f) (nI m) x_changes y_time y_last y_lastPid y_did x_greatestPid x_latestPid x_saidCount 0 y_ops y_as y_bs x_codeLengths x_pids x_parents x_programs x_places x_statuses x_stepCounts x_copyCounts y_pages y_wake y_zombie y_blocked x_registers y_memory y_frame x_held y_kind x_openTargets y_mode x_openPlaces x_pipeCounts y_pipe x_nameFiles y_size x_fileWords x_safeNames y_safeSize x_safeWords y_said) ∧ (¬ nI m ≤ nI p → wY_put_130 (fun r u => match u with | (y_changes, y_time, y_last, y_lastPid, y_did, y_greatest, y_stepped, y_says, y_killed, y_ops, y_as, y_bs, y_length, y_pid, y_parent, y_program, y_pc, y_status, y_steps, y_copies, y_pages, y_wake, y_zombie, y_blocked, y_reg, y_memory, y_frame, y_descriptor, y_kind, y_of, y_mode, y_place, y_piped, y_pipe, y_names, y_size, y_words, y_safeNames, y_safeSize, y_safeWords, y_said) => wY_call_169 post (nI s) r y_changes y_time y_last y_lastPid y_did y_greatest y_stepped y_says y_killed y_ops y_as y_bs y_length y_pid y_parent y_program y_pc y_status y_steps y_copies y_pages y_wake y_zombie y_blocked y_reg y_memory y_frame y_descriptor y_kind y_of y_mode y_place y_piped y_pipe y_names y_size y_words y_safeNames y_safeSize y_safeWords y_said) (nI o) (x_registers (4 * s + 1)) (nI f) (nI p) x_changes y_time y_last y_lastPid y_did x_greatestPid x_latestPid x_saidCount 0 y_ops y_as y_bs x_codeLengths x_pids x_parents x_programs x_places x_statuses x_stepCounts x_copyCounts y_pages y_wake y_zombie y_blocked x_registers y_memory y_frame x_held y_kind x_openTargets y_mode x_openPlaces x_pipeCounts y_pipe x_nameFiles y_size x_fileWords x_safeNames y_safeSize x_safeWords y_said)) → wY_call_127 post (nI s) 8 (x_registers (4 * s)) (x_registers (4 * s + 1)) x_changes y_time y_last y_lastPid y_did x_greatestPid x_latestPid x_saidCount 0 y_ops y_as y_bs x_codeLengths x_pids x_parents x_programs x_places x_statuses x_stepCounts x_copyCounts y_pages y_wake y_zombie y_blocked x_registers y_memory y_frame x_held y_kind x_openTargets y_mode x_openPlaces x_pipeCounts y_pipe x_nameFiles y_size x_fileWords x_safeNames y_safeSize x_safeWords y_said := fun post h => by
          refine hY post ?_
          unfold wpY_put
          refine ⟨vo, ?_⟩
          rw [eo, eT]
          refine nm_e ⟨vo, br_f (by rw [q1]; decide) ⟨vo, br_t q1 ⟨vo, br_f hmo2 ?_⟩⟩⟩
          unfold wY_put_41
          refine ⟨vo, ?_⟩
          rw [eo, nI_clamp (show f < 2 ^ 31 by omega), eS, eP]
          exact br_f (by rw [q1]; decide) ⟨vo, vp_in_nI hf (by decide), fun a => ⟨vp_in_nI hf (by decide), h.1 a⟩, fun a => ⟨vo, h.2 a⟩⟩
        by_cases hle : m ≤ p
        · exact ⟨m, Nat.le_refl m, fun post h => hXw post (br_t (nI_le hle (by omega)) h), fun post h => hYw post (br_t (nI_le hle (by omega)) h)⟩
        · exact ⟨p, by omega, fun post h => hXw post (br_f (nI_ge (by omega) (by omega)) h), fun post h => hYw post (br_f (nI_ge (by omega) (by omega)) h)⟩
      by_cases h16 : q = 16 ∨ (q = m ∧ m % 4 = 0 ∧ uk_fb (fun f => ((y_size f).toNatClampNeg + 3) / 4) 8 = 0)
      · refine ⟨_, _, fun post h => hX1 post (xk_fw hf ho hm hqm ec eSx hOk hHo hFi (fun _ => xk_tail0 hs ec hc h) (fun a b _ => ?_) (fun a b => ?_)), fun post h => hY1 post (yk_fw hf ho hm hqm ec hc eS hFi (fun _ => yk_tail0 hs h) (fun a b _ => ?_) (fun a b => ?_)), uk_end0 (g := 0) A hs hp hz hb⟩
        · rcases h16 with z | z
          · omega
          · exact absurd z b
        · rcases h16 with z | z
          · omega
          · exact absurd z.1 b
        · rcases h16 with z | z
          · omega
          · exact absurd z b
        · rcases h16 with z | z
          · omega
          · exact absurd z.1 b
      · have q16 : q < 16 := by have h : ¬ q = 16 := fun z => h16 (Or.inl z); omega
        have vq : vp_in (nI (q + 1)) 17 := vp_in_nI (by omega) (by decide)
        by_cases hqe : q = m
        · have A1 : uk_All t b x_changes x_saidCount x_time x_lastSlot x_sliceSteps x_latestPid x_greatestPid x_code x_codeLengths x_pids x_parents x_programs x_places x_states x_statuses x_stepCounts x_copyCounts x_wakeTimes x_registers x_pageCounts x_pageFrames x_held x_frameUsers x_frameWords x_openHolders x_openKinds x_openTargets (upd x_openPlaces o (nI (q + 1))) x_openModes x_pipeFirsts x_pipeCounts x_pipeWords x_nameFiles (upd x_fileSizes f (nI (m + 1))) (upd x_fileWords (16 * f + q) (x_registers (4 * s + 1))) x_safeNames x_safeSizes x_safeWords x_saidInts y_time y_last y_lastPid y_did y_killed y_ops y_as y_bs y_pages y_wake y_zombie y_blocked y_memory y_frame y_kind y_mode y_pipe (upd y_size f (nI (m + 1))) y_safeSize y_said := ⟨uk_aG A, uk_aN A, uk_aC A, uk_aeT A, uk_aPr A, uk_aPs A, uk_aMe A, uk_aFu A, uk_aHd A, uk_aHo A, uk_Ok_op o hOk vq, uk_aPi A, uk_Fi_sz hFi (vp_in_nI (by omega) (by decide)) r1, uk_aSa A, uk_aSc A, uk_aWk A⟩
          by_cases hc1 : c + 1 = 30
          · exact ⟨_, _, fun post h => hX1 post (xk_fw hf ho hm hqm ec eSx hOk hHo hFi (fun z => absurd z h16) (fun _ _ _ => xk_tail1 hs (congrArg nI hc1) h) (fun _ z => absurd hqe z)), fun post h => hY1 post (yk_fw hf ho hm hqm ec hc eS hFi (fun z => absurd z h16) (fun _ _ _ => ⟨fun z => absurd hc1 z, fun _ => yk_tail0 hs h⟩) (fun _ z => absurd hqe z)), uk_endc2 (g := 1) A1 hs hp hz hb⟩
          · exact ⟨_, _, fun post h => hX1 post (xk_fw hf ho hm hqm ec eSx hOk hHo hFi (fun z => absurd z h16) (fun _ _ _ => xk_tail0 hs rfl (by omega) h) (fun _ z => absurd hqe z)), fun post h => hY1 post (yk_fw hf ho hm hqm ec hc eS hFi (fun z => absurd z h16) (fun _ _ _ => ⟨fun _ => yk_tail0 hs h, fun z => absurd z hc1⟩) (fun _ z => absurd hqe z)), uk_endc1 (g := 1) (c := c) A1 hs hp hz hb (by omega)⟩
        · have A1 : uk_All t b x_changes x_saidCount x_time x_lastSlot x_sliceSteps x_latestPid x_greatestPid x_code x_codeLengths x_pids x_parents x_programs x_places x_states x_statuses x_stepCounts x_copyCounts x_wakeTimes x_registers x_pageCounts x_pageFrames x_held x_frameUsers x_frameWords x_openHolders x_openKinds x_openTargets (upd x_openPlaces o (nI (q + 1))) x_openModes x_pipeFirsts x_pipeCounts x_pipeWords x_nameFiles x_fileSizes (upd x_fileWords (16 * f + q) (x_registers (4 * s + 1))) x_safeNames x_safeSizes x_safeWords x_saidInts y_time y_last y_lastPid y_did y_killed y_ops y_as y_bs y_pages y_wake y_zombie y_blocked y_memory y_frame y_kind y_mode y_pipe y_size y_safeSize y_said := ⟨uk_aG A, uk_aN A, uk_aC A, uk_aeT A, uk_aPr A, uk_aPs A, uk_aMe A, uk_aFu A, uk_aHd A, uk_aHo A, uk_Ok_op o hOk vq, uk_aPi A, uk_aFi A, uk_aSa A, uk_aSc A, uk_aWk A⟩
          by_cases hc1 : c + 1 = 30
          · exact ⟨_, _, fun post h => hX1 post (xk_fw hf ho hm hqm ec eSx hOk hHo hFi (fun z => absurd z h16) (fun _ _ z => absurd z hqe) (fun _ _ => xk_tail1 hs (congrArg nI hc1) h)), fun post h => hY1 post (yk_fw hf ho hm hqm ec hc eS hFi (fun z => absurd z h16) (fun _ _ z => absurd z hqe) (fun _ _ => ⟨fun z => absurd hc1 z, fun _ => yk_tail0 hs h⟩)), uk_endc2 (g := 1) A1 hs hp hz hb⟩
          · exact ⟨_, _, fun post h => hX1 post (xk_fw hf ho hm hqm ec eSx hOk hHo hFi (fun z => absurd z h16) (fun _ _ z => absurd z hqe) (fun _ _ => xk_tail0 hs rfl (by omega) h)), fun post h => hY1 post (yk_fw hf ho hm hqm ec hc eS hFi (fun z => absurd z h16) (fun _ _ z => absurd z hqe) (fun _ _ => ⟨fun _ => yk_tail0 hs h, fun z => absurd z hc1⟩)), uk_endc1 (g := 1) (c := c) A1 hs hp hz hb (by omega)⟩
  ·
    have hmo : x_openModes o &&& 2 = 0 := by rw [q2]; decide
    refine ⟨_, _, fun post h => hXn post (hXm hmo) h, fun post h => hY post ?_, uk_end0 (g := -1) A hs hp hz hb⟩
    unfold wpY_put
    refine ⟨vo, ?_⟩
    rw [eo]
    exact nm_e ⟨vo, br_t q1 (yk_tail0 hs h)⟩
  ·
    have hmo : ¬ x_openModes o &&& 2 = 0 := by rw [q2]; decide
    have hk3 : x_openKinds o = 3 := k2.trans q1
    obtain ⟨pp, hpp, eT⟩ := vp_in_of q3 (by decide)
    obtain ⟨cc, ff, c1, c2, c3, c4, c5⟩ := hPi pp hpp
    have vp4 : vp_in (nI pp) 4 := vp_in_nI hpp (by decide)
    have hY3 : ∀ post : SY → Prop, wpY_hasEnd (fun r => ((r = 0 → wpY_kill (fun u => match u with | (y_changes, y_time, y_last, y_lastPid, y_did, y_greatest, y_stepped, y_says, y_killed, y_ops, y_as, y_bs, y_length, y_pid, y_parent, y_program, y_pc, y_status, y_steps, y_copies, y_pages, y_wake, y_zombie, y_blocked, y_reg, y_memory, y_frame, y_descriptor, y_kind, y_of, y_mode, y_place, y_piped, y_pipe, y_names, y_size, y_words, y_safeNames, y_safeSize, y_safeWords, y_said) => wY_call_169 post (nI s) 1 y_changes y_time y_last y_lastPid y_did y_greatest y_stepped y_says y_killed y_ops y_as y_bs y_length y_pid y_parent y_program y_pc y_status y_steps y_copies y_pages y_wake y_zombie y_blocked y_reg y_memory y_frame y_descriptor y_kind y_of y_mode y_place y_piped y_pipe y_names y_size y_words y_safeNames y_safeSize y_safeWords y_said) (x_changes, y_time, y_last, y_lastPid, y_did, x_greatestPid, x_latestPid, x_saidCount, 0, y_ops, y_as, y_bs, x_codeLengths, x_pids, x_parents, x_programs, x_places, x_statuses, x_stepCounts, x_copyCounts, y_pages, y_wake, y_zombie, y_blocked, x_registers, y_memory, y_frame, x_held, y_kind, x_openTargets, y_mode, x_openPlaces, x_pipeCounts, y_pipe, x_nameFiles, y_size, x_fileWords, x_safeNames, y_safeSize, x_safeWords, y_said) (nI s)) ∧ (¬ r = 0 → (vp_in (nI pp) 4 ∧ (vp_in (nI pp) 4 ∧ ∀ C', C' = upd x_pipeCounts pp (nI cc + 1) → (vp_in ((4 * nI pp) + nI cc) 16 ∧ ∀ pi', pi' = upd y_pipe ((4 * nI pp) + nI cc).toNatClampNeg (x_registers (4 * s + 1)) → wY_call_169 post (nI s) 1 x_changes y_time y_last y_lastPid y_did x_greatestPid x_latestPid x_saidCount 0 y_ops y_as y_bs x_codeLengths x_pids x_parents x_programs x_places x_statuses x_stepCounts x_copyCounts y_pages y_wake y_zombie y_blocked x_registers y_memory y_frame x_held y_kind x_openTargets y_mode x_openPlaces C' pi' x_nameFiles y_size x_fileWords x_safeNames y_safeSize x_safeWords y_said)))))) (x_changes, y_time, y_last, y_lastPid, y_did, x_greatestPid, x_latestPid, x_saidCount, 0, y_ops, y_as, y_bs, x_codeLengths, x_pids, x_parents, x_programs, x_places, x_statuses, x_stepCounts, x_copyCounts, y_pages, y_wake, y_zombie, y_blocked, x_registers, y_memory, y_frame, x_held, y_kind, x_openTargets, y_mode, x_openPlaces, x_pipeCounts, y_pipe, x_nameFiles, y_size, x_fileWords, x_safeNames, y_safeSize, x_safeWords, y_said) (nI pp) 2 → wY_call_127 post (nI s) 8 (x_registers (4 * s)) (x_registers (4 * s + 1)) x_changes y_time y_last y_lastPid y_did x_greatestPid x_latestPid x_saidCount 0 y_ops y_as y_bs x_codeLengths x_pids x_parents x_programs x_places x_statuses x_stepCounts x_copyCounts y_pages y_wake y_zombie y_blocked x_registers y_memory y_frame x_held y_kind x_openTargets y_mode x_openPlaces x_pipeCounts y_pipe x_nameFiles y_size x_fileWords x_safeNames y_safeSize x_safeWords y_said := fun post h => by
      refine hY post ?_
      unfold wpY_put
      refine ⟨vo, ?_⟩
      rw [eo, eT]
      refine nm_e ⟨vo, br_f (by rw [q1]; decide) ⟨vo, br_f (by rw [q1]; decide) ?_⟩⟩
      unfold wY_put_41
      refine ⟨vo, ?_⟩
      rw [eo, nI_clamp (show pp < 2 ^ 31 by omega), c3]
      exact br_t q1 h
    have hX3 : ∀ (post : SX → Prop) (r0 : Int32), r0 = x_registers (4 * s) → ((nI (uk_cn (fun o => ¬ x_openHolders o ≤ 0 ∧ x_openKinds o = 2 ∧ x_openTargets o = nI pp) 12) = 0 → wpX_endProcess (fun u => match u with | (x_changes, x_saidCount, x_time, x_lastSlot, x_sliceSteps, x_latestPid, x_greatestPid, x_code, x_codeLengths, x_pids, x_parents, x_programs, x_places, x_states, x_statuses, x_stepCounts, x_copyCounts, x_wakeTimes, x_registers, x_pageCounts, x_pageFrames, x_held, x_frameUsers, x_frameWords, x_openHolders, x_openKinds, x_openTargets, x_openPlaces, x_openModes, x_pipeFirsts, x_pipeCounts, x_pipeWords, x_nameFiles, x_fileSizes, x_fileWords, x_safeNames, x_safeSizes, x_safeWords, x_saidInts) => wX_doCall_344 post (nI (4 * s)) r0 x_changes x_saidCount x_time x_lastSlot x_sliceSteps x_latestPid x_greatestPid x_code x_codeLengths x_pids x_parents x_programs x_places x_states x_statuses x_stepCounts x_copyCounts x_wakeTimes x_registers x_pageCounts x_pageFrames x_held x_frameUsers x_frameWords x_openHolders x_openKinds x_openTargets x_openPlaces x_openModes x_pipeFirsts x_pipeCounts x_pipeWords x_nameFiles x_fileSizes x_fileWords x_safeNames x_safeSizes x_safeWords x_saidInts) (x_changes, x_saidCount, x_time, x_lastSlot, x_sliceSteps, x_latestPid, x_greatestPid, x_code, x_codeLengths, x_pids, x_parents, x_programs, x_places, x_states, x_statuses, x_stepCounts, x_copyCounts, x_wakeTimes, x_registers, x_pageCounts, x_pageFrames, x_held, x_frameUsers, x_frameWords, x_openHolders, x_openKinds, x_openTargets, x_openPlaces, x_openModes, x_pipeFirsts, x_pipeCounts, x_pipeWords, x_nameFiles, x_fileSizes, x_fileWords, x_safeNames, x_safeSizes, x_safeWords, x_saidInts) (nI s) (-1)) ∧ (¬ nI (uk_cn (fun o => ¬ x_openHolders o ≤ 0 ∧ x_openKinds o = 2 ∧ x_openTargets o = nI pp) 12) = 0 → wpX_writePipe (fun r u => match u with | (x_changes, x_saidCount, x_time, x_lastSlot, x_sliceSteps, x_latestPid, x_greatestPid, x_code, x_codeLengths, x_pids, x_parents, x_programs, x_places, x_states, x_statuses, x_stepCounts, x_copyCounts, x_wakeTimes, x_registers, x_pageCounts, x_pageFrames, x_held, x_frameUsers, x_frameWords, x_openHolders, x_openKinds, x_openTargets, x_openPlaces, x_openModes, x_pipeFirsts, x_pipeCounts, x_pipeWords, x_nameFiles, x_fileSizes, x_fileWords, x_safeNames, x_safeSizes, x_safeWords, x_saidInts) => wX_doCall_344 post (nI (4 * s)) r x_changes x_saidCount x_time x_lastSlot x_sliceSteps x_latestPid x_greatestPid x_code x_codeLengths x_pids x_parents x_programs x_places x_states x_statuses x_stepCounts x_copyCounts x_wakeTimes x_registers x_pageCounts x_pageFrames x_held x_frameUsers x_frameWords x_openHolders x_openKinds x_openTargets x_openPlaces x_openModes x_pipeFirsts x_pipeCounts x_pipeWords x_nameFiles x_fileSizes x_fileWords x_safeNames x_safeSizes x_safeWords x_saidInts) (x_changes, x_saidCount, x_time, x_lastSlot, x_sliceSteps, x_latestPid, x_greatestPid, x_code, x_codeLengths, x_pids, x_parents, x_programs, x_places, x_states, x_statuses, x_stepCounts, x_copyCounts, x_wakeTimes, x_registers, x_pageCounts, x_pageFrames, x_held, x_frameUsers, x_frameWords, x_openHolders, x_openKinds, x_openTargets, x_openPlaces, x_openModes, x_pipeFirsts, x_pipeCounts, x_pipeWords, x_nameFiles, x_fileSizes, x_fileWords, x_safeNames, x_safeSizes, x_safeWords, x_saidInts) (nI pp) (x_registers (4 * s + 1)))) → wpX_doCall post (x_changes, x_saidCount, x_time, x_lastSlot, x_sliceSteps, x_latestPid, x_greatestPid, x_code, x_codeLengths, x_pids, x_parents, x_programs, x_places, x_states, x_statuses, x_stepCounts, x_copyCounts, x_wakeTimes, x_registers, x_pageCounts, x_pageFrames, x_held, x_frameUsers, x_frameWords, x_openHolders, x_openKinds, x_openTargets, x_openPlaces, x_openModes, x_pipeFirsts, x_pipeCounts, x_pipeWords, x_nameFiles, x_fileSizes, x_fileWords, x_safeNames, x_safeSizes, x_safeWords, x_saidInts) (nI s) 8 := fun post r0 er0 h => by
      subst er0
      unfold wpX_doCall
      refine nm_r (uk_m4 s) ⟨vp_in_nI (by omega) (by decide), nm_r (uk_rg0 x_registers hs) ⟨uk_rgv hs, nm_r (uk_rg1 x_registers hs) (br_f (by decide) (br_f (by decide) (br_f (by decide) (br_f (by decide) (br_f (by decide) (br_f (by decide) (br_f (by decide) (br_f (by decide) (br_f (by decide) (br_f (by decide) (br_t rfl ?_)))))))))))⟩⟩
      unfold wpX_hasNoReader
      refine hXo hmo _ (br_f (uk_ne1 (by omega)) ⟨vo, ?_⟩)
      rw [eo, eT]
      refine br_t hk3 ⟨vo, xk_countOpens ⟨fun a => br_f (by decide) (h.1 a), fun a => br_t rfl ?_⟩⟩
      unfold wpX_writeWord
      refine hXo hmo _ (br_f (uk_ne1 (by omega)) ⟨vo, ?_⟩)
      rw [eo, eT]
      exact nm_e ⟨vo, br_t hk3 (h.2 a)⟩
    have hcl := uk_cnle (fun o => ¬ x_openHolders o ≤ 0 ∧ x_openKinds o = 2 ∧ x_openTargets o = nI pp) 12
    have hends : nI (uk_cn (fun o => ¬ x_openHolders o ≤ 0 ∧ x_openKinds o = 2 ∧ x_openTargets o = nI pp) 12) = 0 ↔ ¬ ∃ e, e < 12 ∧ y_kind e = 2 ∧ x_openTargets e = nI pp := by
      rw [← uk_ends hHo hOk (k := 2) (p := nI pp) (by decide), uk_le0 (nI_pos (by omega))]
    by_cases hr : ∃ e, e < 12 ∧ y_kind e = 2 ∧ x_openTargets e = nI pp
    · have hcc : cc < 4 := by
        by_cases z : cc = 4
        · refine absurd ?_ hnb
          refine Or.inr (Or.inr ⟨rfl, d, o, hd, ho, e1, e2, q1, ?_, ?_⟩)
          · rw [eT, nI_clamp (show pp < 2 ^ 31 by omega), c3, z]; rfl
          · rw [eT]; exact hr
        · omega
      have w2 := uk_pi_wr (x_registers (4 * s + 1)) hPi hpp c3 c4 hcc c2
      have A1 : uk_All t b x_changes x_saidCount x_time x_lastSlot x_sliceSteps x_latestPid x_greatestPid x_code x_codeLengths x_pids x_parents x_programs x_places x_states x_statuses x_stepCounts x_copyCounts x_wakeTimes x_registers x_pageCounts x_pageFrames x_held x_frameUsers x_frameWords x_openHolders x_openKinds x_openTargets x_openPlaces x_openModes x_pipeFirsts (upd x_pipeCounts pp (nI (cc + 1))) (upd x_pipeWords (4 * pp + (ff + cc) % 4) (x_registers (4 * s + 1))) x_nameFiles x_fileSizes x_fileWords x_safeNames x_safeSizes x_safeWords x_saidInts y_time y_last y_lastPid y_did y_killed y_ops y_as y_bs y_pages y_wake y_zombie y_blocked y_memory y_frame y_kind y_mode (upd y_pipe (4 * pp + cc) (x_registers (4 * s + 1))) y_size y_safeSize y_said := ⟨uk_aG A, uk_aN A, uk_aC A, uk_aeT A, uk_aPr A, uk_aPs A, uk_aMe A, uk_aFu A, uk_aHd A, uk_aHo A, uk_aOk A, w2, uk_aFi A, uk_aSa A, uk_aSc A, uk_aWk A⟩
      refine ⟨_, _, fun post h => hX3 post _ rfl (br_f (fun z => hends.mp z hr) ?_), fun post h => hY3 post (yk_hasEnd (fun _ => br_f (by decide) ?_) (fun z => ?_)), uk_end0 (g := 1) A1 hs hp hz hb⟩
      · unfold wpX_writePipe
        refine ⟨vp4, vp4, by decide, ?_⟩
        rw [nI_clamp (show pp < 2 ^ 31 by omega), c3, c4, nI_add, nI_1]
        have er : nI (ff + cc) - nI (ff + cc) / 4 * 4 = nI ((ff + cc) % 4) := pk_rem (d := 4) (by omega) (by decide) (by decide)
        refine nm_r er ?_
        rw [uk_m4, nI_add, nI_clamp (show 4 * pp + (ff + cc) % 4 < 2 ^ 31 by omega)]
        exact ⟨vp_in_nI (by omega) (by decide), nm_e ⟨vp4, vp4, nm_e (xk_tail0 hs ec hc h)⟩⟩
      · rw [uk_4m, nI_add, nI_1, nI_clamp (show 4 * pp + cc < 2 ^ 31 by omega)]
        exact ⟨vp4, vp4, nm_e ⟨vp_in_nI (by omega) (by decide), nm_e (yk_tail0 hs h)⟩⟩
      · obtain ⟨e, he, z1⟩ := hr
        exact absurd z1 (z e he)
    · have A0 : uk_All t b x_changes x_saidCount x_time x_lastSlot x_sliceSteps x_latestPid x_greatestPid x_code x_codeLengths x_pids x_parents x_programs x_places x_states x_statuses x_stepCounts x_copyCounts x_wakeTimes x_registers x_pageCounts x_pageFrames x_held x_frameUsers x_frameWords x_openHolders x_openKinds x_openTargets x_openPlaces x_openModes x_pipeFirsts x_pipeCounts x_pipeWords x_nameFiles x_fileSizes x_fileWords x_safeNames x_safeSizes x_safeWords x_saidInts y_time y_last y_lastPid y_did 0 y_ops y_as y_bs y_pages y_wake y_zombie y_blocked y_memory y_frame y_kind y_mode y_pipe y_size y_safeSize y_said := A
      obtain ⟨P', Q', zo', oh', ki', sz', fu', A', x1, y1⟩ := uk_exitA (-1) A0 hs hp hz
      refine ⟨_, _, fun post h => hX3 post _ rfl (br_t (hends.mpr hr) (x1 _ (xk_tail0 hs ec hc ?_))), fun post h => hY3 post (yk_hasEnd (fun z => absurd z hr) (fun _ => br_t rfl ?_)), uk_RmkK 1 (uk_up1 (Nat.le_succ b) A')⟩
      · rw [uk_uself]
        exact h
      · unfold wpY_kill
        refine y1 _ ?_
        exact br_f (by decide) h
end
end
section
/-! PIPE -/
theorem uk_ff2 {P P' : Nat → Prop} {n i : Nat} (hi : i < n) (hf : ∀ k, k < i → ¬ P k) (h : ∀ j, j < n → (P' j ↔ (P j ∧ j ≠ i))) : uk_ff P' n = uk_fg P (n - (i + 1)) (i + 1) := by
  rcases uk_ffs P' n with ⟨e, e1⟩ | ⟨k, hk, e, e1, e2⟩ <;> rcases uk_fgs P (n - (i + 1)) (i + 1) with ⟨g, g1⟩ | ⟨l, hl, hl2, g, g1, g2⟩
  · rw [e, g]
  · exact absurd ((h l (by omega)).mpr ⟨g1, by omega⟩) (e1 l (by omega))
  · have q := (h k hk).mp e1
    by_cases c : k < i
    · exact absurd q.1 (hf k c)
    · exact absurd q.1 (g1 k (by omega) (by omega))
  · have q := (h k hk).mp e1
    have hki : i + 1 ≤ k := by
      by_cases c : k < i
      · exact absurd q.1 (hf k c)
      · omega
    have a : ¬ k < l := fun z => g2 k hki z q.1
    have b : ¬ l < k := fun z => e2 l z ((h l (by omega)).mpr ⟨g1, by omega⟩)
    rw [e, g]
    exact congrArg nI (by omega)
theorem uk_cnN (P : Nat → Prop) : ∀ n, uk_cn P n + uk_cn (fun i => ¬ P i) n = n
  | 0 => rfl
  | n + 1 => by
    have ih := uk_cnN P n
    by_cases h : P n
    · rw [uk_cnt h, uk_cnf (P := fun i => ¬ P i) (fun z => z h)]; omega
    · rw [uk_cnf h, uk_cnt (P := fun i => ¬ P i) h]; omega
/-- two of n at least -/
theorem uk_two {P : Nat → Prop} {n i : Nat} (hi : i < n) (hP : P i) (hf : ∀ k, k < i → ¬ P k) (hn : n < 2 ^ 31 := by decide) : uk_fg P (n - (i + 1)) (i + 1) = -1 ↔ uk_cn P n ≤ 1 := by
  rcases uk_fgs P (n - (i + 1)) (i + 1) with ⟨g, g1⟩ | ⟨l, hl, hl2, g, g1, g2⟩
  · refine ⟨fun _ => ?_, fun _ => g⟩
    have h0 : uk_cn (fun k => P k ∧ k ≠ i) n = 0 := uk_cn0 n (fun k hk z => by
      by_cases c : k < i
      · exact hf k c z.1
      · exact g1 k (by have := z.2; omega) (by omega) z.1)
    have h1 := uk_cnset (P := fun k => P k ∧ k ≠ i) (Q := P) (k := i) (fun z => z.2 rfl) hP n hi (fun j _ w => ⟨fun z => z.1, fun z => ⟨z, w⟩⟩)
    omega
  · refine ⟨fun z => absurd (g.symm.trans z) (uk_ne1 (by omega)), fun z => ?_⟩
    have := uk_cn2 hP g1 (show i < l by omega) n (by omega)
    omega
section
variable {x_changes x_saidCount x_time x_lastSlot x_sliceSteps x_latestPid x_greatestPid : Int32} {x_code x_codeLengths x_pids x_parents x_programs x_places x_states x_statuses x_stepCounts x_copyCounts x_wakeTimes x_registers x_pageCounts x_pageFrames x_held x_frameUsers x_frameWords x_openHolders x_openKinds x_openTargets x_openPlaces x_openModes x_pipeFirsts x_pipeCounts x_pipeWords x_nameFiles x_fileSizes x_fileWords x_safeNames x_safeSizes x_safeWords x_saidInts : Nat → Int32} {y_time y_last y_lastPid y_did y_killed : Int32} {y_ops y_as y_bs y_pages y_wake y_zombie y_blocked y_memory y_frame y_kind y_mode y_pipe y_size y_safeSize y_said : Nat → Int32}
theorem xk_take {post : SX → Prop} {s d o : Nat} {k tg m : Int32} (hs : s < 8) (hd : d < 6) (ho : o < 12) (h : post (x_changes, x_saidCount, x_time, x_lastSlot, x_sliceSteps, x_latestPid, x_greatestPid, x_code, x_codeLengths, x_pids, x_parents, x_programs, x_places, x_states, x_statuses, x_stepCounts, x_copyCounts, x_wakeTimes, x_registers, x_pageCounts, x_pageFrames, upd x_held (6 * s + d) (nI o), x_frameUsers, x_frameWords, upd x_openHolders o 1, upd x_openKinds o k, upd x_openTargets o tg, upd x_openPlaces o 0, upd x_openModes o m, x_pipeFirsts, x_pipeCounts, x_pipeWords, x_nameFiles, x_fileSizes, x_fileWords, x_safeNames, x_safeSizes, x_safeWords, x_saidInts)) : wpX_takeOpen post (x_changes, x_saidCount, x_time, x_lastSlot, x_sliceSteps, x_latestPid, x_greatestPid, x_code, x_codeLengths, x_pids, x_parents, x_programs, x_places, x_states, x_statuses, x_stepCounts, x_copyCounts, x_wakeTimes, x_registers, x_pageCounts, x_pageFrames, x_held, x_frameUsers, x_frameWords, x_openHolders, x_openKinds, x_openTargets, x_openPlaces, x_openModes, x_pipeFirsts, x_pipeCounts, x_pipeWords, x_nameFiles, x_fileSizes, x_fileWords, x_safeNames, x_safeSizes, x_safeWords, x_saidInts) (nI s) (nI d) (nI o) k tg m := by
  have vo : vp_in (nI o) 12 := vp_in_nI ho (by decide)
  unfold wpX_takeOpen
  dsimp only
  rw [uk_m6, nI_add, nI_clamp (show 6 * s + d < 2 ^ 31 by omega), nI_clamp (show o < 2 ^ 31 by omega)]
  exact ⟨vp_in_nI (by omega) (by decide), nm_e ⟨vo, nm_e ⟨vo, nm_e ⟨vo, nm_e ⟨vo, nm_e ⟨vo, nm_e h⟩⟩⟩⟩⟩⟩
theorem yk_take {post : SY → Prop} {s d o : Nat} {k tg m : Int32} (hs : s < 8) (hd : d < 6) (ho : o < 12) (h : post (x_changes, y_time, y_last, y_lastPid, y_did, x_greatestPid, x_latestPid, x_saidCount, y_killed, y_ops, y_as, y_bs, x_codeLengths, x_pids, x_parents, x_programs, x_places, x_statuses, x_stepCounts, x_copyCounts, y_pages, y_wake, y_zombie, y_blocked, x_registers, y_memory, y_frame, upd x_held (6 * s + d) (nI o), upd y_kind o k, upd x_openTargets o tg, upd y_mode o m, upd x_openPlaces o 0, x_pipeCounts, y_pipe, x_nameFiles, y_size, x_fileWords, x_safeNames, y_safeSize, x_safeWords, y_said)) : wpY_open post (x_changes, y_time, y_last, y_lastPid, y_did, x_greatestPid, x_latestPid, x_saidCount, y_killed, y_ops, y_as, y_bs, x_codeLengths, x_pids, x_parents, x_programs, x_places, x_statuses, x_stepCounts, x_copyCounts, y_pages, y_wake, y_zombie, y_blocked, x_registers, y_memory, y_frame, x_held, y_kind, x_openTargets, y_mode, x_openPlaces, x_pipeCounts, y_pipe, x_nameFiles, y_size, x_fileWords, x_safeNames, y_safeSize, x_safeWords, y_said) (nI s) (nI d) (nI o) k tg m := by
  have vo : vp_in (nI o) 12 := vp_in_nI ho (by decide)
  unfold wpY_open
  dsimp only
  rw [uk_6m, nI_add, nI_clamp (show 6 * s + d < 2 ^ 31 by omega), nI_clamp (show o < 2 ^ 31 by omega)]
  exact ⟨vp_in_nI (by omega) (by decide), nm_e ⟨vo, nm_e ⟨vo, nm_e ⟨vo, nm_e ⟨vo, nm_e h⟩⟩⟩⟩⟩
theorem uk_newo {t b s d o : Nat} {k tg xm ym : Int32} (A : uk_All t b x_changes x_saidCount x_time x_lastSlot x_sliceSteps x_latestPid x_greatestPid x_code x_codeLengths x_pids x_parents x_programs x_places x_states x_statuses x_stepCounts x_copyCounts x_wakeTimes x_registers x_pageCounts x_pageFrames x_held x_frameUsers x_frameWords x_openHolders x_openKinds x_openTargets x_openPlaces x_openModes x_pipeFirsts x_pipeCounts x_pipeWords x_nameFiles x_fileSizes x_fileWords x_safeNames x_safeSizes x_safeWords x_saidInts y_time y_last y_lastPid y_did y_killed y_ops y_as y_bs y_pages y_wake y_zombie y_blocked y_memory y_frame y_kind y_mode y_pipe y_size y_safeSize y_said) (hs : s < 8) (hp : x_pids s ≠ 0) (hz : y_zombie s = 0) (hb : y_blocked s = 0) (hd : d < 6) (ho : o < 12) (h1 : x_held (6 * s + d) = -1) (h0 : x_openHolders o = 0) (hv : (k = 1 ∧ xm = ym ∧ ym &&& 3 ≠ 0 ∧ vp_in tg 8) ∨ (k = 2 ∧ xm = 1 ∧ vp_in tg 4) ∨ (k = 3 ∧ xm = 2 ∧ vp_in tg 4)) (hFi : uk_Fi x_nameFiles (upd y_kind o k) (upd x_openTargets o tg) x_fileSizes y_size) : uk_All t b x_changes x_saidCount x_time x_lastSlot x_sliceSteps x_latestPid x_greatestPid x_code x_codeLengths x_pids x_parents x_programs x_places x_states x_statuses x_stepCounts x_copyCounts x_wakeTimes x_registers x_pageCounts x_pageFrames (upd x_held (6 * s + d) (nI o)) x_frameUsers x_frameWords (upd x_openHolders o 1) (upd x_openKinds o k) (upd x_openTargets o tg) (upd x_openPlaces o 0) (upd x_openModes o xm) x_pipeFirsts x_pipeCounts x_pipeWords x_nameFiles x_fileSizes x_fileWords x_safeNames x_safeSizes x_safeWords x_saidInts y_time y_last y_lastPid y_did y_killed y_ops y_as y_bs y_pages y_wake y_zombie y_blocked y_memory y_frame (upd y_kind o k) (upd y_mode o ym) y_pipe y_size y_safeSize y_said := by
  have hk0 : y_kind o = 0 := (uk_ki0 (P := x_pids) (zo := y_zombie) (H := x_held) (uk_aOk A) ho).mpr h0
  have hWk := uk_du_Wk (x := nI o) (ki' := upd y_kind o k) (uk_aWk A) hd (uk_run1 A hs hp hz hb) (fun o' _ w => pk_un (fun z => by
    subst z
    rw [hk0] at w
    rcases w with w | w <;> exact absurd w (by decide)))
  exact ⟨uk_aG A, uk_aN A, uk_aC A, uk_aeT A, uk_aPr A, uk_aPs A, uk_aMe A, uk_aFu A, uk_HdU (uk_aHd A) (Or.inr (vp_in_nI ho (by decide))), uk_nw_Ho (uk_aHo A) hs hp hz hd ho h1 h0, uk_nw_Ok (uk_aOk A) hv, uk_aPi A, hFi, uk_aSa A, uk_aSc A, hWk⟩
theorem uk_call6 {t b s : Nat} (A : uk_All t b x_changes x_saidCount x_time x_lastSlot x_sliceSteps x_latestPid x_greatestPid x_code x_codeLengths x_pids x_parents x_programs x_places x_states x_statuses x_stepCounts x_copyCounts x_wakeTimes x_registers x_pageCounts x_pageFrames x_held x_frameUsers x_frameWords x_openHolders x_openKinds x_openTargets x_openPlaces x_openModes x_pipeFirsts x_pipeCounts x_pipeWords x_nameFiles x_fileSizes x_fileWords x_safeNames x_safeSizes x_safeWords x_saidInts y_time y_last y_lastPid y_did y_killed y_ops y_as y_bs y_pages y_wake y_zombie y_blocked y_memory y_frame y_kind y_mode y_pipe y_size y_safeSize y_said) (hs : s < 8) (hp : x_pids s ≠ 0) (hz : y_zombie s = 0) (hb : y_blocked s = 0) :
  ∃ u' v', (∀ post : SX → Prop, post u' → wpX_doCall post (x_changes, x_saidCount, x_time, x_lastSlot, x_sliceSteps, x_latestPid, x_greatestPid, x_code, x_codeLengths, x_pids, x_parents, x_programs, x_places, x_states, x_statuses, x_stepCounts, x_copyCounts, x_wakeTimes, x_registers, x_pageCounts, x_pageFrames, x_held, x_frameUsers, x_frameWords, x_openHolders, x_openKinds, x_openTargets, x_openPlaces, x_openModes, x_pipeFirsts, x_pipeCounts, x_pipeWords, x_nameFiles, x_fileSizes, x_fileWords, x_safeNames, x_safeSizes, x_safeWords, x_saidInts) (nI s) 6) ∧ (∀ post : SY → Prop, post v' → wY_call_127 post (nI s) 6 (x_registers (4 * s)) (x_registers (4 * s + 1)) x_changes y_time y_last y_lastPid y_did x_greatestPid x_latestPid x_saidCount 0 y_ops y_as y_bs x_codeLengths x_pids x_parents x_programs x_places x_statuses x_stepCounts x_copyCounts y_pages y_wake y_zombie y_blocked x_registers y_memory y_frame x_held y_kind x_openTargets y_mode x_openPlaces x_pipeCounts y_pipe x_nameFiles y_size x_fileWords x_safeNames y_safeSize x_safeWords y_said) ∧ uk_R y_time t (b + 1) u' v' := by
  obtain ⟨_, vs, es⟩ := uk_lp 8 hs (by decide)
  obtain ⟨c, ec, hc⟩ := uk_aC A
  have hH := uk_aHd A s hs hp hz
  have hHo := uk_aHo A
  have hOk := uk_aOk A
  have hki0 : ∀ o, o < 12 → (y_kind o = 0 ↔ x_openHolders o = 0) := fun o ho => uk_ki0 (P := x_pids) (zo := y_zombie) (H := x_held) hOk ho
  have hkp : ∀ o, o < 12 → (¬ y_kind o ≤ 0 ↔ ¬ x_openHolders o = 0) := fun o ho => by
    rcases (hOk o ho).2 with ⟨a, b⟩ | ⟨a, b, c⟩
    · rw [a, b]; exact ⟨fun z => absurd (by decide) z, fun z => absurd rfl z⟩
    · refine ⟨fun _ => a, fun _ => ?_⟩
      rcases c with c | c | c <;> rw [c.1] <;> decide
  have hcnt : uk_cn (fun o => ¬ y_kind o ≤ 0) 12 + uk_cn (fun o => x_openHolders o = 0) 12 = 12 := by
    have h1 := uk_cnN (fun o => x_openHolders o = 0) 12
    have h2 := uk_cnc (P := fun o => ¬ y_kind o ≤ 0) (Q := fun o => ¬ x_openHolders o = 0) 12 hkp
    omega
  have hY0 : ∀ (post : SY → Prop), (uk_fg (fun d => x_held (6 * s + d) = -1) 6 0 = -1 ∨ (∃ i, i < 6 ∧ uk_fg (fun d => x_held (6 * s + d) = -1) 6 0 = nI i ∧ (uk_fg (fun d => x_held (6 * s + d) = -1) (6 - (i + 1)) (i + 1) = -1 ∨ uk_ff (fun p => uk_pfr y_kind x_openTargets (nI p)) 4 = -1 ∨ uk_cn (fun o => x_openHolders o = 0) 12 ≤ 1))) → post (x_changes, y_time, y_last, y_lastPid, y_did, x_greatestPid, x_latestPid, x_saidCount, 0, y_ops, y_as, y_bs, x_codeLengths, x_pids, x_parents, x_programs, x_places, x_statuses, x_stepCounts, x_copyCounts, y_pages, y_wake, y_zombie, y_blocked, upd x_registers (4 * s) (-1), y_memory, y_frame, x_held, y_kind, x_openTargets, y_mode, x_openPlaces, x_pipeCounts, y_pipe, x_nameFiles, y_size, x_fileWords, x_safeNames, y_safeSize, x_safeWords, y_said) → wY_call_127 post (nI s) 6 (x_registers (4 * s)) (x_registers (4 * s + 1)) x_changes y_time y_last y_lastPid y_did x_greatestPid x_latestPid x_saidCount 0 y_ops y_as y_bs x_codeLengths x_pids x_parents x_programs x_places x_statuses x_stepCounts x_copyCounts y_pages y_wake y_zombie y_blocked x_registers y_memory y_frame x_held y_kind x_openTargets y_mode x_openPlaces x_pipeCounts y_pipe x_nameFiles y_size x_fileWords x_safeNames y_safeSize x_safeWords y_said := fun post hc0 h => by
    unfold wY_call_127
    refine br_t (by decide) (br_f (by decide) ?_)
    unfold wpY_descriptors
    refine br_f (by decide) (br_t rfl ?_)
    unfold wpY_newPipe
    refine yk_freeDescriptor (j := 0) hs (by decide) hH ?_
    rcases hc0 with f | ⟨i, hi, f, hc0⟩
    · show _ ∧ _
      rw [show uk_fg (fun d => x_held (6 * s + d) = -1) (6 - 0) 0 = -1 from f]
      refine br_f (by decide) (yk_freePipe (br_t (by decide) (yk_tail0 hs h)))
    · show _ ∧ _
      rw [show uk_fg (fun d => x_held (6 * s + d) = -1) (6 - 0) 0 = nI i from f, nI_1]
      refine br_t (nI_pos' (by omega)) (yk_freeDescriptor (j := i + 1) hs (by omega) hH (yk_freePipe ?_))
      by_cases g1 : uk_fg (fun d => x_held (6 * s + d) = -1) (6 - (i + 1)) (i + 1) < 0
      · exact br_t g1 (yk_tail0 hs h)
      · refine br_f g1 ⟨fun _ => yk_tail0 hs h, fun g2 => yk_opens ⟨fun g3 => ?_, fun _ => yk_tail0 hs h⟩⟩
        exfalso
        rcases hc0 with z | z | z
        · rw [z] at g1; exact g1 (by decide)
        · rw [z] at g2; exact g2 (by decide)
        · have := (nI_leI (b := 10) (by omega) (by decide)).mp g3
          omega
  have hX0 : ∀ (post : SX → Prop) (j1 j2 : Nat) (r1 r2 r3 r4 : Int32), j1 ≤ 6 → j2 ≤ 12 → r1 = uk_fg (fun d => x_held (6 * s + d) = -1) 6 0 → r1 + 1 = nI j1 → r2 = uk_fg (fun d => x_held (6 * s + d) = -1) (6 - j1) j1 → r3 = uk_fg (fun o => x_openHolders o = 0) 12 0 → r3 + 1 = nI j2 → r4 = uk_fg (fun o => x_openHolders o = 0) (12 - j2) j2 → (r2 = -1 ∨ r4 = -1 ∨ uk_ff (fun p => uk_pfr y_kind x_openTargets (nI p)) 4 = -1) → post (x_changes, x_saidCount, x_time, x_lastSlot, x_sliceSteps, x_latestPid, x_greatestPid, x_code, x_codeLengths, x_pids, x_parents, x_programs, x_places, x_states, x_statuses, x_stepCounts, x_copyCounts, x_wakeTimes, upd x_registers (4 * s) (-1), x_pageCounts, x_pageFrames, x_held, x_frameUsers, x_frameWords, x_openHolders, x_openKinds, x_openTargets, x_openPlaces, x_openModes, x_pipeFirsts, x_pipeCounts, x_pipeWords, x_nameFiles, x_fileSizes, x_fileWords, x_safeNames, x_safeSizes, x_safeWords, x_saidInts) → wpX_doCall post (x_changes, x_saidCount, x_time, x_lastSlot, x_sliceSteps, x_latestPid, x_greatestPid, x_code, x_codeLengths, x_pids, x_parents, x_programs, x_places, x_states, x_statuses, x_stepCounts, x_copyCounts, x_wakeTimes, x_registers, x_pageCounts, x_pageFrames, x_held, x_frameUsers, x_frameWords, x_openHolders, x_openKinds, x_openTargets, x_openPlaces, x_openModes, x_pipeFirsts, x_pipeCounts, x_pipeWords, x_nameFiles, x_fileSizes, x_fileWords, x_safeNames, x_safeSizes, x_safeWords, x_saidInts) (nI s) 6 := fun post j1 j2 r1 r2 r3 r4 hj1 hj2 er1 ej1 er2 er3 ej2 er4 hn h => by
    unfold wpX_doCall
    refine nm_r (uk_m4 s) ⟨vp_in_nI (by omega) (by decide), nm_r (uk_rg0 x_registers hs) ⟨uk_rgv hs, nm_r (uk_rg1 x_registers hs) (br_f (by decide) (br_f (by decide) (br_f (by decide) (br_f (by decide) (br_f (by decide) (br_f (by decide) (br_f (by decide) (br_f (by decide) (br_t rfl ?_)))))))))⟩⟩
    unfold wpX_makePipe
    refine xk_freeDescriptor (j := 0) hs (by decide) ?_
    rw [show uk_fg (fun d => x_held (6 * s + d) = -1) (6 - 0) 0 = r1 from er1.symm, ej1]
    refine xk_freeDescriptor hs hj1 (xk_freeOpen (j := 0) (by decide) ?_)
    rw [show uk_fg (fun o => x_openHolders o = 0) (12 - 0) 0 = r3 from er3.symm, ej2]
    refine xk_freeOpen hj2 (xk_freePipe hOk hHo ?_)
    rw [← er2, ← er4]
    refine ⟨fun _ => xk_tail0 hs ec hc h, fun g1 => ⟨fun _ => xk_tail0 hs ec hc h, fun g2 => ⟨fun _ => xk_tail0 hs ec hc h, fun g3 => ?_⟩⟩⟩
    exfalso
    rcases hn with z | z | z
    · exact g1 z
    · exact g2 z
    · exact g3 z
  have m1 : (-1 : Int32) + 1 = nI 0 := by decide
  obtain ⟨j1, hj1, ej1, hd1⟩ : ∃ j1, j1 ≤ 6 ∧ uk_fg (fun d => x_held (6 * s + d) = -1) 6 0 + 1 = nI j1 ∧ ((uk_fg (fun d => x_held (6 * s + d) = -1) 6 0 = -1 ∧ uk_fg (fun d => x_held (6 * s + d) = -1) (6 - j1) j1 = -1) ∨ (∃ i, i < 6 ∧ j1 = i + 1 ∧ uk_fg (fun d => x_held (6 * s + d) = -1) 6 0 = nI i ∧ x_held (6 * s + i) = -1)) := by
    rcases uk_fgs (fun d => x_held (6 * s + d) = -1) 6 0 with ⟨f, _⟩ | ⟨i, _, hi, f, f1, _⟩
    · exact ⟨0, by decide, by rw [f]; exact m1, Or.inl ⟨f, f⟩⟩
    · exact ⟨i + 1, by omega, by rw [f]; exact nI_1 i, Or.inr ⟨i, by omega, rfl, f, f1⟩⟩
  obtain ⟨j2, hj2, ej2, ho1⟩ : ∃ j2, j2 ≤ 12 ∧ uk_fg (fun o => x_openHolders o = 0) 12 0 + 1 = nI j2 ∧ ((uk_fg (fun o => x_openHolders o = 0) 12 0 = -1 ∧ uk_fg (fun o => x_openHolders o = 0) (12 - j2) j2 = -1 ∧ uk_cn (fun o => x_openHolders o = 0) 12 = 0) ∨ (∃ i, i < 12 ∧ j2 = i + 1 ∧ uk_fg (fun o => x_openHolders o = 0) 12 0 = nI i ∧ x_openHolders i = 0 ∧ ∀ k, k < i → ¬ x_openHolders k = 0)) := by
    rcases uk_fgs (fun o => x_openHolders o = 0) 12 0 with ⟨f, f1⟩ | ⟨i, _, hi, f, f1, f2⟩
    · exact ⟨0, by decide, by rw [f]; exact m1, Or.inl ⟨f, f, uk_cn0 12 (fun i hi => f1 i (by omega) (by omega))⟩⟩
    · exact ⟨i + 1, by omega, by rw [f]; exact nI_1 i, Or.inr ⟨i, by omega, rfl, f, f1, fun k hk => f2 k (by omega) hk⟩⟩
  by_cases hall : uk_fg (fun d => x_held (6 * s + d) = -1) (6 - j1) j1 = -1 ∨ uk_fg (fun o => x_openHolders o = 0) (12 - j2) j2 = -1 ∨ uk_ff (fun p => uk_pfr y_kind x_openTargets (nI p)) 4 = -1
  · refine ⟨_, _, fun post h => hX0 post j1 j2 _ _ _ _ hj1 hj2 rfl ej1 rfl rfl ej2 rfl hall h, fun post h => hY0 post ?_ h, uk_end0 (g := -1) A hs hp hz hb⟩
    rcases hd1 with ⟨f, _⟩ | ⟨i, hi, rfl, f, f1⟩
    · exact Or.inl f
    · refine Or.inr ⟨i, hi, f, ?_⟩
      rcases hall with z | z | z
      · exact Or.inl z
      · refine Or.inr (Or.inr ?_)
        rcases ho1 with ⟨_, _, g⟩ | ⟨l, hl, rfl, g, g1, g2⟩
        · omega
        · exact (uk_two hl g1 g2).mp z
      · exact Or.inr (Or.inl z)
  · have n1 : ¬ uk_fg (fun d => x_held (6 * s + d) = -1) (6 - j1) j1 = -1 := fun z => hall (Or.inl z)
    have n2 : ¬ uk_fg (fun o => x_openHolders o = 0) (12 - j2) j2 = -1 := fun z => hall (Or.inr (Or.inl z))
    have n3 : ¬ uk_ff (fun p => uk_pfr y_kind x_openTargets (nI p)) 4 = -1 := fun z => hall (Or.inr (Or.inr z))
    rcases hd1 with ⟨_, f⟩ | ⟨i, hi, rfl, f, f1⟩
    · exact absurd f n1
    rcases ho1 with ⟨_, f, _⟩ | ⟨o, ho, rfl, fo, fo1, fo2⟩
    · exact absurd f n2
    rcases uk_fgs (fun d => x_held (6 * s + d) = -1) (6 - (i + 1)) (i + 1) with ⟨z, _⟩ | ⟨i2, hi2, hi2', g, g1, _⟩
    · exact absurd z n1
    rcases uk_fgs (fun o => x_openHolders o = 0) (12 - (o + 1)) (o + 1) with ⟨z, _⟩ | ⟨o2, ho2, ho2', go, go1, _⟩
    · exact absurd z n2
    rcases uk_ffs (fun p => uk_pfr y_kind x_openTargets (nI p)) 4 with ⟨z, _⟩ | ⟨pp, hpp, gp, gp1, _⟩
    · exact absurd z n3
    have i26 : i2 < 6 := by omega
    have o212 : o2 < 12 := by omega
    have vp4 : vp_in (nI pp) 4 := vp_in_nI hpp (by decide)
    have hk0 : y_kind o = 0 := (hki0 o ho).mpr fo1
    have A1 := uk_newo (k := 2) (tg := nI pp) (xm := 1) (ym := 0) A hs hp hz hb hi ho f1 fo1 (Or.inr (Or.inl ⟨rfl, rfl, vp4⟩)) (uk_nw_Fi1 (uk_aFi A) (by rw [hk0]; decide) (by decide))
    have g1' : upd x_held (6 * s + i) (nI o) (6 * s + i2) = -1 := by rw [pk_un (by omega)]; exact g1
    have go1' : upd x_openHolders o 1 o2 = 0 := by rw [pk_un (by omega)]; exact go1
    have hk02 : upd y_kind o 2 o2 = 0 := by rw [pk_un (by omega)]; exact (hki0 o2 o212).mpr go1
    have A2 := uk_newo (k := 3) (tg := nI pp) (xm := 2) (ym := 0) A1 hs hp hz hb i26 o212 g1' go1' (Or.inr (Or.inr ⟨rfl, rfl, vp4⟩)) (uk_nw_Fi1 (uk_aFi A1) (by rw [hk02]; decide) (by decide))
    have A3 : uk_All t b x_changes x_saidCount x_time x_lastSlot x_sliceSteps x_latestPid x_greatestPid x_code x_codeLengths x_pids x_parents x_programs x_places x_states x_statuses x_stepCounts x_copyCounts x_wakeTimes x_registers x_pageCounts x_pageFrames (upd (upd x_held (6 * s + i) (nI o)) (6 * s + i2) (nI o2)) x_frameUsers x_frameWords (upd (upd x_openHolders o 1) o2 1) (upd (upd x_openKinds o 2) o2 3) (upd (upd x_openTargets o (nI pp)) o2 (nI pp)) (upd (upd x_openPlaces o 0) o2 0) (upd (upd x_openModes o 1) o2 2) (upd x_pipeFirsts pp 0) (upd x_pipeCounts pp 0) x_pipeWords x_nameFiles x_fileSizes x_fileWords x_safeNames x_safeSizes x_safeWords x_saidInts y_time y_last y_lastPid y_did y_killed y_ops y_as y_bs y_pages y_wake y_zombie y_blocked y_memory y_frame (upd (upd y_kind o 2) o2 3) (upd (upd y_mode o 0) o2 0) y_pipe y_size y_safeSize y_said := ⟨uk_aG A2, uk_aN A2, uk_aC A2, uk_aeT A2, uk_aPr A2, uk_aPs A2, uk_aMe A2, uk_aFu A2, uk_aHd A2, uk_aHo A2, uk_aOk A2, uk_pi_nw pp (uk_aPi A2), uk_aFi A2, uk_aSa A2, uk_aSc A2, uk_aWk A2⟩
    have A4 := uk_All_reg (i := 1) (x := nI i2) A3 hs hp hz hb (by decide)
    refine ⟨_, _, fun post h => ?_, fun post h => ?_, uk_end0 (g := nI i) A4 hs hp hz hb⟩
    · unfold wpX_doCall
      refine nm_r (uk_m4 s) ⟨vp_in_nI (by omega) (by decide), nm_r (uk_rg0 x_registers hs) ⟨uk_rgv hs, nm_r (uk_rg1 x_registers hs) (br_f (by decide) (br_f (by decide) (br_f (by decide) (br_f (by decide) (br_f (by decide) (br_f (by decide) (br_f (by decide) (br_f (by decide) (br_t rfl ?_)))))))))⟩⟩
      unfold wpX_makePipe
      refine xk_freeDescriptor (j := 0) hs (by decide) ?_
      rw [show uk_fg (fun d => x_held (6 * s + d) = -1) (6 - 0) 0 = nI i from f, nI_1]
      refine xk_freeDescriptor hs (by omega) (xk_freeOpen (j := 0) (by decide) ?_)
      rw [show uk_fg (fun o => x_openHolders o = 0) (12 - 0) 0 = nI o from fo, nI_1]
      refine xk_freeOpen (by omega) (xk_freePipe hOk hHo ?_)
      rw [g, go, gp]
      refine br_f (uk_ne1 (by omega)) (br_f (uk_ne1 (by omega)) (br_f (uk_ne1 (by omega)) (xk_take hs hi ho (xk_take hs i26 o212 ⟨vp4, ?_⟩))))
      rw [nI_clamp (show pp < 2 ^ 31 by omega), uk_m4, nI_1, nI_clamp (show 4 * s + 1 < 2 ^ 31 by omega)]
      exact nm_e ⟨vp4, nm_e ⟨vp_in_nI (by omega) (by decide), nm_e (xk_tail0 hs ec hc h)⟩⟩
    · unfold wY_call_127
      refine br_t (by decide) (br_f (by decide) ?_)
      unfold wpY_descriptors
      refine br_f (by decide) (br_t rfl ?_)
      unfold wpY_newPipe
      refine yk_freeDescriptor (j := 0) hs (by decide) hH ?_
      show _ ∧ _
      rw [show uk_fg (fun d => x_held (6 * s + d) = -1) (6 - 0) 0 = nI i from f, nI_1]
      refine br_t (nI_pos' (by omega)) (yk_freeDescriptor (j := i + 1) hs (by omega) hH (yk_freePipe ?_))
      rw [g, gp]
      have htwo : ¬ uk_cn (fun o => x_openHolders o = 0) 12 ≤ 1 := fun z => n2 ((uk_two ho fo1 fo2).mpr z)
      refine br_f (nI_pos (by omega)) (br_f (nI_pos (by omega)) (yk_opens (br_t (nI_le (b := 10) (by omega) (by decide)) ⟨vp4, ?_⟩)))
      rw [nI_clamp (show pp < 2 ^ 31 by omega)]
      refine nm_e (yk_freeOpen ?_)
      have ef1 : uk_ff (fun o => y_kind o = 0) 12 = nI o := (uk_ffc 12 hki0).trans fo
      rw [ef1]
      refine yk_take hs hi ho (yk_freeOpen ?_)
      have ef2 : uk_ff (fun j => upd y_kind o 2 j = 0) 12 = nI o2 := (uk_ff2 (P := fun o => x_openHolders o = 0) ho fo2 (fun j hj => by
        by_cases w : j = o
        · subst w; rw [pk_us]; exact ⟨fun z => absurd z (by decide), fun z => absurd rfl z.2⟩
        · rw [pk_un w, hki0 j hj]; exact ⟨fun z => ⟨z, w⟩, fun z => z.1⟩)).trans go
      rw [ef2]
      refine yk_take hs i26 o212 ?_
      rw [uk_4m, nI_1, nI_clamp (show 4 * s + 1 < 2 ^ 31 by omega)]
      exact ⟨vp_in_nI (by omega) (by decide), nm_e (yk_tail0 hs h)⟩
end
end
section
/-! OPEN -/
def uk_mode (m : Int32) : Prop := vp_in (m - 1) 15 ∧ m &&& 3 ≠ 0 ∧ (m &&& 8 = 0 ∨ m &&& 2 ≠ 0)
theorem uk_md {m : Int32} : vp_in (m - 1) 15 ↔ (¬ m < 1 ∧ ¬ 15 < m) := by
  constructor
  · intro h
    obtain ⟨i, hi, ei⟩ := vp_in_of h (by decide)
    have em : m = nI (i + 1) := by
      rw [← nI_1, ← ei]
      exact (Int32.sub_add_cancel m 1).symm
    rw [em]
    exact ⟨nI_nlt (b := 1) (by omega) (by omega), nI_nlt (a := 15) (by omega) (by decide)⟩
  · rintro ⟨h1, h2⟩
    have h0 : ¬ m < 0 := fun z => h1 (Int32.lt_trans z (by decide))
    obtain ⟨j, hj, rfl⟩ := nI_of h0
    have j1 : ¬ j < 1 := fun z => h1 (nI_lt (b := 1) z (by decide))
    have j2 : ¬ 15 < j := fun z => h2 (nI_lt (a := 15) z hj)
    have e : nI j - 1 = nI (j - 1) := pk_sub (b := 1) (by omega)
    rw [e]
    exact vp_in_nI (by omega) (by decide)
section
variable {x_changes x_saidCount x_time x_lastSlot x_sliceSteps x_latestPid x_greatestPid : Int32} {x_code x_codeLengths x_pids x_parents x_programs x_places x_states x_statuses x_stepCounts x_copyCounts x_wakeTimes x_registers x_pageCounts x_pageFrames x_held x_frameUsers x_frameWords x_openHolders x_openKinds x_openTargets x_openPlaces x_openModes x_pipeFirsts x_pipeCounts x_pipeWords x_nameFiles x_fileSizes x_fileWords x_safeNames x_safeSizes x_safeWords x_saidInts : Nat → Int32} {y_time y_last y_lastPid y_did y_killed : Int32} {y_ops y_as y_bs y_pages y_wake y_zombie y_blocked y_memory y_frame y_kind y_mode y_pipe y_size y_safeSize y_said : Nat → Int32}
theorem xk_isMode {post : Int32 → Prop} {m : Int32} (ht : uk_mode m → post 1) (hf : ¬ uk_mode m → post 0) : wpX_isMode post (x_changes, x_saidCount, x_time, x_lastSlot, x_sliceSteps, x_latestPid, x_greatestPid, x_code, x_codeLengths, x_pids, x_parents, x_programs, x_places, x_states, x_statuses, x_stepCounts, x_copyCounts, x_wakeTimes, x_registers, x_pageCounts, x_pageFrames, x_held, x_frameUsers, x_frameWords, x_openHolders, x_openKinds, x_openTargets, x_openPlaces, x_openModes, x_pipeFirsts, x_pipeCounts, x_pipeWords, x_nameFiles, x_fileSizes, x_fileWords, x_safeNames, x_safeSizes, x_safeWords, x_saidInts) m := by
  have k21 : ¬ (vp_in (m - 1) 15 ∧ m &&& 3 ≠ 0) → wX_isMode_21 post m x_changes x_saidCount x_time x_lastSlot x_sliceSteps x_latestPid x_greatestPid x_code x_codeLengths x_pids x_parents x_programs x_places x_states x_statuses x_stepCounts x_copyCounts x_wakeTimes x_registers x_pageCounts x_pageFrames x_held x_frameUsers x_frameWords x_openHolders x_openKinds x_openTargets x_openPlaces x_openModes x_pipeFirsts x_pipeCounts x_pipeWords x_nameFiles x_fileSizes x_fileWords x_safeNames x_safeSizes x_safeWords x_saidInts := fun h => br_t rfl (hf (fun z => h ⟨z.1, z.2.1⟩))
  unfold wpX_isMode
  refine ⟨fun a => k21 (fun z => (uk_md.mp z.1).1 a), fun a => ⟨fun b => k21 (fun z => (uk_md.mp z.1).2 b), fun b => ⟨fun c => k21 (fun z => z.2 c), fun c => ?_⟩⟩⟩
  have hv := uk_md.mpr ⟨a, b⟩
  exact br_f (by decide) ⟨fun d => ht ⟨hv, c, Or.inl d⟩, fun d => ⟨fun e => hf (fun z => by
    rcases z.2.2 with z | z
    · exact d z
    · exact z e), fun e => ht ⟨hv, c, Or.inr e⟩⟩⟩
theorem yk_mode {post : Int32 → SY → Prop} {s : Nat} {n m : Int32} (h0 : ¬ (vp_in n 8 ∧ uk_mode m) → post (-1) (x_changes, y_time, y_last, y_lastPid, y_did, x_greatestPid, x_latestPid, x_saidCount, y_killed, y_ops, y_as, y_bs, x_codeLengths, x_pids, x_parents, x_programs, x_places, x_statuses, x_stepCounts, x_copyCounts, y_pages, y_wake, y_zombie, y_blocked, x_registers, y_memory, y_frame, x_held, y_kind, x_openTargets, y_mode, x_openPlaces, x_pipeCounts, y_pipe, x_nameFiles, y_size, x_fileWords, x_safeNames, y_safeSize, x_safeWords, y_said)) (h1 : vp_in n 8 → uk_mode m → wY_openName_41 post (nI s) n m x_changes y_time y_last y_lastPid y_did x_greatestPid x_latestPid x_saidCount y_killed y_ops y_as y_bs x_codeLengths x_pids x_parents x_programs x_places x_statuses x_stepCounts x_copyCounts y_pages y_wake y_zombie y_blocked x_registers y_memory y_frame x_held y_kind x_openTargets y_mode x_openPlaces x_pipeCounts y_pipe x_nameFiles y_size x_fileWords x_safeNames y_safeSize x_safeWords y_said) : wpY_openName post (x_changes, y_time, y_last, y_lastPid, y_did, x_greatestPid, x_latestPid, x_saidCount, y_killed, y_ops, y_as, y_bs, x_codeLengths, x_pids, x_parents, x_programs, x_places, x_statuses, x_stepCounts, x_copyCounts, y_pages, y_wake, y_zombie, y_blocked, x_registers, y_memory, y_frame, x_held, y_kind, x_openTargets, y_mode, x_openPlaces, x_pipeCounts, y_pipe, x_nameFiles, y_size, x_fileWords, x_safeNames, y_safeSize, x_safeWords, y_said) (nI s) n m := by
  unfold wpY_openName
  refine yk_no 7 rfl (by decide) (fun a => br_t rfl (yk_no 14 rfl (by decide) (fun b => br_t rfl ⟨fun c => h0 (fun z => z.2.2.1 c), fun c => ⟨fun d => h1 a ⟨b, c, Or.inl d⟩, fun d => ⟨fun e => h0 (fun z => ?_), fun e => h1 a ⟨b, c, Or.inr e⟩⟩⟩⟩) (fun b => br_f (by decide) (h0 (fun z => b z.2.1))))) (fun a => br_f (by decide) (h0 (fun z => a z.1)))
  rcases z.2.2.2 with z | z
  · exact d z
  · exact z e
theorem yk_least {post : Int32 → SY → Prop} {x1 x2 x3 x4 x5 : Int32} (h : wY_openName_114 post x1 x2 x3 x4 x5 (uk_ff (fun f => uk_fre x_nameFiles y_kind x_openTargets f) 8) 1 x_changes y_time y_last y_lastPid y_did x_greatestPid x_latestPid x_saidCount y_killed y_ops y_as y_bs x_codeLengths x_pids x_parents x_programs x_places x_statuses x_stepCounts x_copyCounts y_pages y_wake y_zombie y_blocked x_registers y_memory y_frame x_held y_kind x_openTargets y_mode x_openPlaces x_pipeCounts y_pipe x_nameFiles y_size x_fileWords x_safeNames y_safeSize x_safeWords y_said) : ∃ m, wY_openName_85 post x1 x2 x3 x4 x5 1 x_changes y_time y_last y_lastPid y_did x_greatestPid x_latestPid x_saidCount y_killed y_ops y_as y_bs x_codeLengths x_pids x_parents x_programs x_places x_statuses x_stepCounts x_copyCounts y_pages y_wake y_zombie y_blocked x_registers y_memory y_frame x_held y_kind x_openTargets y_mode x_openPlaces x_pipeCounts y_pipe x_nameFiles y_size x_fileWords x_safeNames y_safeSize x_safeWords y_said m (-1) 7 := by
  have key : ∀ j, j ≤ 8 → wY_openName_85 post x1 x2 x3 x4 x5 1 x_changes y_time y_last y_lastPid y_did x_greatestPid x_latestPid x_saidCount y_killed y_ops y_as y_bs x_codeLengths x_pids x_parents x_programs x_places x_statuses x_stepCounts x_copyCounts y_pages y_wake y_zombie y_blocked x_registers y_memory y_frame x_held y_kind x_openTargets y_mode x_openPlaces x_pipeCounts y_pipe x_nameFiles y_size x_fileWords x_safeNames y_safeSize x_safeWords y_said (j + 1) (uk_fg (fun f => uk_fre x_nameFiles y_kind x_openTargets f) (8 - j) j) (nI j + (-1)) := by
    intro j
    induction j with
    | zero => exact fun _ => br_t (by decide) h
    | succ j ih =>
      intro hj
      have ih2 := ih (by omega)
      rw [pk_m1]
      refine br_f (nI_pos (by omega)) (br_f (by decide) (yk_isFree (fun a => br_f (by decide) ?_) (fun a => br_t rfl ?_)))
      · rw [show 8 - j = (8 - (j + 1)) + 1 by omega, uk_fgt (P := fun f => uk_fre x_nameFiles y_kind x_openTargets f) a] at ih2
        exact nm_e ih2
      · rw [show 8 - j = (8 - (j + 1)) + 1 by omega, uk_fgf (P := fun f => uk_fre x_nameFiles y_kind x_openTargets f) a] at ih2
        exact nm_e ih2
  exact ⟨_, key 8 (Nat.le_refl 8)⟩
theorem uk_call11 {t b s : Nat} (A : uk_All t b x_changes x_saidCount x_time x_lastSlot x_sliceSteps x_latestPid x_greatestPid x_code x_codeLengths x_pids x_parents x_programs x_places x_states x_statuses x_stepCounts x_copyCounts x_wakeTimes x_registers x_pageCounts x_pageFrames x_held x_frameUsers x_frameWords x_openHolders x_openKinds x_openTargets x_openPlaces x_openModes x_pipeFirsts x_pipeCounts x_pipeWords x_nameFiles x_fileSizes x_fileWords x_safeNames x_safeSizes x_safeWords x_saidInts y_time y_last y_lastPid y_did y_killed y_ops y_as y_bs y_pages y_wake y_zombie y_blocked y_memory y_frame y_kind y_mode y_pipe y_size y_safeSize y_said) (hs : s < 8) (hp : x_pids s ≠ 0) (hz : y_zombie s = 0) (hb : y_blocked s = 0) :
  ∃ u' v', (∀ post : SX → Prop, post u' → wpX_doCall post (x_changes, x_saidCount, x_time, x_lastSlot, x_sliceSteps, x_latestPid, x_greatestPid, x_code, x_codeLengths, x_pids, x_parents, x_programs, x_places, x_states, x_statuses, x_stepCounts, x_copyCounts, x_wakeTimes, x_registers, x_pageCounts, x_pageFrames, x_held, x_frameUsers, x_frameWords, x_openHolders, x_openKinds, x_openTargets, x_openPlaces, x_openModes, x_pipeFirsts, x_pipeCounts, x_pipeWords, x_nameFiles, x_fileSizes, x_fileWords, x_safeNames, x_safeSizes, x_safeWords, x_saidInts) (nI s) 11) ∧ (∀ post : SY → Prop, post v' → wY_call_127 post (nI s) 11 (x_registers (4 * s)) (x_registers (4 * s + 1)) x_changes y_time y_last y_lastPid y_did x_greatestPid x_latestPid x_saidCount 0 y_ops y_as y_bs x_codeLengths x_pids x_parents x_programs x_places x_statuses x_stepCounts x_copyCounts y_pages y_wake y_zombie y_blocked x_registers y_memory y_frame x_held y_kind x_openTargets y_mode x_openPlaces x_pipeCounts y_pipe x_nameFiles y_size x_fileWords x_safeNames y_safeSize x_safeWords y_said) ∧ uk_R y_time t (b + 1) u' v' := by
  obtain ⟨_, vs, es⟩ := uk_lp 8 hs (by decide)
  obtain ⟨c, ec, hc⟩ := uk_aC A
  have hH := uk_aHd A s hs hp hz
  have hHo := uk_aHo A
  have hOk := uk_aOk A
  have hFi := uk_aFi A
  have hki0 : ∀ o, o < 12 → (y_kind o = 0 ↔ x_openHolders o = 0) := fun o ho => uk_ki0 (P := x_pids) (zo := y_zombie) (H := x_held) hOk ho
  have hffo : uk_ff (fun o => y_kind o = 0) 12 = uk_fg (fun o => x_openHolders o = 0) 12 0 := uk_ffc 12 hki0
  have ec1 : x_changes + 1 = nI (c + 1) := by rw [ec]; exact nI_1 c
  by_cases hv : vp_in (x_registers (4 * s)) 8
  · by_cases hm : uk_mode (x_registers (4 * s + 1))
    · have k8 := uk_inc hv
      rcases uk_fgs (fun d => x_held (6 * s + d) = -1) 6 0 with ⟨fd, _⟩ | ⟨d, _, hd', fd, fd1, _⟩
      · refine ⟨_, _, fun post h => ?_, fun post h => ?_, uk_end0 (g := -1) A hs hp hz hb⟩
        · unfold wpX_doCall
          refine nm_r (uk_m4 s) ⟨vp_in_nI (by omega) (by decide), nm_r (uk_rg0 x_registers hs) ⟨uk_rgv hs, nm_r (uk_rg1 x_registers hs) (br_f (by decide) (br_f (by decide) (br_f (by decide) (br_f (by decide) (br_f (by decide) (br_f (by decide) (br_f (by decide) (br_f (by decide) (br_f (by decide) (br_f (by decide) (br_f (by decide) (br_f (by decide) (br_f (by decide) (br_t rfl ?_))))))))))))))⟩⟩
          unfold wpX_openName
          refine xk_freeDescriptor (j := 0) hs (by decide) (xk_freeOpen (j := 0) (by decide) (xk_isName (fun _ => br_f (by decide) (xk_isMode (fun _ => br_f (by decide) ?_) (fun z => absurd hm z))) (fun z => absurd hv z)))
          rw [show uk_fg (fun d => x_held (6 * s + d) = -1) (6 - 0) 0 = -1 from fd]
          exact br_t rfl (xk_tail0 hs ec hc h)
        · unfold wY_call_127
          refine br_t (by decide) (br_t (by decide) ?_)
          unfold wpY_others
          refine br_f (by decide) (br_f (by decide) (br_t rfl (yk_mode (fun z => absurd ⟨hv, hm⟩ z) (fun _ _ => ?_))))
          unfold wY_openName_41
          refine yk_freeDescriptor (j := 0) hs (by decide) hH (yk_freeOpen ?_)
          rw [show uk_fg (fun d => x_held (6 * s + d) = -1) (6 - 0) 0 = -1 from fd]
          have k114 : ∀ (o6 x6 x7 : Int32), wY_openName_114 (fun r u => match u with | (y_changes, y_time, y_last, y_lastPid, y_did, y_greatest, y_stepped, y_says, y_killed, y_ops, y_as, y_bs, y_length, y_pid, y_parent, y_program, y_pc, y_status, y_steps, y_copies, y_pages, y_wake, y_zombie, y_blocked, y_reg, y_memory, y_frame, y_descriptor, y_kind, y_of, y_mode, y_place, y_piped, y_pipe, y_names, y_size, y_words, y_safeNames, y_safeSize, y_safeWords, y_said) => wY_call_169 post (nI s) r y_changes y_time y_last y_lastPid y_did y_greatest y_stepped y_says y_killed y_ops y_as y_bs y_length y_pid y_parent y_program y_pc y_status y_steps y_copies y_pages y_wake y_zombie y_blocked y_reg y_memory y_frame y_descriptor y_kind y_of y_mode y_place y_piped y_pipe y_names y_size y_words y_safeNames y_safeSize y_safeWords y_said) (nI s) (x_registers (4 * s)) (x_registers (4 * s + 1)) (-1) o6 x6 x7 x_changes y_time y_last y_lastPid y_did x_greatestPid x_latestPid x_saidCount 0 y_ops y_as y_bs x_codeLengths x_pids x_parents x_programs x_places x_statuses x_stepCounts x_copyCounts y_pages y_wake y_zombie y_blocked x_registers y_memory y_frame x_held y_kind x_openTargets y_mode x_openPlaces x_pipeCounts y_pipe x_nameFiles y_size x_fileWords x_safeNames y_safeSize x_safeWords y_said := fun _ _ _ => br_t (by decide) (yk_tail0 hs h)
          refine ⟨hv, nm_e ⟨fun _ => ⟨1, br_f (by decide) (br_t rfl (k114 _ _ _))⟩, fun w => ⟨fun _ => ⟨1, br_f (by decide) (br_t rfl (k114 _ _ _))⟩, fun _ => ?_⟩⟩⟩
          have eN : x_nameFiles (x_registers (4 * s)).toNatClampNeg = -1 := by
            rcases hFi.1 _ k8 with z | z
            · exact z
            · exact absurd (Int32.not_lt.mp (not_or.mp z).1) w
          rw [eN]
          exact yk_least (k114 _ _ _)
      have hd : d < 6 := by omega
      rcases uk_fgs (fun o => x_openHolders o = 0) 12 0 with ⟨fo, _⟩ | ⟨o, _, ho', fo, fo1, _⟩
      · refine ⟨_, _, fun post h => ?_, fun post h => ?_, uk_end0 (g := -1) A hs hp hz hb⟩
        · unfold wpX_doCall
          refine nm_r (uk_m4 s) ⟨vp_in_nI (by omega) (by decide), nm_r (uk_rg0 x_registers hs) ⟨uk_rgv hs, nm_r (uk_rg1 x_registers hs) (br_f (by decide) (br_f (by decide) (br_f (by decide) (br_f (by decide) (br_f (by decide) (br_f (by decide) (br_f (by decide) (br_f (by decide) (br_f (by decide) (br_f (by decide) (br_f (by decide) (br_f (by decide) (br_f (by decide) (br_t rfl ?_))))))))))))))⟩⟩
          unfold wpX_openName
          refine xk_freeDescriptor (j := 0) hs (by decide) (xk_freeOpen (j := 0) (by decide) (xk_isName (fun _ => br_f (by decide) (xk_isMode (fun _ => br_f (by decide) ?_) (fun z => absurd hm z))) (fun z => absurd hv z)))
          rw [show uk_fg (fun d => x_held (6 * s + d) = -1) (6 - 0) 0 = nI d from fd, show uk_fg (fun o => x_openHolders o = 0) (12 - 0) 0 = -1 from fo]
          exact br_f (uk_ne1 (by omega)) (br_t rfl (xk_tail0 hs ec hc h))
        · unfold wY_call_127
          refine br_t (by decide) (br_t (by decide) ?_)
          unfold wpY_others
          refine br_f (by decide) (br_f (by decide) (br_t rfl (yk_mode (fun z => absurd ⟨hv, hm⟩ z) (fun _ _ => ?_))))
          unfold wY_openName_41
          refine yk_freeDescriptor (j := 0) hs (by decide) hH (yk_freeOpen ?_)
          rw [show uk_fg (fun d => x_held (6 * s + d) = -1) (6 - 0) 0 = nI d from fd, hffo, fo]
          have k114 : ∀ (x6 x7 : Int32), wY_openName_114 (fun r u => match u with | (y_changes, y_time, y_last, y_lastPid, y_did, y_greatest, y_stepped, y_says, y_killed, y_ops, y_as, y_bs, y_length, y_pid, y_parent, y_program, y_pc, y_status, y_steps, y_copies, y_pages, y_wake, y_zombie, y_blocked, y_reg, y_memory, y_frame, y_descriptor, y_kind, y_of, y_mode, y_place, y_piped, y_pipe, y_names, y_size, y_words, y_safeNames, y_safeSize, y_safeWords, y_said) => wY_call_169 post (nI s) r y_changes y_time y_last y_lastPid y_did y_greatest y_stepped y_says y_killed y_ops y_as y_bs y_length y_pid y_parent y_program y_pc y_status y_steps y_copies y_pages y_wake y_zombie y_blocked y_reg y_memory y_frame y_descriptor y_kind y_of y_mode y_place y_piped y_pipe y_names y_size y_words y_safeNames y_safeSize y_safeWords y_said) (nI s) (x_registers (4 * s)) (x_registers (4 * s + 1)) (nI d) (-1) x6 x7 x_changes y_time y_last y_lastPid y_did x_greatestPid x_latestPid x_saidCount 0 y_ops y_as y_bs x_codeLengths x_pids x_parents x_programs x_places x_statuses x_stepCounts x_copyCounts y_pages y_wake y_zombie y_blocked x_registers y_memory y_frame x_held y_kind x_openTargets y_mode x_openPlaces x_pipeCounts y_pipe x_nameFiles y_size x_fileWords x_safeNames y_safeSize x_safeWords y_said := fun _ _ => br_f (nI_pos (by omega)) (br_t (by decide) (yk_tail0 hs h))
          refine ⟨hv, nm_e ⟨fun _ => ⟨1, br_f (by decide) (br_t rfl (k114 _ _))⟩, fun w => ⟨fun _ => ⟨1, br_f (by decide) (br_t rfl (k114 _ _))⟩, fun _ => ?_⟩⟩⟩
          have eN : x_nameFiles (x_registers (4 * s)).toNatClampNeg = -1 := by
            rcases hFi.1 _ k8 with z | z
            · exact z
            · exact absurd (Int32.not_lt.mp (not_or.mp z).1) w
          rw [eN]
          exact yk_least (k114 _ _)
      have ho : o < 12 := by omega
      have ef1 : uk_ff (fun o => y_kind o = 0) 12 = nI o := hffo.trans fo
      have hk0 : y_kind o = 0 := (hki0 o ho).mpr fo1
      have hk01 : y_kind o ≠ 1 := by rw [hk0]; decide
      have vo0 : 0 ≤ nI o := nI_pos' (by omega)
      have nd0 : ¬ nI d < 0 := nI_pos (by omega)
      have no0 : ¬ nI o < 0 := nI_pos (by omega)
      rcases hFi.1 _ k8 with eN | vN
      · by_cases h4 : x_registers (4 * s + 1) &&& 4 = 0
        · refine ⟨_, _, fun post h => ?_, fun post h => ?_, uk_end0 (g := -1) A hs hp hz hb⟩
          · unfold wpX_doCall
            refine nm_r (uk_m4 s) ⟨vp_in_nI (by omega) (by decide), nm_r (uk_rg0 x_registers hs) ⟨uk_rgv hs, nm_r (uk_rg1 x_registers hs) (br_f (by decide) (br_f (by decide) (br_f (by decide) (br_f (by decide) (br_f (by decide) (br_f (by decide) (br_f (by decide) (br_f (by decide) (br_f (by decide) (br_f (by decide) (br_f (by decide) (br_f (by decide) (br_f (by decide) (br_t rfl ?_))))))))))))))⟩⟩
            unfold wpX_openName
            refine xk_freeDescriptor (j := 0) hs (by decide) (xk_freeOpen (j := 0) (by decide) (xk_isName (fun _ => br_f (by decide) (xk_isMode (fun _ => br_f (by decide) ?_) (fun z => absurd hm z))) (fun z => absurd hv z)))
            rw [show uk_fg (fun d => x_held (6 * s + d) = -1) (6 - 0) 0 = nI d from fd, show uk_fg (fun o => x_openHolders o = 0) (12 - 0) 0 = nI o from fo]
            refine br_f (uk_ne1 (by omega)) (br_f (uk_ne1 (by omega)) ⟨hv, ?_⟩)
            rw [eN]
            refine nm_e (br_t rfl (br_t h4 ?_))
            unfold wX_openName_69 wX_openName_70
            refine br_t rfl ?_
            unfold wX_openName_83
            exact br_t rfl (xk_tail0 hs ec hc h)
          · unfold wY_call_127
            refine br_t (by decide) (br_t (by decide) ?_)
            unfold wpY_others
            refine br_f (by decide) (br_f (by decide) (br_t rfl (yk_mode (fun z => absurd ⟨hv, hm⟩ z) (fun _ _ => ?_))))
            unfold wY_openName_41
            refine yk_freeDescriptor (j := 0) hs (by decide) hH (yk_freeOpen ?_)
            rw [show uk_fg (fun d => x_held (6 * s + d) = -1) (6 - 0) 0 = nI d from fd, ef1]
            refine ⟨hv, ?_⟩
            rw [eN]
            refine nm_e (br_f (by decide) (br_t h4 ⟨1, br_f (by decide) (br_t rfl ?_)⟩))
            exact br_f nd0 (br_f no0 (br_f (by decide) (yk_tail0 hs h)))
        · rcases uk_ffs (fun f => uk_fre x_nameFiles y_kind x_openTargets f) 8 with ⟨ff, _⟩ | ⟨f, hf, ff, ff1, _⟩
          · refine ⟨_, _, fun post h => ?_, fun post h => ?_, uk_end0 (g := -1) A hs hp hz hb⟩
            · unfold wpX_doCall
              refine nm_r (uk_m4 s) ⟨vp_in_nI (by omega) (by decide), nm_r (uk_rg0 x_registers hs) ⟨uk_rgv hs, nm_r (uk_rg1 x_registers hs) (br_f (by decide) (br_f (by decide) (br_f (by decide) (br_f (by decide) (br_f (by decide) (br_f (by decide) (br_f (by decide) (br_f (by decide) (br_f (by decide) (br_f (by decide) (br_f (by decide) (br_f (by decide) (br_f (by decide) (br_t rfl ?_))))))))))))))⟩⟩
              unfold wpX_openName
              refine xk_freeDescriptor (j := 0) hs (by decide) (xk_freeOpen (j := 0) (by decide) (xk_isName (fun _ => br_f (by decide) (xk_isMode (fun _ => br_f (by decide) ?_) (fun z => absurd hm z))) (fun z => absurd hv z)))
              rw [show uk_fg (fun d => x_held (6 * s + d) = -1) (6 - 0) 0 = nI d from fd, show uk_fg (fun o => x_openHolders o = 0) (12 - 0) 0 = nI o from fo]
              refine br_f (uk_ne1 (by omega)) (br_f (uk_ne1 (by omega)) ⟨hv, ?_⟩)
              rw [eN]
              refine nm_e (br_t rfl (br_f h4 ?_))
              unfold wX_openName_70
              refine br_f (by decide) (xk_freeFile hOk hHo ?_)
              rw [ff]
              unfold wX_openName_83
              exact br_t rfl (xk_tail0 hs ec hc h)
            · unfold wY_call_127
              refine br_t (by decide) (br_t (by decide) ?_)
              unfold wpY_others
              refine br_f (by decide) (br_f (by decide) (br_t rfl (yk_mode (fun z => absurd ⟨hv, hm⟩ z) (fun _ _ => ?_))))
              unfold wY_openName_41
              refine yk_freeDescriptor (j := 0) hs (by decide) hH (yk_freeOpen ?_)
              rw [show uk_fg (fun d => x_held (6 * s + d) = -1) (6 - 0) 0 = nI d from fd, ef1]
              refine ⟨hv, ?_⟩
              rw [eN]
              refine nm_e (br_f (by decide) (br_f h4 (yk_least ?_)))
              rw [ff]
              exact br_f nd0 (br_f no0 (br_f (by decide) (yk_tail0 hs h)))
          · have hFi0 := uk_Fi_mk hFi k8 hf eN
            have A0 : uk_All t b x_changes x_saidCount x_time x_lastSlot x_sliceSteps x_latestPid x_greatestPid x_code x_codeLengths x_pids x_parents x_programs x_places x_states x_statuses x_stepCounts x_copyCounts x_wakeTimes x_registers x_pageCounts x_pageFrames x_held x_frameUsers x_frameWords x_openHolders x_openKinds x_openTargets x_openPlaces x_openModes x_pipeFirsts x_pipeCounts x_pipeWords (upd x_nameFiles (x_registers (4 * s)).toNatClampNeg (nI f)) (upd x_fileSizes f 0) x_fileWords x_safeNames x_safeSizes x_safeWords x_saidInts y_time y_last y_lastPid y_did y_killed y_ops y_as y_bs y_pages y_wake y_zombie y_blocked y_memory y_frame y_kind y_mode y_pipe (upd y_size f 0) y_safeSize y_said := ⟨uk_aG A, uk_aN A, uk_aC A, uk_aeT A, uk_aPr A, uk_aPs A, uk_aMe A, uk_aFu A, uk_aHd A, uk_aHo A, uk_aOk A, uk_aPi A, hFi0, uk_aSa A, uk_aSc A, uk_aWk A⟩
            have A1 := uk_newo (k := 1) (tg := nI f) (xm := x_registers (4 * s + 1)) (ym := x_registers (4 * s + 1)) A0 hs hp hz hb hd ho fd1 fo1 (Or.inl ⟨rfl, rfl, hm.2.1, vp_in_nI hf (by decide)⟩) (uk_nw_Fi2 hFi0 ho hk01 hf (pk_us.trans pk_us.symm))
            have vf : vp_in (nI f) 8 := vp_in_nI hf (by decide)
            have hX : ∀ post : SX → Prop, wX_doCall_344 post (nI (4 * s)) (nI d) (nI (c + 1)) x_saidCount x_time x_lastSlot x_sliceSteps x_latestPid x_greatestPid x_code x_codeLengths x_pids x_parents x_programs x_places x_states x_statuses x_stepCounts x_copyCounts x_wakeTimes x_registers x_pageCounts x_pageFrames (upd x_held (6 * s + d) (nI o)) x_frameUsers x_frameWords (upd x_openHolders o 1) (upd x_openKinds o 1) (upd x_openTargets o (nI f)) (upd x_openPlaces o 0) (upd x_openModes o (x_registers (4 * s + 1))) x_pipeFirsts x_pipeCounts x_pipeWords (upd x_nameFiles (x_registers (4 * s)).toNatClampNeg (nI f)) (upd x_fileSizes f 0) x_fileWords x_safeNames x_safeSizes x_safeWords x_saidInts → wpX_doCall post (x_changes, x_saidCount, x_time, x_lastSlot, x_sliceSteps, x_latestPid, x_greatestPid, x_code, x_codeLengths, x_pids, x_parents, x_programs, x_places, x_states, x_statuses, x_stepCounts, x_copyCounts, x_wakeTimes, x_registers, x_pageCounts, x_pageFrames, x_held, x_frameUsers, x_frameWords, x_openHolders, x_openKinds, x_openTargets, x_openPlaces, x_openModes, x_pipeFirsts, x_pipeCounts, x_pipeWords, x_nameFiles, x_fileSizes, x_fileWords, x_safeNames, x_safeSizes, x_safeWords, x_saidInts) (nI s) 11 := fun post h => by
              unfold wpX_doCall
              refine nm_r (uk_m4 s) ⟨vp_in_nI (by omega) (by decide), nm_r (uk_rg0 x_registers hs) ⟨uk_rgv hs, nm_r (uk_rg1 x_registers hs) (br_f (by decide) (br_f (by decide) (br_f (by decide) (br_f (by decide) (br_f (by decide) (br_f (by decide) (br_f (by decide) (br_f (by decide) (br_f (by decide) (br_f (by decide) (br_f (by decide) (br_f (by decide) (br_f (by decide) (br_t rfl ?_))))))))))))))⟩⟩
              unfold wpX_openName
              refine xk_freeDescriptor (j := 0) hs (by decide) (xk_freeOpen (j := 0) (by decide) (xk_isName (fun _ => br_f (by decide) (xk_isMode (fun _ => br_f (by decide) ?_) (fun z => absurd hm z))) (fun z => absurd hv z)))
              rw [show uk_fg (fun d => x_held (6 * s + d) = -1) (6 - 0) 0 = nI d from fd, show uk_fg (fun o => x_openHolders o = 0) (12 - 0) 0 = nI o from fo]
              refine br_f (uk_ne1 (by omega)) (br_f (uk_ne1 (by omega)) ⟨hv, ?_⟩)
              rw [eN]
              refine nm_e (br_t rfl (br_f h4 ?_))
              unfold wX_openName_70
              refine br_f (by decide) (xk_freeFile hOk hHo ?_)
              rw [ff]
              unfold wX_openName_83
              refine br_f (uk_ne1 (by omega)) (br_f (by decide) ?_)
              unfold wX_openName_103
              refine ⟨hv, nm_e ⟨vf, ?_⟩⟩
              rw [nI_clamp (show f < 2 ^ 31 by omega)]
              refine nm_e (nm_r ec1 ?_)
              unfold wX_openName_129
              exact xk_take hs hd ho h
            have hY : ∀ post : SY → Prop, wpY_change (fun u => match u with | (y_changes, y_time, y_last, y_lastPid, y_did, y_greatest, y_stepped, y_says, y_killed, y_ops, y_as, y_bs, y_length, y_pid, y_parent, y_program, y_pc, y_status, y_steps, y_copies, y_pages, y_wake, y_zombie, y_blocked, y_reg, y_memory, y_frame, y_descriptor, y_kind, y_of, y_mode, y_place, y_piped, y_pipe, y_names, y_size, y_words, y_safeNames, y_safeSize, y_safeWords, y_said) => wY_call_169 post (nI s) (nI d) y_changes y_time y_last y_lastPid y_did y_greatest y_stepped y_says y_killed y_ops y_as y_bs y_length y_pid y_parent y_program y_pc y_status y_steps y_copies y_pages y_wake y_zombie y_blocked y_reg y_memory y_frame y_descriptor y_kind y_of y_mode y_place y_piped y_pipe y_names y_size y_words y_safeNames y_safeSize y_safeWords y_said) (x_changes, y_time, y_last, y_lastPid, y_did, x_greatestPid, x_latestPid, x_saidCount, 0, y_ops, y_as, y_bs, x_codeLengths, x_pids, x_parents, x_programs, x_places, x_statuses, x_stepCounts, x_copyCounts, y_pages, y_wake, y_zombie, y_blocked, x_registers, y_memory, y_frame, upd x_held (6 * s + d) (nI o), upd y_kind o 1, upd x_openTargets o (nI f), upd y_mode o (x_registers (4 * s + 1)), upd x_openPlaces o 0, x_pipeCounts, y_pipe, upd x_nameFiles (x_registers (4 * s)).toNatClampNeg (nI f), upd y_size f 0, x_fileWords, x_safeNames, y_safeSize, x_safeWords, y_said) → wY_call_127 post (nI s) 11 (x_registers (4 * s)) (x_registers (4 * s + 1)) x_changes y_time y_last y_lastPid y_did x_greatestPid x_latestPid x_saidCount 0 y_ops y_as y_bs x_codeLengths x_pids x_parents x_programs x_places x_statuses x_stepCounts x_copyCounts y_pages y_wake y_zombie y_blocked x_registers y_memory y_frame x_held y_kind x_openTargets y_mode x_openPlaces x_pipeCounts y_pipe x_nameFiles y_size x_fileWords x_safeNames y_safeSize x_safeWords y_said := fun post h => by
              unfold wY_call_127
              refine br_t (by decide) (br_t (by decide) ?_)
              unfold wpY_others
              refine br_f (by decide) (br_f (by decide) (br_t rfl (yk_mode (fun z => absurd ⟨hv, hm⟩ z) (fun _ _ => ?_))))
              unfold wY_openName_41
              refine yk_freeDescriptor (j := 0) hs (by decide) hH (yk_freeOpen ?_)
              rw [show uk_fg (fun d => x_held (6 * s + d) = -1) (6 - 0) 0 = nI d from fd, ef1]
              refine ⟨hv, ?_⟩
              rw [eN]
              refine nm_e (br_f (by decide) (br_f h4 (yk_least ?_)))
              rw [ff]
              refine br_f nd0 (br_f no0 (br_t (nI_pos' (by omega)) (br_f (by decide) ?_)))
              unfold wY_openName_147 wY_openName_148
              refine br_f (by decide) ?_
              unfold wY_openName_160
              refine ⟨vf, ?_⟩
              rw [nI_clamp (show f < 2 ^ 31 by omega)]
              refine nm_e ?_
              unfold wY_openName_168
              refine ⟨hv, nm_e (yk_take hs hd ho (br_f (by decide) ?_))⟩
              unfold wY_openName_199
              exact h
            by_cases hc1 : c + 1 = 30
            · exact ⟨_, _, fun post h => hX post (xk_tail1 hs (congrArg nI hc1) h), fun post h => hY post (yk_change ec hc (fun z => absurd hc1 z) (fun _ => yk_tail0 hs h)), uk_endc2 (g := nI d) A1 hs hp hz hb⟩
            · exact ⟨_, _, fun post h => hX post (xk_tail0 hs rfl (by omega) h), fun post h => hY post (yk_change ec hc (fun _ => yk_tail0 hs h) (fun z => absurd z hc1)), uk_endc1 (g := nI d) (c := c) A1 hs hp hz hb (by omega)⟩
      · obtain ⟨f, hf, eN⟩ := vp_in_of vN (by decide)
        have hnf : ¬ uk_fre x_nameFiles y_kind x_openTargets f := fun z => z.1 _ k8 eN
        have vf : vp_in (nI f) 8 := vp_in_nI hf (by decide)
        have f0 : 0 ≤ nI f := nI_pos' (by omega)
        have nf1 : ¬ nI f = -1 := uk_ne1 (by omega)
        have eu : upd x_nameFiles (x_registers (4 * s)).toNatClampNeg (nI f) = x_nameFiles := by rw [← eN]; exact uk_uself _ _
        by_cases h8 : x_registers (4 * s + 1) &&& 8 = 0
        · have A1 := uk_newo (k := 1) (tg := nI f) (xm := x_registers (4 * s + 1)) (ym := x_registers (4 * s + 1)) A hs hp hz hb hd ho fd1 fo1 (Or.inl ⟨rfl, rfl, hm.2.1, vf⟩) (uk_nw_Fi2 hFi ho hk01 hf ((hFi.2 f hf).2.2 hnf))
          refine ⟨_, _, fun post h => ?_, fun post h => ?_, uk_end0 (g := nI d) A1 hs hp hz hb⟩
          · unfold wpX_doCall
            refine nm_r (uk_m4 s) ⟨vp_in_nI (by omega) (by decide), nm_r (uk_rg0 x_registers hs) ⟨uk_rgv hs, nm_r (uk_rg1 x_registers hs) (br_f (by decide) (br_f (by decide) (br_f (by decide) (br_f (by decide) (br_f (by decide) (br_f (by decide) (br_f (by decide) (br_f (by decide) (br_f (by decide) (br_f (by decide) (br_f (by decide) (br_f (by decide) (br_f (by decide) (br_t rfl ?_))))))))))))))⟩⟩
            unfold wpX_openName
            refine xk_freeDescriptor (j := 0) hs (by decide) (xk_freeOpen (j := 0) (by decide) (xk_isName (fun _ => br_f (by decide) (xk_isMode (fun _ => br_f (by decide) ?_) (fun z => absurd hm z))) (fun z => absurd hv z)))
            rw [show uk_fg (fun d => x_held (6 * s + d) = -1) (6 - 0) 0 = nI d from fd, show uk_fg (fun o => x_openHolders o = 0) (12 - 0) 0 = nI o from fo]
            refine br_f (uk_ne1 (by omega)) (br_f (uk_ne1 (by omega)) ⟨hv, ?_⟩)
            rw [eN]
            refine nm_e (br_f nf1 ?_)
            unfold wX_openName_69 wX_openName_70
            refine br_t rfl ?_
            unfold wX_openName_83
            refine br_f nf1 (br_t rfl (br_t h8 ?_))
            unfold wX_openName_129
            exact xk_take hs hd ho (xk_tail0 hs ec hc h)
          · unfold wY_call_127
            refine br_t (by decide) (br_t (by decide) ?_)
            unfold wpY_others
            refine br_f (by decide) (br_f (by decide) (br_t rfl (yk_mode (fun z => absurd ⟨hv, hm⟩ z) (fun _ _ => ?_))))
            unfold wY_openName_41
            refine yk_freeDescriptor (j := 0) hs (by decide) hH (yk_freeOpen ?_)
            rw [show uk_fg (fun d => x_held (6 * s + d) = -1) (6 - 0) 0 = nI d from fd, ef1]
            refine ⟨hv, ?_⟩
            rw [eN]
            refine nm_e (br_t f0 ⟨1, br_f (by decide) (br_t rfl ?_)⟩)
            refine br_f nd0 (br_f no0 (br_t f0 (br_t rfl (br_t h8 ?_))))
            unfold wY_openName_147 wY_openName_148
            refine br_t rfl (br_t rfl ?_)
            unfold wY_openName_168
            exact ⟨hv, nm_r eu (yk_take hs hd ho (br_t rfl (br_t rfl (yk_tail0 hs h))))⟩
        · have hFi0 := uk_Fi_sz (x := 0) hFi (vp_in_nI (n := 0) (by decide) (by decide)) hnf
          have A0 : uk_All t b x_changes x_saidCount x_time x_lastSlot x_sliceSteps x_latestPid x_greatestPid x_code x_codeLengths x_pids x_parents x_programs x_places x_states x_statuses x_stepCounts x_copyCounts x_wakeTimes x_registers x_pageCounts x_pageFrames x_held x_frameUsers x_frameWords x_openHolders x_openKinds x_openTargets x_openPlaces x_openModes x_pipeFirsts x_pipeCounts x_pipeWords x_nameFiles (upd x_fileSizes f 0) x_fileWords x_safeNames x_safeSizes x_safeWords x_saidInts y_time y_last y_lastPid y_did y_killed y_ops y_as y_bs y_pages y_wake y_zombie y_blocked y_memory y_frame y_kind y_mode y_pipe (upd y_size f 0) y_safeSize y_said := ⟨uk_aG A, uk_aN A, uk_aC A, uk_aeT A, uk_aPr A, uk_aPs A, uk_aMe A, uk_aFu A, uk_aHd A, uk_aHo A, uk_aOk A, uk_aPi A, hFi0, uk_aSa A, uk_aSc A, uk_aWk A⟩
          have A1 := uk_newo (k := 1) (tg := nI f) (xm := x_registers (4 * s + 1)) (ym := x_registers (4 * s + 1)) A0 hs hp hz hb hd ho fd1 fo1 (Or.inl ⟨rfl, rfl, hm.2.1, vf⟩) (uk_nw_Fi2 hFi0 ho hk01 hf (pk_us.trans pk_us.symm))
          have hX : ∀ post : SX → Prop, wX_doCall_344 post (nI (4 * s)) (nI d) (nI (c + 1)) x_saidCount x_time x_lastSlot x_sliceSteps x_latestPid x_greatestPid x_code x_codeLengths x_pids x_parents x_programs x_places x_states x_statuses x_stepCounts x_copyCounts x_wakeTimes x_registers x_pageCounts x_pageFrames (upd x_held (6 * s + d) (nI o)) x_frameUsers x_frameWords (upd x_openHolders o 1) (upd x_openKinds o 1) (upd x_openTargets o (nI f)) (upd x_openPlaces o 0) (upd x_openModes o (x_registers (4 * s + 1))) x_pipeFirsts x_pipeCounts x_pipeWords x_nameFiles (upd x_fileSizes f 0) x_fileWords x_safeNames x_safeSizes x_safeWords x_saidInts → wpX_doCall post (x_changes, x_saidCount, x_time, x_lastSlot, x_sliceSteps, x_latestPid, x_greatestPid, x_code, x_codeLengths, x_pids, x_parents, x_programs, x_places, x_states, x_statuses, x_stepCounts, x_copyCounts, x_wakeTimes, x_registers, x_pageCounts, x_pageFrames, x_held, x_frameUsers, x_frameWords, x_openHolders, x_openKinds, x_openTargets, x_openPlaces, x_openModes, x_pipeFirsts, x_pipeCounts, x_pipeWords, x_nameFiles, x_fileSizes, x_fileWords, x_safeNames, x_safeSizes, x_safeWords, x_saidInts) (nI s) 11 := fun post h => by
            unfold wpX_doCall
            refine nm_r (uk_m4 s) ⟨vp_in_nI (by omega) (by decide), nm_r (uk_rg0 x_registers hs) ⟨uk_rgv hs, nm_r (uk_rg1 x_registers hs) (br_f (by decide) (br_f (by decide) (br_f (by decide) (br_f (by decide) (br_f (by decide) (br_f (by decide) (br_f (by decide) (br_f (by decide) (br_f (by decide) (br_f (by decide) (br_f (by decide) (br_f (by decide) (br_f (by decide) (br_t rfl ?_))))))))))))))⟩⟩
            unfold wpX_openName
            refine xk_freeDescriptor (j := 0) hs (by decide) (xk_freeOpen (j := 0) (by decide) (xk_isName (fun _ => br_f (by decide) (xk_isMode (fun _ => br_f (by decide) ?_) (fun z => absurd hm z))) (fun z => absurd hv z)))
            rw [show uk_fg (fun d => x_held (6 * s + d) = -1) (6 - 0) 0 = nI d from fd, show uk_fg (fun o => x_openHolders o = 0) (12 - 0) 0 = nI o from fo]
            refine br_f (uk_ne1 (by omega)) (br_f (uk_ne1 (by omega)) ⟨hv, ?_⟩)
            rw [eN]
            refine nm_e (br_f nf1 ?_)
            unfold wX_openName_69 wX_openName_70
            refine br_t rfl ?_
            unfold wX_openName_83
            refine br_f nf1 (br_t rfl (br_f h8 ?_))
            unfold wX_openName_103
            refine ⟨hv, nm_r eu ⟨vf, ?_⟩⟩
            rw [nI_clamp (show f < 2 ^ 31 by omega)]
            refine nm_e (nm_r ec1 ?_)
            unfold wX_openName_129
            exact xk_take hs hd ho h
          have hY : ∀ post : SY → Prop, wpY_change (fun u => match u with | (y_changes, y_time, y_last, y_lastPid, y_did, y_greatest, y_stepped, y_says, y_killed, y_ops, y_as, y_bs, y_length, y_pid, y_parent, y_program, y_pc, y_status, y_steps, y_copies, y_pages, y_wake, y_zombie, y_blocked, y_reg, y_memory, y_frame, y_descriptor, y_kind, y_of, y_mode, y_place, y_piped, y_pipe, y_names, y_size, y_words, y_safeNames, y_safeSize, y_safeWords, y_said) => wY_call_169 post (nI s) (nI d) y_changes y_time y_last y_lastPid y_did y_greatest y_stepped y_says y_killed y_ops y_as y_bs y_length y_pid y_parent y_program y_pc y_status y_steps y_copies y_pages y_wake y_zombie y_blocked y_reg y_memory y_frame y_descriptor y_kind y_of y_mode y_place y_piped y_pipe y_names y_size y_words y_safeNames y_safeSize y_safeWords y_said) (x_changes, y_time, y_last, y_lastPid, y_did, x_greatestPid, x_latestPid, x_saidCount, 0, y_ops, y_as, y_bs, x_codeLengths, x_pids, x_parents, x_programs, x_places, x_statuses, x_stepCounts, x_copyCounts, y_pages, y_wake, y_zombie, y_blocked, x_registers, y_memory, y_frame, upd x_held (6 * s + d) (nI o), upd y_kind o 1, upd x_openTargets o (nI f), upd y_mode o (x_registers (4 * s + 1)), upd x_openPlaces o 0, x_pipeCounts, y_pipe, x_nameFiles, upd y_size f 0, x_fileWords, x_safeNames, y_safeSize, x_safeWords, y_said) → wY_call_127 post (nI s) 11 (x_registers (4 * s)) (x_registers (4 * s + 1)) x_changes y_time y_last y_lastPid y_did x_greatestPid x_latestPid x_saidCount 0 y_ops y_as y_bs x_codeLengths x_pids x_parents x_programs x_places x_statuses x_stepCounts x_copyCounts y_pages y_wake y_zombie y_blocked x_registers y_memory y_frame x_held y_kind x_openTargets y_mode x_openPlaces x_pipeCounts y_pipe x_nameFiles y_size x_fileWords x_safeNames y_safeSize x_safeWords y_said := fun post h => by
            unfold wY_call_127
            refine br_t (by decide) (br_t (by decide) ?_)
            unfold wpY_others
            refine br_f (by decide) (br_f (by decide) (br_t rfl (yk_mode (fun z => absurd ⟨hv, hm⟩ z) (fun _ _ => ?_))))
            unfold wY_openName_41
            refine yk_freeDescriptor (j := 0) hs (by decide) hH (yk_freeOpen ?_)
            rw [show uk_fg (fun d => x_held (6 * s + d) = -1) (6 - 0) 0 = nI d from fd, ef1]
            refine ⟨hv, ?_⟩
            rw [eN]
            refine nm_e (br_t f0 ⟨1, br_f (by decide) (br_t rfl ?_)⟩)
            refine br_f nd0 (br_f no0 (br_t f0 (br_t rfl (br_f h8 ?_))))
            unfold wY_openName_148
            refine br_t rfl (br_f (by decide) ?_)
            unfold wY_openName_160
            refine ⟨vf, ?_⟩
            rw [nI_clamp (show f < 2 ^ 31 by omega)]
            refine nm_e ?_
            unfold wY_openName_168
            refine ⟨hv, nm_r eu (yk_take hs hd ho (br_t rfl (br_f (by decide) ?_)))⟩
            unfold wY_openName_199
            exact h
          by_cases hc1 : c + 1 = 30
          · exact ⟨_, _, fun post h => hX post (xk_tail1 hs (congrArg nI hc1) h), fun post h => hY post (yk_change ec hc (fun z => absurd hc1 z) (fun _ => yk_tail0 hs h)), uk_endc2 (g := nI d) A1 hs hp hz hb⟩
          · exact ⟨_, _, fun post h => hX post (xk_tail0 hs rfl (by omega) h), fun post h => hY post (yk_change ec hc (fun _ => yk_tail0 hs h) (fun z => absurd z hc1)), uk_endc1 (g := nI d) (c := c) A1 hs hp hz hb (by omega)⟩
    · refine ⟨_, _, fun post h => ?_, fun post h => ?_, uk_end0 (g := -1) A hs hp hz hb⟩
      · unfold wpX_doCall
        refine nm_r (uk_m4 s) ⟨vp_in_nI (by omega) (by decide), nm_r (uk_rg0 x_registers hs) ⟨uk_rgv hs, nm_r (uk_rg1 x_registers hs) (br_f (by decide) (br_f (by decide) (br_f (by decide) (br_f (by decide) (br_f (by decide) (br_f (by decide) (br_f (by decide) (br_f (by decide) (br_f (by decide) (br_f (by decide) (br_f (by decide) (br_f (by decide) (br_f (by decide) (br_t rfl ?_))))))))))))))⟩⟩
        unfold wpX_openName
        exact xk_freeDescriptor (j := 0) hs (by decide) (xk_freeOpen (j := 0) (by decide) (xk_isName (fun _ => br_f (by decide) (xk_isMode (fun z => absurd z hm) (fun _ => br_t rfl (xk_tail0 hs ec hc h)))) (fun z => absurd hv z)))
      · unfold wY_call_127
        refine br_t (by decide) (br_t (by decide) ?_)
        unfold wpY_others
        exact br_f (by decide) (br_f (by decide) (br_t rfl (yk_mode (fun _ => yk_tail0 hs h) (fun _ z => absurd z hm))))
  · refine ⟨_, _, fun post h => ?_, fun post h => ?_, uk_end0 (g := -1) A hs hp hz hb⟩
    · unfold wpX_doCall
      refine nm_r (uk_m4 s) ⟨vp_in_nI (by omega) (by decide), nm_r (uk_rg0 x_registers hs) ⟨uk_rgv hs, nm_r (uk_rg1 x_registers hs) (br_f (by decide) (br_f (by decide) (br_f (by decide) (br_f (by decide) (br_f (by decide) (br_f (by decide) (br_f (by decide) (br_f (by decide) (br_f (by decide) (br_f (by decide) (br_f (by decide) (br_f (by decide) (br_f (by decide) (br_t rfl ?_))))))))))))))⟩⟩
      unfold wpX_openName
      exact xk_freeDescriptor (j := 0) hs (by decide) (xk_freeOpen (j := 0) (by decide) (xk_isName (fun z => absurd z hv) (fun _ => br_t rfl (xk_tail0 hs ec hc h))))
    · unfold wY_call_127
      refine br_t (by decide) (br_t (by decide) ?_)
      unfold wpY_others
      exact br_f (by decide) (br_f (by decide) (br_t rfl (yk_mode (fun _ => yk_tail0 hs h) (fun z _ => absurd z hv))))
end
end
section
/-! every call, and a step -/
section
variable {x_changes x_saidCount x_time x_lastSlot x_sliceSteps x_latestPid x_greatestPid : Int32} {x_code x_codeLengths x_pids x_parents x_programs x_places x_states x_statuses x_stepCounts x_copyCounts x_wakeTimes x_registers x_pageCounts x_pageFrames x_held x_frameUsers x_frameWords x_openHolders x_openKinds x_openTargets x_openPlaces x_openModes x_pipeFirsts x_pipeCounts x_pipeWords x_nameFiles x_fileSizes x_fileWords x_safeNames x_safeSizes x_safeWords x_saidInts : Nat → Int32} {y_time y_last y_lastPid y_did y_killed : Int32} {y_ops y_as y_bs y_pages y_wake y_zombie y_blocked y_memory y_frame y_kind y_mode y_pipe y_size y_safeSize y_said : Nat → Int32}
theorem uk_docall {t b s cc : Nat} {W0 : Nat → Int32} (A : uk_All t b x_changes x_saidCount x_time x_lastSlot x_sliceSteps x_latestPid x_greatestPid x_code x_codeLengths x_pids x_parents x_programs x_places x_states x_statuses x_stepCounts x_copyCounts x_wakeTimes x_registers x_pageCounts x_pageFrames x_held x_frameUsers x_frameWords x_openHolders x_openKinds x_openTargets x_openPlaces x_openModes x_pipeFirsts x_pipeCounts x_pipeWords x_nameFiles x_fileSizes x_fileWords x_safeNames x_safeSizes x_safeWords x_saidInts y_time y_last y_lastPid y_did y_killed y_ops y_as y_bs y_pages y_wake y_zombie y_blocked y_memory y_frame y_kind y_mode y_pipe y_size y_safeSize y_said) (hs : s < 8) (hp : x_pids s ≠ 0) (hz : y_zombie s = 0) (hb : y_blocked s = 0) (hcc : cc < 19) (hW : upd W0 s 0 = x_wakeTimes) (hW2 : cc ≠ 14 → W0 = x_wakeTimes) (hla : y_last.toNatClampNeg = s) (hbb : b < 2000000000) (hnb : cc = 8 → ¬ uk_Bk x_pids x_parents y_zombie x_registers x_held y_kind x_openTargets x_pipeCounts s 8) :
  ∃ u' v', (∀ post : SX → Prop, post u' → wpX_doCall post (x_changes, x_saidCount, x_time, x_lastSlot, x_sliceSteps, x_latestPid, x_greatestPid, x_code, x_codeLengths, x_pids, x_parents, x_programs, x_places, x_states, x_statuses, x_stepCounts, x_copyCounts, W0, x_registers, x_pageCounts, x_pageFrames, x_held, x_frameUsers, x_frameWords, x_openHolders, x_openKinds, x_openTargets, x_openPlaces, x_openModes, x_pipeFirsts, x_pipeCounts, x_pipeWords, x_nameFiles, x_fileSizes, x_fileWords, x_safeNames, x_safeSizes, x_safeWords, x_saidInts) (nI s) (nI cc)) ∧ (∀ (post : SY → Prop) (r0 r1 : Int32), r0 = x_registers (4 * s) → r1 = x_registers (4 * s + 1) → post v' → ((nI cc = 0 → wpY_exit (fun u => match u with | (y_changes, y_time, y_last, y_lastPid, y_did, y_greatest, y_stepped, y_says, y_killed, y_ops, y_as, y_bs, y_length, y_pid, y_parent, y_program, y_pc, y_status, y_steps, y_copies, y_pages, y_wake, y_zombie, y_blocked, y_reg, y_memory, y_frame, y_descriptor, y_kind, y_of, y_mode, y_place, y_piped, y_pipe, y_names, y_size, y_words, y_safeNames, y_safeSize, y_safeWords, y_said) => post (y_changes, y_time, y_last, y_lastPid, y_did, y_greatest, y_stepped, y_says, y_killed, y_ops, y_as, y_bs, y_length, y_pid, y_parent, y_program, y_pc, y_status, y_steps, y_copies, y_pages, y_wake, y_zombie, y_blocked, y_reg, y_memory, y_frame, y_descriptor, y_kind, y_of, y_mode, y_place, y_piped, y_pipe, y_names, y_size, y_words, y_safeNames, y_safeSize, y_safeWords, y_said)) (x_changes, y_time, y_last, y_lastPid, y_did, x_greatestPid, x_latestPid, x_saidCount, 0, y_ops, y_as, y_bs, x_codeLengths, x_pids, x_parents, x_programs, x_places, x_statuses, x_stepCounts, x_copyCounts, y_pages, y_wake, y_zombie, y_blocked, x_registers, y_memory, y_frame, x_held, y_kind, x_openTargets, y_mode, x_openPlaces, x_pipeCounts, y_pipe, x_nameFiles, y_size, x_fileWords, x_safeNames, y_safeSize, x_safeWords, y_said) (nI s) r0) ∧ (¬ nI cc = 0 → ((nI cc = 5 → wpY_no (fun r => ((r = 0 → wpY_begin (fun u => match u with | (y_changes, y_time, y_last, y_lastPid, y_did, y_greatest, y_stepped, y_says, y_killed, y_ops, y_as, y_bs, y_length, y_pid, y_parent, y_program, y_pc, y_status, y_steps, y_copies, y_pages, y_wake, y_zombie, y_blocked, y_reg, y_memory, y_frame, y_descriptor, y_kind, y_of, y_mode, y_place, y_piped, y_pipe, y_names, y_size, y_words, y_safeNames, y_safeSize, y_safeWords, y_said) => post (y_changes, y_time, y_last, y_lastPid, y_did, y_greatest, y_stepped, y_says, y_killed, y_ops, y_as, y_bs, y_length, y_pid, y_parent, y_program, y_pc, y_status, y_steps, y_copies, y_pages, y_wake, y_zombie, y_blocked, y_reg, y_memory, y_frame, y_descriptor, y_kind, y_of, y_mode, y_place, y_piped, y_pipe, y_names, y_size, y_words, y_safeNames, y_safeSize, y_safeWords, y_said)) (x_changes, y_time, y_last, y_lastPid, y_did, x_greatestPid, x_latestPid, x_saidCount, 0, y_ops, y_as, y_bs, x_codeLengths, x_pids, x_parents, x_programs, x_places, x_statuses, x_stepCounts, x_copyCounts, y_pages, y_wake, y_zombie, y_blocked, x_registers, y_memory, y_frame, x_held, y_kind, x_openTargets, y_mode, x_openPlaces, x_pipeCounts, y_pipe, x_nameFiles, y_size, x_fileWords, x_safeNames, y_safeSize, x_safeWords, y_said) (nI s) r0) ∧ (¬ r = 0 → wY_call_127 post (nI s) (nI cc) r0 r1 x_changes y_time y_last y_lastPid y_did x_greatestPid x_latestPid x_saidCount 0 y_ops y_as y_bs x_codeLengths x_pids x_parents x_programs x_places x_statuses x_stepCounts x_copyCounts y_pages y_wake y_zombie y_blocked x_registers y_memory y_frame x_held y_kind x_openTargets y_mode x_openPlaces x_pipeCounts y_pipe x_nameFiles y_size x_fileWords x_safeNames y_safeSize x_safeWords y_said))) r0 5) ∧ (¬ nI cc = 5 → wY_call_127 post (nI s) (nI cc) r0 r1 x_changes y_time y_last y_lastPid y_did x_greatestPid x_latestPid x_saidCount 0 y_ops y_as y_bs x_codeLengths x_pids x_parents x_programs x_places x_statuses x_stepCounts x_copyCounts y_pages y_wake y_zombie y_blocked x_registers y_memory y_frame x_held y_kind x_openTargets y_mode x_openPlaces x_pipeCounts y_pipe x_nameFiles y_size x_fileWords x_safeNames y_safeSize x_safeWords y_said))))) ∧ uk_R y_time t (b + 1) u' v' := by
  by_cases c14 : cc = 14
  · subst c14
    obtain ⟨u', v', h1, h2, h3⟩ := uk_call14 A hs hp hz hb hW
    exact ⟨u', v', h1, fun post r0 r1 e0 e1 h => by subst e0 e1; exact br_f (by decide) (br_f (by decide) (h2 post h)), h3⟩
  have eW := hW2 c14
  subst eW
  by_cases c5 : cc = 5
  · subst c5
    by_cases hv : vp_in (x_registers (4 * s)) 6
    · obtain ⟨u', v', h1, h2, h3⟩ := uk_call5a A hs hp hz hb hv
      exact ⟨u', v', h1, fun post r0 r1 e0 e1 h => by subst e0 e1; exact br_f (by decide) (br_t rfl (yk_no 5 rfl (by decide) (fun _ => br_t rfl (h2 _ h)) (fun z => absurd hv z))), h3⟩
    · obtain ⟨u', v', h1, h2, h3⟩ := uk_call5b A hs hp hz hb hv
      exact ⟨u', v', h1, fun post r0 r1 e0 e1 h => by subst e0 e1; exact br_f (by decide) (br_t rfl (yk_no 5 rfl (by decide) (fun z => absurd z hv) (fun _ => br_f (by decide) (h2 post h)))), h3⟩
  by_cases c0 : cc = 0
  · subst c0
    obtain ⟨u', v', h1, h2, h3⟩ := uk_call0 A hs hp hz hb
    exact ⟨u', v', h1, fun post r0 r1 e0 e1 h => by subst e0 e1; exact br_t rfl (h2 _ h), h3⟩
  by_cases c1 : cc = 1
  · subst c1
    obtain ⟨u', v', h1, h2, h3⟩ := uk_call1 A hs hp hz hb hla hbb
    exact ⟨u', v', h1, fun post r0 r1 e0 e1 h => by subst e0 e1; exact br_f (by decide) (br_f (by decide) (h2 post h)), h3⟩
  by_cases c2 : cc = 2
  · subst c2
    obtain ⟨u', v', h1, h2, h3⟩ := uk_call2 A hs hp hz hb
    exact ⟨u', v', h1, fun post r0 r1 e0 e1 h => by subst e0 e1; exact br_f (by decide) (br_f (by decide) (h2 post h)), h3⟩
  by_cases c3 : cc = 3
  · subst c3
    obtain ⟨u', v', h1, h2, h3⟩ := uk_call3 A hs hp hz hb
    exact ⟨u', v', h1, fun post r0 r1 e0 e1 h => by subst e0 e1; exact br_f (by decide) (br_f (by decide) (h2 post h)), h3⟩
  by_cases c4 : cc = 4
  · subst c4
    obtain ⟨u', v', h1, h2, h3⟩ := uk_call4 A hs hp hz hb
    exact ⟨u', v', h1, fun post r0 r1 e0 e1 h => by subst e0 e1; exact br_f (by decide) (br_f (by decide) (h2 post h)), h3⟩
  by_cases c6 : cc = 6
  · subst c6
    obtain ⟨u', v', h1, h2, h3⟩ := uk_call6 A hs hp hz hb
    exact ⟨u', v', h1, fun post r0 r1 e0 e1 h => by subst e0 e1; exact br_f (by decide) (br_f (by decide) (h2 post h)), h3⟩
  by_cases c7 : cc = 7
  · subst c7
    obtain ⟨u', v', h1, h2, h3⟩ := uk_call7 A hs hp hz hb
    exact ⟨u', v', h1, fun post r0 r1 e0 e1 h => by subst e0 e1; exact br_f (by decide) (br_f (by decide) (h2 post h)), h3⟩
  by_cases c8 : cc = 8
  · subst c8
    obtain ⟨u', v', h1, h2, h3⟩ := uk_call8 A hs hp hz hb (hnb rfl)
    exact ⟨u', v', h1, fun post r0 r1 e0 e1 h => by subst e0 e1; exact br_f (by decide) (br_f (by decide) (h2 post h)), h3⟩
  by_cases c9 : cc = 9
  · subst c9
    obtain ⟨u', v', h1, h2, h3⟩ := uk_call9 A hs hp hz hb
    exact ⟨u', v', h1, fun post r0 r1 e0 e1 h => by subst e0 e1; exact br_f (by decide) (br_f (by decide) (h2 post h)), h3⟩
  by_cases c10 : cc = 10
  · subst c10
    obtain ⟨u', v', h1, h2, h3⟩ := uk_call10 A hs hp hz hb
    exact ⟨u', v', h1, fun post r0 r1 e0 e1 h => by subst e0 e1; exact br_f (by decide) (br_f (by decide) (h2 post h)), h3⟩
  by_cases c11 : cc = 11
  · subst c11
    obtain ⟨u', v', h1, h2, h3⟩ := uk_call11 A hs hp hz hb
    exact ⟨u', v', h1, fun post r0 r1 e0 e1 h => by subst e0 e1; exact br_f (by decide) (br_f (by decide) (h2 post h)), h3⟩
  by_cases c12 : cc = 12
  · subst c12
    obtain ⟨u', v', h1, h2, h3⟩ := uk_call12 A hs hp hz hb
    exact ⟨u', v', h1, fun post r0 r1 e0 e1 h => by subst e0 e1; exact br_f (by decide) (br_f (by decide) (h2 post h)), h3⟩
  by_cases c13 : cc = 13
  · subst c13
    obtain ⟨u', v', h1, h2, h3⟩ := uk_call13 A hs hp hz hb
    exact ⟨u', v', h1, fun post r0 r1 e0 e1 h => by subst e0 e1; exact br_f (by decide) (br_f (by decide) (h2 post h)), h3⟩
  by_cases c15 : cc = 15
  · subst c15
    obtain ⟨u', v', h1, h2, h3⟩ := uk_call15 A hs hp hz hb
    exact ⟨u', v', h1, fun post r0 r1 e0 e1 h => by subst e0 e1; exact br_f (by decide) (br_f (by decide) (h2 post h)), h3⟩
  by_cases c16 : cc = 16
  · subst c16
    obtain ⟨u', v', h1, h2, h3⟩ := uk_call16 A hs hp hz hb hbb
    exact ⟨u', v', h1, fun post r0 r1 e0 e1 h => by subst e0 e1; exact br_f (by decide) (br_f (by decide) (h2 post h)), h3⟩
  by_cases c17 : cc = 17
  · subst c17
    obtain ⟨u', v', h1, h2, h3⟩ := uk_call17 A hs hp hz hb
    exact ⟨u', v', h1, fun post r0 r1 e0 e1 h => by subst e0 e1; exact br_f (by decide) (br_f (by decide) (h2 post h)), h3⟩
  by_cases c18 : cc = 18
  · subst c18
    obtain ⟨u', v', h1, h2, h3⟩ := uk_call18 A hs hp hz hb
    exact ⟨u', v', h1, fun post r0 r1 e0 e1 h => by subst e0 e1; exact br_f (by decide) (br_f (by decide) (h2 post h)), h3⟩
  omega
theorem uk_tick {yt : Int32} {t b : Nat} {u : SX} {v : SY} (h : uk_R yt t b u v) : ∃ v2, uk_R (yt + 1) t b u v2 ∧ ∀ post : SY → Prop, post v2 → (fun u => match u with | (y_changes, y_time, y_last, y_lastPid, y_did, y_greatest, y_stepped, y_says, y_killed, y_ops, y_as, y_bs, y_length, y_pid, y_parent, y_program, y_pc, y_status, y_steps, y_copies, y_pages, y_wake, y_zombie, y_blocked, y_reg, y_memory, y_frame, y_descriptor, y_kind, y_of, y_mode, y_place, y_piped, y_pipe, y_names, y_size, y_words, y_safeNames, y_safeSize, y_safeWords, y_said) => ∀ y, y = y_time + 1 → post (y_changes, y, y_last, y_lastPid, y_did, y_greatest, y_stepped, y_says, y_killed, y_ops, y_as, y_bs, y_length, y_pid, y_parent, y_program, y_pc, y_status, y_steps, y_copies, y_pages, y_wake, y_zombie, y_blocked, y_reg, y_memory, y_frame, y_descriptor, y_kind, y_of, y_mode, y_place, y_piped, y_pipe, y_names, y_size, y_words, y_safeNames, y_safeSize, y_safeWords, y_said)) v := by
  obtain ⟨x_changes, x_saidCount, x_time, x_lastSlot, x_sliceSteps, x_latestPid, x_greatestPid, x_code, x_codeLengths, x_pids, x_parents, x_programs, x_places, x_states, x_statuses, x_stepCounts, x_copyCounts, x_wakeTimes, x_registers, x_pageCounts, x_pageFrames, x_held, x_frameUsers, x_frameWords, x_openHolders, x_openKinds, x_openTargets, x_openPlaces, x_openModes, x_pipeFirsts, x_pipeCounts, x_pipeWords, x_nameFiles, x_fileSizes, x_fileWords, x_safeNames, x_safeSizes, x_safeWords, x_saidInts, y_time, y_last, y_lastPid, y_did, y_killed, y_ops, y_as, y_bs, y_pages, y_wake, y_zombie, y_blocked, y_memory, y_frame, y_kind, y_mode, y_pipe, y_size, y_safeSize, y_said, rfl, rfl, A⟩ := h
  exact ⟨(x_changes, yt + 1, y_last, y_lastPid, y_did, x_greatestPid, x_latestPid, x_saidCount, y_killed, y_ops, y_as, y_bs, x_codeLengths, x_pids, x_parents, x_programs, x_places, x_statuses, x_stepCounts, x_copyCounts, y_pages, y_wake, y_zombie, y_blocked, x_registers, y_memory, y_frame, x_held, y_kind, x_openTargets, y_mode, x_openPlaces, x_pipeCounts, y_pipe, x_nameFiles, y_size, x_fileWords, x_safeNames, y_safeSize, x_safeWords, y_said), ⟨x_changes, x_saidCount, x_time, x_lastSlot, x_sliceSteps, x_latestPid, x_greatestPid, x_code, x_codeLengths, x_pids, x_parents, x_programs, x_places, x_states, x_statuses, x_stepCounts, x_copyCounts, x_wakeTimes, x_registers, x_pageCounts, x_pageFrames, x_held, x_frameUsers, x_frameWords, x_openHolders, x_openKinds, x_openTargets, x_openPlaces, x_openModes, x_pipeFirsts, x_pipeCounts, x_pipeWords, x_nameFiles, x_fileSizes, x_fileWords, x_safeNames, x_safeSizes, x_safeWords, x_saidInts, y_time, y_last, y_lastPid, y_did, y_killed, y_ops, y_as, y_bs, y_pages, y_wake, y_zombie, y_blocked, y_memory, y_frame, y_kind, y_mode, y_pipe, y_size, y_safeSize, y_said, rfl, rfl, A⟩, fun post h => nm_e h⟩
/-- a step's plain instruction -/
theorem uk_plain {t b s k : Nat} {L0 : Nat → Int32} (A : uk_All t b x_changes x_saidCount x_time x_lastSlot x_sliceSteps x_latestPid x_greatestPid x_code x_codeLengths x_pids x_parents x_programs x_places x_states x_statuses x_stepCounts x_copyCounts x_wakeTimes x_registers x_pageCounts x_pageFrames x_held x_frameUsers x_frameWords x_openHolders x_openKinds x_openTargets x_openPlaces x_openModes x_pipeFirsts x_pipeCounts x_pipeWords x_nameFiles x_fileSizes x_fileWords x_safeNames x_safeSizes x_safeWords x_saidInts y_time y_last y_lastPid y_did y_killed y_ops y_as y_bs y_pages y_wake y_zombie y_blocked y_memory y_frame y_kind y_mode y_pipe y_size y_safeSize y_said) (hs : s < 8) (hp : x_pids s ≠ 0) (hz : y_zombie s = 0) (hb : y_blocked s = 0) (hL : upd L0 s (L0 s + 1) = x_places) (hk : k < 144) (h8 : y_ops k ≠ 8) (hval : uk_val (x_code (3 * k)) (x_code (3 * k + 1)) (x_code (3 * k + 2))) :
  ∃ u' v', (∀ post : SX → Prop, post u' → wpX_compute post (x_changes, x_saidCount, x_time, x_lastSlot, x_sliceSteps, x_latestPid, x_greatestPid, x_code, x_codeLengths, x_pids, x_parents, x_programs, x_places, x_states, x_statuses, x_stepCounts, x_copyCounts, x_wakeTimes, x_registers, x_pageCounts, x_pageFrames, x_held, x_frameUsers, x_frameWords, x_openHolders, x_openKinds, x_openTargets, x_openPlaces, x_openModes, x_pipeFirsts, x_pipeCounts, x_pipeWords, x_nameFiles, x_fileSizes, x_fileWords, x_safeNames, x_safeSizes, x_safeWords, x_saidInts) (nI s) (x_code (3 * k)) (x_code (3 * k + 1)) (x_code (3 * k + 2))) ∧ (∀ post : SY → Prop, post v' → wpY_plain post (x_changes, y_time, y_last, y_lastPid, y_did, x_greatestPid, x_latestPid, x_saidCount, y_killed, y_ops, y_as, y_bs, x_codeLengths, x_pids, x_parents, x_programs, L0, x_statuses, x_stepCounts, x_copyCounts, y_pages, y_wake, y_zombie, y_blocked, x_registers, y_memory, y_frame, x_held, y_kind, x_openTargets, y_mode, x_openPlaces, x_pipeCounts, y_pipe, x_nameFiles, y_size, x_fileWords, x_safeNames, y_safeSize, x_safeWords, y_said) (nI s) (y_ops k) ((4 * nI s) + (y_as k)) (y_bs k)) ∧ uk_R y_time t b u' v' := by
  obtain ⟨p1, p2, p3⟩ := (uk_aPr A).1 k hk
  rw [p2]
  have p3' := fun (w : x_code (3 * k) ≠ 6) => p3 (by rw [p1]; exact w) h8
  rw [p1] at h8 ⊢
  rw [uk_4m]
  rcases hval with ⟨e, va⟩ | ⟨e, va, vb⟩ | ⟨e, vb⟩ | ⟨e, va, vb⟩ | ⟨e, _⟩
  · have pa := p3' (by rw [e]; decide)
    obtain ⟨i, hi, ei⟩ := vp_in_of va (by decide)
    rw [pa, ei, e, nI_add]
    exact ⟨_, _, fun post h => xk_op0 hs hi h, fun post h => yk_op0 hi hs hL h, uk_Rmk (uk_All_reg A hs hp hz hb hi)⟩
  · obtain ⟨i, hi, ei⟩ := vp_in_of va (by decide)
    obtain ⟨j, hj, ej⟩ := vp_in_of vb (by decide)
    have pa := p3' (by rcases e with e | e | e | e | e <;> rw [e] <;> decide)
    rw [pa, ei, ej, nI_add]
    rcases e with e | e | e | e | e <;> rw [e]
    · exact ⟨_, _, fun post h => xk_op1 hs hi hj h, fun post h => yk_op1 hi hj hs hL h, uk_Rmk (uk_All_reg A hs hp hz hb hi)⟩
    · exact ⟨_, _, fun post h => xk_op2 hs hi hj h, fun post h => yk_op2 hi hj hs hL h, uk_Rmk (uk_All_reg A hs hp hz hb hi)⟩
    · by_cases w : x_registers (4 * s + j) ≤ x_registers (4 * s + i)
      · exact ⟨_, _, fun post h => xk_op3 hs hi hj (fun _ => h) (fun z => absurd w z), fun post h => yk_op3 hi hj hs hL (fun _ => h) (fun z => absurd w z), uk_Rmk (uk_All_reg (x := 0) A hs hp hz hb hi)⟩
      · exact ⟨_, _, fun post h => xk_op3 hs hi hj (fun z => absurd z w) (fun _ => h), fun post h => yk_op3 hi hj hs hL (fun z => absurd z w) (fun _ => h), uk_Rmk (uk_All_reg (x := 1) A hs hp hz hb hi)⟩
    · exact uk_load A hs hp hz hb hi hj hL
    · exact uk_store A hs hp hz hi hj hL
  · obtain ⟨j, hj, ej⟩ := vp_in_of vb (by decide)
    rw [ej, e]
    exact ⟨_, _, fun post h => xk_op6 hs h, fun post h => yk_op6 hs hL h, uk_Rmk (uk_All_pl (l := j) A hs hp hz hb (by omega))⟩
  · obtain ⟨i, hi, ei⟩ := vp_in_of va (by decide)
    obtain ⟨j, hj, ej⟩ := vp_in_of vb (by decide)
    have pa := p3' (by rw [e]; decide)
    rw [pa, ei, ej, e, nI_add]
    by_cases w : x_registers (4 * s + i) = 0
    · exact ⟨_, _, fun post h => xk_op7 hs hi (fun _ => h) (fun z => absurd w z), fun post h => yk_op7 hi hs hL (fun _ => h) (fun z => absurd w z), uk_Rmk (uk_All_pl (l := j) A hs hp hz hb (by omega))⟩
    · exact ⟨_, _, fun post h => xk_op7 hs hi (fun z => absurd z w) (fun _ => h), fun post h => yk_op7 hi hs hL (fun z => absurd z w) (fun _ => h), uk_Rmk A⟩
  · exact absurd e h8
end
end
section
/-! a step -/
section
variable {x_changes x_saidCount x_time x_lastSlot x_sliceSteps x_latestPid x_greatestPid : Int32} {x_code x_codeLengths x_pids x_parents x_programs x_places x_states x_statuses x_stepCounts x_copyCounts x_wakeTimes x_registers x_pageCounts x_pageFrames x_held x_frameUsers x_frameWords x_openHolders x_openKinds x_openTargets x_openPlaces x_openModes x_pipeFirsts x_pipeCounts x_pipeWords x_nameFiles x_fileSizes x_fileWords x_safeNames x_safeSizes x_safeWords x_saidInts : Nat → Int32} {y_time y_last y_lastPid y_did y_killed : Int32} {y_ops y_as y_bs y_pages y_wake y_zombie y_blocked y_memory y_frame y_kind y_mode y_pipe y_size y_safeSize y_said : Nat → Int32}
theorem uk_RmkT {t b : Nat} (yt kk : Int32) (h : uk_All t b x_changes x_saidCount x_time x_lastSlot x_sliceSteps x_latestPid x_greatestPid x_code x_codeLengths x_pids x_parents x_programs x_places x_states x_statuses x_stepCounts x_copyCounts x_wakeTimes x_registers x_pageCounts x_pageFrames x_held x_frameUsers x_frameWords x_openHolders x_openKinds x_openTargets x_openPlaces x_openModes x_pipeFirsts x_pipeCounts x_pipeWords x_nameFiles x_fileSizes x_fileWords x_safeNames x_safeSizes x_safeWords x_saidInts y_time y_last y_lastPid y_did y_killed y_ops y_as y_bs y_pages y_wake y_zombie y_blocked y_memory y_frame y_kind y_mode y_pipe y_size y_safeSize y_said) : uk_R yt t b (x_changes, x_saidCount, x_time, x_lastSlot, x_sliceSteps, x_latestPid, x_greatestPid, x_code, x_codeLengths, x_pids, x_parents, x_programs, x_places, x_states, x_statuses, x_stepCounts, x_copyCounts, x_wakeTimes, x_registers, x_pageCounts, x_pageFrames, x_held, x_frameUsers, x_frameWords, x_openHolders, x_openKinds, x_openTargets, x_openPlaces, x_openModes, x_pipeFirsts, x_pipeCounts, x_pipeWords, x_nameFiles, x_fileSizes, x_fileWords, x_safeNames, x_safeSizes, x_safeWords, x_saidInts) (x_changes, yt, y_last, y_lastPid, y_did, x_greatestPid, x_latestPid, x_saidCount, kk, y_ops, y_as, y_bs, x_codeLengths, x_pids, x_parents, x_programs, x_places, x_statuses, x_stepCounts, x_copyCounts, y_pages, y_wake, y_zombie, y_blocked, x_registers, y_memory, y_frame, x_held, y_kind, x_openTargets, y_mode, x_openPlaces, x_pipeCounts, y_pipe, x_nameFiles, y_size, x_fileWords, x_safeNames, y_safeSize, x_safeWords, y_said) := ⟨x_changes, x_saidCount, x_time, x_lastSlot, x_sliceSteps, x_latestPid, x_greatestPid, x_code, x_codeLengths, x_pids, x_parents, x_programs, x_places, x_states, x_statuses, x_stepCounts, x_copyCounts, x_wakeTimes, x_registers, x_pageCounts, x_pageFrames, x_held, x_frameUsers, x_frameWords, x_openHolders, x_openKinds, x_openTargets, x_openPlaces, x_openModes, x_pipeFirsts, x_pipeCounts, x_pipeWords, x_nameFiles, x_fileSizes, x_fileWords, x_safeNames, x_safeSizes, x_safeWords, x_saidInts, y_time, y_last, y_lastPid, y_did, kk, y_ops, y_as, y_bs, y_pages, y_wake, y_zombie, y_blocked, y_memory, y_frame, y_kind, y_mode, y_pipe, y_size, y_safeSize, y_said, rfl, rfl, h⟩
theorem uk_Rup {yt : Int32} {t b : Nat} {u : SX} {v : SY} (h : uk_R yt t b u v) : uk_R yt t (b + 1) u v := by
  obtain ⟨x_changes, x_saidCount, x_time, x_lastSlot, x_sliceSteps, x_latestPid, x_greatestPid, x_code, x_codeLengths, x_pids, x_parents, x_programs, x_places, x_states, x_statuses, x_stepCounts, x_copyCounts, x_wakeTimes, x_registers, x_pageCounts, x_pageFrames, x_held, x_frameUsers, x_frameWords, x_openHolders, x_openKinds, x_openTargets, x_openPlaces, x_openModes, x_pipeFirsts, x_pipeCounts, x_pipeWords, x_nameFiles, x_fileSizes, x_fileWords, x_safeNames, x_safeSizes, x_safeWords, x_saidInts, y_time, y_last, y_lastPid, y_did, y_killed, y_ops, y_as, y_bs, y_pages, y_wake, y_zombie, y_blocked, y_memory, y_frame, y_kind, y_mode, y_pipe, y_size, y_safeSize, y_said, rfl, rfl, A⟩ := h
  exact ⟨x_changes, x_saidCount, x_time, x_lastSlot, x_sliceSteps, x_latestPid, x_greatestPid, x_code, x_codeLengths, x_pids, x_parents, x_programs, x_places, x_states, x_statuses, x_stepCounts, x_copyCounts, x_wakeTimes, x_registers, x_pageCounts, x_pageFrames, x_held, x_frameUsers, x_frameWords, x_openHolders, x_openKinds, x_openTargets, x_openPlaces, x_openModes, x_pipeFirsts, x_pipeCounts, x_pipeWords, x_nameFiles, x_fileSizes, x_fileWords, x_safeNames, x_safeSizes, x_safeWords, x_saidInts, y_time, y_last, y_lastPid, y_did, y_killed, y_ops, y_as, y_bs, y_pages, y_wake, y_zombie, y_blocked, y_memory, y_frame, y_kind, y_mode, y_pipe, y_size, y_safeSize, y_said, rfl, rfl, uk_up1 (Nat.le_succ b) A⟩
theorem uk_step {t b s : Nat} {ls0 sl0 di0 : Int32} (A : uk_All t b x_changes x_saidCount x_time ls0 sl0 x_latestPid x_greatestPid x_code x_codeLengths x_pids x_parents x_programs x_places x_states x_statuses x_stepCounts x_copyCounts x_wakeTimes x_registers x_pageCounts x_pageFrames x_held x_frameUsers x_frameWords x_openHolders x_openKinds x_openTargets x_openPlaces x_openModes x_pipeFirsts x_pipeCounts x_pipeWords x_nameFiles x_fileSizes x_fileWords x_safeNames x_safeSizes x_safeWords x_saidInts y_time y_last y_lastPid di0 y_killed y_ops y_as y_bs y_pages y_wake y_zombie y_blocked y_memory y_frame y_kind y_mode y_pipe y_size y_safeSize y_said) (ht : t < 2000000000) (hbt : b ≤ t) (hs : s < 8) (hRd : uk_Rd x_pids x_parents y_zombie y_blocked x_programs x_places y_bs y_wake x_registers x_held y_kind x_openTargets x_pipeCounts x_time s) (hls : x_lastSlot = nI s) (hsl : x_sliceSteps = y_did) :
  ∃ u' v', (∀ post : SX → Prop, post u' → wpX_step post (x_changes, x_saidCount, x_time, x_lastSlot, x_sliceSteps, x_latestPid, x_greatestPid, x_code, x_codeLengths, x_pids, x_parents, x_programs, x_places, x_states, x_statuses, x_stepCounts, x_copyCounts, x_wakeTimes, x_registers, x_pageCounts, x_pageFrames, x_held, x_frameUsers, x_frameWords, x_openHolders, x_openKinds, x_openTargets, x_openPlaces, x_openModes, x_pipeFirsts, x_pipeCounts, x_pipeWords, x_nameFiles, x_fileSizes, x_fileWords, x_safeNames, x_safeSizes, x_safeWords, x_saidInts) (nI s)) ∧ (∀ post : SY → Prop, post v' → wpY_step post (x_changes, x_time, y_last, y_lastPid, y_did, x_greatestPid, x_latestPid, x_saidCount, y_killed, y_ops, y_as, y_bs, x_codeLengths, x_pids, x_parents, x_programs, x_places, x_statuses, x_stepCounts, x_copyCounts, y_pages, y_wake, y_zombie, y_blocked, x_registers, y_memory, y_frame, x_held, y_kind, x_openTargets, y_mode, x_openPlaces, x_pipeCounts, y_pipe, x_nameFiles, y_size, x_fileWords, x_safeNames, y_safeSize, x_safeWords, y_said) (nI s)) ∧ uk_R (nI (t + 1)) (t + 1) (b + 1) u' v' := by
  obtain ⟨_, vs, es⟩ := uk_lp 8 hs (by decide)
  obtain ⟨hp, hz, hrd⟩ := hRd
  have eT := uk_aeT A
  have eT1 : x_time + 1 = nI (t + 1) := by rw [eT]; exact nI_1 t
  obtain ⟨g, l, m, hg, hl, hm, eg, el, em, hval⟩ := uk_gl (uk_aPr A) (uk_aPs A) hs
  have hSc1 : uk_Sc x_pids x_lastSlot (x_sliceSteps + 1) (nI s) (x_pids s) (y_did + 1) := ⟨by rw [hls]; exact vs, vs, Or.inr ⟨hls, Or.inr ⟨by rw [es], by rw [hsl]⟩⟩⟩
  have hWk1 : uk_Wk x_pids y_zombie y_blocked x_programs x_places x_codeLengths y_ops y_bs x_wakeTimes y_wake x_registers x_held y_kind (t + 1) := uk_WkC (Nat.le_succ t) (uk_aWk A) (fun s' _ h1 h2 => Or.inr ⟨h1, h2, rfl, rfl, rfl, rfl, rfl, rfl, fun _ _ => rfl, fun _ _ _ _ _ _ => rfl⟩)
  have AH : uk_All (t + 1) b x_changes x_saidCount (nI (t + 1)) x_lastSlot (x_sliceSteps + 1) (x_pids s) x_greatestPid x_code x_codeLengths x_pids x_parents x_programs x_places x_states x_statuses (upd x_stepCounts s (x_stepCounts s + 1)) x_copyCounts x_wakeTimes x_registers x_pageCounts x_pageFrames x_held x_frameUsers x_frameWords x_openHolders x_openKinds x_openTargets x_openPlaces x_openModes x_pipeFirsts x_pipeCounts x_pipeWords x_nameFiles x_fileSizes x_fileWords x_safeNames x_safeSizes x_safeWords x_saidInts x_time (nI s) (x_pids s) (y_did + 1) 0 y_ops y_as y_bs y_pages y_wake y_zombie y_blocked y_memory y_frame y_kind y_mode y_pipe y_size y_safeSize y_said := ⟨uk_aG A, uk_aN A, uk_aC A, rfl, uk_aPr A, uk_aPs A, uk_aMe A, uk_aFu A, uk_aHd A, uk_aHo A, uk_aOk A, uk_aPi A, uk_aFi A, uk_aSa A, hSc1, hWk1⟩
  have vg : vp_in (nI g) 6 := vp_in_nI hg (by decide)
  have hXs : ∀ post : SX → Prop, ((nI l < nI m → (vp_in (nI s) 8 ∧ ∀ L', L' = upd x_places s (nI l + 1) → (vp_in (nI s) 8 ∧ ∀ st', st' = upd x_states s 1 → wpX_codeIndex (fun r => (vp_in r 432 ∧ ((x_code r.toNatClampNeg = 8 → (vp_in (r + 2) 432 ∧ wpX_blocks (fun r_61 u => match u with | (x_changes, x_saidCount, x_time, x_lastSlot, x_sliceSteps, x_latestPid, x_greatestPid, x_code, x_codeLengths, x_pids, x_parents, x_programs, x_places, x_states, x_statuses, x_stepCounts, x_copyCounts, x_wakeTimes, x_registers, x_pageCounts, x_pageFrames, x_held, x_frameUsers, x_frameWords, x_openHolders, x_openKinds, x_openTargets, x_openPlaces, x_openModes, x_pipeFirsts, x_pipeCounts, x_pipeWords, x_nameFiles, x_fileSizes, x_fileWords, x_safeNames, x_safeSizes, x_safeWords, x_saidInts) => ((r_61 = 0 → (vp_in (r + 2) 432 ∧ wpX_doCall (fun u => match u with | (x_changes, x_saidCount, x_time, x_lastSlot, x_sliceSteps, x_latestPid, x_greatestPid, x_code, x_codeLengths, x_pids, x_parents, x_programs, x_places, x_states, x_statuses, x_stepCounts, x_copyCounts, x_wakeTimes, x_registers, x_pageCounts, x_pageFrames, x_held, x_frameUsers, x_frameWords, x_openHolders, x_openKinds, x_openTargets, x_openPlaces, x_openModes, x_pipeFirsts, x_pipeCounts, x_pipeWords, x_nameFiles, x_fileSizes, x_fileWords, x_safeNames, x_safeSizes, x_safeWords, x_saidInts) => post (x_changes, x_saidCount, x_time, x_lastSlot, x_sliceSteps, x_latestPid, x_greatestPid, x_code, x_codeLengths, x_pids, x_parents, x_programs, x_places, x_states, x_statuses, x_stepCounts, x_copyCounts, x_wakeTimes, x_registers, x_pageCounts, x_pageFrames, x_held, x_frameUsers, x_frameWords, x_openHolders, x_openKinds, x_openTargets, x_openPlaces, x_openModes, x_pipeFirsts, x_pipeCounts, x_pipeWords, x_nameFiles, x_fileSizes, x_fileWords, x_safeNames, x_safeSizes, x_safeWords, x_saidInts)) (x_changes, x_saidCount, x_time, x_lastSlot, x_sliceSteps, x_latestPid, x_greatestPid, x_code, x_codeLengths, x_pids, x_parents, x_programs, x_places, x_states, x_statuses, x_stepCounts, x_copyCounts, x_wakeTimes, x_registers, x_pageCounts, x_pageFrames, x_held, x_frameUsers, x_frameWords, x_openHolders, x_openKinds, x_openTargets, x_openPlaces, x_openModes, x_pipeFirsts, x_pipeCounts, x_pipeWords, x_nameFiles, x_fileSizes, x_fileWords, x_safeNames, x_safeSizes, x_safeWords, x_saidInts) (nI s) (x_code (r + 2).toNatClampNeg))) ∧ (¬ r_61 = 0 → post (x_changes, x_saidCount, x_time, x_lastSlot, x_sliceSteps, x_latestPid, x_greatestPid, x_code, x_codeLengths, x_pids, x_parents, x_programs, x_places, x_states, x_statuses, x_stepCounts, x_copyCounts, x_wakeTimes, x_registers, x_pageCounts, x_pageFrames, x_held, x_frameUsers, x_frameWords, x_openHolders, x_openKinds, x_openTargets, x_openPlaces, x_openModes, x_pipeFirsts, x_pipeCounts, x_pipeWords, x_nameFiles, x_fileSizes, x_fileWords, x_safeNames, x_safeSizes, x_safeWords, x_saidInts)))) (x_changes, x_saidCount, nI (t + 1), x_lastSlot, x_sliceSteps + 1, x_pids s, x_greatestPid, x_code, x_codeLengths, x_pids, x_parents, x_programs, L', st', x_statuses, upd x_stepCounts s (x_stepCounts s + 1), x_copyCounts, x_wakeTimes, x_registers, x_pageCounts, x_pageFrames, x_held, x_frameUsers, x_frameWords, x_openHolders, x_openKinds, x_openTargets, x_openPlaces, x_openModes, x_pipeFirsts, x_pipeCounts, x_pipeWords, x_nameFiles, x_fileSizes, x_fileWords, x_safeNames, x_safeSizes, x_safeWords, x_saidInts) (nI s) (x_code (r + 2).toNatClampNeg))) ∧ (¬ x_code r.toNatClampNeg = 8 → (vp_in r 432 ∧ (vp_in (r + 1) 432 ∧ (vp_in (r + 2) 432 ∧ wpX_compute (fun u => match u with | (x_changes, x_saidCount, x_time, x_lastSlot, x_sliceSteps, x_latestPid, x_greatestPid, x_code, x_codeLengths, x_pids, x_parents, x_programs, x_places, x_states, x_statuses, x_stepCounts, x_copyCounts, x_wakeTimes, x_registers, x_pageCounts, x_pageFrames, x_held, x_frameUsers, x_frameWords, x_openHolders, x_openKinds, x_openTargets, x_openPlaces, x_openModes, x_pipeFirsts, x_pipeCounts, x_pipeWords, x_nameFiles, x_fileSizes, x_fileWords, x_safeNames, x_safeSizes, x_safeWords, x_saidInts) => post (x_changes, x_saidCount, x_time, x_lastSlot, x_sliceSteps, x_latestPid, x_greatestPid, x_code, x_codeLengths, x_pids, x_parents, x_programs, x_places, x_states, x_statuses, x_stepCounts, x_copyCounts, x_wakeTimes, x_registers, x_pageCounts, x_pageFrames, x_held, x_frameUsers, x_frameWords, x_openHolders, x_openKinds, x_openTargets, x_openPlaces, x_openModes, x_pipeFirsts, x_pipeCounts, x_pipeWords, x_nameFiles, x_fileSizes, x_fileWords, x_safeNames, x_safeSizes, x_safeWords, x_saidInts)) (x_changes, x_saidCount, nI (t + 1), x_lastSlot, x_sliceSteps + 1, x_pids s, x_greatestPid, x_code, x_codeLengths, x_pids, x_parents, x_programs, L', st', x_statuses, upd x_stepCounts s (x_stepCounts s + 1), x_copyCounts, x_wakeTimes, x_registers, x_pageCounts, x_pageFrames, x_held, x_frameUsers, x_frameWords, x_openHolders, x_openKinds, x_openTargets, x_openPlaces, x_openModes, x_pipeFirsts, x_pipeCounts, x_pipeWords, x_nameFiles, x_fileSizes, x_fileWords, x_safeNames, x_safeSizes, x_safeWords, x_saidInts) (nI s) (x_code r.toNatClampNeg) (x_code (r + 1).toNatClampNeg) (x_code (r + 2).toNatClampNeg)))))))) (x_changes, x_saidCount, nI (t + 1), x_lastSlot, x_sliceSteps + 1, x_pids s, x_greatestPid, x_code, x_codeLengths, x_pids, x_parents, x_programs, L', st', x_statuses, upd x_stepCounts s (x_stepCounts s + 1), x_copyCounts, x_wakeTimes, x_registers, x_pageCounts, x_pageFrames, x_held, x_frameUsers, x_frameWords, x_openHolders, x_openKinds, x_openTargets, x_openPlaces, x_openModes, x_pipeFirsts, x_pipeCounts, x_pipeWords, x_nameFiles, x_fileSizes, x_fileWords, x_safeNames, x_safeSizes, x_safeWords, x_saidInts) (nI g) (nI l)))) ∧ (¬ nI l < nI m → (vp_in (nI s * 4) 32 ∧ wpX_endProcess (fun u => match u with | (x_changes, x_saidCount, x_time, x_lastSlot, x_sliceSteps, x_latestPid, x_greatestPid, x_code, x_codeLengths, x_pids, x_parents, x_programs, x_places, x_states, x_statuses, x_stepCounts, x_copyCounts, x_wakeTimes, x_registers, x_pageCounts, x_pageFrames, x_held, x_frameUsers, x_frameWords, x_openHolders, x_openKinds, x_openTargets, x_openPlaces, x_openModes, x_pipeFirsts, x_pipeCounts, x_pipeWords, x_nameFiles, x_fileSizes, x_fileWords, x_safeNames, x_safeSizes, x_safeWords, x_saidInts) => post (x_changes, x_saidCount, x_time, x_lastSlot, x_sliceSteps, x_latestPid, x_greatestPid, x_code, x_codeLengths, x_pids, x_parents, x_programs, x_places, x_states, x_statuses, x_stepCounts, x_copyCounts, x_wakeTimes, x_registers, x_pageCounts, x_pageFrames, x_held, x_frameUsers, x_frameWords, x_openHolders, x_openKinds, x_openTargets, x_openPlaces, x_openModes, x_pipeFirsts, x_pipeCounts, x_pipeWords, x_nameFiles, x_fileSizes, x_fileWords, x_safeNames, x_safeSizes, x_safeWords, x_saidInts)) (x_changes, x_saidCount, nI (t + 1), x_lastSlot, x_sliceSteps + 1, x_pids s, x_greatestPid, x_code, x_codeLengths, x_pids, x_parents, x_programs, x_places, x_states, x_statuses, upd x_stepCounts s (x_stepCounts s + 1), x_copyCounts, x_wakeTimes, x_registers, x_pageCounts, x_pageFrames, x_held, x_frameUsers, x_frameWords, x_openHolders, x_openKinds, x_openTargets, x_openPlaces, x_openModes, x_pipeFirsts, x_pipeCounts, x_pipeWords, x_nameFiles, x_fileSizes, x_fileWords, x_safeNames, x_safeSizes, x_safeWords, x_saidInts) (nI s) (x_registers (nI s * 4).toNatClampNeg)))) → wpX_step post (x_changes, x_saidCount, x_time, x_lastSlot, x_sliceSteps, x_latestPid, x_greatestPid, x_code, x_codeLengths, x_pids, x_parents, x_programs, x_places, x_states, x_statuses, x_stepCounts, x_copyCounts, x_wakeTimes, x_registers, x_pageCounts, x_pageFrames, x_held, x_frameUsers, x_frameWords, x_openHolders, x_openKinds, x_openTargets, x_openPlaces, x_openModes, x_pipeFirsts, x_pipeCounts, x_pipeWords, x_nameFiles, x_fileSizes, x_fileWords, x_safeNames, x_safeSizes, x_safeWords, x_saidInts) (nI s) := fun post h => by
    unfold wpX_step
    refine ⟨vs, ?_⟩
    rw [es, eg, el, eT1]
    refine nm_e ⟨vs, nm_e (nm_e (nm_e ⟨vs, vs, nm_e ⟨vs, nm_e ⟨vg, ?_⟩⟩⟩))⟩
    rw [nI_clamp (show g < 2 ^ 31 by omega), em]
    exact h
  have hYs : ∀ post : SY → Prop, ((nI l < nI m → (vp_in (nI s) 8 ∧ (vp_in (nI s) 8 ∧ ∀ k, k = 24 * nI g + nI l → (vp_in k 144 ∧ ((y_ops k.toNatClampNeg = 8 → (vp_in k 144 ∧ wpY_call (fun u => match u with | (y_changes, y_time, y_last, y_lastPid, y_did, y_greatest, y_stepped, y_says, y_killed, y_ops, y_as, y_bs, y_length, y_pid, y_parent, y_program, y_pc, y_status, y_steps, y_copies, y_pages, y_wake, y_zombie, y_blocked, y_reg, y_memory, y_frame, y_descriptor, y_kind, y_of, y_mode, y_place, y_piped, y_pipe, y_names, y_size, y_words, y_safeNames, y_safeSize, y_safeWords, y_said) => ∀ y, y = y_time + 1 → post (y_changes, y, y_last, y_lastPid, y_did, y_greatest, y_stepped, y_says, y_killed, y_ops, y_as, y_bs, y_length, y_pid, y_parent, y_program, y_pc, y_status, y_steps, y_copies, y_pages, y_wake, y_zombie, y_blocked, y_reg, y_memory, y_frame, y_descriptor, y_kind, y_of, y_mode, y_place, y_piped, y_pipe, y_names, y_size, y_words, y_safeNames, y_safeSize, y_safeWords, y_said)) (x_changes, x_time, nI s, x_pids s, y_did + 1, x_greatestPid, x_pids s, x_saidCount, 0, y_ops, y_as, y_bs, x_codeLengths, x_pids, x_parents, x_programs, x_places, x_statuses, upd x_stepCounts s (x_stepCounts s + 1), x_copyCounts, y_pages, y_wake, y_zombie, y_blocked, x_registers, y_memory, y_frame, x_held, y_kind, x_openTargets, y_mode, x_openPlaces, x_pipeCounts, y_pipe, x_nameFiles, y_size, x_fileWords, x_safeNames, y_safeSize, x_safeWords, y_said) (nI s) (y_bs k.toNatClampNeg))) ∧ (¬ y_ops k.toNatClampNeg = 8 → (vp_in k 144 ∧ (vp_in k 144 ∧ (vp_in k 144 ∧ wpY_plain (fun u => match u with | (y_changes, y_time, y_last, y_lastPid, y_did, y_greatest, y_stepped, y_says, y_killed, y_ops, y_as, y_bs, y_length, y_pid, y_parent, y_program, y_pc, y_status, y_steps, y_copies, y_pages, y_wake, y_zombie, y_blocked, y_reg, y_memory, y_frame, y_descriptor, y_kind, y_of, y_mode, y_place, y_piped, y_pipe, y_names, y_size, y_words, y_safeNames, y_safeSize, y_safeWords, y_said) => ∀ y, y = y_time + 1 → post (y_changes, y, y_last, y_lastPid, y_did, y_greatest, y_stepped, y_says, y_killed, y_ops, y_as, y_bs, y_length, y_pid, y_parent, y_program, y_pc, y_status, y_steps, y_copies, y_pages, y_wake, y_zombie, y_blocked, y_reg, y_memory, y_frame, y_descriptor, y_kind, y_of, y_mode, y_place, y_piped, y_pipe, y_names, y_size, y_words, y_safeNames, y_safeSize, y_safeWords, y_said)) (x_changes, x_time, nI s, x_pids s, y_did + 1, x_greatestPid, x_pids s, x_saidCount, 0, y_ops, y_as, y_bs, x_codeLengths, x_pids, x_parents, x_programs, x_places, x_statuses, upd x_stepCounts s (x_stepCounts s + 1), x_copyCounts, y_pages, y_wake, y_zombie, y_blocked, x_registers, y_memory, y_frame, x_held, y_kind, x_openTargets, y_mode, x_openPlaces, x_pipeCounts, y_pipe, x_nameFiles, y_size, x_fileWords, x_safeNames, y_safeSize, x_safeWords, y_said) (nI s) (y_ops k.toNatClampNeg) ((4 * nI s) + (y_as k.toNatClampNeg)) (y_bs k.toNatClampNeg)))))))))) ∧ (¬ nI l < nI m → (vp_in (4 * nI s) 32 ∧ wpY_exit (fun u => match u with | (y_changes, y_time, y_last, y_lastPid, y_did, y_greatest, y_stepped, y_says, y_killed, y_ops, y_as, y_bs, y_length, y_pid, y_parent, y_program, y_pc, y_status, y_steps, y_copies, y_pages, y_wake, y_zombie, y_blocked, y_reg, y_memory, y_frame, y_descriptor, y_kind, y_of, y_mode, y_place, y_piped, y_pipe, y_names, y_size, y_words, y_safeNames, y_safeSize, y_safeWords, y_said) => ∀ y, y = y_time + 1 → post (y_changes, y, y_last, y_lastPid, y_did, y_greatest, y_stepped, y_says, y_killed, y_ops, y_as, y_bs, y_length, y_pid, y_parent, y_program, y_pc, y_status, y_steps, y_copies, y_pages, y_wake, y_zombie, y_blocked, y_reg, y_memory, y_frame, y_descriptor, y_kind, y_of, y_mode, y_place, y_piped, y_pipe, y_names, y_size, y_words, y_safeNames, y_safeSize, y_safeWords, y_said)) (x_changes, x_time, nI s, x_pids s, y_did + 1, x_greatestPid, x_pids s, x_saidCount, 0, y_ops, y_as, y_bs, x_codeLengths, x_pids, x_parents, x_programs, x_places, x_statuses, upd x_stepCounts s (x_stepCounts s + 1), x_copyCounts, y_pages, y_wake, y_zombie, y_blocked, x_registers, y_memory, y_frame, x_held, y_kind, x_openTargets, y_mode, x_openPlaces, x_pipeCounts, y_pipe, x_nameFiles, y_size, x_fileWords, x_safeNames, y_safeSize, x_safeWords, y_said) (nI s) (x_registers (4 * nI s).toNatClampNeg)))) → wpY_step post (x_changes, x_time, y_last, y_lastPid, y_did, x_greatestPid, x_latestPid, x_saidCount, y_killed, y_ops, y_as, y_bs, x_codeLengths, x_pids, x_parents, x_programs, x_places, x_statuses, x_stepCounts, x_copyCounts, y_pages, y_wake, y_zombie, y_blocked, x_registers, y_memory, y_frame, x_held, y_kind, x_openTargets, y_mode, x_openPlaces, x_pipeCounts, y_pipe, x_nameFiles, y_size, x_fileWords, x_safeNames, y_safeSize, x_safeWords, y_said) (nI s) := fun post h => by
    unfold wpY_step
    refine ⟨vs, ?_⟩
    rw [es, eg, el, nI_clamp (show g < 2 ^ 31 by omega), em]
    exact nm_e ⟨vs, nm_e (nm_e ⟨vs, vs, nm_e ⟨vs, vs, vg, h⟩⟩)⟩
  by_cases hlm : l < m
  · have hlt : nI l < nI m := nI_lt hlm (by omega)
    have eL1 : upd x_places s (nI l + 1) = upd x_places s (nI (l + 1)) := congrArg (upd x_places s) (nI_1 l)
    have hk : 24 * g + l < 144 := by omega
    obtain ⟨p1, p2, p3⟩ := (uk_aPr A).1 (24 * g + l) hk
    have hv := hval l hlm
    have ek : 24 * nI g + nI l = nI (24 * g + l) := by rw [uk_24m, nI_add]
    have v144 : vp_in (nI (24 * g + l)) 144 := vp_in_nI hk (by decide)
    have ck : (nI (24 * g + l)).toNatClampNeg = 24 * g + l := nI_clamp (by omega)
    have w0 : vp_in (nI (3 * (24 * g + l))) 432 := vp_in_nI (by omega) (by decide)
    have w1 : vp_in (nI (3 * (24 * g + l) + 1)) 432 := vp_in_nI (by omega) (by decide)
    have w2 : vp_in (nI (3 * (24 * g + l) + 2)) 432 := vp_in_nI (by omega) (by decide)
    have d0 : (nI (3 * (24 * g + l))).toNatClampNeg = 3 * (24 * g + l) := nI_clamp (by omega)
    have d1 : (nI (3 * (24 * g + l) + 1)).toNatClampNeg = 3 * (24 * g + l) + 1 := nI_clamp (by omega)
    have d2 : (nI (3 * (24 * g + l) + 2)).toNatClampNeg = 3 * (24 * g + l) + 2 := nI_clamp (by omega)
    have hblk := uk_aWk A s hs hp hz
    have eG : (x_programs s).toNatClampNeg = g := by rw [eg, nI_clamp (by omega)]
    have eLc : (x_places s).toNatClampNeg = l := by rw [el, nI_clamp (by omega)]
    have hU : x_statuses s = 0 := by
      rcases (uk_aPs A s hs).2.2.2.2.2.2 hp with ⟨z, _⟩ | ⟨_, z, _⟩
      · exact absurd (hz.symm.trans z) (by decide)
      · exact z
    by_cases h8 : y_ops (24 * g + l) = 8
    · have h8x : x_code (3 * (24 * g + l)) = 8 := p1.symm.trans h8
      obtain ⟨cc, hcc, ecc⟩ : ∃ cc, cc < 19 ∧ x_code (3 * (24 * g + l) + 2) = nI cc := by
        rcases hv with ⟨e, _⟩ | ⟨e, _⟩ | ⟨e, _⟩ | ⟨e, _⟩ | ⟨_, vb⟩
        · rw [h8x] at e; exact absurd e (by decide)
        · rw [h8x] at e; rcases e with e | e | e | e | e <;> exact absurd e (by decide)
        · rw [h8x] at e; exact absurd e (by decide)
        · rw [h8x] at e; exact absurd e (by decide)
        · exact vp_in_of vb (by decide)
      have ebs : y_bs (24 * g + l) = nI cc := p2.trans ecc
      have hXc : ∀ post : SX → Prop, wpX_blocks (fun r_61 u => match u with | (x_changes, x_saidCount, x_time, x_lastSlot, x_sliceSteps, x_latestPid, x_greatestPid, x_code, x_codeLengths, x_pids, x_parents, x_programs, x_places, x_states, x_statuses, x_stepCounts, x_copyCounts, x_wakeTimes, x_registers, x_pageCounts, x_pageFrames, x_held, x_frameUsers, x_frameWords, x_openHolders, x_openKinds, x_openTargets, x_openPlaces, x_openModes, x_pipeFirsts, x_pipeCounts, x_pipeWords, x_nameFiles, x_fileSizes, x_fileWords, x_safeNames, x_safeSizes, x_safeWords, x_saidInts) => ((r_61 = 0 → (vp_in (nI (3 * (24 * g + l) + 2)) 432 ∧ wpX_doCall (fun u => match u with | (x_changes, x_saidCount, x_time, x_lastSlot, x_sliceSteps, x_latestPid, x_greatestPid, x_code, x_codeLengths, x_pids, x_parents, x_programs, x_places, x_states, x_statuses, x_stepCounts, x_copyCounts, x_wakeTimes, x_registers, x_pageCounts, x_pageFrames, x_held, x_frameUsers, x_frameWords, x_openHolders, x_openKinds, x_openTargets, x_openPlaces, x_openModes, x_pipeFirsts, x_pipeCounts, x_pipeWords, x_nameFiles, x_fileSizes, x_fileWords, x_safeNames, x_safeSizes, x_safeWords, x_saidInts) => post (x_changes, x_saidCount, x_time, x_lastSlot, x_sliceSteps, x_latestPid, x_greatestPid, x_code, x_codeLengths, x_pids, x_parents, x_programs, x_places, x_states, x_statuses, x_stepCounts, x_copyCounts, x_wakeTimes, x_registers, x_pageCounts, x_pageFrames, x_held, x_frameUsers, x_frameWords, x_openHolders, x_openKinds, x_openTargets, x_openPlaces, x_openModes, x_pipeFirsts, x_pipeCounts, x_pipeWords, x_nameFiles, x_fileSizes, x_fileWords, x_safeNames, x_safeSizes, x_safeWords, x_saidInts)) (x_changes, x_saidCount, x_time, x_lastSlot, x_sliceSteps, x_latestPid, x_greatestPid, x_code, x_codeLengths, x_pids, x_parents, x_programs, x_places, x_states, x_statuses, x_stepCounts, x_copyCounts, x_wakeTimes, x_registers, x_pageCounts, x_pageFrames, x_held, x_frameUsers, x_frameWords, x_openHolders, x_openKinds, x_openTargets, x_openPlaces, x_openModes, x_pipeFirsts, x_pipeCounts, x_pipeWords, x_nameFiles, x_fileSizes, x_fileWords, x_safeNames, x_safeSizes, x_safeWords, x_saidInts) (nI s) (x_code (3 * (24 * g + l) + 2)))) ∧ (¬ r_61 = 0 → post (x_changes, x_saidCount, x_time, x_lastSlot, x_sliceSteps, x_latestPid, x_greatestPid, x_code, x_codeLengths, x_pids, x_parents, x_programs, x_places, x_states, x_statuses, x_stepCounts, x_copyCounts, x_wakeTimes, x_registers, x_pageCounts, x_pageFrames, x_held, x_frameUsers, x_frameWords, x_openHolders, x_openKinds, x_openTargets, x_openPlaces, x_openModes, x_pipeFirsts, x_pipeCounts, x_pipeWords, x_nameFiles, x_fileSizes, x_fileWords, x_safeNames, x_safeSizes, x_safeWords, x_saidInts)))) (x_changes, x_saidCount, nI (t + 1), x_lastSlot, x_sliceSteps + 1, x_pids s, x_greatestPid, x_code, x_codeLengths, x_pids, x_parents, x_programs, upd x_places s (nI (l + 1)), upd x_states s 1, x_statuses, upd x_stepCounts s (x_stepCounts s + 1), x_copyCounts, x_wakeTimes, x_registers, x_pageCounts, x_pageFrames, x_held, x_frameUsers, x_frameWords, x_openHolders, x_openKinds, x_openTargets, x_openPlaces, x_openModes, x_pipeFirsts, x_pipeCounts, x_pipeWords, x_nameFiles, x_fileSizes, x_fileWords, x_safeNames, x_safeSizes, x_safeWords, x_saidInts) (nI s) (nI cc) → wpX_step post (x_changes, x_saidCount, x_time, x_lastSlot, x_sliceSteps, x_latestPid, x_greatestPid, x_code, x_codeLengths, x_pids, x_parents, x_programs, x_places, x_states, x_statuses, x_stepCounts, x_copyCounts, x_wakeTimes, x_registers, x_pageCounts, x_pageFrames, x_held, x_frameUsers, x_frameWords, x_openHolders, x_openKinds, x_openTargets, x_openPlaces, x_openModes, x_pipeFirsts, x_pipeCounts, x_pipeWords, x_nameFiles, x_fileSizes, x_fileWords, x_safeNames, x_safeSizes, x_safeWords, x_saidInts) (nI s) := fun post h => by
        refine hXs post (br_t hlt ⟨vs, nm_r eL1 ⟨vs, nm_e ?_⟩⟩)
        unfold wpX_codeIndex
        dsimp only
        rw [uk_cix2, uk_cix1, uk_cix, d0, d1, d2]
        refine ⟨w0, br_t h8x ⟨w2, ?_⟩⟩
        rw [ecc]
        exact h
      have hYc : ∀ post : SY → Prop, wpY_call (fun u => match u with | (y_changes, y_time, y_last, y_lastPid, y_did, y_greatest, y_stepped, y_says, y_killed, y_ops, y_as, y_bs, y_length, y_pid, y_parent, y_program, y_pc, y_status, y_steps, y_copies, y_pages, y_wake, y_zombie, y_blocked, y_reg, y_memory, y_frame, y_descriptor, y_kind, y_of, y_mode, y_place, y_piped, y_pipe, y_names, y_size, y_words, y_safeNames, y_safeSize, y_safeWords, y_said) => ∀ y, y = y_time + 1 → post (y_changes, y, y_last, y_lastPid, y_did, y_greatest, y_stepped, y_says, y_killed, y_ops, y_as, y_bs, y_length, y_pid, y_parent, y_program, y_pc, y_status, y_steps, y_copies, y_pages, y_wake, y_zombie, y_blocked, y_reg, y_memory, y_frame, y_descriptor, y_kind, y_of, y_mode, y_place, y_piped, y_pipe, y_names, y_size, y_words, y_safeNames, y_safeSize, y_safeWords, y_said)) (x_changes, x_time, nI s, x_pids s, y_did + 1, x_greatestPid, x_pids s, x_saidCount, 0, y_ops, y_as, y_bs, x_codeLengths, x_pids, x_parents, x_programs, x_places, x_statuses, upd x_stepCounts s (x_stepCounts s + 1), x_copyCounts, y_pages, y_wake, y_zombie, y_blocked, x_registers, y_memory, y_frame, x_held, y_kind, x_openTargets, y_mode, x_openPlaces, x_pipeCounts, y_pipe, x_nameFiles, y_size, x_fileWords, x_safeNames, y_safeSize, x_safeWords, y_said) (nI s) (nI cc) → wpY_step post (x_changes, x_time, y_last, y_lastPid, y_did, x_greatestPid, x_latestPid, x_saidCount, y_killed, y_ops, y_as, y_bs, x_codeLengths, x_pids, x_parents, x_programs, x_places, x_statuses, x_stepCounts, x_copyCounts, y_pages, y_wake, y_zombie, y_blocked, x_registers, y_memory, y_frame, x_held, y_kind, x_openTargets, y_mode, x_openPlaces, x_pipeCounts, y_pipe, x_nameFiles, y_size, x_fileWords, x_safeNames, y_safeSize, x_safeWords, y_said) (nI s) := fun post h => by
        refine hYs post (br_t hlt ⟨vs, vs, nm_r ek ⟨v144, ?_⟩⟩)
        rw [ck]
        refine br_t h8 ⟨v144, ?_⟩
        rw [ebs]
        exact h
      have vr0 : vp_in (nI (4 * s)) 32 := vp_in_nI (by omega) (by decide)
      have vr1 : vp_in (nI (4 * s + 1)) 32 := vp_in_nI (by omega) (by decide)
      have ePs : ∀ q : Int32, upd (upd x_places s (nI (l + 1))) s (nI (l + 1) - 1) = x_places := fun _ => by
        rw [uk_uu]
        have e1 : nI (l + 1) - 1 = x_places s := (nI_pred l).trans el.symm
        rw [e1]
        exact uk_uself _ _
      have AM : uk_All (t + 1) b x_changes x_saidCount (nI (t + 1)) x_lastSlot (x_sliceSteps + 1) (x_pids s) x_greatestPid x_code x_codeLengths x_pids x_parents x_programs (upd x_places s (nI (l + 1))) (upd x_states s 1) x_statuses (upd x_stepCounts s (x_stepCounts s + 1)) x_copyCounts (upd x_wakeTimes s 0) x_registers x_pageCounts x_pageFrames x_held x_frameUsers x_frameWords x_openHolders x_openKinds x_openTargets x_openPlaces x_openModes x_pipeFirsts x_pipeCounts x_pipeWords x_nameFiles x_fileSizes x_fileWords x_safeNames x_safeSizes x_safeWords x_saidInts x_time (nI s) (x_pids s) (y_did + 1) 0 y_ops y_as y_bs y_pages (upd y_wake s (-1)) y_zombie (upd y_blocked s 0) y_memory y_frame y_kind y_mode y_pipe y_size y_safeSize y_said :=
        ⟨uk_aG AH, uk_aN AH, uk_aC AH, uk_aeT AH, uk_aPr AH, fun s' hs' => by
          obtain ⟨h1, h2, h3, h4, h5, h6, h7⟩ := uk_aPs A s' hs'
          by_cases w : s' = s
          · subst w
            rw [pk_us, pk_us, pk_us]
            exact ⟨h1, h2, h3, vp_in_nI (by omega) (by decide), h5, Or.inl rfl, fun _ => Or.inr ⟨hz, hU, Or.inl ⟨rfl, rfl⟩⟩⟩
          · rw [pk_un w, pk_un w, pk_un w]
            exact ⟨h1, h2, h3, h4, h5, h6, h7⟩, uk_aMe AH, uk_aFu AH, uk_aHd AH, uk_aHo AH, uk_aOk AH, uk_aPi AH, uk_aFi AH, uk_aSa AH, uk_aSc AH, uk_WkC (Nat.le_refl (t + 1)) hWk1 (fun s' hs' hp' hz' => by
          by_cases w : s' = s
          · subst w
            exact Or.inl ⟨pk_us, pk_us, pk_us⟩
          · exact Or.inr ⟨hp', hz', pk_un w, rfl, pk_un w, pk_un w, pk_un w, rfl, fun _ _ => rfl, fun _ _ _ _ _ _ => rfl⟩)⟩
      have hdo : (cc ≠ 14 → x_wakeTimes s = 0) → (cc = 8 → ¬ uk_Bk x_pids x_parents y_zombie x_registers x_held y_kind x_openTargets x_pipeCounts s 8) → ∃ u' v', (∀ post : SX → Prop, post u' → wpX_doCall post (x_changes, x_saidCount, nI (t + 1), x_lastSlot, x_sliceSteps + 1, x_pids s, x_greatestPid, x_code, x_codeLengths, x_pids, x_parents, x_programs, upd x_places s (nI (l + 1)), upd x_states s 1, x_statuses, upd x_stepCounts s (x_stepCounts s + 1), x_copyCounts, x_wakeTimes, x_registers, x_pageCounts, x_pageFrames, x_held, x_frameUsers, x_frameWords, x_openHolders, x_openKinds, x_openTargets, x_openPlaces, x_openModes, x_pipeFirsts, x_pipeCounts, x_pipeWords, x_nameFiles, x_fileSizes, x_fileWords, x_safeNames, x_safeSizes, x_safeWords, x_saidInts) (nI s) (nI cc)) ∧ (∀ (post : SY → Prop), post v' → ∀ r0 r1 : Int32, r0 = x_registers (4 * s) → r1 = x_registers (4 * s + 1) → ((nI cc = 0 → wpY_exit (fun u => match u with | (y_changes, y_time, y_last, y_lastPid, y_did, y_greatest, y_stepped, y_says, y_killed, y_ops, y_as, y_bs, y_length, y_pid, y_parent, y_program, y_pc, y_status, y_steps, y_copies, y_pages, y_wake, y_zombie, y_blocked, y_reg, y_memory, y_frame, y_descriptor, y_kind, y_of, y_mode, y_place, y_piped, y_pipe, y_names, y_size, y_words, y_safeNames, y_safeSize, y_safeWords, y_said) => (fun u => match u with | (y_changes, y_time, y_last, y_lastPid, y_did, y_greatest, y_stepped, y_says, y_killed, y_ops, y_as, y_bs, y_length, y_pid, y_parent, y_program, y_pc, y_status, y_steps, y_copies, y_pages, y_wake, y_zombie, y_blocked, y_reg, y_memory, y_frame, y_descriptor, y_kind, y_of, y_mode, y_place, y_piped, y_pipe, y_names, y_size, y_words, y_safeNames, y_safeSize, y_safeWords, y_said) => ∀ y, y = y_time + 1 → post (y_changes, y, y_last, y_lastPid, y_did, y_greatest, y_stepped, y_says, y_killed, y_ops, y_as, y_bs, y_length, y_pid, y_parent, y_program, y_pc, y_status, y_steps, y_copies, y_pages, y_wake, y_zombie, y_blocked, y_reg, y_memory, y_frame, y_descriptor, y_kind, y_of, y_mode, y_place, y_piped, y_pipe, y_names, y_size, y_words, y_safeNames, y_safeSize, y_safeWords, y_said)) (y_changes, y_time, y_last, y_lastPid, y_did, y_greatest, y_stepped, y_says, y_killed, y_ops, y_as, y_bs, y_length, y_pid, y_parent, y_program, y_pc, y_status, y_steps, y_copies, y_pages, y_wake, y_zombie, y_blocked, y_reg, y_memory, y_frame, y_descriptor, y_kind, y_of, y_mode, y_place, y_piped, y_pipe, y_names, y_size, y_words, y_safeNames, y_safeSize, y_safeWords, y_said)) (x_changes, x_time, nI s, x_pids s, y_did + 1, x_greatestPid, x_pids s, x_saidCount, 0, y_ops, y_as, y_bs, x_codeLengths, x_pids, x_parents, x_programs, upd x_places s (nI (l + 1)), x_statuses, upd x_stepCounts s (x_stepCounts s + 1), x_copyCounts, y_pages, upd y_wake s (-1), y_zombie, upd y_blocked s 0, x_registers, y_memory, y_frame, x_held, y_kind, x_openTargets, y_mode, x_openPlaces, x_pipeCounts, y_pipe, x_nameFiles, y_size, x_fileWords, x_safeNames, y_safeSize, x_safeWords, y_said) (nI s) r0) ∧ (¬ nI cc = 0 → ((nI cc = 5 → wpY_no (fun r => ((r = 0 → wpY_begin (fun u => match u with | (y_changes, y_time, y_last, y_lastPid, y_did, y_greatest, y_stepped, y_says, y_killed, y_ops, y_as, y_bs, y_length, y_pid, y_parent, y_program, y_pc, y_status, y_steps, y_copies, y_pages, y_wake, y_zombie, y_blocked, y_reg, y_memory, y_frame, y_descriptor, y_kind, y_of, y_mode, y_place, y_piped, y_pipe, y_names, y_size, y_words, y_safeNames, y_safeSize, y_safeWords, y_said) => (fun u => match u with | (y_changes, y_time, y_last, y_lastPid, y_did, y_greatest, y_stepped, y_says, y_killed, y_ops, y_as, y_bs, y_length, y_pid, y_parent, y_program, y_pc, y_status, y_steps, y_copies, y_pages, y_wake, y_zombie, y_blocked, y_reg, y_memory, y_frame, y_descriptor, y_kind, y_of, y_mode, y_place, y_piped, y_pipe, y_names, y_size, y_words, y_safeNames, y_safeSize, y_safeWords, y_said) => ∀ y, y = y_time + 1 → post (y_changes, y, y_last, y_lastPid, y_did, y_greatest, y_stepped, y_says, y_killed, y_ops, y_as, y_bs, y_length, y_pid, y_parent, y_program, y_pc, y_status, y_steps, y_copies, y_pages, y_wake, y_zombie, y_blocked, y_reg, y_memory, y_frame, y_descriptor, y_kind, y_of, y_mode, y_place, y_piped, y_pipe, y_names, y_size, y_words, y_safeNames, y_safeSize, y_safeWords, y_said)) (y_changes, y_time, y_last, y_lastPid, y_did, y_greatest, y_stepped, y_says, y_killed, y_ops, y_as, y_bs, y_length, y_pid, y_parent, y_program, y_pc, y_status, y_steps, y_copies, y_pages, y_wake, y_zombie, y_blocked, y_reg, y_memory, y_frame, y_descriptor, y_kind, y_of, y_mode, y_place, y_piped, y_pipe, y_names, y_size, y_words, y_safeNames, y_safeSize, y_safeWords, y_said)) (x_changes, x_time, nI s, x_pids s, y_did + 1, x_greatestPid, x_pids s, x_saidCount, 0, y_ops, y_as, y_bs, x_codeLengths, x_pids, x_parents, x_programs, upd x_places s (nI (l + 1)), x_statuses, upd x_stepCounts s (x_stepCounts s + 1), x_copyCounts, y_pages, upd y_wake s (-1), y_zombie, upd y_blocked s 0, x_registers, y_memory, y_frame, x_held, y_kind, x_openTargets, y_mode, x_openPlaces, x_pipeCounts, y_pipe, x_nameFiles, y_size, x_fileWords, x_safeNames, y_safeSize, x_safeWords, y_said) (nI s) r0) ∧ (¬ r = 0 → wY_call_127 (fun u => match u with | (y_changes, y_time, y_last, y_lastPid, y_did, y_greatest, y_stepped, y_says, y_killed, y_ops, y_as, y_bs, y_length, y_pid, y_parent, y_program, y_pc, y_status, y_steps, y_copies, y_pages, y_wake, y_zombie, y_blocked, y_reg, y_memory, y_frame, y_descriptor, y_kind, y_of, y_mode, y_place, y_piped, y_pipe, y_names, y_size, y_words, y_safeNames, y_safeSize, y_safeWords, y_said) => ∀ y, y = y_time + 1 → post (y_changes, y, y_last, y_lastPid, y_did, y_greatest, y_stepped, y_says, y_killed, y_ops, y_as, y_bs, y_length, y_pid, y_parent, y_program, y_pc, y_status, y_steps, y_copies, y_pages, y_wake, y_zombie, y_blocked, y_reg, y_memory, y_frame, y_descriptor, y_kind, y_of, y_mode, y_place, y_piped, y_pipe, y_names, y_size, y_words, y_safeNames, y_safeSize, y_safeWords, y_said)) (nI s) (nI cc) r0 r1 x_changes x_time (nI s) (x_pids s) (y_did + 1) x_greatestPid (x_pids s) x_saidCount 0 y_ops y_as y_bs x_codeLengths x_pids x_parents x_programs (upd x_places s (nI (l + 1))) x_statuses (upd x_stepCounts s (x_stepCounts s + 1)) x_copyCounts y_pages (upd y_wake s (-1)) y_zombie (upd y_blocked s 0) x_registers y_memory y_frame x_held y_kind x_openTargets y_mode x_openPlaces x_pipeCounts y_pipe x_nameFiles y_size x_fileWords x_safeNames y_safeSize x_safeWords y_said))) r0 5) ∧ (¬ nI cc = 5 → wY_call_127 (fun u => match u with | (y_changes, y_time, y_last, y_lastPid, y_did, y_greatest, y_stepped, y_says, y_killed, y_ops, y_as, y_bs, y_length, y_pid, y_parent, y_program, y_pc, y_status, y_steps, y_copies, y_pages, y_wake, y_zombie, y_blocked, y_reg, y_memory, y_frame, y_descriptor, y_kind, y_of, y_mode, y_place, y_piped, y_pipe, y_names, y_size, y_words, y_safeNames, y_safeSize, y_safeWords, y_said) => ∀ y, y = y_time + 1 → post (y_changes, y, y_last, y_lastPid, y_did, y_greatest, y_stepped, y_says, y_killed, y_ops, y_as, y_bs, y_length, y_pid, y_parent, y_program, y_pc, y_status, y_steps, y_copies, y_pages, y_wake, y_zombie, y_blocked, y_reg, y_memory, y_frame, y_descriptor, y_kind, y_of, y_mode, y_place, y_piped, y_pipe, y_names, y_size, y_words, y_safeNames, y_safeSize, y_safeWords, y_said)) (nI s) (nI cc) r0 r1 x_changes x_time (nI s) (x_pids s) (y_did + 1) x_greatestPid (x_pids s) x_saidCount 0 y_ops y_as y_bs x_codeLengths x_pids x_parents x_programs (upd x_places s (nI (l + 1))) x_statuses (upd x_stepCounts s (x_stepCounts s + 1)) x_copyCounts y_pages (upd y_wake s (-1)) y_zombie (upd y_blocked s 0) x_registers y_memory y_frame x_held y_kind x_openTargets y_mode x_openPlaces x_pipeCounts y_pipe x_nameFiles y_size x_fileWords x_safeNames y_safeSize x_safeWords y_said))))) ∧ uk_R (nI (t + 1)) (t + 1) (b + 1) u' v' := fun hw hnb => by
        obtain ⟨u', v', h1, h2, h3⟩ := uk_docall (W0 := x_wakeTimes) AM hs hp hz pk_us hcc rfl (fun w => by
          have := hw w
          rw [← this]
          exact (uk_uself _ _).symm) (by rw [es]) (by omega) hnb
        obtain ⟨v2, h4, h5⟩ := uk_tick h3
        rw [eT1] at h4
        exact ⟨u', v2, h1, fun post h r0 r1 e0 e1 => h2 (fun u => match u with | (y_changes, y_time, y_last, y_lastPid, y_did, y_greatest, y_stepped, y_says, y_killed, y_ops, y_as, y_bs, y_length, y_pid, y_parent, y_program, y_pc, y_status, y_steps, y_copies, y_pages, y_wake, y_zombie, y_blocked, y_reg, y_memory, y_frame, y_descriptor, y_kind, y_of, y_mode, y_place, y_piped, y_pipe, y_names, y_size, y_words, y_safeNames, y_safeSize, y_safeWords, y_said) => ∀ y, y = y_time + 1 → post (y_changes, y, y_last, y_lastPid, y_did, y_greatest, y_stepped, y_says, y_killed, y_ops, y_as, y_bs, y_length, y_pid, y_parent, y_program, y_pc, y_status, y_steps, y_copies, y_pages, y_wake, y_zombie, y_blocked, y_reg, y_memory, y_frame, y_descriptor, y_kind, y_of, y_mode, y_place, y_piped, y_pipe, y_names, y_size, y_words, y_safeNames, y_safeSize, y_safeWords, y_said)) r0 r1 e0 e1 (h5 post h), h4⟩
      have hLL : upd x_places s (x_places s + 1) = upd x_places s (nI (l + 1)) := by rw [el, nI_1]
      have hX11 : ∀ post : SX → Prop, (∀ K : Int32 → Prop, K 0 → wpX_wouldBlock K (x_changes, x_saidCount, nI (t + 1), x_lastSlot, x_sliceSteps + 1, x_pids s, x_greatestPid, x_code, x_codeLengths, x_pids, x_parents, x_programs, upd x_places s (nI (l + 1)), upd x_states s 1, x_statuses, upd x_stepCounts s (x_stepCounts s + 1), x_copyCounts, x_wakeTimes, x_registers, x_pageCounts, x_pageFrames, x_held, x_frameUsers, x_frameWords, x_openHolders, x_openKinds, x_openTargets, x_openPlaces, x_openModes, x_pipeFirsts, x_pipeCounts, x_pipeWords, x_nameFiles, x_fileSizes, x_fileWords, x_safeNames, x_safeSizes, x_safeWords, x_saidInts) (nI s) (nI cc)) → wpX_doCall (fun u => match u with | (x_changes, x_saidCount, x_time, x_lastSlot, x_sliceSteps, x_latestPid, x_greatestPid, x_code, x_codeLengths, x_pids, x_parents, x_programs, x_places, x_states, x_statuses, x_stepCounts, x_copyCounts, x_wakeTimes, x_registers, x_pageCounts, x_pageFrames, x_held, x_frameUsers, x_frameWords, x_openHolders, x_openKinds, x_openTargets, x_openPlaces, x_openModes, x_pipeFirsts, x_pipeCounts, x_pipeWords, x_nameFiles, x_fileSizes, x_fileWords, x_safeNames, x_safeSizes, x_safeWords, x_saidInts) => post (x_changes, x_saidCount, x_time, x_lastSlot, x_sliceSteps, x_latestPid, x_greatestPid, x_code, x_codeLengths, x_pids, x_parents, x_programs, x_places, x_states, x_statuses, x_stepCounts, x_copyCounts, x_wakeTimes, x_registers, x_pageCounts, x_pageFrames, x_held, x_frameUsers, x_frameWords, x_openHolders, x_openKinds, x_openTargets, x_openPlaces, x_openModes, x_pipeFirsts, x_pipeCounts, x_pipeWords, x_nameFiles, x_fileSizes, x_fileWords, x_safeNames, x_safeSizes, x_safeWords, x_saidInts)) (x_changes, x_saidCount, nI (t + 1), x_lastSlot, x_sliceSteps + 1, x_pids s, x_greatestPid, x_code, x_codeLengths, x_pids, x_parents, x_programs, upd x_places s (nI (l + 1)), upd x_states s 1, x_statuses, upd x_stepCounts s (x_stepCounts s + 1), x_copyCounts, x_wakeTimes, x_registers, x_pageCounts, x_pageFrames, x_held, x_frameUsers, x_frameWords, x_openHolders, x_openKinds, x_openTargets, x_openPlaces, x_openModes, x_pipeFirsts, x_pipeCounts, x_pipeWords, x_nameFiles, x_fileSizes, x_fileWords, x_safeNames, x_safeSizes, x_safeWords, x_saidInts) (nI s) (nI cc) → wX_blocks_11 (fun r_61 u => match u with | (x_changes, x_saidCount, x_time, x_lastSlot, x_sliceSteps, x_latestPid, x_greatestPid, x_code, x_codeLengths, x_pids, x_parents, x_programs, x_places, x_states, x_statuses, x_stepCounts, x_copyCounts, x_wakeTimes, x_registers, x_pageCounts, x_pageFrames, x_held, x_frameUsers, x_frameWords, x_openHolders, x_openKinds, x_openTargets, x_openPlaces, x_openModes, x_pipeFirsts, x_pipeCounts, x_pipeWords, x_nameFiles, x_fileSizes, x_fileWords, x_safeNames, x_safeSizes, x_safeWords, x_saidInts) => ((r_61 = 0 → (vp_in (nI (3 * (24 * g + l) + 2)) 432 ∧ wpX_doCall (fun u => match u with | (x_changes, x_saidCount, x_time, x_lastSlot, x_sliceSteps, x_latestPid, x_greatestPid, x_code, x_codeLengths, x_pids, x_parents, x_programs, x_places, x_states, x_statuses, x_stepCounts, x_copyCounts, x_wakeTimes, x_registers, x_pageCounts, x_pageFrames, x_held, x_frameUsers, x_frameWords, x_openHolders, x_openKinds, x_openTargets, x_openPlaces, x_openModes, x_pipeFirsts, x_pipeCounts, x_pipeWords, x_nameFiles, x_fileSizes, x_fileWords, x_safeNames, x_safeSizes, x_safeWords, x_saidInts) => post (x_changes, x_saidCount, x_time, x_lastSlot, x_sliceSteps, x_latestPid, x_greatestPid, x_code, x_codeLengths, x_pids, x_parents, x_programs, x_places, x_states, x_statuses, x_stepCounts, x_copyCounts, x_wakeTimes, x_registers, x_pageCounts, x_pageFrames, x_held, x_frameUsers, x_frameWords, x_openHolders, x_openKinds, x_openTargets, x_openPlaces, x_openModes, x_pipeFirsts, x_pipeCounts, x_pipeWords, x_nameFiles, x_fileSizes, x_fileWords, x_safeNames, x_safeSizes, x_safeWords, x_saidInts)) (x_changes, x_saidCount, x_time, x_lastSlot, x_sliceSteps, x_latestPid, x_greatestPid, x_code, x_codeLengths, x_pids, x_parents, x_programs, x_places, x_states, x_statuses, x_stepCounts, x_copyCounts, x_wakeTimes, x_registers, x_pageCounts, x_pageFrames, x_held, x_frameUsers, x_frameWords, x_openHolders, x_openKinds, x_openTargets, x_openPlaces, x_openModes, x_pipeFirsts, x_pipeCounts, x_pipeWords, x_nameFiles, x_fileSizes, x_fileWords, x_safeNames, x_safeSizes, x_safeWords, x_saidInts) (nI s) (x_code (3 * (24 * g + l) + 2)))) ∧ (¬ r_61 = 0 → post (x_changes, x_saidCount, x_time, x_lastSlot, x_sliceSteps, x_latestPid, x_greatestPid, x_code, x_codeLengths, x_pids, x_parents, x_programs, x_places, x_states, x_statuses, x_stepCounts, x_copyCounts, x_wakeTimes, x_registers, x_pageCounts, x_pageFrames, x_held, x_frameUsers, x_frameWords, x_openHolders, x_openKinds, x_openTargets, x_openPlaces, x_openModes, x_pipeFirsts, x_pipeCounts, x_pipeWords, x_nameFiles, x_fileSizes, x_fileWords, x_safeNames, x_safeSizes, x_safeWords, x_saidInts)))) (nI s) (nI cc) x_changes x_saidCount (nI (t + 1)) x_lastSlot (x_sliceSteps + 1) (x_pids s) x_greatestPid x_code x_codeLengths x_pids x_parents x_programs (upd x_places s (nI (l + 1))) (upd x_states s 1) x_statuses (upd x_stepCounts s (x_stepCounts s + 1)) x_copyCounts x_wakeTimes x_registers x_pageCounts x_pageFrames x_held x_frameUsers x_frameWords x_openHolders x_openKinds x_openTargets x_openPlaces x_openModes x_pipeFirsts x_pipeCounts x_pipeWords x_nameFiles x_fileSizes x_fileWords x_safeNames x_safeSizes x_safeWords x_saidInts := fun post hK h => by
        unfold wX_blocks_11
        refine hK _ (br_t rfl (br_t rfl ⟨w2, ?_⟩))
        rw [ecc]
        exact h
      have hYn : ∀ (post : SY → Prop) (v' : SY), (∀ r0 r1 : Int32, r0 = x_registers (4 * s) → r1 = x_registers (4 * s + 1) → ((nI cc = 0 → wpY_exit (fun u => match u with | (y_changes, y_time, y_last, y_lastPid, y_did, y_greatest, y_stepped, y_says, y_killed, y_ops, y_as, y_bs, y_length, y_pid, y_parent, y_program, y_pc, y_status, y_steps, y_copies, y_pages, y_wake, y_zombie, y_blocked, y_reg, y_memory, y_frame, y_descriptor, y_kind, y_of, y_mode, y_place, y_piped, y_pipe, y_names, y_size, y_words, y_safeNames, y_safeSize, y_safeWords, y_said) => (fun u => match u with | (y_changes, y_time, y_last, y_lastPid, y_did, y_greatest, y_stepped, y_says, y_killed, y_ops, y_as, y_bs, y_length, y_pid, y_parent, y_program, y_pc, y_status, y_steps, y_copies, y_pages, y_wake, y_zombie, y_blocked, y_reg, y_memory, y_frame, y_descriptor, y_kind, y_of, y_mode, y_place, y_piped, y_pipe, y_names, y_size, y_words, y_safeNames, y_safeSize, y_safeWords, y_said) => ∀ y, y = y_time + 1 → post (y_changes, y, y_last, y_lastPid, y_did, y_greatest, y_stepped, y_says, y_killed, y_ops, y_as, y_bs, y_length, y_pid, y_parent, y_program, y_pc, y_status, y_steps, y_copies, y_pages, y_wake, y_zombie, y_blocked, y_reg, y_memory, y_frame, y_descriptor, y_kind, y_of, y_mode, y_place, y_piped, y_pipe, y_names, y_size, y_words, y_safeNames, y_safeSize, y_safeWords, y_said)) (y_changes, y_time, y_last, y_lastPid, y_did, y_greatest, y_stepped, y_says, y_killed, y_ops, y_as, y_bs, y_length, y_pid, y_parent, y_program, y_pc, y_status, y_steps, y_copies, y_pages, y_wake, y_zombie, y_blocked, y_reg, y_memory, y_frame, y_descriptor, y_kind, y_of, y_mode, y_place, y_piped, y_pipe, y_names, y_size, y_words, y_safeNames, y_safeSize, y_safeWords, y_said)) (x_changes, x_time, nI s, x_pids s, y_did + 1, x_greatestPid, x_pids s, x_saidCount, 0, y_ops, y_as, y_bs, x_codeLengths, x_pids, x_parents, x_programs, upd x_places s (nI (l + 1)), x_statuses, upd x_stepCounts s (x_stepCounts s + 1), x_copyCounts, y_pages, upd y_wake s (-1), y_zombie, upd y_blocked s 0, x_registers, y_memory, y_frame, x_held, y_kind, x_openTargets, y_mode, x_openPlaces, x_pipeCounts, y_pipe, x_nameFiles, y_size, x_fileWords, x_safeNames, y_safeSize, x_safeWords, y_said) (nI s) r0) ∧ (¬ nI cc = 0 → ((nI cc = 5 → wpY_no (fun r => ((r = 0 → wpY_begin (fun u => match u with | (y_changes, y_time, y_last, y_lastPid, y_did, y_greatest, y_stepped, y_says, y_killed, y_ops, y_as, y_bs, y_length, y_pid, y_parent, y_program, y_pc, y_status, y_steps, y_copies, y_pages, y_wake, y_zombie, y_blocked, y_reg, y_memory, y_frame, y_descriptor, y_kind, y_of, y_mode, y_place, y_piped, y_pipe, y_names, y_size, y_words, y_safeNames, y_safeSize, y_safeWords, y_said) => (fun u => match u with | (y_changes, y_time, y_last, y_lastPid, y_did, y_greatest, y_stepped, y_says, y_killed, y_ops, y_as, y_bs, y_length, y_pid, y_parent, y_program, y_pc, y_status, y_steps, y_copies, y_pages, y_wake, y_zombie, y_blocked, y_reg, y_memory, y_frame, y_descriptor, y_kind, y_of, y_mode, y_place, y_piped, y_pipe, y_names, y_size, y_words, y_safeNames, y_safeSize, y_safeWords, y_said) => ∀ y, y = y_time + 1 → post (y_changes, y, y_last, y_lastPid, y_did, y_greatest, y_stepped, y_says, y_killed, y_ops, y_as, y_bs, y_length, y_pid, y_parent, y_program, y_pc, y_status, y_steps, y_copies, y_pages, y_wake, y_zombie, y_blocked, y_reg, y_memory, y_frame, y_descriptor, y_kind, y_of, y_mode, y_place, y_piped, y_pipe, y_names, y_size, y_words, y_safeNames, y_safeSize, y_safeWords, y_said)) (y_changes, y_time, y_last, y_lastPid, y_did, y_greatest, y_stepped, y_says, y_killed, y_ops, y_as, y_bs, y_length, y_pid, y_parent, y_program, y_pc, y_status, y_steps, y_copies, y_pages, y_wake, y_zombie, y_blocked, y_reg, y_memory, y_frame, y_descriptor, y_kind, y_of, y_mode, y_place, y_piped, y_pipe, y_names, y_size, y_words, y_safeNames, y_safeSize, y_safeWords, y_said)) (x_changes, x_time, nI s, x_pids s, y_did + 1, x_greatestPid, x_pids s, x_saidCount, 0, y_ops, y_as, y_bs, x_codeLengths, x_pids, x_parents, x_programs, upd x_places s (nI (l + 1)), x_statuses, upd x_stepCounts s (x_stepCounts s + 1), x_copyCounts, y_pages, upd y_wake s (-1), y_zombie, upd y_blocked s 0, x_registers, y_memory, y_frame, x_held, y_kind, x_openTargets, y_mode, x_openPlaces, x_pipeCounts, y_pipe, x_nameFiles, y_size, x_fileWords, x_safeNames, y_safeSize, x_safeWords, y_said) (nI s) r0) ∧ (¬ r = 0 → wY_call_127 (fun u => match u with | (y_changes, y_time, y_last, y_lastPid, y_did, y_greatest, y_stepped, y_says, y_killed, y_ops, y_as, y_bs, y_length, y_pid, y_parent, y_program, y_pc, y_status, y_steps, y_copies, y_pages, y_wake, y_zombie, y_blocked, y_reg, y_memory, y_frame, y_descriptor, y_kind, y_of, y_mode, y_place, y_piped, y_pipe, y_names, y_size, y_words, y_safeNames, y_safeSize, y_safeWords, y_said) => ∀ y, y = y_time + 1 → post (y_changes, y, y_last, y_lastPid, y_did, y_greatest, y_stepped, y_says, y_killed, y_ops, y_as, y_bs, y_length, y_pid, y_parent, y_program, y_pc, y_status, y_steps, y_copies, y_pages, y_wake, y_zombie, y_blocked, y_reg, y_memory, y_frame, y_descriptor, y_kind, y_of, y_mode, y_place, y_piped, y_pipe, y_names, y_size, y_words, y_safeNames, y_safeSize, y_safeWords, y_said)) (nI s) (nI cc) r0 r1 x_changes x_time (nI s) (x_pids s) (y_did + 1) x_greatestPid (x_pids s) x_saidCount 0 y_ops y_as y_bs x_codeLengths x_pids x_parents x_programs (upd x_places s (nI (l + 1))) x_statuses (upd x_stepCounts s (x_stepCounts s + 1)) x_copyCounts y_pages (upd y_wake s (-1)) y_zombie (upd y_blocked s 0) x_registers y_memory y_frame x_held y_kind x_openTargets y_mode x_openPlaces x_pipeCounts y_pipe x_nameFiles y_size x_fileWords x_safeNames y_safeSize x_safeWords y_said))) r0 5) ∧ (¬ nI cc = 5 → wY_call_127 (fun u => match u with | (y_changes, y_time, y_last, y_lastPid, y_did, y_greatest, y_stepped, y_says, y_killed, y_ops, y_as, y_bs, y_length, y_pid, y_parent, y_program, y_pc, y_status, y_steps, y_copies, y_pages, y_wake, y_zombie, y_blocked, y_reg, y_memory, y_frame, y_descriptor, y_kind, y_of, y_mode, y_place, y_piped, y_pipe, y_names, y_size, y_words, y_safeNames, y_safeSize, y_safeWords, y_said) => ∀ y, y = y_time + 1 → post (y_changes, y, y_last, y_lastPid, y_did, y_greatest, y_stepped, y_says, y_killed, y_ops, y_as, y_bs, y_length, y_pid, y_parent, y_program, y_pc, y_status, y_steps, y_copies, y_pages, y_wake, y_zombie, y_blocked, y_reg, y_memory, y_frame, y_descriptor, y_kind, y_of, y_mode, y_place, y_piped, y_pipe, y_names, y_size, y_words, y_safeNames, y_safeSize, y_safeWords, y_said)) (nI s) (nI cc) r0 r1 x_changes x_time (nI s) (x_pids s) (y_did + 1) x_greatestPid (x_pids s) x_saidCount 0 y_ops y_as y_bs x_codeLengths x_pids x_parents x_programs (upd x_places s (nI (l + 1))) x_statuses (upd x_stepCounts s (x_stepCounts s + 1)) x_copyCounts y_pages (upd y_wake s (-1)) y_zombie (upd y_blocked s 0) x_registers y_memory y_frame x_held y_kind x_openTargets y_mode x_openPlaces x_pipeCounts y_pipe x_nameFiles y_size x_fileWords x_safeNames y_safeSize x_safeWords y_said))))) → (∀ K : Int32 → Prop, K 0 → wpY_waits K (x_changes, x_time, nI s, x_pids s, y_did + 1, x_greatestPid, x_pids s, x_saidCount, 0, y_ops, y_as, y_bs, x_codeLengths, x_pids, x_parents, x_programs, x_places, x_statuses, upd x_stepCounts s (x_stepCounts s + 1), x_copyCounts, y_pages, y_wake, y_zombie, y_blocked, x_registers, y_memory, y_frame, x_held, y_kind, x_openTargets, y_mode, x_openPlaces, x_pipeCounts, y_pipe, x_nameFiles, y_size, x_fileWords, x_safeNames, y_safeSize, x_safeWords, y_said) (nI s) (nI cc) (x_registers (4 * s))) → wpY_step post (x_changes, x_time, y_last, y_lastPid, y_did, x_greatestPid, x_latestPid, x_saidCount, y_killed, y_ops, y_as, y_bs, x_codeLengths, x_pids, x_parents, x_programs, x_places, x_statuses, x_stepCounts, x_copyCounts, y_pages, y_wake, y_zombie, y_blocked, x_registers, y_memory, y_frame, x_held, y_kind, x_openTargets, y_mode, x_openPlaces, x_pipeCounts, y_pipe, x_nameFiles, y_size, x_fileWords, x_safeNames, y_safeSize, x_safeWords, y_said) (nI s) := fun post _ h hK => by
        refine hYc post ?_
        unfold wpY_call
        dsimp only
        rw [uk_4m, nI_1, nI_clamp (show 4 * s < 2 ^ 31 by omega), nI_clamp (show 4 * s + 1 < 2 ^ 31 by omega), es]
        exact ⟨vr0, nm_e ⟨vr1, nm_e (hK _ (br_t rfl ⟨vs, nm_e ⟨vs, nm_e ⟨vs, vs, nm_r hLL (h _ _ rfl rfl)⟩⟩⟩))⟩⟩
      have hYb : ∀ (post : SY → Prop), (∀ K : Int32 → Prop, K 1 → wpY_waits K (x_changes, x_time, nI s, x_pids s, y_did + 1, x_greatestPid, x_pids s, x_saidCount, 0, y_ops, y_as, y_bs, x_codeLengths, x_pids, x_parents, x_programs, x_places, x_statuses, upd x_stepCounts s (x_stepCounts s + 1), x_copyCounts, y_pages, y_wake, y_zombie, y_blocked, x_registers, y_memory, y_frame, x_held, y_kind, x_openTargets, y_mode, x_openPlaces, x_pipeCounts, y_pipe, x_nameFiles, y_size, x_fileWords, x_safeNames, y_safeSize, x_safeWords, y_said) (nI s) (nI cc) (x_registers (4 * s))) → ((nI cc = 14 → ((y_blocked s = 0 → post (x_changes, nI (t + 1), nI s, x_pids s, y_did + 1, x_greatestPid, x_pids s, x_saidCount, 0, y_ops, y_as, y_bs, x_codeLengths, x_pids, x_parents, x_programs, x_places, x_statuses, upd x_stepCounts s (x_stepCounts s + 1), x_copyCounts, y_pages, upd y_wake s (x_time + 1 + x_registers (4 * s)), y_zombie, upd y_blocked s 1, x_registers, y_memory, y_frame, x_held, y_kind, x_openTargets, y_mode, x_openPlaces, x_pipeCounts, y_pipe, x_nameFiles, y_size, x_fileWords, x_safeNames, y_safeSize, x_safeWords, y_said)) ∧ (¬ y_blocked s = 0 → post (x_changes, nI (t + 1), nI s, x_pids s, y_did + 1, x_greatestPid, x_pids s, x_saidCount, 0, y_ops, y_as, y_bs, x_codeLengths, x_pids, x_parents, x_programs, x_places, x_statuses, upd x_stepCounts s (x_stepCounts s + 1), x_copyCounts, y_pages, y_wake, y_zombie, upd y_blocked s 1, x_registers, y_memory, y_frame, x_held, y_kind, x_openTargets, y_mode, x_openPlaces, x_pipeCounts, y_pipe, x_nameFiles, y_size, x_fileWords, x_safeNames, y_safeSize, x_safeWords, y_said)))) ∧ (¬ nI cc = 14 → post (x_changes, nI (t + 1), nI s, x_pids s, y_did + 1, x_greatestPid, x_pids s, x_saidCount, 0, y_ops, y_as, y_bs, x_codeLengths, x_pids, x_parents, x_programs, x_places, x_statuses, upd x_stepCounts s (x_stepCounts s + 1), x_copyCounts, y_pages, y_wake, y_zombie, upd y_blocked s 1, x_registers, y_memory, y_frame, x_held, y_kind, x_openTargets, y_mode, x_openPlaces, x_pipeCounts, y_pipe, x_nameFiles, y_size, x_fileWords, x_safeNames, y_safeSize, x_safeWords, y_said))) → wpY_step post (x_changes, x_time, y_last, y_lastPid, y_did, x_greatestPid, x_latestPid, x_saidCount, y_killed, y_ops, y_as, y_bs, x_codeLengths, x_pids, x_parents, x_programs, x_places, x_statuses, x_stepCounts, x_copyCounts, y_pages, y_wake, y_zombie, y_blocked, x_registers, y_memory, y_frame, x_held, y_kind, x_openTargets, y_mode, x_openPlaces, x_pipeCounts, y_pipe, x_nameFiles, y_size, x_fileWords, x_safeNames, y_safeSize, x_safeWords, y_said) (nI s) := fun post hK h => by
        refine hYc post ?_
        unfold wpY_call
        dsimp only
        rw [uk_4m, nI_1, nI_clamp (show 4 * s < 2 ^ 31 by omega), nI_clamp (show 4 * s + 1 < 2 ^ 31 by omega), es]
        exact ⟨vr0, nm_e ⟨vr1, nm_e (hK _ (br_f (by decide) ⟨fun a => ⟨vs, fun a2 => ⟨vs, nm_e ⟨vs, nm_e (nm_r eT1 ((h.1 a).1 a2))⟩⟩, fun a2 => ⟨vs, nm_e (nm_r eT1 ((h.1 a).2 a2))⟩⟩, fun a => ⟨vs, nm_e (nm_r eT1 (h.2 a))⟩⟩))⟩⟩
      have hPsG : uk_Ps x_pids x_parents x_programs (upd x_places s (nI (l + 1))) x_statuses (upd x_states s 1) y_zombie (upd y_blocked s 0) := uk_aPs AM
      have hblkd : ∀ (W' wk' : Nat → Int32), (∀ s', s' ≠ s → W' s' = x_wakeTimes s' ∧ wk' s' = y_wake s') → ((nI cc = 14 ∧ ∃ w, 0 < w ∧ w ≤ t + 1 + 1001 ∧ W' s = nI w ∧ wk' s = nI w) ∨ (W' s = 0 ∧ wk' s = -1 ∧ (nI cc = 2 ∨ (nI cc = 7 ∧ uk_de x_registers x_held y_kind s 2) ∨ (nI cc = 8 ∧ uk_de x_registers x_held y_kind s 3)))) → uk_All (t + 1) b x_changes x_saidCount (nI (t + 1)) x_lastSlot (x_sliceSteps + 1) (x_pids s) x_greatestPid x_code x_codeLengths x_pids x_parents x_programs x_places (upd x_states s 2) x_statuses (upd x_stepCounts s (x_stepCounts s + 1)) x_copyCounts W' x_registers x_pageCounts x_pageFrames x_held x_frameUsers x_frameWords x_openHolders x_openKinds x_openTargets x_openPlaces x_openModes x_pipeFirsts x_pipeCounts x_pipeWords x_nameFiles x_fileSizes x_fileWords x_safeNames x_safeSizes x_safeWords x_saidInts x_time (nI s) (x_pids s) (y_did + 1) 0 y_ops y_as y_bs y_pages wk' y_zombie (upd y_blocked s 1) y_memory y_frame y_kind y_mode y_pipe y_size y_safeSize y_said := fun W' wk' hw1 hw2 =>
        ⟨uk_aG AH, uk_aN AH, uk_aC AH, uk_aeT AH, uk_aPr AH, fun s' hs' => by
          obtain ⟨h1, h2, h3, h4, h5, h6, h7⟩ := uk_aPs A s' hs'
          by_cases w : s' = s
          · subst w
            rw [pk_us, pk_us]
            exact ⟨h1, h2, h3, h4, h5, Or.inr rfl, fun _ => Or.inr ⟨hz, hU, Or.inr ⟨rfl, rfl⟩⟩⟩
          · rw [pk_un w, pk_un w]
            exact ⟨h1, h2, h3, h4, h5, h6, h7⟩, uk_aMe AH, uk_aFu AH, uk_aHd AH, uk_aHo AH, uk_aOk AH, uk_aPi AH, uk_aFi AH, uk_aSa AH, uk_aSc AH, fun s' hs' hp' hz' => by
          by_cases w : s' = s
          · subst w
            refine Or.inr ⟨pk_us, ?_⟩
            unfold uk_wk1
            rw [eG, eLc, em, nI_clamp (show m < 2 ^ 31 by omega), ebs]
            exact ⟨hlm, h8, hw2⟩
          · have hq := hWk1 s' hs' hp' hz'
            rw [pk_un w]
            rcases hq with ⟨q1, q2, q3⟩ | ⟨q1, q2⟩
            · exact Or.inl ⟨q1, (hw1 s' w).1.trans q2, (hw1 s' w).2.trans q3⟩
            · exact Or.inr ⟨q1, uk_wk1C (Nat.le_refl _) rfl rfl (hw1 s' w).1 (hw1 s' w).2 rfl (fun _ _ => rfl) (fun _ _ _ _ _ _ => rfl) q2⟩⟩
      by_cases c14 : cc = 14
      · subst c14
        rcases hblk with ⟨b0, wt0, wk0⟩ | ⟨b1, q1, q2, q3⟩
        · by_cases hx : ¬ x_registers (4 * s) ≤ 0 ∧ ¬ 1000 < x_registers (4 * s)
          · obtain ⟨hx1, hx2⟩ := hx
            have hx0 : ¬ x_registers (4 * s) < 0 := fun z => hx1 (Int32.le_of_lt z)
            obtain ⟨j, hj, ej⟩ := nI_of hx0
            have j0 : 0 < j := by
              have : ¬ j ≤ 0 := fun z => hx1 (by rw [ej]; exact nI_le (b := 0) z (by decide))
              omega
            have j1 : j ≤ 1000 := by
              have : ¬ 1000 < j := fun z => hx2 (by rw [ej]; exact nI_lt (a := 1000) z hj)
              omega
            have ew : nI (t + 1) + x_registers (4 * s) = nI (t + 1 + j) := by rw [ej, nI_add]
            have ew2 : x_time + 1 + x_registers (4 * s) = nI (t + 1 + j) := by rw [eT1, ew]
            have AB := hblkd (upd x_wakeTimes s (nI (t + 1 + j))) (upd y_wake s (nI (t + 1 + j))) (fun s' w => ⟨pk_un w, pk_un w⟩) (Or.inl ⟨rfl, t + 1 + j, by omega, by omega, pk_us, pk_us⟩)
            refine ⟨_, _, fun post h => hXc post ?_, fun post h => hYb post (fun K hK => ?_) (br_t rfl (br_t b0 ?_)), uk_RmkT (nI (t + 1)) 0 (uk_up1 (Nat.le_succ b) AB)⟩
            · unfold wpX_blocks
              refine br_t rfl ?_
              unfold wpX_fallAsleep
              dsimp only
              rw [uk_m4, nI_clamp (show 4 * s < 2 ^ 31 by omega), es, wt0]
              refine ⟨vr0, nm_e ⟨vs, br_t rfl (br_f hx1 (br_f hx2 ⟨vs, nm_r (congrArg (upd x_wakeTimes s) ew) ?_⟩))⟩⟩
              unfold wX_blocks_11 wpX_wouldBlock
              dsimp only
              rw [es, pk_us, pk_us]
              refine br_f (by decide) (br_f (by decide) (br_f (by decide) (br_t rfl ⟨vs, br_f (nI_ge (by omega) (by omega)) (br_f (by decide) ⟨vs, nm_r (uk_uu _ _ _ _) ⟨vs, vs, nm_r (ePs 0) (br_f (by decide) h)⟩⟩)⟩)))
            · unfold wpY_waits
              dsimp only
              rw [es]
              exact br_f (by decide) (br_t rfl ⟨vs, br_t b0 (br_f hx1 (br_f (fun z => hx2 (Int32.lt_of_lt_of_le (by decide) z)) hK))⟩)
            · rw [ew2]
              exact h
          · obtain ⟨u', v', h1, h2, h3⟩ := hdo (fun _ => wt0) (fun z => absurd z (by decide))
            refine ⟨u', v', fun post h => hXc post ?_, fun post h => hYn post v' (fun r0 r1 e0 e1 => h2 post h r0 r1 e0 e1) (fun K hK => ?_), h3⟩
            · have k11 := hX11 post (fun K hK => by
                unfold wpX_wouldBlock
                dsimp only
                rw [es, wt0]
                exact br_f (by decide) (br_f (by decide) (br_f (by decide) (br_t rfl ⟨vs, br_t (nI_pos' (by omega)) hK⟩)))) (h1 _ h)
              unfold wpX_blocks
              refine br_t rfl ?_
              unfold wpX_fallAsleep
              dsimp only
              rw [uk_m4, nI_clamp (show 4 * s < 2 ^ 31 by omega), es, wt0]
              exact ⟨vr0, nm_e ⟨vs, br_t rfl ⟨fun _ => k11, fun a => ⟨fun _ => k11, fun a2 => absurd ⟨a, a2⟩ hx⟩⟩⟩⟩
            · unfold wpY_waits
              dsimp only
              rw [es]
              exact br_f (by decide) (br_t rfl ⟨vs, br_t b0 ⟨fun _ => hK, fun a => ⟨fun _ => hK, fun a2 => absurd ⟨a, fun z => a2 (uk_1000 z)⟩ hx⟩⟩⟩)
        · rw [eG, eLc] at q3 hrd
          rw [ebs] at q3 hrd
          obtain ⟨w, hw0, hw1, hw2, hw3⟩ : ∃ w, 0 < w ∧ w ≤ t + 1001 ∧ x_wakeTimes s = nI w ∧ y_wake s = nI w := by
            rcases q3 with ⟨_, q⟩ | ⟨_, _, q⟩
            · exact q
            · rcases q with q | q | q
              · exact absurd q (by decide)
              · exact absurd q.1 (by decide)
              · exact absurd q.1 (by decide)
          have hwt : y_wake s ≤ x_time := by
            rcases hrd with z | ⟨z, _⟩ | ⟨_, z⟩
            · exact absurd (b1.symm.trans z) (by decide)
            · exact absurd rfl z
            · exact z
          have hwn : w ≤ t := by
            rw [hw3, eT] at hwt
            exact (nI_leI (by omega) (by omega)).mp hwt
          obtain ⟨u', v', h1, h2, h3⟩ := hdo (fun z => absurd rfl z) (fun z => absurd z (by decide))
          refine ⟨u', v', fun post h => hXc post ?_, fun post h => hYn post v' (fun r0 r1 e0 e1 => h2 post h r0 r1 e0 e1) (fun K hK => ?_), h3⟩
          · have k11 := hX11 post (fun K hK => by
              unfold wpX_wouldBlock
              dsimp only
              rw [es, hw2]
              exact br_f (by decide) (br_f (by decide) (br_f (by decide) (br_t rfl ⟨vs, br_t (nI_le (by omega) (by omega)) hK⟩)))) (h1 _ h)
            unfold wpX_blocks
            refine br_t rfl ?_
            unfold wpX_fallAsleep
            dsimp only
            rw [uk_m4, nI_clamp (show 4 * s < 2 ^ 31 by omega), es, hw2]
            exact ⟨vr0, nm_e ⟨vs, br_f (nI_ne0 hw0 (by omega)) k11⟩⟩
          · unfold wpY_waits
            dsimp only
            rw [es, b1]
            exact br_f (by decide) (br_t rfl ⟨vs, br_f (by decide) ⟨vs, br_t hwt hK⟩⟩)
      · have n14 : nI cc ≠ 14 := fun z => c14 (uk_nIn (b := 14) (by omega) (by decide) z)
        have hwt0 : x_wakeTimes s = 0 ∧ y_wake s = -1 := by
          rcases hblk with ⟨_, z⟩ | ⟨_, _, _, q3⟩
          · exact z
          · rw [eG, eLc, ebs] at q3
            rcases q3 with ⟨z, _⟩ | ⟨z1, z2, _⟩
            · exact absurd z n14
            · exact ⟨z1, z2⟩
        by_cases hB : uk_Bk x_pids x_parents y_zombie x_registers x_held y_kind x_openTargets x_pipeCounts s (nI cc)
        · have AB := hblkd x_wakeTimes y_wake (fun s' _ => ⟨rfl, rfl⟩) (Or.inr ⟨hwt0.1, hwt0.2, by
            rcases hB with z | ⟨z, d, o, a1, a2, a3, a4, a5, _⟩ | ⟨z, d, o, a1, a2, a3, a4, a5, _⟩
            · exact Or.inl z.1
            · exact Or.inr (Or.inl ⟨z, d, o, a1, a2, a3, a4, a5⟩)
            · exact Or.inr (Or.inr ⟨z, d, o, a1, a2, a3, a4, a5⟩)⟩)
          refine ⟨_, _, fun post h => hXc post ?_, fun post h => hYb post (fun K hK => yk_waits (uk_aPs A) (uk_aHd A) (uk_aHo A) (uk_aOk A) hs hp hz n14 (fun _ => hK) (fun z => absurd hB z)) (br_f n14 h), uk_RmkT (nI (t + 1)) 0 (uk_up1 (Nat.le_succ b) AB)⟩
          unfold wpX_blocks
          refine br_f n14 ?_
          unfold wX_blocks_11
          refine xk_wouldBlock hPsG (uk_aHd A) (uk_aHo A) (uk_aOk A) (uk_aPi A) hs hp hz n14 (fun _ => br_f (by decide) ⟨vs, ?_⟩) (fun z => absurd hB z)
          rw [es, pk_us]
          exact nm_r (uk_uu _ _ _ _) ⟨vs, vs, nm_r (ePs 0) (br_f (by decide) h)⟩
        · obtain ⟨u', v', h1, h2, h3⟩ := hdo (fun _ => hwt0.1) (fun z => by subst z; exact hB)
          refine ⟨u', v', fun post h => hXc post ?_, fun post h => hYn post v' (fun r0 r1 e0 e1 => h2 post h r0 r1 e0 e1) (fun K hK => yk_waits (uk_aPs A) (uk_aHd A) (uk_aHo A) (uk_aOk A) hs hp hz n14 (fun z => absurd z hB) (fun _ => hK)), h3⟩
          unfold wpX_blocks
          exact br_f n14 (hX11 post (fun K hK => xk_wouldBlock hPsG (uk_aHd A) (uk_aHo A) (uk_aOk A) (uk_aPi A) hs hp hz n14 (fun z => absurd z hB) (fun _ => hK)) (h1 _ h))
    · have hb : y_blocked s = 0 := by
        rcases hblk with ⟨z, _⟩ | ⟨_, _, z, _⟩
        · exact z
        · rw [eG, eLc] at z
          exact absurd z h8
      have hst : x_states s = 1 := by
        rcases (uk_aPs A s hs).2.2.2.2.2.2 hp with ⟨z, _⟩ | ⟨_, _, z⟩
        · exact absurd (hz.symm.trans z) (by decide)
        · rcases z with ⟨_, z⟩ | ⟨z, _⟩
          · exact z
          · exact absurd (hb.symm.trans z) (by decide)
      have est : upd x_states s 1 = x_states := by rw [← hst]; exact uk_uself _ _
      have AP := uk_All_pl (l := l + 1) AH hs hp hz hb (by omega)
      have hLL : upd x_places s (x_places s + 1) = upd x_places s (nI (l + 1)) := by rw [el, nI_1]
      obtain ⟨u', v', h1, h2, h3⟩ := uk_plain (k := 24 * g + l) AP hs hp hz hb hLL hk h8 hv
      obtain ⟨v2, h4, h5⟩ := uk_tick (uk_Rup h3)
      rw [eT1] at h4
      refine ⟨u', v2, fun post h => hXs post (br_t hlt ⟨vs, nm_r eL1 ⟨vs, nm_r est ?_⟩⟩), fun post h => hYs post (br_t hlt ⟨vs, vs, nm_r ek ⟨v144, ?_⟩⟩), h4⟩
      · unfold wpX_codeIndex
        dsimp only
        rw [uk_cix2, uk_cix1, uk_cix, d0, d1, d2]
        exact ⟨w0, br_f (fun z => h8 (p1.trans z)) ⟨w0, w1, w2, h1 _ h⟩⟩
      · rw [ck]
        exact br_f h8 ⟨v144, v144, v144, h2 _ (h5 post h)⟩
  · have hnl : ¬ nI l < nI m := nI_nlt (by omega) (by omega)
    obtain ⟨P', Q', zo', oh', ki', sz', fu', A', x1, y1⟩ := uk_exitA (x_registers (4 * s)) AH hs hp hz
    have A2 := uk_up1 (Nat.le_succ b) A'
    refine ⟨_, _, fun post h => hXs post (br_f hnl ⟨?_, ?_⟩), fun post h => hYs post (br_f hnl ⟨?_, ?_⟩), uk_RmkT (nI (t + 1)) 0 A2⟩
    · rw [uk_m4]; exact vp_in_nI (by omega) (by decide)
    · rw [uk_m4, nI_clamp (show 4 * s < 2 ^ 31 by omega)]
      exact x1 _ h
    · rw [uk_4m]; exact vp_in_nI (by omega) (by decide)
    · rw [uk_4m, nI_clamp (show 4 * s < 2 ^ 31 by omega)]
      exact y1 _ (nm_r eT1 h)
end
end
section
/-! the choice of a slot -/
section
variable {x_changes x_saidCount x_time x_lastSlot x_sliceSteps x_latestPid x_greatestPid : Int32} {x_code x_codeLengths x_pids x_parents x_programs x_places x_states x_statuses x_stepCounts x_copyCounts x_wakeTimes x_registers x_pageCounts x_pageFrames x_held x_frameUsers x_frameWords x_openHolders x_openKinds x_openTargets x_openPlaces x_openModes x_pipeFirsts x_pipeCounts x_pipeWords x_nameFiles x_fileSizes x_fileWords x_safeNames x_safeSizes x_safeWords x_saidInts : Nat → Int32} {y_time y_last y_lastPid y_did y_killed : Int32} {y_ops y_as y_bs y_pages y_wake y_zombie y_blocked y_memory y_frame y_kind y_mode y_pipe y_size y_safeSize y_said : Nat → Int32}
theorem uk_rdX {post : Int32 → Prop} {t b i : Nat} (A : uk_All t b x_changes x_saidCount x_time x_lastSlot x_sliceSteps x_latestPid x_greatestPid x_code x_codeLengths x_pids x_parents x_programs x_places x_states x_statuses x_stepCounts x_copyCounts x_wakeTimes x_registers x_pageCounts x_pageFrames x_held x_frameUsers x_frameWords x_openHolders x_openKinds x_openTargets x_openPlaces x_openModes x_pipeFirsts x_pipeCounts x_pipeWords x_nameFiles x_fileSizes x_fileWords x_safeNames x_safeSizes x_safeWords x_saidInts y_time y_last y_lastPid y_did y_killed y_ops y_as y_bs y_pages y_wake y_zombie y_blocked y_memory y_frame y_kind y_mode y_pipe y_size y_safeSize y_said) (hi : i < 8) (ht : uk_Rd x_pids x_parents y_zombie y_blocked x_programs x_places y_bs y_wake x_registers x_held y_kind x_openTargets x_pipeCounts x_time i → post 1) (hf : ¬ uk_Rd x_pids x_parents y_zombie y_blocked x_programs x_places y_bs y_wake x_registers x_held y_kind x_openTargets x_pipeCounts x_time i → post 0) : wpX_isReady post (x_changes, x_saidCount, x_time, x_lastSlot, x_sliceSteps, x_latestPid, x_greatestPid, x_code, x_codeLengths, x_pids, x_parents, x_programs, x_places, x_states, x_statuses, x_stepCounts, x_copyCounts, x_wakeTimes, x_registers, x_pageCounts, x_pageFrames, x_held, x_frameUsers, x_frameWords, x_openHolders, x_openKinds, x_openTargets, x_openPlaces, x_openModes, x_pipeFirsts, x_pipeCounts, x_pipeWords, x_nameFiles, x_fileSizes, x_fileWords, x_safeNames, x_safeSizes, x_safeWords, x_saidInts) (nI i) := xk_isReady hi (uk_aPr A) (uk_aPs A) (uk_aHd A) (uk_aHo A) (uk_aOk A) (uk_aPi A) (uk_aWk A) ht hf
theorem uk_rdY {post : Int32 → Prop} {t b i : Nat} (A : uk_All t b x_changes x_saidCount x_time x_lastSlot x_sliceSteps x_latestPid x_greatestPid x_code x_codeLengths x_pids x_parents x_programs x_places x_states x_statuses x_stepCounts x_copyCounts x_wakeTimes x_registers x_pageCounts x_pageFrames x_held x_frameUsers x_frameWords x_openHolders x_openKinds x_openTargets x_openPlaces x_openModes x_pipeFirsts x_pipeCounts x_pipeWords x_nameFiles x_fileSizes x_fileWords x_safeNames x_safeSizes x_safeWords x_saidInts y_time y_last y_lastPid y_did y_killed y_ops y_as y_bs y_pages y_wake y_zombie y_blocked y_memory y_frame y_kind y_mode y_pipe y_size y_safeSize y_said) (hi : i < 8) (ht : uk_Rd x_pids x_parents y_zombie y_blocked x_programs x_places y_bs y_wake x_registers x_held y_kind x_openTargets x_pipeCounts x_time i → post 1) (hf : ¬ uk_Rd x_pids x_parents y_zombie y_blocked x_programs x_places y_bs y_wake x_registers x_held y_kind x_openTargets x_pipeCounts x_time i → post 0) : wpY_isReady post (x_changes, x_time, y_last, y_lastPid, y_did, x_greatestPid, x_latestPid, x_saidCount, y_killed, y_ops, y_as, y_bs, x_codeLengths, x_pids, x_parents, x_programs, x_places, x_statuses, x_stepCounts, x_copyCounts, y_pages, y_wake, y_zombie, y_blocked, x_registers, y_memory, y_frame, x_held, y_kind, x_openTargets, y_mode, x_openPlaces, x_pipeCounts, y_pipe, x_nameFiles, y_size, x_fileWords, x_safeNames, y_safeSize, x_safeWords, y_said) (nI i) := yk_isReady hi (uk_aPr A) (uk_aPs A) (uk_aHd A) (uk_aHo A) (uk_aOk A) (uk_aPi A) (uk_aWk A) ht hf
theorem uk_sli (l j : Nat) (hl : l < 8) (hj : j < 8) : nI l + nI (j + 1) - (nI l + nI (j + 1)) / 8 * 8 = nI ((l + (j + 1)) % 8) := by
  rw [nI_add]
  exact pk_rem (d := 8) (by omega) (by decide) (by decide)
theorem uk_pickX0 {post : Int32 → SX → Prop} {t b l : Nat} (A : uk_All t b x_changes x_saidCount x_time x_lastSlot x_sliceSteps x_latestPid x_greatestPid x_code x_codeLengths x_pids x_parents x_programs x_places x_states x_statuses x_stepCounts x_copyCounts x_wakeTimes x_registers x_pageCounts x_pageFrames x_held x_frameUsers x_frameWords x_openHolders x_openKinds x_openTargets x_openPlaces x_openModes x_pipeFirsts x_pipeCounts x_pipeWords x_nameFiles x_fileSizes x_fileWords x_safeNames x_safeSizes x_safeWords x_saidInts y_time y_last y_lastPid y_did y_killed y_ops y_as y_bs y_pages y_wake y_zombie y_blocked y_memory y_frame y_kind y_mode y_pipe y_size y_safeSize y_said) (hl : l < 8) (el : x_lastSlot = nI l) (hn : ∀ i, i < 8 → ¬ uk_Rd x_pids x_parents y_zombie y_blocked x_programs x_places y_bs y_wake x_registers x_held y_kind x_openTargets x_pipeCounts x_time i) (h : post (-1) (x_changes, x_saidCount, x_time, x_lastSlot, x_sliceSteps, x_latestPid, x_greatestPid, x_code, x_codeLengths, x_pids, x_parents, x_programs, x_places, x_states, x_statuses, x_stepCounts, x_copyCounts, x_wakeTimes, x_registers, x_pageCounts, x_pageFrames, x_held, x_frameUsers, x_frameWords, x_openHolders, x_openKinds, x_openTargets, x_openPlaces, x_openModes, x_pipeFirsts, x_pipeCounts, x_pipeWords, x_nameFiles, x_fileSizes, x_fileWords, x_safeNames, x_safeSizes, x_safeWords, x_saidInts)) : ∃ n, wX_chooseSlot_26 post x_changes x_saidCount x_time x_lastSlot x_sliceSteps x_latestPid x_greatestPid x_code x_codeLengths x_pids x_parents x_programs x_places x_states x_statuses x_stepCounts x_copyCounts x_wakeTimes x_registers x_pageCounts x_pageFrames x_held x_frameUsers x_frameWords x_openHolders x_openKinds x_openTargets x_openPlaces x_openModes x_pipeFirsts x_pipeCounts x_pipeWords x_nameFiles x_fileSizes x_fileWords x_safeNames x_safeSizes x_safeWords x_saidInts n 1 := by
  refine ⟨8 + 1, uk_run (fun m j (_ : Unit) => wX_chooseSlot_26 post x_changes x_saidCount x_time x_lastSlot x_sliceSteps x_latestPid x_greatestPid x_code x_codeLengths x_pids x_parents x_programs x_places x_states x_statuses x_stepCounts x_copyCounts x_wakeTimes x_registers x_pageCounts x_pageFrames x_held x_frameUsers x_frameWords x_openHolders x_openKinds x_openTargets x_openPlaces x_openModes x_pipeFirsts x_pipeCounts x_pipeWords x_nameFiles x_fileSizes x_fileWords x_safeNames x_safeSizes x_safeWords x_saidInts m (nI (j + 1))) (fun _ => ()) 8 (fun m => br_t (by decide) h) (fun m j hj ih => ?_) 8 0 rfl⟩
  refine br_f (nI_nlt (a := 8) (by omega) (by decide)) ⟨by decide, ?_⟩
  rw [el] at ih ⊢
  refine nm_r (uk_sli l j hl hj) (uk_rdX (x_lastSlot := nI l) (by rw [el] at A; exact A) (by omega) (fun z => absurd z (hn _ (by omega))) (fun _ => br_t rfl (nm_r (nI_1 (j + 1)) ih)))
theorem uk_pickX1 {post : Int32 → SX → Prop} {t b l i : Nat} (A : uk_All t b x_changes x_saidCount x_time x_lastSlot x_sliceSteps x_latestPid x_greatestPid x_code x_codeLengths x_pids x_parents x_programs x_places x_states x_statuses x_stepCounts x_copyCounts x_wakeTimes x_registers x_pageCounts x_pageFrames x_held x_frameUsers x_frameWords x_openHolders x_openKinds x_openTargets x_openPlaces x_openModes x_pipeFirsts x_pipeCounts x_pipeWords x_nameFiles x_fileSizes x_fileWords x_safeNames x_safeSizes x_safeWords x_saidInts y_time y_last y_lastPid y_did y_killed y_ops y_as y_bs y_pages y_wake y_zombie y_blocked y_memory y_frame y_kind y_mode y_pipe y_size y_safeSize y_said) (hl : l < 8) (el : x_lastSlot = nI l) (hi : i < 8) (hR : uk_Rd x_pids x_parents y_zombie y_blocked x_programs x_places y_bs y_wake x_registers x_held y_kind x_openTargets x_pipeCounts x_time ((l + (i + 1)) % 8)) (hn : ∀ j, j < i → ¬ uk_Rd x_pids x_parents y_zombie y_blocked x_programs x_places y_bs y_wake x_registers x_held y_kind x_openTargets x_pipeCounts x_time ((l + (j + 1)) % 8)) (h : post (nI ((l + (i + 1)) % 8)) (x_changes, x_saidCount, x_time, nI ((l + (i + 1)) % 8), 0, x_latestPid, x_greatestPid, x_code, x_codeLengths, x_pids, x_parents, x_programs, x_places, x_states, x_statuses, x_stepCounts, x_copyCounts, x_wakeTimes, x_registers, x_pageCounts, x_pageFrames, x_held, x_frameUsers, x_frameWords, x_openHolders, x_openKinds, x_openTargets, x_openPlaces, x_openModes, x_pipeFirsts, x_pipeCounts, x_pipeWords, x_nameFiles, x_fileSizes, x_fileWords, x_safeNames, x_safeSizes, x_safeWords, x_saidInts)) : ∃ n, wX_chooseSlot_26 post x_changes x_saidCount x_time x_lastSlot x_sliceSteps x_latestPid x_greatestPid x_code x_codeLengths x_pids x_parents x_programs x_places x_states x_statuses x_stepCounts x_copyCounts x_wakeTimes x_registers x_pageCounts x_pageFrames x_held x_frameUsers x_frameWords x_openHolders x_openKinds x_openTargets x_openPlaces x_openModes x_pipeFirsts x_pipeCounts x_pipeWords x_nameFiles x_fileSizes x_fileWords x_safeNames x_safeSizes x_safeWords x_saidInts n 1 := by
  refine ⟨i + 1, uk_run (fun m j (_ : Unit) => wX_chooseSlot_26 post x_changes x_saidCount x_time x_lastSlot x_sliceSteps x_latestPid x_greatestPid x_code x_codeLengths x_pids x_parents x_programs x_places x_states x_statuses x_stepCounts x_copyCounts x_wakeTimes x_registers x_pageCounts x_pageFrames x_held x_frameUsers x_frameWords x_openHolders x_openKinds x_openTargets x_openPlaces x_openModes x_pipeFirsts x_pipeCounts x_pipeWords x_nameFiles x_fileSizes x_fileWords x_safeNames x_safeSizes x_safeWords x_saidInts m (nI (j + 1))) (fun _ => ()) i (fun m => ?_) (fun m j hj ih => ?_) i 0 (by omega)⟩
  · refine br_f (nI_nlt (a := 8) (by omega) (by decide)) ⟨by decide, ?_⟩
    rw [el]
    exact nm_r (uk_sli l i hl hi) (uk_rdX (x_lastSlot := nI l) (by rw [el] at A; exact A) (by omega) (fun _ => br_f (by decide) h) (fun z => absurd hR z))
  · refine br_f (nI_nlt (a := 8) (by omega) (by decide)) ⟨by decide, ?_⟩
    rw [el] at ih ⊢
    exact nm_r (uk_sli l j hl (by omega)) (uk_rdX (x_lastSlot := nI l) (by rw [el] at A; exact A) (by omega) (fun z => absurd z (hn j hj)) (fun _ => br_t rfl (nm_r (nI_1 (j + 1)) ih)))
theorem uk_pickY0 {post : Int32 → SY → Prop} {t b l : Nat} (A : uk_All t b x_changes x_saidCount x_time x_lastSlot x_sliceSteps x_latestPid x_greatestPid x_code x_codeLengths x_pids x_parents x_programs x_places x_states x_statuses x_stepCounts x_copyCounts x_wakeTimes x_registers x_pageCounts x_pageFrames x_held x_frameUsers x_frameWords x_openHolders x_openKinds x_openTargets x_openPlaces x_openModes x_pipeFirsts x_pipeCounts x_pipeWords x_nameFiles x_fileSizes x_fileWords x_safeNames x_safeSizes x_safeWords x_saidInts y_time y_last y_lastPid y_did y_killed y_ops y_as y_bs y_pages y_wake y_zombie y_blocked y_memory y_frame y_kind y_mode y_pipe y_size y_safeSize y_said) (hl : l < 8) (el : y_last = nI l) (hn : ∀ i, i < 8 → ¬ uk_Rd x_pids x_parents y_zombie y_blocked x_programs x_places y_bs y_wake x_registers x_held y_kind x_openTargets x_pipeCounts x_time i) (h : post (-1) (x_changes, x_time, y_last, y_lastPid, y_did, x_greatestPid, x_latestPid, x_saidCount, y_killed, y_ops, y_as, y_bs, x_codeLengths, x_pids, x_parents, x_programs, x_places, x_statuses, x_stepCounts, x_copyCounts, y_pages, y_wake, y_zombie, y_blocked, x_registers, y_memory, y_frame, x_held, y_kind, x_openTargets, y_mode, x_openPlaces, x_pipeCounts, y_pipe, x_nameFiles, y_size, x_fileWords, x_safeNames, y_safeSize, x_safeWords, y_said)) : ∃ n, wY_choose_49 post x_changes x_time y_last y_lastPid y_did x_greatestPid x_latestPid x_saidCount y_killed y_ops y_as y_bs x_codeLengths x_pids x_parents x_programs x_places x_statuses x_stepCounts x_copyCounts y_pages y_wake y_zombie y_blocked x_registers y_memory y_frame x_held y_kind x_openTargets y_mode x_openPlaces x_pipeCounts y_pipe x_nameFiles y_size x_fileWords x_safeNames y_safeSize x_safeWords y_said n 1 := by
  refine ⟨8 + 1, uk_run (fun m j (_ : Unit) => wY_choose_49 post x_changes x_time y_last y_lastPid y_did x_greatestPid x_latestPid x_saidCount y_killed y_ops y_as y_bs x_codeLengths x_pids x_parents x_programs x_places x_statuses x_stepCounts x_copyCounts y_pages y_wake y_zombie y_blocked x_registers y_memory y_frame x_held y_kind x_openTargets y_mode x_openPlaces x_pipeCounts y_pipe x_nameFiles y_size x_fileWords x_safeNames y_safeSize x_safeWords y_said m (nI (j + 1))) (fun _ => ()) 8 (fun m => br_t (by decide) h) (fun m j hj ih => ?_) 8 0 rfl⟩
  refine br_f (nI_ge (b := 9) (by omega) (by decide)) ⟨by decide, ?_⟩
  rw [el] at ih ⊢
  refine nm_r (uk_sli l j hl hj) (uk_rdY (y_last := nI l) (by rw [el] at A; exact A) (by omega) (fun z => absurd z (hn _ (by omega))) (fun _ => br_t rfl (nm_r (nI_1 (j + 1)) ih)))
theorem uk_pickY1 {post : Int32 → SY → Prop} {t b l i : Nat} (A : uk_All t b x_changes x_saidCount x_time x_lastSlot x_sliceSteps x_latestPid x_greatestPid x_code x_codeLengths x_pids x_parents x_programs x_places x_states x_statuses x_stepCounts x_copyCounts x_wakeTimes x_registers x_pageCounts x_pageFrames x_held x_frameUsers x_frameWords x_openHolders x_openKinds x_openTargets x_openPlaces x_openModes x_pipeFirsts x_pipeCounts x_pipeWords x_nameFiles x_fileSizes x_fileWords x_safeNames x_safeSizes x_safeWords x_saidInts y_time y_last y_lastPid y_did y_killed y_ops y_as y_bs y_pages y_wake y_zombie y_blocked y_memory y_frame y_kind y_mode y_pipe y_size y_safeSize y_said) (hl : l < 8) (el : y_last = nI l) (hi : i < 8) (hR : uk_Rd x_pids x_parents y_zombie y_blocked x_programs x_places y_bs y_wake x_registers x_held y_kind x_openTargets x_pipeCounts x_time ((l + (i + 1)) % 8)) (hn : ∀ j, j < i → ¬ uk_Rd x_pids x_parents y_zombie y_blocked x_programs x_places y_bs y_wake x_registers x_held y_kind x_openTargets x_pipeCounts x_time ((l + (j + 1)) % 8)) (h : post (nI ((l + (i + 1)) % 8)) (x_changes, x_time, y_last, y_lastPid, 0, x_greatestPid, x_latestPid, x_saidCount, y_killed, y_ops, y_as, y_bs, x_codeLengths, x_pids, x_parents, x_programs, x_places, x_statuses, x_stepCounts, x_copyCounts, y_pages, y_wake, y_zombie, y_blocked, x_registers, y_memory, y_frame, x_held, y_kind, x_openTargets, y_mode, x_openPlaces, x_pipeCounts, y_pipe, x_nameFiles, y_size, x_fileWords, x_safeNames, y_safeSize, x_safeWords, y_said)) : ∃ n, wY_choose_49 post x_changes x_time y_last y_lastPid y_did x_greatestPid x_latestPid x_saidCount y_killed y_ops y_as y_bs x_codeLengths x_pids x_parents x_programs x_places x_statuses x_stepCounts x_copyCounts y_pages y_wake y_zombie y_blocked x_registers y_memory y_frame x_held y_kind x_openTargets y_mode x_openPlaces x_pipeCounts y_pipe x_nameFiles y_size x_fileWords x_safeNames y_safeSize x_safeWords y_said n 1 := by
  refine ⟨i + 1, uk_run (fun m j (_ : Unit) => wY_choose_49 post x_changes x_time y_last y_lastPid y_did x_greatestPid x_latestPid x_saidCount y_killed y_ops y_as y_bs x_codeLengths x_pids x_parents x_programs x_places x_statuses x_stepCounts x_copyCounts y_pages y_wake y_zombie y_blocked x_registers y_memory y_frame x_held y_kind x_openTargets y_mode x_openPlaces x_pipeCounts y_pipe x_nameFiles y_size x_fileWords x_safeNames y_safeSize x_safeWords y_said m (nI (j + 1))) (fun _ => ()) i (fun m => ?_) (fun m j hj ih => ?_) i 0 (by omega)⟩
  · refine br_f (nI_ge (b := 9) (by omega) (by decide)) ⟨by decide, ?_⟩
    rw [el] at h ⊢
    exact nm_r (uk_sli l i hl hi) (uk_rdY (y_last := nI l) (by rw [el] at A; exact A) (by omega) (fun _ => br_f (by decide) h) (fun z => absurd hR z))
  · refine br_f (nI_ge (b := 9) (by omega) (by decide)) ⟨by decide, ?_⟩
    rw [el] at ih ⊢
    exact nm_r (uk_sli l j hl (by omega)) (uk_rdY (y_last := nI l) (by rw [el] at A; exact A) (by omega) (fun z => absurd z (hn j hj)) (fun _ => br_t rfl (nm_r (nI_1 (j + 1)) ih)))
theorem uk_choose {t b : Nat} (A : uk_All t b x_changes x_saidCount x_time x_lastSlot x_sliceSteps x_latestPid x_greatestPid x_code x_codeLengths x_pids x_parents x_programs x_places x_states x_statuses x_stepCounts x_copyCounts x_wakeTimes x_registers x_pageCounts x_pageFrames x_held x_frameUsers x_frameWords x_openHolders x_openKinds x_openTargets x_openPlaces x_openModes x_pipeFirsts x_pipeCounts x_pipeWords x_nameFiles x_fileSizes x_fileWords x_safeNames x_safeSizes x_safeWords x_saidInts y_time y_last y_lastPid y_did y_killed y_ops y_as y_bs y_pages y_wake y_zombie y_blocked y_memory y_frame y_kind y_mode y_pipe y_size y_safeSize y_said) :
  (∃ s sl', s < 8 ∧ uk_Rd x_pids x_parents y_zombie y_blocked x_programs x_places y_bs y_wake x_registers x_held y_kind x_openTargets x_pipeCounts x_time s ∧ (∀ post : Int32 → SX → Prop, post (nI s) (x_changes, x_saidCount, x_time, nI s, sl', x_latestPid, x_greatestPid, x_code, x_codeLengths, x_pids, x_parents, x_programs, x_places, x_states, x_statuses, x_stepCounts, x_copyCounts, x_wakeTimes, x_registers, x_pageCounts, x_pageFrames, x_held, x_frameUsers, x_frameWords, x_openHolders, x_openKinds, x_openTargets, x_openPlaces, x_openModes, x_pipeFirsts, x_pipeCounts, x_pipeWords, x_nameFiles, x_fileSizes, x_fileWords, x_safeNames, x_safeSizes, x_safeWords, x_saidInts) → wpX_chooseSlot post (x_changes, x_saidCount, x_time, x_lastSlot, x_sliceSteps, x_latestPid, x_greatestPid, x_code, x_codeLengths, x_pids, x_parents, x_programs, x_places, x_states, x_statuses, x_stepCounts, x_copyCounts, x_wakeTimes, x_registers, x_pageCounts, x_pageFrames, x_held, x_frameUsers, x_frameWords, x_openHolders, x_openKinds, x_openTargets, x_openPlaces, x_openModes, x_pipeFirsts, x_pipeCounts, x_pipeWords, x_nameFiles, x_fileSizes, x_fileWords, x_safeNames, x_safeSizes, x_safeWords, x_saidInts)) ∧ (∀ post : Int32 → SY → Prop, post (nI s) (x_changes, x_time, y_last, y_lastPid, sl', x_greatestPid, x_latestPid, x_saidCount, y_killed, y_ops, y_as, y_bs, x_codeLengths, x_pids, x_parents, x_programs, x_places, x_statuses, x_stepCounts, x_copyCounts, y_pages, y_wake, y_zombie, y_blocked, x_registers, y_memory, y_frame, x_held, y_kind, x_openTargets, y_mode, x_openPlaces, x_pipeCounts, y_pipe, x_nameFiles, y_size, x_fileWords, x_safeNames, y_safeSize, x_safeWords, y_said) → wpY_choose post (x_changes, x_time, y_last, y_lastPid, y_did, x_greatestPid, x_latestPid, x_saidCount, y_killed, y_ops, y_as, y_bs, x_codeLengths, x_pids, x_parents, x_programs, x_places, x_statuses, x_stepCounts, x_copyCounts, y_pages, y_wake, y_zombie, y_blocked, x_registers, y_memory, y_frame, x_held, y_kind, x_openTargets, y_mode, x_openPlaces, x_pipeCounts, y_pipe, x_nameFiles, y_size, x_fileWords, x_safeNames, y_safeSize, x_safeWords, y_said))) ∨
  ((∀ i, i < 8 → ¬ uk_Rd x_pids x_parents y_zombie y_blocked x_programs x_places y_bs y_wake x_registers x_held y_kind x_openTargets x_pipeCounts x_time i) ∧ (∀ post : Int32 → SX → Prop, post (-1) (x_changes, x_saidCount, x_time, x_lastSlot, x_sliceSteps, x_latestPid, x_greatestPid, x_code, x_codeLengths, x_pids, x_parents, x_programs, x_places, x_states, x_statuses, x_stepCounts, x_copyCounts, x_wakeTimes, x_registers, x_pageCounts, x_pageFrames, x_held, x_frameUsers, x_frameWords, x_openHolders, x_openKinds, x_openTargets, x_openPlaces, x_openModes, x_pipeFirsts, x_pipeCounts, x_pipeWords, x_nameFiles, x_fileSizes, x_fileWords, x_safeNames, x_safeSizes, x_safeWords, x_saidInts) → wpX_chooseSlot post (x_changes, x_saidCount, x_time, x_lastSlot, x_sliceSteps, x_latestPid, x_greatestPid, x_code, x_codeLengths, x_pids, x_parents, x_programs, x_places, x_states, x_statuses, x_stepCounts, x_copyCounts, x_wakeTimes, x_registers, x_pageCounts, x_pageFrames, x_held, x_frameUsers, x_frameWords, x_openHolders, x_openKinds, x_openTargets, x_openPlaces, x_openModes, x_pipeFirsts, x_pipeCounts, x_pipeWords, x_nameFiles, x_fileSizes, x_fileWords, x_safeNames, x_safeSizes, x_safeWords, x_saidInts)) ∧ (∀ post : Int32 → SY → Prop, post (-1) (x_changes, x_time, y_last, y_lastPid, y_did, x_greatestPid, x_latestPid, x_saidCount, y_killed, y_ops, y_as, y_bs, x_codeLengths, x_pids, x_parents, x_programs, x_places, x_statuses, x_stepCounts, x_copyCounts, y_pages, y_wake, y_zombie, y_blocked, x_registers, y_memory, y_frame, x_held, y_kind, x_openTargets, y_mode, x_openPlaces, x_pipeCounts, y_pipe, x_nameFiles, y_size, x_fileWords, x_safeNames, y_safeSize, x_safeWords, y_said) → wpY_choose post (x_changes, x_time, y_last, y_lastPid, y_did, x_greatestPid, x_latestPid, x_saidCount, y_killed, y_ops, y_as, y_bs, x_codeLengths, x_pids, x_parents, x_programs, x_places, x_statuses, x_stepCounts, x_copyCounts, y_pages, y_wake, y_zombie, y_blocked, x_registers, y_memory, y_frame, x_held, y_kind, x_openTargets, y_mode, x_openPlaces, x_pipeCounts, y_pipe, x_nameFiles, y_size, x_fileWords, x_safeNames, y_safeSize, x_safeWords, y_said))) := by
  obtain ⟨vls, vla, hS⟩ := uk_aSc A
  obtain ⟨l, hl, el⟩ := vp_in_of vls (by decide)
  obtain ⟨la, hla, ela⟩ := vp_in_of vla (by decide)
  by_cases hnone : ∀ i, i < 8 → ¬ uk_Rd x_pids x_parents y_zombie y_blocked x_programs x_places y_bs y_wake x_registers x_held y_kind x_openTargets x_pipeCounts x_time i
  · refine Or.inr ⟨hnone, fun post h => ?_, fun post h => ?_⟩
    · have k := uk_pickX0 A hl el hnone h
      unfold wpX_chooseSlot
      refine ⟨fun _ => k, fun _ => ?_⟩
      have r := uk_rdX (post := fun r_47 => (((r_47 = 0 → (∃ n26 : Nat, wX_chooseSlot_26 post x_changes x_saidCount x_time x_lastSlot x_sliceSteps x_latestPid x_greatestPid x_code x_codeLengths x_pids x_parents x_programs x_places x_states x_statuses x_stepCounts x_copyCounts x_wakeTimes x_registers x_pageCounts x_pageFrames x_held x_frameUsers x_frameWords x_openHolders x_openKinds x_openTargets x_openPlaces x_openModes x_pipeFirsts x_pipeCounts x_pipeWords x_nameFiles x_fileSizes x_fileWords x_safeNames x_safeSizes x_safeWords x_saidInts n26 1)) ∧ (¬ r_47 = 0 → (post x_lastSlot (x_changes, x_saidCount, x_time, x_lastSlot, x_sliceSteps, x_latestPid, x_greatestPid, x_code, x_codeLengths, x_pids, x_parents, x_programs, x_places, x_states, x_statuses, x_stepCounts, x_copyCounts, x_wakeTimes, x_registers, x_pageCounts, x_pageFrames, x_held, x_frameUsers, x_frameWords, x_openHolders, x_openKinds, x_openTargets, x_openPlaces, x_openModes, x_pipeFirsts, x_pipeCounts, x_pipeWords, x_nameFiles, x_fileSizes, x_fileWords, x_safeNames, x_safeSizes, x_safeWords, x_saidInts)))))) A hl (fun z => absurd z (hnone l hl)) (fun _ => br_t rfl k)
      rw [← el] at r
      exact r
    · have k := uk_pickY0 A hla ela hnone h
      unfold wpY_choose
      refine ⟨vla, fun _ => ⟨fun _ => k, fun _ => ⟨fun _ => k, fun _ => ?_⟩⟩, fun _ => k⟩
      have r := uk_rdY (post := fun r_52 => (((r_52 = 0 → (∃ n49 : Nat, wY_choose_49 post x_changes x_time y_last y_lastPid y_did x_greatestPid x_latestPid x_saidCount y_killed y_ops y_as y_bs x_codeLengths x_pids x_parents x_programs x_places x_statuses x_stepCounts x_copyCounts y_pages y_wake y_zombie y_blocked x_registers y_memory y_frame x_held y_kind x_openTargets y_mode x_openPlaces x_pipeCounts y_pipe x_nameFiles y_size x_fileWords x_safeNames y_safeSize x_safeWords y_said n49 1)) ∧ (¬ r_52 = 0 → (post y_last (x_changes, x_time, y_last, y_lastPid, y_did, x_greatestPid, x_latestPid, x_saidCount, y_killed, y_ops, y_as, y_bs, x_codeLengths, x_pids, x_parents, x_programs, x_places, x_statuses, x_stepCounts, x_copyCounts, y_pages, y_wake, y_zombie, y_blocked, x_registers, y_memory, y_frame, x_held, y_kind, x_openTargets, y_mode, x_openPlaces, x_pipeCounts, y_pipe, x_nameFiles, y_size, x_fileWords, x_safeNames, y_safeSize, x_safeWords, y_said)))))) A hla (fun z => absurd z (hnone la hla)) (fun _ => br_t rfl k)
      rw [← ela] at r
      exact r
  · obtain ⟨s1, hs1, hr1⟩ : ∃ s, s < 8 ∧ uk_Rd x_pids x_parents y_zombie y_blocked x_programs x_places y_bs y_wake x_registers x_held y_kind x_openTargets x_pipeCounts x_time s := Classical.byContradiction (fun z => hnone (fun i hi w => z ⟨i, hi, w⟩))
    have hS2 : x_lastSlot = y_last ∧ (x_pids y_last.toNatClampNeg = 0 ∨ (x_pids y_last.toNatClampNeg = y_lastPid ∧ x_sliceSteps = y_did)) := by
      rcases hS with z | z
      · exact absurd (z s1 hs1) hr1.1
      · exact z
    obtain ⟨els, hS3⟩ := hS2
    have ell : l = la := uk_nIn (by omega) (by omega) (el.symm.trans (els.trans ela))
    subst ell
    have ecl : y_last.toNatClampNeg = l := by rw [ela, nI_clamp (by omega)]
    rw [ecl] at hS3
    by_cases hsame : ¬ 5 ≤ x_sliceSteps ∧ uk_Rd x_pids x_parents y_zombie y_blocked x_programs x_places y_bs y_wake x_registers x_held y_kind x_openTargets x_pipeCounts x_time l
    · obtain ⟨h5, hR⟩ := hsame
      have hq := hS3.resolve_left hR.1
      refine Or.inl ⟨l, x_sliceSteps, hl, hR, fun post h => ?_, fun post h => ?_⟩
      · unfold wpX_chooseSlot
        refine br_f h5 ?_
        rw [← el] at h
        have r := uk_rdX (post := fun r_47 => (((r_47 = 0 → (∃ n26 : Nat, wX_chooseSlot_26 post x_changes x_saidCount x_time x_lastSlot x_sliceSteps x_latestPid x_greatestPid x_code x_codeLengths x_pids x_parents x_programs x_places x_states x_statuses x_stepCounts x_copyCounts x_wakeTimes x_registers x_pageCounts x_pageFrames x_held x_frameUsers x_frameWords x_openHolders x_openKinds x_openTargets x_openPlaces x_openModes x_pipeFirsts x_pipeCounts x_pipeWords x_nameFiles x_fileSizes x_fileWords x_safeNames x_safeSizes x_safeWords x_saidInts n26 1)) ∧ (¬ r_47 = 0 → (post x_lastSlot (x_changes, x_saidCount, x_time, x_lastSlot, x_sliceSteps, x_latestPid, x_greatestPid, x_code, x_codeLengths, x_pids, x_parents, x_programs, x_places, x_states, x_statuses, x_stepCounts, x_copyCounts, x_wakeTimes, x_registers, x_pageCounts, x_pageFrames, x_held, x_frameUsers, x_frameWords, x_openHolders, x_openKinds, x_openTargets, x_openPlaces, x_openModes, x_pipeFirsts, x_pipeCounts, x_pipeWords, x_nameFiles, x_fileSizes, x_fileWords, x_safeNames, x_safeSizes, x_safeWords, x_saidInts)))))) A hl (fun _ => br_f (by decide) h) (fun z => absurd hR z)
        rw [← el] at r
        exact r
      · unfold wpY_choose
        dsimp only
        rw [ecl]
        rw [hq.2, ← ela] at h
        have r := uk_rdY (post := fun r_52 => (((r_52 = 0 → (∃ n49 : Nat, wY_choose_49 post x_changes x_time y_last y_lastPid y_did x_greatestPid x_latestPid x_saidCount y_killed y_ops y_as y_bs x_codeLengths x_pids x_parents x_programs x_places x_statuses x_stepCounts x_copyCounts y_pages y_wake y_zombie y_blocked x_registers y_memory y_frame x_held y_kind x_openTargets y_mode x_openPlaces x_pipeCounts y_pipe x_nameFiles y_size x_fileWords x_safeNames y_safeSize x_safeWords y_said n49 1)) ∧ (¬ r_52 = 0 → (post y_last (x_changes, x_time, y_last, y_lastPid, y_did, x_greatestPid, x_latestPid, x_saidCount, y_killed, y_ops, y_as, y_bs, x_codeLengths, x_pids, x_parents, x_programs, x_places, x_statuses, x_stepCounts, x_copyCounts, y_pages, y_wake, y_zombie, y_blocked, x_registers, y_memory, y_frame, x_held, y_kind, x_openTargets, y_mode, x_openPlaces, x_pipeCounts, y_pipe, x_nameFiles, y_size, x_fileWords, x_safeNames, y_safeSize, x_safeWords, y_said)))))) A hl (fun _ => br_f (by decide) h) (fun z => absurd hR z)
        rw [← ela] at r
        refine ⟨vla, br_t hq.1 (br_f ?_ (br_f (by rw [← hq.2]; exact h5) r))⟩
        rw [← hq.1]
        exact fun z => hR.1 ((uk_le0 (uk_aPs A l hl).1).mp z)
    · have hff := uk_ffs (fun i => uk_Rd x_pids x_parents y_zombie y_blocked x_programs x_places y_bs y_wake x_registers x_held y_kind x_openTargets x_pipeCounts x_time ((l + (i + 1)) % 8)) 8
      rcases hff with ⟨_, z⟩ | ⟨i, hi, _, hR, hn⟩
      · refine absurd hr1 ?_
        have := z ((s1 + 15 - l) % 8) (by omega)
        rw [show (l + ((s1 + 15 - l) % 8 + 1)) % 8 = s1 by omega] at this
        exact this
      · refine Or.inl ⟨(l + (i + 1)) % 8, 0, by omega, hR, fun post h => ?_, fun post h => ?_⟩
        · have k := uk_pickX1 A hl el hi hR hn h
          unfold wpX_chooseSlot
          refine ⟨fun _ => k, fun a => ?_⟩
          have r := uk_rdX (post := fun r_47 => (((r_47 = 0 → (∃ n26 : Nat, wX_chooseSlot_26 post x_changes x_saidCount x_time x_lastSlot x_sliceSteps x_latestPid x_greatestPid x_code x_codeLengths x_pids x_parents x_programs x_places x_states x_statuses x_stepCounts x_copyCounts x_wakeTimes x_registers x_pageCounts x_pageFrames x_held x_frameUsers x_frameWords x_openHolders x_openKinds x_openTargets x_openPlaces x_openModes x_pipeFirsts x_pipeCounts x_pipeWords x_nameFiles x_fileSizes x_fileWords x_safeNames x_safeSizes x_safeWords x_saidInts n26 1)) ∧ (¬ r_47 = 0 → (post x_lastSlot (x_changes, x_saidCount, x_time, x_lastSlot, x_sliceSteps, x_latestPid, x_greatestPid, x_code, x_codeLengths, x_pids, x_parents, x_programs, x_places, x_states, x_statuses, x_stepCounts, x_copyCounts, x_wakeTimes, x_registers, x_pageCounts, x_pageFrames, x_held, x_frameUsers, x_frameWords, x_openHolders, x_openKinds, x_openTargets, x_openPlaces, x_openModes, x_pipeFirsts, x_pipeCounts, x_pipeWords, x_nameFiles, x_fileSizes, x_fileWords, x_safeNames, x_safeSizes, x_safeWords, x_saidInts)))))) A hl (fun z => absurd ⟨a, z⟩ hsame) (fun _ => br_t rfl k)
          rw [← el] at r
          exact r
        · have k := uk_pickY1 A hl ela hi hR hn h
          unfold wpY_choose
          refine ⟨vla, fun _ => ⟨fun _ => k, fun _ => ⟨fun _ => k, fun a => ?_⟩⟩, fun _ => k⟩
          have r := uk_rdY (post := fun r_52 => (((r_52 = 0 → (∃ n49 : Nat, wY_choose_49 post x_changes x_time y_last y_lastPid y_did x_greatestPid x_latestPid x_saidCount y_killed y_ops y_as y_bs x_codeLengths x_pids x_parents x_programs x_places x_statuses x_stepCounts x_copyCounts y_pages y_wake y_zombie y_blocked x_registers y_memory y_frame x_held y_kind x_openTargets y_mode x_openPlaces x_pipeCounts y_pipe x_nameFiles y_size x_fileWords x_safeNames y_safeSize x_safeWords y_said n49 1)) ∧ (¬ r_52 = 0 → (post y_last (x_changes, x_time, y_last, y_lastPid, y_did, x_greatestPid, x_latestPid, x_saidCount, y_killed, y_ops, y_as, y_bs, x_codeLengths, x_pids, x_parents, x_programs, x_places, x_statuses, x_stepCounts, x_copyCounts, y_pages, y_wake, y_zombie, y_blocked, x_registers, y_memory, y_frame, x_held, y_kind, x_openTargets, y_mode, x_openPlaces, x_pipeCounts, y_pipe, x_nameFiles, y_size, x_fileWords, x_safeNames, y_safeSize, x_safeWords, y_said)))))) A hl (fun z => absurd ⟨by rw [(hS3.resolve_left z.1).2]; exact a, z⟩ hsame) (fun _ => br_t rfl k)
          rw [← ela] at r
          exact r
end
end
section
/-! the skip of time, and run -/
noncomputable def uk_sk (Z : Nat → Prop) (w : Nat → Int32) : Nat → Int32
  | 0 => -1
  | n + 1 => @ite Int32 (Z n ∧ (uk_sk Z w n = -1 ∨ ¬ uk_sk Z w n ≤ w n)) (Classical.propDecidable _) (w n) (uk_sk Z w n)
theorem uk_skt {Z : Nat → Prop} {w : Nat → Int32} {n : Nat} (h : Z n ∧ (uk_sk Z w n = -1 ∨ ¬ uk_sk Z w n ≤ w n)) : uk_sk Z w (n + 1) = w n := if_pos h
theorem uk_skf {Z : Nat → Prop} {w : Nat → Int32} {n : Nat} (h : ¬ (Z n ∧ (uk_sk Z w n = -1 ∨ ¬ uk_sk Z w n ≤ w n))) : uk_sk Z w (n + 1) = uk_sk Z w n := if_neg h
theorem uk_sks (Z : Nat → Prop) (w : Nat → Int32) : ∀ n, (uk_sk Z w n = -1 ∧ ∀ i, i < n → ¬ Z i) ∨ (∃ i, i < n ∧ Z i ∧ uk_sk Z w n = w i)
  | 0 => Or.inl ⟨rfl, fun i hi => by omega⟩
  | n + 1 => by
    by_cases h : Z n ∧ (uk_sk Z w n = -1 ∨ ¬ uk_sk Z w n ≤ w n)
    · rw [uk_skt h]; exact Or.inr ⟨n, by omega, h.1, rfl⟩
    · rw [uk_skf h]
      rcases uk_sks Z w n with ⟨a, b⟩ | ⟨i, hi, a, b⟩
      · refine Or.inl ⟨a, fun i hi z => ?_⟩
        by_cases e : i = n
        · subst e; exact h ⟨z, Or.inl a⟩
        · exact b i (by omega) z
      · exact Or.inr ⟨i, by omega, a, b⟩
section
variable {x_changes x_saidCount x_time x_lastSlot x_sliceSteps x_latestPid x_greatestPid : Int32} {x_code x_codeLengths x_pids x_parents x_programs x_places x_states x_statuses x_stepCounts x_copyCounts x_wakeTimes x_registers x_pageCounts x_pageFrames x_held x_frameUsers x_frameWords x_openHolders x_openKinds x_openTargets x_openPlaces x_openModes x_pipeFirsts x_pipeCounts x_pipeWords x_nameFiles x_fileSizes x_fileWords x_safeNames x_safeSizes x_safeWords x_saidInts : Nat → Int32} {y_time y_last y_lastPid y_did y_killed : Int32} {y_ops y_as y_bs y_pages y_wake y_zombie y_blocked y_memory y_frame y_kind y_mode y_pipe y_size y_safeSize y_said : Nat → Int32}
theorem xk_skip {post : Int32 → SX → Prop} {Z : Nat → Prop} (hw : ∀ i, i < 8 → Z i → x_wakeTimes i = y_wake i ∧ 0 ≤ y_wake i) (hZ : ∀ i, i < 8 → (Z i ↔ (x_pids i ≠ 0 ∧ x_states i = 2 ∧ ¬ x_wakeTimes i ≤ x_time))) (h0 : uk_sk Z y_wake 8 = -1 → post 0 (x_changes, x_saidCount, x_time, x_lastSlot, x_sliceSteps, x_latestPid, x_greatestPid, x_code, x_codeLengths, x_pids, x_parents, x_programs, x_places, x_states, x_statuses, x_stepCounts, x_copyCounts, x_wakeTimes, x_registers, x_pageCounts, x_pageFrames, x_held, x_frameUsers, x_frameWords, x_openHolders, x_openKinds, x_openTargets, x_openPlaces, x_openModes, x_pipeFirsts, x_pipeCounts, x_pipeWords, x_nameFiles, x_fileSizes, x_fileWords, x_safeNames, x_safeSizes, x_safeWords, x_saidInts)) (h1 : uk_sk Z y_wake 8 ≠ -1 → post 1 (x_changes, x_saidCount, uk_sk Z y_wake 8, x_lastSlot, x_sliceSteps, x_latestPid, x_greatestPid, x_code, x_codeLengths, x_pids, x_parents, x_programs, x_places, x_states, x_statuses, x_stepCounts, x_copyCounts, x_wakeTimes, x_registers, x_pageCounts, x_pageFrames, x_held, x_frameUsers, x_frameWords, x_openHolders, x_openKinds, x_openTargets, x_openPlaces, x_openModes, x_pipeFirsts, x_pipeCounts, x_pipeWords, x_nameFiles, x_fileSizes, x_fileWords, x_safeNames, x_safeSizes, x_safeWords, x_saidInts)) : wpX_skipToWake post (x_changes, x_saidCount, x_time, x_lastSlot, x_sliceSteps, x_latestPid, x_greatestPid, x_code, x_codeLengths, x_pids, x_parents, x_programs, x_places, x_states, x_statuses, x_stepCounts, x_copyCounts, x_wakeTimes, x_registers, x_pageCounts, x_pageFrames, x_held, x_frameUsers, x_frameWords, x_openHolders, x_openKinds, x_openTargets, x_openPlaces, x_openModes, x_pipeFirsts, x_pipeCounts, x_pipeWords, x_nameFiles, x_fileSizes, x_fileWords, x_safeNames, x_safeSizes, x_safeWords, x_saidInts) := by
  unfold wpX_skipToWake
  refine uk_run0 (fun m i (x : Int32) => wX_skipToWake_4 post x_changes x_saidCount x_time x_lastSlot x_sliceSteps x_latestPid x_greatestPid x_code x_codeLengths x_pids x_parents x_programs x_places x_states x_statuses x_stepCounts x_copyCounts x_wakeTimes x_registers x_pageCounts x_pageFrames x_held x_frameUsers x_frameWords x_openHolders x_openKinds x_openTargets x_openPlaces x_openModes x_pipeFirsts x_pipeCounts x_pipeWords x_nameFiles x_fileSizes x_fileWords x_safeNames x_safeSizes x_safeWords x_saidInts m x (nI i)) (fun i => uk_sk Z y_wake i) 8 (fun m => br_t (uk_refl 8) ⟨h0, h1⟩) (fun m i hi ih => ?_)
  obtain ⟨z, v, e⟩ := uk_lp 8 hi (by decide)
  have skip : ¬ Z i → wX_skipToWake_46 post (wX_skipToWake_4 post x_changes x_saidCount x_time x_lastSlot x_sliceSteps x_latestPid x_greatestPid x_code x_codeLengths x_pids x_parents x_programs x_places x_states x_statuses x_stepCounts x_copyCounts x_wakeTimes x_registers x_pageCounts x_pageFrames x_held x_frameUsers x_frameWords x_openHolders x_openKinds x_openTargets x_openPlaces x_openModes x_pipeFirsts x_pipeCounts x_pipeWords x_nameFiles x_fileSizes x_fileWords x_safeNames x_safeSizes x_safeWords x_saidInts m) (uk_sk Z y_wake i) (nI i) x_changes x_saidCount x_time x_lastSlot x_sliceSteps x_latestPid x_greatestPid x_code x_codeLengths x_pids x_parents x_programs x_places x_states x_statuses x_stepCounts x_copyCounts x_wakeTimes x_registers x_pageCounts x_pageFrames x_held x_frameUsers x_frameWords x_openHolders x_openKinds x_openTargets x_openPlaces x_openModes x_pipeFirsts x_pipeCounts x_pipeWords x_nameFiles x_fileSizes x_fileWords x_safeNames x_safeSizes x_safeWords x_saidInts := fun hn => by
    rw [uk_skf (fun q => hn q.1)] at ih
    unfold wX_skipToWake_46 wX_skipToWake_47
    exact br_t rfl (nm_r (nI_1 i) ih)
  have take : Z i → wX_skipToWake_47 post (wX_skipToWake_4 post x_changes x_saidCount x_time x_lastSlot x_sliceSteps x_latestPid x_greatestPid x_code x_codeLengths x_pids x_parents x_programs x_places x_states x_statuses x_stepCounts x_copyCounts x_wakeTimes x_registers x_pageCounts x_pageFrames x_held x_frameUsers x_frameWords x_openHolders x_openKinds x_openTargets x_openPlaces x_openModes x_pipeFirsts x_pipeCounts x_pipeWords x_nameFiles x_fileSizes x_fileWords x_safeNames x_safeSizes x_safeWords x_saidInts m) (uk_sk Z y_wake i) (nI i) 1 x_changes x_saidCount x_time x_lastSlot x_sliceSteps x_latestPid x_greatestPid x_code x_codeLengths x_pids x_parents x_programs x_places x_states x_statuses x_stepCounts x_copyCounts x_wakeTimes x_registers x_pageCounts x_pageFrames x_held x_frameUsers x_frameWords x_openHolders x_openKinds x_openTargets x_openPlaces x_openModes x_pipeFirsts x_pipeCounts x_pipeWords x_nameFiles x_fileSizes x_fileWords x_safeNames x_safeSizes x_safeWords x_saidInts := fun hz => by
    unfold wX_skipToWake_47
    rw [e, (hw i hi hz).1]
    refine br_f (by decide) ⟨fun a => ⟨v, ?_⟩, fun a => ⟨v, fun b => ?_, fun b => ⟨v, ?_⟩⟩⟩
    · rw [uk_skt ⟨hz, Or.inl a⟩] at ih
      exact nm_e (nm_r (nI_1 i) ih)
    · rw [uk_skf (fun q => by
        rcases q.2 with q | q
        · exact a q
        · exact q b)] at ih
      exact nm_r (nI_1 i) ih
    · rw [uk_skt ⟨hz, Or.inr b⟩] at ih
      exact nm_e (nm_r (nI_1 i) ih)
  refine br_f z ⟨v, ?_⟩
  rw [e]
  exact ⟨fun a => skip (fun q => ((hZ i hi).mp q).1 a), fun a => ⟨v, fun b => ⟨v, fun c => skip (fun q => ((hZ i hi).mp q).2.2 c), fun c => take ((hZ i hi).mpr ⟨a, b, c⟩)⟩, fun b => skip (fun q => b ((hZ i hi).mp q).2.1)⟩⟩
theorem yk_wake {post : Int32 → Prop} {Z : Nat → Prop} (hw : ∀ i, i < 8 → Z i → 0 ≤ y_wake i) (hZ : ∀ i, i < 8 → (Z i ↔ (x_pids i ≠ 0 ∧ y_zombie i = 0 ∧ y_blocked i ≠ 0 ∧ 0 ≤ y_wake i))) (h : post (uk_sk Z y_wake 8)) : wpY_waking post (x_changes, y_time, y_last, y_lastPid, y_did, x_greatestPid, x_latestPid, x_saidCount, y_killed, y_ops, y_as, y_bs, x_codeLengths, x_pids, x_parents, x_programs, x_places, x_statuses, x_stepCounts, x_copyCounts, y_pages, y_wake, y_zombie, y_blocked, x_registers, y_memory, y_frame, x_held, y_kind, x_openTargets, y_mode, x_openPlaces, x_pipeCounts, y_pipe, x_nameFiles, y_size, x_fileWords, x_safeNames, y_safeSize, x_safeWords, y_said) := by
  unfold wpY_waking
  refine uk_run0 (fun m i (x : Int32) => wY_waking_4 post x_changes y_time y_last y_lastPid y_did x_greatestPid x_latestPid x_saidCount y_killed y_ops y_as y_bs x_codeLengths x_pids x_parents x_programs x_places x_statuses x_stepCounts x_copyCounts y_pages y_wake y_zombie y_blocked x_registers y_memory y_frame x_held y_kind x_openTargets y_mode x_openPlaces x_pipeCounts y_pipe x_nameFiles y_size x_fileWords x_safeNames y_safeSize x_safeWords y_said m x (nI i)) (fun i => uk_sk Z y_wake i) 8 (fun m => br_t (uk_refl 8) h) (fun m i hi ih => ?_)
  obtain ⟨z, v, e⟩ := uk_lp 8 hi (by decide)
  have skip : ¬ Z i → ∀ x : Int32, x = nI i + 1 → wY_waking_4 post x_changes y_time y_last y_lastPid y_did x_greatestPid x_latestPid x_saidCount y_killed y_ops y_as y_bs x_codeLengths x_pids x_parents x_programs x_places x_statuses x_stepCounts x_copyCounts y_pages y_wake y_zombie y_blocked x_registers y_memory y_frame x_held y_kind x_openTargets y_mode x_openPlaces x_pipeCounts y_pipe x_nameFiles y_size x_fileWords x_safeNames y_safeSize x_safeWords y_said m (uk_sk Z y_wake i) x := fun hn => by
    rw [uk_skf (fun q => hn q.1)] at ih
    exact nm_r (nI_1 i) ih
  have neg : uk_sk Z y_wake i < 0 ↔ uk_sk Z y_wake i = -1 := by
    rcases uk_sks Z y_wake i with ⟨a, _⟩ | ⟨j, hj, a, b⟩
    · rw [a]; exact ⟨fun _ => rfl, fun _ => by decide⟩
    · rw [b]
      have := hw j (by omega) a
      exact ⟨fun q => absurd q (Int32.not_lt.mpr this), fun q => by rw [q] at this; exact absurd this (by decide)⟩
  refine br_f z ⟨v, ?_⟩
  rw [e]
  refine ⟨fun a => skip (fun q => ((hZ i hi).mp q).1 a), fun a => ⟨v, fun b => ⟨v, fun c => skip (fun q => ((hZ i hi).mp q).2.2.1 c), fun c => ⟨v, fun d => ?_, fun d => skip (fun q => d ((hZ i hi).mp q).2.2.2)⟩⟩, fun b => skip (fun q => b ((hZ i hi).mp q).2.1)⟩⟩
  have hz := (hZ i hi).mpr ⟨a, b, c, d⟩
  rw [neg]
  refine ⟨fun f => ⟨v, ?_⟩, fun f => ⟨v, fun g => ?_, fun g => ⟨v, ?_⟩⟩⟩
  · rw [uk_skt ⟨hz, Or.inl f⟩] at ih
    exact nm_e (nm_r (nI_1 i) ih)
  · rw [uk_skf (fun q => by
      rcases q.2 with q | q
      · exact f q
      · exact q g)] at ih
    exact nm_r (nI_1 i) ih
  · rw [uk_skt ⟨hz, Or.inr g⟩] at ih
    exact nm_e (nm_r (nI_1 i) ih)
/-- none is ready: time skips, or run ends -/
theorem uk_skip {t b : Nat} (A : uk_All t b x_changes x_saidCount x_time x_lastSlot x_sliceSteps x_latestPid x_greatestPid x_code x_codeLengths x_pids x_parents x_programs x_places x_states x_statuses x_stepCounts x_copyCounts x_wakeTimes x_registers x_pageCounts x_pageFrames x_held x_frameUsers x_frameWords x_openHolders x_openKinds x_openTargets x_openPlaces x_openModes x_pipeFirsts x_pipeCounts x_pipeWords x_nameFiles x_fileSizes x_fileWords x_safeNames x_safeSizes x_safeWords x_saidInts y_time y_last y_lastPid y_did y_killed y_ops y_as y_bs y_pages y_wake y_zombie y_blocked y_memory y_frame y_kind y_mode y_pipe y_size y_safeSize y_said) (ht : t < 2000000000) (hn : ∀ i, i < 8 → ¬ uk_Rd x_pids x_parents y_zombie y_blocked x_programs x_places y_bs y_wake x_registers x_held y_kind x_openTargets x_pipeCounts x_time i) :
  ((∀ post : Int32 → SX → Prop, post 0 (x_changes, x_saidCount, x_time, x_lastSlot, x_sliceSteps, x_latestPid, x_greatestPid, x_code, x_codeLengths, x_pids, x_parents, x_programs, x_places, x_states, x_statuses, x_stepCounts, x_copyCounts, x_wakeTimes, x_registers, x_pageCounts, x_pageFrames, x_held, x_frameUsers, x_frameWords, x_openHolders, x_openKinds, x_openTargets, x_openPlaces, x_openModes, x_pipeFirsts, x_pipeCounts, x_pipeWords, x_nameFiles, x_fileSizes, x_fileWords, x_safeNames, x_safeSizes, x_safeWords, x_saidInts) → wpX_skipToWake post (x_changes, x_saidCount, x_time, x_lastSlot, x_sliceSteps, x_latestPid, x_greatestPid, x_code, x_codeLengths, x_pids, x_parents, x_programs, x_places, x_states, x_statuses, x_stepCounts, x_copyCounts, x_wakeTimes, x_registers, x_pageCounts, x_pageFrames, x_held, x_frameUsers, x_frameWords, x_openHolders, x_openKinds, x_openTargets, x_openPlaces, x_openModes, x_pipeFirsts, x_pipeCounts, x_pipeWords, x_nameFiles, x_fileSizes, x_fileWords, x_safeNames, x_safeSizes, x_safeWords, x_saidInts)) ∧ (∀ post : Int32 → Prop, post (-1) → wpY_waking post (x_changes, x_time, y_last, y_lastPid, y_did, x_greatestPid, x_latestPid, x_saidCount, y_killed, y_ops, y_as, y_bs, x_codeLengths, x_pids, x_parents, x_programs, x_places, x_statuses, x_stepCounts, x_copyCounts, y_pages, y_wake, y_zombie, y_blocked, x_registers, y_memory, y_frame, x_held, y_kind, x_openTargets, y_mode, x_openPlaces, x_pipeCounts, y_pipe, x_nameFiles, y_size, x_fileWords, x_safeNames, y_safeSize, x_safeWords, y_said))) ∨
  (∃ w i, t < w ∧ w ≤ t + 1001 ∧ i < 8 ∧ uk_Rd x_pids x_parents y_zombie y_blocked x_programs x_places y_bs y_wake x_registers x_held y_kind x_openTargets x_pipeCounts (nI w) i ∧ uk_All w b x_changes x_saidCount (nI w) x_lastSlot x_sliceSteps x_latestPid x_greatestPid x_code x_codeLengths x_pids x_parents x_programs x_places x_states x_statuses x_stepCounts x_copyCounts x_wakeTimes x_registers x_pageCounts x_pageFrames x_held x_frameUsers x_frameWords x_openHolders x_openKinds x_openTargets x_openPlaces x_openModes x_pipeFirsts x_pipeCounts x_pipeWords x_nameFiles x_fileSizes x_fileWords x_safeNames x_safeSizes x_safeWords x_saidInts y_time y_last y_lastPid y_did y_killed y_ops y_as y_bs y_pages y_wake y_zombie y_blocked y_memory y_frame y_kind y_mode y_pipe y_size y_safeSize y_said ∧ (∀ post : Int32 → SX → Prop, post 1 (x_changes, x_saidCount, nI w, x_lastSlot, x_sliceSteps, x_latestPid, x_greatestPid, x_code, x_codeLengths, x_pids, x_parents, x_programs, x_places, x_states, x_statuses, x_stepCounts, x_copyCounts, x_wakeTimes, x_registers, x_pageCounts, x_pageFrames, x_held, x_frameUsers, x_frameWords, x_openHolders, x_openKinds, x_openTargets, x_openPlaces, x_openModes, x_pipeFirsts, x_pipeCounts, x_pipeWords, x_nameFiles, x_fileSizes, x_fileWords, x_safeNames, x_safeSizes, x_safeWords, x_saidInts) → wpX_skipToWake post (x_changes, x_saidCount, x_time, x_lastSlot, x_sliceSteps, x_latestPid, x_greatestPid, x_code, x_codeLengths, x_pids, x_parents, x_programs, x_places, x_states, x_statuses, x_stepCounts, x_copyCounts, x_wakeTimes, x_registers, x_pageCounts, x_pageFrames, x_held, x_frameUsers, x_frameWords, x_openHolders, x_openKinds, x_openTargets, x_openPlaces, x_openModes, x_pipeFirsts, x_pipeCounts, x_pipeWords, x_nameFiles, x_fileSizes, x_fileWords, x_safeNames, x_safeSizes, x_safeWords, x_saidInts)) ∧ (∀ post : Int32 → Prop, post (nI w) → wpY_waking post (x_changes, x_time, y_last, y_lastPid, y_did, x_greatestPid, x_latestPid, x_saidCount, y_killed, y_ops, y_as, y_bs, x_codeLengths, x_pids, x_parents, x_programs, x_places, x_statuses, x_stepCounts, x_copyCounts, y_pages, y_wake, y_zombie, y_blocked, x_registers, y_memory, y_frame, x_held, y_kind, x_openTargets, y_mode, x_openPlaces, x_pipeCounts, y_pipe, x_nameFiles, y_size, x_fileWords, x_safeNames, y_safeSize, x_safeWords, y_said))) := by
  have eT := uk_aeT A
  have key : ∀ i, i < 8 → x_pids i ≠ 0 → y_zombie i = 0 → y_blocked i ≠ 0 → (y_bs (24 * (x_programs i).toNatClampNeg + (x_places i).toNatClampNeg) = 14 ∧ ∃ w, t < w ∧ w ≤ t + 1001 ∧ x_wakeTimes i = nI w ∧ y_wake i = nI w) ∨ (x_wakeTimes i = 0 ∧ y_wake i = -1) := fun i hi h1 h2 h3 => by
    rcases uk_aWk A i hi h1 h2 with ⟨z, _⟩ | ⟨_, _, _, q⟩
    · exact absurd z h3
    · rcases q with ⟨q1, w, q2, q3, q4, q5⟩ | ⟨q1, q2, _⟩
      · refine Or.inl ⟨q1, w, ?_, q3, q4, q5⟩
        have : ¬ w ≤ t := fun z => hn i hi ⟨h1, h2, Or.inr (Or.inr ⟨q1, by rw [q5, eT]; exact nI_le z (by omega)⟩)⟩
        omega
      · exact Or.inr ⟨q1, q2⟩
  have hbl : ∀ i, i < 8 → x_pids i ≠ 0 → (x_states i = 2 ↔ (y_zombie i = 0 ∧ y_blocked i ≠ 0)) := fun i hi h1 => by
    rcases (uk_aPs A i hi).2.2.2.2.2.2 h1 with ⟨a, b⟩ | ⟨a, _, b⟩
    · rw [a, b]; exact ⟨fun z => absurd z (by decide), fun z => absurd z.1 (by decide)⟩
    · rcases b with ⟨b, c⟩ | ⟨b, c⟩
      · rw [b, c]; exact ⟨fun z => absurd z (by decide), fun z => absurd rfl z.2⟩
      · rw [b, c]; exact ⟨fun _ => ⟨a, by decide⟩, fun _ => rfl⟩
  have hZX : ∀ i, i < 8 → ((x_pids i ≠ 0 ∧ y_zombie i = 0 ∧ y_blocked i ≠ 0 ∧ 0 ≤ y_wake i) ↔ (x_pids i ≠ 0 ∧ x_states i = 2 ∧ ¬ x_wakeTimes i ≤ x_time)) := fun i hi => by
    constructor
    · rintro ⟨h1, h2, h3, h4⟩
      refine ⟨h1, (hbl i hi h1).mpr ⟨h2, h3⟩, ?_⟩
      rcases key i hi h1 h2 h3 with ⟨_, w, q1, q2, q3, q4⟩ | ⟨_, q⟩
      · rw [q3, eT]; exact nI_ge q1 (by omega)
      · rw [q] at h4; exact absurd h4 (by decide)
    · rintro ⟨h1, h2, h3⟩
      obtain ⟨g1, g2⟩ := (hbl i hi h1).mp h2
      refine ⟨h1, g1, g2, ?_⟩
      rcases key i hi h1 g1 g2 with ⟨_, w, q1, q2, q3, q4⟩ | ⟨q, _⟩
      · rw [q4]; exact nI_pos' (by omega)
      · rw [q, eT] at h3; exact absurd (nI_pos' (by omega)) h3
  have hw : ∀ i, i < 8 → (x_pids i ≠ 0 ∧ y_zombie i = 0 ∧ y_blocked i ≠ 0 ∧ 0 ≤ y_wake i) → x_wakeTimes i = y_wake i ∧ 0 ≤ y_wake i := fun i hi z => by
    refine ⟨?_, z.2.2.2⟩
    rcases key i hi z.1 z.2.1 z.2.2.1 with ⟨_, w, q1, q2, q3, q4⟩ | ⟨_, q⟩
    · rw [q3, q4]
    · have := z.2.2.2
      rw [q] at this
      exact absurd this (by decide)
  have kX := fun (post : Int32 → SX → Prop) => xk_skip (post := post) (Z := fun i => x_pids i ≠ 0 ∧ y_zombie i = 0 ∧ y_blocked i ≠ 0 ∧ 0 ≤ y_wake i) (x_changes := x_changes) (x_saidCount := x_saidCount) (x_time := x_time) (x_lastSlot := x_lastSlot) (x_sliceSteps := x_sliceSteps) (x_latestPid := x_latestPid) (x_greatestPid := x_greatestPid) (x_code := x_code) (x_codeLengths := x_codeLengths) (x_pids := x_pids) (x_parents := x_parents) (x_programs := x_programs) (x_places := x_places) (x_states := x_states) (x_statuses := x_statuses) (x_stepCounts := x_stepCounts) (x_copyCounts := x_copyCounts) (x_wakeTimes := x_wakeTimes) (x_registers := x_registers) (x_pageCounts := x_pageCounts) (x_pageFrames := x_pageFrames) (x_held := x_held) (x_frameUsers := x_frameUsers) (x_frameWords := x_frameWords) (x_openHolders := x_openHolders) (x_openKinds := x_openKinds) (x_openTargets := x_openTargets) (x_openPlaces := x_openPlaces) (x_openModes := x_openModes) (x_pipeFirsts := x_pipeFirsts) (x_pipeCounts := x_pipeCounts) (x_pipeWords := x_pipeWords) (x_nameFiles := x_nameFiles) (x_fileSizes := x_fileSizes) (x_fileWords := x_fileWords) (x_safeNames := x_safeNames) (x_safeSizes := x_safeSizes) (x_safeWords := x_safeWords) (x_saidInts := x_saidInts) (y_wake := y_wake) hw hZX
  have kY := fun (post : Int32 → Prop) => yk_wake (post := post) (Z := fun i => x_pids i ≠ 0 ∧ y_zombie i = 0 ∧ y_blocked i ≠ 0 ∧ 0 ≤ y_wake i) (x_pids := x_pids) (x_parents := x_parents) (x_programs := x_programs) (x_places := x_places) (x_statuses := x_statuses) (x_stepCounts := x_stepCounts) (x_copyCounts := x_copyCounts) (x_registers := x_registers) (x_held := x_held) (x_openTargets := x_openTargets) (x_openPlaces := x_openPlaces) (x_pipeCounts := x_pipeCounts) (x_nameFiles := x_nameFiles) (x_fileWords := x_fileWords) (x_safeNames := x_safeNames) (x_safeWords := x_safeWords) (x_codeLengths := x_codeLengths) (x_changes := x_changes) (x_saidCount := x_saidCount) (x_latestPid := x_latestPid) (x_greatestPid := x_greatestPid) (y_time := x_time) (y_last := y_last) (y_lastPid := y_lastPid) (y_did := y_did) (y_killed := y_killed) (y_ops := y_ops) (y_as := y_as) (y_bs := y_bs) (y_pages := y_pages) (y_wake := y_wake) (y_zombie := y_zombie) (y_blocked := y_blocked) (y_memory := y_memory) (y_frame := y_frame) (y_kind := y_kind) (y_mode := y_mode) (y_pipe := y_pipe) (y_size := y_size) (y_safeSize := y_safeSize) (y_said := y_said) (fun i hi z => z.2.2.2) (fun i hi => Iff.rfl)
  rcases uk_sks (fun i => x_pids i ≠ 0 ∧ y_zombie i = 0 ∧ y_blocked i ≠ 0 ∧ 0 ≤ y_wake i) y_wake 8 with ⟨e, _⟩ | ⟨i, hi, hz, e⟩
  · refine Or.inl ⟨fun post h => kX post (fun _ => h) (fun z => absurd e z), fun post h => kY post ?_⟩
    rw [e]
    exact h
  · obtain ⟨h1, h2, h3, h4⟩ := hz
    rcases key i hi h1 h2 h3 with ⟨q0, w, q1, q2, q3, q4⟩ | ⟨_, q⟩
    · refine Or.inr ⟨w, i, q1, q2, hi, ⟨h1, h2, Or.inr (Or.inr ⟨q0, by rw [q4]; exact uk_refl _⟩)⟩, ?_, fun post h => kX post (fun z => ?_) (fun _ => ?_), fun post h => kY post ?_⟩
      · exact ⟨uk_aG A, uk_aN A, uk_aC A, rfl, uk_aPr A, uk_aPs A, uk_aMe A, uk_aFu A, uk_aHd A, uk_aHo A, uk_aOk A, uk_aPi A, uk_aFi A, uk_aSa A, uk_aSc A, uk_WkC (Nat.le_of_lt q1) (uk_aWk A) (fun s' _ g1 g2 => Or.inr ⟨g1, g2, rfl, rfl, rfl, rfl, rfl, rfl, fun _ _ => rfl, fun _ _ _ _ _ _ => rfl⟩)⟩
      · rw [e, q4] at z
        exact absurd z (uk_ne1 (by omega))
      · rw [e, q4]
        exact h
      · rw [e, q4]
        exact h
    · rw [q] at h4
      exact absurd h4 (by decide)
end
end
section
/-! run -/
theorem uk_fin {k : Nat} {t b : Nat} {u : SX} {v : SY} (ht : t ≤ 1001000000) (hb : b ≤ t) (h : uk_R (nI t) t b u v) : i_Rel k u v := by
  obtain ⟨x_changes, x_saidCount, x_time, x_lastSlot, x_sliceSteps, x_latestPid, x_greatestPid, x_code, x_codeLengths, x_pids, x_parents, x_programs, x_places, x_states, x_statuses, x_stepCounts, x_copyCounts, x_wakeTimes, x_registers, x_pageCounts, x_pageFrames, x_held, x_frameUsers, x_frameWords, x_openHolders, x_openKinds, x_openTargets, x_openPlaces, x_openModes, x_pipeFirsts, x_pipeCounts, x_pipeWords, x_nameFiles, x_fileSizes, x_fileWords, x_safeNames, x_safeSizes, x_safeWords, x_saidInts, y_time, y_last, y_lastPid, y_did, y_killed, y_ops, y_as, y_bs, y_pages, y_wake, y_zombie, y_blocked, y_memory, y_frame, y_kind, y_mode, y_pipe, y_size, y_safeSize, y_said, rfl, rfl, A⟩ := h
  have eT := uk_aeT A
  subst eT
  exact i_mk ht hb A
theorem uk_runs {k n : Nat} (hn : n ≤ 200) : ∀ (d done t b : Nat) (u : SX) (v : SY), done + d = n → t + 2000 * d ≤ 1000400000 → b ≤ t → uk_R (nI t) t b u v →
  ∃ r u' v', (∀ post : Int32 → SX → Prop, post r u' → (match u with | (x_changes, x_saidCount, x_time, x_lastSlot, x_sliceSteps, x_latestPid, x_greatestPid, x_code, x_codeLengths, x_pids, x_parents, x_programs, x_places, x_states, x_statuses, x_stepCounts, x_copyCounts, x_wakeTimes, x_registers, x_pageCounts, x_pageFrames, x_held, x_frameUsers, x_frameWords, x_openHolders, x_openKinds, x_openTargets, x_openPlaces, x_openModes, x_pipeFirsts, x_pipeCounts, x_pipeWords, x_nameFiles, x_fileSizes, x_fileWords, x_safeNames, x_safeSizes, x_safeWords, x_saidInts) => wX_run_25 post (nI n) (d + 1) (nI done) x_changes x_saidCount x_time x_lastSlot x_sliceSteps x_latestPid x_greatestPid x_code x_codeLengths x_pids x_parents x_programs x_places x_states x_statuses x_stepCounts x_copyCounts x_wakeTimes x_registers x_pageCounts x_pageFrames x_held x_frameUsers x_frameWords x_openHolders x_openKinds x_openTargets x_openPlaces x_openModes x_pipeFirsts x_pipeCounts x_pipeWords x_nameFiles x_fileSizes x_fileWords x_safeNames x_safeSizes x_safeWords x_saidInts)) ∧ (∃ m, ∀ post : Int32 → SY → Prop, post r v' → (match v with | (y_changes, y_time, y_last, y_lastPid, y_did, y_greatest, y_stepped, y_says, y_killed, y_ops, y_as, y_bs, y_length, y_pid, y_parent, y_program, y_pc, y_status, y_steps, y_copies, y_pages, y_wake, y_zombie, y_blocked, y_reg, y_memory, y_frame, y_descriptor, y_kind, y_of, y_mode, y_place, y_piped, y_pipe, y_names, y_size, y_words, y_safeNames, y_safeSize, y_safeWords, y_said) => wY_run_25 post (nI n) m (nI done) y_changes y_time y_last y_lastPid y_did y_greatest y_stepped y_says y_killed y_ops y_as y_bs y_length y_pid y_parent y_program y_pc y_status y_steps y_copies y_pages y_wake y_zombie y_blocked y_reg y_memory y_frame y_descriptor y_kind y_of y_mode y_place y_piped y_pipe y_names y_size y_words y_safeNames y_safeSize y_safeWords y_said)) ∧ i_Rel k u' v'
  | 0, done, t, b, u, v, hd, ht, hb, hR => by
    have e : done = n := by omega
    subst e
    have I := uk_fin (k := k) (by omega) hb hR
    obtain ⟨x_changes, x_saidCount, x_time, x_lastSlot, x_sliceSteps, x_latestPid, x_greatestPid, x_code, x_codeLengths, x_pids, x_parents, x_programs, x_places, x_states, x_statuses, x_stepCounts, x_copyCounts, x_wakeTimes, x_registers, x_pageCounts, x_pageFrames, x_held, x_frameUsers, x_frameWords, x_openHolders, x_openKinds, x_openTargets, x_openPlaces, x_openModes, x_pipeFirsts, x_pipeCounts, x_pipeWords, x_nameFiles, x_fileSizes, x_fileWords, x_safeNames, x_safeSizes, x_safeWords, x_saidInts, y_time, y_last, y_lastPid, y_did, y_killed, y_ops, y_as, y_bs, y_pages, y_wake, y_zombie, y_blocked, y_memory, y_frame, y_kind, y_mode, y_pipe, y_size, y_safeSize, y_said, rfl, rfl, A⟩ := hR
    exact ⟨nI done, _, _, fun post h => br_t (uk_refl _) h, ⟨1, fun post h => br_t (uk_refl _) h⟩, I⟩
  | d + 1, done, t, b, u, v, hd, ht, hb, hR => by
    have I := uk_fin (k := k) (by omega) hb hR
    obtain ⟨x_changes, x_saidCount, x_time, x_lastSlot, x_sliceSteps, x_latestPid, x_greatestPid, x_code, x_codeLengths, x_pids, x_parents, x_programs, x_places, x_states, x_statuses, x_stepCounts, x_copyCounts, x_wakeTimes, x_registers, x_pageCounts, x_pageFrames, x_held, x_frameUsers, x_frameWords, x_openHolders, x_openKinds, x_openTargets, x_openPlaces, x_openModes, x_pipeFirsts, x_pipeCounts, x_pipeWords, x_nameFiles, x_fileSizes, x_fileWords, x_safeNames, x_safeSizes, x_safeWords, x_saidInts, y_time, y_last, y_lastPid, y_did, y_killed, y_ops, y_as, y_bs, y_pages, y_wake, y_zombie, y_blocked, y_memory, y_frame, y_kind, y_mode, y_pipe, y_size, y_safeSize, y_said, rfl, rfl, A⟩ := hR
    have eT := uk_aeT A
    subst eT
    have nle : ¬ nI n ≤ nI done := nI_ge (by omega) (by omega)
    have go : ∀ {t2 s : Nat} {sl' : Int32}, t2 ≤ t + 1001 → b ≤ t2 → uk_All t2 b x_changes x_saidCount (nI t2) x_lastSlot x_sliceSteps x_latestPid x_greatestPid x_code x_codeLengths x_pids x_parents x_programs x_places x_states x_statuses x_stepCounts x_copyCounts x_wakeTimes x_registers x_pageCounts x_pageFrames x_held x_frameUsers x_frameWords x_openHolders x_openKinds x_openTargets x_openPlaces x_openModes x_pipeFirsts x_pipeCounts x_pipeWords x_nameFiles x_fileSizes x_fileWords x_safeNames x_safeSizes x_safeWords x_saidInts y_time y_last y_lastPid y_did y_killed y_ops y_as y_bs y_pages y_wake y_zombie y_blocked y_memory y_frame y_kind y_mode y_pipe y_size y_safeSize y_said → s < 8 → uk_Rd x_pids x_parents y_zombie y_blocked x_programs x_places y_bs y_wake x_registers x_held y_kind x_openTargets x_pipeCounts (nI t2) s →
      ∃ r u' v', (∀ post : Int32 → SX → Prop, post r u' → wpX_step (fun u => match u with | (x_changes, x_saidCount, x_time, x_lastSlot, x_sliceSteps, x_latestPid, x_greatestPid, x_code, x_codeLengths, x_pids, x_parents, x_programs, x_places, x_states, x_statuses, x_stepCounts, x_copyCounts, x_wakeTimes, x_registers, x_pageCounts, x_pageFrames, x_held, x_frameUsers, x_frameWords, x_openHolders, x_openKinds, x_openTargets, x_openPlaces, x_openModes, x_pipeFirsts, x_pipeCounts, x_pipeWords, x_nameFiles, x_fileSizes, x_fileWords, x_safeNames, x_safeSizes, x_safeWords, x_saidInts) => ∀ y, y = nI done + 1 → wX_run_25 post (nI n) (d + 1) y x_changes x_saidCount x_time x_lastSlot x_sliceSteps x_latestPid x_greatestPid x_code x_codeLengths x_pids x_parents x_programs x_places x_states x_statuses x_stepCounts x_copyCounts x_wakeTimes x_registers x_pageCounts x_pageFrames x_held x_frameUsers x_frameWords x_openHolders x_openKinds x_openTargets x_openPlaces x_openModes x_pipeFirsts x_pipeCounts x_pipeWords x_nameFiles x_fileSizes x_fileWords x_safeNames x_safeSizes x_safeWords x_saidInts) (x_changes, x_saidCount, nI t2, nI s, sl', x_latestPid, x_greatestPid, x_code, x_codeLengths, x_pids, x_parents, x_programs, x_places, x_states, x_statuses, x_stepCounts, x_copyCounts, x_wakeTimes, x_registers, x_pageCounts, x_pageFrames, x_held, x_frameUsers, x_frameWords, x_openHolders, x_openKinds, x_openTargets, x_openPlaces, x_openModes, x_pipeFirsts, x_pipeCounts, x_pipeWords, x_nameFiles, x_fileSizes, x_fileWords, x_safeNames, x_safeSizes, x_safeWords, x_saidInts) (nI s)) ∧ (∃ m, ∀ post : Int32 → SY → Prop, post r v' → wpY_step (fun u => match u with | (y_changes, y_time, y_last, y_lastPid, y_did, y_greatest, y_stepped, y_says, y_killed, y_ops, y_as, y_bs, y_length, y_pid, y_parent, y_program, y_pc, y_status, y_steps, y_copies, y_pages, y_wake, y_zombie, y_blocked, y_reg, y_memory, y_frame, y_descriptor, y_kind, y_of, y_mode, y_place, y_piped, y_pipe, y_names, y_size, y_words, y_safeNames, y_safeSize, y_safeWords, y_said) => ∀ y, y = nI done + 1 → wY_run_25 post (nI n) m y y_changes y_time y_last y_lastPid y_did y_greatest y_stepped y_says y_killed y_ops y_as y_bs y_length y_pid y_parent y_program y_pc y_status y_steps y_copies y_pages y_wake y_zombie y_blocked y_reg y_memory y_frame y_descriptor y_kind y_of y_mode y_place y_piped y_pipe y_names y_size y_words y_safeNames y_safeSize y_safeWords y_said) (x_changes, nI t2, y_last, y_lastPid, sl', x_greatestPid, x_latestPid, x_saidCount, y_killed, y_ops, y_as, y_bs, x_codeLengths, x_pids, x_parents, x_programs, x_places, x_statuses, x_stepCounts, x_copyCounts, y_pages, y_wake, y_zombie, y_blocked, x_registers, y_memory, y_frame, x_held, y_kind, x_openTargets, y_mode, x_openPlaces, x_pipeCounts, y_pipe, x_nameFiles, y_size, x_fileWords, x_safeNames, y_safeSize, x_safeWords, y_said) (nI s)) ∧ i_Rel k u' v' := fun {t2 s sl'} h1 h2 A2 hs hRd => by
      obtain ⟨u1, v1, s1, s2, s3⟩ := uk_step (x_time := nI t2) (x_lastSlot := nI s) (x_sliceSteps := sl') (y_did := sl') A2 (by omega) h2 hs hRd rfl rfl
      obtain ⟨r, u', v', r1, ⟨m, r2⟩, r3⟩ := uk_runs (k := k) hn d (done + 1) (t2 + 1) (b + 1) u1 v1 (by omega) (by omega) (by omega) s3
      refine ⟨r, u', v', fun post h => s1 _ ?_, ⟨m, fun post h => s2 _ ?_⟩, r3⟩
      · have := r1 post h
        exact nm_r (nI_1 done) this
      · have := r2 post h
        exact nm_r (nI_1 done) this
    rcases uk_choose A with ⟨s, sl', hs, hRd, cX, cY⟩ | ⟨hnone, cX, cY⟩
    · obtain ⟨r, u', v', g1, ⟨m, g2⟩, g3⟩ := go (sl' := sl') (by omega) hb A hs hRd
      refine ⟨r, u', v', fun post h => br_f nle (cX _ (br_f (uk_ne1 (by omega)) (br_f (uk_ne1 (by omega)) (g1 post h)))), ⟨m + 1, fun post h => br_f nle (cY _ (br_f (nI_pos (by omega)) (g2 post h)))⟩, g3⟩
    · rcases uk_skip A (by omega) hnone with ⟨kX, kY⟩ | ⟨w, i, hw1, hw2, hi, hRi, A2, kX, kY⟩
      · exact ⟨nI done, _, _, fun post h => br_f nle (cX _ (br_t rfl (kX _ (br_t rfl (br_t rfl h))))), ⟨1, fun post h => br_f nle (cY _ (br_t (by decide) (kY _ (br_f (by decide) h))))⟩, I⟩
      · rcases uk_choose A2 with ⟨s, sl', hs, hRd, dX, dY⟩ | ⟨hnone2, _⟩
        · obtain ⟨r, u', v', g1, ⟨m, g2⟩, g3⟩ := go (sl' := sl') hw2 (by omega) A2 hs hRd
          refine ⟨r, u', v', fun post h => br_f nle (cX _ (br_t rfl (kX _ (br_f (by decide) (dX _ (br_f (uk_ne1 (by omega)) (g1 post h))))))), ⟨m + 2, fun post h => br_f nle (cY _ (br_t (by decide) (kY _ (br_t (nI_pos' (by omega)) (br_f nle (dY _ (br_f (nI_pos (by omega)) (g2 post h))))))))⟩, g3⟩
        · exact absurd hRi (hnone2 i hi)
theorem i_vc_run {k : Nat} {u : SX} {v : SY} (I : i_Rel k u v) (hk : k + 5 ≤ 2560) (v1 : Int32) : wpX_run (fun r u' => wpY_run (fun r' v' => r' = r ∧ i_Rel (k + 5) u' v') v v1) u v1 := by
  refine i_elim (C := fun u v => i_Rel (k + 5) u v → wpX_run (fun r u' => wpY_run (fun r' v' => r' = r ∧ i_Rel (k + 5) u' v') v v1) u v1) I ?_ (i_up I)
  intro t b x_changes x_saidCount x_time x_lastSlot x_sliceSteps x_latestPid x_greatestPid x_code x_codeLengths x_pids x_parents x_programs x_places x_states x_statuses x_stepCounts x_copyCounts x_wakeTimes x_registers x_pageCounts x_pageFrames x_held x_frameUsers x_frameWords x_openHolders x_openKinds x_openTargets x_openPlaces x_openModes x_pipeFirsts x_pipeCounts x_pipeWords x_nameFiles x_fileSizes x_fileWords x_safeNames x_safeSizes x_safeWords x_saidInts y_time y_last y_lastPid y_did y_killed y_ops y_as y_bs y_pages y_wake y_zombie y_blocked y_memory y_frame y_kind y_mode y_pipe y_size y_safeSize y_said ht hbt hA J
  have eT := uk_aeT hA
  subst eT
  unfold wpX_run
  refine ⟨fun a => ?_, fun a => ⟨fun b2 => ?_, fun b2 => ⟨fun c => ?_, fun c => ?_⟩⟩⟩
  · unfold wpY_run
    exact br_t a ⟨rfl, J⟩
  · unfold wpY_run
    exact br_f a (br_t b2 ⟨rfl, J⟩)
  · have h0 : ¬ v1 < 0 := fun z => a (Int32.lt_trans z (by decide))
    obtain ⟨n, hn, rfl⟩ := nI_of h0
    have n200 : n ≤ 200 := by
      have : ¬ 200 < n := fun z => b2 (nI_lt (a := 200) z hn)
      omega
    have t1 : t ≤ 1000000000 := (nI_leI (b := 1000000000) (by omega) (by decide)).mp c
    obtain ⟨r, u', v', r1, ⟨m, r2⟩, r3⟩ := uk_runs (k := k + 5) n200 n 0 t b _ _ (by omega) (by omega) hbt (uk_RmkT (nI t) y_killed hA)
    refine ⟨n + 1, r1 _ ?_⟩
    unfold wpY_run
    exact br_f a (br_f b2 (br_t c ⟨m, r2 _ ⟨rfl, r3⟩⟩))
  · unfold wpY_run
    exact br_f a (br_f b2 (br_f c ⟨rfl, J⟩))
end
section
/-! process, clear, the new object -/
theorem i_vc_process {k : Nat} {u : SX} {v : SY} (I : i_Rel k u v) (hk : k + 5 ≤ 2560) (v1 : Int32) (v2 : Int32) : wpX_process (fun r => wpY_process (fun r' => r' = r ∧ i_Rel (k + 5) u v) v v1 v2) u v1 v2 := by
  refine i_elim (C := fun u v => i_Rel (k + 5) u v → wpX_process (fun r => wpY_process (fun r' => r' = r ∧ i_Rel (k + 5) u v) v v1 v2) u v1 v2) I ?_ (i_up I)
  intro t b x_changes x_saidCount x_time x_lastSlot x_sliceSteps x_latestPid x_greatestPid x_code x_codeLengths x_pids x_parents x_programs x_places x_states x_statuses x_stepCounts x_copyCounts x_wakeTimes x_registers x_pageCounts x_pageFrames x_held x_frameUsers x_frameWords x_openHolders x_openKinds x_openTargets x_openPlaces x_openModes x_pipeFirsts x_pipeCounts x_pipeWords x_nameFiles x_fileSizes x_fileWords x_safeNames x_safeSizes x_safeWords x_saidInts y_time y_last y_lastPid y_did y_killed y_ops y_as y_bs y_pages y_wake y_zombie y_blocked y_memory y_frame y_kind y_mode y_pipe y_size y_safeSize y_said ht hbt hA J
  have eT := uk_aeT hA
  have hPr := uk_aPr hA
  have hPs := uk_aPs hA
  have hMe := uk_aMe hA
  have hFu := uk_aFu hA
  have hHd := uk_aHd hA
  have hHo := uk_aHo hA
  have hOk := uk_aOk hA
  have hFi := uk_aFi hA
  have hP : ∀ s, s < 8 → ¬ x_pids s < 0 := fun s hs => (hPs s hs).1
  have hN : ∀ s, s < 8 → x_pids s ≠ 0 → ∃ n, n ≤ 8 ∧ y_pages s = nI n := fun s hs hp => by
    obtain ⟨n, h1, _, h3, _⟩ := hMe s hs hp
    exact ⟨n, h1, h3⟩
  have yn : ∀ post : Int32 → Prop, post (-1) → (v1 < 1 ∨ uk_ff (fun s => x_pids s = v1) 8 = -1) → wpY_process post (x_changes, x_time, y_last, y_lastPid, y_did, x_greatestPid, x_latestPid, x_saidCount, y_killed, y_ops, y_as, y_bs, x_codeLengths, x_pids, x_parents, x_programs, x_places, x_statuses, x_stepCounts, x_copyCounts, y_pages, y_wake, y_zombie, y_blocked, x_registers, y_memory, y_frame, x_held, y_kind, x_openTargets, y_mode, x_openPlaces, x_pipeCounts, y_pipe, x_nameFiles, y_size, x_fileWords, x_safeNames, y_safeSize, x_safeWords, y_said) v1 v2 := fun post hp h => by
    unfold wpY_process
    refine yk_slotOf (fun _ => br_f (by decide) hp) (fun a => ?_)
    rcases h with h | h
    · exact absurd h a
    · rw [h]
      exact br_f (by decide) hp
  unfold wpX_process
  refine xk_findSlot (fun a => br_t rfl (yn _ ⟨rfl, J⟩ (Or.inl a))) (fun a => ?_)
  rcases uk_slot (P := x_pids) a with e | ⟨s, hs, e, eP, hp0⟩
  · rw [e]
    exact br_t rfl (yn _ ⟨rfl, J⟩ (Or.inr e))
  obtain ⟨_, vs, es⟩ := uk_lp 8 hs (by decide)
  obtain ⟨q, hq8, q2, q3, q4, q5⟩ := hMe s hs hp0
  have ns : ¬ nI s < 0 := nI_pos (by omega)
  have ns0 : 0 ≤ nI s := nI_pos' (by omega)
  have yS : ∀ post : Int32 → Prop, (∀ post', post' (nI s) → wpY_slotOf post' (x_changes, x_time, y_last, y_lastPid, y_did, x_greatestPid, x_latestPid, x_saidCount, y_killed, y_ops, y_as, y_bs, x_codeLengths, x_pids, x_parents, x_programs, x_places, x_statuses, x_stepCounts, x_copyCounts, y_pages, y_wake, y_zombie, y_blocked, x_registers, y_memory, y_frame, x_held, y_kind, x_openTargets, y_mode, x_openPlaces, x_pipeCounts, y_pipe, x_nameFiles, y_size, x_fileWords, x_safeNames, y_safeSize, x_safeWords, y_said) v1) := fun post post' hp => yk_slotOf (fun z => absurd z a) (fun _ => by rw [e]; exact hp)
  rw [e]
  refine br_f (uk_ne1 (by omega)) ?_
  have e14 := uk_inE (x := v2) (n := 14) (N := 14) rfl (by decide)
  by_cases hv : vp_in v2 14
  · obtain ⟨w, hw, rfl⟩ := vp_in_of hv (by decide)
    have hzs := uk_zst hPs hs hp0
    have hz01 := (hPs s hs).2.2.2.2.1
    by_cases c0 : w = 0
    · subst c0
      refine br_t (by decide) ?_
      unfold wX_process_39
      refine br_f (by decide) (br_f (by decide) (br_t rfl ?_))
      unfold wpX_stateOf
      refine ⟨vs, ?_⟩
      rw [es]
      have yP : ∀ post : Int32 → Prop, ((y_zombie s = 0 → wpY_isReady (fun r_49 => (((r_49 = 0 → (post 2)) ∧ (¬ r_49 = 0 → (post 1))))) (x_changes, x_time, y_last, y_lastPid, y_did, x_greatestPid, x_latestPid, x_saidCount, y_killed, y_ops, y_as, y_bs, x_codeLengths, x_pids, x_parents, x_programs, x_places, x_statuses, x_stepCounts, x_copyCounts, y_pages, y_wake, y_zombie, y_blocked, x_registers, y_memory, y_frame, x_held, y_kind, x_openTargets, y_mode, x_openPlaces, x_pipeCounts, y_pipe, x_nameFiles, y_size, x_fileWords, x_safeNames, y_safeSize, x_safeWords, y_said) (nI s)) ∧ (¬ y_zombie s = 0 → post 3)) → wpY_process post (x_changes, x_time, y_last, y_lastPid, y_did, x_greatestPid, x_latestPid, x_saidCount, y_killed, y_ops, y_as, y_bs, x_codeLengths, x_pids, x_parents, x_programs, x_places, x_statuses, x_stepCounts, x_copyCounts, y_pages, y_wake, y_zombie, y_blocked, x_registers, y_memory, y_frame, x_held, y_kind, x_openTargets, y_mode, x_openPlaces, x_pipeCounts, y_pipe, x_nameFiles, y_size, x_fileWords, x_safeNames, y_safeSize, x_safeWords, y_said) v1 (nI 0) := fun post h => by
        unfold wpY_process
        refine yS (fun _ => True) _ (br_t ns0 (br_f (by decide) (br_f (by decide) (br_t rfl ⟨vs, ?_⟩))))
        rw [es]
        exact h
      refine ⟨fun a => yP _ (br_f (by rw [hzs.mp a]; decide) ⟨rfl, J⟩), fun a => ?_⟩
      have z0 : y_zombie s = 0 := hz01.resolve_right (fun z => a (hzs.mpr z))
      exact uk_rdX hA hs (fun r => br_f (by decide) (yP _ (br_t z0 (uk_rdY hA hs (fun _ => br_f (by decide) ⟨rfl, J⟩) (fun z => absurd r z))))) (fun r => br_t rfl (yP _ (br_t z0 (uk_rdY hA hs (fun z => absurd z r) (fun _ => br_t rfl ⟨rfl, J⟩)))))
    by_cases c1 : w = 1
    · subst c1
      refine br_t (by decide) ?_
      unfold wX_process_39
      refine br_f (by decide) (br_f (by decide) (br_f (by decide) (br_t rfl ⟨vs, ?_⟩)))
      unfold wpY_process
      refine yS (fun _ => True) _ (br_t ns0 (br_f (by decide) (br_f (by decide) (br_f (by decide) (br_t rfl ⟨vs, ?_, J⟩)))))
      rfl
    by_cases c2 : w = 2
    · subst c2
      refine br_t (by decide) ?_
      unfold wX_process_39
      refine br_f (by decide) (br_f (by decide) (br_f (by decide) (br_f (by decide) (br_t rfl ⟨vs, ?_⟩))))
      unfold wpY_process
      refine yS (fun _ => True) _ (br_t ns0 (br_f (by decide) (br_f (by decide) (br_f (by decide) (br_f (by decide) (br_t rfl ⟨vs, ?_, J⟩))))))
      rfl
    by_cases c3 : w = 3
    · subst c3
      refine br_t (by decide) ?_
      unfold wX_process_39
      refine br_f (by decide) (br_f (by decide) (br_f (by decide) (br_f (by decide) (br_f (by decide) (br_t rfl ⟨vs, ?_⟩)))))
      unfold wpY_process
      refine yS (fun _ => True) _ (br_t ns0 (br_f (by decide) (br_f (by decide) (br_f (by decide) (br_f (by decide) (br_f (by decide) (br_t rfl ⟨vs, ?_, J⟩)))))))
      rfl
    by_cases c4 : w = 4
    · subst c4
      refine br_t (by decide) ?_
      unfold wX_process_39
      refine br_f (by decide) (br_f (by decide) (br_f (by decide) (br_f (by decide) (br_f (by decide) (br_f (by decide) (br_t rfl ⟨vs, ?_⟩))))))
      unfold wpY_process
      refine yS (fun _ => True) _ (br_t ns0 (br_f (by decide) (br_f (by decide) (br_f (by decide) (br_f (by decide) (br_f (by decide) (br_f (by decide) (br_t rfl ⟨vs, ?_, J⟩))))))))
      rw [es, q2, q3]
    by_cases c5 : w = 5
    · subst c5
      refine br_t (by decide) ?_
      unfold wX_process_39
      refine br_f (by decide) (br_f (by decide) (br_f (by decide) (br_f (by decide) (br_f (by decide) (br_f (by decide) (br_f (by decide) (br_t rfl ⟨vs, ?_⟩)))))))
      rw [es]
      unfold wpY_process
      refine yS (fun _ => True) _ (br_t ns0 (br_f (by decide) (br_f (by decide) (br_f (by decide) (br_f (by decide) (br_f (by decide) (br_f (by decide) (br_f (by decide) (br_t rfl ⟨vs, ?_⟩)))))))))
      rw [es]
      refine ⟨fun a => ⟨?_, J⟩, fun a => ⟨vs, rfl, J⟩⟩
      rcases (hPs s hs).2.2.2.2.2.2 hp0 with ⟨z, _⟩ | ⟨_, z, _⟩
      · exact absurd (a.symm.trans z) (by decide)
      · exact z.symm
    by_cases c6 : w = 6
    · subst c6
      refine br_t (by decide) ?_
      unfold wX_process_39
      refine br_f (by decide) (br_f (by decide) (br_f (by decide) (br_f (by decide) (br_f (by decide) (br_f (by decide) (br_f (by decide) (br_f (by decide) (br_t rfl ?_))))))))
      unfold wpY_process
      exact yS (fun _ => True) _ (br_t ns0 (br_f (by decide) (br_f (by decide) (br_f (by decide) (br_f (by decide) (br_f (by decide) (br_f (by decide) (br_f (by decide) (br_f (by decide) (br_t rfl ⟨rfl, J⟩))))))))))
    by_cases c7 : w = 7
    · subst c7
      refine br_t (by decide) ?_
      unfold wX_process_39
      refine br_f (by decide) (br_f (by decide) (br_f (by decide) (br_f (by decide) (br_f (by decide) (br_f (by decide) (br_f (by decide) (br_f (by decide) (br_f (by decide) (br_t rfl ⟨vs, ?_⟩)))))))))
      unfold wpY_process
      refine yS (fun _ => True) _ (br_t ns0 (br_f (by decide) (br_f (by decide) (br_f (by decide) (br_f (by decide) (br_f (by decide) (br_f (by decide) (br_f (by decide) (br_f (by decide) (br_f (by decide) (br_t rfl ⟨vs, ?_, J⟩)))))))))))
      rfl
    by_cases c8 : w = 8
    · subst c8
      refine br_t (by decide) ?_
      unfold wX_process_39
      refine br_f (by decide) (br_f (by decide) (br_f (by decide) (br_f (by decide) (br_f (by decide) (br_f (by decide) (br_f (by decide) (br_f (by decide) (br_f (by decide) (br_f (by decide) (br_t rfl ⟨vs, ?_⟩))))))))))
      unfold wpY_process
      refine yS (fun _ => True) _ (br_t ns0 (br_f (by decide) (br_f (by decide) (br_f (by decide) (br_f (by decide) (br_f (by decide) (br_f (by decide) (br_f (by decide) (br_f (by decide) (br_f (by decide) (br_f (by decide) (br_t rfl ⟨vs, ?_, J⟩))))))))))))
      rfl
    by_cases c9 : w = 9
    · subst c9
      refine br_t (by decide) ?_
      unfold wX_process_39
      refine br_f (by decide) (br_t (by decide) ?_)
      unfold wpY_process
      exact yS (fun _ => True) _ (br_t ns0 (br_f (by decide) (br_f (by decide) (br_f (by decide) (br_f (by decide) (br_f (by decide) (br_f (by decide) (br_f (by decide) (br_f (by decide) (br_f (by decide) (br_f (by decide) (br_f (by decide) (br_t rfl ⟨rfl, J⟩)))))))))))))
    by_cases c10 : w = 10
    · subst c10
      have ei : nI s * 4 + nI 10 - 10 = nI (4 * s + 0) := by
        rw [uk_m4, nI_add]
        exact (pk_sub (b := 10) (by omega)).trans (congrArg nI (by omega))
      have ei2 : 4 * nI s + nI 10 - 10 = nI (4 * s + 0) := by
        rw [uk_4m, nI_add]
        exact (pk_sub (b := 10) (by omega)).trans (congrArg nI (by omega))
      refine br_f (by decide) (br_f (by decide) ?_)
      rw [ei]
      refine ⟨vp_in_nI (by omega) (by decide), ?_⟩
      unfold wpY_process
      refine yS (fun _ => True) _ (br_t ns0 (br_f (by decide) (br_f (by decide) (br_f (by decide) (br_f (by decide) (br_f (by decide) (br_f (by decide) (br_f (by decide) (br_f (by decide) (br_f (by decide) (br_f (by decide) (br_f (by decide) (br_f (by decide) (br_t rfl ?_))))))))))))))
      unfold wY_process_173
      rw [ei2]
      exact ⟨vp_in_nI (by omega) (by decide), rfl, J⟩
    by_cases c11 : w = 11
    · subst c11
      have ei : nI s * 4 + nI 11 - 10 = nI (4 * s + 1) := by
        rw [uk_m4, nI_add]
        exact (pk_sub (b := 10) (by omega)).trans (congrArg nI (by omega))
      have ei2 : 4 * nI s + nI 11 - 10 = nI (4 * s + 1) := by
        rw [uk_4m, nI_add]
        exact (pk_sub (b := 10) (by omega)).trans (congrArg nI (by omega))
      refine br_f (by decide) (br_f (by decide) ?_)
      rw [ei]
      refine ⟨vp_in_nI (by omega) (by decide), ?_⟩
      unfold wpY_process
      refine yS (fun _ => True) _ (br_t ns0 (br_f (by decide) (br_f (by decide) (br_f (by decide) (br_f (by decide) (br_f (by decide) (br_f (by decide) (br_f (by decide) (br_f (by decide) (br_f (by decide) (br_f (by decide) (br_f (by decide) (br_f (by decide) (br_f (by decide) (br_t rfl ?_)))))))))))))))
      unfold wY_process_173
      rw [ei2]
      exact ⟨vp_in_nI (by omega) (by decide), rfl, J⟩
    by_cases c12 : w = 12
    · subst c12
      have ei : nI s * 4 + nI 12 - 10 = nI (4 * s + 2) := by
        rw [uk_m4, nI_add]
        exact (pk_sub (b := 10) (by omega)).trans (congrArg nI (by omega))
      have ei2 : 4 * nI s + nI 12 - 10 = nI (4 * s + 2) := by
        rw [uk_4m, nI_add]
        exact (pk_sub (b := 10) (by omega)).trans (congrArg nI (by omega))
      refine br_f (by decide) (br_f (by decide) ?_)
      rw [ei]
      refine ⟨vp_in_nI (by omega) (by decide), ?_⟩
      unfold wpY_process
      refine yS (fun _ => True) _ (br_t ns0 (br_f (by decide) (br_f (by decide) (br_f (by decide) (br_f (by decide) (br_f (by decide) (br_f (by decide) (br_f (by decide) (br_f (by decide) (br_f (by decide) (br_f (by decide) (br_f (by decide) (br_f (by decide) (br_f (by decide) (br_f (by decide) (br_t rfl ?_))))))))))))))))
      unfold wY_process_173
      rw [ei2]
      exact ⟨vp_in_nI (by omega) (by decide), rfl, J⟩
    by_cases c13 : w = 13
    · subst c13
      have ei : nI s * 4 + nI 13 - 10 = nI (4 * s + 3) := by
        rw [uk_m4, nI_add]
        exact (pk_sub (b := 10) (by omega)).trans (congrArg nI (by omega))
      have ei2 : 4 * nI s + nI 13 - 10 = nI (4 * s + 3) := by
        rw [uk_4m, nI_add]
        exact (pk_sub (b := 10) (by omega)).trans (congrArg nI (by omega))
      refine br_f (by decide) (br_f (by decide) ?_)
      rw [ei]
      refine ⟨vp_in_nI (by omega) (by decide), ?_⟩
      unfold wpY_process
      refine yS (fun _ => True) _ (br_t ns0 (br_f (by decide) (br_f (by decide) (br_f (by decide) (br_f (by decide) (br_f (by decide) (br_f (by decide) (br_f (by decide) (br_f (by decide) (br_f (by decide) (br_f (by decide) (br_f (by decide) (br_f (by decide) (br_f (by decide) (br_f (by decide) (br_f (by decide) (br_t rfl ?_)))))))))))))))))
      unfold wY_process_173
      rw [ei2]
      exact ⟨vp_in_nI (by omega) (by decide), rfl, J⟩
    omega
  · have y0 : wpY_process (fun r' => r' = -1 ∧ i_Rel (k + 5) (x_changes, x_saidCount, x_time, x_lastSlot, x_sliceSteps, x_latestPid, x_greatestPid, x_code, x_codeLengths, x_pids, x_parents, x_programs, x_places, x_states, x_statuses, x_stepCounts, x_copyCounts, x_wakeTimes, x_registers, x_pageCounts, x_pageFrames, x_held, x_frameUsers, x_frameWords, x_openHolders, x_openKinds, x_openTargets, x_openPlaces, x_openModes, x_pipeFirsts, x_pipeCounts, x_pipeWords, x_nameFiles, x_fileSizes, x_fileWords, x_safeNames, x_safeSizes, x_safeWords, x_saidInts) (x_changes, x_time, y_last, y_lastPid, y_did, x_greatestPid, x_latestPid, x_saidCount, y_killed, y_ops, y_as, y_bs, x_codeLengths, x_pids, x_parents, x_programs, x_places, x_statuses, x_stepCounts, x_copyCounts, y_pages, y_wake, y_zombie, y_blocked, x_registers, y_memory, y_frame, x_held, y_kind, x_openTargets, y_mode, x_openPlaces, x_pipeCounts, y_pipe, x_nameFiles, y_size, x_fileWords, x_safeNames, y_safeSize, x_safeWords, y_said)) (x_changes, x_time, y_last, y_lastPid, y_did, x_greatestPid, x_latestPid, x_saidCount, y_killed, y_ops, y_as, y_bs, x_codeLengths, x_pids, x_parents, x_programs, x_places, x_statuses, x_stepCounts, x_copyCounts, y_pages, y_wake, y_zombie, y_blocked, x_registers, y_memory, y_frame, x_held, y_kind, x_openTargets, y_mode, x_openPlaces, x_pipeCounts, y_pipe, x_nameFiles, y_size, x_fileWords, x_safeNames, y_safeSize, x_safeWords, y_said) v1 v2 := by
      unfold wpY_process
      refine yS (fun _ => True) _ (br_t ns0 ⟨fun _ => ⟨rfl, J⟩, fun a => ⟨fun _ => ⟨rfl, J⟩, fun a2 => absurd (e14.mpr ⟨a, fun z => a2 (Int32.lt_of_lt_of_le (by decide) z)⟩) hv⟩⟩)
    have k39 : ¬ vp_in v2 14 → wX_process_39 (fun r => wpY_process (fun r' => r' = r ∧ i_Rel (k + 5) (x_changes, x_saidCount, x_time, x_lastSlot, x_sliceSteps, x_latestPid, x_greatestPid, x_code, x_codeLengths, x_pids, x_parents, x_programs, x_places, x_states, x_statuses, x_stepCounts, x_copyCounts, x_wakeTimes, x_registers, x_pageCounts, x_pageFrames, x_held, x_frameUsers, x_frameWords, x_openHolders, x_openKinds, x_openTargets, x_openPlaces, x_openModes, x_pipeFirsts, x_pipeCounts, x_pipeWords, x_nameFiles, x_fileSizes, x_fileWords, x_safeNames, x_safeSizes, x_safeWords, x_saidInts) (x_changes, x_time, y_last, y_lastPid, y_did, x_greatestPid, x_latestPid, x_saidCount, y_killed, y_ops, y_as, y_bs, x_codeLengths, x_pids, x_parents, x_programs, x_places, x_statuses, x_stepCounts, x_copyCounts, y_pages, y_wake, y_zombie, y_blocked, x_registers, y_memory, y_frame, x_held, y_kind, x_openTargets, y_mode, x_openPlaces, x_pipeCounts, y_pipe, x_nameFiles, y_size, x_fileWords, x_safeNames, y_safeSize, x_safeWords, y_said)) (x_changes, x_time, y_last, y_lastPid, y_did, x_greatestPid, x_latestPid, x_saidCount, y_killed, y_ops, y_as, y_bs, x_codeLengths, x_pids, x_parents, x_programs, x_places, x_statuses, x_stepCounts, x_copyCounts, y_pages, y_wake, y_zombie, y_blocked, x_registers, y_memory, y_frame, x_held, y_kind, x_openTargets, y_mode, x_openPlaces, x_pipeCounts, y_pipe, x_nameFiles, y_size, x_fileWords, x_safeNames, y_safeSize, x_safeWords, y_said) v1 v2) v2 (nI s) x_changes x_saidCount x_time x_lastSlot x_sliceSteps x_latestPid x_greatestPid x_code x_codeLengths x_pids x_parents x_programs x_places x_states x_statuses x_stepCounts x_copyCounts x_wakeTimes x_registers x_pageCounts x_pageFrames x_held x_frameUsers x_frameWords x_openHolders x_openKinds x_openTargets x_openPlaces x_openModes x_pipeFirsts x_pipeCounts x_pipeWords x_nameFiles x_fileSizes x_fileWords x_safeNames x_safeSizes x_safeWords x_saidInts := fun _ => by
      unfold wX_process_39
      refine ⟨fun _ => y0, fun a => ⟨fun _ => y0, fun a2 => absurd (e14.mpr ⟨a, fun z => a2 (Int32.lt_of_lt_of_le (by decide) z)⟩) hv⟩⟩
    exact ⟨fun _ => k39 hv, fun a => ⟨fun _ => k39 hv, fun a2 => absurd (e14.mpr ⟨fun z => a (Int32.lt_trans z (by decide)), a2⟩) hv⟩⟩
theorem uk_noneI {P : Nat → Int32} : nI (uk_cn (fun s => P s ≠ 0) 8) ≤ 0 ↔ ∀ s, s < 8 → P s = 0 := by
  have h := uk_cnle (fun s => P s ≠ 0) 8
  rw [uk_le0 (nI_pos (by omega)), uk_cnz (by decide)]
  exact ⟨fun z s hs => Classical.byContradiction (fun w => z s hs w), fun z s hs w => w (z s hs)⟩
theorem i_vc_clear {k : Nat} {u : SX} {v : SY} (I : i_Rel k u v) (hk : k + 5 ≤ 2560) (v1 : Int32) : wpX_clear (fun r u' => wpY_clear (fun r' v' => r' = r ∧ i_Rel (k + 5) u' v') v v1) u v1 := by
  refine i_elim (C := fun u v => i_Rel (k + 5) u v → wpX_clear (fun r u' => wpY_clear (fun r' v' => r' = r ∧ i_Rel (k + 5) u' v') v v1) u v1) I ?_ (i_up I)
  intro t b x_changes x_saidCount x_time x_lastSlot x_sliceSteps x_latestPid x_greatestPid x_code x_codeLengths x_pids x_parents x_programs x_places x_states x_statuses x_stepCounts x_copyCounts x_wakeTimes x_registers x_pageCounts x_pageFrames x_held x_frameUsers x_frameWords x_openHolders x_openKinds x_openTargets x_openPlaces x_openModes x_pipeFirsts x_pipeCounts x_pipeWords x_nameFiles x_fileSizes x_fileWords x_safeNames x_safeSizes x_safeWords x_saidInts y_time y_last y_lastPid y_did y_killed y_ops y_as y_bs y_pages y_wake y_zombie y_blocked y_memory y_frame y_kind y_mode y_pipe y_size y_safeSize y_said ht hbt hA J
  have eT := uk_aeT hA
  have hPr := uk_aPr hA
  have hPs := uk_aPs hA
  have hMe := uk_aMe hA
  have hFu := uk_aFu hA
  have hHd := uk_aHd hA
  have hHo := uk_aHo hA
  have hOk := uk_aOk hA
  have hFi := uk_aFi hA
  have hP : ∀ s, s < 8 → ¬ x_pids s < 0 := fun s hs => (hPs s hs).1
  have hN : ∀ s, s < 8 → x_pids s ≠ 0 → ∃ n, n ≤ 8 ∧ y_pages s = nI n := fun s hs hp => by
    obtain ⟨n, h1, _, h3, _⟩ := hMe s hs hp
    exact ⟨n, h1, h3⟩
  unfold wpX_clear
  refine xk_isProgram (fun a => br_f (by decide) (xk_countProcesses ⟨fun c => ⟨a, nm_e ⟨a, nm_e ?_⟩⟩, fun c => ?_⟩)) (fun a => br_t rfl ?_)
  · have h0 := uk_noneI.mp c
    have A1 : uk_All t b x_changes x_saidCount x_time x_lastSlot x_sliceSteps x_latestPid x_greatestPid x_code (upd x_codeLengths v1.toNatClampNeg 0) x_pids x_parents x_programs x_places x_states x_statuses x_stepCounts x_copyCounts x_wakeTimes x_registers x_pageCounts x_pageFrames x_held x_frameUsers x_frameWords x_openHolders x_openKinds x_openTargets x_openPlaces x_openModes x_pipeFirsts x_pipeCounts x_pipeWords x_nameFiles x_fileSizes x_fileWords x_safeNames x_safeSizes x_safeWords x_saidInts y_time y_last y_lastPid y_did y_killed y_ops y_as y_bs y_pages y_wake y_zombie y_blocked y_memory y_frame y_kind y_mode y_pipe y_size y_safeSize y_said := ⟨uk_aG hA, uk_aN hA, uk_aC hA, uk_aeT hA, ⟨hPr.1, fun p hp => by
      by_cases w : p = v1.toNatClampNeg
      · subst w; exact ⟨0, by omega, pk_us, fun j hj => by omega⟩
      · rw [pk_un w]; exact hPr.2 p hp⟩, uk_aPs hA, uk_aMe hA, uk_aFu hA, uk_aHd hA, uk_aHo hA, uk_aOk hA, uk_aPi hA, uk_aFi hA, uk_aSa hA, uk_aSc hA, fun s hs w => absurd (h0 s hs) w⟩
    unfold wpY_clear
    exact yk_no 5 rfl (by decide) (fun _ => br_t rfl (yk_processes hP (br_t c ⟨a, nm_e ⟨a, nm_e ⟨rfl, i_mk ht hbt A1⟩⟩⟩))) (fun z => absurd a z)
  · unfold wpY_clear
    exact yk_no 5 rfl (by decide) (fun _ => br_t rfl (yk_processes hP (br_f c ⟨rfl, J⟩))) (fun z => absurd a z)
  · unfold wpY_clear
    exact yk_no 5 rfl (by decide) (fun z => absurd z a) (fun _ => br_f (by decide) ⟨rfl, J⟩)
end
section
/-! the new object -/
theorem uk_new : uk_All 0 0 0 0 0 0 0 0 0 (fun _ => 0) (fun _ => 0) (fun _ => 0) (fun _ => 0) (fun _ => 0) (fun _ => 0) (fun _ => 0) (fun _ => 0) (fun _ => 0) (fun _ => 0) (fun _ => 0) (fun _ => 0) (fun _ => 0) (fun _ => 0) (fun _ => 0) (fun _ => 0) (fun _ => 0) (fun _ => 0) (fun _ => 0) (fun _ => 0) (fun _ => 0) (fun _ => 0) (fun _ => 0) (fun _ => 0) (fun _ => 0) (uk_fl (fun _ => 0) 0 (fun _ => -1) 8) (fun _ => 0) (fun _ => 0) (uk_fl (fun _ => 0) 0 (fun _ => -1) 8) (fun _ => 0) (fun _ => 0) (fun _ => 0) 0 7 0 0 0 (fun _ => 0) (fun _ => 0) (fun _ => 0) (fun _ => 0) (fun _ => 0) (fun _ => 0) (fun _ => 0) (fun _ => 0) (fun _ => 0) (fun _ => 0) (fun _ => 0) (fun _ => 0) (fun _ => 0) (fun _ => 0) (fun _ => 0) := by
  have v0 : ∀ n, 0 < n → n < 2 ^ 31 → vp_in (0 : Int32) n := fun n h1 h2 => vp_in_nI (n := 0) h1 h2
  have n00 : ¬ (0 : Int32) < 0 := by decide
  have hN : ∀ k, k < 8 → uk_fl (fun _ => 0) 0 (fun _ => -1) 8 k = -1 := fun k hk => uk_fl1 hk
  refine ⟨⟨0, rfl, by omega⟩, ⟨0, rfl, by omega, fun k _ h => by omega⟩, ⟨0, rfl, by omega⟩, rfl, ⟨fun k _ => ⟨rfl, rfl, fun _ _ => rfl⟩, fun p _ => ⟨0, by omega, rfl, fun j hj => by omega⟩⟩, fun s _ => ⟨n00, n00, v0 6 (by decide) (by decide), v0 25 (by decide) (by decide), Or.inl rfl, Or.inl rfl, fun z => absurd rfl z⟩, fun s _ z => absurd rfl z, fun f _ => ?_, fun s _ z => absurd rfl z, fun o _ => ?_, fun o _ => ⟨v0 17 (by decide) (by decide), Or.inl ⟨rfl, rfl⟩⟩, fun q _ => ⟨0, 0, by omega, by omega, rfl, rfl, fun j hj => by omega⟩, ⟨fun k hk => Or.inl (hN k hk), fun f _ => ⟨v0 17 (by decide) (by decide), fun _ => rfl, fun _ => rfl⟩⟩, ⟨fun k hk => Or.inl (hN k hk), fun f _ => ⟨v0 17 (by decide) (by decide), fun _ => rfl⟩⟩, ⟨v0 8 (by decide) (by decide), vp_in_nI (n := 7) (by decide) (by decide), Or.inl (fun s _ => rfl)⟩, fun s _ z => absurd rfl z⟩
  · rw [uk_sm0 8 (fun s _ => uk_rw0 rfl)]
    rfl
  · rw [uk_sm0 8 (fun s _ => uk_hw0 (fun z => z.1 rfl))]
    rfl
theorem i_vc0 : wpX_init (fun u => wpY_init (fun v => i_Rel 0 u v)) := by
  unfold wpX_init
  have kX := fun (post : SX → Prop) (h : post (0, 0, 0, 0, 0, 0, 0, (fun _ => 0), (fun _ => 0), (fun _ => 0), (fun _ => 0), (fun _ => 0), (fun _ => 0), (fun _ => 0), (fun _ => 0), (fun _ => 0), (fun _ => 0), (fun _ => 0), (fun _ => 0), (fun _ => 0), (fun _ => 0), (fun _ => 0), (fun _ => 0), (fun _ => 0), (fun _ => 0), (fun _ => 0), (fun _ => 0), (fun _ => 0), (fun _ => 0), (fun _ => 0), (fun _ => 0), (fun _ => 0), uk_fl (fun _ => 0) 0 (fun _ => -1) 8, (fun _ => 0), (fun _ => 0), uk_fl (fun _ => 0) 0 (fun _ => -1) 8, (fun _ => 0), (fun _ => 0), (fun _ => 0))) => uk_run0 (fun m i (w : Nat → Int32) => wX_init_263 post 0 0 0 0 0 0 0 m (nI i) (fun _ => 0) (fun _ => 0) (fun _ => 0) (fun _ => 0) (fun _ => 0) (fun _ => 0) (fun _ => 0) (fun _ => 0) (fun _ => 0) (fun _ => 0) (fun _ => 0) (fun _ => 0) (fun _ => 0) (fun _ => 0) (fun _ => 0) (fun _ => 0) (fun _ => 0) (fun _ => 0) (fun _ => 0) (fun _ => 0) (fun _ => 0) (fun _ => 0) (fun _ => 0) (fun _ => 0) (fun _ => 0) w (fun _ => 0) (fun _ => 0) w (fun _ => 0) (fun _ => 0) (fun _ => 0)) (fun i => uk_fl (fun _ => 0) 0 (fun _ => -1) i) 8 (fun m => br_t (uk_refl 8) h) (fun m i hi ih => by
    obtain ⟨z, v, e⟩ := uk_lp 8 hi (by decide)
    refine br_f z ⟨v, ?_⟩
    rw [e]
    exact nm_r (uk_fls0 (g := fun _ => -1)) ⟨v, nm_r (uk_fls0 (g := fun _ => -1)) (nm_r (nI_1 i) ih)⟩)
  have kY := fun (post : SY → Prop) (h : post (0, 0, 7, 0, 0, 0, 0, 0, 0, (fun _ => 0), (fun _ => 0), (fun _ => 0), (fun _ => 0), (fun _ => 0), (fun _ => 0), (fun _ => 0), (fun _ => 0), (fun _ => 0), (fun _ => 0), (fun _ => 0), (fun _ => 0), (fun _ => 0), (fun _ => 0), (fun _ => 0), (fun _ => 0), (fun _ => 0), (fun _ => 0), (fun _ => 0), (fun _ => 0), (fun _ => 0), (fun _ => 0), (fun _ => 0), (fun _ => 0), (fun _ => 0), uk_fl (fun _ => 0) 0 (fun _ => -1) 8, (fun _ => 0), (fun _ => 0), uk_fl (fun _ => 0) 0 (fun _ => -1) 8, (fun _ => 0), (fun _ => 0), (fun _ => 0))) => uk_run0 (fun m i (w : Nat → Int32) => wY_init_273 post 0 0 7 0 0 0 0 0 0 m (nI i) (fun _ => 0) (fun _ => 0) (fun _ => 0) (fun _ => 0) (fun _ => 0) (fun _ => 0) (fun _ => 0) (fun _ => 0) (fun _ => 0) (fun _ => 0) (fun _ => 0) (fun _ => 0) (fun _ => 0) (fun _ => 0) (fun _ => 0) (fun _ => 0) (fun _ => 0) (fun _ => 0) (fun _ => 0) (fun _ => 0) (fun _ => 0) (fun _ => 0) (fun _ => 0) (fun _ => 0) (fun _ => 0) w (fun _ => 0) (fun _ => 0) w (fun _ => 0) (fun _ => 0) (fun _ => 0)) (fun i => uk_fl (fun _ => 0) 0 (fun _ => -1) i) 8 (fun m => br_t (uk_refl 8) h) (fun m i hi ih => by
    obtain ⟨z, v, e⟩ := uk_lp 8 hi (by decide)
    refine br_f z ⟨v, ?_⟩
    rw [e]
    exact nm_r (uk_fls0 (g := fun _ => -1)) ⟨v, nm_r (uk_fls0 (g := fun _ => -1)) (nm_r (nI_1 i) ih)⟩)
  have I : i_Rel 0 _ _ := i_mk (k := 0) (by omega) (Nat.le_refl 0) uk_new
  have kX2 := kX (fun u => wpY_init (fun v => i_Rel 0 u v)) (by
    unfold wpY_init
    have kY2 := kY _ I
    rw [uk_fl0] at kY2
    exact kY2)
  rw [uk_fl0] at kX2
  exact kX2
end
section
/-! crash -/
section
variable {x_changes x_saidCount x_time x_lastSlot x_sliceSteps x_latestPid x_greatestPid : Int32} {x_code x_codeLengths x_pids x_parents x_programs x_places x_states x_statuses x_stepCounts x_copyCounts x_wakeTimes x_registers x_pageCounts x_pageFrames x_held x_frameUsers x_frameWords x_openHolders x_openKinds x_openTargets x_openPlaces x_openModes x_pipeFirsts x_pipeCounts x_pipeWords x_nameFiles x_fileSizes x_fileWords x_safeNames x_safeSizes x_safeWords x_saidInts : Nat → Int32} {y_time y_last y_lastPid y_did y_killed : Int32} {y_ops y_as y_bs y_pages y_wake y_zombie y_blocked y_memory y_frame y_kind y_mode y_pipe y_size y_safeSize y_said : Nat → Int32}
theorem xk_copy2 {post : SX → Prop} (h : post (x_changes, x_saidCount, x_time, x_lastSlot, x_sliceSteps, x_latestPid, x_greatestPid, x_code, x_codeLengths, x_pids, x_parents, x_programs, x_places, x_states, x_statuses, x_stepCounts, x_copyCounts, x_wakeTimes, x_registers, x_pageCounts, x_pageFrames, x_held, x_frameUsers, x_frameWords, x_openHolders, x_openKinds, x_openTargets, x_openPlaces, x_openModes, x_pipeFirsts, x_pipeCounts, x_pipeWords, uk_fl x_nameFiles 0 x_safeNames 8, uk_fl x_fileSizes 0 x_safeSizes 8, uk_fl x_fileWords 0 x_safeWords 128, x_safeNames, x_safeSizes, x_safeWords, x_saidInts)) : wpX_copyFiles__safeNames_safeSizes_safeWords_nameFiles_fileSizes_fileWords post (x_changes, x_saidCount, x_time, x_lastSlot, x_sliceSteps, x_latestPid, x_greatestPid, x_code, x_codeLengths, x_pids, x_parents, x_programs, x_places, x_states, x_statuses, x_stepCounts, x_copyCounts, x_wakeTimes, x_registers, x_pageCounts, x_pageFrames, x_held, x_frameUsers, x_frameWords, x_openHolders, x_openKinds, x_openTargets, x_openPlaces, x_openModes, x_pipeFirsts, x_pipeCounts, x_pipeWords, x_nameFiles, x_fileSizes, x_fileWords, x_safeNames, x_safeSizes, x_safeWords, x_saidInts) := by
  unfold wpX_copyFiles__safeNames_safeSizes_safeWords_nameFiles_fileSizes_fileWords
  have k1 := uk_run0 (fun m k (w : Nat → Int32) => wX_copyFiles__safeNames_safeSizes_safeWords_nameFiles_fileSizes_fileWords_3 post x_changes x_saidCount x_time x_lastSlot x_sliceSteps x_latestPid x_greatestPid m (nI k) x_code x_codeLengths x_pids x_parents x_programs x_places x_states x_statuses x_stepCounts x_copyCounts x_wakeTimes x_registers x_pageCounts x_pageFrames x_held x_frameUsers x_frameWords x_openHolders x_openKinds x_openTargets x_openPlaces x_openModes x_pipeFirsts x_pipeCounts x_pipeWords w x_fileSizes x_fileWords x_safeNames x_safeSizes x_safeWords x_saidInts) (fun k => uk_fl x_nameFiles 0 x_safeNames k) 8 (fun m => br_t (uk_refl 8) (by
    have k2 := uk_run0 (fun m k (w : Nat → Int32) => wX_copyFiles__safeNames_safeSizes_safeWords_nameFiles_fileSizes_fileWords_28 post x_changes x_saidCount x_time x_lastSlot x_sliceSteps x_latestPid x_greatestPid m (nI k) x_code x_codeLengths x_pids x_parents x_programs x_places x_states x_statuses x_stepCounts x_copyCounts x_wakeTimes x_registers x_pageCounts x_pageFrames x_held x_frameUsers x_frameWords x_openHolders x_openKinds x_openTargets x_openPlaces x_openModes x_pipeFirsts x_pipeCounts x_pipeWords (uk_fl x_nameFiles 0 x_safeNames 8) w x_fileWords x_safeNames x_safeSizes x_safeWords x_saidInts) (fun k => uk_fl x_fileSizes 0 x_safeSizes k) 8 (fun m => br_t (uk_refl 8) (by
      have k3 := uk_run0 (fun m k (w : Nat → Int32) => wX_copyFiles__safeNames_safeSizes_safeWords_nameFiles_fileSizes_fileWords_53 post x_changes x_saidCount x_time x_lastSlot x_sliceSteps x_latestPid x_greatestPid m (nI k) x_code x_codeLengths x_pids x_parents x_programs x_places x_states x_statuses x_stepCounts x_copyCounts x_wakeTimes x_registers x_pageCounts x_pageFrames x_held x_frameUsers x_frameWords x_openHolders x_openKinds x_openTargets x_openPlaces x_openModes x_pipeFirsts x_pipeCounts x_pipeWords (uk_fl x_nameFiles 0 x_safeNames 8) (uk_fl x_fileSizes 0 x_safeSizes 8) w x_safeNames x_safeSizes x_safeWords x_saidInts) (fun k => uk_fl x_fileWords 0 x_safeWords k) 128 (fun m => br_t (uk_refl 128) h) (fun m k hk ih => by
        obtain ⟨z, v, e⟩ := uk_lp 128 hk (by decide)
        refine br_f z ⟨v, v, ?_⟩
        rw [e]
        exact nm_r uk_fls0 (nm_r (nI_1 k) ih))
      rw [uk_fl0] at k3
      exact k3)) (fun m k hk ih => by
      obtain ⟨z, v, e⟩ := uk_lp 8 hk (by decide)
      refine br_f z ⟨v, v, ?_⟩
      rw [e]
      exact nm_r uk_fls0 (nm_r (nI_1 k) ih))
    rw [uk_fl0] at k2
    exact k2)) (fun m k hk ih => by
    obtain ⟨z, v, e⟩ := uk_lp 8 hk (by decide)
    refine br_f z ⟨v, v, ?_⟩
    rw [e]
    exact nm_r uk_fls0 (nm_r (nI_1 k) ih))
  rw [uk_fl0] at k1
  exact k1
theorem xk_crash {post : Int32 → SX → Prop} (h : post (nI (uk_cn (fun s => x_pids s ≠ 0) 8)) (0, x_saidCount, x_time, x_lastSlot, x_sliceSteps, x_latestPid, x_greatestPid, x_code, x_codeLengths, uk_fl x_pids 0 (fun _ => 0) 8, x_parents, x_programs, x_places, x_states, x_statuses, x_stepCounts, x_copyCounts, x_wakeTimes, x_registers, x_pageCounts, x_pageFrames, x_held, uk_fl x_frameUsers 0 (fun _ => 0) 20, x_frameWords, uk_fl x_openHolders 0 (fun _ => 0) 12, x_openKinds, x_openTargets, x_openPlaces, x_openModes, x_pipeFirsts, x_pipeCounts, x_pipeWords, uk_fl x_nameFiles 0 x_safeNames 8, uk_fl x_fileSizes 0 x_safeSizes 8, uk_fl x_fileWords 0 x_safeWords 128, x_safeNames, x_safeSizes, x_safeWords, x_saidInts)) : wpX_crash post (x_changes, x_saidCount, x_time, x_lastSlot, x_sliceSteps, x_latestPid, x_greatestPid, x_code, x_codeLengths, x_pids, x_parents, x_programs, x_places, x_states, x_statuses, x_stepCounts, x_copyCounts, x_wakeTimes, x_registers, x_pageCounts, x_pageFrames, x_held, x_frameUsers, x_frameWords, x_openHolders, x_openKinds, x_openTargets, x_openPlaces, x_openModes, x_pipeFirsts, x_pipeCounts, x_pipeWords, x_nameFiles, x_fileSizes, x_fileWords, x_safeNames, x_safeSizes, x_safeWords, x_saidInts) := by
  unfold wpX_crash
  refine xk_countProcesses ?_
  have k1 := uk_run0 (fun m k (w : Nat → Int32) => wX_crash_7 post (nI (uk_cn (fun s => x_pids s ≠ 0) 8)) x_changes x_saidCount x_time x_lastSlot x_sliceSteps x_latestPid x_greatestPid m (nI k) x_code x_codeLengths w x_parents x_programs x_places x_states x_statuses x_stepCounts x_copyCounts x_wakeTimes x_registers x_pageCounts x_pageFrames x_held x_frameUsers x_frameWords x_openHolders x_openKinds x_openTargets x_openPlaces x_openModes x_pipeFirsts x_pipeCounts x_pipeWords x_nameFiles x_fileSizes x_fileWords x_safeNames x_safeSizes x_safeWords x_saidInts) (fun k => uk_fl x_pids 0 (fun _ => 0) k) 8 (fun m => br_t (uk_refl 8) (by
    have k2 := uk_run0 (fun m k (w : Nat → Int32) => wX_crash_28 post (nI (uk_cn (fun s => x_pids s ≠ 0) 8)) x_changes x_saidCount x_time x_lastSlot x_sliceSteps x_latestPid x_greatestPid m (nI k) x_code x_codeLengths (uk_fl x_pids 0 (fun _ => 0) 8) x_parents x_programs x_places x_states x_statuses x_stepCounts x_copyCounts x_wakeTimes x_registers x_pageCounts x_pageFrames x_held x_frameUsers x_frameWords w x_openKinds x_openTargets x_openPlaces x_openModes x_pipeFirsts x_pipeCounts x_pipeWords x_nameFiles x_fileSizes x_fileWords x_safeNames x_safeSizes x_safeWords x_saidInts) (fun k => uk_fl x_openHolders 0 (fun _ => 0) k) 12 (fun m => br_t (uk_refl 12) (by
      have k3 := uk_run0 (fun m k (w : Nat → Int32) => wX_crash_49 post (nI (uk_cn (fun s => x_pids s ≠ 0) 8)) x_changes x_saidCount x_time x_lastSlot x_sliceSteps x_latestPid x_greatestPid m (nI k) x_code x_codeLengths (uk_fl x_pids 0 (fun _ => 0) 8) x_parents x_programs x_places x_states x_statuses x_stepCounts x_copyCounts x_wakeTimes x_registers x_pageCounts x_pageFrames x_held w x_frameWords (uk_fl x_openHolders 0 (fun _ => 0) 12) x_openKinds x_openTargets x_openPlaces x_openModes x_pipeFirsts x_pipeCounts x_pipeWords x_nameFiles x_fileSizes x_fileWords x_safeNames x_safeSizes x_safeWords x_saidInts) (fun k => uk_fl x_frameUsers 0 (fun _ => 0) k) 20 (fun m => br_t (uk_refl 20) (xk_copy2 h)) (fun m k hk ih => by
        obtain ⟨z, v, e⟩ := uk_lp 20 hk (by decide)
        refine br_f z ⟨v, ?_⟩
        rw [e]
        exact nm_r (uk_fls0 (g := fun _ => 0)) (nm_r (nI_1 k) ih))
      rw [uk_fl0] at k3
      exact k3)) (fun m k hk ih => by
      obtain ⟨z, v, e⟩ := uk_lp 12 hk (by decide)
      refine br_f z ⟨v, ?_⟩
      rw [e]
      exact nm_r (uk_fls0 (g := fun _ => 0)) (nm_r (nI_1 k) ih))
    rw [uk_fl0] at k2
    exact k2)) (fun m k hk ih => by
    obtain ⟨z, v, e⟩ := uk_lp 8 hk (by decide)
    refine br_f z ⟨v, ?_⟩
    rw [e]
    exact nm_r (uk_fls0 (g := fun _ => 0)) (nm_r (nI_1 k) ih))
  rw [uk_fl0] at k1
  exact k1
end
end
section
/-! crash, Y's side, and both -/
noncomputable def uk_cs (F : Nat → Prop) (ss sz : Nat → Int32) (i : Nat) : Nat → Int32 := fun j => if j < i then @ite Int32 (F j) (Classical.propDecidable (F j)) 0 (ss j) else sz j
theorem uk_cs0 (F : Nat → Prop) (ss sz : Nat → Int32) : uk_cs F ss sz 0 = sz := by
  funext j
  exact if_neg (by omega)
theorem uk_cst {F : Nat → Prop} {ss sz : Nat → Int32} {i j : Nat} (hj : j < i) (h : F j) : uk_cs F ss sz i j = 0 := by
  show (if j < i then @ite Int32 (F j) (Classical.propDecidable (F j)) 0 (ss j) else sz j) = 0
  rw [if_pos hj, if_pos h]
theorem uk_csf {F : Nat → Prop} {ss sz : Nat → Int32} {i j : Nat} (hj : j < i) (h : ¬ F j) : uk_cs F ss sz i j = ss j := by
  show (if j < i then @ite Int32 (F j) (Classical.propDecidable (F j)) 0 (ss j) else sz j) = ss j
  rw [if_pos hj, if_neg h]
theorem uk_css {F : Nat → Prop} {ss sz : Nat → Int32} {i : Nat} {x : Int32} (h : x = uk_cs F ss sz (i + 1) i) : upd (uk_cs F ss sz i) i x = uk_cs F ss sz (i + 1) := by
  funext j
  by_cases e : j = i
  · subst e; rw [pk_us]; exact h
  · rw [pk_un e]
    show (if j < i then @ite Int32 (F j) (Classical.propDecidable (F j)) 0 (ss j) else sz j) = (if j < i + 1 then @ite Int32 (F j) (Classical.propDecidable (F j)) 0 (ss j) else sz j)
    by_cases c : j < i
    · rw [if_pos c, if_pos (show j < i + 1 by omega)]
    · rw [if_neg c, if_neg (show ¬ j < i + 1 by omega)]
section
variable {x_changes x_saidCount x_time x_lastSlot x_sliceSteps x_latestPid x_greatestPid : Int32} {x_code x_codeLengths x_pids x_parents x_programs x_places x_states x_statuses x_stepCounts x_copyCounts x_wakeTimes x_registers x_pageCounts x_pageFrames x_held x_frameUsers x_frameWords x_openHolders x_openKinds x_openTargets x_openPlaces x_openModes x_pipeFirsts x_pipeCounts x_pipeWords x_nameFiles x_fileSizes x_fileWords x_safeNames x_safeSizes x_safeWords x_saidInts : Nat → Int32} {y_time y_last y_lastPid y_did y_killed : Int32} {y_ops y_as y_bs y_pages y_wake y_zombie y_blocked y_memory y_frame y_kind y_mode y_pipe y_size y_safeSize y_said : Nat → Int32}
theorem yk_crash {post : Int32 → SY → Prop} (hP : ∀ s, s < 8 → ¬ x_pids s < 0) (h : post (nI (uk_cn (fun s => x_pids s ≠ 0) 8)) (0, y_time, y_last, y_lastPid, y_did, x_greatestPid, x_latestPid, x_saidCount, y_killed, y_ops, y_as, y_bs, x_codeLengths, uk_fl x_pids 0 (fun _ => 0) 8, x_parents, x_programs, x_places, x_statuses, x_stepCounts, x_copyCounts, uk_fl y_pages 0 (fun _ => 0) 8, y_wake, y_zombie, y_blocked, x_registers, y_memory, y_frame, x_held, uk_fl y_kind 0 (fun _ => 0) 12, x_openTargets, y_mode, x_openPlaces, x_pipeCounts, y_pipe, uk_fl x_nameFiles 0 x_safeNames 8, uk_cs (fun f => uk_fre (uk_fl x_nameFiles 0 x_safeNames 8) (uk_fl y_kind 0 (fun _ => 0) 12) x_openTargets f) y_safeSize y_size 8, uk_fl x_fileWords 0 x_safeWords 128, x_safeNames, uk_fl y_safeSize 0 (uk_cs (fun f => uk_fre (uk_fl x_nameFiles 0 x_safeNames 8) (uk_fl y_kind 0 (fun _ => 0) 12) x_openTargets f) y_safeSize y_size 8) 8, x_safeWords, y_said)) : wpY_crash post (x_changes, y_time, y_last, y_lastPid, y_did, x_greatestPid, x_latestPid, x_saidCount, y_killed, y_ops, y_as, y_bs, x_codeLengths, x_pids, x_parents, x_programs, x_places, x_statuses, x_stepCounts, x_copyCounts, y_pages, y_wake, y_zombie, y_blocked, x_registers, y_memory, y_frame, x_held, y_kind, x_openTargets, y_mode, x_openPlaces, x_pipeCounts, y_pipe, x_nameFiles, y_size, x_fileWords, x_safeNames, y_safeSize, x_safeWords, y_said) := by
  unfold wpY_crash
  refine yk_processes hP ?_
  have eN : uk_fl x_safeNames 0 (uk_fl x_nameFiles 0 x_safeNames 8) 8 = x_safeNames := uk_fl_same (fun j hj => uk_fl1 hj)
  have eW : uk_fl x_safeWords 0 (uk_fl x_fileWords 0 x_safeWords 128) 128 = x_safeWords := uk_fl_same (fun j hj => uk_fl1 hj)
  have k1 := uk_run0 (fun m k (w : (Nat → Int32) × (Nat → Int32)) => wY_crash_7 post (nI (uk_cn (fun s => x_pids s ≠ 0) 8)) x_changes y_time y_last y_lastPid y_did x_greatestPid x_latestPid x_saidCount y_killed m (nI k) y_ops y_as y_bs x_codeLengths w.1 x_parents x_programs x_places x_statuses x_stepCounts x_copyCounts w.2 y_wake y_zombie y_blocked x_registers y_memory y_frame x_held y_kind x_openTargets y_mode x_openPlaces x_pipeCounts y_pipe x_nameFiles y_size x_fileWords x_safeNames y_safeSize x_safeWords y_said) (fun k => (uk_fl x_pids 0 (fun _ => 0) k, uk_fl y_pages 0 (fun _ => 0) k)) 8 (fun m => br_t (uk_refl 8) (by
    have k2 := uk_run0 (fun m k (w : Nat → Int32) => wY_crash_35 post (nI (uk_cn (fun s => x_pids s ≠ 0) 8)) x_changes y_time y_last y_lastPid y_did x_greatestPid x_latestPid x_saidCount y_killed m (nI k) y_ops y_as y_bs x_codeLengths (uk_fl x_pids 0 (fun _ => 0) 8) x_parents x_programs x_places x_statuses x_stepCounts x_copyCounts (uk_fl y_pages 0 (fun _ => 0) 8) y_wake y_zombie y_blocked x_registers y_memory y_frame x_held w x_openTargets y_mode x_openPlaces x_pipeCounts y_pipe x_nameFiles y_size x_fileWords x_safeNames y_safeSize x_safeWords y_said) (fun k => uk_fl y_kind 0 (fun _ => 0) k) 12 (fun m => br_t (uk_refl 12) (by
      have k3 := uk_run0 (fun m k (w : Nat → Int32) => wY_crash_56 post (nI (uk_cn (fun s => x_pids s ≠ 0) 8)) x_changes y_time y_last y_lastPid y_did x_greatestPid x_latestPid x_saidCount y_killed m (nI k) y_ops y_as y_bs x_codeLengths (uk_fl x_pids 0 (fun _ => 0) 8) x_parents x_programs x_places x_statuses x_stepCounts x_copyCounts (uk_fl y_pages 0 (fun _ => 0) 8) y_wake y_zombie y_blocked x_registers y_memory y_frame x_held (uk_fl y_kind 0 (fun _ => 0) 12) x_openTargets y_mode x_openPlaces x_pipeCounts y_pipe x_nameFiles y_size w x_safeNames y_safeSize x_safeWords y_said) (fun k => uk_fl x_fileWords 0 x_safeWords k) 128 (fun m => br_t (uk_refl 128) (by
        have k4 := uk_run0 (fun m k (w : Nat → Int32) => wY_crash_83 post (nI (uk_cn (fun s => x_pids s ≠ 0) 8)) x_changes y_time y_last y_lastPid y_did x_greatestPid x_latestPid x_saidCount y_killed m (nI k) y_ops y_as y_bs x_codeLengths (uk_fl x_pids 0 (fun _ => 0) 8) x_parents x_programs x_places x_statuses x_stepCounts x_copyCounts (uk_fl y_pages 0 (fun _ => 0) 8) y_wake y_zombie y_blocked x_registers y_memory y_frame x_held (uk_fl y_kind 0 (fun _ => 0) 12) x_openTargets y_mode x_openPlaces x_pipeCounts y_pipe w y_size (uk_fl x_fileWords 0 x_safeWords 128) x_safeNames y_safeSize x_safeWords y_said) (fun k => uk_fl x_nameFiles 0 x_safeNames k) 8 (fun m => br_t (uk_refl 8) (by
          have k5 := uk_run0 (fun m k (w : Nat → Int32) => wY_crash_109 post (nI (uk_cn (fun s => x_pids s ≠ 0) 8)) x_changes y_time y_last y_lastPid y_did x_greatestPid x_latestPid x_saidCount y_killed m (nI k) y_ops y_as y_bs x_codeLengths (uk_fl x_pids 0 (fun _ => 0) 8) x_parents x_programs x_places x_statuses x_stepCounts x_copyCounts (uk_fl y_pages 0 (fun _ => 0) 8) y_wake y_zombie y_blocked x_registers y_memory y_frame x_held (uk_fl y_kind 0 (fun _ => 0) 12) x_openTargets y_mode x_openPlaces x_pipeCounts y_pipe (uk_fl x_nameFiles 0 x_safeNames 8) w (uk_fl x_fileWords 0 x_safeWords 128) x_safeNames y_safeSize x_safeWords y_said) (fun k => uk_cs (fun f => uk_fre (uk_fl x_nameFiles 0 x_safeNames 8) (uk_fl y_kind 0 (fun _ => 0) 12) x_openTargets f) y_safeSize y_size k) 8 (fun m => br_t (uk_refl 8) (yk_commit (by
            rw [eN, eW]
            exact h))) (fun m k hk ih => by
            obtain ⟨z, v, e⟩ := uk_lp 8 hk (by decide)
            refine br_f z (yk_isFree (fun a => br_f (by decide) ⟨v, ?_⟩) (fun a => br_t rfl ⟨v, v, ?_⟩))
            · rw [e]
              exact nm_r (uk_css (uk_cst (by omega) a).symm) (nm_r (nI_1 k) ih)
            · rw [e]
              exact nm_r (uk_css (uk_csf (by omega) a).symm) (nm_r (nI_1 k) ih))
          rw [uk_cs0] at k5
          exact k5)) (fun m k hk ih => by
          obtain ⟨z, v, e⟩ := uk_lp 8 hk (by decide)
          refine br_f z ⟨v, v, ?_⟩
          rw [e]
          exact nm_r uk_fls0 (nm_r (nI_1 k) ih))
        rw [uk_fl0] at k4
        exact k4)) (fun m k hk ih => by
        obtain ⟨z, v, e⟩ := uk_lp 128 hk (by decide)
        refine br_f z ⟨v, v, ?_⟩
        rw [e]
        exact nm_r uk_fls0 (nm_r (nI_1 k) ih))
      rw [uk_fl0] at k3
      exact k3)) (fun m k hk ih => by
      obtain ⟨z, v, e⟩ := uk_lp 12 hk (by decide)
      refine br_f z ⟨v, ?_⟩
      rw [e]
      exact nm_r (uk_fls0 (g := fun _ => 0)) (nm_r (nI_1 k) ih))
    rw [uk_fl0] at k2
    exact k2)) (fun m k hk ih => by
    obtain ⟨z, v, e⟩ := uk_lp 8 hk (by decide)
    refine br_f z ⟨v, ?_⟩
    rw [e]
    exact nm_r (uk_fls0 (g := fun _ => 0)) ⟨v, nm_r (uk_fls0 (g := fun _ => 0)) (nm_r (nI_1 k) ih)⟩)
  dsimp only at k1
  rw [uk_fl0, uk_fl0] at k1
  exact k1
end
theorem i_vc_crash {k : Nat} {u : SX} {v : SY} (I : i_Rel k u v) (hk : k + 5 ≤ 2560) : wpX_crash (fun r u' => wpY_crash (fun r' v' => r' = r ∧ i_Rel (k + 5) u' v') v) u := by
  refine i_elim (C := fun u v => i_Rel (k + 5) u v → wpX_crash (fun r u' => wpY_crash (fun r' v' => r' = r ∧ i_Rel (k + 5) u' v') v) u) I ?_ (i_up I)
  intro t b x_changes x_saidCount x_time x_lastSlot x_sliceSteps x_latestPid x_greatestPid x_code x_codeLengths x_pids x_parents x_programs x_places x_states x_statuses x_stepCounts x_copyCounts x_wakeTimes x_registers x_pageCounts x_pageFrames x_held x_frameUsers x_frameWords x_openHolders x_openKinds x_openTargets x_openPlaces x_openModes x_pipeFirsts x_pipeCounts x_pipeWords x_nameFiles x_fileSizes x_fileWords x_safeNames x_safeSizes x_safeWords x_saidInts y_time y_last y_lastPid y_did y_killed y_ops y_as y_bs y_pages y_wake y_zombie y_blocked y_memory y_frame y_kind y_mode y_pipe y_size y_safeSize y_said ht hbt hA J
  have eT := uk_aeT hA
  have hPr := uk_aPr hA
  have hPs := uk_aPs hA
  have hMe := uk_aMe hA
  have hFu := uk_aFu hA
  have hHd := uk_aHd hA
  have hHo := uk_aHo hA
  have hOk := uk_aOk hA
  have hFi := uk_aFi hA
  have hP : ∀ s, s < 8 → ¬ x_pids s < 0 := fun s hs => (hPs s hs).1
  have hN : ∀ s, s < 8 → x_pids s ≠ 0 → ∃ n, n ≤ 8 ∧ y_pages s = nI n := fun s hs hp => by
    obtain ⟨n, h1, _, h3, _⟩ := hMe s hs hp
    exact ⟨n, h1, h3⟩
  have hSa := uk_aSa hA
  have z8 : ∀ s, s < 8 → uk_fl x_pids 0 (fun _ => 0) 8 s = 0 := fun s hs => uk_fl1 hs
  have hnam : ∀ f, f < 8 → (¬ uk_fre (uk_fl x_nameFiles 0 x_safeNames 8) (uk_fl y_kind 0 (fun _ => 0) 12) x_openTargets f ↔ ∃ k, k < 8 ∧ x_safeNames k = nI f) := fun f hf => by
    constructor
    · intro h
      refine Classical.byContradiction (fun z => h ⟨fun k hk w => z ⟨k, hk, ?_⟩, fun o ho w => ?_⟩)
      · rw [uk_fl1 hk] at w; exact w
      · have w1 := w.1
        rw [uk_fl1 ho] at w1
        exact absurd w1 (by decide)
    · rintro ⟨k, hk, w⟩ z
      exact z.1 k hk (by rw [uk_fl1 hk]; exact w)
  have A1 : uk_All t b 0 x_saidCount x_time x_lastSlot x_sliceSteps x_latestPid x_greatestPid x_code x_codeLengths (uk_fl x_pids 0 (fun _ => 0) 8) x_parents x_programs x_places x_states x_statuses x_stepCounts x_copyCounts x_wakeTimes x_registers x_pageCounts x_pageFrames x_held (uk_fl x_frameUsers 0 (fun _ => 0) 20) x_frameWords (uk_fl x_openHolders 0 (fun _ => 0) 12) x_openKinds x_openTargets x_openPlaces x_openModes x_pipeFirsts x_pipeCounts x_pipeWords (uk_fl x_nameFiles 0 x_safeNames 8) (uk_fl x_fileSizes 0 x_safeSizes 8) (uk_fl x_fileWords 0 x_safeWords 128) x_safeNames x_safeSizes x_safeWords x_saidInts y_time y_last y_lastPid y_did y_killed y_ops y_as y_bs (uk_fl y_pages 0 (fun _ => 0) 8) y_wake y_zombie y_blocked y_memory y_frame (uk_fl y_kind 0 (fun _ => 0) 12) y_mode y_pipe (uk_cs (fun f => uk_fre (uk_fl x_nameFiles 0 x_safeNames 8) (uk_fl y_kind 0 (fun _ => 0) 12) x_openTargets f) y_safeSize y_size 8) (uk_fl y_safeSize 0 (uk_cs (fun f => uk_fre (uk_fl x_nameFiles 0 x_safeNames 8) (uk_fl y_kind 0 (fun _ => 0) 12) x_openTargets f) y_safeSize y_size 8) 8) y_said :=
    ⟨uk_aG hA, uk_aN hA, ⟨0, rfl, by decide⟩, uk_aeT hA, uk_aPr hA, fun s hs => by
      obtain ⟨h1, h2, h3, h4, h5, h6, h7⟩ := hPs s hs
      exact ⟨by rw [z8 s hs]; decide, h2, h3, h4, h5, h6, fun w => absurd (z8 s hs) w⟩, fun s hs w => absurd (z8 s hs) w, fun f hf => by
      rw [uk_fl1 hf, uk_sm0 8 (fun s hs => uk_rw0 (z8 s hs))]
      rfl, fun s hs w => absurd (z8 s hs) w, fun o ho => by
      rw [uk_fl1 ho, uk_sm0 8 (fun s hs => uk_hw0 (fun w => w.1 (z8 s hs)))]
      rfl, fun o ho => ⟨(hOk o ho).1, Or.inl ⟨uk_fl1 ho, uk_fl1 ho⟩⟩, uk_aPi hA, ⟨fun k hk => by rw [uk_fl1 hk]; exact hSa.1 k hk, fun f hf => by
      by_cases fr : uk_fre (uk_fl x_nameFiles 0 x_safeNames 8) (uk_fl y_kind 0 (fun _ => 0) 12) x_openTargets f
      · exact ⟨by rw [uk_cst hf fr]; exact vp_in_nI (n := 0) (by decide) (by decide), fun _ => uk_cst hf fr, fun z => absurd fr z⟩
      · exact ⟨by rw [uk_csf hf fr]; exact (hSa.2 f hf).1, fun z => absurd z fr, fun _ => by rw [uk_fl1 hf, uk_csf hf fr]; exact (hSa.2 f hf).2 ((hnam f hf).mp fr)⟩⟩, ⟨hSa.1, fun f hf => by
      rw [uk_fl1 hf]
      by_cases fr : uk_fre (uk_fl x_nameFiles 0 x_safeNames 8) (uk_fl y_kind 0 (fun _ => 0) 12) x_openTargets f
      · exact ⟨by rw [uk_cst hf fr]; exact vp_in_nI (n := 0) (by decide) (by decide), fun z => absurd fr ((hnam f hf).mpr z)⟩
      · exact ⟨by rw [uk_csf hf fr]; exact (hSa.2 f hf).1, fun z => by rw [uk_csf hf fr]; exact (hSa.2 f hf).2 z⟩⟩, ⟨(uk_aSc hA).1, (uk_aSc hA).2.1, Or.inl z8⟩, fun s hs w => absurd (z8 s hs) w⟩
  exact xk_crash (yk_crash hP ⟨rfl, i_mk ht hbt A1⟩)
end
section
/-! boot -/
section
variable {x_changes x_saidCount x_time x_lastSlot x_sliceSteps x_latestPid x_greatestPid : Int32} {x_code x_codeLengths x_pids x_parents x_programs x_places x_states x_statuses x_stepCounts x_copyCounts x_wakeTimes x_registers x_pageCounts x_pageFrames x_held x_frameUsers x_frameWords x_openHolders x_openKinds x_openTargets x_openPlaces x_openModes x_pipeFirsts x_pipeCounts x_pipeWords x_nameFiles x_fileSizes x_fileWords x_safeNames x_safeSizes x_safeWords x_saidInts : Nat → Int32} {y_time y_last y_lastPid y_did y_killed : Int32} {y_ops y_as y_bs y_pages y_wake y_zombie y_blocked y_memory y_frame y_kind y_mode y_pipe y_size y_safeSize y_said : Nat → Int32}
theorem xk_boot {post : Int32 → SX → Prop} {p : Int32} (hv : vp_in p 6) (hc : nI (uk_cn (fun s => x_pids s ≠ 0) 8) ≤ 0) (h : post 1 (x_changes, x_saidCount, x_time, 7, x_sliceSteps, 0, 1, x_code, x_codeLengths, upd x_pids 0 1, upd x_parents 0 0, upd x_programs 0 p, upd x_places 0 0, upd x_states 0 1, upd x_statuses 0 0, upd x_stepCounts 0 0, upd x_copyCounts 0 0, upd x_wakeTimes 0 0, uk_fl x_registers 0 (fun _ => 0) 4, upd x_pageCounts 0 1, upd x_pageFrames 0 0, uk_fl x_held 0 (fun _ => -1) 6, upd x_frameUsers 0 1, uk_fl x_frameWords 0 (fun _ => 0) 4, x_openHolders, x_openKinds, x_openTargets, x_openPlaces, x_openModes, x_pipeFirsts, x_pipeCounts, x_pipeWords, x_nameFiles, x_fileSizes, x_fileWords, x_safeNames, x_safeSizes, x_safeWords, x_saidInts)) : wpX_boot post (x_changes, x_saidCount, x_time, x_lastSlot, x_sliceSteps, x_latestPid, x_greatestPid, x_code, x_codeLengths, x_pids, x_parents, x_programs, x_places, x_states, x_statuses, x_stepCounts, x_copyCounts, x_wakeTimes, x_registers, x_pageCounts, x_pageFrames, x_held, x_frameUsers, x_frameWords, x_openHolders, x_openKinds, x_openTargets, x_openPlaces, x_openModes, x_pipeFirsts, x_pipeCounts, x_pipeWords, x_nameFiles, x_fileSizes, x_fileWords, x_safeNames, x_safeSizes, x_safeWords, x_saidInts) p := by
  have v8 : vp_in (nI 0) 8 := vp_in_nI (by decide) (by decide)
  have e0 : (0 : Int32).toNatClampNeg = 0 := nI_clamp (n := 0) (by decide)
  unfold wpX_boot
  refine xk_isProgram (fun _ => br_f (by decide) (xk_countProcesses (br_t hc ?_))) (fun z => absurd hv z)
  unfold wpX_beginProcess
  dsimp only
  rw [e0]
  refine ⟨v8, nm_e ⟨v8, nm_e ⟨v8, nm_e ⟨v8, nm_e ⟨v8, nm_e ⟨v8, nm_e ⟨v8, nm_e ⟨v8, nm_e ?_⟩⟩⟩⟩⟩⟩⟩⟩
  have kH := uk_run0 (fun m d (w : Nat → Int32) => wX_boot_42 post p x_changes x_saidCount x_time 7 x_sliceSteps 0 1 m (nI d) x_code x_codeLengths (upd x_pids 0 1) (upd x_parents 0 0) x_programs x_places (upd x_states 0 1) (upd x_statuses 0 0) (upd x_stepCounts 0 0) (upd x_copyCounts 0 0) (upd x_wakeTimes 0 0) x_registers (upd x_pageCounts 0 0) x_pageFrames w x_frameUsers x_frameWords x_openHolders x_openKinds x_openTargets x_openPlaces x_openModes x_pipeFirsts x_pipeCounts x_pipeWords x_nameFiles x_fileSizes x_fileWords x_safeNames x_safeSizes x_safeWords x_saidInts) (fun d => uk_fl x_held 0 (fun _ => -1) d) 6 (fun m => br_t (uk_refl 6) (by
    unfold wpX_startProgram
    refine xk_addPage (s := 0) (n := 0) (f := 0) (by decide) pk_us (by decide) (by decide) ?_
    have kR := uk_run0 (fun m k (w : Nat → Int32) => wX_startProgram_9 (fun u => match u with | (x_changes, x_saidCount, x_time, x_lastSlot, x_sliceSteps, x_latestPid, x_greatestPid, x_code, x_codeLengths, x_pids, x_parents, x_programs, x_places, x_states, x_statuses, x_stepCounts, x_copyCounts, x_wakeTimes, x_registers, x_pageCounts, x_pageFrames, x_held, x_frameUsers, x_frameWords, x_openHolders, x_openKinds, x_openTargets, x_openPlaces, x_openModes, x_pipeFirsts, x_pipeCounts, x_pipeWords, x_nameFiles, x_fileSizes, x_fileWords, x_safeNames, x_safeSizes, x_safeWords, x_saidInts) => post 1 (x_changes, x_saidCount, x_time, x_lastSlot, x_sliceSteps, x_latestPid, x_greatestPid, x_code, x_codeLengths, x_pids, x_parents, x_programs, x_places, x_states, x_statuses, x_stepCounts, x_copyCounts, x_wakeTimes, x_registers, x_pageCounts, x_pageFrames, x_held, x_frameUsers, x_frameWords, x_openHolders, x_openKinds, x_openTargets, x_openPlaces, x_openModes, x_pipeFirsts, x_pipeCounts, x_pipeWords, x_nameFiles, x_fileSizes, x_fileWords, x_safeNames, x_safeSizes, x_safeWords, x_saidInts)) (nI 0) p x_changes x_saidCount x_time 7 x_sliceSteps 0 1 m (nI k) x_code x_codeLengths (upd x_pids 0 1) (upd x_parents 0 0) x_programs x_places (upd x_states 0 1) (upd x_statuses 0 0) (upd x_stepCounts 0 0) (upd x_copyCounts 0 0) (upd x_wakeTimes 0 0) w (upd x_pageCounts 0 1) (upd x_pageFrames 0 0) (uk_fl x_held 0 (fun _ => -1) 6) (upd x_frameUsers 0 1) (uk_fl x_frameWords 0 (fun _ => 0) 4) x_openHolders x_openKinds x_openTargets x_openPlaces x_openModes x_pipeFirsts x_pipeCounts x_pipeWords x_nameFiles x_fileSizes x_fileWords x_safeNames x_safeSizes x_safeWords x_saidInts) (fun k => uk_fl x_registers 0 (fun _ => 0) k) 4 (fun m => by
      refine br_t (uk_refl 4) ⟨v8, ?_⟩
      rw [nI_clamp (show 0 < 2 ^ 31 by decide)]
      exact nm_e ⟨v8, nm_e h⟩) (fun m k hk ih => by
      refine br_f (nI_ge (b := 4) hk (by decide)) ?_
      rw [uk_m4, nI_add, nI_clamp (show 4 * 0 + k < 2 ^ 31 by omega), show 4 * 0 + k = k by omega]
      exact ⟨vp_in_nI (by omega) (by decide), nm_r (uk_fls0 (g := fun _ => 0)) (nm_r (nI_1 k) ih)⟩)
    rw [uk_fl0] at kR
    rw [uk_uu]
    exact kR)) (fun m d hd ih => by
    obtain ⟨_, _, e⟩ := uk_lp 6 hd (by decide)
    refine br_f (nI_ge (b := 6) hd (by decide)) ⟨vp_in_nI (by omega) (by decide), ?_⟩
    rw [e]
    exact nm_r (uk_fls0 (g := fun _ => -1)) (nm_r (nI_1 d) ih))
  rw [uk_fl0] at kH
  exact kH
end
end
section
/-! boot, Y's side, and both -/
section
variable {x_changes x_saidCount x_time x_lastSlot x_sliceSteps x_latestPid x_greatestPid : Int32} {x_code x_codeLengths x_pids x_parents x_programs x_places x_states x_statuses x_stepCounts x_copyCounts x_wakeTimes x_registers x_pageCounts x_pageFrames x_held x_frameUsers x_frameWords x_openHolders x_openKinds x_openTargets x_openPlaces x_openModes x_pipeFirsts x_pipeCounts x_pipeWords x_nameFiles x_fileSizes x_fileWords x_safeNames x_safeSizes x_safeWords x_saidInts : Nat → Int32} {y_time y_last y_lastPid y_did y_killed : Int32} {y_ops y_as y_bs y_pages y_wake y_zombie y_blocked y_memory y_frame y_kind y_mode y_pipe y_size y_safeSize y_said : Nat → Int32}
theorem yk_boot {post : Int32 → SY → Prop} {p : Int32} (hP : ∀ s, s < 8 → ¬ x_pids s < 0) (hv : vp_in p 6) (hc : nI (uk_cn (fun s => x_pids s ≠ 0) 8) ≤ 0) (h : post 1 (x_changes, y_time, 7, 0, 0, 1, 0, x_saidCount, y_killed, y_ops, y_as, y_bs, x_codeLengths, upd x_pids 0 1, upd x_parents 0 0, upd x_programs 0 p, upd x_places 0 0, upd x_statuses 0 0, upd x_stepCounts 0 0, upd x_copyCounts 0 0, upd y_pages 0 1, upd y_wake 0 (-1), upd y_zombie 0 0, upd y_blocked 0 0, uk_fl x_registers 0 (fun _ => 0) 4, uk_fl y_memory 0 (fun _ => 0) 4, upd y_frame 0 0, uk_fl x_held 0 (fun _ => -1) 6, y_kind, x_openTargets, y_mode, x_openPlaces, x_pipeCounts, y_pipe, x_nameFiles, y_size, x_fileWords, x_safeNames, y_safeSize, x_safeWords, y_said)) : wpY_boot post (x_changes, y_time, y_last, y_lastPid, y_did, x_greatestPid, x_latestPid, x_saidCount, y_killed, y_ops, y_as, y_bs, x_codeLengths, x_pids, x_parents, x_programs, x_places, x_statuses, x_stepCounts, x_copyCounts, y_pages, y_wake, y_zombie, y_blocked, x_registers, y_memory, y_frame, x_held, y_kind, x_openTargets, y_mode, x_openPlaces, x_pipeCounts, y_pipe, x_nameFiles, y_size, x_fileWords, x_safeNames, y_safeSize, x_safeWords, y_said) p := by
  have v8 : vp_in (nI 0) 8 := vp_in_nI (by decide) (by decide)
  have e0 : (0 : Int32).toNatClampNeg = 0 := nI_clamp (n := 0) (by decide)
  have e01 : (0 : Int32) + 1 = 1 := by decide
  unfold wpY_boot
  refine yk_no 5 rfl (by decide) (fun _ => br_t rfl (yk_processes hP (br_t hc ?_))) (fun z => absurd hv z)
  unfold wpY_create
  dsimp only
  rw [e0]
  try rw [e01]
  refine nm_e ⟨v8, nm_e ⟨v8, nm_e ⟨v8, nm_e ⟨v8, nm_e ⟨v8, nm_e ⟨v8, nm_e ⟨v8, nm_e ⟨v8, nm_e ⟨v8, nm_e (nm_e (nm_e ?_))⟩⟩⟩⟩⟩⟩⟩⟩⟩
  have kM := uk_run0 (fun m k (w : Nat → Int32) => wY_boot_45 post x_changes y_time y_last y_lastPid y_did 1 x_latestPid x_saidCount y_killed m (nI k) y_ops y_as y_bs x_codeLengths (upd x_pids 0 1) (upd x_parents 0 0) (upd x_programs 0 p) x_places (upd x_statuses 0 0) (upd x_stepCounts 0 0) (upd x_copyCounts 0 0) (upd y_pages 0 1) (upd y_wake 0 (-1)) (upd y_zombie 0 0) (upd y_blocked 0 0) x_registers w (upd y_frame 0 0) x_held y_kind x_openTargets y_mode x_openPlaces x_pipeCounts y_pipe x_nameFiles y_size x_fileWords x_safeNames y_safeSize x_safeWords y_said) (fun k => uk_fl y_memory 0 (fun _ => 0) k) 4 (fun m => br_t (uk_refl 4) (by
    have kR := uk_run0 (fun m k (w : Nat → Int32) => wY_boot_65 post x_changes y_time y_last y_lastPid y_did 1 x_latestPid x_saidCount y_killed m (nI k) y_ops y_as y_bs x_codeLengths (upd x_pids 0 1) (upd x_parents 0 0) (upd x_programs 0 p) x_places (upd x_statuses 0 0) (upd x_stepCounts 0 0) (upd x_copyCounts 0 0) (upd y_pages 0 1) (upd y_wake 0 (-1)) (upd y_zombie 0 0) (upd y_blocked 0 0) w (uk_fl y_memory 0 (fun _ => 0) 4) (upd y_frame 0 0) x_held y_kind x_openTargets y_mode x_openPlaces x_pipeCounts y_pipe x_nameFiles y_size x_fileWords x_safeNames y_safeSize x_safeWords y_said) (fun k => uk_fl x_registers 0 (fun _ => 0) k) 4 (fun m => br_t (uk_refl 4) (by
        have kD := uk_run0 (fun m k (w : Nat → Int32) => wY_boot_85 post x_changes y_time y_last y_lastPid y_did 1 x_latestPid x_saidCount y_killed m (nI k) y_ops y_as y_bs x_codeLengths (upd x_pids 0 1) (upd x_parents 0 0) (upd x_programs 0 p) x_places (upd x_statuses 0 0) (upd x_stepCounts 0 0) (upd x_copyCounts 0 0) (upd y_pages 0 1) (upd y_wake 0 (-1)) (upd y_zombie 0 0) (upd y_blocked 0 0) (uk_fl x_registers 0 (fun _ => 0) 4) (uk_fl y_memory 0 (fun _ => 0) 4) (upd y_frame 0 0) w y_kind x_openTargets y_mode x_openPlaces x_pipeCounts y_pipe x_nameFiles y_size x_fileWords x_safeNames y_safeSize x_safeWords y_said) (fun k => uk_fl x_held 0 (fun _ => -1) k) 6 (fun m => br_t (uk_refl 6) (by
          exact nm_e h)) (fun m k hk ih => by
          obtain ⟨_, _, e⟩ := uk_lp 6 hk (by decide)
          refine br_f (nI_ge (b := 6) hk (by decide)) ⟨vp_in_nI (by omega) (by decide), ?_⟩
          rw [e]
          exact nm_r (uk_fls0 (g := fun _ => -1)) (nm_r (nI_1 k) ih))
        rw [uk_fl0] at kD
        exact kD)) (fun m k hk ih => by
      obtain ⟨_, _, e⟩ := uk_lp 4 hk (by decide)
      refine br_f (nI_ge (b := 4) hk (by decide)) ⟨vp_in_nI (by omega) (by decide), ?_⟩
      rw [e]
      exact nm_r (uk_fls0 (g := fun _ => 0)) (nm_r (nI_1 k) ih))
    rw [uk_fl0] at kR
    exact kR)) (fun m k hk ih => by
    obtain ⟨_, _, e⟩ := uk_lp 4 hk (by decide)
    refine br_f (nI_ge (b := 4) hk (by decide)) ⟨vp_in_nI (by omega) (by decide), ?_⟩
    rw [e]
    exact nm_r (uk_fls0 (g := fun _ => 0)) (nm_r (nI_1 k) ih))
  rw [uk_fl0] at kM
  exact kM
theorem uk_boA {t b : Nat} {p : Int32} (hA : uk_All t b x_changes x_saidCount x_time x_lastSlot x_sliceSteps x_latestPid x_greatestPid x_code x_codeLengths x_pids x_parents x_programs x_places x_states x_statuses x_stepCounts x_copyCounts x_wakeTimes x_registers x_pageCounts x_pageFrames x_held x_frameUsers x_frameWords x_openHolders x_openKinds x_openTargets x_openPlaces x_openModes x_pipeFirsts x_pipeCounts x_pipeWords x_nameFiles x_fileSizes x_fileWords x_safeNames x_safeSizes x_safeWords x_saidInts y_time y_last y_lastPid y_did y_killed y_ops y_as y_bs y_pages y_wake y_zombie y_blocked y_memory y_frame y_kind y_mode y_pipe y_size y_safeSize y_said) (h0 : ∀ s, s < 8 → x_pids s = 0) (hv : vp_in p 6) : uk_All t b x_changes x_saidCount x_time 7 x_sliceSteps 0 1 x_code x_codeLengths (upd x_pids 0 1) (upd x_parents 0 0) (upd x_programs 0 p) (upd x_places 0 0) (upd x_states 0 1) (upd x_statuses 0 0) (upd x_stepCounts 0 0) (upd x_copyCounts 0 0) (upd x_wakeTimes 0 0) (uk_fl x_registers 0 (fun _ => 0) 4) (upd x_pageCounts 0 1) (upd x_pageFrames 0 0) (uk_fl x_held 0 (fun _ => -1) 6) (upd x_frameUsers 0 1) (uk_fl x_frameWords 0 (fun _ => 0) 4) x_openHolders x_openKinds x_openTargets x_openPlaces x_openModes x_pipeFirsts x_pipeCounts x_pipeWords x_nameFiles x_fileSizes x_fileWords x_safeNames x_safeSizes x_safeWords x_saidInts y_time 7 0 0 y_killed y_ops y_as y_bs (upd y_pages 0 1) (upd y_wake 0 (-1)) (upd y_zombie 0 0) (upd y_blocked 0 0) (uk_fl y_memory 0 (fun _ => 0) 4) (upd y_frame 0 0) y_kind y_mode y_pipe y_size y_safeSize y_said := by
  have hPs := uk_aPs hA
  have e0 : (0 : Int32).toNatClampNeg = 0 := nI_clamp (n := 0) (by decide)
  have hn : ∀ s, s < 8 → upd x_pids 0 1 s ≠ 0 → s = 0 := fun s hs hp => by
    by_cases e : s = 0
    · exact e
    · rw [pk_un e] at hp; exact absurd (h0 s hs) hp
  have gPs : uk_Ps (upd x_pids 0 1) (upd x_parents 0 0) (upd x_programs 0 p) (upd x_places 0 0) (upd x_statuses 0 0) (upd x_states 0 1) (upd y_zombie 0 0) (upd y_blocked 0 0) := fun s hs => by
    by_cases e : s = 0
    · subst e
      rw [pk_us, pk_us, pk_us, pk_us, pk_us, pk_us, pk_us, pk_us]
      exact ⟨by decide, by decide, hv, vp_in_nI (n := 0) (by decide) (by decide), Or.inl rfl, Or.inl rfl, fun _ => Or.inr ⟨rfl, rfl, Or.inl ⟨rfl, rfl⟩⟩⟩
    · rw [pk_un e, pk_un e, pk_un e, pk_un e, pk_un e, pk_un e, pk_un e, pk_un e]
      exact hPs s hs
  have gMe : uk_Me (upd x_pids 0 1) (upd y_zombie 0 0) (upd x_pageCounts 0 1) (upd y_pages 0 1) (upd x_pageFrames 0 0) (upd y_frame 0 0) (uk_fl x_frameWords 0 (fun _ => 0) 4) (uk_fl y_memory 0 (fun _ => 0) 4) := fun s hs hp => by
    have e := hn s hs hp
    subst e
    refine ⟨1, by decide, pk_us, pk_us, fun z => by rw [pk_us] at z; exact absurd z (by decide), fun q hq => ?_⟩
    have e : q = 0 := by omega
    subst e
    show vp_in (upd y_frame 0 0 0) 20 ∧ upd x_pageFrames 0 0 0 = upd y_frame 0 0 0 ∧ ∀ k, k < 4 → uk_fl x_frameWords 0 (fun _ => 0) 4 (4 * (upd y_frame 0 0 0).toNatClampNeg + k) = uk_fl y_memory 0 (fun _ => 0) 4 (32 * 0 + 4 * 0 + k)
    rw [pk_us, pk_us]
    refine ⟨vp_in_nI (n := 0) (by decide) (by decide), rfl, fun k hk => ?_⟩
    have i1 : uk_fl x_frameWords 0 (fun _ => 0) 4 (4 * (0 : Int32).toNatClampNeg + k) = 0 := by
      rw [e0]
      exact (congrArg (uk_fl x_frameWords 0 (fun _ => 0) 4) (show 4 * 0 + k = k by omega)).trans (uk_fl1 hk)
    have i2 : uk_fl y_memory 0 (fun _ => 0) 4 (32 * 0 + 4 * 0 + k) = 0 := (congrArg (uk_fl y_memory 0 (fun _ => 0) 4) (show 32 * 0 + 4 * 0 + k = k by omega)).trans (uk_fl1 hk)
    exact i1.trans i2.symm
  have gFu : uk_Fu (upd x_pids 0 1) (upd y_pages 0 1) (upd y_frame 0 0) (upd x_frameUsers 0 1) := fun f hf => by
    have q0 : uk_sm (uk_rw x_pids y_pages y_frame f) 8 = 0 := uk_sm0 8 (fun s hs => uk_rw0 (h0 s hs))
    have q1 := uk_smset (g := uk_rw x_pids y_pages y_frame f) (h := uk_rw (upd x_pids 0 1) (upd y_pages 0 1) (upd y_frame 0 0) f) 8 (show 0 < 8 by decide) (fun i hi hk => by
      rw [uk_rw0 (h0 i hi)]
      exact (uk_rw0 (by rw [pk_un hk]; exact h0 i hi)).symm)
    have q2 : uk_rw x_pids y_pages y_frame f 0 = 0 := uk_rw0 (h0 0 (by decide))
    have q3 : uk_rw (upd x_pids 0 1) (upd y_pages 0 1) (upd y_frame 0 0) f 0 = uk_cn (fun q => upd y_frame 0 0 (8 * 0 + q) = nI f) 1 := uk_rwn (n := 1) (by rw [pk_us]; decide) pk_us (by decide)
    by_cases e : f = 0
    · subst e
      have q4 : uk_cn (fun q => upd y_frame 0 0 (8 * 0 + q) = nI 0) 1 = 1 := uk_cnt (P := fun q => upd y_frame 0 0 (8 * 0 + q) = nI 0) (n := 0) (show upd y_frame 0 0 0 = nI 0 from pk_us)
      have q5 : uk_sm (uk_rw (upd x_pids 0 1) (upd y_pages 0 1) (upd y_frame 0 0) 0) 8 = 1 := by omega
      rw [pk_us, q5]
      rfl
    · have q4 : uk_cn (fun q => upd y_frame 0 0 (8 * 0 + q) = nI f) 1 = 0 := uk_cnf (P := fun q => upd y_frame 0 0 (8 * 0 + q) = nI f) (n := 0) (fun z => e (uk_nIn (a := 0) (b := f) (by decide) (by omega) ((show nI 0 = upd y_frame 0 0 0 from pk_us.symm).trans z)).symm)
      have q5 : uk_sm (uk_rw (upd x_pids 0 1) (upd y_pages 0 1) (upd y_frame 0 0) f) 8 = 0 := by omega
      rw [pk_un e, uk_aFu hA f hf, q0, q5]
  have gHd : uk_Hd (upd x_pids 0 1) (upd y_zombie 0 0) (uk_fl x_held 0 (fun _ => -1) 6) := fun s hs hp _ d hd => by
    have e := hn s hs hp
    subst e
    exact Or.inl ((congrArg (uk_fl x_held 0 (fun _ => -1) 6) (show 6 * 0 + d = d by omega)).trans (uk_fl1 hd))
  have gHo : uk_Ho (upd x_pids 0 1) (upd y_zombie 0 0) (uk_fl x_held 0 (fun _ => -1) 6) x_openHolders := fun o ho => by
    have q0 : uk_sm (uk_hw x_pids y_zombie x_held o) 8 = 0 := uk_sm0 8 (fun s hs => uk_hw0 (fun z => z.1 (h0 s hs)))
    have q1 : uk_sm (uk_hw (upd x_pids 0 1) (upd y_zombie 0 0) (uk_fl x_held 0 (fun _ => -1) 6) o) 8 = 0 := uk_sm0 8 (fun s hs => by
      by_cases e : s = 0
      · subst e
        have q2 : uk_cn (fun d => uk_fl x_held 0 (fun _ => -1) 6 (6 * 0 + d) = nI o) 6 = 0 := uk_cn0 6 (fun d hd z => uk_ne1 (n := o) (by omega) (z.symm.trans ((congrArg (uk_fl x_held 0 (fun _ => -1) 6) (show 6 * 0 + d = d by omega)).trans (uk_fl1 hd))))
        unfold uk_hw
        rw [q2, Nat.mul_zero]
      · exact uk_hw0 (fun z => z.1 (by rw [pk_un e]; exact h0 s hs)))
    rw [uk_aHo hA o ho, q0, q1]
  have gSc : uk_Sc (upd x_pids 0 1) 7 x_sliceSteps 7 0 0 := ⟨vp_in_nI (n := 7) (by decide) (by decide), vp_in_nI (n := 7) (by decide) (by decide), Or.inr ⟨rfl, Or.inl (by
    rw [show (7 : Int32).toNatClampNeg = 7 from nI_clamp (n := 7) (by decide), pk_un (show 7 ≠ 0 by decide)]
    exact h0 7 (by decide))⟩⟩
  exact ⟨⟨1, rfl, by omega⟩, uk_aN hA, uk_aC hA, uk_aeT hA, uk_aPr hA, gPs, gMe, gFu, gHd, gHo, uk_aOk hA, uk_aPi hA, uk_aFi hA, uk_aSa hA, gSc, fun s hs hp _ => by
    have e := hn s hs hp
    subst e
    exact Or.inl ⟨pk_us, pk_us, pk_us⟩⟩
end
theorem i_vc_boot {k : Nat} {u : SX} {v : SY} (I : i_Rel k u v) (hk : k + 5 ≤ 2560) (v1 : Int32) : wpX_boot (fun r u' => wpY_boot (fun r' v' => r' = r ∧ i_Rel (k + 5) u' v') v v1) u v1 := by
  refine i_elim (C := fun u v => i_Rel (k + 5) u v → wpX_boot (fun r u' => wpY_boot (fun r' v' => r' = r ∧ i_Rel (k + 5) u' v') v v1) u v1) I ?_ (i_up I)
  intro t b x_changes x_saidCount x_time x_lastSlot x_sliceSteps x_latestPid x_greatestPid x_code x_codeLengths x_pids x_parents x_programs x_places x_states x_statuses x_stepCounts x_copyCounts x_wakeTimes x_registers x_pageCounts x_pageFrames x_held x_frameUsers x_frameWords x_openHolders x_openKinds x_openTargets x_openPlaces x_openModes x_pipeFirsts x_pipeCounts x_pipeWords x_nameFiles x_fileSizes x_fileWords x_safeNames x_safeSizes x_safeWords x_saidInts y_time y_last y_lastPid y_did y_killed y_ops y_as y_bs y_pages y_wake y_zombie y_blocked y_memory y_frame y_kind y_mode y_pipe y_size y_safeSize y_said ht hbt hA J
  have eT := uk_aeT hA
  have hPr := uk_aPr hA
  have hPs := uk_aPs hA
  have hMe := uk_aMe hA
  have hFu := uk_aFu hA
  have hHd := uk_aHd hA
  have hHo := uk_aHo hA
  have hOk := uk_aOk hA
  have hFi := uk_aFi hA
  have hP : ∀ s, s < 8 → ¬ x_pids s < 0 := fun s hs => (hPs s hs).1
  have hN : ∀ s, s < 8 → x_pids s ≠ 0 → ∃ n, n ≤ 8 ∧ y_pages s = nI n := fun s hs hp => by
    obtain ⟨n, h1, _, h3, _⟩ := hMe s hs hp
    exact ⟨n, h1, h3⟩
  by_cases hv : vp_in v1 6
  · by_cases c : nI (uk_cn (fun s => x_pids s ≠ 0) 8) ≤ 0
    · have h0 := uk_noneI.mp c
      exact xk_boot hv c (yk_boot hP hv c ⟨rfl, i_mk ht hbt (uk_boA hA h0 hv)⟩)
    · unfold wpX_boot
      refine xk_isProgram (fun _ => br_f (by decide) (xk_countProcesses (br_f c ?_))) (fun z => absurd hv z)
      unfold wpY_boot
      exact yk_no 5 rfl (by decide) (fun _ => br_t rfl (yk_processes hP (br_f c ⟨rfl, J⟩))) (fun z => absurd hv z)
  · unfold wpX_boot
    refine xk_isProgram (fun z => absurd z hv) (fun _ => br_t rfl ?_)
    unfold wpY_boot
    exact yk_no 5 rfl (by decide) (fun z => absurd z hv) (fun _ => br_f (by decide) ⟨rfl, J⟩)
end
section
/-! add -/
theorem uk_v0 {a b : Int32} : uk_val (nI 0) a b ↔ vp_in a 4 := by
  constructor
  · rintro (⟨_, h⟩ | ⟨h, _⟩ | ⟨h, _⟩ | ⟨h, _⟩ | ⟨h, _⟩)
    · exact h
    · exact absurd h (by decide)
    · exact absurd h (by decide)
    · exact absurd h (by decide)
    · exact absurd h (by decide)
  · exact fun h => Or.inl ⟨rfl, h⟩
theorem uk_v1 {a b : Int32} : uk_val (nI 1) a b ↔ vp_in a 4 ∧ vp_in b 4 := by
  constructor
  · rintro (⟨h, _⟩ | ⟨_, h⟩ | ⟨h, _⟩ | ⟨h, _⟩ | ⟨h, _⟩)
    · exact absurd h (by decide)
    · exact h
    · exact absurd h (by decide)
    · exact absurd h (by decide)
    · exact absurd h (by decide)
  · exact fun h => Or.inr (Or.inl ⟨Or.inl rfl, h⟩)
theorem uk_v2 {a b : Int32} : uk_val (nI 2) a b ↔ vp_in a 4 ∧ vp_in b 4 := by
  constructor
  · rintro (⟨h, _⟩ | ⟨_, h⟩ | ⟨h, _⟩ | ⟨h, _⟩ | ⟨h, _⟩)
    · exact absurd h (by decide)
    · exact h
    · exact absurd h (by decide)
    · exact absurd h (by decide)
    · exact absurd h (by decide)
  · exact fun h => Or.inr (Or.inl ⟨Or.inr (Or.inl rfl), h⟩)
theorem uk_v3 {a b : Int32} : uk_val (nI 3) a b ↔ vp_in a 4 ∧ vp_in b 4 := by
  constructor
  · rintro (⟨h, _⟩ | ⟨_, h⟩ | ⟨h, _⟩ | ⟨h, _⟩ | ⟨h, _⟩)
    · exact absurd h (by decide)
    · exact h
    · exact absurd h (by decide)
    · exact absurd h (by decide)
    · exact absurd h (by decide)
  · exact fun h => Or.inr (Or.inl ⟨Or.inr (Or.inr (Or.inl rfl)), h⟩)
theorem uk_v4 {a b : Int32} : uk_val (nI 4) a b ↔ vp_in a 4 ∧ vp_in b 4 := by
  constructor
  · rintro (⟨h, _⟩ | ⟨_, h⟩ | ⟨h, _⟩ | ⟨h, _⟩ | ⟨h, _⟩)
    · exact absurd h (by decide)
    · exact h
    · exact absurd h (by decide)
    · exact absurd h (by decide)
    · exact absurd h (by decide)
  · exact fun h => Or.inr (Or.inl ⟨Or.inr (Or.inr (Or.inr (Or.inl rfl))), h⟩)
theorem uk_v5 {a b : Int32} : uk_val (nI 5) a b ↔ vp_in a 4 ∧ vp_in b 4 := by
  constructor
  · rintro (⟨h, _⟩ | ⟨_, h⟩ | ⟨h, _⟩ | ⟨h, _⟩ | ⟨h, _⟩)
    · exact absurd h (by decide)
    · exact h
    · exact absurd h (by decide)
    · exact absurd h (by decide)
    · exact absurd h (by decide)
  · exact fun h => Or.inr (Or.inl ⟨Or.inr (Or.inr (Or.inr (Or.inr rfl))), h⟩)
theorem uk_v6 {a b : Int32} : uk_val (nI 6) a b ↔ vp_in b 24 := by
  constructor
  · rintro (⟨h, _⟩ | ⟨h, _⟩ | ⟨_, h⟩ | ⟨h, _⟩ | ⟨h, _⟩)
    · exact absurd h (by decide)
    · exact absurd h (by decide)
    · exact h
    · exact absurd h (by decide)
    · exact absurd h (by decide)
  · exact fun h => Or.inr (Or.inr (Or.inl ⟨rfl, h⟩))
theorem uk_v7 {a b : Int32} : uk_val (nI 7) a b ↔ vp_in a 4 ∧ vp_in b 24 := by
  constructor
  · rintro (⟨h, _⟩ | ⟨h, _⟩ | ⟨h, _⟩ | ⟨_, h⟩ | ⟨h, _⟩)
    · exact absurd h (by decide)
    · exact absurd h (by decide)
    · exact absurd h (by decide)
    · exact h
    · exact absurd h (by decide)
  · exact fun h => Or.inr (Or.inr (Or.inr (Or.inl ⟨rfl, h⟩)))
theorem uk_v8 {a b : Int32} : uk_val (nI 8) a b ↔ vp_in b 19 := by
  constructor
  · rintro (⟨h, _⟩ | ⟨h, _⟩ | ⟨h, _⟩ | ⟨h, _⟩ | ⟨_, h⟩)
    · exact absurd h (by decide)
    · exact absurd h (by decide)
    · exact absurd h (by decide)
    · exact absurd h (by decide)
    · exact h
  · exact fun h => Or.inr (Or.inr (Or.inr (Or.inr ⟨rfl, h⟩)))
theorem uk_vin {op a b : Int32} (h : uk_val op a b) : vp_in op 9 := by
  rcases h with ⟨e, _⟩ | ⟨e, _⟩ | ⟨e, _⟩ | ⟨e, _⟩ | ⟨e, _⟩
  · rw [e]; exact vp_in_nI (n := 0) (by decide) (by decide)
  · rcases e with e | e | e | e | e
    · rw [e]; exact vp_in_nI (n := 1) (by decide) (by decide)
    · rw [e]; exact vp_in_nI (n := 2) (by decide) (by decide)
    · rw [e]; exact vp_in_nI (n := 3) (by decide) (by decide)
    · rw [e]; exact vp_in_nI (n := 4) (by decide) (by decide)
    · rw [e]; exact vp_in_nI (n := 5) (by decide) (by decide)
  · rw [e]; exact vp_in_nI (n := 6) (by decide) (by decide)
  · rw [e]; exact vp_in_nI (n := 7) (by decide) (by decide)
  · rw [e]; exact vp_in_nI (n := 8) (by decide) (by decide)
theorem uk_adP {C cd ln os oa ob : Nat → Int32} {p n K : Nat} {op a b a' : Int32} (eK : K = 24 * p + n) (f0 : C (3 * K) = op) (f1 : C (3 * K + 1) = a) (f2 : C (3 * K + 2) = b) (fo : ∀ j, j ≠ 3 * K → j ≠ 3 * K + 1 → j ≠ 3 * K + 2 → C j = cd j) (h : uk_Pr cd ln os oa ob) (hn : n < 24) (hl : ln p = nI n) (hv : uk_val op a b) (ha : op ≠ 6 → op ≠ 8 → a' = a) : uk_Pr C (upd ln p (nI (n + 1))) (upd os K op) (upd oa K a') (upd ob K b) := by
  refine ⟨fun k hk => ?_, fun q hq => ?_⟩
  · by_cases e : k = K
    · rw [e, pk_us, pk_us, pk_us, f0, f1, f2]
      exact ⟨rfl, rfl, ha⟩
    · rw [pk_un e, pk_un e, pk_un e, fo (3 * k) (by omega) (by omega) (by omega), fo (3 * k + 1) (by omega) (by omega) (by omega), fo (3 * k + 2) (by omega) (by omega) (by omega)]
      exact h.1 k hk
  · obtain ⟨m, hm, el, hval⟩ := h.2 q hq
    by_cases e : q = p
    · have em : m = n := uk_nIn (by omega) (by omega) (el.symm.trans (by rw [e]; exact hl))
      refine ⟨n + 1, by omega, by rw [e]; exact pk_us, fun j hj => ?_⟩
      by_cases ej : j = n
      · rw [e, ej, ← eK, f0, f1, f2]
        exact hv
      · rw [fo (3 * (24 * q + j)) (by omega) (by omega) (by omega), fo (3 * (24 * q + j) + 1) (by omega) (by omega) (by omega), fo (3 * (24 * q + j) + 2) (by omega) (by omega) (by omega)]
        exact hval j (by omega)
    · refine ⟨m, hm, (pk_un e).trans el, fun j hj => ?_⟩
      rw [fo (3 * (24 * q + j)) (by omega) (by omega) (by omega), fo (3 * (24 * q + j) + 1) (by omega) (by omega) (by omega), fo (3 * (24 * q + j) + 2) (by omega) (by omega) (by omega)]
      exact hval j hj
section
variable {x_changes x_saidCount x_time x_lastSlot x_sliceSteps x_latestPid x_greatestPid : Int32} {x_code x_codeLengths x_pids x_parents x_programs x_places x_states x_statuses x_stepCounts x_copyCounts x_wakeTimes x_registers x_pageCounts x_pageFrames x_held x_frameUsers x_frameWords x_openHolders x_openKinds x_openTargets x_openPlaces x_openModes x_pipeFirsts x_pipeCounts x_pipeWords x_nameFiles x_fileSizes x_fileWords x_safeNames x_safeSizes x_safeWords x_saidInts : Nat → Int32} {y_time y_last y_lastPid y_did y_killed : Int32} {y_ops y_as y_bs y_pages y_wake y_zombie y_blocked y_memory y_frame y_kind y_mode y_pipe y_size y_safeSize y_said : Nat → Int32}
theorem xk_isInstruction {post : Int32 → Prop} {op a b : Int32} (ht : uk_val op a b → post 1) (hf : ¬ uk_val op a b → post 0) : wpX_isInstruction post (x_changes, x_saidCount, x_time, x_lastSlot, x_sliceSteps, x_latestPid, x_greatestPid, x_code, x_codeLengths, x_pids, x_parents, x_programs, x_places, x_states, x_statuses, x_stepCounts, x_copyCounts, x_wakeTimes, x_registers, x_pageCounts, x_pageFrames, x_held, x_frameUsers, x_frameWords, x_openHolders, x_openKinds, x_openTargets, x_openPlaces, x_openModes, x_pipeFirsts, x_pipeCounts, x_pipeWords, x_nameFiles, x_fileSizes, x_fileWords, x_safeNames, x_safeSizes, x_safeWords, x_saidInts) op a b := by
  have e24 := uk_inE (x := b) (n := 24) (N := 24) rfl (by decide)
  have e19 := uk_inE (x := b) (n := 19) (N := 19) rfl (by decide)
  have k58 : (uk_val op a b ↔ vp_in a 4 ∧ vp_in b 4) → wX_isInstruction_58 post a b x_changes x_saidCount x_time x_lastSlot x_sliceSteps x_latestPid x_greatestPid x_code x_codeLengths x_pids x_parents x_programs x_places x_states x_statuses x_stepCounts x_copyCounts x_wakeTimes x_registers x_pageCounts x_pageFrames x_held x_frameUsers x_frameWords x_openHolders x_openKinds x_openTargets x_openPlaces x_openModes x_pipeFirsts x_pipeCounts x_pipeWords x_nameFiles x_fileSizes x_fileWords x_safeNames x_safeSizes x_safeWords x_saidInts := fun hh => by
    unfold wX_isInstruction_58
    exact xk_isRegister (fun va => br_f (by decide) (xk_isRegister (fun vb => br_f (by decide) (ht (hh.mpr ⟨va, vb⟩))) (fun vb => br_t rfl (hf (fun z => vb (hh.mp z).2))))) (fun va => br_t rfl (hf (fun z => va (hh.mp z).1)))
  unfold wpX_isInstruction
  by_cases hv : vp_in op 9
  · obtain ⟨i, hi, rfl⟩ := vp_in_of hv (by decide)
    refine br_f (nI_pos (by omega)) (br_f (fun z => absurd ((nI_ltI (show 8 < 2 ^ 31 by decide) (show i < 2 ^ 31 by omega)).mp z) (by omega)) ?_)
    by_cases c0 : i = 0
    · subst c0
      exact br_t rfl (xk_isRegister (fun va => ⟨rfl, ht (uk_v0.mpr va)⟩) (fun va => ⟨rfl, hf (fun z => va (uk_v0.mp z))⟩))
    by_cases c1 : i = 1
    · subst c1
      exact br_f (by decide) (br_t rfl (k58 uk_v1))
    by_cases c2 : i = 2
    · subst c2
      exact br_f (by decide) (br_f (by decide) (br_t rfl (k58 uk_v2)))
    by_cases c3 : i = 3
    · subst c3
      exact br_f (by decide) (br_f (by decide) (br_f (by decide) (br_t rfl (k58 uk_v3))))
    by_cases c4 : i = 4
    · subst c4
      exact br_f (by decide) (br_f (by decide) (br_f (by decide) (br_f (by decide) (br_t rfl (k58 uk_v4)))))
    by_cases c5 : i = 5
    · subst c5
      exact br_f (by decide) (br_f (by decide) (br_f (by decide) (br_f (by decide) (br_f (by decide) (br_t rfl (k58 uk_v5))))))
    by_cases c6 : i = 6
    · subst c6
      exact br_f (by decide) (br_f (by decide) (br_f (by decide) (br_f (by decide) (br_f (by decide) (br_f (by decide) (br_t rfl ⟨fun w => hf (fun z => (e24.mp (uk_v6.mp z)).1 w), fun w => ⟨fun w2 => hf (fun z => (e24.mp (uk_v6.mp z)).2 w2), fun w2 => ht (uk_v6.mpr (e24.mpr ⟨w, w2⟩))⟩⟩))))))
    by_cases c7 : i = 7
    · subst c7
      exact br_f (by decide) (br_f (by decide) (br_f (by decide) (br_f (by decide) (br_f (by decide) (br_f (by decide) (br_f (by decide) (br_t rfl (xk_isRegister (fun va => br_f (by decide) ⟨fun w => hf (fun z => (e24.mp (uk_v7.mp z).2).1 w), fun w => ⟨fun w2 => hf (fun z => (e24.mp (uk_v7.mp z).2).2 w2), fun w2 => ht (uk_v7.mpr ⟨va, e24.mpr ⟨w, w2⟩⟩)⟩⟩) (fun va => br_t rfl (hf (fun z => va (uk_v7.mp z).1)))))))))))
    by_cases c8 : i = 8
    · subst c8
      exact br_f (by decide) (br_f (by decide) (br_f (by decide) (br_f (by decide) (br_f (by decide) (br_f (by decide) (br_f (by decide) (br_f (by decide) (br_t rfl ⟨fun w => hf (fun z => (e19.mp (uk_v8.mp z)).1 w), fun w => ⟨fun w2 => hf (fun z => (e19.mp (uk_v8.mp z)).2 w2), fun w2 => ht (uk_v8.mpr (e19.mpr ⟨w, w2⟩))⟩⟩))))))))
    omega
  · have nv : ¬ uk_val op a b := fun z => hv (uk_vin z)
    refine ⟨fun _ => hf nv, fun w => ⟨fun _ => hf nv, fun w2 => ?_⟩⟩
    obtain ⟨j, hj, rfl⟩ := nI_of w
    by_cases c : 8 < j
    · exact absurd ((nI_ltI (show 8 < 2 ^ 31 by decide) hj).mpr c) w2
    · exact absurd (vp_in_nI (n := j) (by omega) (by decide)) hv
theorem yk_add {post : Int32 → SY → Prop} {p op a b : Int32} (hP : ∀ s, s < 8 → ¬ x_pids s < 0) (h0 : ¬ (vp_in p 6 ∧ uk_val op a b ∧ nI (uk_cn (fun s => x_pids s ≠ 0) 8) ≤ 0) → post (-1) (x_changes, y_time, y_last, y_lastPid, y_did, x_greatestPid, x_latestPid, x_saidCount, y_killed, y_ops, y_as, y_bs, x_codeLengths, x_pids, x_parents, x_programs, x_places, x_statuses, x_stepCounts, x_copyCounts, y_pages, y_wake, y_zombie, y_blocked, x_registers, y_memory, y_frame, x_held, y_kind, x_openTargets, y_mode, x_openPlaces, x_pipeCounts, y_pipe, x_nameFiles, y_size, x_fileWords, x_safeNames, y_safeSize, x_safeWords, y_said)) (h1 : vp_in p 6 → uk_val op a b → nI (uk_cn (fun s => x_pids s ≠ 0) 8) ≤ 0 → ∀ u : Int32, (u = 0 → op = 6 ∨ op = 8) → wY_add_117 post p op a b u x_changes y_time y_last y_lastPid y_did x_greatestPid x_latestPid x_saidCount y_killed y_ops y_as y_bs x_codeLengths x_pids x_parents x_programs x_places x_statuses x_stepCounts x_copyCounts y_pages y_wake y_zombie y_blocked x_registers y_memory y_frame x_held y_kind x_openTargets y_mode x_openPlaces x_pipeCounts y_pipe x_nameFiles y_size x_fileWords x_safeNames y_safeSize x_safeWords y_said) : wpY_add post (x_changes, y_time, y_last, y_lastPid, y_did, x_greatestPid, x_latestPid, x_saidCount, y_killed, y_ops, y_as, y_bs, x_codeLengths, x_pids, x_parents, x_programs, x_places, x_statuses, x_stepCounts, x_copyCounts, y_pages, y_wake, y_zombie, y_blocked, x_registers, y_memory, y_frame, x_held, y_kind, x_openTargets, y_mode, x_openPlaces, x_pipeCounts, y_pipe, x_nameFiles, y_size, x_fileWords, x_safeNames, y_safeSize, x_safeWords, y_said) p op a b := by
  unfold wpY_add
  refine yk_no 5 rfl (by decide) (fun vp => br_t rfl (yk_no 8 rfl (by decide) (fun vo => br_t rfl (yk_processes hP ⟨fun c => ?_, fun c => h0 (fun z => c z.2.2)⟩)) (fun vo => br_f (by decide) (h0 (fun z => vo (uk_vin z.2.1)))))) (fun vp => br_f (by decide) (h0 (fun z => vp z.1)))
  have g0 : ¬ uk_val op a b → post (-1) (x_changes, y_time, y_last, y_lastPid, y_did, x_greatestPid, x_latestPid, x_saidCount, y_killed, y_ops, y_as, y_bs, x_codeLengths, x_pids, x_parents, x_programs, x_places, x_statuses, x_stepCounts, x_copyCounts, y_pages, y_wake, y_zombie, y_blocked, x_registers, y_memory, y_frame, x_held, y_kind, x_openTargets, y_mode, x_openPlaces, x_pipeCounts, y_pipe, x_nameFiles, y_size, x_fileWords, x_safeNames, y_safeSize, x_safeWords, y_said) := fun z => h0 (fun w => z w.2.1)
  have g1 : uk_val op a b → ∀ u : Int32, (u = 0 → op = 6 ∨ op = 8) → wY_add_117 post p op a b u x_changes y_time y_last y_lastPid y_did x_greatestPid x_latestPid x_saidCount y_killed y_ops y_as y_bs x_codeLengths x_pids x_parents x_programs x_places x_statuses x_stepCounts x_copyCounts y_pages y_wake y_zombie y_blocked x_registers y_memory y_frame x_held y_kind x_openTargets y_mode x_openPlaces x_pipeCounts y_pipe x_nameFiles y_size x_fileWords x_safeNames y_safeSize x_safeWords y_said := fun z => h1 vp z c
  obtain ⟨i, hi, rfl⟩ := vp_in_of vo (by decide)
  by_cases c0 : i = 0
  · subst c0
    refine br_t (by decide) ?_
    unfold wY_add_38
    unfold wY_add_43
    refine br_f (by decide) (yk_no 3 rfl (by decide) (fun va => br_t rfl ?_) (fun va => br_f (by decide) (g0 (fun z => va (uk_v0.mp z)))))
    unfold wY_add_58
    refine br_t (by decide) ?_
    unfold wY_add_77
    refine br_f (by decide) (br_f (by decide) ?_)
    unfold wY_add_99
    exact br_f (by decide) (g1 (uk_v0.mpr va) 1 (fun z => absurd z (by decide)))
  by_cases c1 : i = 1
  · subst c1
    refine br_t (by decide) ?_
    unfold wY_add_38
    unfold wY_add_43
    refine br_f (by decide) (yk_no 3 rfl (by decide) (fun va => br_t rfl ?_) (fun va => br_f (by decide) (g0 (fun z => va (uk_v1.mp z).1))))
    unfold wY_add_58
    refine br_f (by decide) (br_f (by decide) (yk_no 3 rfl (by decide) (fun vb => br_t rfl ?_) (fun vb => br_f (by decide) (g0 (fun z => vb (uk_v1.mp z).2)))))
    unfold wY_add_77
    refine br_f (by decide) (br_f (by decide) ?_)
    unfold wY_add_99
    exact br_f (by decide) (g1 (uk_v1.mpr ⟨va, vb⟩) 1 (fun z => absurd z (by decide)))
  by_cases c2 : i = 2
  · subst c2
    refine br_t (by decide) ?_
    unfold wY_add_38
    unfold wY_add_43
    refine br_f (by decide) (yk_no 3 rfl (by decide) (fun va => br_t rfl ?_) (fun va => br_f (by decide) (g0 (fun z => va (uk_v2.mp z).1))))
    unfold wY_add_58
    refine br_f (by decide) (br_f (by decide) (yk_no 3 rfl (by decide) (fun vb => br_t rfl ?_) (fun vb => br_f (by decide) (g0 (fun z => vb (uk_v2.mp z).2)))))
    unfold wY_add_77
    refine br_f (by decide) (br_f (by decide) ?_)
    unfold wY_add_99
    exact br_f (by decide) (g1 (uk_v2.mpr ⟨va, vb⟩) 1 (fun z => absurd z (by decide)))
  by_cases c3 : i = 3
  · subst c3
    refine br_t (by decide) ?_
    unfold wY_add_38
    unfold wY_add_43
    refine br_f (by decide) (yk_no 3 rfl (by decide) (fun va => br_t rfl ?_) (fun va => br_f (by decide) (g0 (fun z => va (uk_v3.mp z).1))))
    unfold wY_add_58
    refine br_f (by decide) (br_f (by decide) (yk_no 3 rfl (by decide) (fun vb => br_t rfl ?_) (fun vb => br_f (by decide) (g0 (fun z => vb (uk_v3.mp z).2)))))
    unfold wY_add_77
    refine br_f (by decide) (br_f (by decide) ?_)
    unfold wY_add_99
    exact br_f (by decide) (g1 (uk_v3.mpr ⟨va, vb⟩) 1 (fun z => absurd z (by decide)))
  by_cases c4 : i = 4
  · subst c4
    refine br_t (by decide) ?_
    unfold wY_add_38
    unfold wY_add_43
    refine br_f (by decide) (yk_no 3 rfl (by decide) (fun va => br_t rfl ?_) (fun va => br_f (by decide) (g0 (fun z => va (uk_v4.mp z).1))))
    unfold wY_add_58
    refine br_f (by decide) (br_f (by decide) (yk_no 3 rfl (by decide) (fun vb => br_t rfl ?_) (fun vb => br_f (by decide) (g0 (fun z => vb (uk_v4.mp z).2)))))
    unfold wY_add_77
    refine br_f (by decide) (br_f (by decide) ?_)
    unfold wY_add_99
    exact br_f (by decide) (g1 (uk_v4.mpr ⟨va, vb⟩) 1 (fun z => absurd z (by decide)))
  by_cases c5 : i = 5
  · subst c5
    refine br_t (by decide) ?_
    unfold wY_add_38
    unfold wY_add_43
    refine br_f (by decide) (yk_no 3 rfl (by decide) (fun va => br_t rfl ?_) (fun va => br_f (by decide) (g0 (fun z => va (uk_v5.mp z).1))))
    unfold wY_add_58
    refine br_f (by decide) (br_f (by decide) (yk_no 3 rfl (by decide) (fun vb => br_t rfl ?_) (fun vb => br_f (by decide) (g0 (fun z => vb (uk_v5.mp z).2)))))
    unfold wY_add_77
    refine br_f (by decide) (br_f (by decide) ?_)
    unfold wY_add_99
    exact br_f (by decide) (g1 (uk_v5.mpr ⟨va, vb⟩) 1 (fun z => absurd z (by decide)))
  by_cases c6 : i = 6
  · subst c6
    refine br_f (by decide) (br_f (by decide) ?_)
    unfold wY_add_43
    refine br_t rfl ?_
    unfold wY_add_58
    refine br_f (by decide) (br_t (by decide) ?_)
    unfold wY_add_77
    refine br_t rfl ?_
    unfold wY_add_89
    refine yk_no 23 rfl (by decide) (fun vb => br_t rfl ?_) (fun vb => br_f (by decide) (g0 (fun z => vb (uk_v6.mp z))))
    unfold wY_add_99
    exact br_f (by decide) (g1 (uk_v6.mpr vb) 0 (fun _ => Or.inl rfl))
  by_cases c7 : i = 7
  · subst c7
    refine br_f (by decide) (br_t rfl ?_)
    unfold wY_add_38
    unfold wY_add_43
    refine br_f (by decide) (yk_no 3 rfl (by decide) (fun va => br_t rfl ?_) (fun va => br_f (by decide) (g0 (fun z => va (uk_v7.mp z).1))))
    unfold wY_add_58
    refine br_f (by decide) (br_t (by decide) ?_)
    unfold wY_add_77
    refine br_f (by decide) (br_t rfl ?_)
    unfold wY_add_89
    refine yk_no 23 rfl (by decide) (fun vb => br_t rfl ?_) (fun vb => br_f (by decide) (g0 (fun z => vb (uk_v7.mp z).2)))
    unfold wY_add_99
    exact br_f (by decide) (g1 (uk_v7.mpr ⟨va, vb⟩) 1 (fun z => absurd z (by decide)))
  by_cases c8 : i = 8
  · subst c8
    refine br_f (by decide) (br_f (by decide) ?_)
    unfold wY_add_43
    refine br_t rfl ?_
    unfold wY_add_58
    refine br_f (by decide) (br_t (by decide) ?_)
    unfold wY_add_77
    refine br_f (by decide) (br_f (by decide) ?_)
    unfold wY_add_99
    exact br_t rfl (yk_no 18 rfl (by decide) (fun vb => br_t rfl (g1 (uk_v8.mpr vb) 0 (fun _ => Or.inr rfl))) (fun vb => br_f (by decide) (g0 (fun z => vb (uk_v8.mp z)))))
  omega
theorem yk_add2 {post : Int32 → SY → Prop} {p n : Nat} {op a b u : Int32} (hp : p < 6) (hn : x_codeLengths p = nI n) (hn24 : n ≤ 24) (h0 : n = 24 → post (-2) (x_changes, y_time, y_last, y_lastPid, y_did, x_greatestPid, x_latestPid, x_saidCount, y_killed, y_ops, y_as, y_bs, x_codeLengths, x_pids, x_parents, x_programs, x_places, x_statuses, x_stepCounts, x_copyCounts, y_pages, y_wake, y_zombie, y_blocked, x_registers, y_memory, y_frame, x_held, y_kind, x_openTargets, y_mode, x_openPlaces, x_pipeCounts, y_pipe, x_nameFiles, y_size, x_fileWords, x_safeNames, y_safeSize, x_safeWords, y_said)) (h1 : n < 24 → ∀ a', (u ≠ 0 → a' = a) → post (nI (n + 1)) (x_changes, y_time, y_last, y_lastPid, y_did, x_greatestPid, x_latestPid, x_saidCount, y_killed, upd y_ops (24 * p + n) op, upd y_as (24 * p + n) a', upd y_bs (24 * p + n) b, upd x_codeLengths p (nI (n + 1)), x_pids, x_parents, x_programs, x_places, x_statuses, x_stepCounts, x_copyCounts, y_pages, y_wake, y_zombie, y_blocked, x_registers, y_memory, y_frame, x_held, y_kind, x_openTargets, y_mode, x_openPlaces, x_pipeCounts, y_pipe, x_nameFiles, y_size, x_fileWords, x_safeNames, y_safeSize, x_safeWords, y_said)) : wY_add_117 post (nI p) op a b u x_changes y_time y_last y_lastPid y_did x_greatestPid x_latestPid x_saidCount y_killed y_ops y_as y_bs x_codeLengths x_pids x_parents x_programs x_places x_statuses x_stepCounts x_copyCounts y_pages y_wake y_zombie y_blocked x_registers y_memory y_frame x_held y_kind x_openTargets y_mode x_openPlaces x_pipeCounts y_pipe x_nameFiles y_size x_fileWords x_safeNames y_safeSize x_safeWords y_said := by
  obtain ⟨_, vp, ep⟩ := uk_lp 6 hp (by decide)
  unfold wY_add_117
  rw [ep, hn]
  refine ⟨vp, fun e => h0 (uk_nIn (b := 24) (by omega) (by decide) e), fun e => ⟨vp, vp, ?_⟩⟩
  have hlt : n < 24 := by
    have : n ≠ 24 := fun z => e (by rw [z]; rfl)
    omega
  have v144 : vp_in (nI (24 * p + n)) 144 := vp_in_nI (by omega) (by decide)
  have ec : (nI (24 * p + n)).toNatClampNeg = 24 * p + n := nI_clamp (by omega)
  have k173 : ∀ z, post (nI (n + 1)) (x_changes, y_time, y_last, y_lastPid, y_did, x_greatestPid, x_latestPid, x_saidCount, y_killed, upd y_ops (24 * p + n) op, upd y_as (24 * p + n) z, upd y_bs (24 * p + n) b, upd x_codeLengths p (nI (n + 1)), x_pids, x_parents, x_programs, x_places, x_statuses, x_stepCounts, x_copyCounts, y_pages, y_wake, y_zombie, y_blocked, x_registers, y_memory, y_frame, x_held, y_kind, x_openTargets, y_mode, x_openPlaces, x_pipeCounts, y_pipe, x_nameFiles, y_size, x_fileWords, x_safeNames, y_safeSize, x_safeWords, y_said) → wY_add_173 post (nI p) b (nI (24 * p + n)) z (nI (24 * p + n)) x_changes y_time y_last y_lastPid y_did x_greatestPid x_latestPid x_saidCount y_killed (upd y_ops (24 * p + n) op) y_as y_bs (upd x_codeLengths p (nI (n + 1))) x_pids x_parents x_programs x_places x_statuses x_stepCounts x_copyCounts y_pages y_wake y_zombie y_blocked x_registers y_memory y_frame x_held y_kind x_openTargets y_mode x_openPlaces x_pipeCounts y_pipe x_nameFiles y_size x_fileWords x_safeNames y_safeSize x_safeWords y_said := fun z h => by
    unfold wY_add_173
    rw [ec, ep]
    refine ⟨v144, nm_e ⟨v144, nm_e ⟨vp, ?_⟩⟩⟩
    rw [pk_us]
    exact h
  rw [nI_1 n, uk_24m p, nI_add (24 * p) n]
  refine nm_e (nm_e ⟨v144, ?_⟩)
  rw [ec]
  exact nm_e ⟨fun e0 => k173 0 (h1 hlt 0 (fun z => absurd e0 z)), fun _ => k173 a (h1 hlt a (fun _ => rfl))⟩
end
theorem i_vc_add {k : Nat} {u : SX} {v : SY} (I : i_Rel k u v) (hk : k + 5 ≤ 2560) (v1 : Int32) (v2 : Int32) (v3 : Int32) (v4 : Int32) : wpX_add (fun r u' => wpY_add (fun r' v' => r' = r ∧ i_Rel (k + 5) u' v') v v1 v2 v3 v4) u v1 v2 v3 v4 := by
  refine i_elim (C := fun u v => i_Rel (k + 5) u v → wpX_add (fun r u' => wpY_add (fun r' v' => r' = r ∧ i_Rel (k + 5) u' v') v v1 v2 v3 v4) u v1 v2 v3 v4) I ?_ (i_up I)
  intro t b x_changes x_saidCount x_time x_lastSlot x_sliceSteps x_latestPid x_greatestPid x_code x_codeLengths x_pids x_parents x_programs x_places x_states x_statuses x_stepCounts x_copyCounts x_wakeTimes x_registers x_pageCounts x_pageFrames x_held x_frameUsers x_frameWords x_openHolders x_openKinds x_openTargets x_openPlaces x_openModes x_pipeFirsts x_pipeCounts x_pipeWords x_nameFiles x_fileSizes x_fileWords x_safeNames x_safeSizes x_safeWords x_saidInts y_time y_last y_lastPid y_did y_killed y_ops y_as y_bs y_pages y_wake y_zombie y_blocked y_memory y_frame y_kind y_mode y_pipe y_size y_safeSize y_said ht hbt hA J
  have eT := uk_aeT hA
  have hPr := uk_aPr hA
  have hPs := uk_aPs hA
  have hMe := uk_aMe hA
  have hFu := uk_aFu hA
  have hHd := uk_aHd hA
  have hHo := uk_aHo hA
  have hOk := uk_aOk hA
  have hFi := uk_aFi hA
  have hP : ∀ s, s < 8 → ¬ x_pids s < 0 := fun s hs => (hPs s hs).1
  have hN : ∀ s, s < 8 → x_pids s ≠ 0 → ∃ n, n ≤ 8 ∧ y_pages s = nI n := fun s hs hp => by
    obtain ⟨n, h1, _, h3, _⟩ := hMe s hs hp
    exact ⟨n, h1, h3⟩
  unfold wpX_add
  refine xk_isProgram (fun a => br_f (by decide) (xk_isInstruction (fun hv => br_f (by decide) (xk_countProcesses ⟨fun c => ?_, fun c => ?_⟩)) (fun hv => br_t rfl ?_))) (fun a => br_t rfl ?_)
  · obtain ⟨p, hp, rfl⟩ := vp_in_of a (by decide)
    obtain ⟨_, vp, ep⟩ := uk_lp 6 hp (by decide)
    obtain ⟨n, hn, en, hval⟩ := hPr.2 p hp
    have h0 := uk_noneI.mp c
    rw [ep, en]
    refine ⟨vp, nm_e ?_⟩
    by_cases h24 : n < 24
    · have A1 : ∀ a', (v2 ≠ 6 → v2 ≠ 8 → a' = v3) → uk_All t b x_changes x_saidCount x_time x_lastSlot x_sliceSteps x_latestPid x_greatestPid (upd (upd (upd x_code (3 * (24 * p + n)) v2) (3 * (24 * p + n) + 1) v3) (3 * (24 * p + n) + 2) v4) (upd x_codeLengths p (nI (n + 1))) x_pids x_parents x_programs x_places x_states x_statuses x_stepCounts x_copyCounts x_wakeTimes x_registers x_pageCounts x_pageFrames x_held x_frameUsers x_frameWords x_openHolders x_openKinds x_openTargets x_openPlaces x_openModes x_pipeFirsts x_pipeCounts x_pipeWords x_nameFiles x_fileSizes x_fileWords x_safeNames x_safeSizes x_safeWords x_saidInts y_time y_last y_lastPid y_did y_killed (upd y_ops (24 * p + n) v2) (upd y_as (24 * p + n) a') (upd y_bs (24 * p + n) v4) y_pages y_wake y_zombie y_blocked y_memory y_frame y_kind y_mode y_pipe y_size y_safeSize y_said := fun a' ha => ⟨uk_aG hA, uk_aN hA, uk_aC hA, uk_aeT hA, uk_adP rfl (by rw [pk_un (show 3 * (24 * p + n) ≠ 3 * (24 * p + n) + 2 by omega), pk_un (show 3 * (24 * p + n) ≠ 3 * (24 * p + n) + 1 by omega), pk_us]) (by rw [pk_un (show 3 * (24 * p + n) + 1 ≠ 3 * (24 * p + n) + 2 by omega), pk_us]) pk_us (fun j w0 w1 w2 => by rw [pk_un w2, pk_un w1, pk_un w0]) hPr h24 en hv ha, uk_aPs hA, uk_aMe hA, uk_aFu hA, uk_aHd hA, uk_aHo hA, uk_aOk hA, uk_aPi hA, uk_aFi hA, uk_aSa hA, uk_aSc hA, fun s hs w => absurd (h0 s hs) w⟩
      refine br_t ((nI_ltI (show n < 2 ^ 31 by omega) (show 24 < 2 ^ 31 by decide)).mpr h24) ?_
      unfold wpX_codeIndex
      dsimp only
      rw [uk_m24 p, nI_add (24 * p) n, uk_m3 (24 * p + n), uk_a1 (3 * (24 * p + n)), uk_a2 (3 * (24 * p + n)), nI_1 n, nI_clamp (show 3 * (24 * p + n) < 2 ^ 31 by omega), nI_clamp (show 3 * (24 * p + n) + 1 < 2 ^ 31 by omega), nI_clamp (show 3 * (24 * p + n) + 2 < 2 ^ 31 by omega)]
      exact ⟨vp_in_nI (by omega) (by decide), nm_e ⟨vp_in_nI (by omega) (by decide), nm_e ⟨vp_in_nI (by omega) (by decide), nm_e ⟨vp, nm_e (yk_add hP (fun z => False.elim (z ⟨a, hv, c⟩)) (fun _ _ _ u hu => yk_add2 hp en hn (fun z => absurd z (by omega)) (fun _ a' ha => ⟨rfl, i_mk ht hbt (A1 a' (fun w6 w8 => ha (fun z => by
        rcases hu z with y | y
        · exact w6 y
        · exact w8 y)))⟩)))⟩⟩⟩⟩
    · exact br_f (fun z => h24 ((nI_ltI (show n < 2 ^ 31 by omega) (show 24 < 2 ^ 31 by decide)).mp z)) (yk_add hP (fun z => False.elim (z ⟨a, hv, c⟩)) (fun _ _ _ u _ => yk_add2 hp en hn (fun _ => ⟨rfl, J⟩) (fun z => absurd z h24)))
  · exact yk_add hP (fun _ => ⟨rfl, J⟩) (fun _ _ z => absurd z c)
  · exact yk_add hP (fun _ => ⟨rfl, J⟩) (fun _ z => absurd z hv)
  · exact yk_add hP (fun _ => ⟨rfl, J⟩) (fun z => absurd z a)
end
section
/-! the last part -/
theorem uk_last : True := trivial
end
