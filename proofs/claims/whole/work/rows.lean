section
theorem pk_us {f : Nat → Int32} {k : Nat} {x : Int32} : upd f k x k = x := if_pos rfl
theorem pk_un {f : Nat → Int32} {k j : Nat} {x : Int32} (h : j ≠ k) : upd f k x j = f j := if_neg h
theorem pk_sub {a b : Nat} (h : b ≤ a) : nI a - nI b = nI (a - b) := by
  obtain ⟨c, rfl⟩ : ∃ c, a = c + b := ⟨a - b, by omega⟩
  rw [← nI_add, Int32.add_sub_cancel, Nat.add_sub_cancel]
theorem pk_m1 (n : Nat) : nI (n + 1) + (-1) = nI n := by
  rw [← nI_1, Int32.add_assoc, show (1 : Int32) + (-1) = 0 from rfl, Int32.add_zero]
theorem pk_mul (a b : Nat) : nI a * nI b = nI (a * b) := (Int32.ofNat_mul a b).symm
theorem pk_div {a d : Nat} (ha : a < 2 ^ 31) (h0 : 0 < d) (hd : d < 2 ^ 31) : nI a / nI d = nI (a / d) := by
  apply Int32.toInt_inj.mp
  rw [lg_idiv_nonneg (by rw [nI_toInt ha]; omega) (by rw [nI_toInt hd]; omega), nI_toInt ha, nI_toInt hd, nI_toInt (Nat.lt_of_le_of_lt (Nat.div_le_self a d) ha)]
  first | rfl | exact (Int.natCast_ediv _ _).symm
theorem pk_rem {a d : Nat} (ha : a < 2 ^ 31) (h0 : 0 < d) (hd : d < 2 ^ 31) : nI a - nI a / nI d * nI d = nI (a % d) := by
  rw [pk_div ha h0 hd, pk_mul, pk_sub (Nat.div_mul_le_self a d)]
  exact congrArg nI (by have := Nat.div_add_mod' a d; omega)
theorem pk_ix (x : Int32) {n : Nat} (hn : n < 2 ^ 31) : x < 0 ∨ nI n ≤ x ∨ ∃ j : Nat, j < n ∧ x = nI j := by
  by_cases h : x < 0
  · exact Or.inl h
  · obtain ⟨j, hj, rfl⟩ := nI_of h
    by_cases h2 : j < n
    · exact Or.inr (Or.inr ⟨j, h2, rfl⟩)
    · exact Or.inr (Or.inl (nI_le (by omega) hj))
theorem pk_le {x y : Int32} {A B : Prop} (a b : Nat) (f : a ≤ b → A) (g : b < a → B) (hx : x = nI a := by rfl) (hy : y = nI b := by rfl) (ha : a < 2 ^ 31 := by omega) (hb : b < 2 ^ 31 := by omega) : (x ≤ y → A) ∧ (¬ x ≤ y → B) := by
  subst hx hy
  rw [nI_leI ha hb]
  exact ⟨f, fun z => g (by omega)⟩
theorem pk_lt {x y : Int32} {A B : Prop} (a b : Nat) (f : a < b → A) (g : b ≤ a → B) (hx : x = nI a := by rfl) (hy : y = nI b := by rfl) (ha : a < 2 ^ 31 := by omega) (hb : b < 2 ^ 31 := by omega) : (x < y → A) ∧ (¬ x < y → B) := by
  subst hx hy
  rw [nI_ltI ha hb]
  exact ⟨f, fun z => g (by omega)⟩
theorem pk_eq {x y : Int32} {A B : Prop} (a b : Nat) (f : a = b → A) (g : a ≠ b → B) (hx : x = nI a := by rfl) (hy : y = nI b := by rfl) (ha : a < 2 ^ 31 := by omega) (hb : b < 2 ^ 31 := by omega) : (x = y → A) ∧ (¬ x = y → B) := by
  subst hx hy
  rw [nI_eq ha hb]
  exact ⟨f, g⟩
theorem pk_in {x : Int32} (n N : Nat) (h : n < N) (hx : x = nI n := by rfl) (hN : N < 2 ^ 31 := by omega) : vp_in x N := by
  subst hx
  exact vp_in_nI h hN
theorem pk_cl {x : Int32} (n : Nat) (hx : x = nI n := by rfl) (h : n < 2 ^ 31 := by omega) : x.toNatClampNeg = n := by
  subst hx
  exact nI_clamp h
theorem pk_tn {n : Nat} (h : n < 2 ^ 32) : (nI n).toBitVec.toNat = n := Nat.mod_eq_of_lt h
theorem pk_and (x : Int32) {m : Int32} (k : Nat) (hm : m.toBitVec.toNat = 2 ^ k - 1) : x &&& m = nI (x.toBitVec.toNat % 2 ^ k) := by
  apply Int32.toBitVec_inj.mp
  apply BitVec.eq_of_toNat_eq
  rw [Int32.toBitVec_and, BitVec.toNat_and, hm, Nat.and_two_pow_sub_one_eq_mod]
  show _ = (BitVec.ofNat 32 _).toNat
  rw [BitVec.toNat_ofNat]
  exact (Nat.mod_eq_of_lt (Nat.lt_of_le_of_lt (Nat.mod_le _ _) x.toBitVec.isLt)).symm
theorem pk_andN {n : Nat} (h : n < 2 ^ 32) {m : Int32} (k : Nat) (hm : m.toBitVec.toNat = 2 ^ k - 1) : nI n &&& m = nI (n % 2 ^ k) := by
  rw [pk_and _ k hm, pk_tn h]
theorem sb_m1 {p : Nat} (h : 0 < p) : nI p + (-1) = nI (p - 1) := by
  obtain ⟨q, rfl⟩ : ∃ q, p = q + 1 := ⟨p - 1, by omega⟩
  exact pk_m1 q
noncomputable def uk_b (p : Prop) : Nat := @ite Nat p (Classical.propDecidable p) 1 0
theorem uk_b1 {p : Prop} (h : p) : uk_b p = 1 := if_pos h
theorem uk_b0 {p : Prop} (h : ¬ p) : uk_b p = 0 := if_neg h
theorem uk_bi {p q : Prop} (h : p ↔ q) : uk_b p = uk_b q := by rw [propext h]
theorem uk_ble (p : Prop) : uk_b p ≤ 1 := by
  cases Classical.em p with
  | inl h => rw [uk_b1 h]; exact Nat.le_refl 1
  | inr h => rw [uk_b0 h]; exact Nat.zero_le 1
noncomputable def uk_cn (P : Nat → Prop) : Nat → Nat
  | 0 => 0
  | n + 1 => uk_cn P n + uk_b (P n)
theorem uk_cns (P : Nat → Prop) (n : Nat) : uk_cn P (n + 1) = uk_cn P n + uk_b (P n) := rfl
theorem uk_cnt {P : Nat → Prop} {n : Nat} (h : P n) : uk_cn P (n + 1) = uk_cn P n + 1 := by rw [uk_cns, uk_b1 h]
theorem uk_cnf {P : Nat → Prop} {n : Nat} (h : ¬ P n) : uk_cn P (n + 1) = uk_cn P n := by rw [uk_cns, uk_b0 h]; rfl
theorem uk_cnle (P : Nat → Prop) : ∀ n, uk_cn P n ≤ n
  | 0 => Nat.le_refl 0
  | n + 1 => by
    have h := uk_cnle P n
    have h2 := uk_ble (P n)
    rw [uk_cns]; omega
theorem uk_cnmono (P : Nat → Prop) {m : Nat} : ∀ n, m ≤ n → uk_cn P m ≤ uk_cn P n
  | 0, h => by
    have e : m = 0 := by omega
    rw [e]; exact Nat.le_refl _
  | n + 1, h => by
    by_cases e : m = n + 1
    · rw [e]; exact Nat.le_refl _
    · have := uk_cnmono P (m := m) n (by omega)
      rw [uk_cns]; omega
theorem uk_cnc {P Q : Nat → Prop} : ∀ n, (∀ i, i < n → (P i ↔ Q i)) → uk_cn P n = uk_cn Q n
  | 0, _ => rfl
  | n + 1, h => by rw [uk_cns, uk_cns, uk_cnc n (fun i hi => h i (by omega)), uk_bi (h n (by omega))]
theorem uk_cn0 {P : Nat → Prop} : ∀ n, (∀ i, i < n → ¬ P i) → uk_cn P n = 0
  | 0, _ => rfl
  | n + 1, h => by rw [uk_cnf (h n (by omega)), uk_cn0 n (fun i hi => h i (by omega))]
theorem uk_cnp {P : Nat → Prop} {i : Nat} (h : P i) : ∀ n, i < n → 0 < uk_cn P n
  | 0, hi => by omega
  | n + 1, hi => by
    by_cases e : i = n
    · subst e; rw [uk_cnt h]; omega
    · have := uk_cnp h n (by omega)
      rw [uk_cns]; omega
theorem uk_cn0' {P : Nat → Prop} {n : Nat} (h : uk_cn P n = 0) : ∀ i, i < n → ¬ P i := fun i hi hp => by
  have := uk_cnp hp n hi
  omega
theorem uk_cnset {P Q : Nat → Prop} {k : Nat} (hP : ¬ P k) (hQ : Q k) : ∀ n, k < n → (∀ i, i < n → i ≠ k → (P i ↔ Q i)) → uk_cn Q n = uk_cn P n + 1
  | 0, hk, _ => by omega
  | n + 1, hk, h => by
    by_cases e : k = n
    · subst e
      rw [uk_cnt hQ, uk_cnf hP, uk_cnc k (fun i hi => h i (by omega) (by omega))]
    · rw [uk_cns, uk_cns, uk_cnset hP hQ n (by omega) (fun i hi hk => h i (by omega) hk), uk_bi (h n (by omega) (fun z => e z.symm))]
      omega
theorem uk_cnadd (P : Nat → Prop) (a : Nat) : ∀ b, uk_cn P (a + b) = uk_cn P a + uk_cn (fun i => P (a + i)) b
  | 0 => rfl
  | b + 1 => by
    show uk_cn P (a + b + 1) = _
    rw [uk_cns, uk_cnadd P a b, uk_cns]; omega
def uk_sm (g : Nat → Nat) : Nat → Nat
  | 0 => 0
  | n + 1 => uk_sm g n + g n
theorem uk_sms (g : Nat → Nat) (n : Nat) : uk_sm g (n + 1) = uk_sm g n + g n := rfl
theorem uk_smc {g h : Nat → Nat} : ∀ n, (∀ i, i < n → g i = h i) → uk_sm g n = uk_sm h n
  | 0, _ => rfl
  | n + 1, e => by rw [uk_sms, uk_sms, uk_smc n (fun i hi => e i (by omega)), e n (by omega)]
theorem uk_smset {g h : Nat → Nat} {k : Nat} : ∀ n, k < n → (∀ i, i < n → i ≠ k → g i = h i) → uk_sm h n + g k = uk_sm g n + h k
  | 0, hk, _ => by omega
  | n + 1, hk, e => by
    by_cases z : k = n
    · subst z
      rw [uk_sms, uk_sms, uk_smc k (fun i hi => e i (by omega) (by omega))]; omega
    · have h1 := uk_smset (g := g) (h := h) n (by omega : k < n) (fun i hi hk => e i (by omega) hk)
      rw [uk_sms, uk_sms, e n (by omega) (fun y => z y.symm)]; omega
theorem uk_smle {g : Nat → Nat} {i : Nat} : ∀ n, i < n → g i ≤ uk_sm g n
  | 0, hi => by omega
  | n + 1, hi => by
    by_cases e : i = n
    · subst e; rw [uk_sms]; omega
    · have := uk_smle (g := g) n (by omega : i < n)
      rw [uk_sms]; omega
theorem uk_smb {g : Nat → Nat} {m : Nat} : ∀ n, (∀ i, i < n → g i ≤ m) → uk_sm g n ≤ n * m
  | 0, _ => Nat.zero_le _
  | n + 1, e => by
    have h1 := uk_smb (g := g) n (fun i hi => e i (by omega))
    have h2 := e n (by omega)
    rw [uk_sms, Nat.succ_mul]; omega
theorem uk_sm0 {g : Nat → Nat} : ∀ n, (∀ i, i < n → g i = 0) → uk_sm g n = 0
  | 0, _ => rfl
  | n + 1, e => by rw [uk_sms, uk_sm0 n (fun i hi => e i (by omega)), e n (by omega)]
theorem uk_cnmul (P : Nat → Prop) (m : Nat) : ∀ n, uk_cn P (m * n) = uk_sm (fun s => uk_cn (fun d => P (m * s + d)) m) n
  | 0 => rfl
  | n + 1 => by
    rw [uk_sms, ← uk_cnmul P m n, Nat.mul_succ, uk_cnadd]
noncomputable def uk_fg (P : Nat → Prop) : Nat → Nat → Int32
  | 0, _ => -1
  | d + 1, j => @ite Int32 (P j) (Classical.propDecidable (P j)) (nI j) (uk_fg P d (j + 1))
theorem uk_fgt {P : Nat → Prop} {d j : Nat} (h : P j) : uk_fg P (d + 1) j = nI j := if_pos h
theorem uk_fgf {P : Nat → Prop} {d j : Nat} (h : ¬ P j) : uk_fg P (d + 1) j = uk_fg P d (j + 1) := if_neg h
theorem uk_fgc {P Q : Nat → Prop} : ∀ d j, (∀ i, j ≤ i → i < j + d → (P i ↔ Q i)) → uk_fg P d j = uk_fg Q d j
  | 0, _, _ => rfl
  | d + 1, j, h => by
    have ih := uk_fgc (P := P) (Q := Q) d (j + 1) (fun i h1 h2 => h i (by omega) (by omega))
    cases Classical.em (P j) with
    | inl hp => rw [uk_fgt hp, uk_fgt ((h j (by omega) (by omega)).mp hp)]
    | inr hp => rw [uk_fgf hp, uk_fgf (fun q => hp ((h j (by omega) (by omega)).mpr q)), ih]
theorem uk_fgs (P : Nat → Prop) : ∀ d j, (uk_fg P d j = -1 ∧ ∀ i, j ≤ i → i < j + d → ¬ P i) ∨ (∃ i, j ≤ i ∧ i < j + d ∧ uk_fg P d j = nI i ∧ P i ∧ ∀ k, j ≤ k → k < i → ¬ P k)
  | 0, j => Or.inl ⟨rfl, fun i h1 h2 => by omega⟩
  | d + 1, j => by
    cases Classical.em (P j) with
    | inl hp => exact Or.inr ⟨j, by omega, by omega, uk_fgt hp, hp, fun k h1 h2 => by omega⟩
    | inr hp =>
      rw [uk_fgf hp]
      cases uk_fgs P d (j + 1) with
      | inl h =>
        refine Or.inl ⟨h.1, fun i h1 h2 => ?_⟩
        by_cases e : i = j
        · subst e; exact hp
        · exact h.2 i (by omega) (by omega)
      | inr h =>
        obtain ⟨i, h1, h2, h3, h4, h5⟩ := h
        refine Or.inr ⟨i, by omega, by omega, h3, h4, fun k hk1 hk2 => ?_⟩
        by_cases e : k = j
        · subst e; exact hp
        · exact h5 k (by omega) hk2
noncomputable def uk_ff (P : Nat → Prop) (n : Nat) : Int32 := uk_fg P n 0
theorem uk_ffc {P Q : Nat → Prop} (n : Nat) (h : ∀ i, i < n → (P i ↔ Q i)) : uk_ff P n = uk_ff Q n := uk_fgc n 0 (fun i _ h2 => h i (by omega))
theorem uk_ffs (P : Nat → Prop) (n : Nat) : (uk_ff P n = -1 ∧ ∀ i, i < n → ¬ P i) ∨ (∃ i, i < n ∧ uk_ff P n = nI i ∧ P i ∧ ∀ k, k < i → ¬ P k) := by
  cases uk_fgs P n 0 with
  | inl h => exact Or.inl ⟨h.1, fun i hi => h.2 i (by omega) (by omega)⟩
  | inr h =>
    obtain ⟨i, _, h2, h3, h4, h5⟩ := h
    exact Or.inr ⟨i, by omega, h3, h4, fun k hk => h5 k (by omega) hk⟩
theorem uk_firstG (W : Nat → Nat → Prop) (post : Int32 → Prop) (P : Nat → Prop) (N : Nat) (hx : ∀ n, post (-1) → W (n + 1) N) (hs : ∀ n i, i < N → (P i → post (nI i)) → (¬ P i → W n (i + 1)) → W (n + 1) i) : ∀ d j, j + d = N → post (uk_fg P d j) → W (d + 1) j
  | 0, j, hj, h => by
    have e : j = N := by omega
    rw [e]; exact hx 0 h
  | d + 1, j, hj, h => by
    refine hs (d + 1) j (by omega) (fun hp => ?_) (fun hp => ?_)
    · rw [uk_fgt hp] at h; exact h
    · rw [uk_fgf hp] at h; exact uk_firstG W post P N hx hs d (j + 1) (by omega) h
theorem uk_first (W : Nat → Nat → Prop) (post : Int32 → Prop) (P : Nat → Prop) (N : Nat) (h : post (uk_ff P N)) (hx : ∀ n, post (-1) → W (n + 1) N) (hs : ∀ n i, i < N → (P i → post (nI i)) → (¬ P i → W n (i + 1)) → W (n + 1) i) : ∃ n, W n 0 := ⟨N + 1, uk_firstG W post P N hx hs N 0 (by omega) h⟩
theorem uk_countG (W : Nat → Nat → Int32 → Prop) (P : Nat → Prop) (N : Nat) (hx : ∀ n, W (n + 1) N (nI (uk_cn P N))) (hs : ∀ n i c, i < N → (P i → W n (i + 1) (nI (c + 1))) → (¬ P i → W n (i + 1) (nI c)) → W (n + 1) i (nI c)) : ∀ d j, j + d = N → W (d + 1) j (nI (uk_cn P j))
  | 0, j, hj => by
    have e : j = N := by omega
    rw [e]; exact hx 0
  | d + 1, j, hj => by
    have ih := uk_countG W P N hx hs d (j + 1) (by omega)
    refine hs (d + 1) j _ (by omega) (fun hp => ?_) (fun hp => ?_)
    · rw [uk_cnt hp] at ih; exact ih
    · rw [uk_cnf hp] at ih; exact ih
theorem uk_count (W : Nat → Nat → Int32 → Prop) (P : Nat → Prop) (N : Nat) (hx : ∀ n, W (n + 1) N (nI (uk_cn P N))) (hs : ∀ n i c, i < N → (P i → W n (i + 1) (nI (c + 1))) → (¬ P i → W n (i + 1) (nI c)) → W (n + 1) i (nI c)) : ∃ n, W n 0 0 := ⟨N + 1, uk_countG W P N hx hs N 0 (by omega)⟩
theorem uk_anyG (W : Nat → Nat → Prop) (P : Nat → Prop) (N : Nat) (hx : (∀ i, i < N → ¬ P i) → ∀ n, W (n + 1) N) (ht : ∀ n i, i < N → P i → W (n + 1) i) (hf : ∀ n i, i < N → ¬ P i → W n (i + 1) → W (n + 1) i) : ∀ d j, j + d = N → (∀ i, i < j → ¬ P i) → W (d + 1) j
  | 0, j, hj, h => by
    have e : j = N := by omega
    rw [e] at h ⊢; exact hx h 0
  | d + 1, j, hj, h => by
    cases Classical.em (P j) with
    | inl hp => exact ht _ _ (by omega) hp
    | inr hp =>
      refine hf _ _ (by omega) hp (uk_anyG W P N hx ht hf d (j + 1) (by omega) (fun i hi => ?_))
      by_cases e : i = j
      · rw [e]; exact hp
      · exact h i (by omega)
theorem uk_any (W : Nat → Nat → Prop) (P : Nat → Prop) (N : Nat) (hx : (∀ i, i < N → ¬ P i) → ∀ n, W (n + 1) N) (ht : ∀ n i, i < N → P i → W (n + 1) i) (hf : ∀ n i, i < N → ¬ P i → W n (i + 1) → W (n + 1) i) : ∃ n, W n 0 := ⟨N + 1, uk_anyG W P N hx ht hf N 0 (by omega) (fun i hi => by omega)⟩
/-- a loop that goes through its states one by one: the state at i is g i -/
theorem uk_run {σ : Type} (W : Nat → Nat → σ → Prop) (g : Nat → σ) (N : Nat) (hx : ∀ n, W (n + 1) N (g N)) (hs : ∀ n i, i < N → W n (i + 1) (g (i + 1)) → W (n + 1) i (g i)) : ∀ d j, j + d = N → W (d + 1) j (g j)
  | 0, j, hj => by
    have e : j = N := by omega
    rw [e]; exact hx 0
  | d + 1, j, hj => hs _ _ (by omega) (uk_run W g N hx hs d (j + 1) (by omega))
theorem uk_run0 {σ : Type} (W : Nat → Nat → σ → Prop) (g : Nat → σ) (N : Nat) (hx : ∀ n, W (n + 1) N (g N)) (hs : ∀ n i, i < N → W n (i + 1) (g (i + 1)) → W (n + 1) i (g i)) : ∃ n, W n 0 (g 0) := ⟨N + 1, uk_run W g N hx hs N 0 (by omega)⟩
def uk_fl (a : Nat → Int32) (b : Nat) (g : Nat → Int32) (N : Nat) : Nat → Int32 := fun j => if b ≤ j ∧ j < b + N then g (j - b) else a j
theorem uk_fl0 (a : Nat → Int32) (b : Nat) (g : Nat → Int32) : uk_fl a b g 0 = a := by
  funext j
  exact if_neg (by omega)
theorem uk_fls {a : Nat → Int32} {b i : Nat} {g : Nat → Int32} : upd (uk_fl a b g i) (b + i) (g i) = uk_fl a b g (i + 1) := by
  funext j
  by_cases e : j = b + i
  · subst e
    rw [pk_us]
    show _ = if b ≤ b + i ∧ b + i < b + (i + 1) then g (b + i - b) else a (b + i)
    rw [if_pos (by omega), Nat.add_sub_cancel_left]
  · rw [pk_un e]
    show (if b ≤ j ∧ j < b + i then g (j - b) else a j) = (if b ≤ j ∧ j < b + (i + 1) then g (j - b) else a j)
    by_cases h : b ≤ j ∧ j < b + i
    · rw [if_pos h, if_pos (by omega)]
    · rw [if_neg h, if_neg (by omega)]
theorem uk_flin {a : Nat → Int32} {b N : Nat} {g : Nat → Int32} {j : Nat} (h : j < N) : uk_fl a b g N (b + j) = g j := by
  show (if b ≤ b + j ∧ b + j < b + N then g (b + j - b) else a (b + j)) = g j
  rw [if_pos (by omega), Nat.add_sub_cancel_left]
theorem uk_flout {a : Nat → Int32} {b N : Nat} {g : Nat → Int32} {j : Nat} (h : j < b ∨ b + N ≤ j) : uk_fl a b g N j = a j := if_neg (by omega)
theorem uk_uself (a : Nat → Int32) (i : Nat) : upd a i (a i) = a := by
  funext j
  by_cases e : j = i
  · subst e; exact pk_us
  · exact pk_un e
theorem uk_uu (a : Nat → Int32) (i : Nat) (x y : Int32) : upd (upd a i x) i y = upd a i y := by
  funext j
  by_cases e : j = i
  · subst e; rw [pk_us, pk_us]
  · rw [pk_un e, pk_un e, pk_un e]
theorem uk_m3 (s : Nat) : nI s * 3 = nI (3 * s) := (pk_mul s 3).trans (congrArg nI (Nat.mul_comm s 3))
theorem uk_m4 (s : Nat) : nI s * 4 = nI (4 * s) := (pk_mul s 4).trans (congrArg nI (Nat.mul_comm s 4))
theorem uk_m6 (s : Nat) : nI s * 6 = nI (6 * s) := (pk_mul s 6).trans (congrArg nI (Nat.mul_comm s 6))
theorem uk_m8 (s : Nat) : nI s * 8 = nI (8 * s) := (pk_mul s 8).trans (congrArg nI (Nat.mul_comm s 8))
theorem uk_m16 (s : Nat) : nI s * 16 = nI (16 * s) := (pk_mul s 16).trans (congrArg nI (Nat.mul_comm s 16))
theorem uk_m24 (s : Nat) : nI s * 24 = nI (24 * s) := (pk_mul s 24).trans (congrArg nI (Nat.mul_comm s 24))
theorem uk_4m (s : Nat) : 4 * nI s = nI (4 * s) := pk_mul 4 s
theorem uk_6m (s : Nat) : 6 * nI s = nI (6 * s) := pk_mul 6 s
theorem uk_8m (s : Nat) : 8 * nI s = nI (8 * s) := pk_mul 8 s
theorem uk_16m (s : Nat) : 16 * nI s = nI (16 * s) := pk_mul 16 s
theorem uk_24m (s : Nat) : 24 * nI s = nI (24 * s) := pk_mul 24 s
theorem uk_32m (s : Nat) : 32 * nI s = nI (32 * s) := pk_mul 32 s
theorem uk_a1 (s : Nat) : nI s + 1 = nI (s + 1) := nI_1 s
theorem uk_a2 (s : Nat) : nI s + 2 = nI (s + 2) := nI_add s 2
theorem uk_a3 (s : Nat) : nI s + 3 = nI (s + 3) := nI_add s 3
theorem uk_ne1 {n : Nat} (h : n < 2 ^ 31) : ¬ nI n = -1 := fun e => by
  have h1 := nI_pos h
  rw [e] at h1
  exact h1 (by decide)
theorem uk_n10 : (-1 : Int32) < 0 := by decide
theorem uk_inc {x : Int32} {n : Nat} (h : vp_in x n) : x.toNatClampNeg < n := by
  have := (not_or.mp h).2
  omega
theorem uk_ofin {x : Int32} {n : Nat} (h : vp_in x n) : nI x.toNatClampNeg = x := by
  obtain ⟨j, hj, rfl⟩ := nI_of (not_or.mp h).1
  rw [nI_clamp hj]
end
section
/-- an instruction that add takes -/
def uk_val (op a b : Int32) : Prop :=
  (op = 0 ∧ vp_in a 4) ∨ ((op = 1 ∨ op = 2 ∨ op = 3 ∨ op = 4 ∨ op = 5) ∧ vp_in a 4 ∧ vp_in b 4) ∨ (op = 6 ∧ vp_in b 24) ∨ (op = 7 ∧ vp_in a 4 ∧ vp_in b 24) ∨ (op = 8 ∧ vp_in b 19)
/-- the programs: X's code against Y's three tables -/
def uk_Pr (cd ln os oa ob : Nat → Int32) : Prop :=
  (∀ k, k < 144 → os k = cd (3 * k) ∧ ob k = cd (3 * k + 2) ∧ (os k ≠ 6 → os k ≠ 8 → oa k = cd (3 * k + 1))) ∧
  (∀ p, p < 6 → ∃ n, n ≤ 24 ∧ ln p = nI n ∧ ∀ j, j < n → uk_val (cd (3 * (24 * p + j))) (cd (3 * (24 * p + j) + 1)) (cd (3 * (24 * p + j) + 2)))
/-- the processes: pids P, parents Q, programs G, places L, statuses U; X's states, Y's zombie and blocked -/
def uk_Ps (P Q G L U st zo bl : Nat → Int32) : Prop := ∀ s, s < 8 → ¬ P s < 0 ∧ ¬ Q s < 0 ∧ vp_in (G s) 6 ∧ vp_in (L s) 25 ∧ (zo s = 0 ∨ zo s = 1) ∧ (bl s = 0 ∨ bl s = 1) ∧
  (P s ≠ 0 → (zo s = 1 ∧ st s = 3) ∨ (zo s = 0 ∧ U s = 0 ∧ ((bl s = 0 ∧ st s = 1) ∨ (bl s = 1 ∧ st s = 2))))
/-- pages and words: X's pageCounts, pageFrames, frameWords; Y's pages, frame, memory -/
def uk_Me (P zo pc pg pf fr fw me : Nat → Int32) : Prop := ∀ s, s < 8 → P s ≠ 0 → ∃ n, n ≤ 8 ∧ pc s = nI n ∧ pg s = nI n ∧ (zo s = 1 → n = 0) ∧ ∀ p, p < n → vp_in (fr (8 * s + p)) 20 ∧ pf (8 * s + p) = fr (8 * s + p) ∧ ∀ k, k < 4 → fw (4 * (fr (8 * s + p)).toNatClampNeg + k) = me (32 * s + 4 * p + k)
/-- how many pages of slot s have frame f -/
noncomputable def uk_rw (P pg fr : Nat → Int32) (f s : Nat) : Nat := uk_b (P s ≠ 0) * uk_cn (fun p => fr (8 * s + p) = nI f) (pg s).toNatClampNeg
def uk_Fu (P pg fr fu : Nat → Int32) : Prop := ∀ f, f < 20 → fu f = nI (uk_sm (uk_rw P pg fr f) 8)
/-- descriptors and o-files -/
def uk_Hd (P zo H : Nat → Int32) : Prop := ∀ s, s < 8 → P s ≠ 0 → zo s = 0 → ∀ d, d < 6 → H (6 * s + d) = -1 ∨ vp_in (H (6 * s + d)) 12
noncomputable def uk_hw (P zo H : Nat → Int32) (o s : Nat) : Nat := uk_b (P s ≠ 0 ∧ zo s = 0) * uk_cn (fun d => H (6 * s + d) = nI o) 6
def uk_Ho (P zo H oh : Nat → Int32) : Prop := ∀ o, o < 12 → oh o = nI (uk_sm (uk_hw P zo H o) 8)
def uk_Ok (oh ok ki T om mo op : Nat → Int32) : Prop := ∀ o, o < 12 → vp_in (op o) 17 ∧ ((oh o = 0 ∧ ki o = 0) ∨ (oh o ≠ 0 ∧ ok o = ki o ∧ ((ki o = 1 ∧ om o = mo o ∧ mo o &&& 3 ≠ 0 ∧ vp_in (T o) 8) ∨ (ki o = 2 ∧ om o = 1 ∧ vp_in (T o) 4) ∨ (ki o = 3 ∧ om o = 2 ∧ vp_in (T o) 4))))
/-- pipes: X's ring against Y's row -/
def uk_Pi (C pf pw pi : Nat → Int32) : Prop := ∀ q, q < 4 → ∃ c f, c ≤ 4 ∧ f < 4 ∧ C q = nI c ∧ pf q = nI f ∧ ∀ j, j < c → pw (4 * q + (f + j) % 4) = pi (4 * q + j)
/-- files -/
def uk_fre (N ki T : Nat → Int32) (f : Nat) : Prop := (∀ k, k < 8 → N k ≠ nI f) ∧ ∀ o, o < 12 → ¬ (ki o = 1 ∧ T o = nI f)
def uk_Fi (N ki T fs sz : Nat → Int32) : Prop := (∀ k, k < 8 → N k = -1 ∨ vp_in (N k) 8) ∧ ∀ f, f < 8 → vp_in (sz f) 17 ∧ (uk_fre N ki T f → sz f = 0) ∧ (¬ uk_fre N ki T f → fs f = sz f)
def uk_Sa (sn ss sz : Nat → Int32) : Prop := (∀ k, k < 8 → sn k = -1 ∨ vp_in (sn k) 8) ∧ ∀ f, f < 8 → vp_in (sz f) 17 ∧ ((∃ k, k < 8 ∧ sn k = nI f) → ss f = sz f)
/-- what was said: n ints -/
def uk_Sd (n : Nat) (si sd : Nat → Int32) : Prop := ∀ k, k < 16 → k < n → si ((n - 1 - k) % 16) = sd k
/-- whose step it was -/
def uk_Sc (P : Nat → Int32) (ls sl la lp di : Int32) : Prop := vp_in ls 8 ∧ vp_in la 8 ∧ ((∀ s, s < 8 → P s = 0) ∨ (ls = la ∧ (P la.toNatClampNeg = 0 ∨ (P la.toNatClampNeg = lp ∧ sl = di))))
/-- descriptor R0 of slot s is an o-file of kind k -/
def uk_de (R H ki : Nat → Int32) (s : Nat) (k : Int32) : Prop := ∃ d o, d < 6 ∧ o < 12 ∧ R (4 * s) = nI d ∧ H (6 * s + d) = nI o ∧ ki o = k
/-- blocked processes, and when they wake -/
def uk_wk1 (G L ln os ob wt wk R H ki : Nat → Int32) (t s : Nat) : Prop :=
  (L s).toNatClampNeg < (ln (G s).toNatClampNeg).toNatClampNeg ∧ os (24 * (G s).toNatClampNeg + (L s).toNatClampNeg) = 8 ∧
  ((ob (24 * (G s).toNatClampNeg + (L s).toNatClampNeg) = 14 ∧ ∃ w, 0 < w ∧ w ≤ t + 1001 ∧ wt s = nI w ∧ wk s = nI w) ∨
   (wt s = 0 ∧ wk s = -1 ∧ (ob (24 * (G s).toNatClampNeg + (L s).toNatClampNeg) = 2 ∨ (ob (24 * (G s).toNatClampNeg + (L s).toNatClampNeg) = 7 ∧ uk_de R H ki s 2) ∨ (ob (24 * (G s).toNatClampNeg + (L s).toNatClampNeg) = 8 ∧ uk_de R H ki s 3))))
def uk_Wk (P zo bl G L ln os ob wt wk R H ki : Nat → Int32) (t : Nat) : Prop := ∀ s, s < 8 → P s ≠ 0 → zo s = 0 → (bl s = 0 ∧ wt s = 0 ∧ wk s = -1) ∨ (bl s = 1 ∧ uk_wk1 G L ln os ob wt wk R H ki t s)
end
section
/-! how the groups of the relation are kept -/
theorem uk_FuC {P pg fr fu P' pg' fr' : Nat → Int32} (h : uk_Fu P pg fr fu) (e : ∀ f s, f < 20 → s < 8 → uk_rw P' pg' fr' f s = uk_rw P pg fr f s) : uk_Fu P' pg' fr' fu := fun f hf => by
  rw [h f hf, uk_smc 8 (fun s hs => e f s hf hs)]
theorem uk_HoC {P zo H oh P' zo' H' : Nat → Int32} (h : uk_Ho P zo H oh) (e : ∀ o s, o < 12 → s < 8 → uk_hw P' zo' H' o s = uk_hw P zo H o s) : uk_Ho P' zo' H' oh := fun o ho => by
  rw [h o ho, uk_smc 8 (fun s hs => e o s ho hs)]
theorem uk_rw0 {P pg fr : Nat → Int32} {f s : Nat} (h : P s = 0) : uk_rw P pg fr f s = 0 := by
  unfold uk_rw; rw [uk_b0 (fun z => z h), Nat.zero_mul]
theorem uk_rwn {P pg fr : Nat → Int32} {f s n : Nat} (h : P s ≠ 0) (hn : pg s = nI n) (hb : n < 2 ^ 31) : uk_rw P pg fr f s = uk_cn (fun p => fr (8 * s + p) = nI f) n := by
  unfold uk_rw; rw [uk_b1 h, Nat.one_mul, hn, nI_clamp hb]
theorem uk_hw0 {P zo H : Nat → Int32} {o s : Nat} (h : ¬ (P s ≠ 0 ∧ zo s = 0)) : uk_hw P zo H o s = 0 := by
  unfold uk_hw; rw [uk_b0 h, Nat.zero_mul]
theorem uk_hwn {P zo H : Nat → Int32} {o s : Nat} (h : P s ≠ 0) (hz : zo s = 0) : uk_hw P zo H o s = uk_cn (fun d => H (6 * s + d) = nI o) 6 := by
  unfold uk_hw; rw [uk_b1 ⟨h, hz⟩, Nat.one_mul]
theorem uk_hwle (P zo H : Nat → Int32) (o s : Nat) : uk_hw P zo H o s ≤ 6 := by
  unfold uk_hw
  have h1 := uk_ble (P s ≠ 0 ∧ zo s = 0)
  have h2 := uk_cnle (fun d => H (6 * s + d) = nI o) 6
  generalize uk_b (P s ≠ 0 ∧ zo s = 0) = a at *
  generalize uk_cn (fun d => H (6 * s + d) = nI o) 6 = b at *
  have : a * b ≤ 1 * 6 := Nat.mul_le_mul h1 h2
  omega
theorem uk_hsle (P zo H : Nat → Int32) (o : Nat) : uk_sm (uk_hw P zo H o) 8 ≤ 48 := uk_smb 8 (fun s _ => uk_hwle P zo H o s)
theorem uk_rwle {P zo pc pg pf fr fw me : Nat → Int32} (h : uk_Me P zo pc pg pf fr fw me) {s : Nat} (hs : s < 8) (f : Nat) : uk_rw P pg fr f s ≤ 8 := by
  by_cases hp : P s = 0
  · rw [uk_rw0 hp]; omega
  · obtain ⟨n, hn, _, h2, _⟩ := h s hs hp
    rw [uk_rwn hp h2 (by omega)]
    exact Nat.le_trans (uk_cnle _ n) hn
theorem uk_rsle {P zo pc pg pf fr fw me : Nat → Int32} (h : uk_Me P zo pc pg pf fr fw me) (f : Nat) : uk_sm (uk_rw P pg fr f) 8 ≤ 64 := uk_smb 8 (fun s hs => uk_rwle h hs f)
-- a slot is no more
theorem uk_P0_Ps {P Q G L U st zo bl : Nat → Int32} (z : Nat) (h : uk_Ps P Q G L U st zo bl) : uk_Ps (upd P z 0) Q G L U st zo bl := fun s hs => by
  obtain ⟨h1, h2, h3, h4, h5, h6, h7⟩ := h s hs
  by_cases e : s = z
  · subst e
    rw [pk_us]
    exact ⟨by decide, h2, h3, h4, h5, h6, fun c => absurd rfl c⟩
  · rw [pk_un e]
    exact ⟨h1, h2, h3, h4, h5, h6, h7⟩
theorem uk_P0n {P : Nat → Int32} {z s : Nat} (h : upd P z 0 s ≠ 0) : s ≠ z ∧ P s ≠ 0 := by
  by_cases e : s = z
  · subst e; rw [pk_us] at h; exact absurd rfl h
  · rw [pk_un e] at h; exact ⟨e, h⟩
theorem uk_P0_Me {P zo pc pg pf fr fw me : Nat → Int32} (z : Nat) (h : uk_Me P zo pc pg pf fr fw me) : uk_Me (upd P z 0) zo pc pg pf fr fw me := fun s hs hp => h s hs (uk_P0n hp).2
theorem uk_P0_Hd {P zo H : Nat → Int32} (z : Nat) (h : uk_Hd P zo H) : uk_Hd (upd P z 0) zo H := fun s hs hp => h s hs (uk_P0n hp).2
theorem uk_P0_Wk {P zo bl G L ln os ob wt wk R H ki : Nat → Int32} {t : Nat} (z : Nat) (h : uk_Wk P zo bl G L ln os ob wt wk R H ki t) : uk_Wk (upd P z 0) zo bl G L ln os ob wt wk R H ki t := fun s hs hp => h s hs (uk_P0n hp).2
theorem uk_P0_Sc {P : Nat → Int32} {ls sl la lp di : Int32} (z : Nat) (h : uk_Sc P ls sl la lp di) : uk_Sc (upd P z 0) ls sl la lp di := by
  obtain ⟨h1, h2, h3⟩ := h
  refine ⟨h1, h2, ?_⟩
  cases h3 with
  | inl h =>
    refine Or.inl (fun s hs => ?_)
    by_cases e : s = z
    · subst e; exact pk_us
    · rw [pk_un e]; exact h s hs
  | inr h =>
    refine Or.inr ⟨h.1, ?_⟩
    by_cases e : la.toNatClampNeg = z
    · subst e; exact Or.inl pk_us
    · rw [pk_un e]; exact h.2
theorem uk_P0_Fu {P pg fr fu : Nat → Int32} (z : Nat) (h : uk_Fu P pg fr fu) (hz : P z ≠ 0 → pg z = 0) : uk_Fu (upd P z 0) pg fr fu := uk_FuC h (fun f s hf hs => by
  by_cases e : s = z
  · subst e
    rw [uk_rw0 pk_us]
    by_cases hp : P s = 0
    · rw [uk_rw0 hp]
    · rw [uk_rwn (n := 0) hp (hz hp) (by decide)]; rfl
  · unfold uk_rw; rw [pk_un e])
theorem uk_P0_Ho {P zo H oh : Nat → Int32} (z : Nat) (h : uk_Ho P zo H oh) (hz : ∀ o, o < 12 → uk_hw P zo H o z = 0) : uk_Ho (upd P z 0) zo H oh := uk_HoC h (fun o s ho hs => by
  by_cases e : s = z
  · subst e
    rw [uk_hw0 (fun c => c.1 pk_us), hz o ho]
  · unfold uk_hw; rw [pk_un e])
-- blocked processes
theorem uk_wk1C {G L ln os ob wt wk R H ki G' L' wt' wk' R' H' ki' : Nat → Int32} {t t' s : Nat} (ht : t ≤ t') (eG : G' s = G s) (eL : L' s = L s) (ew : wt' s = wt s) (ek : wk' s = wk s) (eR : R' (4 * s) = R (4 * s)) (eH : ∀ d, d < 6 → H' (6 * s + d) = H (6 * s + d)) (eki : ∀ d o, d < 6 → o < 12 → H (6 * s + d) = nI o → (ki o = 2 ∨ ki o = 3) → ki' o = ki o) (h : uk_wk1 G L ln os ob wt wk R H ki t s) : uk_wk1 G' L' ln os ob wt' wk' R' H' ki' t' s := by
  unfold uk_wk1 at *
  rw [eG, eL, ew, ek]
  obtain ⟨h1, h2, h3⟩ := h
  refine ⟨h1, h2, ?_⟩
  cases h3 with
  | inl h =>
    obtain ⟨h4, w, hw, hw2, h5⟩ := h
    exact Or.inl ⟨h4, w, hw, by omega, h5⟩
  | inr h =>
    obtain ⟨h4, h5, h6⟩ := h
    refine Or.inr ⟨h4, h5, ?_⟩
    rcases h6 with h6 | ⟨h6, d, o, hd, ho, e1, e2, e3⟩ | ⟨h6, d, o, hd, ho, e1, e2, e3⟩
    · exact Or.inl h6
    · exact Or.inr (Or.inl ⟨h6, d, o, hd, ho, by rw [eR, e1], by rw [eH d hd, e2], by rw [eki d o hd ho e2 (Or.inl e3), e3]⟩)
    · exact Or.inr (Or.inr ⟨h6, d, o, hd, ho, by rw [eR, e1], by rw [eH d hd, e2], by rw [eki d o hd ho e2 (Or.inr e3), e3]⟩)
theorem uk_WkC {P zo bl G L ln os ob wt wk R H ki P' zo' bl' G' L' wt' wk' R' H' ki' : Nat → Int32} {t t' : Nat} (ht : t ≤ t') (h : uk_Wk P zo bl G L ln os ob wt wk R H ki t) (e : ∀ s, s < 8 → P' s ≠ 0 → zo' s = 0 → (bl' s = 0 ∧ wt' s = 0 ∧ wk' s = -1) ∨ (P s ≠ 0 ∧ zo s = 0 ∧ bl' s = bl s ∧ G' s = G s ∧ L' s = L s ∧ wt' s = wt s ∧ wk' s = wk s ∧ R' (4 * s) = R (4 * s) ∧ (∀ d, d < 6 → H' (6 * s + d) = H (6 * s + d)) ∧ (∀ d o, d < 6 → o < 12 → H (6 * s + d) = nI o → (ki o = 2 ∨ ki o = 3) → ki' o = ki o))) : uk_Wk P' zo' bl' G' L' ln os ob wt' wk' R' H' ki' t' := fun s hs hp hz => by
  rcases e s hs hp hz with h0 | ⟨e1, e2, e3, e4, e5, e6, e7, e8, e9, e10⟩
  · exact Or.inl h0
  · rcases h s hs e1 e2 with ⟨a, b, c⟩ | ⟨a, b⟩
    · exact Or.inl ⟨e3.trans a, e6.trans b, e7.trans c⟩
    · exact Or.inr ⟨e3.trans a, uk_wk1C ht e4 e5 e6 e7 e8 e9 e10 b⟩
-- X's counts of frames
def uk_dec (fu pf : Nat → Int32) (b : Nat) : Nat → Nat → Int32
  | 0 => fu
  | p + 1 => upd (uk_dec fu pf b p) (pf (b + p)).toNatClampNeg (uk_dec fu pf b p (pf (b + p)).toNatClampNeg - 1)
def uk_icc (fu pf : Nat → Int32) (b : Nat) : Nat → Nat → Int32
  | 0 => fu
  | p + 1 => upd (uk_icc fu pf b p) (pf (b + p)).toNatClampNeg (uk_icc fu pf b p (pf (b + p)).toNatClampNeg + 1)
theorem uk_dec_val {fu pf : Nat → Int32} {b : Nat} {T : Nat → Nat} (hT : ∀ f, f < 20 → fu f = nI (T f)) : ∀ p, (∀ j, j < p → vp_in (pf (b + j)) 20) → (∀ f, f < 20 → uk_cn (fun j => pf (b + j) = nI f) p ≤ T f) → ∀ f, f < 20 → uk_dec fu pf b p f = nI (T f - uk_cn (fun j => pf (b + j) = nI f) p)
  | 0, _, _, f, hf => hT f hf
  | p + 1, hi, hc, f, hf => by
    have ih := uk_dec_val hT p (fun j hj => hi j (by omega)) (fun f hf => Nat.le_trans (uk_cnmono _ _ (by omega)) (hc f hf))
    show upd (uk_dec fu pf b p) (pf (b + p)).toNatClampNeg (uk_dec fu pf b p (pf (b + p)).toNatClampNeg - 1) f = _
    have hv := hi p (by omega)
    have hlt := uk_inc hv
    have hof := uk_ofin hv
    by_cases e : f = (pf (b + p)).toNatClampNeg
    · have hq : pf (b + p) = nI f := by rw [e]; exact hof.symm
      have h1 := hc f hf
      rw [uk_cnt (P := fun j => pf (b + j) = nI f) hq] at h1 ⊢
      rw [← e, pk_us, ih f hf]
      have e1 : nI (T f - uk_cn (fun j => pf (b + j) = nI f) p) - nI 1 = nI (T f - uk_cn (fun j => pf (b + j) = nI f) p - 1) := pk_sub (by omega)
      exact e1.trans (congrArg nI (by omega))
    · have hq : ¬ pf (b + p) = nI f := fun z => e (by rw [z, nI_clamp (by omega)])
      rw [uk_cnf (P := fun j => pf (b + j) = nI f) hq, pk_un e, ih f hf]
theorem uk_icc_val {fu pf : Nat → Int32} {b : Nat} {T : Nat → Nat} (hT : ∀ f, f < 20 → fu f = nI (T f)) : ∀ p, (∀ j, j < p → vp_in (pf (b + j)) 20) → ∀ f, f < 20 → uk_icc fu pf b p f = nI (T f + uk_cn (fun j => pf (b + j) = nI f) p)
  | 0, _, f, hf => hT f hf
  | p + 1, hi, f, hf => by
    have ih := uk_icc_val hT p (fun j hj => hi j (by omega))
    show upd (uk_icc fu pf b p) (pf (b + p)).toNatClampNeg (uk_icc fu pf b p (pf (b + p)).toNatClampNeg + 1) f = _
    have hv := hi p (by omega)
    have hof := uk_ofin hv
    by_cases e : f = (pf (b + p)).toNatClampNeg
    · have hq : pf (b + p) = nI f := by rw [e]; exact hof.symm
      rw [uk_cnt (P := fun j => pf (b + j) = nI f) hq, ← e, pk_us, ih f hf, nI_1]
      rfl
    · have hq : ¬ pf (b + p) = nI f := fun z => e (by rw [z, nI_clamp (by omega)])
      rw [uk_cnf (P := fun j => pf (b + j) = nI f) hq, pk_un e, ih f hf]
-- the pages of a process go
theorem uk_drop_Me {P zo pc pg pf fr fw me : Nat → Int32} (s : Nat) (h : uk_Me P zo pc pg pf fr fw me) : uk_Me P zo (upd pc s 0) (upd pg s 0) pf fr fw me := fun s' hs' hp => by
  by_cases e : s' = s
  · subst e
    exact ⟨0, by omega, pk_us, pk_us, fun _ => rfl, fun p hp => by omega⟩
  · rw [pk_un e, pk_un e]; exact h s' hs' hp
theorem uk_pf_fr {P zo pc pg pf fr fw me : Nat → Int32} (h : uk_Me P zo pc pg pf fr fw me) {s n : Nat} (hs : s < 8) (hp : P s ≠ 0) (hn : pg s = nI n) (hb : n < 2 ^ 31) : n ≤ 8 ∧ pc s = nI n ∧ ∀ p, p < n → vp_in (fr (8 * s + p)) 20 ∧ pf (8 * s + p) = fr (8 * s + p) := by
  obtain ⟨m, h1, h2, h3, _, h5⟩ := h s hs hp
  have e : m = n := (nI_eq (by omega) hb).mp (h3.symm.trans hn)
  subst e
  exact ⟨h1, h2, fun p hp => ⟨(h5 p hp).1, (h5 p hp).2.1⟩⟩
theorem uk_drop_Fu {P zo pc pg pf fr fw me fu : Nat → Int32} {s n : Nat} (hm : uk_Me P zo pc pg pf fr fw me) (h : uk_Fu P pg fr fu) (hs : s < 8) (hp : P s ≠ 0) (hn : pg s = nI n) (hb : n < 2 ^ 31) : uk_Fu P (upd pg s 0) fr (uk_dec fu pf (8 * s) n) := fun f hf => by
  obtain ⟨h8, _, hq⟩ := uk_pf_fr hm hs hp hn hb
  have hc : ∀ f, uk_cn (fun j => pf (8 * s + j) = nI f) n = uk_rw P pg fr f s := fun f => by
    rw [uk_rwn hp hn hb]
    exact uk_cnc n (fun i hi => by rw [(hq i hi).2])
  rw [uk_dec_val h n (fun j hj => by rw [(hq j hj).2]; exact (hq j hj).1) (fun f hf => by rw [hc f]; exact uk_smle 8 hs) f hf, hc f]
  have h1 := uk_smset (g := uk_rw P pg fr f) (h := uk_rw P (upd pg s 0) fr f) 8 hs (fun i hi hk => by unfold uk_rw; rw [pk_un hk])
  have h2 : uk_rw P (upd pg s 0) fr f s = 0 := by rw [uk_rwn (n := 0) hp (show upd pg s 0 s = nI 0 from pk_us) (by decide)]; rfl
  exact congrArg nI (by omega)
-- a process has ended: its descriptors are free, its pages gone
theorem uk_end_Ps {P Q G L U st zo bl : Nat → Int32} {s : Nat} (x z : Int32) (h : uk_Ps P Q G L U st zo bl) (hz : z = 0 ∨ z = 1) (hP : P s ≠ 0 → z = 1) : uk_Ps P Q G L (upd U s x) (upd st s 3) (upd zo s z) (upd bl s 0) := fun s' hs => by
  obtain ⟨h1, h2, h3, h4, h5, h6, h7⟩ := h s' hs
  by_cases e : s' = s
  · subst e
    rw [pk_us, pk_us, pk_us, pk_us]
    exact ⟨h1, h2, h3, h4, hz, Or.inl rfl, fun c => Or.inl ⟨hP c, rfl⟩⟩
  · rw [pk_un e, pk_un e, pk_un e, pk_un e]
    exact ⟨h1, h2, h3, h4, h5, h6, h7⟩
theorem uk_end_Me {P zo pc pg pf fr fw me : Nat → Int32} {s : Nat} (z : Int32) (h : uk_Me P zo pc pg pf fr fw me) (hp : pg s = 0) : uk_Me P (upd zo s z) pc pg pf fr fw me := fun s' hs' hP => by
  obtain ⟨n, h1, h2, h3, h4, h5⟩ := h s' hs' hP
  by_cases e : s' = s
  · subst e
    have e0 : n = 0 := (nI_eq (by omega) (by decide)).mp (h3.symm.trans hp)
    exact ⟨n, h1, h2, h3, fun _ => e0, h5⟩
  · rw [pk_un e]; exact ⟨n, h1, h2, h3, h4, h5⟩
theorem uk_end_Hd {P zo H : Nat → Int32} {s : Nat} (z : Int32) (h : uk_Hd P zo H) (hz : P s ≠ 0 → z = 1) : uk_Hd P (upd zo s z) H := fun s' hs' hP hz' => by
  by_cases e : s' = s
  · subst e; rw [pk_us] at hz'; rw [hz hP] at hz'; exact absurd hz' (by decide)
  · rw [pk_un e] at hz'; exact h s' hs' hP hz'
theorem uk_end_Ho {P zo H oh : Nat → Int32} {s : Nat} (z : Int32) (h : uk_Ho P zo H oh) (hH : ∀ d, d < 6 → H (6 * s + d) = -1) : uk_Ho P (upd zo s z) H oh := uk_HoC h (fun o s' ho hs' => by
  by_cases e : s' = s
  · subst e
    have h0 : uk_cn (fun d => H (6 * s' + d) = nI o) 6 = 0 := uk_cn0 6 (fun d hd z => uk_ne1 (n := o) (by omega) (z.symm.trans (hH d hd)))
    unfold uk_hw
    rw [h0, Nat.mul_zero, Nat.mul_zero]
  · unfold uk_hw; rw [pk_un e])
theorem uk_end_Wk {P zo bl G L ln os ob wt wk R H ki : Nat → Int32} {t s : Nat} (z : Int32) (hz : P s ≠ 0 → z = 1) (h : uk_Wk P zo bl G L ln os ob wt wk R H ki t) : uk_Wk P (upd zo s z) (upd bl s 0) G L ln os ob wt wk R H ki t := uk_WkC (Nat.le_refl t) h (fun s' hs' hP hz' => by
  by_cases e : s' = s
  · subst e; rw [pk_us] at hz'; rw [hz hP] at hz'; exact absurd hz' (by decide)
  · rw [pk_un e] at hz' ⊢
    exact Or.inr ⟨hP, hz', rfl, rfl, rfl, rfl, rfl, rfl, fun _ _ => rfl, fun _ _ _ _ _ _ => rfl⟩)
end
section
/-! descriptors: one goes, one comes -/
theorem uk_hwo {P zo H : Nat → Int32} {o s d s' : Nat} {x : Int32} (hd : d < 6) (e : s' ≠ s) : uk_hw P zo (upd H (6 * s + d) x) o s' = uk_hw P zo H o s' := by
  unfold uk_hw
  rw [uk_cnc (P := fun d' => upd H (6 * s + d) x (6 * s' + d') = nI o) (Q := fun d' => H (6 * s' + d') = nI o) 6 (fun i hi => by rw [pk_un (by omega)])]
theorem uk_hws {P zo H : Nat → Int32} {o s d : Nat} {x : Int32} (hs : s < 8) (hd : d < 6) (h1 : H (6 * s + d) ≠ nI o) (h2 : x ≠ nI o) : uk_sm (uk_hw P zo (upd H (6 * s + d) x) o) 8 = uk_sm (uk_hw P zo H o) 8 := uk_smc 8 (fun s' hs' => by
  by_cases e : s' = s
  · subst e
    unfold uk_hw
    rw [uk_cnc (P := fun d' => upd H (6 * s' + d) x (6 * s' + d') = nI o) (Q := fun d' => H (6 * s' + d') = nI o) 6 (fun i hi => ?_)]
    by_cases e2 : i = d
    · subst e2; rw [pk_us]; exact ⟨fun z => absurd z h2, fun z => absurd z h1⟩
    · rw [pk_un (by omega)]
  · exact uk_hwo hd e)
theorem uk_hwa {P zo H : Nat → Int32} {o s d : Nat} (hs : s < 8) (hp : P s ≠ 0) (hz : zo s = 0) (hd : d < 6) (h1 : H (6 * s + d) ≠ nI o) : uk_sm (uk_hw P zo (upd H (6 * s + d) (nI o)) o) 8 = uk_sm (uk_hw P zo H o) 8 + 1 := by
  have h := uk_smset (g := uk_hw P zo H o) (h := uk_hw P zo (upd H (6 * s + d) (nI o)) o) 8 hs (fun i _ e => (uk_hwo hd e).symm)
  have e1 : uk_hw P zo (upd H (6 * s + d) (nI o)) o s = uk_hw P zo H o s + 1 := by
    rw [uk_hwn hp hz, uk_hwn hp hz]
    exact uk_cnset (P := fun d' => H (6 * s + d') = nI o) (Q := fun d' => upd H (6 * s + d) (nI o) (6 * s + d') = nI o) h1 pk_us 6 hd (fun i _ e => by rw [pk_un (by omega)])
  omega
theorem uk_hwd {P zo H : Nat → Int32} {o s d : Nat} {x : Int32} (hs : s < 8) (hp : P s ≠ 0) (hz : zo s = 0) (hd : d < 6) (h1 : H (6 * s + d) = nI o) (h2 : x ≠ nI o) : uk_sm (uk_hw P zo H o) 8 = uk_sm (uk_hw P zo (upd H (6 * s + d) x) o) 8 + 1 := by
  have h := uk_hwa (P := P) (zo := zo) (H := upd H (6 * s + d) x) (o := o) hs hp hz hd (by rw [pk_us]; exact h2)
  rw [uk_uu, ← h1, uk_uself] at h
  rw [h1]
  exact h
theorem uk_hwp {P zo H : Nat → Int32} {o s d : Nat} (hs : s < 8) (hp : P s ≠ 0) (hz : zo s = 0) (hd : d < 6) (h1 : H (6 * s + d) = nI o) : 0 < uk_sm (uk_hw P zo H o) 8 := by
  have h := uk_smle (g := uk_hw P zo H o) 8 hs
  rw [uk_hwn hp hz] at h
  have := uk_cnp (P := fun d' => H (6 * s + d') = nI o) h1 6 hd
  omega
theorem uk_ohn {P zo H oh : Nat → Int32} (h : uk_Ho P zo H oh) {o : Nat} (ho : o < 12) : oh o = 0 ↔ uk_sm (uk_hw P zo H o) 8 = 0 := by
  have h1 := uk_hsle P zo H o
  rw [h o ho]
  exact nI_eq (b := 0) (by omega) (by decide)
theorem uk_nIe {a b : Nat} (ha : a < 12) (hb : b < 12) (e : a ≠ b) : nI a ≠ nI b := fun z => e ((nI_eq (by omega) (by omega)).mp z)
theorem uk_HdU {P zo H : Nat → Int32} {s d : Nat} {x : Int32} (h : uk_Hd P zo H) (hx : x = -1 ∨ vp_in x 12) : uk_Hd P zo (upd H (6 * s + d) x) := fun s' hs' hp hz d' hd' => by
  by_cases e : 6 * s' + d' = 6 * s + d
  · rw [e, pk_us]; exact hx
  · rw [pk_un e]; exact h s' hs' hp hz d' hd'
/-- one descriptor goes: X's counts -/
theorem uk_cl_Ho {P zo H oh : Nat → Int32} {o s d : Nat} (h : uk_Ho P zo H oh) (hs : s < 8) (hp : P s ≠ 0) (hz : zo s = 0) (hd : d < 6) (ho : o < 12) (h1 : H (6 * s + d) = nI o) : uk_Ho P zo (upd H (6 * s + d) (-1)) (upd oh o (oh o - 1)) := fun o' ho' => by
  by_cases e : o' = o
  · subst e
    have h2 := uk_hwd (P := P) (zo := zo) (x := -1) hs hp hz hd h1 (fun z => uk_ne1 (n := o') (by omega) z.symm)
    rw [pk_us, h o' ho', h2]
    exact (pk_sub (b := 1) (by omega)).trans (congrArg nI (by omega))
  · rw [pk_un e, h o' ho', uk_hws hs hd (by rw [h1]; exact uk_nIe ho ho' (fun z => e z.symm)) (fun z => uk_ne1 (n := o') (by omega) z.symm)]
theorem uk_OkC {oh ok ki T om mo op oh' : Nat → Int32} (h : uk_Ok oh ok ki T om mo op) (e : ∀ o, o < 12 → (oh' o = 0 ↔ oh o = 0)) : uk_Ok oh' ok ki T om mo op := fun o ho => by
  obtain ⟨h1, h2⟩ := h o ho
  refine ⟨h1, ?_⟩
  rcases h2 with ⟨a, b⟩ | ⟨a, b⟩
  · exact Or.inl ⟨(e o ho).mpr a, b⟩
  · exact Or.inr ⟨fun z => a ((e o ho).mp z), b⟩
theorem uk_cl_Ok1 {P zo H oh ok ki T om mo op : Nat → Int32} {o s d : Nat} (h : uk_Ok oh ok ki T om mo op) (hh : uk_Ho P zo H oh) (hs : s < 8) (hp : P s ≠ 0) (hz : zo s = 0) (hd : d < 6) (ho : o < 12) (h1 : H (6 * s + d) = nI o) (hn : uk_sm (uk_hw P zo (upd H (6 * s + d) (-1)) o) 8 ≠ 0) : uk_Ok (upd oh o (oh o - 1)) ok ki T om mo op := uk_OkC h (fun o' ho' => by
  by_cases e : o' = o
  · subst e
    have hc := uk_cl_Ho hh hs hp hz hd ho h1
    have h3 := (uk_ohn hc ho)
    have h4 := (uk_ohn hh ho)
    have h5 := uk_hwp hs hp hz hd h1
    exact ⟨fun z => absurd (h3.mp z) hn, fun z => absurd (h4.mp z) (by omega)⟩
  · rw [pk_un e])
theorem uk_cl_Ok0 {P zo H oh ok ki T om mo op : Nat → Int32} {o s d : Nat} (h : uk_Ok oh ok ki T om mo op) (hh : uk_Ho P zo H oh) (hs : s < 8) (hp : P s ≠ 0) (hz : zo s = 0) (hd : d < 6) (ho : o < 12) (h1 : H (6 * s + d) = nI o) (hn : uk_sm (uk_hw P zo (upd H (6 * s + d) (-1)) o) 8 = 0) : uk_Ok (upd oh o (oh o - 1)) ok (upd ki o 0) T om mo op := fun o' ho' => by
  obtain ⟨h2, h3⟩ := h o' ho'
  refine ⟨h2, ?_⟩
  by_cases e : o' = o
  · subst e
    have hc := uk_cl_Ho hh hs hp hz hd ho h1
    exact Or.inl ⟨(uk_ohn hc ho).mpr hn, pk_us⟩
  · rw [pk_un e, pk_un e]; exact h3
theorem uk_freC {N ki T ki' T' : Nat → Int32} {f : Nat} (e : ∀ o, o < 12 → ((ki' o = 1 ∧ T' o = nI f) ↔ (ki o = 1 ∧ T o = nI f))) : uk_fre N ki' T' f ↔ uk_fre N ki T f :=
  ⟨fun h => ⟨h.1, fun o ho z => h.2 o ho ((e o ho).mpr z)⟩, fun h => ⟨h.1, fun o ho z => h.2 o ho ((e o ho).mp z)⟩⟩
theorem uk_FiC {N ki T fs sz ki' T' : Nat → Int32} (h : uk_Fi N ki T fs sz) (e : ∀ f, f < 8 → (uk_fre N ki' T' f ↔ uk_fre N ki T f)) : uk_Fi N ki' T' fs sz := ⟨h.1, fun f hf => by
  obtain ⟨h1, h2, h3⟩ := h.2 f hf
  exact ⟨h1, fun z => h2 ((e f hf).mp z), fun z => h3 (fun y => z ((e f hf).mpr y))⟩⟩
/-- the kind of o goes, it was no file -/
theorem uk_cl_Fi1 {N ki T fs sz : Nat → Int32} {o : Nat} (h : uk_Fi N ki T fs sz) (hk : ki o ≠ 1) : uk_Fi N (upd ki o 0) T fs sz := uk_FiC h (fun f _ => uk_freC (fun o' _ => by
  by_cases e : o' = o
  · subst e; rw [pk_us]; exact ⟨fun z => absurd z.1 (by decide), fun z => absurd z.1 hk⟩
  · rw [pk_un e]))
theorem uk_cl_fre {N ki T : Nat → Int32} {o f g : Nat} (hT : T o = nI g) (hg : g < 8) (hf : f < 8) (e : f ≠ g) : uk_fre N (upd ki o 0) T f ↔ uk_fre N ki T f := uk_freC (fun o' _ => by
  by_cases e2 : o' = o
  · subst e2
    rw [pk_us, hT]
    exact ⟨fun z => absurd z.1 (by decide), fun z => absurd ((nI_eq (by omega) (by omega)).mp z.2) (fun y => e y.symm)⟩
  · rw [pk_un e2])
theorem uk_cl_Fi2 {N ki T fs sz : Nat → Int32} {o g : Nat} (h : uk_Fi N ki T fs sz) (hg : g < 8) (hT : T o = nI g) (hn : ¬ uk_fre N (upd ki o 0) T g) (ho : o < 12) (hk : ki o = 1) : uk_Fi N (upd ki o 0) T fs sz := ⟨h.1, fun f hf => by
  obtain ⟨h1, h2, h3⟩ := h.2 f hf
  by_cases e : f = g
  · subst e
    exact ⟨h1, fun z => absurd z hn, fun _ => h3 (fun z => z.2 o ho ⟨hk, hT⟩)⟩
  · have := uk_cl_fre (N := N) (ki := ki) hT hg hf e
    exact ⟨h1, fun z => h2 (this.mp z), fun z => h3 (fun y => z (this.mpr y))⟩⟩
theorem uk_cl_Fi3 {N ki T fs sz : Nat → Int32} {o g : Nat} (h : uk_Fi N ki T fs sz) (hg : g < 8) (hT : T o = nI g) (hn : uk_fre N (upd ki o 0) T g) : uk_Fi N (upd ki o 0) T fs (upd sz g 0) := ⟨h.1, fun f hf => by
  obtain ⟨h1, h2, h3⟩ := h.2 f hf
  by_cases e : f = g
  · subst e
    rw [pk_us]
    exact ⟨vp_in_nI (n := 0) (by omega) (by omega), fun _ => rfl, fun z => absurd hn z⟩
  · have := uk_cl_fre (N := N) (ki := ki) hT hg hf e
    rw [pk_un e]
    exact ⟨h1, fun z => h2 (this.mp z), fun z => h3 (fun y => z (this.mpr y))⟩⟩
/-- blocked ones don't see that another one's descriptor went -/
theorem uk_cl_Wk {P zo zo1 bl G L ln os ob wt wk R H ki ki' : Nat → Int32} {t o s d : Nat} (h : uk_Wk P zo1 bl G L ln os ob wt wk R H ki t) (hd : d < 6) (hzo : ∀ s', s' < 8 → s' ≠ s → zo1 s' = 0 → zo s' = 0) (hs1 : zo1 s = 0 → bl s = 0 ∧ wt s = 0 ∧ wk s = -1) (hk : ∀ o', o' ≠ o → ki' o' = ki o') (hn : uk_sm (uk_hw P zo (upd H (6 * s + d) (-1)) o) 8 = 0 ∨ ki' o = ki o) : uk_Wk P zo1 bl G L ln os ob wt wk R (upd H (6 * s + d) (-1)) ki' t := uk_WkC (Nat.le_refl t) h (fun s' hs' hP hz' => by
  by_cases e : s' = s
  · subst e; exact Or.inl (hs1 hz')
  · refine Or.inr ⟨hP, hz', rfl, rfl, rfl, rfl, rfl, rfl, fun d' hd' => pk_un (by omega), fun d' o' hd' ho' h1 _ => ?_⟩
    by_cases e2 : o' = o
    · subst e2
      rcases hn with hn | hn
      · have h2 : upd H (6 * s + d) (-1) (6 * s' + d') = nI o' := by rw [pk_un (by omega)]; exact h1
        have := uk_hwp hs' hP (hzo s' hs' e hz') hd' h2
        omega
      · exact hn
    · exact hk o' e2)
/-- one descriptor more of an o-file -/
theorem uk_du_Ho {P zo H oh : Nat → Int32} {o s d : Nat} (h : uk_Ho P zo H oh) (hs : s < 8) (hp : P s ≠ 0) (hz : zo s = 0) (hd : d < 6) (ho : o < 12) (h1 : H (6 * s + d) = -1) : uk_Ho P zo (upd H (6 * s + d) (nI o)) (upd oh o (oh o + 1)) := fun o' ho' => by
  by_cases e : o' = o
  · subst e
    rw [pk_us, h o' ho', uk_hwa hs hp hz hd (by rw [h1]; exact fun z => uk_ne1 (n := o') (by omega) z.symm), nI_1]
  · rw [pk_un e, h o' ho', uk_hws hs hd (by rw [h1]; exact fun z => uk_ne1 (n := o') (by omega) z.symm) (uk_nIe ho ho' (fun z => e z.symm))]
theorem uk_du_Ok {P zo H oh ok ki T om mo op : Nat → Int32} {o s d : Nat} (h : uk_Ok oh ok ki T om mo op) (hh : uk_Ho P zo H oh) (hs : s < 8) (hp : P s ≠ 0) (hz : zo s = 0) (hd : d < 6) (ho : o < 12) (h1 : H (6 * s + d) = -1) (hn : oh o ≠ 0) : uk_Ok (upd oh o (oh o + 1)) ok ki T om mo op := uk_OkC h (fun o' ho' => by
  by_cases e : o' = o
  · subst e
    have hc := uk_du_Ho hh hs hp hz hd ho h1
    have h3 := uk_ohn hc ho
    have h5 := uk_hwp (P := P) (zo := zo) (H := upd H (6 * s + d) (nI o')) hs hp hz hd pk_us
    exact ⟨fun z => absurd (h3.mp z) (by omega), fun z => absurd z hn⟩
  · rw [pk_un e])
theorem uk_du_Wk {P zo bl G L ln os ob wt wk R H ki ki' : Nat → Int32} {t s d : Nat} {x : Int32} (h : uk_Wk P zo bl G L ln os ob wt wk R H ki t) (hd : d < 6) (hs1 : bl s = 0 ∧ wt s = 0 ∧ wk s = -1) (hk : ∀ o, o < 12 → (ki o = 2 ∨ ki o = 3) → ki' o = ki o) : uk_Wk P zo bl G L ln os ob wt wk R (upd H (6 * s + d) x) ki' t := uk_WkC (Nat.le_refl t) h (fun s' hs' hP hz' => by
  by_cases e : s' = s
  · subst e; exact Or.inl hs1
  · exact Or.inr ⟨hP, hz', rfl, rfl, rfl, rfl, rfl, rfl, fun d' hd' => pk_un (by omega), fun d' o' hd' ho' h1 h2 => hk o' ho' h2⟩)
/-- a new o-file -/
theorem uk_nw_Ho {P zo H oh : Nat → Int32} {o s d : Nat} (h : uk_Ho P zo H oh) (hs : s < 8) (hp : P s ≠ 0) (hz : zo s = 0) (hd : d < 6) (ho : o < 12) (h1 : H (6 * s + d) = -1) (h0 : oh o = 0) : uk_Ho P zo (upd H (6 * s + d) (nI o)) (upd oh o 1) := by
  have h2 := uk_du_Ho h hs hp hz hd ho h1
  rw [h0] at h2
  exact h2
theorem uk_nw_Ok {oh ok ki T om mo op : Nat → Int32} {o : Nat} {k tg xm ym : Int32} (h : uk_Ok oh ok ki T om mo op) (hv : (k = 1 ∧ xm = ym ∧ ym &&& 3 ≠ 0 ∧ vp_in tg 8) ∨ (k = 2 ∧ xm = 1 ∧ vp_in tg 4) ∨ (k = 3 ∧ xm = 2 ∧ vp_in tg 4)) : uk_Ok (upd oh o 1) (upd ok o k) (upd ki o k) (upd T o tg) (upd om o xm) (upd mo o ym) (upd op o 0) := fun o' ho' => by
  obtain ⟨h2, h3⟩ := h o' ho'
  by_cases e : o' = o
  · subst e
    rw [pk_us, pk_us, pk_us, pk_us, pk_us, pk_us, pk_us]
    exact ⟨vp_in_nI (n := 0) (by omega) (by omega), Or.inr ⟨by decide, rfl, hv⟩⟩
  · rw [pk_un e, pk_un e, pk_un e, pk_un e, pk_un e, pk_un e, pk_un e]; exact ⟨h2, h3⟩
theorem uk_nw_Fi1 {N ki T fs sz : Nat → Int32} {o : Nat} {k tg : Int32} (h : uk_Fi N ki T fs sz) (h0 : ki o ≠ 1) (hk : k ≠ 1) : uk_Fi N (upd ki o k) (upd T o tg) fs sz := uk_FiC h (fun f _ => uk_freC (fun o' _ => by
  by_cases e : o' = o
  · subst e; rw [pk_us, pk_us]; exact ⟨fun z => absurd z.1 hk, fun z => absurd z.1 h0⟩
  · rw [pk_un e, pk_un e]))
theorem uk_nw_Fi2 {N ki T fs sz : Nat → Int32} {o g : Nat} (h : uk_Fi N ki T fs sz) (ho : o < 12) (h0 : ki o ≠ 1) (hg : g < 8) (hfs : fs g = sz g) : uk_Fi N (upd ki o 1) (upd T o (nI g)) fs sz := ⟨h.1, fun f hf => by
  obtain ⟨h1, h2, h3⟩ := h.2 f hf
  by_cases e : f = g
  · subst e
    exact ⟨h1, fun z => absurd ⟨pk_us, pk_us⟩ (z.2 o ho), fun _ => hfs⟩
  · have : uk_fre N (upd ki o 1) (upd T o (nI g)) f ↔ uk_fre N ki T f := uk_freC (fun o' _ => by
      by_cases e2 : o' = o
      · subst e2
        rw [pk_us, pk_us]
        exact ⟨fun z => absurd ((nI_eq (by omega) (by omega)).mp z.2) (fun y => e y.symm), fun z => absurd z.1 h0⟩
      · rw [pk_un e2, pk_un e2])
    exact ⟨h1, fun z => h2 (this.mp z), fun z => h3 (fun y => z (this.mpr y))⟩⟩
end
section
/-! pages and frames -/
theorem uk_fr0 {P pg fr : Nat → Int32} {f s p n : Nat} (h : uk_sm (uk_rw P pg fr f) 8 = 0) (hs : s < 8) (hP : P s ≠ 0) (hn : pg s = nI n) (hb : n < 2 ^ 31) (hp : p < n) : fr (8 * s + p) ≠ nI f := fun z => by
  have h1 := uk_smle (g := uk_rw P pg fr f) 8 hs
  rw [uk_rwn hP hn hb] at h1
  have h2 := uk_cnp (P := fun p => fr (8 * s + p) = nI f) z n hp
  omega
theorem uk_cn2 {P : Nat → Prop} {i j : Nat} (hi : P i) (hj : P j) (hij : i < j) : ∀ n, j < n → 2 ≤ uk_cn P n
  | 0, h => by omega
  | n + 1, h => by
    by_cases e : j = n
    · subst e
      have := uk_cnp hi j hij
      rw [uk_cnt hj]; omega
    · have := uk_cn2 hi hj hij n (by omega)
      rw [uk_cns]; omega
theorem uk_sm2 {g : Nat → Nat} {i j : Nat} (hi : 0 < g i) (hj : 0 < g j) (hij : i < j) : ∀ n, j < n → 2 ≤ uk_sm g n
  | 0, h => by omega
  | n + 1, h => by
    by_cases e : j = n
    · subst e
      have := uk_smle (g := g) j hij
      rw [uk_sms]; omega
    · have := uk_sm2 hi hj hij n (by omega)
      rw [uk_sms]; omega
theorem uk_fr1 {P pg fr : Nat → Int32} {f s p n s' p' n' : Nat} (h : uk_sm (uk_rw P pg fr f) 8 = 1) (hs : s < 8) (hP : P s ≠ 0) (hn : pg s = nI n) (hb : n < 2 ^ 31) (hp : p < n) (e : fr (8 * s + p) = nI f) (hs' : s' < 8) (hP' : P s' ≠ 0) (hn' : pg s' = nI n') (hb' : n' < 2 ^ 31) (hp' : p' < n') (e' : fr (8 * s' + p') = nI f) : s' = s ∧ p' = p := by
  have r1 : 0 < uk_rw P pg fr f s := by
    rw [uk_rwn hP hn hb]; exact uk_cnp (P := fun p => fr (8 * s + p) = nI f) e n hp
  have r2 : 0 < uk_rw P pg fr f s' := by
    rw [uk_rwn hP' hn' hb']; exact uk_cnp (P := fun p => fr (8 * s' + p) = nI f) e' n' hp'
  by_cases e1 : s' = s
  · subst e1
    refine ⟨rfl, ?_⟩
    have en : n' = n := (nI_eq hb' hb).mp (hn'.symm.trans hn)
    subst en
    have h1 := uk_smle (g := uk_rw P pg fr f) 8 hs
    rw [uk_rwn hP hn hb, h] at h1
    by_cases l1 : p' < p
    · have := uk_cn2 (P := fun p => fr (8 * s' + p) = nI f) e' e l1 n' hp
      omega
    · by_cases l2 : p < p'
      · have := uk_cn2 (P := fun p => fr (8 * s' + p) = nI f) e e' l2 n' hp'
        omega
      · omega
  · by_cases l1 : s' < s
    · have := uk_sm2 (g := uk_rw P pg fr f) r2 r1 l1 8 hs
      omega
    · have := uk_sm2 (g := uk_rw P pg fr f) r1 r2 (by omega) 8 hs'
      omega
theorem uk_fun {P zo pc pg pf fr fw me fu : Nat → Int32} (hm : uk_Me P zo pc pg pf fr fw me) (h : uk_Fu P pg fr fu) {f : Nat} (hf : f < 20) : (fu f = 0 ↔ uk_sm (uk_rw P pg fr f) 8 = 0) ∧ (fu f = 1 ↔ uk_sm (uk_rw P pg fr f) 8 = 1) := by
  have h1 := uk_rsle hm f
  rw [h f hf]
  exact ⟨nI_eq (b := 0) (by omega) (by decide), nI_eq (b := 1) (by omega) (by decide)⟩
theorem uk_rwo {P pg fr : Nat → Int32} {f s s' p : Nat} {x : Int32} {m : Int32} (hm : P s' ≠ 0 → (pg s').toNatClampNeg ≤ 8) (hp : p < 8) (e : s' ≠ s) : uk_rw P (upd pg s m) (upd fr (8 * s + p) x) f s' = uk_rw P pg fr f s' := by
  unfold uk_rw
  rw [pk_un e]
  by_cases hP : P s' = 0
  · rw [uk_b0 (fun z => z hP), Nat.zero_mul, Nat.zero_mul]
  · rw [uk_cnc (P := fun p' => upd fr (8 * s + p) x (8 * s' + p') = nI f) (Q := fun p' => fr (8 * s' + p') = nI f) _ (fun i hi => by rw [pk_un (by have := hm hP; omega)])]
/-- one page more, of zeros, in a free frame -/
theorem uk_ad_Me {P zo pc pg pf fr fw me : Nat → Int32} {s n f : Nat} (h : uk_Me P zo pc pg pf fr fw me) (hs : s < 8) (hz : zo s = 0) (hn : pg s = nI n) (hn8 : n < 8) (hf : f < 20) (h0 : uk_sm (uk_rw P pg fr f) 8 = 0) : uk_Me P zo (upd pc s (nI (n + 1))) (upd pg s (nI (n + 1))) (upd pf (8 * s + n) (nI f)) (upd fr (8 * s + n) (nI f)) (uk_fl fw (4 * f) (fun _ => 0) 4) (uk_fl me (32 * s + 4 * n) (fun _ => 0) 4) := fun s' hs' hP => by
  obtain ⟨m, h1, h2, h3, h4, h5⟩ := h s' hs' hP
  by_cases e : s' = s
  · subst e
    have em : m = n := (nI_eq (by omega) (by omega)).mp (h3.symm.trans hn)
    subst em
    refine ⟨m + 1, by omega, pk_us, pk_us, fun z => absurd (hz.symm.trans z) (by decide), fun p hp => ?_⟩
    by_cases ep : p = m
    · subst ep
      rw [pk_us, pk_us, nI_clamp (by omega)]
      refine ⟨vp_in_nI hf (by omega), rfl, fun k hk => ?_⟩
      rw [uk_flin hk, uk_flin hk]
    · rw [pk_un (by omega), pk_un (by omega)]
      obtain ⟨g1, g2, g3⟩ := h5 p (by omega)
      refine ⟨g1, g2, fun k hk => ?_⟩
      have hne := uk_fr0 h0 hs' hP h3 (by omega) (show p < m by omega)
      have hne2 : (fr (8 * s' + p)).toNatClampNeg ≠ f := fun z => hne (by rw [← z]; exact (uk_ofin g1).symm)
      rw [uk_flout (by omega), uk_flout (by omega), g3 k hk]
  · refine ⟨m, h1, by rw [pk_un e]; exact h2, by rw [pk_un e]; exact h3, h4, fun p hp => ?_⟩
    rw [pk_un (by omega), pk_un (by omega)]
    obtain ⟨g1, g2, g3⟩ := h5 p hp
    refine ⟨g1, g2, fun k hk => ?_⟩
    have hne := uk_fr0 h0 hs' hP h3 (by omega) hp
    have hne2 : (fr (8 * s' + p)).toNatClampNeg ≠ f := fun z => hne (by rw [← z]; exact (uk_ofin g1).symm)
    rw [uk_flout (by omega), uk_flout (by omega), g3 k hk]
theorem uk_pg8 {P zo pc pg pf fr fw me : Nat → Int32} (h : uk_Me P zo pc pg pf fr fw me) {s : Nat} (hs : s < 8) (hP : P s ≠ 0) : (pg s).toNatClampNeg ≤ 8 := by
  obtain ⟨m, h1, _, h3, _⟩ := h s hs hP
  rw [h3, nI_clamp (by omega)]; exact h1
theorem uk_ad_Fu {P zo pc pg pf fr fw me fu : Nat → Int32} {s n f : Nat} (hm : uk_Me P zo pc pg pf fr fw me) (h : uk_Fu P pg fr fu) (hs : s < 8) (hP : P s ≠ 0) (hn : pg s = nI n) (hn8 : n < 8) (hf : f < 20) (h0 : uk_sm (uk_rw P pg fr f) 8 = 0) : uk_Fu P (upd pg s (nI (n + 1))) (upd fr (8 * s + n) (nI f)) (upd fu f 1) := fun f' hf' => by
  have h1 := uk_smset (g := uk_rw P pg fr f') (h := uk_rw P (upd pg s (nI (n + 1))) (upd fr (8 * s + n) (nI f)) f') 8 hs (fun i hi e => (uk_rwo (fun hp => uk_pg8 hm hi hp) hn8 e).symm)
  have h2 : uk_rw P (upd pg s (nI (n + 1))) (upd fr (8 * s + n) (nI f)) f' s = uk_rw P pg fr f' s + uk_b (f = f') := by
    rw [uk_rwn (n := n + 1) hP pk_us (by omega), uk_rwn hP hn (by omega), uk_cns]
    rw [uk_cnc (P := fun p => upd fr (8 * s + n) (nI f) (8 * s + p) = nI f') (Q := fun p => fr (8 * s + p) = nI f') n (fun i hi => by rw [pk_un (by omega)])]
    congr 1
    exact uk_bi (by rw [pk_us]; exact nI_eq (by omega) (by omega))
  by_cases e : f' = f
  · subst e
    rw [pk_us]
    rw [uk_b1 rfl] at h2
    exact (show (1 : Int32) = nI 1 from rfl).trans (congrArg nI (by omega))
  · rw [pk_un e, h f' hf']
    rw [uk_b0 (fun z => e z.symm)] at h2
    exact congrArg nI (by omega)
/-- a shared page gets a frame of its own -/
theorem uk_ow_Me {P zo pc pg pf fr fw me : Nat → Int32} {s n p f f0 : Nat} (h : uk_Me P zo pc pg pf fr fw me) (hs : s < 8) (hn : pg s = nI n) (hb : n < 2 ^ 31) (hp : p < n) (hf0 : fr (8 * s + p) = nI f0) (hf0' : f0 < 20) (hf : f < 20) (h0 : uk_sm (uk_rw P pg fr f) 8 = 0) : uk_Me P zo pc pg (upd pf (8 * s + p) (nI f)) (upd fr (8 * s + p) (nI f)) (uk_fl fw (4 * f) (fun k => fw (4 * f0 + k)) 4) me := fun s' hs' hP => by
  obtain ⟨m, h1, h2, h3, h4, h5⟩ := h s' hs' hP
  refine ⟨m, h1, h2, h3, h4, fun p' hp' => ?_⟩
  obtain ⟨g1, g2, g3⟩ := h5 p' hp'
  have hne := uk_fr0 h0 hs' hP h3 (by omega) hp'
  have hne2 : (fr (8 * s' + p')).toNatClampNeg ≠ f := fun z => hne (by rw [← z]; exact (uk_ofin g1).symm)
  by_cases e : 8 * s' + p' = 8 * s + p
  · rw [e, pk_us, pk_us, nI_clamp (by omega)]
    refine ⟨vp_in_nI hf (by omega), rfl, fun k hk => ?_⟩
    rw [uk_flin hk]
    have g4 := g3 k hk
    rw [e, hf0, nI_clamp (by omega)] at g4
    exact g4
  · rw [pk_un e, pk_un e]
    refine ⟨g1, g2, fun k hk => ?_⟩
    rw [uk_flout (by omega), g3 k hk]
theorem uk_ow_Fu {P zo pc pg pf fr fw me fu : Nat → Int32} {s n p f f0 : Nat} (hm : uk_Me P zo pc pg pf fr fw me) (h : uk_Fu P pg fr fu) (hs : s < 8) (hP : P s ≠ 0) (hn : pg s = nI n) (hn8 : n ≤ 8) (hp : p < n) (hf0 : fr (8 * s + p) = nI f0) (hf0' : f0 < 20) (hf : f < 20) (h0 : uk_sm (uk_rw P pg fr f) 8 = 0) : uk_Fu P pg (upd fr (8 * s + p) (nI f)) (upd (upd fu f0 (fu f0 - 1)) f 1) := fun f' hf' => by
  have eu : upd pg s (pg s) = pg := uk_uself pg s
  have h1 := uk_smset (g := uk_rw P pg fr f') (h := uk_rw P pg (upd fr (8 * s + p) (nI f)) f') 8 hs (fun i hi e => by
    have := uk_rwo (f := f') (x := nI f) (m := pg s) (fr := fr) (fun hp => uk_pg8 hm hi hp) (show p < 8 by omega) e
    rw [eu] at this
    exact this.symm)
  have hff : f ≠ f0 := fun z => uk_fr0 h0 hs hP hn (by omega) hp (by rw [hf0, z])
  rw [uk_rwn hP hn (by omega), uk_rwn hP hn (by omega)] at h1
  by_cases e : f' = f
  · subst e
    rw [pk_us]
    have h2 := uk_cnset (P := fun q => fr (8 * s + q) = nI f') (Q := fun q => upd fr (8 * s + p) (nI f') (8 * s + q) = nI f') (k := p) (by show ¬ fr (8 * s + p) = nI f'; rw [hf0]; exact fun z => hff ((nI_eq (by omega) (by omega)).mp z).symm) pk_us n hp (fun i _ e => by rw [pk_un (by omega)])
    exact (show (1 : Int32) = nI 1 from rfl).trans (congrArg nI (by omega))
  · rw [pk_un e]
    by_cases e2 : f' = f0
    · subst e2
      have h2 := uk_cnset (P := fun q => upd fr (8 * s + p) (nI f) (8 * s + q) = nI f') (Q := fun q => fr (8 * s + q) = nI f') (k := p) (by show ¬ upd fr (8 * s + p) (nI f) (8 * s + p) = nI f'; rw [pk_us]; exact fun z => e ((nI_eq (by omega) (by omega)).mp z).symm) hf0 n hp (fun i _ e => by rw [pk_un (by omega)])
      have h3 := uk_smle (g := uk_rw P pg fr f') 8 hs
      rw [uk_rwn hP hn (by omega)] at h3
      rw [pk_us, h f' hf']
      exact (pk_sub (b := 1) (by omega)).trans (congrArg nI (by omega))
    · rw [pk_un e2, h f' hf']
      have h2 := uk_cnc (P := fun q => upd fr (8 * s + p) (nI f) (8 * s + q) = nI f') (Q := fun q => fr (8 * s + q) = nI f') n (fun i _ => by
        by_cases e3 : i = p
        · subst e3; rw [pk_us, hf0]; exact ⟨fun z => absurd ((nI_eq (by omega) (by omega)).mp z).symm e, fun z => absurd ((nI_eq (by omega) (by omega)).mp z).symm e2⟩
        · rw [pk_un (by omega)])
      exact congrArg nI (by omega)
/-- a word of a page that nobody shares -/
theorem uk_wr_Me {P zo pc pg pf fr fw me : Nat → Int32} {s n p f k : Nat} (v : Int32) (h : uk_Me P zo pc pg pf fr fw me) (hs : s < 8) (hP : P s ≠ 0) (hn : pg s = nI n) (hb : n ≤ 8) (hp : p < n) (hf : fr (8 * s + p) = nI f) (hf' : f < 20) (h1 : uk_sm (uk_rw P pg fr f) 8 = 1) (hk : k < 4) : uk_Me P zo pc pg pf fr (upd fw (4 * f + k) v) (upd me (32 * s + 4 * p + k) v) := fun s' hs' hP' => by
  obtain ⟨m, g1, g2, g3, g4, g5⟩ := h s' hs' hP'
  refine ⟨m, g1, g2, g3, g4, fun p' hp' => ?_⟩
  obtain ⟨a1, a2, a3⟩ := g5 p' hp'
  refine ⟨a1, a2, fun k' hk' => ?_⟩
  by_cases e : s' = s ∧ p' = p
  · obtain ⟨rfl, rfl⟩ := e
    rw [hf, nI_clamp (by omega)]
    by_cases ek : k' = k
    · subst ek; rw [pk_us, pk_us]
    · rw [pk_un (by omega), pk_un (by omega)]
      have := a3 k' hk'
      rw [hf, nI_clamp (by omega)] at this
      exact this
  · have hne : (fr (8 * s' + p')).toNatClampNeg ≠ f := fun z => e (uk_fr1 h1 hs hP hn (by omega) hp hf hs' hP' g3 (by omega) hp' (by rw [← z]; exact (uk_ofin a1).symm))
    rw [pk_un (by omega), pk_un (by omega), a3 k' hk']
/-! a forked process -/
theorem uk_fk_Ps {P Q G L U st zo bl : Nat → Int32} {s c : Nat} {x : Int32} (h : uk_Ps P Q G L U st zo bl) (hs : s < 8) (hx : ¬ x < 0) : uk_Ps (upd P c x) (upd Q c (P s)) (upd G c (G s)) (upd L c (L s)) (upd U c 0) (upd st c 1) (upd zo c 0) (upd bl c 0) := fun s' hs' => by
  obtain ⟨h1, h2, h3, h4, h5, h6, h7⟩ := h s' hs'
  obtain ⟨g1, g2, g3, g4, g5, g6, g7⟩ := h s hs
  by_cases e : s' = c
  · subst e
    rw [pk_us, pk_us, pk_us, pk_us, pk_us, pk_us, pk_us, pk_us]
    exact ⟨hx, g1, g3, g4, Or.inl rfl, Or.inl rfl, fun _ => Or.inr ⟨rfl, rfl, Or.inl ⟨rfl, rfl⟩⟩⟩
  · rw [pk_un e, pk_un e, pk_un e, pk_un e, pk_un e, pk_un e, pk_un e, pk_un e]
    exact ⟨h1, h2, h3, h4, h5, h6, h7⟩
theorem uk_fk_Me {P zo pc pg pf fr fw me : Nat → Int32} {s c n : Nat} {x : Int32} (h : uk_Me P zo pc pg pf fr fw me) (hs : s < 8) (hP : P s ≠ 0) (hc : P c = 0) (hn : pg s = nI n) (hn8 : n ≤ 8) : uk_Me (upd P c x) (upd zo c 0) (upd pc c (nI n)) (upd pg c (nI n)) (uk_fl pf (8 * c) (fun p => pf (8 * s + p)) n) (uk_fl fr (8 * c) (fun p => fr (8 * s + p)) 8) fw (uk_fl me (32 * c) (fun k => me (32 * s + k)) 32) := fun s' hs' hP' => by
  by_cases e : s' = c
  · subst e
    obtain ⟨m, h1, h2, h3, h4, h5⟩ := h s hs hP
    have em : m = n := (nI_eq (by omega) (by omega)).mp (h3.symm.trans hn)
    subst em
    refine ⟨m, h1, pk_us, pk_us, fun z => ?_, fun p hp => ?_⟩
    · rw [pk_us] at z; exact absurd z (by decide)
    · rw [uk_flin hp, uk_flin (show p < 8 by omega)]
      obtain ⟨g1, g2, g3⟩ := h5 p hp
      refine ⟨g1, g2, fun k hk => ?_⟩
      rw [g3 k hk, Nat.add_assoc (32 * s') (4 * p) k, uk_flin (show 4 * p + k < 32 by omega), Nat.add_assoc]
  · rw [pk_un e] at hP'
    obtain ⟨m, h1, h2, h3, h4, h5⟩ := h s' hs' hP'
    rw [pk_un e, pk_un e, pk_un e]
    refine ⟨m, h1, h2, h3, h4, fun p hp => ?_⟩
    obtain ⟨g1, g2, g3⟩ := h5 p hp
    rw [uk_flout (by omega), uk_flout (by omega)]
    refine ⟨g1, g2, fun k hk => ?_⟩
    rw [uk_flout (by omega), g3 k hk]
theorem uk_fk_Fu {P zo pc pg pf fr fw me fu : Nat → Int32} {s c n : Nat} {x : Int32} (hm : uk_Me P zo pc pg pf fr fw me) (h : uk_Fu P pg fr fu) (hs : s < 8) (hc8 : c < 8) (hP : P s ≠ 0) (hc : P c = 0) (hx : x ≠ 0) (hn : pg s = nI n) (hn8 : n ≤ 8) : uk_Fu (upd P c x) (upd pg c (nI n)) (uk_fl fr (8 * c) (fun p => fr (8 * s + p)) 8) (uk_icc fu pf (8 * s) n) := fun f hf => by
  obtain ⟨_, _, hq⟩ := uk_pf_fr hm hs hP hn (by omega)
  rw [uk_icc_val h n (fun j hj => by rw [(hq j hj).2]; exact (hq j hj).1) f hf]
  have h1 := uk_smset (g := uk_rw P pg fr f) (h := uk_rw (upd P c x) (upd pg c (nI n)) (uk_fl fr (8 * c) (fun p => fr (8 * s + p)) 8) f) 8 hc8 (fun i hi e => by
    unfold uk_rw
    rw [pk_un e, pk_un e]
    by_cases hPi : P i = 0
    · rw [uk_b0 (fun z => z hPi), Nat.zero_mul, Nat.zero_mul]
    · have h8 := uk_pg8 hm hi hPi
      rw [uk_cnc (P := fun p => uk_fl fr (8 * c) (fun p => fr (8 * s + p)) 8 (8 * i + p) = nI f) (Q := fun p => fr (8 * i + p) = nI f) _ (fun j hj => by rw [uk_flout (by omega)])])
  have h2 : uk_rw (upd P c x) (upd pg c (nI n)) (uk_fl fr (8 * c) (fun p => fr (8 * s + p)) 8) f c = uk_cn (fun j => pf (8 * s + j) = nI f) n := by
    rw [uk_rwn (n := n) (by rw [pk_us]; exact hx) pk_us (by omega)]
    exact uk_cnc n (fun i hi => by rw [uk_flin (show i < 8 by omega), (hq i hi).2])
  rw [uk_rw0 hc] at h1
  exact congrArg nI (by omega)
def uk_hic (oh H : Nat → Int32) (b : Nat) : Nat → Nat → Int32
  | 0 => oh
  | d + 1 => if H (b + d) = -1 then uk_hic oh H b d else upd (uk_hic oh H b d) (H (b + d)).toNatClampNeg (uk_hic oh H b d (H (b + d)).toNatClampNeg + 1)
theorem uk_hic_val {oh H : Nat → Int32} {b : Nat} {T : Nat → Nat} (hT : ∀ o, o < 12 → oh o = nI (T o)) : ∀ d, (∀ j, j < d → H (b + j) = -1 ∨ vp_in (H (b + j)) 12) → ∀ o, o < 12 → uk_hic oh H b d o = nI (T o + uk_cn (fun j => H (b + j) = nI o) d)
  | 0, _, o, ho => hT o ho
  | d + 1, hi, o, ho => by
    have ih := uk_hic_val hT d (fun j hj => hi j (by omega))
    show (if H (b + d) = -1 then uk_hic oh H b d else upd (uk_hic oh H b d) (H (b + d)).toNatClampNeg (uk_hic oh H b d (H (b + d)).toNatClampNeg + 1)) o = _
    by_cases e1 : H (b + d) = -1
    · rw [if_pos e1, uk_cnf (P := fun j => H (b + j) = nI o) (by show ¬ H (b + d) = nI o; rw [e1]; exact fun z => uk_ne1 (n := o) (by omega) z.symm)]
      exact ih o ho
    · rw [if_neg e1]
      have hv := (hi d (by omega)).resolve_left e1
      have hof := uk_ofin hv
      by_cases e : o = (H (b + d)).toNatClampNeg
      · have hq : H (b + d) = nI o := by rw [e]; exact hof.symm
        rw [uk_cnt (P := fun j => H (b + j) = nI o) hq, ← e, pk_us, ih o ho, nI_1]
        rfl
      · have hq : ¬ H (b + d) = nI o := fun z => e (by rw [z, nI_clamp (by omega)])
        rw [uk_cnf (P := fun j => H (b + j) = nI o) hq, pk_un e, ih o ho]
theorem uk_fk_Hd {P zo H : Nat → Int32} {s c : Nat} {x : Int32} (h : uk_Hd P zo H) (hs : s < 8) (hP : P s ≠ 0) (hz : zo s = 0) : uk_Hd (upd P c x) (upd zo c 0) (uk_fl H (6 * c) (fun d => H (6 * s + d)) 6) := fun s' hs' hP' hz' d hd => by
  by_cases e : s' = c
  · subst e; rw [uk_flin hd]; exact h s hs hP hz d hd
  · rw [pk_un e] at hP' hz'
    rw [uk_flout (by omega)]; exact h s' hs' hP' hz' d hd
theorem uk_fk_Ho {P zo H oh : Nat → Int32} {s c : Nat} {x : Int32} (hh : uk_Hd P zo H) (h : uk_Ho P zo H oh) (hs : s < 8) (hc8 : c < 8) (hP : P s ≠ 0) (hz : zo s = 0) (hc : P c = 0) (hx : x ≠ 0) : uk_Ho (upd P c x) (upd zo c 0) (uk_fl H (6 * c) (fun d => H (6 * s + d)) 6) (uk_hic oh H (6 * s) 6) := fun o ho => by
  rw [uk_hic_val h 6 (fun j hj => hh s hs hP hz j hj) o ho]
  have h1 := uk_smset (g := uk_hw P zo H o) (h := uk_hw (upd P c x) (upd zo c 0) (uk_fl H (6 * c) (fun d => H (6 * s + d)) 6) o) 8 hc8 (fun i hi e => by
    unfold uk_hw
    rw [pk_un e, pk_un e, uk_cnc (P := fun p => uk_fl H (6 * c) (fun d => H (6 * s + d)) 6 (6 * i + p) = nI o) (Q := fun p => H (6 * i + p) = nI o) 6 (fun j hj => by rw [uk_flout (by omega)])])
  have h2 : uk_hw (upd P c x) (upd zo c 0) (uk_fl H (6 * c) (fun d => H (6 * s + d)) 6) o c = uk_cn (fun j => H (6 * s + j) = nI o) 6 := by
    rw [uk_hwn (by rw [pk_us]; exact hx) pk_us]
    exact uk_cnc 6 (fun i hi => by rw [uk_flin hi])
  rw [uk_hw0 (fun z => z.1 hc)] at h1
  exact congrArg nI (by omega)
theorem uk_fk_Ok {P zo H oh ok ki T om mo op : Nat → Int32} {s : Nat} (hh : uk_Hd P zo H) (h : uk_Ho P zo H oh) (hO : uk_Ok oh ok ki T om mo op) (hs : s < 8) (hP : P s ≠ 0) (hz : zo s = 0) : uk_Ok (uk_hic oh H (6 * s) 6) ok ki T om mo op := uk_OkC hO (fun o ho => by
  have h1 := uk_hsle P zo H o
  have h2 := uk_cnle (fun j => H (6 * s + j) = nI o) 6
  have h3 := uk_smle (g := uk_hw P zo H o) 8 hs
  rw [uk_hwn hP hz] at h3
  rw [uk_hic_val h 6 (fun j hj => hh s hs hP hz j hj) o ho, h o ho]
  rw [show ((0 : Int32)) = nI 0 from rfl, nI_eq (by omega) (by omega), nI_eq (by omega) (by omega)]
  omega)
theorem uk_fk_Wk {P zo bl G L ln os ob wt wk R H ki R' : Nat → Int32} {t s c : Nat} {x : Int32} (h : uk_Wk P zo bl G L ln os ob wt wk R H ki t) (hR : ∀ s', s' < 8 → s' ≠ c → R' (4 * s') = R (4 * s')) : uk_Wk (upd P c x) (upd zo c 0) (upd bl c 0) (upd G c (G s)) (upd L c (L s)) ln os ob (upd wt c 0) (upd wk c (-1)) R' (uk_fl H (6 * c) (fun d => H (6 * s + d)) 6) ki t := uk_WkC (Nat.le_refl t) h (fun s' hs' hP hz' => by
  by_cases e : s' = c
  · subst e; exact Or.inl ⟨pk_us, pk_us, pk_us⟩
  · rw [pk_un e] at hP hz'
    rw [pk_un e, pk_un e, pk_un e, pk_un e, pk_un e]
    exact Or.inr ⟨hP, hz', rfl, rfl, rfl, rfl, rfl, hR s' hs' e, fun d hd => uk_flout (by omega), fun _ _ _ _ _ _ => rfl⟩)
end
section
/-! pipes -/
theorem uk_pi_rd {C pf pw pi : Nat → Int32} {q c f : Nat} (h : uk_Pi C pf pw pi) (hq : q < 4) (hC : C q = nI (c + 1)) (hf : pf q = nI f) (hc4 : c < 4) (hf4 : f < 4) : pw (4 * q + f) = pi (4 * q) ∧ uk_Pi (upd C q (nI c)) (upd pf q (nI ((f + 1) % 4))) pw (uk_fl pi (4 * q) (fun k => pi (4 * q + k + 1)) c) := by
  obtain ⟨c', f', h1, h2, h3, h4, h5⟩ := h q hq
  have e1 : c' = c + 1 := (nI_eq (by omega) (by omega)).mp (h3.symm.trans hC)
  have e2 : f' = f := (nI_eq (by omega) (by omega)).mp (h4.symm.trans hf)
  subst e1 e2
  constructor
  · have := h5 0 (by omega)
    rw [show (f' + 0) % 4 = f' from by omega] at this
    exact this
  · intro q' hq'
    by_cases e : q' = q
    · subst e
      refine ⟨c, (f' + 1) % 4, by omega, by omega, pk_us, pk_us, fun j hj => ?_⟩
      rw [uk_flin hj]
      have := h5 (j + 1) (by omega)
      rw [show ((f' + 1) % 4 + j) % 4 = (f' + (j + 1)) % 4 from by omega]
      exact this
    · obtain ⟨c2, f2, g1, g2, g3, g4, g5⟩ := h q' hq'
      refine ⟨c2, f2, g1, g2, by rw [pk_un e]; exact g3, by rw [pk_un e]; exact g4, fun j hj => ?_⟩
      rw [uk_flout (by omega)]; exact g5 j hj
theorem uk_pi_wr {C pf pw pi : Nat → Int32} {q c f : Nat} (v : Int32) (h : uk_Pi C pf pw pi) (hq : q < 4) (hC : C q = nI c) (hf : pf q = nI f) (hc4 : c < 4) (hf4 : f < 4) : uk_Pi (upd C q (nI (c + 1))) pf (upd pw (4 * q + (f + c) % 4) v) (upd pi (4 * q + c) v) := by
  intro q' hq'
  obtain ⟨c2, f2, g1, g2, g3, g4, g5⟩ := h q' hq'
  by_cases e : q' = q
  · subst e
    have e1 : c2 = c := (nI_eq (by omega) (by omega)).mp (g3.symm.trans hC)
    have e2 : f2 = f := (nI_eq (by omega) (by omega)).mp (g4.symm.trans hf)
    subst e1 e2
    refine ⟨c2 + 1, f2, by omega, g2, pk_us, g4, fun j hj => ?_⟩
    by_cases ej : j = c2
    · subst ej; rw [pk_us, pk_us]
    · rw [pk_un (by omega), pk_un (by omega)]; exact g5 j (by omega)
  · refine ⟨c2, f2, g1, g2, by rw [pk_un e]; exact g3, g4, fun j hj => ?_⟩
    rw [pk_un (by omega), pk_un (by omega)]; exact g5 j hj
theorem uk_pi_nw {C pf pw pi : Nat → Int32} (q : Nat) (h : uk_Pi C pf pw pi) : uk_Pi (upd C q 0) (upd pf q 0) pw pi := by
  intro q' hq'
  by_cases e : q' = q
  · subst e
    exact ⟨0, 0, by omega, by omega, pk_us, pk_us, fun j hj => by omega⟩
  · rw [pk_un e, pk_un e]; exact h q' hq'
/-! files -/
theorem uk_Ok_op {oh ok ki T om mo op : Nat → Int32} {x : Int32} (o : Nat) (h : uk_Ok oh ok ki T om mo op) (hx : vp_in x 17) : uk_Ok oh ok ki T om mo (upd op o x) := fun o' ho' => by
  obtain ⟨h1, h2⟩ := h o' ho'
  refine ⟨?_, h2⟩
  by_cases e : o' = o
  · subst e; rw [pk_us]; exact hx
  · rw [pk_un e]; exact h1
theorem uk_Fi_sz {N ki T fs sz : Nat → Int32} {g : Nat} {x : Int32} (h : uk_Fi N ki T fs sz) (hx : vp_in x 17) (hn : ¬ uk_fre N ki T g) : uk_Fi N ki T (upd fs g x) (upd sz g x) := ⟨h.1, fun f hf => by
  obtain ⟨h1, h2, h3⟩ := h.2 f hf
  by_cases e : f = g
  · subst e; rw [pk_us, pk_us]; exact ⟨hx, fun z => absurd z hn, fun _ => rfl⟩
  · rw [pk_un e, pk_un e]; exact ⟨h1, h2, h3⟩⟩
theorem uk_NU {N : Nat → Int32} {y : Nat} {x : Int32} (h : ∀ k, k < 8 → N k = -1 ∨ vp_in (N k) 8) (hx : x = -1 ∨ vp_in x 8) : ∀ k, k < 8 → upd N y x k = -1 ∨ vp_in (upd N y x k) 8 := fun k hk => by
  by_cases e : k = y
  · subst e; rw [pk_us]; exact hx
  · rw [pk_un e]; exact h k hk
theorem uk_freN {N N' ki T : Nat → Int32} {f : Nat} (e : (∃ k, k < 8 ∧ N' k = nI f) ↔ (∃ k, k < 8 ∧ N k = nI f)) : uk_fre N' ki T f ↔ uk_fre N ki T f :=
  ⟨fun h => ⟨fun k hk z => by
    obtain ⟨k', hk', z'⟩ := e.mpr ⟨k, hk, z⟩
    exact h.1 k' hk' z', h.2⟩, fun h => ⟨fun k hk z => by
    obtain ⟨k', hk', z'⟩ := e.mp ⟨k, hk, z⟩
    exact h.1 k' hk' z', h.2⟩⟩
theorem uk_Fi_ln {N ki T fs sz : Nat → Int32} {x y : Nat} (h : uk_Fi N ki T fs sz) (hx : x < 8) (hy : y < 8) (hy1 : N y = -1) : uk_Fi (upd N y (N x)) ki T fs sz := by
  have hfr : ∀ f, f < 8 → (uk_fre (upd N y (N x)) ki T f ↔ uk_fre N ki T f) := fun f hf => uk_freN (by
    constructor
    · rintro ⟨k, hk, z⟩
      by_cases e : k = y
      · subst e; rw [pk_us] at z; exact ⟨x, hx, z⟩
      · rw [pk_un e] at z; exact ⟨k, hk, z⟩
    · rintro ⟨k, hk, z⟩
      by_cases e : k = y
      · subst e; rw [hy1] at z; exact absurd z.symm (uk_ne1 (n := f) (by omega))
      · exact ⟨k, hk, by rw [pk_un e]; exact z⟩)
  refine ⟨uk_NU h.1 (h.1 x hx), fun f hf => ?_⟩
  obtain ⟨h1, h2, h3⟩ := h.2 f hf
  exact ⟨h1, fun z => h2 ((hfr f hf).mp z), fun z => h3 (fun w => z ((hfr f hf).mpr w))⟩
theorem uk_ul_fre {N ki T : Nat → Int32} {x g f : Nat} (hg : g < 8) (hN : N x = nI g) (hf : f < 8) (e : f ≠ g) : uk_fre (upd N x (-1)) ki T f ↔ uk_fre N ki T f := uk_freN (by
  constructor
  · rintro ⟨k, hk, z⟩
    by_cases e2 : k = x
    · subst e2; rw [pk_us] at z; exact absurd z.symm (uk_ne1 (n := f) (by omega))
    · rw [pk_un e2] at z; exact ⟨k, hk, z⟩
  · rintro ⟨k, hk, z⟩
    by_cases e2 : k = x
    · subst e2; rw [hN] at z; exact absurd ((nI_eq (by omega) (by omega)).mp z).symm e
    · exact ⟨k, hk, by rw [pk_un e2]; exact z⟩)
theorem uk_Fi_ul0 {N ki T fs sz : Nat → Int32} {x g : Nat} (h : uk_Fi N ki T fs sz) (hx : x < 8) (hg : g < 8) (hN : N x = nI g) (hn : uk_fre (upd N x (-1)) ki T g) : uk_Fi (upd N x (-1)) ki T fs (upd sz g 0) := by
  refine ⟨uk_NU h.1 (Or.inl rfl), fun f hf => ?_⟩
  obtain ⟨h1, h2, h3⟩ := h.2 f hf
  by_cases e : f = g
  · subst e; rw [pk_us]; exact ⟨vp_in_nI (n := 0) (by omega) (by omega), fun _ => rfl, fun z => absurd hn z⟩
  · have := uk_ul_fre (ki := ki) (T := T) hg hN hf e
    rw [pk_un e]
    exact ⟨h1, fun z => h2 (this.mp z), fun z => h3 (fun w => z (this.mpr w))⟩
theorem uk_Fi_ul1 {N ki T fs sz : Nat → Int32} {x g : Nat} (h : uk_Fi N ki T fs sz) (hx : x < 8) (hg : g < 8) (hN : N x = nI g) (hn : ¬ uk_fre (upd N x (-1)) ki T g) : uk_Fi (upd N x (-1)) ki T fs sz := by
  refine ⟨uk_NU h.1 (Or.inl rfl), fun f hf => ?_⟩
  obtain ⟨h1, h2, h3⟩ := h.2 f hf
  by_cases e : f = g
  · subst e; exact ⟨h1, fun z => absurd z hn, fun _ => h3 (fun z => z.1 x hx hN)⟩
  · have := uk_ul_fre (ki := ki) (T := T) hg hN hf e
    exact ⟨h1, fun z => h2 (this.mp z), fun z => h3 (fun w => z (this.mpr w))⟩
theorem uk_Fi_mk {N ki T fs sz : Nat → Int32} {y g : Nat} (h : uk_Fi N ki T fs sz) (hy : y < 8) (hg : g < 8) (hy1 : N y = -1) : uk_Fi (upd N y (nI g)) ki T (upd fs g 0) (upd sz g 0) := by
  refine ⟨uk_NU h.1 (Or.inr (vp_in_nI hg (by omega))), fun f hf => ?_⟩
  obtain ⟨h1, h2, h3⟩ := h.2 f hf
  by_cases e : f = g
  · subst e; rw [pk_us, pk_us]; exact ⟨vp_in_nI (n := 0) (by omega) (by omega), fun _ => rfl, fun _ => rfl⟩
  · have : uk_fre (upd N y (nI g)) ki T f ↔ uk_fre N ki T f := uk_freN (by
      constructor
      · rintro ⟨k, hk, z⟩
        by_cases e2 : k = y
        · subst e2; rw [pk_us] at z; exact absurd ((nI_eq (by omega) (by omega)).mp z).symm e
        · rw [pk_un e2] at z; exact ⟨k, hk, z⟩
      · rintro ⟨k, hk, z⟩
        by_cases e2 : k = y
        · subst e2; rw [hy1] at z; exact absurd z.symm (uk_ne1 (n := f) (by omega))
        · exact ⟨k, hk, by rw [pk_un e2]; exact z⟩)
    rw [pk_un e, pk_un e]
    exact ⟨h1, fun z => h2 (this.mp z), fun z => h3 (fun w => z (this.mpr w))⟩
theorem uk_fl1 {a g : Nat → Int32} {N j : Nat} (h : j < N) : uk_fl a 0 g N j = g j := by
  have := uk_flin (a := a) (b := 0) (g := g) h
  rw [Nat.zero_add] at this
  exact this
theorem uk_fls0 {a g : Nat → Int32} {i : Nat} : upd (uk_fl a 0 g i) i (g i) = uk_fl a 0 g (i + 1) := by
  have := uk_fls (a := a) (b := 0) (i := i) (g := g)
  rw [Nat.zero_add] at this
  exact this
theorem uk_fl_same {a g : Nat → Int32} {N : Nat} (h : ∀ j, j < N → g j = a j) : uk_fl a 0 g N = a := by
  funext j
  by_cases e : j < N
  · rw [uk_fl1 e, h j e]
  · exact uk_flout (Or.inr (by omega))
theorem uk_Sa_cm {N ki T fs sz sn ss sy : Nat → Int32} (h : uk_Fi N ki T fs sz) : uk_Sa (uk_fl sn 0 N 8) (uk_fl ss 0 fs 8) (uk_fl sy 0 sz 8) := by
  refine ⟨fun k hk => by rw [uk_fl1 hk]; exact h.1 k hk, fun f hf => ?_⟩
  obtain ⟨h1, h2, h3⟩ := h.2 f hf
  rw [uk_fl1 hf, uk_fl1 hf]
  refine ⟨h1, ?_⟩
  rintro ⟨k, hk, z⟩
  rw [uk_fl1 hk] at z
  exact h3 (fun w => w.1 k hk z)
/-! said -/
def uk_sh (sd : Nat → Int32) (x : Int32) : Nat → Int32 := fun j => if j = 0 then x else if j < 16 then sd (j - 1) else sd j
theorem uk_Sd_say {n : Nat} {si sd : Nat → Int32} (x : Int32) (h : uk_Sd n si sd) : uk_Sd (n + 1) (upd si (n % 16) x) (uk_sh sd x) := fun k hk hn => by
  by_cases e : k = 0
  · subst e
    rw [show (n + 1 - 1 - 0) % 16 = n % 16 from by omega, pk_us]
    rfl
  · have h1 := h (k - 1) (by omega) (by omega)
    rw [show (n - 1 - (k - 1)) % 16 = (n + 1 - 1 - k) % 16 from by omega] at h1
    rw [pk_un (by omega), h1]
    show _ = if k = 0 then x else if k < 16 then sd (k - 1) else sd k
    rw [if_neg e, if_pos hk]
end
section
/-! what the two sides ask of the same tables -/
theorem uk_hold48 (P zo H : Nat → Int32) (o : Nat) : uk_cn (fun k => (P (k / 6) ≠ 0 ∧ zo (k / 6) = 0) ∧ H k = nI o) 48 = uk_sm (uk_hw P zo H o) 8 := by
  have e := uk_cnmul (fun k => (P (k / 6) ≠ 0 ∧ zo (k / 6) = 0) ∧ H k = nI o) 6 8
  refine Eq.trans e (uk_smc 8 (fun s hs => ?_))
  unfold uk_hw
  by_cases h : P s ≠ 0 ∧ zo s = 0
  · rw [uk_b1 h, Nat.one_mul]
    exact uk_cnc 6 (fun d hd => by rw [show (6 * s + d) / 6 = s by omega]; exact ⟨fun z => z.2, fun z => ⟨h, z⟩⟩)
  · rw [uk_b0 h, Nat.zero_mul]
    exact uk_cn0 6 (fun d hd z => by rw [show (6 * s + d) / 6 = s by omega] at z; exact h z.1)
theorem uk_used (P pg fr : Nat → Int32) (f : Nat) : uk_sm (uk_rw P pg fr f) 8 ≠ 0 ↔ ∃ s, s < 8 ∧ P s ≠ 0 ∧ ∃ p, p < (pg s).toNatClampNeg ∧ fr (8 * s + p) = nI f := by
  constructor
  · intro h
    refine Classical.byContradiction (fun hn => h (uk_sm0 8 (fun s hs => ?_)))
    unfold uk_rw
    by_cases hP : P s = 0
    · rw [uk_b0 (fun z => z hP), Nat.zero_mul]
    · rw [uk_cn0 _ (fun p hp z => hn ⟨s, hs, hP, p, hp, z⟩), Nat.mul_zero]
  · rintro ⟨s, hs, hP, p, hp, z⟩ h
    have h1 := uk_smle (g := uk_rw P pg fr f) 8 hs
    have h2 := uk_cnp (P := fun p => fr (8 * s + p) = nI f) z _ hp
    unfold uk_rw at h1
    rw [uk_b1 hP, Nat.one_mul] at h1
    unfold uk_rw at h
    omega
theorem uk_ohp {P zo H oh : Nat → Int32} (h : uk_Ho P zo H oh) {o : Nat} (ho : o < 12) : (¬ oh o < 0) ∧ (oh o ≤ 0 ↔ oh o = 0) ∧ (0 < oh o ↔ oh o ≠ 0) := by
  have h1 := uk_hsle P zo H o
  rw [h o ho]
  generalize uk_sm (uk_hw P zo H o) 8 = m at h1
  refine ⟨nI_pos (by omega), ?_, ?_⟩
  · rw [show (0 : Int32) = nI 0 from rfl, nI_leI (by omega) (by omega), nI_eq (by omega) (by omega)]; omega
  · rw [show (0 : Int32) = nI 0 from rfl, nI_ltI (by omega) (by omega), ne_eq, nI_eq (by omega) (by omega)]; omega
theorem uk_okk {P zo H oh ok ki T om mo op : Nat → Int32} (hO : uk_Ok oh ok ki T om mo op) (hh : uk_Ho P zo H oh) {o : Nat} (ho : o < 12) {k : Int32} (hk : k ≠ 0) : (¬ oh o ≤ 0 ∧ ok o = k) ↔ ki o = k := by
  rw [(uk_ohp hh ho).2.1]
  rcases (hO o ho).2 with ⟨a, b⟩ | ⟨a, b, _⟩
  · rw [b]; exact ⟨fun z => absurd a z.1, fun z => absurd z.symm hk⟩
  · rw [b]; exact ⟨fun z => z.2, fun z => ⟨a, z⟩⟩
theorem uk_ki0 {P zo H oh ok ki T om mo op : Nat → Int32} (hO : uk_Ok oh ok ki T om mo op) {o : Nat} (ho : o < 12) : ki o = 0 ↔ oh o = 0 := by
  rcases (hO o ho).2 with ⟨a, b⟩ | ⟨a, b, c⟩
  · exact ⟨fun _ => a, fun _ => b⟩
  · refine ⟨fun z => ?_, fun z => absurd z a⟩
    rw [z] at c
    rcases c with c | c | c
    · exact absurd c.1 (by decide)
    · exact absurd c.1 (by decide)
    · exact absurd c.1 (by decide)
/-- the least by pid of those that Z names -/
noncomputable def uk_be (P : Nat → Int32) (Z : Nat → Prop) : Nat → Int32
  | 0 => -1
  | n + 1 => @ite Int32 (Z n ∧ (uk_be P Z n = -1 ∨ P n < P (uk_be P Z n).toNatClampNeg)) (Classical.propDecidable _) (nI n) (uk_be P Z n)
theorem uk_bet {P : Nat → Int32} {Z : Nat → Prop} {n : Nat} (h : Z n ∧ (uk_be P Z n = -1 ∨ P n < P (uk_be P Z n).toNatClampNeg)) : uk_be P Z (n + 1) = nI n := if_pos h
theorem uk_bef {P : Nat → Int32} {Z : Nat → Prop} {n : Nat} (h : ¬ (Z n ∧ (uk_be P Z n = -1 ∨ P n < P (uk_be P Z n).toNatClampNeg))) : uk_be P Z (n + 1) = uk_be P Z n := if_neg h
theorem uk_bes (P : Nat → Int32) (Z : Nat → Prop) : ∀ n, (uk_be P Z n = -1 ∧ ∀ i, i < n → ¬ Z i) ∨ (∃ i, i < n ∧ uk_be P Z n = nI i ∧ Z i)
  | 0 => Or.inl ⟨rfl, fun i hi => by omega⟩
  | n + 1 => by
    have ih := uk_bes P Z n
    by_cases h : Z n ∧ (uk_be P Z n = -1 ∨ P n < P (uk_be P Z n).toNatClampNeg)
    · rw [uk_bet h]; exact Or.inr ⟨n, by omega, rfl, h.1⟩
    · rw [uk_bef h]
      rcases ih with ⟨a, b⟩ | ⟨i, hi, a, b⟩
      · refine Or.inl ⟨a, fun i hi z => ?_⟩
        by_cases e : i = n
        · subst e; exact h ⟨z, Or.inl a⟩
        · exact b i (by omega) z
      · exact Or.inr ⟨i, by omega, a, b⟩
theorem uk_bec {P : Nat → Int32} {Z Y : Nat → Prop} : ∀ n, (∀ i, i < n → (Z i ↔ Y i)) → uk_be P Z n = uk_be P Y n
  | 0, _ => rfl
  | n + 1, h => by
    have ih := uk_bec (P := P) n (fun i hi => h i (by omega))
    by_cases z : Z n ∧ (uk_be P Z n = -1 ∨ P n < P (uk_be P Z n).toNatClampNeg)
    · rw [uk_bet z]
      rw [ih, h n (by omega)] at z
      rw [uk_bet z]
    · rw [uk_bef z, ih]
      rw [ih, h n (by omega)] at z
      rw [uk_bef z]
/-- the call c of slot s would wait (SLEEP apart) -/
def uk_Bk (P Q zo R H ki T C : Nat → Int32) (s : Nat) (c : Int32) : Prop :=
  (c = 2 ∧ (∃ k, k < 8 ∧ P k ≠ 0 ∧ Q k = P s) ∧ ∀ k, k < 8 → ¬ (P k ≠ 0 ∧ zo k = 1 ∧ Q k = P s)) ∨
  (c = 7 ∧ ∃ d o, d < 6 ∧ o < 12 ∧ R (4 * s) = nI d ∧ H (6 * s + d) = nI o ∧ ki o = 2 ∧ C (T o).toNatClampNeg = 0 ∧ ∃ e, e < 12 ∧ ki e = 3 ∧ T e = T o) ∨
  (c = 8 ∧ ∃ d o, d < 6 ∧ o < 12 ∧ R (4 * s) = nI d ∧ H (6 * s + d) = nI o ∧ ki o = 3 ∧ C (T o).toNatClampNeg = 4 ∧ ∃ e, e < 12 ∧ ki e = 2 ∧ T e = T o)
/-- slot s is ready at time t -/
def uk_Rd (P Q zo bl G L ob wk R H ki T C : Nat → Int32) (t : Int32) (s : Nat) : Prop := P s ≠ 0 ∧ zo s = 0 ∧ (bl s = 0 ∨ (ob (24 * (G s).toNatClampNeg + (L s).toNatClampNeg) ≠ 14 ∧ ¬ uk_Bk P Q zo R H ki T C s (ob (24 * (G s).toNatClampNeg + (L s).toNatClampNeg))) ∨ (ob (24 * (G s).toNatClampNeg + (L s).toNatClampNeg) = 14 ∧ wk s ≤ t))
end
section
/-- the whole relation but Y's time (and its flag): X's time is t -/
def uk_All (t b : Nat) (x_changes x_saidCount x_time x_lastSlot x_sliceSteps x_latestPid x_greatestPid : Int32) (x_code x_codeLengths x_pids x_parents x_programs x_places x_states x_statuses x_stepCounts x_copyCounts x_wakeTimes x_registers x_pageCounts x_pageFrames x_held x_frameUsers x_frameWords x_openHolders x_openKinds x_openTargets x_openPlaces x_openModes x_pipeFirsts x_pipeCounts x_pipeWords x_nameFiles x_fileSizes x_fileWords x_safeNames x_safeSizes x_safeWords x_saidInts : Nat → Int32) (y_time y_last y_lastPid y_did y_killed : Int32) (y_ops y_as y_bs y_pages y_wake y_zombie y_blocked y_memory y_frame y_kind y_mode y_pipe y_size y_safeSize y_said : Nat → Int32) : Prop :=
  (∃ g, x_greatestPid = nI g ∧ g ≤ b + 1) ∧
  (∃ n, x_saidCount = nI n ∧ n ≤ b ∧ uk_Sd n x_saidInts y_said) ∧
  (∃ c, x_changes = nI c ∧ c < 30) ∧
  x_time = nI t ∧
  uk_Pr x_code x_codeLengths y_ops y_as y_bs ∧
  uk_Ps x_pids x_parents x_programs x_places x_statuses x_states y_zombie y_blocked ∧
  uk_Me x_pids y_zombie x_pageCounts y_pages x_pageFrames y_frame x_frameWords y_memory ∧
  uk_Fu x_pids y_pages y_frame x_frameUsers ∧
  uk_Hd x_pids y_zombie x_held ∧
  uk_Ho x_pids y_zombie x_held x_openHolders ∧
  uk_Ok x_openHolders x_openKinds y_kind x_openTargets x_openModes y_mode x_openPlaces ∧
  uk_Pi x_pipeCounts x_pipeFirsts x_pipeWords y_pipe ∧
  uk_Fi x_nameFiles y_kind x_openTargets x_fileSizes y_size ∧
  uk_Sa x_safeNames x_safeSizes y_safeSize ∧
  uk_Sc x_pids x_lastSlot x_sliceSteps y_last y_lastPid y_did ∧
  uk_Wk x_pids y_zombie y_blocked x_programs x_places x_codeLengths y_ops y_bs x_wakeTimes y_wake x_registers x_held y_kind t
def uk_R (t b : Nat) (u : SX) (v : SY) : Prop := ∃ (x_changes x_saidCount x_time x_lastSlot x_sliceSteps x_latestPid x_greatestPid : Int32) (x_code x_codeLengths x_pids x_parents x_programs x_places x_states x_statuses x_stepCounts x_copyCounts x_wakeTimes x_registers x_pageCounts x_pageFrames x_held x_frameUsers x_frameWords x_openHolders x_openKinds x_openTargets x_openPlaces x_openModes x_pipeFirsts x_pipeCounts x_pipeWords x_nameFiles x_fileSizes x_fileWords x_safeNames x_safeSizes x_safeWords x_saidInts : Nat → Int32) (y_time y_last y_lastPid y_did y_killed : Int32) (y_ops y_as y_bs y_pages y_wake y_zombie y_blocked y_memory y_frame y_kind y_mode y_pipe y_size y_safeSize y_said : Nat → Int32), u = (x_changes, x_saidCount, x_time, x_lastSlot, x_sliceSteps, x_latestPid, x_greatestPid, x_code, x_codeLengths, x_pids, x_parents, x_programs, x_places, x_states, x_statuses, x_stepCounts, x_copyCounts, x_wakeTimes, x_registers, x_pageCounts, x_pageFrames, x_held, x_frameUsers, x_frameWords, x_openHolders, x_openKinds, x_openTargets, x_openPlaces, x_openModes, x_pipeFirsts, x_pipeCounts, x_pipeWords, x_nameFiles, x_fileSizes, x_fileWords, x_safeNames, x_safeSizes, x_safeWords, x_saidInts) ∧ v = (x_changes, y_time, y_last, y_lastPid, y_did, x_greatestPid, x_latestPid, x_saidCount, y_killed, y_ops, y_as, y_bs, x_codeLengths, x_pids, x_parents, x_programs, x_places, x_statuses, x_stepCounts, x_copyCounts, y_pages, y_wake, y_zombie, y_blocked, x_registers, y_memory, y_frame, x_held, y_kind, x_openTargets, y_mode, x_openPlaces, x_pipeCounts, y_pipe, x_nameFiles, y_size, x_fileWords, x_safeNames, y_safeSize, x_safeWords, y_said) ∧ uk_All t b x_changes x_saidCount x_time x_lastSlot x_sliceSteps x_latestPid x_greatestPid x_code x_codeLengths x_pids x_parents x_programs x_places x_states x_statuses x_stepCounts x_copyCounts x_wakeTimes x_registers x_pageCounts x_pageFrames x_held x_frameUsers x_frameWords x_openHolders x_openKinds x_openTargets x_openPlaces x_openModes x_pipeFirsts x_pipeCounts x_pipeWords x_nameFiles x_fileSizes x_fileWords x_safeNames x_safeSizes x_safeWords x_saidInts y_time y_last y_lastPid y_did y_killed y_ops y_as y_bs y_pages y_wake y_zombie y_blocked y_memory y_frame y_kind y_mode y_pipe y_size y_safeSize y_said
theorem uk_Rmk {t b : Nat} {x_changes x_saidCount x_time x_lastSlot x_sliceSteps x_latestPid x_greatestPid : Int32} {x_code x_codeLengths x_pids x_parents x_programs x_places x_states x_statuses x_stepCounts x_copyCounts x_wakeTimes x_registers x_pageCounts x_pageFrames x_held x_frameUsers x_frameWords x_openHolders x_openKinds x_openTargets x_openPlaces x_openModes x_pipeFirsts x_pipeCounts x_pipeWords x_nameFiles x_fileSizes x_fileWords x_safeNames x_safeSizes x_safeWords x_saidInts : Nat → Int32} {y_time y_last y_lastPid y_did y_killed : Int32} {y_ops y_as y_bs y_pages y_wake y_zombie y_blocked y_memory y_frame y_kind y_mode y_pipe y_size y_safeSize y_said : Nat → Int32} (h : uk_All t b x_changes x_saidCount x_time x_lastSlot x_sliceSteps x_latestPid x_greatestPid x_code x_codeLengths x_pids x_parents x_programs x_places x_states x_statuses x_stepCounts x_copyCounts x_wakeTimes x_registers x_pageCounts x_pageFrames x_held x_frameUsers x_frameWords x_openHolders x_openKinds x_openTargets x_openPlaces x_openModes x_pipeFirsts x_pipeCounts x_pipeWords x_nameFiles x_fileSizes x_fileWords x_safeNames x_safeSizes x_safeWords x_saidInts y_time y_last y_lastPid y_did y_killed y_ops y_as y_bs y_pages y_wake y_zombie y_blocked y_memory y_frame y_kind y_mode y_pipe y_size y_safeSize y_said) : uk_R t b (x_changes, x_saidCount, x_time, x_lastSlot, x_sliceSteps, x_latestPid, x_greatestPid, x_code, x_codeLengths, x_pids, x_parents, x_programs, x_places, x_states, x_statuses, x_stepCounts, x_copyCounts, x_wakeTimes, x_registers, x_pageCounts, x_pageFrames, x_held, x_frameUsers, x_frameWords, x_openHolders, x_openKinds, x_openTargets, x_openPlaces, x_openModes, x_pipeFirsts, x_pipeCounts, x_pipeWords, x_nameFiles, x_fileSizes, x_fileWords, x_safeNames, x_safeSizes, x_safeWords, x_saidInts) (x_changes, y_time, y_last, y_lastPid, y_did, x_greatestPid, x_latestPid, x_saidCount, y_killed, y_ops, y_as, y_bs, x_codeLengths, x_pids, x_parents, x_programs, x_places, x_statuses, x_stepCounts, x_copyCounts, y_pages, y_wake, y_zombie, y_blocked, x_registers, y_memory, y_frame, x_held, y_kind, x_openTargets, y_mode, x_openPlaces, x_pipeCounts, y_pipe, x_nameFiles, y_size, x_fileWords, x_safeNames, y_safeSize, x_safeWords, y_said) := ⟨x_changes, x_saidCount, x_time, x_lastSlot, x_sliceSteps, x_latestPid, x_greatestPid, x_code, x_codeLengths, x_pids, x_parents, x_programs, x_places, x_states, x_statuses, x_stepCounts, x_copyCounts, x_wakeTimes, x_registers, x_pageCounts, x_pageFrames, x_held, x_frameUsers, x_frameWords, x_openHolders, x_openKinds, x_openTargets, x_openPlaces, x_openModes, x_pipeFirsts, x_pipeCounts, x_pipeWords, x_nameFiles, x_fileSizes, x_fileWords, x_safeNames, x_safeSizes, x_safeWords, x_saidInts, y_time, y_last, y_lastPid, y_did, y_killed, y_ops, y_as, y_bs, y_pages, y_wake, y_zombie, y_blocked, y_memory, y_frame, y_kind, y_mode, y_pipe, y_size, y_safeSize, y_said, rfl, rfl, h⟩
def i_Rel (_ : Nat) (u : SX) (v : SY) : Prop := ∃ (t b : Nat) (x_changes x_saidCount x_time x_lastSlot x_sliceSteps x_latestPid x_greatestPid : Int32) (x_code x_codeLengths x_pids x_parents x_programs x_places x_states x_statuses x_stepCounts x_copyCounts x_wakeTimes x_registers x_pageCounts x_pageFrames x_held x_frameUsers x_frameWords x_openHolders x_openKinds x_openTargets x_openPlaces x_openModes x_pipeFirsts x_pipeCounts x_pipeWords x_nameFiles x_fileSizes x_fileWords x_safeNames x_safeSizes x_safeWords x_saidInts : Nat → Int32) (y_time y_last y_lastPid y_did y_killed : Int32) (y_ops y_as y_bs y_pages y_wake y_zombie y_blocked y_memory y_frame y_kind y_mode y_pipe y_size y_safeSize y_said : Nat → Int32), t ≤ 1001000000 ∧ b ≤ t ∧ u = (x_changes, x_saidCount, x_time, x_lastSlot, x_sliceSteps, x_latestPid, x_greatestPid, x_code, x_codeLengths, x_pids, x_parents, x_programs, x_places, x_states, x_statuses, x_stepCounts, x_copyCounts, x_wakeTimes, x_registers, x_pageCounts, x_pageFrames, x_held, x_frameUsers, x_frameWords, x_openHolders, x_openKinds, x_openTargets, x_openPlaces, x_openModes, x_pipeFirsts, x_pipeCounts, x_pipeWords, x_nameFiles, x_fileSizes, x_fileWords, x_safeNames, x_safeSizes, x_safeWords, x_saidInts) ∧ v = (x_changes, x_time, y_last, y_lastPid, y_did, x_greatestPid, x_latestPid, x_saidCount, y_killed, y_ops, y_as, y_bs, x_codeLengths, x_pids, x_parents, x_programs, x_places, x_statuses, x_stepCounts, x_copyCounts, y_pages, y_wake, y_zombie, y_blocked, x_registers, y_memory, y_frame, x_held, y_kind, x_openTargets, y_mode, x_openPlaces, x_pipeCounts, y_pipe, x_nameFiles, y_size, x_fileWords, x_safeNames, y_safeSize, x_safeWords, y_said) ∧ uk_All t b x_changes x_saidCount x_time x_lastSlot x_sliceSteps x_latestPid x_greatestPid x_code x_codeLengths x_pids x_parents x_programs x_places x_states x_statuses x_stepCounts x_copyCounts x_wakeTimes x_registers x_pageCounts x_pageFrames x_held x_frameUsers x_frameWords x_openHolders x_openKinds x_openTargets x_openPlaces x_openModes x_pipeFirsts x_pipeCounts x_pipeWords x_nameFiles x_fileSizes x_fileWords x_safeNames x_safeSizes x_safeWords x_saidInts y_time y_last y_lastPid y_did y_killed y_ops y_as y_bs y_pages y_wake y_zombie y_blocked y_memory y_frame y_kind y_mode y_pipe y_size y_safeSize y_said
theorem i_up {k : Nat} {u : SX} {v : SY} (h : i_Rel k u v) : i_Rel (k + 5) u v := h
end
section
/-! X's readers -/
theorem uk_lp {i : Nat} (N : Nat) (h : i < N) (hN : N < 2 ^ 31) : (¬ nI N ≤ nI i) ∧ vp_in (nI i) N ∧ (nI i).toNatClampNeg = i := ⟨nI_ge h hN, vp_in_nI h hN, nI_clamp (by omega)⟩
theorem uk_refl (a : Int32) : a ≤ a := Int32.le_refl a
theorem uk_inE {x : Int32} {n : Nat} {N : Int32} (hN : N = nI n) (hb : n < 2 ^ 31) : vp_in x n ↔ (¬ x < 0 ∧ ¬ N ≤ x) := by
  subst hN
  constructor
  · intro h
    obtain ⟨j, hj, rfl⟩ := vp_in_of h hb
    exact ⟨nI_pos (by omega), nI_ge hj hb⟩
  · rintro ⟨h1, h2⟩
    obtain ⟨j, hj, rfl⟩ := nI_of h1
    rw [nI_leI hb hj] at h2
    exact vp_in_nI (by omega) hb
section
variable {x_changes x_saidCount x_time x_lastSlot x_sliceSteps x_latestPid x_greatestPid : Int32} {x_code x_codeLengths x_pids x_parents x_programs x_places x_states x_statuses x_stepCounts x_copyCounts x_wakeTimes x_registers x_pageCounts x_pageFrames x_held x_frameUsers x_frameWords x_openHolders x_openKinds x_openTargets x_openPlaces x_openModes x_pipeFirsts x_pipeCounts x_pipeWords x_nameFiles x_fileSizes x_fileWords x_safeNames x_safeSizes x_safeWords x_saidInts : Nat → Int32}
theorem xk_isProgram {post : Int32 → Prop} {p : Int32} (ht : vp_in p 6 → post 1) (hf : ¬ vp_in p 6 → post 0) : wpX_isProgram post (x_changes, x_saidCount, x_time, x_lastSlot, x_sliceSteps, x_latestPid, x_greatestPid, x_code, x_codeLengths, x_pids, x_parents, x_programs, x_places, x_states, x_statuses, x_stepCounts, x_copyCounts, x_wakeTimes, x_registers, x_pageCounts, x_pageFrames, x_held, x_frameUsers, x_frameWords, x_openHolders, x_openKinds, x_openTargets, x_openPlaces, x_openModes, x_pipeFirsts, x_pipeCounts, x_pipeWords, x_nameFiles, x_fileSizes, x_fileWords, x_safeNames, x_safeSizes, x_safeWords, x_saidInts) p := by
  have e := uk_inE (x := p) (n := 6) (N := 6) rfl (by decide)
  unfold wpX_isProgram
  exact ⟨fun a => hf (fun z => (e.mp z).1 a), fun a => ⟨fun b => hf (fun z => (e.mp z).2 b), fun b => ht (e.mpr ⟨a, b⟩)⟩⟩
theorem xk_isRegister {post : Int32 → Prop} {p : Int32} (ht : vp_in p 4 → post 1) (hf : ¬ vp_in p 4 → post 0) : wpX_isRegister post (x_changes, x_saidCount, x_time, x_lastSlot, x_sliceSteps, x_latestPid, x_greatestPid, x_code, x_codeLengths, x_pids, x_parents, x_programs, x_places, x_states, x_statuses, x_stepCounts, x_copyCounts, x_wakeTimes, x_registers, x_pageCounts, x_pageFrames, x_held, x_frameUsers, x_frameWords, x_openHolders, x_openKinds, x_openTargets, x_openPlaces, x_openModes, x_pipeFirsts, x_pipeCounts, x_pipeWords, x_nameFiles, x_fileSizes, x_fileWords, x_safeNames, x_safeSizes, x_safeWords, x_saidInts) p := by
  have e := uk_inE (x := p) (n := 4) (N := 4) rfl (by decide)
  unfold wpX_isRegister
  exact ⟨fun a => hf (fun z => (e.mp z).1 a), fun a => ⟨fun b => hf (fun z => (e.mp z).2 b), fun b => ht (e.mpr ⟨a, b⟩)⟩⟩
theorem xk_isName {post : Int32 → Prop} {p : Int32} (ht : vp_in p 8 → post 1) (hf : ¬ vp_in p 8 → post 0) : wpX_isName post (x_changes, x_saidCount, x_time, x_lastSlot, x_sliceSteps, x_latestPid, x_greatestPid, x_code, x_codeLengths, x_pids, x_parents, x_programs, x_places, x_states, x_statuses, x_stepCounts, x_copyCounts, x_wakeTimes, x_registers, x_pageCounts, x_pageFrames, x_held, x_frameUsers, x_frameWords, x_openHolders, x_openKinds, x_openTargets, x_openPlaces, x_openModes, x_pipeFirsts, x_pipeCounts, x_pipeWords, x_nameFiles, x_fileSizes, x_fileWords, x_safeNames, x_safeSizes, x_safeWords, x_saidInts) p := by
  have e := uk_inE (x := p) (n := 8) (N := 8) rfl (by decide)
  unfold wpX_isName
  exact ⟨fun a => hf (fun z => (e.mp z).1 a), fun a => ⟨fun b => hf (fun z => (e.mp z).2 b), fun b => ht (e.mpr ⟨a, b⟩)⟩⟩
theorem xk_countProcesses {post : Int32 → Prop} (h : post (nI (uk_cn (fun s => x_pids s ≠ 0) 8))) : wpX_countProcesses post (x_changes, x_saidCount, x_time, x_lastSlot, x_sliceSteps, x_latestPid, x_greatestPid, x_code, x_codeLengths, x_pids, x_parents, x_programs, x_places, x_states, x_statuses, x_stepCounts, x_copyCounts, x_wakeTimes, x_registers, x_pageCounts, x_pageFrames, x_held, x_frameUsers, x_frameWords, x_openHolders, x_openKinds, x_openTargets, x_openPlaces, x_openModes, x_pipeFirsts, x_pipeCounts, x_pipeWords, x_nameFiles, x_fileSizes, x_fileWords, x_safeNames, x_safeSizes, x_safeWords, x_saidInts) := by
  unfold wpX_countProcesses
  refine uk_count (fun n i c => wX_countProcesses_4 post x_changes x_saidCount x_time x_lastSlot x_sliceSteps x_latestPid x_greatestPid x_code x_codeLengths x_pids x_parents x_programs x_places x_states x_statuses x_stepCounts x_copyCounts x_wakeTimes x_registers x_pageCounts x_pageFrames x_held x_frameUsers x_frameWords x_openHolders x_openKinds x_openTargets x_openPlaces x_openModes x_pipeFirsts x_pipeCounts x_pipeWords x_nameFiles x_fileSizes x_fileWords x_safeNames x_safeSizes x_safeWords x_saidInts n c (nI i)) (fun s => x_pids s ≠ 0) 8 (fun n => br_t (uk_refl 8) h) (fun n i c hi ht hf => ?_)
  obtain ⟨z, v, e⟩ := uk_lp 8 hi (by decide)
  refine br_f z ⟨v, ?_⟩
  rw [e]
  exact ⟨fun q => nm_r (nI_1 i) (hf (fun z => z q)), fun q => nm_r (nI_1 c) (nm_r (nI_1 i) (ht q))⟩
theorem xk_countFreeFrames {post : Int32 → Prop} (h : post (nI (uk_cn (fun f => x_frameUsers f = 0) 20))) : wpX_countFreeFrames post (x_changes, x_saidCount, x_time, x_lastSlot, x_sliceSteps, x_latestPid, x_greatestPid, x_code, x_codeLengths, x_pids, x_parents, x_programs, x_places, x_states, x_statuses, x_stepCounts, x_copyCounts, x_wakeTimes, x_registers, x_pageCounts, x_pageFrames, x_held, x_frameUsers, x_frameWords, x_openHolders, x_openKinds, x_openTargets, x_openPlaces, x_openModes, x_pipeFirsts, x_pipeCounts, x_pipeWords, x_nameFiles, x_fileSizes, x_fileWords, x_safeNames, x_safeSizes, x_safeWords, x_saidInts) := by
  unfold wpX_countFreeFrames
  refine uk_count (fun n i c => wX_countFreeFrames_4 post x_changes x_saidCount x_time x_lastSlot x_sliceSteps x_latestPid x_greatestPid x_code x_codeLengths x_pids x_parents x_programs x_places x_states x_statuses x_stepCounts x_copyCounts x_wakeTimes x_registers x_pageCounts x_pageFrames x_held x_frameUsers x_frameWords x_openHolders x_openKinds x_openTargets x_openPlaces x_openModes x_pipeFirsts x_pipeCounts x_pipeWords x_nameFiles x_fileSizes x_fileWords x_safeNames x_safeSizes x_safeWords x_saidInts n c (nI i)) (fun f => x_frameUsers f = 0) 20 (fun n => br_t (uk_refl 20) h) (fun n i c hi ht hf => ?_)
  obtain ⟨z, v, e⟩ := uk_lp 20 hi (by decide)
  refine br_f z ⟨v, ?_⟩
  rw [e]
  exact ⟨fun q => nm_r (nI_1 c) (nm_r (nI_1 i) (ht q)), fun q => nm_r (nI_1 i) (hf q)⟩
theorem xk_countOpens {post : Int32 → Prop} {k p : Int32} (h : post (nI (uk_cn (fun o => ¬ x_openHolders o ≤ 0 ∧ x_openKinds o = k ∧ x_openTargets o = p) 12))) : wpX_countOpens post (x_changes, x_saidCount, x_time, x_lastSlot, x_sliceSteps, x_latestPid, x_greatestPid, x_code, x_codeLengths, x_pids, x_parents, x_programs, x_places, x_states, x_statuses, x_stepCounts, x_copyCounts, x_wakeTimes, x_registers, x_pageCounts, x_pageFrames, x_held, x_frameUsers, x_frameWords, x_openHolders, x_openKinds, x_openTargets, x_openPlaces, x_openModes, x_pipeFirsts, x_pipeCounts, x_pipeWords, x_nameFiles, x_fileSizes, x_fileWords, x_safeNames, x_safeSizes, x_safeWords, x_saidInts) k p := by
  unfold wpX_countOpens
  refine uk_count (fun n i c => wX_countOpens_5 post k p x_changes x_saidCount x_time x_lastSlot x_sliceSteps x_latestPid x_greatestPid x_code x_codeLengths x_pids x_parents x_programs x_places x_states x_statuses x_stepCounts x_copyCounts x_wakeTimes x_registers x_pageCounts x_pageFrames x_held x_frameUsers x_frameWords x_openHolders x_openKinds x_openTargets x_openPlaces x_openModes x_pipeFirsts x_pipeCounts x_pipeWords x_nameFiles x_fileSizes x_fileWords x_safeNames x_safeSizes x_safeWords x_saidInts n c (nI i)) (fun o => ¬ x_openHolders o ≤ 0 ∧ x_openKinds o = k ∧ x_openTargets o = p) 12 (fun n => br_t (uk_refl 12) h) (fun n i c hi ht hf => ?_)
  obtain ⟨z, v, e⟩ := uk_lp 12 hi (by decide)
  refine br_f z ⟨v, ?_⟩
  rw [e]
  exact ⟨fun a => nm_r (nI_1 i) (hf (fun z => z.1 a)), fun a => ⟨v, fun b => ⟨v, fun d => nm_r (nI_1 c) (nm_r (nI_1 i) (ht ⟨a, b, d⟩)), fun d => nm_r (nI_1 i) (hf (fun z => d z.2.2))⟩, fun b => nm_r (nI_1 i) (hf (fun z => b z.2.1))⟩⟩
theorem xk_countOpenFiles {post : Int32 → Prop} (h : post (nI (uk_cn (fun o => ¬ x_openHolders o ≤ 0) 12))) : wpX_countOpenFiles post (x_changes, x_saidCount, x_time, x_lastSlot, x_sliceSteps, x_latestPid, x_greatestPid, x_code, x_codeLengths, x_pids, x_parents, x_programs, x_places, x_states, x_statuses, x_stepCounts, x_copyCounts, x_wakeTimes, x_registers, x_pageCounts, x_pageFrames, x_held, x_frameUsers, x_frameWords, x_openHolders, x_openKinds, x_openTargets, x_openPlaces, x_openModes, x_pipeFirsts, x_pipeCounts, x_pipeWords, x_nameFiles, x_fileSizes, x_fileWords, x_safeNames, x_safeSizes, x_safeWords, x_saidInts) := by
  unfold wpX_countOpenFiles
  refine uk_count (fun n i c => wX_countOpenFiles_4 post x_changes x_saidCount x_time x_lastSlot x_sliceSteps x_latestPid x_greatestPid x_code x_codeLengths x_pids x_parents x_programs x_places x_states x_statuses x_stepCounts x_copyCounts x_wakeTimes x_registers x_pageCounts x_pageFrames x_held x_frameUsers x_frameWords x_openHolders x_openKinds x_openTargets x_openPlaces x_openModes x_pipeFirsts x_pipeCounts x_pipeWords x_nameFiles x_fileSizes x_fileWords x_safeNames x_safeSizes x_safeWords x_saidInts n c (nI i)) (fun o => ¬ x_openHolders o ≤ 0) 12 (fun n => br_t (uk_refl 12) h) (fun n i c hi ht hf => ?_)
  obtain ⟨z, v, e⟩ := uk_lp 12 hi (by decide)
  refine br_f z ⟨v, ?_⟩
  rw [e]
  exact ⟨fun q => nm_r (nI_1 i) (hf (fun z => z q)), fun q => nm_r (nI_1 c) (nm_r (nI_1 i) (ht q))⟩
theorem xk_countNames {post : Int32 → Prop} {f : Int32} (h : post (nI (uk_cn (fun k => x_nameFiles k = f) 8))) : wpX_countNames post (x_changes, x_saidCount, x_time, x_lastSlot, x_sliceSteps, x_latestPid, x_greatestPid, x_code, x_codeLengths, x_pids, x_parents, x_programs, x_places, x_states, x_statuses, x_stepCounts, x_copyCounts, x_wakeTimes, x_registers, x_pageCounts, x_pageFrames, x_held, x_frameUsers, x_frameWords, x_openHolders, x_openKinds, x_openTargets, x_openPlaces, x_openModes, x_pipeFirsts, x_pipeCounts, x_pipeWords, x_nameFiles, x_fileSizes, x_fileWords, x_safeNames, x_safeSizes, x_safeWords, x_saidInts) f := by
  unfold wpX_countNames
  refine uk_count (fun n i c => wX_countNames_4 post f x_changes x_saidCount x_time x_lastSlot x_sliceSteps x_latestPid x_greatestPid x_code x_codeLengths x_pids x_parents x_programs x_places x_states x_statuses x_stepCounts x_copyCounts x_wakeTimes x_registers x_pageCounts x_pageFrames x_held x_frameUsers x_frameWords x_openHolders x_openKinds x_openTargets x_openPlaces x_openModes x_pipeFirsts x_pipeCounts x_pipeWords x_nameFiles x_fileSizes x_fileWords x_safeNames x_safeSizes x_safeWords x_saidInts n c (nI i)) (fun k => x_nameFiles k = f) 8 (fun n => br_t (uk_refl 8) h) (fun n i c hi ht hf => ?_)
  obtain ⟨z, v, e⟩ := uk_lp 8 hi (by decide)
  refine br_f z ⟨v, ?_⟩
  rw [e]
  exact ⟨fun q => nm_r (nI_1 c) (nm_r (nI_1 i) (ht q)), fun q => nm_r (nI_1 i) (hf q)⟩
theorem xk_findSlot {post : Int32 → Prop} {p : Int32} (h1 : p < 1 → post (-1)) (h2 : ¬ p < 1 → post (uk_ff (fun s => x_pids s = p) 8)) : wpX_findSlot post (x_changes, x_saidCount, x_time, x_lastSlot, x_sliceSteps, x_latestPid, x_greatestPid, x_code, x_codeLengths, x_pids, x_parents, x_programs, x_places, x_states, x_statuses, x_stepCounts, x_copyCounts, x_wakeTimes, x_registers, x_pageCounts, x_pageFrames, x_held, x_frameUsers, x_frameWords, x_openHolders, x_openKinds, x_openTargets, x_openPlaces, x_openModes, x_pipeFirsts, x_pipeCounts, x_pipeWords, x_nameFiles, x_fileSizes, x_fileWords, x_safeNames, x_safeSizes, x_safeWords, x_saidInts) p := by
  unfold wpX_findSlot
  refine ⟨fun a => ?_, fun a => h1 (Int32.not_le.mp a)⟩
  refine uk_first (fun n i => wX_findSlot_9 post p x_changes x_saidCount x_time x_lastSlot x_sliceSteps x_latestPid x_greatestPid x_code x_codeLengths x_pids x_parents x_programs x_places x_states x_statuses x_stepCounts x_copyCounts x_wakeTimes x_registers x_pageCounts x_pageFrames x_held x_frameUsers x_frameWords x_openHolders x_openKinds x_openTargets x_openPlaces x_openModes x_pipeFirsts x_pipeCounts x_pipeWords x_nameFiles x_fileSizes x_fileWords x_safeNames x_safeSizes x_safeWords x_saidInts n (nI i)) post (fun s => x_pids s = p) 8 (h2 (Int32.not_lt.mpr a)) (fun n h => br_t (uk_refl 8) h) (fun n i hi ht hf => ?_)
  obtain ⟨z, v, e⟩ := uk_lp 8 hi (by decide)
  refine br_f z ⟨v, ?_⟩
  rw [e]
  exact ⟨ht, fun q => nm_r (nI_1 i) (hf q)⟩
theorem xk_freeSlot {post : Int32 → Prop} (h : post (uk_ff (fun s => x_pids s = 0) 8)) : wpX_freeSlot post (x_changes, x_saidCount, x_time, x_lastSlot, x_sliceSteps, x_latestPid, x_greatestPid, x_code, x_codeLengths, x_pids, x_parents, x_programs, x_places, x_states, x_statuses, x_stepCounts, x_copyCounts, x_wakeTimes, x_registers, x_pageCounts, x_pageFrames, x_held, x_frameUsers, x_frameWords, x_openHolders, x_openKinds, x_openTargets, x_openPlaces, x_openModes, x_pipeFirsts, x_pipeCounts, x_pipeWords, x_nameFiles, x_fileSizes, x_fileWords, x_safeNames, x_safeSizes, x_safeWords, x_saidInts) := by
  unfold wpX_freeSlot
  refine uk_first (fun n i => wX_freeSlot_2 post x_changes x_saidCount x_time x_lastSlot x_sliceSteps x_latestPid x_greatestPid x_code x_codeLengths x_pids x_parents x_programs x_places x_states x_statuses x_stepCounts x_copyCounts x_wakeTimes x_registers x_pageCounts x_pageFrames x_held x_frameUsers x_frameWords x_openHolders x_openKinds x_openTargets x_openPlaces x_openModes x_pipeFirsts x_pipeCounts x_pipeWords x_nameFiles x_fileSizes x_fileWords x_safeNames x_safeSizes x_safeWords x_saidInts n (nI i)) post (fun s => x_pids s = 0) 8 h (fun n h => br_t (uk_refl 8) h) (fun n i hi ht hf => ?_)
  obtain ⟨z, v, e⟩ := uk_lp 8 hi (by decide)
  refine br_f z ⟨v, ?_⟩
  rw [e]
  exact ⟨ht, fun q => nm_r (nI_1 i) (hf q)⟩
theorem xk_freeFrame {post : Int32 → Prop} (h : post (uk_ff (fun f => x_frameUsers f = 0) 20)) : wpX_freeFrame post (x_changes, x_saidCount, x_time, x_lastSlot, x_sliceSteps, x_latestPid, x_greatestPid, x_code, x_codeLengths, x_pids, x_parents, x_programs, x_places, x_states, x_statuses, x_stepCounts, x_copyCounts, x_wakeTimes, x_registers, x_pageCounts, x_pageFrames, x_held, x_frameUsers, x_frameWords, x_openHolders, x_openKinds, x_openTargets, x_openPlaces, x_openModes, x_pipeFirsts, x_pipeCounts, x_pipeWords, x_nameFiles, x_fileSizes, x_fileWords, x_safeNames, x_safeSizes, x_safeWords, x_saidInts) := by
  unfold wpX_freeFrame
  refine uk_first (fun n i => wX_freeFrame_2 post x_changes x_saidCount x_time x_lastSlot x_sliceSteps x_latestPid x_greatestPid x_code x_codeLengths x_pids x_parents x_programs x_places x_states x_statuses x_stepCounts x_copyCounts x_wakeTimes x_registers x_pageCounts x_pageFrames x_held x_frameUsers x_frameWords x_openHolders x_openKinds x_openTargets x_openPlaces x_openModes x_pipeFirsts x_pipeCounts x_pipeWords x_nameFiles x_fileSizes x_fileWords x_safeNames x_safeSizes x_safeWords x_saidInts n (nI i)) post (fun f => x_frameUsers f = 0) 20 h (fun n h => br_t (uk_refl 20) h) (fun n i hi ht hf => ?_)
  obtain ⟨z, v, e⟩ := uk_lp 20 hi (by decide)
  refine br_f z ⟨v, ?_⟩
  rw [e]
  exact ⟨ht, fun q => nm_r (nI_1 i) (hf q)⟩
theorem xk_freeDescriptor {post : Int32 → Prop} {s j : Nat} (hs : s < 8) (hj : j ≤ 6) (h : post (uk_fg (fun d => x_held (6 * s + d) = -1) (6 - j) j)) : wpX_freeDescriptor post (x_changes, x_saidCount, x_time, x_lastSlot, x_sliceSteps, x_latestPid, x_greatestPid, x_code, x_codeLengths, x_pids, x_parents, x_programs, x_places, x_states, x_statuses, x_stepCounts, x_copyCounts, x_wakeTimes, x_registers, x_pageCounts, x_pageFrames, x_held, x_frameUsers, x_frameWords, x_openHolders, x_openKinds, x_openTargets, x_openPlaces, x_openModes, x_pipeFirsts, x_pipeCounts, x_pipeWords, x_nameFiles, x_fileSizes, x_fileWords, x_safeNames, x_safeSizes, x_safeWords, x_saidInts) (nI s) (nI j) := by
  unfold wpX_freeDescriptor
  refine ⟨6 - j + 1, uk_firstG (fun n i => wX_freeDescriptor_2 post (nI s) x_changes x_saidCount x_time x_lastSlot x_sliceSteps x_latestPid x_greatestPid x_code x_codeLengths x_pids x_parents x_programs x_places x_states x_statuses x_stepCounts x_copyCounts x_wakeTimes x_registers x_pageCounts x_pageFrames x_held x_frameUsers x_frameWords x_openHolders x_openKinds x_openTargets x_openPlaces x_openModes x_pipeFirsts x_pipeCounts x_pipeWords x_nameFiles x_fileSizes x_fileWords x_safeNames x_safeSizes x_safeWords x_saidInts n (nI i)) post (fun d => x_held (6 * s + d) = -1) 6 (fun n h => br_t (uk_refl 6) h) (fun n i hi ht hf => ?_) (6 - j) j (by omega) h⟩
  obtain ⟨z, v, e⟩ := uk_lp 6 hi (by decide)
  refine br_f z ?_
  rw [uk_m6, nI_add]
  refine ⟨vp_in_nI (by omega) (by omega), ?_⟩
  rw [nI_clamp (by omega)]
  exact ⟨ht, fun q => nm_r (nI_1 i) (hf q)⟩
theorem xk_freeOpen {post : Int32 → Prop} {j : Nat} (hj : j ≤ 12) (h : post (uk_fg (fun o => x_openHolders o = 0) (12 - j) j)) : wpX_freeOpen post (x_changes, x_saidCount, x_time, x_lastSlot, x_sliceSteps, x_latestPid, x_greatestPid, x_code, x_codeLengths, x_pids, x_parents, x_programs, x_places, x_states, x_statuses, x_stepCounts, x_copyCounts, x_wakeTimes, x_registers, x_pageCounts, x_pageFrames, x_held, x_frameUsers, x_frameWords, x_openHolders, x_openKinds, x_openTargets, x_openPlaces, x_openModes, x_pipeFirsts, x_pipeCounts, x_pipeWords, x_nameFiles, x_fileSizes, x_fileWords, x_safeNames, x_safeSizes, x_safeWords, x_saidInts) (nI j) := by
  unfold wpX_freeOpen
  refine ⟨12 - j + 1, uk_firstG (fun n i => wX_freeOpen_2 post x_changes x_saidCount x_time x_lastSlot x_sliceSteps x_latestPid x_greatestPid x_code x_codeLengths x_pids x_parents x_programs x_places x_states x_statuses x_stepCounts x_copyCounts x_wakeTimes x_registers x_pageCounts x_pageFrames x_held x_frameUsers x_frameWords x_openHolders x_openKinds x_openTargets x_openPlaces x_openModes x_pipeFirsts x_pipeCounts x_pipeWords x_nameFiles x_fileSizes x_fileWords x_safeNames x_safeSizes x_safeWords x_saidInts n (nI i)) post (fun o => x_openHolders o = 0) 12 (fun n h => br_t (uk_refl 12) h) (fun n i hi ht hf => ?_) (12 - j) j (by omega) h⟩
  obtain ⟨z, v, e⟩ := uk_lp 12 hi (by decide)
  refine br_f z ⟨v, ?_⟩
  rw [e]
  exact ⟨ht, fun q => nm_r (nI_1 i) (hf q)⟩
theorem xk_hasChild {post : Int32 → Prop} {s : Nat} (hs : s < 8) (ht : (∃ k, k < 8 ∧ x_pids k ≠ 0 ∧ x_parents k = x_pids s) → post 1) (hf : (∀ k, k < 8 → ¬ (x_pids k ≠ 0 ∧ x_parents k = x_pids s)) → post 0) : wpX_hasChild post (x_changes, x_saidCount, x_time, x_lastSlot, x_sliceSteps, x_latestPid, x_greatestPid, x_code, x_codeLengths, x_pids, x_parents, x_programs, x_places, x_states, x_statuses, x_stepCounts, x_copyCounts, x_wakeTimes, x_registers, x_pageCounts, x_pageFrames, x_held, x_frameUsers, x_frameWords, x_openHolders, x_openKinds, x_openTargets, x_openPlaces, x_openModes, x_pipeFirsts, x_pipeCounts, x_pipeWords, x_nameFiles, x_fileSizes, x_fileWords, x_safeNames, x_safeSizes, x_safeWords, x_saidInts) (nI s) := by
  unfold wpX_hasChild
  obtain ⟨_, vs, es⟩ := uk_lp 8 hs (by decide)
  refine uk_any (fun n i => wX_hasChild_2 post (nI s) x_changes x_saidCount x_time x_lastSlot x_sliceSteps x_latestPid x_greatestPid x_code x_codeLengths x_pids x_parents x_programs x_places x_states x_statuses x_stepCounts x_copyCounts x_wakeTimes x_registers x_pageCounts x_pageFrames x_held x_frameUsers x_frameWords x_openHolders x_openKinds x_openTargets x_openPlaces x_openModes x_pipeFirsts x_pipeCounts x_pipeWords x_nameFiles x_fileSizes x_fileWords x_safeNames x_safeSizes x_safeWords x_saidInts n (nI i)) (fun k => x_pids k ≠ 0 ∧ x_parents k = x_pids s) 8 (fun h n => br_t (uk_refl 8) (hf h)) (fun n i hi h => ?_) (fun n i hi h ih => ?_)
  · obtain ⟨z, v, e⟩ := uk_lp 8 hi (by decide)
    refine br_f z ⟨v, ?_⟩
    rw [e, es]
    exact br_f h.1 ⟨v, vs, br_t h.2 (ht ⟨i, hi, h⟩)⟩
  · obtain ⟨z, v, e⟩ := uk_lp 8 hi (by decide)
    refine br_f z ⟨v, ?_⟩
    rw [e, es]
    exact ⟨fun _ => nm_r (nI_1 i) ih, fun a => ⟨v, vs, fun b => absurd ⟨a, b⟩ h, fun _ => nm_r (nI_1 i) ih⟩⟩
theorem xk_isFreePipe {post : Int32 → Prop} {p : Int32} (ht : (∀ o, o < 12 → ¬ (¬ x_openHolders o ≤ 0 ∧ x_openKinds o ≠ 1 ∧ x_openTargets o = p)) → post 1) (hf : (∃ o, o < 12 ∧ ¬ x_openHolders o ≤ 0 ∧ x_openKinds o ≠ 1 ∧ x_openTargets o = p) → post 0) : wpX_isFreePipe post (x_changes, x_saidCount, x_time, x_lastSlot, x_sliceSteps, x_latestPid, x_greatestPid, x_code, x_codeLengths, x_pids, x_parents, x_programs, x_places, x_states, x_statuses, x_stepCounts, x_copyCounts, x_wakeTimes, x_registers, x_pageCounts, x_pageFrames, x_held, x_frameUsers, x_frameWords, x_openHolders, x_openKinds, x_openTargets, x_openPlaces, x_openModes, x_pipeFirsts, x_pipeCounts, x_pipeWords, x_nameFiles, x_fileSizes, x_fileWords, x_safeNames, x_safeSizes, x_safeWords, x_saidInts) p := by
  unfold wpX_isFreePipe
  refine uk_any (fun n i => wX_isFreePipe_2 post p x_changes x_saidCount x_time x_lastSlot x_sliceSteps x_latestPid x_greatestPid x_code x_codeLengths x_pids x_parents x_programs x_places x_states x_statuses x_stepCounts x_copyCounts x_wakeTimes x_registers x_pageCounts x_pageFrames x_held x_frameUsers x_frameWords x_openHolders x_openKinds x_openTargets x_openPlaces x_openModes x_pipeFirsts x_pipeCounts x_pipeWords x_nameFiles x_fileSizes x_fileWords x_safeNames x_safeSizes x_safeWords x_saidInts n (nI i)) (fun o => ¬ x_openHolders o ≤ 0 ∧ x_openKinds o ≠ 1 ∧ x_openTargets o = p) 12 (fun h n => br_t (uk_refl 12) (ht h)) (fun n i hi h => ?_) (fun n i hi h ih => ?_)
  · obtain ⟨z, v, e⟩ := uk_lp 12 hi (by decide)
    refine br_f z ⟨v, ?_⟩
    rw [e]
    exact br_f h.1 ⟨v, br_f h.2.1 ⟨v, br_t h.2.2 (hf ⟨i, hi, h⟩)⟩⟩
  · obtain ⟨z, v, e⟩ := uk_lp 12 hi (by decide)
    refine br_f z ⟨v, ?_⟩
    rw [e]
    exact ⟨fun _ => nm_r (nI_1 i) ih, fun a => ⟨v, fun _ => nm_r (nI_1 i) ih, fun b => ⟨v, fun c => absurd ⟨a, b, c⟩ h, fun _ => nm_r (nI_1 i) ih⟩⟩⟩
theorem xk_isFreeFile {post : Int32 → Prop} {f : Int32} (ht : (∀ k, k < 8 → x_nameFiles k ≠ f) → (∀ o, o < 12 → ¬ (¬ x_openHolders o ≤ 0 ∧ x_openKinds o = 1 ∧ x_openTargets o = f)) → post 1) (hf : ((∃ k, k < 8 ∧ x_nameFiles k = f) ∨ (∃ o, o < 12 ∧ ¬ x_openHolders o ≤ 0 ∧ x_openKinds o = 1 ∧ x_openTargets o = f)) → post 0) : wpX_isFreeFile post (x_changes, x_saidCount, x_time, x_lastSlot, x_sliceSteps, x_latestPid, x_greatestPid, x_code, x_codeLengths, x_pids, x_parents, x_programs, x_places, x_states, x_statuses, x_stepCounts, x_copyCounts, x_wakeTimes, x_registers, x_pageCounts, x_pageFrames, x_held, x_frameUsers, x_frameWords, x_openHolders, x_openKinds, x_openTargets, x_openPlaces, x_openModes, x_pipeFirsts, x_pipeCounts, x_pipeWords, x_nameFiles, x_fileSizes, x_fileWords, x_safeNames, x_safeSizes, x_safeWords, x_saidInts) f := by
  unfold wpX_isFreeFile
  refine uk_any (fun n i => wX_isFreeFile_2 post f x_changes x_saidCount x_time x_lastSlot x_sliceSteps x_latestPid x_greatestPid x_code x_codeLengths x_pids x_parents x_programs x_places x_states x_statuses x_stepCounts x_copyCounts x_wakeTimes x_registers x_pageCounts x_pageFrames x_held x_frameUsers x_frameWords x_openHolders x_openKinds x_openTargets x_openPlaces x_openModes x_pipeFirsts x_pipeCounts x_pipeWords x_nameFiles x_fileSizes x_fileWords x_safeNames x_safeSizes x_safeWords x_saidInts n (nI i)) (fun k => x_nameFiles k = f) 8 (fun hN n => br_t (uk_refl 8) ?_) (fun n i hi h => ?_) (fun n i hi h ih => ?_)
  · refine uk_any (fun n i => wX_isFreeFile_28 post f x_changes x_saidCount x_time x_lastSlot x_sliceSteps x_latestPid x_greatestPid x_code x_codeLengths x_pids x_parents x_programs x_places x_states x_statuses x_stepCounts x_copyCounts x_wakeTimes x_registers x_pageCounts x_pageFrames x_held x_frameUsers x_frameWords x_openHolders x_openKinds x_openTargets x_openPlaces x_openModes x_pipeFirsts x_pipeCounts x_pipeWords x_nameFiles x_fileSizes x_fileWords x_safeNames x_safeSizes x_safeWords x_saidInts n (nI i)) (fun o => ¬ x_openHolders o ≤ 0 ∧ x_openKinds o = 1 ∧ x_openTargets o = f) 12 (fun h n => br_t (uk_refl 12) (ht hN h)) (fun n i hi h => ?_) (fun n i hi h ih => ?_)
    · obtain ⟨z, v, e⟩ := uk_lp 12 hi (by decide)
      refine br_f z ⟨v, ?_⟩
      rw [e]
      exact br_f h.1 ⟨v, br_t h.2.1 ⟨v, br_t h.2.2 (hf (Or.inr ⟨i, hi, h⟩))⟩⟩
    · obtain ⟨z, v, e⟩ := uk_lp 12 hi (by decide)
      refine br_f z ⟨v, ?_⟩
      rw [e]
      exact ⟨fun _ => nm_r (nI_1 i) ih, fun a => ⟨v, fun b => ⟨v, fun c => absurd ⟨a, b, c⟩ h, fun _ => nm_r (nI_1 i) ih⟩, fun _ => nm_r (nI_1 i) ih⟩⟩
  · obtain ⟨z, v, e⟩ := uk_lp 8 hi (by decide)
    refine br_f z ⟨v, ?_⟩
    rw [e]
    exact br_t h (hf (Or.inl ⟨i, hi, h⟩))
  · obtain ⟨z, v, e⟩ := uk_lp 8 hi (by decide)
    refine br_f z ⟨v, ?_⟩
    rw [e]
    exact br_f h (nm_r (nI_1 i) ih)
end
end
section
/-! Y's readers -/
theorem uk_vb0 : vp_nar .boolean 0 = 0 := rfl
theorem uk_vb1 : vp_nar .boolean 1 = 1 := rfl
theorem uk_le0 {x : Int32} (h : ¬ x < 0) : x ≤ 0 ↔ x = 0 := by
  obtain ⟨j, hj, rfl⟩ := nI_of h
  rw [show (0 : Int32) = nI 0 from rfl, nI_leI hj (by decide), nI_eq hj (by decide)]
  omega
theorem uk_lt1 {x : Int32} : x < 1 ↔ x ≤ 0 := by
  by_cases h : x < 0
  · exact ⟨fun _ => Int32.le_of_lt h, fun _ => Int32.lt_of_lt_of_le h (by decide)⟩
  · obtain ⟨j, hj, rfl⟩ := nI_of h
    rw [show (1 : Int32) = nI 1 from rfl, show (0 : Int32) = nI 0 from rfl, nI_leI hj (by decide), nI_ltI hj (by decide)]
    omega
theorem yk_no {post : Int32 → Prop} {x m : Int32} (n : Nat) (hm : m = nI n) (hb : n + 1 < 2 ^ 31) (hf : vp_in x (n + 1) → post 0) (ht : ¬ vp_in x (n + 1) → post 1) : wpY_no post x m := by
  subst hm
  have e := uk_inE (x := x) (n := n + 1) rfl hb
  have e2 : ¬ x < 0 → (¬ nI (n + 1) ≤ x ↔ x ≤ nI n) := fun h => by
    obtain ⟨j, hj, rfl⟩ := nI_of h
    rw [nI_leI hb hj, nI_leI hj (by omega)]; omega
  unfold wpY_no
  exact ⟨fun a => ht (fun z => (e.mp z).1 a), fun a => ⟨fun b => hf (e.mpr ⟨a, (e2 a).mpr b⟩), fun b => ht (fun z => b ((e2 a).mp (e.mp z).2))⟩⟩
section
variable {y_changes y_time y_last y_lastPid y_did y_greatest y_stepped y_says y_killed : Int32} {y_ops y_as y_bs y_length y_pid y_parent y_program y_pc y_status y_steps y_copies y_pages y_wake y_zombie y_blocked y_reg y_memory y_frame y_descriptor y_kind y_of y_mode y_place y_piped y_pipe y_names y_size y_words y_safeNames y_safeSize y_safeWords y_said : Nat → Int32}
theorem yk_processes {post : Int32 → Prop} (hP : ∀ s, s < 8 → ¬ y_pid s < 0) (h : post (nI (uk_cn (fun s => y_pid s ≠ 0) 8))) : wpY_processes post (y_changes, y_time, y_last, y_lastPid, y_did, y_greatest, y_stepped, y_says, y_killed, y_ops, y_as, y_bs, y_length, y_pid, y_parent, y_program, y_pc, y_status, y_steps, y_copies, y_pages, y_wake, y_zombie, y_blocked, y_reg, y_memory, y_frame, y_descriptor, y_kind, y_of, y_mode, y_place, y_piped, y_pipe, y_names, y_size, y_words, y_safeNames, y_safeSize, y_safeWords, y_said) := by
  unfold wpY_processes
  refine uk_count (fun n i c => wY_processes_4 post y_changes y_time y_last y_lastPid y_did y_greatest y_stepped y_says y_killed y_ops y_as y_bs y_length y_pid y_parent y_program y_pc y_status y_steps y_copies y_pages y_wake y_zombie y_blocked y_reg y_memory y_frame y_descriptor y_kind y_of y_mode y_place y_piped y_pipe y_names y_size y_words y_safeNames y_safeSize y_safeWords y_said n c (nI i)) (fun s => y_pid s ≠ 0) 8 (fun n => br_t (uk_refl 8) h) (fun n i c hi ht hf => ?_)
  obtain ⟨z, v, e⟩ := uk_lp 8 hi (by decide)
  refine br_f z ⟨v, ?_⟩
  rw [e, uk_le0 (hP i hi)]
  exact ⟨fun q => nm_r (nI_1 i) (hf (fun z => z q)), fun q => nm_r (nI_1 c) (nm_r (nI_1 i) (ht q))⟩
theorem yk_slotOf {post : Int32 → Prop} {p : Int32} (h1 : p < 1 → post (-1)) (h2 : ¬ p < 1 → post (uk_ff (fun s => y_pid s = p) 8)) : wpY_slotOf post (y_changes, y_time, y_last, y_lastPid, y_did, y_greatest, y_stepped, y_says, y_killed, y_ops, y_as, y_bs, y_length, y_pid, y_parent, y_program, y_pc, y_status, y_steps, y_copies, y_pages, y_wake, y_zombie, y_blocked, y_reg, y_memory, y_frame, y_descriptor, y_kind, y_of, y_mode, y_place, y_piped, y_pipe, y_names, y_size, y_words, y_safeNames, y_safeSize, y_safeWords, y_said) p := by
  unfold wpY_slotOf
  by_cases hp : p < 1
  · refine uk_any (fun n i => wY_slotOf_2 post p y_changes y_time y_last y_lastPid y_did y_greatest y_stepped y_says y_killed y_ops y_as y_bs y_length y_pid y_parent y_program y_pc y_status y_steps y_copies y_pages y_wake y_zombie y_blocked y_reg y_memory y_frame y_descriptor y_kind y_of y_mode y_place y_piped y_pipe y_names y_size y_words y_safeNames y_safeSize y_safeWords y_said n (nI i)) (fun _ => False) 8 (fun _ n => br_t (uk_refl 8) (h1 hp)) (fun n i hi h => h.elim) (fun n i hi h ih => ?_)
    obtain ⟨z, v, e⟩ := uk_lp 8 hi (by decide)
    exact br_f z ⟨v, fun _ => br_t (uk_lt1.mp hp) (nm_r (nI_1 i) ih), fun _ => nm_r (nI_1 i) ih⟩
  · refine uk_first (fun n i => wY_slotOf_2 post p y_changes y_time y_last y_lastPid y_did y_greatest y_stepped y_says y_killed y_ops y_as y_bs y_length y_pid y_parent y_program y_pc y_status y_steps y_copies y_pages y_wake y_zombie y_blocked y_reg y_memory y_frame y_descriptor y_kind y_of y_mode y_place y_piped y_pipe y_names y_size y_words y_safeNames y_safeSize y_safeWords y_said n (nI i)) post (fun s => y_pid s = p) 8 (h2 hp) (fun n h => br_t (uk_refl 8) h) (fun n i hi ht hf => ?_)
    obtain ⟨z, v, e⟩ := uk_lp 8 hi (by decide)
    refine br_f z ⟨v, ?_⟩
    rw [e]
    exact ⟨fun q => br_f (fun w => hp (uk_lt1.mpr w)) (ht q), fun q => nm_r (nI_1 i) (hf q)⟩
theorem yk_isUsed_in {post J : Int32 → Prop} {f : Int32} {i : Nat} (hi : i < 8) (hP : ¬ y_pid i < 0) (hn : y_pid i ≠ 0 → ∃ n, n ≤ 8 ∧ y_pages i = nI n) (h1 : (y_pid i ≠ 0 ∧ ∃ p, p < (y_pages i).toNatClampNeg ∧ y_frame (8 * i + p) = f) → post 1) (h0 : ¬ (y_pid i ≠ 0 ∧ ∃ p, p < (y_pages i).toNatClampNeg ∧ y_frame (8 * i + p) = f) → J (nI (i + 1))) : ∃ m, wY_isUsed_10 post J f (nI i) y_changes y_time y_last y_lastPid y_did y_greatest y_stepped y_says y_killed y_ops y_as y_bs y_length y_pid y_parent y_program y_pc y_status y_steps y_copies y_pages y_wake y_zombie y_blocked y_reg y_memory y_frame y_descriptor y_kind y_of y_mode y_place y_piped y_pipe y_names y_size y_words y_safeNames y_safeSize y_safeWords y_said m 0 := by
  obtain ⟨_, v, e⟩ := uk_lp 8 hi (by decide)
  by_cases hp0 : y_pid i = 0
  · refine ⟨1, v, ?_⟩
    have hJ := h0 (fun z => z.1 hp0)
    rw [e]
    exact ⟨fun _ => nm_r (nI_1 i) hJ, fun _ => ⟨v, br_t ((uk_le0 hP).mpr hp0) (nm_r (nI_1 i) hJ)⟩⟩
  · obtain ⟨n, hn8, en⟩ := hn hp0
    have hle : ¬ y_pid i ≤ 0 := fun z => hp0 ((uk_le0 hP).mp z)
    have ec : (y_pages i).toNatClampNeg = n := by rw [en, nI_clamp (by omega)]
    rw [ec] at h1 h0
    refine uk_any (fun m p => wY_isUsed_10 post J f (nI i) y_changes y_time y_last y_lastPid y_did y_greatest y_stepped y_says y_killed y_ops y_as y_bs y_length y_pid y_parent y_program y_pc y_status y_steps y_copies y_pages y_wake y_zombie y_blocked y_reg y_memory y_frame y_descriptor y_kind y_of y_mode y_place y_piped y_pipe y_names y_size y_words y_safeNames y_safeSize y_safeWords y_said m (nI p)) (fun p => y_frame (8 * i + p) = f) n (fun hx m => ⟨v, ?_⟩) (fun m p hp h => ⟨v, ?_⟩) (fun m p hp h ih => ⟨v, ?_⟩)
    · rw [e, en]
      exact br_t (uk_refl _) (nm_r (nI_1 i) (h0 (fun z => by
        obtain ⟨_, p, hp, q⟩ := z
        exact hx p hp q)))
    · rw [e, en]
      refine br_f (nI_ge hp (by omega)) ⟨v, ?_⟩
      rw [uk_8m, nI_add, nI_clamp (show 8 * i + p < 2 ^ 31 by omega)]
      exact br_f hle ⟨vp_in_nI (by omega) (by omega), br_t h (h1 ⟨hp0, p, hp, h⟩)⟩
    · rw [e, en]
      refine br_f (nI_ge hp (by omega)) ⟨v, ?_⟩
      rw [uk_8m, nI_add, nI_clamp (show 8 * i + p < 2 ^ 31 by omega)]
      exact br_f hle ⟨vp_in_nI (by omega) (by omega), br_f h (nm_r (nI_1 p) ih)⟩
theorem yk_isUsed {post : Int32 → Prop} {f : Nat} (hP : ∀ s, s < 8 → ¬ y_pid s < 0) (hn : ∀ s, s < 8 → y_pid s ≠ 0 → ∃ n, n ≤ 8 ∧ y_pages s = nI n) (ht : uk_sm (uk_rw y_pid y_pages y_frame f) 8 ≠ 0 → post 1) (hf : uk_sm (uk_rw y_pid y_pages y_frame f) 8 = 0 → post 0) : wpY_isUsed post (y_changes, y_time, y_last, y_lastPid, y_did, y_greatest, y_stepped, y_says, y_killed, y_ops, y_as, y_bs, y_length, y_pid, y_parent, y_program, y_pc, y_status, y_steps, y_copies, y_pages, y_wake, y_zombie, y_blocked, y_reg, y_memory, y_frame, y_descriptor, y_kind, y_of, y_mode, y_place, y_piped, y_pipe, y_names, y_size, y_words, y_safeNames, y_safeSize, y_safeWords, y_said) (nI f) := by
  have hu := uk_used y_pid y_pages y_frame f
  unfold wpY_isUsed
  refine uk_any (fun n i => wY_isUsed_2 post (nI f) y_changes y_time y_last y_lastPid y_did y_greatest y_stepped y_says y_killed y_ops y_as y_bs y_length y_pid y_parent y_program y_pc y_status y_steps y_copies y_pages y_wake y_zombie y_blocked y_reg y_memory y_frame y_descriptor y_kind y_of y_mode y_place y_piped y_pipe y_names y_size y_words y_safeNames y_safeSize y_safeWords y_said n (nI i)) (fun s => y_pid s ≠ 0 ∧ ∃ p, p < (y_pages s).toNatClampNeg ∧ y_frame (8 * s + p) = nI f) 8 (fun hx n => br_t (uk_refl 8) (hf (Classical.byContradiction (fun z => ?_)))) (fun n i hi h => ?_) (fun n i hi h ih => ?_)
  · obtain ⟨s, hs, a⟩ := hu.mp z
    exact hx s hs a
  · obtain ⟨z, _, _⟩ := uk_lp 8 hi (by decide)
    exact br_f z (yk_isUsed_in hi (hP i hi) (hn i hi) (fun _ => ht (hu.mpr ⟨i, hi, h⟩)) (fun w => absurd h w))
  · obtain ⟨z, _, _⟩ := uk_lp 8 hi (by decide)
    exact br_f z (yk_isUsed_in hi (hP i hi) (hn i hi) (fun w => absurd w h) (fun _ => ih))
theorem yk_freeFrames {post : Int32 → Prop} (hP : ∀ s, s < 8 → ¬ y_pid s < 0) (hn : ∀ s, s < 8 → y_pid s ≠ 0 → ∃ n, n ≤ 8 ∧ y_pages s = nI n) (h : post (nI (uk_cn (fun f => uk_sm (uk_rw y_pid y_pages y_frame f) 8 = 0) 20))) : wpY_freeFrames post (y_changes, y_time, y_last, y_lastPid, y_did, y_greatest, y_stepped, y_says, y_killed, y_ops, y_as, y_bs, y_length, y_pid, y_parent, y_program, y_pc, y_status, y_steps, y_copies, y_pages, y_wake, y_zombie, y_blocked, y_reg, y_memory, y_frame, y_descriptor, y_kind, y_of, y_mode, y_place, y_piped, y_pipe, y_names, y_size, y_words, y_safeNames, y_safeSize, y_safeWords, y_said) := by
  unfold wpY_freeFrames
  refine uk_count (fun n i c => wY_freeFrames_4 post y_changes y_time y_last y_lastPid y_did y_greatest y_stepped y_says y_killed y_ops y_as y_bs y_length y_pid y_parent y_program y_pc y_status y_steps y_copies y_pages y_wake y_zombie y_blocked y_reg y_memory y_frame y_descriptor y_kind y_of y_mode y_place y_piped y_pipe y_names y_size y_words y_safeNames y_safeSize y_safeWords y_said n c (nI i)) (fun f => uk_sm (uk_rw y_pid y_pages y_frame f) 8 = 0) 20 (fun n => br_t (uk_refl 20) h) (fun n i c hi ht hf => ?_)
  obtain ⟨z, v, e⟩ := uk_lp 20 hi (by decide)
  refine br_f z ?_
  exact yk_isUsed hP hn (fun a => br_f (by decide) (nm_r (nI_1 i) (hf a))) (fun a => br_t rfl (nm_r (nI_1 c) (nm_r (nI_1 i) (ht a))))
theorem yk_freeFrame {post : Int32 → Prop} (hP : ∀ s, s < 8 → ¬ y_pid s < 0) (hn : ∀ s, s < 8 → y_pid s ≠ 0 → ∃ n, n ≤ 8 ∧ y_pages s = nI n) (h : post (uk_ff (fun f => uk_sm (uk_rw y_pid y_pages y_frame f) 8 = 0) 20)) : wpY_freeFrame post (y_changes, y_time, y_last, y_lastPid, y_did, y_greatest, y_stepped, y_says, y_killed, y_ops, y_as, y_bs, y_length, y_pid, y_parent, y_program, y_pc, y_status, y_steps, y_copies, y_pages, y_wake, y_zombie, y_blocked, y_reg, y_memory, y_frame, y_descriptor, y_kind, y_of, y_mode, y_place, y_piped, y_pipe, y_names, y_size, y_words, y_safeNames, y_safeSize, y_safeWords, y_said) := by
  unfold wpY_freeFrame
  refine uk_first (fun n i => wY_freeFrame_2 post y_changes y_time y_last y_lastPid y_did y_greatest y_stepped y_says y_killed y_ops y_as y_bs y_length y_pid y_parent y_program y_pc y_status y_steps y_copies y_pages y_wake y_zombie y_blocked y_reg y_memory y_frame y_descriptor y_kind y_of y_mode y_place y_piped y_pipe y_names y_size y_words y_safeNames y_safeSize y_safeWords y_said n (nI i)) post (fun f => uk_sm (uk_rw y_pid y_pages y_frame f) 8 = 0) 20 h (fun n h => br_t (uk_refl 20) (br_t rfl h)) (fun n i hi ht hf => ?_)
  obtain ⟨z, v, e⟩ := uk_lp 20 hi (by decide)
  refine br_f z ?_
  exact yk_isUsed hP hn (fun a => br_f (by decide) (nm_r (nI_1 i) (hf a))) (fun a => br_t rfl (br_f (fun w => absurd ((nI_eq (b := 20) (by omega) (by decide)).mp w) (by omega)) (ht a)))
theorem yk_sharers_in {post : Int32 → Prop} {J : Int32 → Int32 → Prop} {f i c : Nat} (hi : i < 8) (hP : ¬ y_pid i < 0) (hn : y_pid i ≠ 0 → ∃ n, n ≤ 8 ∧ y_pages i = nI n) (h : J (nI (c + uk_rw y_pid y_pages y_frame f i)) (nI (i + 1))) : ∃ m, wY_sharers_13 post J (nI f) (nI i) y_changes y_time y_last y_lastPid y_did y_greatest y_stepped y_says y_killed y_ops y_as y_bs y_length y_pid y_parent y_program y_pc y_status y_steps y_copies y_pages y_wake y_zombie y_blocked y_reg y_memory y_frame y_descriptor y_kind y_of y_mode y_place y_piped y_pipe y_names y_size y_words y_safeNames y_safeSize y_safeWords y_said m (nI c) 0 := by
  obtain ⟨_, v, e⟩ := uk_lp 8 hi (by decide)
  by_cases hp0 : y_pid i = 0
  · refine ⟨1, v, ?_⟩
    rw [uk_rw0 hp0] at h
    rw [e]
    exact ⟨fun _ => nm_r (nI_1 i) h, fun _ => ⟨v, br_t ((uk_le0 hP).mpr hp0) (nm_r (nI_1 i) h)⟩⟩
  · obtain ⟨n, hn8, en⟩ := hn hp0
    have hle : ¬ y_pid i ≤ 0 := fun z => hp0 ((uk_le0 hP).mp z)
    rw [uk_rwn hp0 en (by omega)] at h
    refine ⟨n + 1, ?_⟩
    have key := uk_run (fun m p (x : Int32) => wY_sharers_13 post J (nI f) (nI i) y_changes y_time y_last y_lastPid y_did y_greatest y_stepped y_says y_killed y_ops y_as y_bs y_length y_pid y_parent y_program y_pc y_status y_steps y_copies y_pages y_wake y_zombie y_blocked y_reg y_memory y_frame y_descriptor y_kind y_of y_mode y_place y_piped y_pipe y_names y_size y_words y_safeNames y_safeSize y_safeWords y_said m x (nI p)) (fun p => nI (c + uk_cn (fun p => y_frame (8 * i + p) = nI f) p)) n (fun m => ⟨v, by
      rw [e, en]
      exact br_t (uk_refl _) (nm_r (nI_1 i) h)⟩) (fun m p hp ih => ⟨v, by
      rw [e, en]
      refine br_f (nI_ge hp (by omega)) ⟨v, ?_⟩
      rw [uk_8m, nI_add, nI_clamp (show 8 * i + p < 2 ^ 31 by omega)]
      refine br_f hle ⟨vp_in_nI (by omega) (by omega), fun a => ?_, fun a => ?_⟩
      · rw [uk_cnt (P := fun p => y_frame (8 * i + p) = nI f) a] at ih
        exact nm_r (nI_1 _) (nm_r (nI_1 p) ih)
      · rw [uk_cnf (P := fun p => y_frame (8 * i + p) = nI f) a] at ih
        exact nm_r (nI_1 p) ih⟩) n 0 (by omega)
    exact key
theorem yk_sharers {post : Int32 → Prop} {f : Nat} (hP : ∀ s, s < 8 → ¬ y_pid s < 0) (hn : ∀ s, s < 8 → y_pid s ≠ 0 → ∃ n, n ≤ 8 ∧ y_pages s = nI n) (h : post (nI (uk_sm (uk_rw y_pid y_pages y_frame f) 8))) : wpY_sharers post (y_changes, y_time, y_last, y_lastPid, y_did, y_greatest, y_stepped, y_says, y_killed, y_ops, y_as, y_bs, y_length, y_pid, y_parent, y_program, y_pc, y_status, y_steps, y_copies, y_pages, y_wake, y_zombie, y_blocked, y_reg, y_memory, y_frame, y_descriptor, y_kind, y_of, y_mode, y_place, y_piped, y_pipe, y_names, y_size, y_words, y_safeNames, y_safeSize, y_safeWords, y_said) (nI f) := by
  unfold wpY_sharers
  exact uk_run0 (fun m i (x : Int32) => wY_sharers_4 post (nI f) y_changes y_time y_last y_lastPid y_did y_greatest y_stepped y_says y_killed y_ops y_as y_bs y_length y_pid y_parent y_program y_pc y_status y_steps y_copies y_pages y_wake y_zombie y_blocked y_reg y_memory y_frame y_descriptor y_kind y_of y_mode y_place y_piped y_pipe y_names y_size y_words y_safeNames y_safeSize y_safeWords y_said m x (nI i)) (fun i => nI (uk_sm (uk_rw y_pid y_pages y_frame f) i)) 8 (fun m => br_t (uk_refl 8) h) (fun m i hi ih => by
    obtain ⟨z, _, _⟩ := uk_lp 8 hi (by decide)
    exact br_f z (yk_sharers_in hi (hP i hi) (hn i hi) ih))
theorem yk_holders {post : Int32 → Prop} {o : Nat} (hP : ∀ s, s < 8 → ¬ y_pid s < 0) (h : post (nI (uk_sm (uk_hw y_pid y_zombie y_descriptor o) 8))) : wpY_holders post (y_changes, y_time, y_last, y_lastPid, y_did, y_greatest, y_stepped, y_says, y_killed, y_ops, y_as, y_bs, y_length, y_pid, y_parent, y_program, y_pc, y_status, y_steps, y_copies, y_pages, y_wake, y_zombie, y_blocked, y_reg, y_memory, y_frame, y_descriptor, y_kind, y_of, y_mode, y_place, y_piped, y_pipe, y_names, y_size, y_words, y_safeNames, y_safeSize, y_safeWords, y_said) (nI o) := by
  rw [← uk_hold48] at h
  unfold wpY_holders
  refine uk_count (fun n i c => wY_holders_4 post (nI o) y_changes y_time y_last y_lastPid y_did y_greatest y_stepped y_says y_killed y_ops y_as y_bs y_length y_pid y_parent y_program y_pc y_status y_steps y_copies y_pages y_wake y_zombie y_blocked y_reg y_memory y_frame y_descriptor y_kind y_of y_mode y_place y_piped y_pipe y_names y_size y_words y_safeNames y_safeSize y_safeWords y_said n c (nI i)) (fun k => (y_pid (k / 6) ≠ 0 ∧ y_zombie (k / 6) = 0) ∧ y_descriptor k = nI o) 48 (fun n => br_t (uk_refl 48) h) (fun n i c hi ht hf => ?_)
  obtain ⟨z, v, e⟩ := uk_lp 48 hi (by decide)
  refine br_f z ⟨by decide, ?_⟩
  have e6 : nI i / 6 = nI (i / 6) := pk_div (d := 6) (by omega) (by decide) (by decide)
  rw [e6]
  have v6 : vp_in (nI (i / 6)) 8 := vp_in_nI (by omega) (by decide)
  refine ⟨v6, ?_⟩
  rw [nI_clamp (show i / 6 < 2 ^ 31 by omega), e, uk_le0 (hP (i / 6) (by omega))]
  exact ⟨fun a => nm_r (nI_1 i) (hf (fun z => z.1.1 a)), fun a => ⟨by decide, v6, fun b => ⟨v, fun d => nm_r (nI_1 c) (nm_r (nI_1 i) (ht ⟨⟨a, b⟩, d⟩)), fun d => nm_r (nI_1 i) (hf (fun z => d z.2))⟩, fun b => nm_r (nI_1 i) (hf (fun z => b z.1.2))⟩⟩
theorem yk_named {post : Int32 → Prop} {f : Int32} (h : post (nI (uk_cn (fun k => y_names k = f) 8))) : wpY_named post (y_changes, y_time, y_last, y_lastPid, y_did, y_greatest, y_stepped, y_says, y_killed, y_ops, y_as, y_bs, y_length, y_pid, y_parent, y_program, y_pc, y_status, y_steps, y_copies, y_pages, y_wake, y_zombie, y_blocked, y_reg, y_memory, y_frame, y_descriptor, y_kind, y_of, y_mode, y_place, y_piped, y_pipe, y_names, y_size, y_words, y_safeNames, y_safeSize, y_safeWords, y_said) f := by
  unfold wpY_named
  refine uk_count (fun n i c => wY_named_4 post f y_changes y_time y_last y_lastPid y_did y_greatest y_stepped y_says y_killed y_ops y_as y_bs y_length y_pid y_parent y_program y_pc y_status y_steps y_copies y_pages y_wake y_zombie y_blocked y_reg y_memory y_frame y_descriptor y_kind y_of y_mode y_place y_piped y_pipe y_names y_size y_words y_safeNames y_safeSize y_safeWords y_said n c (nI i)) (fun k => y_names k = f) 8 (fun n => br_t (uk_refl 8) h) (fun n i c hi ht hf => ?_)
  obtain ⟨z, v, e⟩ := uk_lp 8 hi (by decide)
  refine br_f z ⟨v, ?_⟩
  rw [e]
  exact ⟨fun q => nm_r (nI_1 c) (nm_r (nI_1 i) (ht q)), fun q => nm_r (nI_1 i) (hf q)⟩
theorem yk_openOf {post : Int32 → Prop} {f : Int32} (h : post (nI (uk_cn (fun o => y_kind o = 1 ∧ y_of o = f) 12))) : wpY_openOf post (y_changes, y_time, y_last, y_lastPid, y_did, y_greatest, y_stepped, y_says, y_killed, y_ops, y_as, y_bs, y_length, y_pid, y_parent, y_program, y_pc, y_status, y_steps, y_copies, y_pages, y_wake, y_zombie, y_blocked, y_reg, y_memory, y_frame, y_descriptor, y_kind, y_of, y_mode, y_place, y_piped, y_pipe, y_names, y_size, y_words, y_safeNames, y_safeSize, y_safeWords, y_said) f := by
  unfold wpY_openOf
  refine uk_count (fun n i c => wY_openOf_4 post f y_changes y_time y_last y_lastPid y_did y_greatest y_stepped y_says y_killed y_ops y_as y_bs y_length y_pid y_parent y_program y_pc y_status y_steps y_copies y_pages y_wake y_zombie y_blocked y_reg y_memory y_frame y_descriptor y_kind y_of y_mode y_place y_piped y_pipe y_names y_size y_words y_safeNames y_safeSize y_safeWords y_said n c (nI i)) (fun o => y_kind o = 1 ∧ y_of o = f) 12 (fun n => br_t (uk_refl 12) h) (fun n i c hi ht hf => ?_)
  obtain ⟨z, v, e⟩ := uk_lp 12 hi (by decide)
  refine br_f z ⟨v, ?_⟩
  rw [e]
  exact ⟨fun a => ⟨v, fun b => nm_r (nI_1 c) (nm_r (nI_1 i) (ht ⟨a, b⟩)), fun b => nm_r (nI_1 i) (hf (fun z => b z.2))⟩, fun a => nm_r (nI_1 i) (hf (fun z => a z.1))⟩
theorem uk_cnz {P : Nat → Prop} {n : Nat} (hn : n < 2 ^ 31) : nI (uk_cn P n) = 0 ↔ ∀ i, i < n → ¬ P i := by
  have h := uk_cnle P n
  rw [show (0 : Int32) = nI 0 from rfl, nI_eq (by omega) (by decide)]
  exact ⟨uk_cn0', uk_cn0 n⟩
theorem yk_isFree {post : Int32 → Prop} {f : Nat} (ht : uk_fre y_names y_kind y_of f → post 1) (hf : ¬ uk_fre y_names y_kind y_of f → post 0) : wpY_isFree post (y_changes, y_time, y_last, y_lastPid, y_did, y_greatest, y_stepped, y_says, y_killed, y_ops, y_as, y_bs, y_length, y_pid, y_parent, y_program, y_pc, y_status, y_steps, y_copies, y_pages, y_wake, y_zombie, y_blocked, y_reg, y_memory, y_frame, y_descriptor, y_kind, y_of, y_mode, y_place, y_piped, y_pipe, y_names, y_size, y_words, y_safeNames, y_safeSize, y_safeWords, y_said) (nI f) := by
  unfold wpY_isFree
  refine yk_named ⟨fun a => ?_, fun a => ?_⟩
  · refine yk_openOf ⟨fun b => ht ⟨(uk_cnz (by decide)).mp a, (uk_cnz (by decide)).mp b⟩, fun b => hf (fun z => b ((uk_cnz (by decide)).mpr z.2))⟩
  · exact hf (fun z => a ((uk_cnz (by decide)).mpr z.1))
theorem yk_hasEnd {post : Int32 → Prop} {p k : Int32} (ht : (∃ o, o < 12 ∧ y_kind o = k ∧ y_of o = p) → post 1) (hf : (∀ o, o < 12 → ¬ (y_kind o = k ∧ y_of o = p)) → post 0) : wpY_hasEnd post (y_changes, y_time, y_last, y_lastPid, y_did, y_greatest, y_stepped, y_says, y_killed, y_ops, y_as, y_bs, y_length, y_pid, y_parent, y_program, y_pc, y_status, y_steps, y_copies, y_pages, y_wake, y_zombie, y_blocked, y_reg, y_memory, y_frame, y_descriptor, y_kind, y_of, y_mode, y_place, y_piped, y_pipe, y_names, y_size, y_words, y_safeNames, y_safeSize, y_safeWords, y_said) p k := by
  unfold wpY_hasEnd
  refine uk_any (fun n i => wY_hasEnd_2 post p k y_changes y_time y_last y_lastPid y_did y_greatest y_stepped y_says y_killed y_ops y_as y_bs y_length y_pid y_parent y_program y_pc y_status y_steps y_copies y_pages y_wake y_zombie y_blocked y_reg y_memory y_frame y_descriptor y_kind y_of y_mode y_place y_piped y_pipe y_names y_size y_words y_safeNames y_safeSize y_safeWords y_said n (nI i)) (fun o => y_kind o = k ∧ y_of o = p) 12 (fun h n => br_t (uk_refl 12) (hf h)) (fun n i hi h => ?_) (fun n i hi h ih => ?_)
  · obtain ⟨z, v, e⟩ := uk_lp 12 hi (by decide)
    refine br_f z ⟨v, ?_⟩
    rw [e]
    exact br_t h.1 ⟨v, br_t h.2 (ht ⟨i, hi, h⟩)⟩
  · obtain ⟨z, v, e⟩ := uk_lp 12 hi (by decide)
    refine br_f z ⟨v, ?_⟩
    rw [e]
    exact ⟨fun a => ⟨v, fun b => absurd ⟨a, b⟩ h, fun _ => nm_r (nI_1 i) ih⟩, fun _ => nm_r (nI_1 i) ih⟩
theorem yk_freeOpen {post : Int32 → Prop} (h : post (uk_ff (fun o => y_kind o = 0) 12)) : wpY_freeOpen post (y_changes, y_time, y_last, y_lastPid, y_did, y_greatest, y_stepped, y_says, y_killed, y_ops, y_as, y_bs, y_length, y_pid, y_parent, y_program, y_pc, y_status, y_steps, y_copies, y_pages, y_wake, y_zombie, y_blocked, y_reg, y_memory, y_frame, y_descriptor, y_kind, y_of, y_mode, y_place, y_piped, y_pipe, y_names, y_size, y_words, y_safeNames, y_safeSize, y_safeWords, y_said) := by
  unfold wpY_freeOpen
  refine uk_first (fun n i => wY_freeOpen_2 post y_changes y_time y_last y_lastPid y_did y_greatest y_stepped y_says y_killed y_ops y_as y_bs y_length y_pid y_parent y_program y_pc y_status y_steps y_copies y_pages y_wake y_zombie y_blocked y_reg y_memory y_frame y_descriptor y_kind y_of y_mode y_place y_piped y_pipe y_names y_size y_words y_safeNames y_safeSize y_safeWords y_said n (nI i)) post (fun o => y_kind o = 0) 12 h (fun n h => br_t (uk_refl 12) h) (fun n i hi ht hf => ?_)
  obtain ⟨z, v, e⟩ := uk_lp 12 hi (by decide)
  refine br_f z ⟨v, ?_⟩
  rw [e]
  exact ⟨ht, fun q => nm_r (nI_1 i) (hf q)⟩
theorem yk_opens {post : Int32 → Prop} (h : post (nI (uk_cn (fun o => ¬ y_kind o ≤ 0) 12))) : wpY_opens post (y_changes, y_time, y_last, y_lastPid, y_did, y_greatest, y_stepped, y_says, y_killed, y_ops, y_as, y_bs, y_length, y_pid, y_parent, y_program, y_pc, y_status, y_steps, y_copies, y_pages, y_wake, y_zombie, y_blocked, y_reg, y_memory, y_frame, y_descriptor, y_kind, y_of, y_mode, y_place, y_piped, y_pipe, y_names, y_size, y_words, y_safeNames, y_safeSize, y_safeWords, y_said) := by
  unfold wpY_opens
  refine uk_count (fun n i c => wY_opens_4 post y_changes y_time y_last y_lastPid y_did y_greatest y_stepped y_says y_killed y_ops y_as y_bs y_length y_pid y_parent y_program y_pc y_status y_steps y_copies y_pages y_wake y_zombie y_blocked y_reg y_memory y_frame y_descriptor y_kind y_of y_mode y_place y_piped y_pipe y_names y_size y_words y_safeNames y_safeSize y_safeWords y_said n c (nI i)) (fun o => ¬ y_kind o ≤ 0) 12 (fun n => br_t (uk_refl 12) h) (fun n i c hi ht hf => ?_)
  obtain ⟨z, v, e⟩ := uk_lp 12 hi (by decide)
  refine br_f z ⟨v, ?_⟩
  rw [e]
  exact ⟨fun q => nm_r (nI_1 i) (hf (fun z => z q)), fun q => nm_r (nI_1 c) (nm_r (nI_1 i) (ht q))⟩
theorem yk_freeDescriptor {post : Int32 → Prop} {s j : Nat} (hs : s < 8) (hj : j ≤ 6) (hH : ∀ d, d < 6 → y_descriptor (6 * s + d) = -1 ∨ vp_in (y_descriptor (6 * s + d)) 12) (h : post (uk_fg (fun d => y_descriptor (6 * s + d) = -1) (6 - j) j)) : wpY_freeDescriptor post (y_changes, y_time, y_last, y_lastPid, y_did, y_greatest, y_stepped, y_says, y_killed, y_ops, y_as, y_bs, y_length, y_pid, y_parent, y_program, y_pc, y_status, y_steps, y_copies, y_pages, y_wake, y_zombie, y_blocked, y_reg, y_memory, y_frame, y_descriptor, y_kind, y_of, y_mode, y_place, y_piped, y_pipe, y_names, y_size, y_words, y_safeNames, y_safeSize, y_safeWords, y_said) (nI s) (nI j) := by
  unfold wpY_freeDescriptor
  refine ⟨6 - j + 1, uk_firstG (fun n i => wY_freeDescriptor_2 post (nI s) y_changes y_time y_last y_lastPid y_did y_greatest y_stepped y_says y_killed y_ops y_as y_bs y_length y_pid y_parent y_program y_pc y_status y_steps y_copies y_pages y_wake y_zombie y_blocked y_reg y_memory y_frame y_descriptor y_kind y_of y_mode y_place y_piped y_pipe y_names y_size y_words y_safeNames y_safeSize y_safeWords y_said n (nI i)) post (fun d => y_descriptor (6 * s + d) = -1) 6 (fun n h => br_t (uk_refl 6) h) (fun n i hi ht hf => ?_) (6 - j) j (by omega) h⟩
  obtain ⟨z, v, e⟩ := uk_lp 6 hi (by decide)
  refine br_f z ?_
  rw [uk_6m, nI_add]
  refine ⟨vp_in_nI (by omega) (by omega), ?_⟩
  rw [nI_clamp (by omega)]
  rcases hH i hi with a | a
  · rw [a]
    exact br_f (by decide) (ht a)
  · have a1 : 0 ≤ y_descriptor (6 * s + i) := Int32.not_lt.mp (not_or.mp a).1
    exact br_t a1 (nm_r (nI_1 i) (hf (fun w => by rw [w] at a1; exact absurd a1 (by decide))))
end
end
section
/-! readers of both sides over the same tables -/
def uk_fb (g : Nat → Nat) : Nat → Int32
  | 0 => 16
  | i + 1 => uk_fb g i - nI (g i)
def uk_pfr (ki T : Nat → Int32) (p : Int32) : Prop := ∀ o, o < 12 → ¬ ((ki o = 2 ∨ ki o = 3) ∧ T o = p)
theorem uk_okp {P zo H oh ok ki T om mo op : Nat → Int32} (hO : uk_Ok oh ok ki T om mo op) (hh : uk_Ho P zo H oh) {o : Nat} (ho : o < 12) : (¬ oh o ≤ 0 ∧ ok o ≠ 1) ↔ (ki o = 2 ∨ ki o = 3) := by
  rw [(uk_ohp hh ho).2.1]
  rcases (hO o ho).2 with ⟨a, b⟩ | ⟨a, b, c⟩
  · rw [b]; exact ⟨fun z => absurd a z.1, fun z => by rcases z with z | z <;> exact absurd z (by decide)⟩
  · rw [b]
    rcases c with c | c | c
    · rw [c.1]; exact ⟨fun z => absurd rfl z.2, fun z => by rcases z with z | z <;> exact absurd z (by decide)⟩
    · rw [c.1]; exact ⟨fun _ => Or.inl rfl, fun _ => ⟨a, by decide⟩⟩
    · rw [c.1]; exact ⟨fun _ => Or.inr rfl, fun _ => ⟨a, by decide⟩⟩
section
variable {x_changes x_saidCount x_time x_lastSlot x_sliceSteps x_latestPid x_greatestPid : Int32} {x_code x_codeLengths x_pids x_parents x_programs x_places x_states x_statuses x_stepCounts x_copyCounts x_wakeTimes x_registers x_pageCounts x_pageFrames x_held x_frameUsers x_frameWords x_openHolders x_openKinds x_openTargets x_openPlaces x_openModes x_pipeFirsts x_pipeCounts x_pipeWords x_nameFiles x_fileSizes x_fileWords x_safeNames x_safeSizes x_safeWords x_saidInts : Nat → Int32} {y_time y_last y_lastPid y_did y_killed : Int32} {y_ops y_as y_bs y_pages y_wake y_zombie y_blocked y_memory y_frame y_kind y_mode y_pipe y_size y_safeSize y_said : Nat → Int32}
theorem xk_isFree {post : Int32 → Prop} {f : Nat} (hO : uk_Ok x_openHolders x_openKinds y_kind x_openTargets x_openModes y_mode x_openPlaces) (hh : uk_Ho x_pids y_zombie x_held x_openHolders) (ht : uk_fre x_nameFiles y_kind x_openTargets f → post 1) (hf : ¬ uk_fre x_nameFiles y_kind x_openTargets f → post 0) : wpX_isFreeFile post (x_changes, x_saidCount, x_time, x_lastSlot, x_sliceSteps, x_latestPid, x_greatestPid, x_code, x_codeLengths, x_pids, x_parents, x_programs, x_places, x_states, x_statuses, x_stepCounts, x_copyCounts, x_wakeTimes, x_registers, x_pageCounts, x_pageFrames, x_held, x_frameUsers, x_frameWords, x_openHolders, x_openKinds, x_openTargets, x_openPlaces, x_openModes, x_pipeFirsts, x_pipeCounts, x_pipeWords, x_nameFiles, x_fileSizes, x_fileWords, x_safeNames, x_safeSizes, x_safeWords, x_saidInts) (nI f) := by
  refine xk_isFreeFile (fun a b => ht ⟨a, fun o ho z => ?_⟩) (fun a => hf (fun z => ?_))
  · have c := (uk_okk hO hh ho (k := 1) (by decide)).mpr z.1
    exact b o ho ⟨c.1, c.2, z.2⟩
  · rcases a with ⟨k, hk, e⟩ | ⟨o, ho, e1, e2, e3⟩
    · exact z.1 k hk e
    · exact z.2 o ho ⟨(uk_okk hO hh ho (k := 1) (by decide)).mp ⟨e1, e2⟩, e3⟩
theorem xk_freeFile {post : Int32 → Prop} (hO : uk_Ok x_openHolders x_openKinds y_kind x_openTargets x_openModes y_mode x_openPlaces) (hh : uk_Ho x_pids y_zombie x_held x_openHolders) (h : post (uk_ff (fun f => uk_fre x_nameFiles y_kind x_openTargets f) 8)) : wpX_freeFile post (x_changes, x_saidCount, x_time, x_lastSlot, x_sliceSteps, x_latestPid, x_greatestPid, x_code, x_codeLengths, x_pids, x_parents, x_programs, x_places, x_states, x_statuses, x_stepCounts, x_copyCounts, x_wakeTimes, x_registers, x_pageCounts, x_pageFrames, x_held, x_frameUsers, x_frameWords, x_openHolders, x_openKinds, x_openTargets, x_openPlaces, x_openModes, x_pipeFirsts, x_pipeCounts, x_pipeWords, x_nameFiles, x_fileSizes, x_fileWords, x_safeNames, x_safeSizes, x_safeWords, x_saidInts) := by
  unfold wpX_freeFile
  refine uk_first (fun n i => wX_freeFile_2 post x_changes x_saidCount x_time x_lastSlot x_sliceSteps x_latestPid x_greatestPid x_code x_codeLengths x_pids x_parents x_programs x_places x_states x_statuses x_stepCounts x_copyCounts x_wakeTimes x_registers x_pageCounts x_pageFrames x_held x_frameUsers x_frameWords x_openHolders x_openKinds x_openTargets x_openPlaces x_openModes x_pipeFirsts x_pipeCounts x_pipeWords x_nameFiles x_fileSizes x_fileWords x_safeNames x_safeSizes x_safeWords x_saidInts n (nI i)) post (fun f => uk_fre x_nameFiles y_kind x_openTargets f) 8 h (fun n h => br_t (uk_refl 8) h) (fun n i hi ht hf => ?_)
  obtain ⟨z, v, e⟩ := uk_lp 8 hi (by decide)
  exact br_f z (xk_isFree hO hh (fun a => br_f (by decide) (ht a)) (fun a => br_t rfl (nm_r (nI_1 i) (hf a))))
theorem xk_countFreeFiles {post : Int32 → Prop} (hO : uk_Ok x_openHolders x_openKinds y_kind x_openTargets x_openModes y_mode x_openPlaces) (hh : uk_Ho x_pids y_zombie x_held x_openHolders) (h : post (nI (uk_cn (fun f => uk_fre x_nameFiles y_kind x_openTargets f) 8))) : wpX_countFreeFiles post (x_changes, x_saidCount, x_time, x_lastSlot, x_sliceSteps, x_latestPid, x_greatestPid, x_code, x_codeLengths, x_pids, x_parents, x_programs, x_places, x_states, x_statuses, x_stepCounts, x_copyCounts, x_wakeTimes, x_registers, x_pageCounts, x_pageFrames, x_held, x_frameUsers, x_frameWords, x_openHolders, x_openKinds, x_openTargets, x_openPlaces, x_openModes, x_pipeFirsts, x_pipeCounts, x_pipeWords, x_nameFiles, x_fileSizes, x_fileWords, x_safeNames, x_safeSizes, x_safeWords, x_saidInts) := by
  unfold wpX_countFreeFiles
  refine uk_count (fun n i c => wX_countFreeFiles_4 post x_changes x_saidCount x_time x_lastSlot x_sliceSteps x_latestPid x_greatestPid x_code x_codeLengths x_pids x_parents x_programs x_places x_states x_statuses x_stepCounts x_copyCounts x_wakeTimes x_registers x_pageCounts x_pageFrames x_held x_frameUsers x_frameWords x_openHolders x_openKinds x_openTargets x_openPlaces x_openModes x_pipeFirsts x_pipeCounts x_pipeWords x_nameFiles x_fileSizes x_fileWords x_safeNames x_safeSizes x_safeWords x_saidInts n c (nI i)) (fun f => uk_fre x_nameFiles y_kind x_openTargets f) 8 (fun n => br_t (uk_refl 8) h) (fun n i c hi ht hf => ?_)
  obtain ⟨z, v, e⟩ := uk_lp 8 hi (by decide)
  exact br_f z (xk_isFree hO hh (fun a => br_f (by decide) (nm_r (nI_1 c) (nm_r (nI_1 i) (ht a)))) (fun a => br_t rfl (nm_r (nI_1 i) (hf a))))
theorem xk_isPipe {post : Int32 → Prop} {p : Int32} (hO : uk_Ok x_openHolders x_openKinds y_kind x_openTargets x_openModes y_mode x_openPlaces) (hh : uk_Ho x_pids y_zombie x_held x_openHolders) (ht : uk_pfr y_kind x_openTargets p → post 1) (hf : ¬ uk_pfr y_kind x_openTargets p → post 0) : wpX_isFreePipe post (x_changes, x_saidCount, x_time, x_lastSlot, x_sliceSteps, x_latestPid, x_greatestPid, x_code, x_codeLengths, x_pids, x_parents, x_programs, x_places, x_states, x_statuses, x_stepCounts, x_copyCounts, x_wakeTimes, x_registers, x_pageCounts, x_pageFrames, x_held, x_frameUsers, x_frameWords, x_openHolders, x_openKinds, x_openTargets, x_openPlaces, x_openModes, x_pipeFirsts, x_pipeCounts, x_pipeWords, x_nameFiles, x_fileSizes, x_fileWords, x_safeNames, x_safeSizes, x_safeWords, x_saidInts) p := by
  refine xk_isFreePipe (fun a => ht (fun o ho z => ?_)) (fun a => hf (fun z => ?_))
  · have c := (uk_okp hO hh ho).mpr z.1
    exact a o ho ⟨c.1, c.2, z.2⟩
  · obtain ⟨o, ho, e1, e2, e3⟩ := a
    exact z o ho ⟨(uk_okp hO hh ho).mp ⟨e1, e2⟩, e3⟩
theorem xk_freePipe {post : Int32 → Prop} (hO : uk_Ok x_openHolders x_openKinds y_kind x_openTargets x_openModes y_mode x_openPlaces) (hh : uk_Ho x_pids y_zombie x_held x_openHolders) (h : post (uk_ff (fun p => uk_pfr y_kind x_openTargets (nI p)) 4)) : wpX_freePipe post (x_changes, x_saidCount, x_time, x_lastSlot, x_sliceSteps, x_latestPid, x_greatestPid, x_code, x_codeLengths, x_pids, x_parents, x_programs, x_places, x_states, x_statuses, x_stepCounts, x_copyCounts, x_wakeTimes, x_registers, x_pageCounts, x_pageFrames, x_held, x_frameUsers, x_frameWords, x_openHolders, x_openKinds, x_openTargets, x_openPlaces, x_openModes, x_pipeFirsts, x_pipeCounts, x_pipeWords, x_nameFiles, x_fileSizes, x_fileWords, x_safeNames, x_safeSizes, x_safeWords, x_saidInts) := by
  unfold wpX_freePipe
  refine uk_first (fun n i => wX_freePipe_2 post x_changes x_saidCount x_time x_lastSlot x_sliceSteps x_latestPid x_greatestPid x_code x_codeLengths x_pids x_parents x_programs x_places x_states x_statuses x_stepCounts x_copyCounts x_wakeTimes x_registers x_pageCounts x_pageFrames x_held x_frameUsers x_frameWords x_openHolders x_openKinds x_openTargets x_openPlaces x_openModes x_pipeFirsts x_pipeCounts x_pipeWords x_nameFiles x_fileSizes x_fileWords x_safeNames x_safeSizes x_safeWords x_saidInts n (nI i)) post (fun p => uk_pfr y_kind x_openTargets (nI p)) 4 h (fun n h => br_t (uk_refl 4) h) (fun n i hi ht hf => ?_)
  obtain ⟨z, v, e⟩ := uk_lp 4 hi (by decide)
  exact br_f z (xk_isPipe hO hh (fun a => br_f (by decide) (ht a)) (fun a => br_t rfl (nm_r (nI_1 i) (hf a))))
theorem xk_countPipes {post : Int32 → Prop} (hO : uk_Ok x_openHolders x_openKinds y_kind x_openTargets x_openModes y_mode x_openPlaces) (hh : uk_Ho x_pids y_zombie x_held x_openHolders) (h : post (nI (uk_cn (fun p => ¬ uk_pfr y_kind x_openTargets (nI p)) 4))) : wpX_countPipes post (x_changes, x_saidCount, x_time, x_lastSlot, x_sliceSteps, x_latestPid, x_greatestPid, x_code, x_codeLengths, x_pids, x_parents, x_programs, x_places, x_states, x_statuses, x_stepCounts, x_copyCounts, x_wakeTimes, x_registers, x_pageCounts, x_pageFrames, x_held, x_frameUsers, x_frameWords, x_openHolders, x_openKinds, x_openTargets, x_openPlaces, x_openModes, x_pipeFirsts, x_pipeCounts, x_pipeWords, x_nameFiles, x_fileSizes, x_fileWords, x_safeNames, x_safeSizes, x_safeWords, x_saidInts) := by
  unfold wpX_countPipes
  refine uk_count (fun n i c => wX_countPipes_4 post x_changes x_saidCount x_time x_lastSlot x_sliceSteps x_latestPid x_greatestPid x_code x_codeLengths x_pids x_parents x_programs x_places x_states x_statuses x_stepCounts x_copyCounts x_wakeTimes x_registers x_pageCounts x_pageFrames x_held x_frameUsers x_frameWords x_openHolders x_openKinds x_openTargets x_openPlaces x_openModes x_pipeFirsts x_pipeCounts x_pipeWords x_nameFiles x_fileSizes x_fileWords x_safeNames x_safeSizes x_safeWords x_saidInts n c (nI i)) (fun p => ¬ uk_pfr y_kind x_openTargets (nI p)) 4 (fun n => br_t (uk_refl 4) h) (fun n i c hi ht hf => ?_)
  obtain ⟨z, v, e⟩ := uk_lp 4 hi (by decide)
  exact br_f z (xk_isPipe hO hh (fun a => br_f (by decide) (nm_r (nI_1 i) (hf (fun w => w a)))) (fun a => br_t rfl (nm_r (nI_1 c) (nm_r (nI_1 i) (ht a)))))
theorem xk_countFreeBlocks {post : Int32 → Prop} (hO : uk_Ok x_openHolders x_openKinds y_kind x_openTargets x_openModes y_mode x_openPlaces) (hh : uk_Ho x_pids y_zombie x_held x_openHolders) (hF : uk_Fi x_nameFiles y_kind x_openTargets x_fileSizes y_size) (h : post (uk_fb (fun f => ((y_size f).toNatClampNeg + 3) / 4) 8)) : wpX_countFreeBlocks post (x_changes, x_saidCount, x_time, x_lastSlot, x_sliceSteps, x_latestPid, x_greatestPid, x_code, x_codeLengths, x_pids, x_parents, x_programs, x_places, x_states, x_statuses, x_stepCounts, x_copyCounts, x_wakeTimes, x_registers, x_pageCounts, x_pageFrames, x_held, x_frameUsers, x_frameWords, x_openHolders, x_openKinds, x_openTargets, x_openPlaces, x_openModes, x_pipeFirsts, x_pipeCounts, x_pipeWords, x_nameFiles, x_fileSizes, x_fileWords, x_safeNames, x_safeSizes, x_safeWords, x_saidInts) := by
  unfold wpX_countFreeBlocks
  refine uk_run0 (fun m i (x : Int32) => wX_countFreeBlocks_5 post x_changes x_saidCount x_time x_lastSlot x_sliceSteps x_latestPid x_greatestPid x_code x_codeLengths x_pids x_parents x_programs x_places x_states x_statuses x_stepCounts x_copyCounts x_wakeTimes x_registers x_pageCounts x_pageFrames x_held x_frameUsers x_frameWords x_openHolders x_openKinds x_openTargets x_openPlaces x_openModes x_pipeFirsts x_pipeCounts x_pipeWords x_nameFiles x_fileSizes x_fileWords x_safeNames x_safeSizes x_safeWords x_saidInts m x (nI i)) (fun i => uk_fb (fun f => ((y_size f).toNatClampNeg + 3) / 4) i) 8 (fun m => br_t (uk_refl 8) h) (fun m i hi ih => ?_)
  obtain ⟨z, v, e⟩ := uk_lp 8 hi (by decide)
  obtain ⟨h1, h2, h3⟩ := hF.2 i hi
  obtain ⟨n, hn, en⟩ := vp_in_of h1 (by decide)
  have ih2 : wX_countFreeBlocks_5 post x_changes x_saidCount x_time x_lastSlot x_sliceSteps x_latestPid x_greatestPid x_code x_codeLengths x_pids x_parents x_programs x_places x_states x_statuses x_stepCounts x_copyCounts x_wakeTimes x_registers x_pageCounts x_pageFrames x_held x_frameUsers x_frameWords x_openHolders x_openKinds x_openTargets x_openPlaces x_openModes x_pipeFirsts x_pipeCounts x_pipeWords x_nameFiles x_fileSizes x_fileWords x_safeNames x_safeSizes x_safeWords x_saidInts m (uk_fb (fun f => ((y_size f).toNatClampNeg + 3) / 4) i - nI ((n + 3) / 4)) (nI (i + 1)) := by
    have ih3 := ih
    show wX_countFreeBlocks_5 post x_changes x_saidCount x_time x_lastSlot x_sliceSteps x_latestPid x_greatestPid x_code x_codeLengths x_pids x_parents x_programs x_places x_states x_statuses x_stepCounts x_copyCounts x_wakeTimes x_registers x_pageCounts x_pageFrames x_held x_frameUsers x_frameWords x_openHolders x_openKinds x_openTargets x_openPlaces x_openModes x_pipeFirsts x_pipeCounts x_pipeWords x_nameFiles x_fileSizes x_fileWords x_safeNames x_safeSizes x_safeWords x_saidInts m (uk_fb (fun f => ((y_size f).toNatClampNeg + 3) / 4) i - nI ((n + 3) / 4)) (nI (i + 1))
    have e4 : uk_fb (fun f => ((y_size f).toNatClampNeg + 3) / 4) (i + 1) = uk_fb (fun f => ((y_size f).toNatClampNeg + 3) / 4) i - nI ((n + 3) / 4) := by
      show uk_fb (fun f => ((y_size f).toNatClampNeg + 3) / 4) i - nI (((y_size i).toNatClampNeg + 3) / 4) = _
      rw [en, nI_clamp (by omega)]
    rw [e4] at ih3
    exact ih3
  refine br_f z (xk_isFree hO hh (fun a => ?_) (fun a => ?_))
  · have e0 : n = 0 := by
      have := h2 a
      rw [en] at this
      exact (nI_eq (b := 0) (by omega) (by decide)).mp this
    subst e0
    rw [show nI ((0 + 3) / 4) = 0 from rfl, Int32.sub_zero] at ih2
    exact br_f (by decide) (nm_r (nI_1 i) ih2)
  · refine br_t rfl ⟨v, by decide, ?_⟩
    have e1 : (x_fileSizes i + 4 - 1) / 4 = nI ((n + 3) / 4) := by
      rw [h3 a, en]
      have a1 : nI n + 4 - 1 = nI (n + 3) := (congrArg (· - 1) (nI_add n 4)).trans ((pk_sub (b := 1) (by omega)).trans (congrArg nI (by omega)))
      rw [a1]
      exact pk_div (d := 4) (by omega) (by decide) (by decide)
    rw [e, e1]
    exact nm_e (nm_r (nI_1 i) ih2)
theorem yk_isPipe {post : Int32 → Prop} {p : Int32} (ht : ¬ uk_pfr y_kind x_openTargets p → post 1) (hf : uk_pfr y_kind x_openTargets p → post 0) : wpY_isPipe post (x_changes, y_time, y_last, y_lastPid, y_did, x_greatestPid, x_latestPid, x_saidCount, y_killed, y_ops, y_as, y_bs, x_codeLengths, x_pids, x_parents, x_programs, x_places, x_statuses, x_stepCounts, x_copyCounts, y_pages, y_wake, y_zombie, y_blocked, x_registers, y_memory, y_frame, x_held, y_kind, x_openTargets, y_mode, x_openPlaces, x_pipeCounts, y_pipe, x_nameFiles, y_size, x_fileWords, x_safeNames, y_safeSize, x_safeWords, y_said) p := by
  unfold wpY_isPipe
  refine yk_hasEnd (fun a => br_f (by decide) (ht (fun z => ?_))) (fun a => br_t rfl (yk_hasEnd (fun b => br_f (by decide) (ht (fun z => ?_))) (fun b => br_t rfl (hf (fun o ho z => ?_)))))
  · obtain ⟨o, ho, e1, e2⟩ := a
    exact z o ho ⟨Or.inl e1, e2⟩
  · obtain ⟨o, ho, e1, e2⟩ := b
    exact z o ho ⟨Or.inr e1, e2⟩
  · rcases z.1 with y | y
    · exact a o ho ⟨y, z.2⟩
    · exact b o ho ⟨y, z.2⟩
theorem yk_freePipe {post : Int32 → Prop} (h : post (uk_ff (fun p => uk_pfr y_kind x_openTargets (nI p)) 4)) : wpY_freePipe post (x_changes, y_time, y_last, y_lastPid, y_did, x_greatestPid, x_latestPid, x_saidCount, y_killed, y_ops, y_as, y_bs, x_codeLengths, x_pids, x_parents, x_programs, x_places, x_statuses, x_stepCounts, x_copyCounts, y_pages, y_wake, y_zombie, y_blocked, x_registers, y_memory, y_frame, x_held, y_kind, x_openTargets, y_mode, x_openPlaces, x_pipeCounts, y_pipe, x_nameFiles, y_size, x_fileWords, x_safeNames, y_safeSize, x_safeWords, y_said) := by
  unfold wpY_freePipe
  refine uk_first (fun n i => wY_freePipe_2 post x_changes y_time y_last y_lastPid y_did x_greatestPid x_latestPid x_saidCount y_killed y_ops y_as y_bs x_codeLengths x_pids x_parents x_programs x_places x_statuses x_stepCounts x_copyCounts y_pages y_wake y_zombie y_blocked x_registers y_memory y_frame x_held y_kind x_openTargets y_mode x_openPlaces x_pipeCounts y_pipe x_nameFiles y_size x_fileWords x_safeNames y_safeSize x_safeWords y_said n (nI i)) post (fun p => uk_pfr y_kind x_openTargets (nI p)) 4 h (fun n h => br_t (uk_refl 4) h) (fun n i hi ht hf => ?_)
  obtain ⟨z, v, e⟩ := uk_lp 4 hi (by decide)
  exact br_f z (yk_isPipe (fun a => br_f (by decide) (nm_r (nI_1 i) (hf a))) (fun a => br_t rfl (ht a)))
theorem yk_freeBlocks {post : Int32 → Prop} (hF : uk_Fi x_nameFiles y_kind x_openTargets x_fileSizes y_size) (h : post (uk_fb (fun f => ((y_size f).toNatClampNeg + 3) / 4) 8)) : wpY_freeBlocks post (x_changes, y_time, y_last, y_lastPid, y_did, x_greatestPid, x_latestPid, x_saidCount, y_killed, y_ops, y_as, y_bs, x_codeLengths, x_pids, x_parents, x_programs, x_places, x_statuses, x_stepCounts, x_copyCounts, y_pages, y_wake, y_zombie, y_blocked, x_registers, y_memory, y_frame, x_held, y_kind, x_openTargets, y_mode, x_openPlaces, x_pipeCounts, y_pipe, x_nameFiles, y_size, x_fileWords, x_safeNames, y_safeSize, x_safeWords, y_said) := by
  unfold wpY_freeBlocks
  refine uk_run0 (fun m i (x : Int32) => wY_freeBlocks_5 post x_changes y_time y_last y_lastPid y_did x_greatestPid x_latestPid x_saidCount y_killed y_ops y_as y_bs x_codeLengths x_pids x_parents x_programs x_places x_statuses x_stepCounts x_copyCounts y_pages y_wake y_zombie y_blocked x_registers y_memory y_frame x_held y_kind x_openTargets y_mode x_openPlaces x_pipeCounts y_pipe x_nameFiles y_size x_fileWords x_safeNames y_safeSize x_safeWords y_said m x (nI i)) (fun i => uk_fb (fun f => ((y_size f).toNatClampNeg + 3) / 4) i) 8 (fun m => br_t (uk_refl 8) h) (fun m i hi ih => ?_)
  obtain ⟨z, v, e⟩ := uk_lp 8 hi (by decide)
  obtain ⟨n, hn, en⟩ := vp_in_of (hF.2 i hi).1 (by decide)
  refine br_f z ⟨v, by decide, ?_⟩
  have e1 : (y_size i + 3) / 4 = nI (((y_size i).toNatClampNeg + 3) / 4) := by
    rw [en, nI_clamp (by omega)]
    have a1 : nI n + 3 = nI (n + 3) := nI_add n 3
    rw [a1]
    exact pk_div (d := 4) (by omega) (by decide) (by decide)
  rw [e, e1]
  exact nm_e (nm_r (nI_1 i) ih)
theorem xk_leastZombie {post : Int32 → Prop} {s : Nat} (hs : s < 8) (h : post (uk_be x_pids (fun c => x_pids c ≠ 0 ∧ x_states c = 3 ∧ x_parents c = x_pids s) 8)) : wpX_leastZombie post (x_changes, x_saidCount, x_time, x_lastSlot, x_sliceSteps, x_latestPid, x_greatestPid, x_code, x_codeLengths, x_pids, x_parents, x_programs, x_places, x_states, x_statuses, x_stepCounts, x_copyCounts, x_wakeTimes, x_registers, x_pageCounts, x_pageFrames, x_held, x_frameUsers, x_frameWords, x_openHolders, x_openKinds, x_openTargets, x_openPlaces, x_openModes, x_pipeFirsts, x_pipeCounts, x_pipeWords, x_nameFiles, x_fileSizes, x_fileWords, x_safeNames, x_safeSizes, x_safeWords, x_saidInts) (nI s) := by
  unfold wpX_leastZombie
  obtain ⟨_, vs, es⟩ := uk_lp 8 hs (by decide)
  refine uk_run0 (fun m i (x : Int32) => wX_leastZombie_4 post (nI s) x_changes x_saidCount x_time x_lastSlot x_sliceSteps x_latestPid x_greatestPid x_code x_codeLengths x_pids x_parents x_programs x_places x_states x_statuses x_stepCounts x_copyCounts x_wakeTimes x_registers x_pageCounts x_pageFrames x_held x_frameUsers x_frameWords x_openHolders x_openKinds x_openTargets x_openPlaces x_openModes x_pipeFirsts x_pipeCounts x_pipeWords x_nameFiles x_fileSizes x_fileWords x_safeNames x_safeSizes x_safeWords x_saidInts m x (nI i)) (fun i => uk_be x_pids (fun c => x_pids c ≠ 0 ∧ x_states c = 3 ∧ x_parents c = x_pids s) i) 8 (fun m => br_t (uk_refl 8) h) (fun m i hi ih => ?_)
  obtain ⟨z, v, e⟩ := uk_lp 8 hi (by decide)
  refine br_f z ⟨v, ?_⟩
  rw [e, es]
  by_cases hZ : x_pids i ≠ 0 ∧ x_states i = 3 ∧ x_parents i = x_pids s
  · refine br_f hZ.1 ⟨v, br_t hZ.2.1 ⟨v, vs, br_t hZ.2.2 ?_⟩⟩
    refine br_f (by decide) ?_
    rw [e]
    refine ⟨fun a => ?_, fun a => ?_⟩
    · rw [uk_bet ⟨hZ, Or.inl a⟩] at ih
      exact nm_r (nI_1 i) ih
    · rcases uk_bes x_pids (fun c => x_pids c ≠ 0 ∧ x_states c = 3 ∧ x_parents c = x_pids s) i with ⟨b, _⟩ | ⟨j, hj, b, _⟩
      · exact absurd b a
      · refine ⟨v, by rw [b]; exact vp_in_nI (by omega) (by decide), fun d => ?_, fun d => ?_⟩
        · rw [uk_bef (fun w => by
            rcases w.2 with w | w
            · exact a w
            · exact Int32.not_lt.mpr d w)] at ih
          exact nm_r (nI_1 i) ih
        · rw [uk_bet ⟨hZ, Or.inr (Int32.not_le.mp d)⟩] at ih
          exact nm_r (nI_1 i) ih
  · rw [uk_bef (fun w => hZ w.1)] at ih
    have fin : wX_leastZombie_48 post (wX_leastZombie_4 post (nI s) x_changes x_saidCount x_time x_lastSlot x_sliceSteps x_latestPid x_greatestPid x_code x_codeLengths x_pids x_parents x_programs x_places x_states x_statuses x_stepCounts x_copyCounts x_wakeTimes x_registers x_pageCounts x_pageFrames x_held x_frameUsers x_frameWords x_openHolders x_openKinds x_openTargets x_openPlaces x_openModes x_pipeFirsts x_pipeCounts x_pipeWords x_nameFiles x_fileSizes x_fileWords x_safeNames x_safeSizes x_safeWords x_saidInts m) (nI s) (uk_be x_pids (fun c => x_pids c ≠ 0 ∧ x_states c = 3 ∧ x_parents c = x_pids s) i) (nI i) x_changes x_saidCount x_time x_lastSlot x_sliceSteps x_latestPid x_greatestPid x_code x_codeLengths x_pids x_parents x_programs x_places x_states x_statuses x_stepCounts x_copyCounts x_wakeTimes x_registers x_pageCounts x_pageFrames x_held x_frameUsers x_frameWords x_openHolders x_openKinds x_openTargets x_openPlaces x_openModes x_pipeFirsts x_pipeCounts x_pipeWords x_nameFiles x_fileSizes x_fileWords x_safeNames x_safeSizes x_safeWords x_saidInts := br_t rfl (nm_r (nI_1 i) ih)
    exact ⟨fun _ => fin, fun a => ⟨v, fun b => ⟨v, vs, fun c => absurd ⟨a, b, c⟩ hZ, fun _ => fin⟩, fun _ => fin⟩⟩
end
end
section
/-! the calls that only read, first part -/
theorem yk_nom {post : Int32 → Prop} {x m : Int32} (n : Nat) (hm : m = nI n - 1) (hb : n < 2 ^ 31) (hf : vp_in x n → post 0) (ht : ¬ vp_in x n → post 1) : wpY_no post x m := by
  cases n with
  | zero =>
    have e : m = -1 := hm
    have hn : ¬ vp_in x 0 := fun z => by have := uk_inc z; omega
    subst e
    unfold wpY_no
    refine ⟨fun _ => ht hn, fun a => ⟨fun b => absurd (Int32.lt_of_le_of_lt b (by decide)) a, fun _ => ht hn⟩⟩
  | succ n => exact yk_no n (hm.trans (nI_pred n)) hb hf ht
theorem i_vc_name {k : Nat} {u : SX} {v : SY} (I : i_Rel k u v) (hk : k + 5 ≤ 2560) (v1 : Int32) : wpX_name (fun r => wpY_name (fun r' => r' = r ∧ i_Rel (k + 5) u v) v v1) u v1 := by
  have J := i_up I
  obtain ⟨t, b, x_changes, x_saidCount, x_time, x_lastSlot, x_sliceSteps, x_latestPid, x_greatestPid, x_code, x_codeLengths, x_pids, x_parents, x_programs, x_places, x_states, x_statuses, x_stepCounts, x_copyCounts, x_wakeTimes, x_registers, x_pageCounts, x_pageFrames, x_held, x_frameUsers, x_frameWords, x_openHolders, x_openKinds, x_openTargets, x_openPlaces, x_openModes, x_pipeFirsts, x_pipeCounts, x_pipeWords, x_nameFiles, x_fileSizes, x_fileWords, x_safeNames, x_safeSizes, x_safeWords, x_saidInts, y_time, y_last, y_lastPid, y_did, y_killed, y_ops, y_as, y_bs, y_pages, y_wake, y_zombie, y_blocked, y_memory, y_frame, y_kind, y_mode, y_pipe, y_size, y_safeSize, y_said, ht, hbt, rfl, rfl, hA⟩ := I
  obtain ⟨⟨g, eg, hg⟩, ⟨n, en, hn, hSd⟩, ⟨c, ec, hc⟩, eT, hPr, hPs, hMe, hFu, hHd, hHo, hOk, hPi, hFi, hSa, hSc, hWk⟩ := hA
  unfold wpX_name
  refine xk_isName (fun a => br_f (by decide) ⟨a, ?_⟩) (fun a => br_t rfl ?_)
  · unfold wpY_name
    exact yk_no 7 rfl (by decide) (fun b => br_t rfl ⟨b, rfl, J⟩) (fun b => absurd a b)
  · unfold wpY_name
    exact yk_no 7 rfl (by decide) (fun b => absurd b a) (fun b => br_f (by decide) ⟨rfl, J⟩)
theorem i_vc_said {k : Nat} {u : SX} {v : SY} (I : i_Rel k u v) (hk : k + 5 ≤ 2560) (v1 : Int32) : wpX_said (fun r => wpY_said (fun r' => r' = r ∧ i_Rel (k + 5) u v) v v1) u v1 := by
  have J := i_up I
  obtain ⟨t, b, x_changes, x_saidCount, x_time, x_lastSlot, x_sliceSteps, x_latestPid, x_greatestPid, x_code, x_codeLengths, x_pids, x_parents, x_programs, x_places, x_states, x_statuses, x_stepCounts, x_copyCounts, x_wakeTimes, x_registers, x_pageCounts, x_pageFrames, x_held, x_frameUsers, x_frameWords, x_openHolders, x_openKinds, x_openTargets, x_openPlaces, x_openModes, x_pipeFirsts, x_pipeCounts, x_pipeWords, x_nameFiles, x_fileSizes, x_fileWords, x_safeNames, x_safeSizes, x_safeWords, x_saidInts, y_time, y_last, y_lastPid, y_did, y_killed, y_ops, y_as, y_bs, y_pages, y_wake, y_zombie, y_blocked, y_memory, y_frame, y_kind, y_mode, y_pipe, y_size, y_safeSize, y_said, ht, hbt, rfl, rfl, hA⟩ := I
  obtain ⟨⟨g, eg, hg⟩, ⟨n, en, hn, hSd⟩, ⟨c, ec, hc⟩, eT, hPr, hPs, hMe, hFu, hHd, hHo, hOk, hPi, hFi, hSa, hSc, hWk⟩ := hA
  have e16 := uk_inE (x := v1) (n := 16) (N := 16) rfl (by decide)
  have y0 : ¬ vp_in v1 16 → wpY_said (fun r' => r' = 0 ∧ i_Rel (k + 5) (x_changes, x_saidCount, x_time, x_lastSlot, x_sliceSteps, x_latestPid, x_greatestPid, x_code, x_codeLengths, x_pids, x_parents, x_programs, x_places, x_states, x_statuses, x_stepCounts, x_copyCounts, x_wakeTimes, x_registers, x_pageCounts, x_pageFrames, x_held, x_frameUsers, x_frameWords, x_openHolders, x_openKinds, x_openTargets, x_openPlaces, x_openModes, x_pipeFirsts, x_pipeCounts, x_pipeWords, x_nameFiles, x_fileSizes, x_fileWords, x_safeNames, x_safeSizes, x_safeWords, x_saidInts) (x_changes, x_time, y_last, y_lastPid, y_did, x_greatestPid, x_latestPid, x_saidCount, y_killed, y_ops, y_as, y_bs, x_codeLengths, x_pids, x_parents, x_programs, x_places, x_statuses, x_stepCounts, x_copyCounts, y_pages, y_wake, y_zombie, y_blocked, x_registers, y_memory, y_frame, x_held, y_kind, x_openTargets, y_mode, x_openPlaces, x_pipeCounts, y_pipe, x_nameFiles, y_size, x_fileWords, x_safeNames, y_safeSize, x_safeWords, y_said)) (x_changes, x_time, y_last, y_lastPid, y_did, x_greatestPid, x_latestPid, x_saidCount, y_killed, y_ops, y_as, y_bs, x_codeLengths, x_pids, x_parents, x_programs, x_places, x_statuses, x_stepCounts, x_copyCounts, y_pages, y_wake, y_zombie, y_blocked, x_registers, y_memory, y_frame, x_held, y_kind, x_openTargets, y_mode, x_openPlaces, x_pipeCounts, y_pipe, x_nameFiles, y_size, x_fileWords, x_safeNames, y_safeSize, x_safeWords, y_said) v1 := fun a => by
    unfold wpY_said
    exact yk_no 15 rfl (by decide) (fun b => absurd b a) (fun b => br_f (by decide) ⟨rfl, J⟩)
  unfold wpX_said
  refine ⟨fun a => y0 (fun z => (e16.mp z).1 a), fun a => ⟨fun b => y0 (fun z => (e16.mp z).2 b), fun b => ?_⟩⟩
  have hv := e16.mpr ⟨a, b⟩
  obtain ⟨j, hj, rfl⟩ := vp_in_of hv (by decide)
  subst en
  refine ⟨fun c => ?_, fun c => ?_⟩
  · have hjn : j < n := (nI_ltI (by omega) (by omega)).mp c
    have e1 : nI n - 1 - nI j = nI (n - 1 - j) := (congrArg (· - nI j) (pk_sub (b := 1) (by omega))).trans (pk_sub (by omega))
    have e2 : nI n - 1 - nI j - (nI n - 1 - nI j) / 16 * 16 = nI ((n - 1 - j) % 16) := by
      rw [e1]
      exact pk_rem (d := 16) (by omega) (by decide) (by decide)
    rw [e2, nI_clamp (by omega)]
    refine ⟨by decide, vp_in_nI (by omega) (by decide), ?_⟩
    unfold wpY_said
    refine yk_no 15 rfl (by decide) (fun _ => br_t rfl (br_t c ⟨hv, ?_, J⟩)) (fun d => absurd hv d)
    rw [nI_clamp (by omega)]
    exact (hSd j hj hjn).symm
  · unfold wpY_said
    exact yk_no 15 rfl (by decide) (fun _ => br_t rfl (br_f c ⟨rfl, J⟩)) (fun d => absurd hv d)
theorem i_vc_word {k : Nat} {u : SX} {v : SY} (I : i_Rel k u v) (hk : k + 5 ≤ 2560) (v1 : Int32) (v2 : Int32) : wpX_word (fun r => wpY_word (fun r' => r' = r ∧ i_Rel (k + 5) u v) v v1 v2) u v1 v2 := by
  have J := i_up I
  obtain ⟨t, b, x_changes, x_saidCount, x_time, x_lastSlot, x_sliceSteps, x_latestPid, x_greatestPid, x_code, x_codeLengths, x_pids, x_parents, x_programs, x_places, x_states, x_statuses, x_stepCounts, x_copyCounts, x_wakeTimes, x_registers, x_pageCounts, x_pageFrames, x_held, x_frameUsers, x_frameWords, x_openHolders, x_openKinds, x_openTargets, x_openPlaces, x_openModes, x_pipeFirsts, x_pipeCounts, x_pipeWords, x_nameFiles, x_fileSizes, x_fileWords, x_safeNames, x_safeSizes, x_safeWords, x_saidInts, y_time, y_last, y_lastPid, y_did, y_killed, y_ops, y_as, y_bs, y_pages, y_wake, y_zombie, y_blocked, y_memory, y_frame, y_kind, y_mode, y_pipe, y_size, y_safeSize, y_said, ht, hbt, rfl, rfl, hA⟩ := I
  obtain ⟨⟨g, eg, hg⟩, ⟨n, en, hn, hSd⟩, ⟨c, ec, hc⟩, eT, hPr, hPs, hMe, hFu, hHd, hHo, hOk, hPi, hFi, hSa, hSc, hWk⟩ := hA
  have e8 := uk_inE (x := v1) (n := 8) (N := 8) rfl (by decide)
  have y0 : ¬ vp_in v1 8 → wpY_word (fun r' => r' = 0 ∧ i_Rel (k + 5) (x_changes, x_saidCount, x_time, x_lastSlot, x_sliceSteps, x_latestPid, x_greatestPid, x_code, x_codeLengths, x_pids, x_parents, x_programs, x_places, x_states, x_statuses, x_stepCounts, x_copyCounts, x_wakeTimes, x_registers, x_pageCounts, x_pageFrames, x_held, x_frameUsers, x_frameWords, x_openHolders, x_openKinds, x_openTargets, x_openPlaces, x_openModes, x_pipeFirsts, x_pipeCounts, x_pipeWords, x_nameFiles, x_fileSizes, x_fileWords, x_safeNames, x_safeSizes, x_safeWords, x_saidInts) (x_changes, x_time, y_last, y_lastPid, y_did, x_greatestPid, x_latestPid, x_saidCount, y_killed, y_ops, y_as, y_bs, x_codeLengths, x_pids, x_parents, x_programs, x_places, x_statuses, x_stepCounts, x_copyCounts, y_pages, y_wake, y_zombie, y_blocked, x_registers, y_memory, y_frame, x_held, y_kind, x_openTargets, y_mode, x_openPlaces, x_pipeCounts, y_pipe, x_nameFiles, y_size, x_fileWords, x_safeNames, y_safeSize, x_safeWords, y_said)) (x_changes, x_time, y_last, y_lastPid, y_did, x_greatestPid, x_latestPid, x_saidCount, y_killed, y_ops, y_as, y_bs, x_codeLengths, x_pids, x_parents, x_programs, x_places, x_statuses, x_stepCounts, x_copyCounts, y_pages, y_wake, y_zombie, y_blocked, x_registers, y_memory, y_frame, x_held, y_kind, x_openTargets, y_mode, x_openPlaces, x_pipeCounts, y_pipe, x_nameFiles, y_size, x_fileWords, x_safeNames, y_safeSize, x_safeWords, y_said) v1 v2 := fun a => by
    unfold wpY_word
    exact yk_no 7 rfl (by decide) (fun b => absurd b a) (fun b => br_f (by decide) ⟨rfl, J⟩)
  unfold wpX_word
  refine ⟨fun a => y0 (fun z => (e8.mp z).1 a), fun a => ⟨fun b => y0 (fun z => (e8.mp z).2 b), fun b => ?_⟩⟩
  have hv := e8.mpr ⟨a, b⟩
  obtain ⟨f, hf, rfl⟩ := vp_in_of hv (by decide)
  obtain ⟨s1, s2, s3⟩ := hFi.2 f hf
  obtain ⟨m, hm, em⟩ := vp_in_of s1 (by decide)
  have y1 : ¬ vp_in v2 m → wpY_word (fun r' => r' = 0 ∧ i_Rel (k + 5) (x_changes, x_saidCount, x_time, x_lastSlot, x_sliceSteps, x_latestPid, x_greatestPid, x_code, x_codeLengths, x_pids, x_parents, x_programs, x_places, x_states, x_statuses, x_stepCounts, x_copyCounts, x_wakeTimes, x_registers, x_pageCounts, x_pageFrames, x_held, x_frameUsers, x_frameWords, x_openHolders, x_openKinds, x_openTargets, x_openPlaces, x_openModes, x_pipeFirsts, x_pipeCounts, x_pipeWords, x_nameFiles, x_fileSizes, x_fileWords, x_safeNames, x_safeSizes, x_safeWords, x_saidInts) (x_changes, x_time, y_last, y_lastPid, y_did, x_greatestPid, x_latestPid, x_saidCount, y_killed, y_ops, y_as, y_bs, x_codeLengths, x_pids, x_parents, x_programs, x_places, x_statuses, x_stepCounts, x_copyCounts, y_pages, y_wake, y_zombie, y_blocked, x_registers, y_memory, y_frame, x_held, y_kind, x_openTargets, y_mode, x_openPlaces, x_pipeCounts, y_pipe, x_nameFiles, y_size, x_fileWords, x_safeNames, y_safeSize, x_safeWords, y_said)) (x_changes, x_time, y_last, y_lastPid, y_did, x_greatestPid, x_latestPid, x_saidCount, y_killed, y_ops, y_as, y_bs, x_codeLengths, x_pids, x_parents, x_programs, x_places, x_statuses, x_stepCounts, x_copyCounts, y_pages, y_wake, y_zombie, y_blocked, x_registers, y_memory, y_frame, x_held, y_kind, x_openTargets, y_mode, x_openPlaces, x_pipeCounts, y_pipe, x_nameFiles, y_size, x_fileWords, x_safeNames, y_safeSize, x_safeWords, y_said) (nI f) v2 := fun a => by
    unfold wpY_word
    refine yk_no 7 rfl (by decide) (fun _ => br_t rfl ⟨hv, ?_⟩) (fun d => absurd hv d)
    rw [nI_clamp (by omega), em]
    exact yk_nom m rfl (by omega) (fun d => absurd d a) (fun _ => br_f (by decide) ⟨rfl, J⟩)
  refine xk_isFree hOk hHo (fun fr => br_f (by decide) (y1 (fun z => ?_))) (fun fr => br_t rfl ?_)
  · have e0 := s2 fr
    rw [em] at e0
    have := (nI_eq (b := 0) (by omega) (by decide)).mp e0
    have := uk_inc z
    omega
  · refine ⟨fun d => y1 (fun z => (not_or.mp z).1 d), fun d => ⟨hv, ?_⟩⟩
    rw [nI_clamp (by omega), s3 fr, em]
    obtain ⟨j, hj, rfl⟩ := nI_of d
    rw [uk_m16, nI_add]
    refine ⟨fun e => ?_, fun e => y1 (fun z => e (by
      have := uk_inc z
      rw [nI_clamp hj] at this
      exact nI_lt this (by omega)))⟩
    have hjm : j < m := (nI_ltI hj (by omega)).mp e
    refine ⟨vp_in_nI (by omega) (by decide), ?_⟩
    unfold wpY_word
    refine yk_no 7 rfl (by decide) (fun _ => br_t rfl ⟨hv, ?_⟩) (fun d => absurd hv d)
    rw [nI_clamp (by omega), em]
    refine yk_nom m rfl (by omega) (fun _ => br_t rfl ?_) (fun w => absurd (vp_in_nI hjm (by omega)) w)
    rw [uk_16m, nI_add]
    exact ⟨vp_in_nI (by omega) (by decide), rfl, J⟩
theorem yk_total3 {x_changes x_saidCount x_time x_lastSlot x_sliceSteps x_latestPid x_greatestPid : Int32} {x_code x_codeLengths x_pids x_parents x_programs x_places x_states x_statuses x_stepCounts x_copyCounts x_wakeTimes x_registers x_pageCounts x_pageFrames x_held x_frameUsers x_frameWords x_openHolders x_openKinds x_openTargets x_openPlaces x_openModes x_pipeFirsts x_pipeCounts x_pipeWords x_nameFiles x_fileSizes x_fileWords x_safeNames x_safeSizes x_safeWords x_saidInts : Nat → Int32} {y_time y_last y_lastPid y_did y_killed : Int32} {y_ops y_as y_bs y_pages y_wake y_zombie y_blocked y_memory y_frame y_kind y_mode y_pipe y_size y_safeSize y_said : Nat → Int32} {post : Int32 → Prop} (h : post (nI (uk_cn (fun f => uk_fre x_nameFiles y_kind x_openTargets f) 8))) : ∃ m, wY_total_77 post x_changes y_time y_last y_lastPid y_did x_greatestPid x_latestPid x_saidCount y_killed y_ops y_as y_bs x_codeLengths x_pids x_parents x_programs x_places x_statuses x_stepCounts x_copyCounts y_pages y_wake y_zombie y_blocked x_registers y_memory y_frame x_held y_kind x_openTargets y_mode x_openPlaces x_pipeCounts y_pipe x_nameFiles y_size x_fileWords x_safeNames y_safeSize x_safeWords y_said m 0 0 := by
  refine uk_count (fun n i c => wY_total_77 post x_changes y_time y_last y_lastPid y_did x_greatestPid x_latestPid x_saidCount y_killed y_ops y_as y_bs x_codeLengths x_pids x_parents x_programs x_places x_statuses x_stepCounts x_copyCounts y_pages y_wake y_zombie y_blocked x_registers y_memory y_frame x_held y_kind x_openTargets y_mode x_openPlaces x_pipeCounts y_pipe x_nameFiles y_size x_fileWords x_safeNames y_safeSize x_safeWords y_said n c (nI i)) (fun f => uk_fre x_nameFiles y_kind x_openTargets f) 8 (fun n => br_t (uk_refl 8) h) (fun n i c hi ht hf => ?_)
  obtain ⟨z, v, e⟩ := uk_lp 8 hi (by decide)
  exact br_f z (yk_isFree (fun a => br_f (by decide) (nm_r (nI_1 c) (nm_r (nI_1 i) (ht a)))) (fun a => br_t rfl (nm_r (nI_1 i) (hf a))))
theorem yk_total4 {x_changes x_saidCount x_time x_lastSlot x_sliceSteps x_latestPid x_greatestPid : Int32} {x_code x_codeLengths x_pids x_parents x_programs x_places x_states x_statuses x_stepCounts x_copyCounts x_wakeTimes x_registers x_pageCounts x_pageFrames x_held x_frameUsers x_frameWords x_openHolders x_openKinds x_openTargets x_openPlaces x_openModes x_pipeFirsts x_pipeCounts x_pipeWords x_nameFiles x_fileSizes x_fileWords x_safeNames x_safeSizes x_safeWords x_saidInts : Nat → Int32} {y_time y_last y_lastPid y_did y_killed : Int32} {y_ops y_as y_bs y_pages y_wake y_zombie y_blocked y_memory y_frame y_kind y_mode y_pipe y_size y_safeSize y_said : Nat → Int32} {post : Int32 → Prop} (h : post (nI (uk_cn (fun p => ¬ uk_pfr y_kind x_openTargets (nI p)) 4))) : ∃ m, wY_total_104 post x_changes y_time y_last y_lastPid y_did x_greatestPid x_latestPid x_saidCount y_killed y_ops y_as y_bs x_codeLengths x_pids x_parents x_programs x_places x_statuses x_stepCounts x_copyCounts y_pages y_wake y_zombie y_blocked x_registers y_memory y_frame x_held y_kind x_openTargets y_mode x_openPlaces x_pipeCounts y_pipe x_nameFiles y_size x_fileWords x_safeNames y_safeSize x_safeWords y_said m 0 0 := by
  refine uk_count (fun n i c => wY_total_104 post x_changes y_time y_last y_lastPid y_did x_greatestPid x_latestPid x_saidCount y_killed y_ops y_as y_bs x_codeLengths x_pids x_parents x_programs x_places x_statuses x_stepCounts x_copyCounts y_pages y_wake y_zombie y_blocked x_registers y_memory y_frame x_held y_kind x_openTargets y_mode x_openPlaces x_pipeCounts y_pipe x_nameFiles y_size x_fileWords x_safeNames y_safeSize x_safeWords y_said n c (nI i)) (fun p => ¬ uk_pfr y_kind x_openTargets (nI p)) 4 (fun n => br_t (uk_refl 4) h) (fun n i c hi ht hf => ?_)
  obtain ⟨z, v, e⟩ := uk_lp 4 hi (by decide)
  exact br_f z (yk_isPipe (fun a => br_f (by decide) (nm_r (nI_1 c) (nm_r (nI_1 i) (ht a)))) (fun a => br_t rfl (nm_r (nI_1 i) (hf (fun w => w a)))))
theorem i_vc_total {k : Nat} {u : SX} {v : SY} (I : i_Rel k u v) (hk : k + 5 ≤ 2560) (v1 : Int32) : wpX_total (fun r => wpY_total (fun r' => r' = r ∧ i_Rel (k + 5) u v) v v1) u v1 := by
  have J := i_up I
  obtain ⟨t, b, x_changes, x_saidCount, x_time, x_lastSlot, x_sliceSteps, x_latestPid, x_greatestPid, x_code, x_codeLengths, x_pids, x_parents, x_programs, x_places, x_states, x_statuses, x_stepCounts, x_copyCounts, x_wakeTimes, x_registers, x_pageCounts, x_pageFrames, x_held, x_frameUsers, x_frameWords, x_openHolders, x_openKinds, x_openTargets, x_openPlaces, x_openModes, x_pipeFirsts, x_pipeCounts, x_pipeWords, x_nameFiles, x_fileSizes, x_fileWords, x_safeNames, x_safeSizes, x_safeWords, x_saidInts, y_time, y_last, y_lastPid, y_did, y_killed, y_ops, y_as, y_bs, y_pages, y_wake, y_zombie, y_blocked, y_memory, y_frame, y_kind, y_mode, y_pipe, y_size, y_safeSize, y_said, ht, hbt, rfl, rfl, hA⟩ := I
  obtain ⟨⟨g, eg, hg⟩, ⟨n, en, hn, hSd⟩, ⟨c, ec, hc⟩, eT, hPr, hPs, hMe, hFu, hHd, hHo, hOk, hPi, hFi, hSa, hSc, hWk⟩ := hA
  have hP : ∀ s, s < 8 → ¬ x_pids s < 0 := fun s hs => (hPs s hs).1
  have hN : ∀ s, s < 8 → x_pids s ≠ 0 → ∃ n, n ≤ 8 ∧ y_pages s = nI n := fun s hs hp => by
    obtain ⟨n, h1, _, h3, _⟩ := hMe s hs hp
    exact ⟨n, h1, h3⟩
  have c1 : uk_cn (fun f => uk_sm (uk_rw x_pids y_pages y_frame f) 8 = 0) 20 = uk_cn (fun f => x_frameUsers f = 0) 20 := uk_cnc 20 (fun f hf => (uk_fun hMe hFu hf).1.symm)
  have c8 : uk_cn (fun o => ¬ y_kind o ≤ 0) 12 = uk_cn (fun o => ¬ x_openHolders o ≤ 0) 12 := uk_cnc 12 (fun o ho => by
    rw [(uk_ohp hHo ho).2.1]
    rcases (hOk o ho).2 with ⟨a, b⟩ | ⟨a, b, c⟩
    · rw [a, b]; exact ⟨fun z => absurd (by decide) z, fun z => absurd rfl z⟩
    · refine ⟨fun _ => a, fun _ => ?_⟩
      rcases c with c | c | c <;> rw [c.1] <;> decide)
  unfold wpX_total
  refine ⟨fun a => ?_, fun a => ⟨fun b => ?_, fun b => ?_⟩⟩
  · unfold wpY_total
    exact br_t a ⟨rfl, J⟩
  · unfold wpY_total
    exact br_f a (br_t b ⟨rfl, J⟩)
  refine ⟨fun c0 => ?_, fun c0 => ?_⟩
  · refine xk_countProcesses ?_
    unfold wpY_total
    exact br_f a (br_f b (br_t c0 (yk_processes hP ⟨rfl, J⟩)))
  refine ⟨fun c1 => ?_, fun c1 => ?_⟩
  · refine xk_countFreeFrames ?_
    unfold wpY_total
    exact br_f a (br_f b (br_f c0 (br_t c1 (yk_freeFrames hP hN ⟨congrArg nI c1, J⟩))))
  refine ⟨fun c2 => ?_, fun c2 => ?_⟩
  · refine xk_countFreeBlocks hOk hHo hFi ?_
    unfold wpY_total
    exact br_f a (br_f b (br_f c0 (br_f c1 (br_t c2 (yk_freeBlocks hFi ⟨rfl, J⟩)))))
  refine ⟨fun c3 => ?_, fun c3 => ?_⟩
  · refine xk_countFreeFiles hOk hHo ?_
    unfold wpY_total
    exact br_f a (br_f b (br_f c0 (br_f c1 (br_f c2 (br_t c3 (yk_total3 ⟨rfl, J⟩))))))
  refine ⟨fun c4 => ?_, fun c4 => ?_⟩
  · refine xk_countPipes hOk hHo ?_
    unfold wpY_total
    exact br_f a (br_f b (br_f c0 (br_f c1 (br_f c2 (br_f c3 (br_t c4 (yk_total4 ⟨rfl, J⟩)))))))
  refine ⟨fun c5 => ?_, fun c5 => ?_⟩
  · unfold wpY_total
    exact br_f a (br_f b (br_f c0 (br_f c1 (br_f c2 (br_f c3 (br_f c4 (br_t c5 ⟨rfl, J⟩)))))))
  refine ⟨fun c6 => ?_, fun c6 => ?_⟩
  · unfold wpY_total
    exact br_f a (br_f b (br_f c0 (br_f c1 (br_f c2 (br_f c3 (br_f c4 (br_f c5 (br_t c6 ⟨rfl, J⟩))))))))
  refine ⟨fun c7 => ?_, fun c7 => ?_⟩
  · unfold wpY_total
    exact br_f a (br_f b (br_f c0 (br_f c1 (br_f c2 (br_f c3 (br_f c4 (br_f c5 (br_f c6 (br_t c7 ⟨rfl, J⟩)))))))))
  refine ⟨fun c8 => ?_, fun c8 => ?_⟩
  · refine xk_countOpenFiles ?_
    unfold wpY_total
    exact br_f a (br_f b (br_f c0 (br_f c1 (br_f c2 (br_f c3 (br_f c4 (br_f c5 (br_f c6 (br_f c7 (br_t c8 (yk_opens ⟨congrArg nI c8, J⟩)))))))))))
  refine ⟨fun c9 => ?_, fun c9 => ?_⟩
  · unfold wpY_total
    exact br_f a (br_f b (br_f c0 (br_f c1 (br_f c2 (br_f c3 (br_f c4 (br_f c5 (br_f c6 (br_f c7 (br_f c8 (br_t c9 ⟨rfl, J⟩)))))))))))
  refine ⟨fun c10 => ?_, fun c10 => ?_⟩
  · unfold wpY_total
    exact br_f a (br_f b (br_f c0 (br_f c1 (br_f c2 (br_f c3 (br_f c4 (br_f c5 (br_f c6 (br_f c7 (br_f c8 (br_f c9 (br_t c10 ⟨rfl, J⟩))))))))))))
  · trivial
end
section
/-! the calls that only read, second part -/
section
variable {x_changes x_saidCount x_time x_lastSlot x_sliceSteps x_latestPid x_greatestPid : Int32} {x_code x_codeLengths x_pids x_parents x_programs x_places x_states x_statuses x_stepCounts x_copyCounts x_wakeTimes x_registers x_pageCounts x_pageFrames x_held x_frameUsers x_frameWords x_openHolders x_openKinds x_openTargets x_openPlaces x_openModes x_pipeFirsts x_pipeCounts x_pipeWords x_nameFiles x_fileSizes x_fileWords x_safeNames x_safeSizes x_safeWords x_saidInts : Nat → Int32} {y_time y_last y_lastPid y_did y_killed : Int32} {y_ops y_as y_bs y_pages y_wake y_zombie y_blocked y_memory y_frame y_kind y_mode y_pipe y_size y_safeSize y_said : Nat → Int32}
theorem xk_wordIndex {post : Int32 → Prop} {s n : Nat} {a : Int32} (hs : s < 8) (hn : x_pageCounts s = nI n) (hn8 : n ≤ 8) (hpf : ∀ p, p < n → vp_in (x_pageFrames (8 * s + p)) 20) (h0 : ¬ vp_in a (4 * n) → post (-1)) (h1 : ∀ j, j < 4 * n → a = nI j → post (nI (4 * (x_pageFrames (8 * s + j / 4)).toNatClampNeg + j % 4))) : wpX_wordIndex post (x_changes, x_saidCount, x_time, x_lastSlot, x_sliceSteps, x_latestPid, x_greatestPid, x_code, x_codeLengths, x_pids, x_parents, x_programs, x_places, x_states, x_statuses, x_stepCounts, x_copyCounts, x_wakeTimes, x_registers, x_pageCounts, x_pageFrames, x_held, x_frameUsers, x_frameWords, x_openHolders, x_openKinds, x_openTargets, x_openPlaces, x_openModes, x_pipeFirsts, x_pipeCounts, x_pipeWords, x_nameFiles, x_fileSizes, x_fileWords, x_safeNames, x_safeSizes, x_safeWords, x_saidInts) (nI s) a := by
  obtain ⟨_, vs, es⟩ := uk_lp 8 hs (by decide)
  unfold wpX_wordIndex
  refine ⟨fun c => h0 (fun z => (not_or.mp z).1 c), fun c => ⟨vs, ?_⟩⟩
  obtain ⟨j, hj, rfl⟩ := nI_of c
  rw [es, hn, uk_m4]
  refine ⟨fun d => ⟨by decide, ?_⟩, fun d => h0 (fun z => d (by
    have := uk_inc z
    rw [nI_clamp hj] at this
    exact nI_lt this (by omega)))⟩
  have hjn : j < 4 * n := (nI_ltI hj (by omega)).mp d
  have er : nI j - nI j / 4 * 4 = nI (j % 4) := pk_rem (d := 4) hj (by decide) (by decide)
  have e4 : nI j / 4 = nI (j / 4) := pk_div (d := 4) hj (by decide) (by decide)
  rw [er, e4, uk_m8, nI_add]
  refine ⟨vp_in_nI (by omega) (by decide), ?_⟩
  rw [nI_clamp (by omega)]
  have hv := hpf (j / 4) (by omega)
  have h2 := h1 j hjn rfl
  intro y ey
  refine ⟨by decide, ?_⟩
  rw [ey, ← uk_ofin hv, uk_m4, nI_add]
  exact h2
end
theorem uk_slot {P : Nat → Int32} {p : Int32} (h : ¬ p < 1) : (uk_ff (fun s => P s = p) 8 = -1) ∨ (∃ s, s < 8 ∧ uk_ff (fun s => P s = p) 8 = nI s ∧ P s = p ∧ P s ≠ 0) := by
  rcases uk_ffs (fun s => P s = p) 8 with ⟨a, _⟩ | ⟨s, hs, a, b, _⟩
  · exact Or.inl a
  · exact Or.inr ⟨s, hs, a, b, fun z => h (by rw [← b, z]; decide)⟩
theorem i_vc_sharing {k : Nat} {u : SX} {v : SY} (I : i_Rel k u v) (hk : k + 5 ≤ 2560) (v1 : Int32) (v2 : Int32) : wpX_sharing (fun r => wpY_sharing (fun r' => r' = r ∧ i_Rel (k + 5) u v) v v1 v2) u v1 v2 := by
  have J := i_up I
  obtain ⟨t, b, x_changes, x_saidCount, x_time, x_lastSlot, x_sliceSteps, x_latestPid, x_greatestPid, x_code, x_codeLengths, x_pids, x_parents, x_programs, x_places, x_states, x_statuses, x_stepCounts, x_copyCounts, x_wakeTimes, x_registers, x_pageCounts, x_pageFrames, x_held, x_frameUsers, x_frameWords, x_openHolders, x_openKinds, x_openTargets, x_openPlaces, x_openModes, x_pipeFirsts, x_pipeCounts, x_pipeWords, x_nameFiles, x_fileSizes, x_fileWords, x_safeNames, x_safeSizes, x_safeWords, x_saidInts, y_time, y_last, y_lastPid, y_did, y_killed, y_ops, y_as, y_bs, y_pages, y_wake, y_zombie, y_blocked, y_memory, y_frame, y_kind, y_mode, y_pipe, y_size, y_safeSize, y_said, ht, hbt, rfl, rfl, hA⟩ := I
  have hA0 := hA
  obtain ⟨⟨g, eg, hg⟩, ⟨n, en, hn, hSd⟩, ⟨c, ec, hc⟩, eT, hPr, hPs, hMe, hFu, hHd, hHo, hOk, hPi, hFi, hSa, hSc, hWk⟩ := hA
  have hP : ∀ s, s < 8 → ¬ x_pids s < 0 := fun s hs => (hPs s hs).1
  have hN : ∀ s, s < 8 → x_pids s ≠ 0 → ∃ n, n ≤ 8 ∧ y_pages s = nI n := fun s hs hp => by
    obtain ⟨n, h1, _, h3, _⟩ := hMe s hs hp
    exact ⟨n, h1, h3⟩
  have yn : ∀ post : Int32 → Prop, post (0) → (v1 < 1 ∨ uk_ff (fun s => x_pids s = v1) 8 = -1) → wpY_sharing post (x_changes, x_time, y_last, y_lastPid, y_did, x_greatestPid, x_latestPid, x_saidCount, y_killed, y_ops, y_as, y_bs, x_codeLengths, x_pids, x_parents, x_programs, x_places, x_statuses, x_stepCounts, x_copyCounts, y_pages, y_wake, y_zombie, y_blocked, x_registers, y_memory, y_frame, x_held, y_kind, x_openTargets, y_mode, x_openPlaces, x_pipeCounts, y_pipe, x_nameFiles, y_size, x_fileWords, x_safeNames, y_safeSize, x_safeWords, y_said) v1 v2 := fun post hp h => by
    unfold wpY_sharing
    refine yk_slotOf (fun _ => br_t (by decide) hp) (fun a => ?_)
    rcases h with h | h
    · exact absurd h a
    · rw [h]
      exact br_t (by decide) hp
  unfold wpX_sharing
  refine xk_findSlot (fun a => br_t rfl (yn _ ⟨rfl, J⟩ (Or.inl a))) (fun a => ?_)
  rcases uk_slot (P := x_pids) a with e | ⟨s, hs, e, eP, hp0⟩
  · rw [e]
    exact br_t rfl (yn _ ⟨rfl, J⟩ (Or.inr e))
  obtain ⟨_, vs, es⟩ := uk_lp 8 hs (by decide)
  obtain ⟨q, hq8, q2, q3, q4, q5⟩ := hMe s hs hp0
  have ns : ¬ nI s < 0 := nI_pos (by omega)
  have ns0 : 0 ≤ nI s := nI_pos' (by omega)
  have yS : ∀ post : Int32 → Prop, (∀ post', post' (nI s) → wpY_slotOf post' (x_changes, x_time, y_last, y_lastPid, y_did, x_greatestPid, x_latestPid, x_saidCount, y_killed, y_ops, y_as, y_bs, x_codeLengths, x_pids, x_parents, x_programs, x_places, x_statuses, x_stepCounts, x_copyCounts, y_pages, y_wake, y_zombie, y_blocked, x_registers, y_memory, y_frame, x_held, y_kind, x_openTargets, y_mode, x_openPlaces, x_pipeCounts, y_pipe, x_nameFiles, y_size, x_fileWords, x_safeNames, y_safeSize, x_safeWords, y_said) v1) := fun post post' hp => yk_slotOf (fun z => absurd z a) (fun _ => by rw [e]; exact hp)
  rw [e]
  refine br_f (uk_ne1 (by omega)) ?_
  have y0 : ¬ vp_in v2 q → wpY_sharing (fun r' => r' = 0 ∧ i_Rel (k + 5) (x_changes, x_saidCount, x_time, x_lastSlot, x_sliceSteps, x_latestPid, x_greatestPid, x_code, x_codeLengths, x_pids, x_parents, x_programs, x_places, x_states, x_statuses, x_stepCounts, x_copyCounts, x_wakeTimes, x_registers, x_pageCounts, x_pageFrames, x_held, x_frameUsers, x_frameWords, x_openHolders, x_openKinds, x_openTargets, x_openPlaces, x_openModes, x_pipeFirsts, x_pipeCounts, x_pipeWords, x_nameFiles, x_fileSizes, x_fileWords, x_safeNames, x_safeSizes, x_safeWords, x_saidInts) (x_changes, x_time, y_last, y_lastPid, y_did, x_greatestPid, x_latestPid, x_saidCount, y_killed, y_ops, y_as, y_bs, x_codeLengths, x_pids, x_parents, x_programs, x_places, x_statuses, x_stepCounts, x_copyCounts, y_pages, y_wake, y_zombie, y_blocked, x_registers, y_memory, y_frame, x_held, y_kind, x_openTargets, y_mode, x_openPlaces, x_pipeCounts, y_pipe, x_nameFiles, y_size, x_fileWords, x_safeNames, y_safeSize, x_safeWords, y_said)) (x_changes, x_time, y_last, y_lastPid, y_did, x_greatestPid, x_latestPid, x_saidCount, y_killed, y_ops, y_as, y_bs, x_codeLengths, x_pids, x_parents, x_programs, x_places, x_statuses, x_stepCounts, x_copyCounts, y_pages, y_wake, y_zombie, y_blocked, x_registers, y_memory, y_frame, x_held, y_kind, x_openTargets, y_mode, x_openPlaces, x_pipeCounts, y_pipe, x_nameFiles, y_size, x_fileWords, x_safeNames, y_safeSize, x_safeWords, y_said) v1 v2 := fun z => by
    unfold wpY_sharing
    refine yS (fun _ => True) _ (br_f ns ⟨vs, ?_⟩)
    rw [es, q3]
    exact yk_nom q rfl (by omega) (fun w => absurd w z) (fun _ => br_f (by decide) ⟨rfl, J⟩)
  refine ⟨fun d => y0 (fun z => (not_or.mp z).1 d), fun d => ⟨vs, ?_⟩⟩
  obtain ⟨j, hj, rfl⟩ := nI_of d
  rw [es, q2, uk_m8, nI_add]
  refine ⟨fun d2 => ?_, fun d2 => y0 (fun z => d2 (by
    have := uk_inc z
    rw [nI_clamp hj] at this
    exact nI_lt this (by omega)))⟩
  have hjn : j < q := (nI_ltI hj (by omega)).mp d2
  obtain ⟨f1, f2, _⟩ := q5 j hjn
  rw [nI_clamp (by omega), f2]
  refine ⟨vp_in_nI (by omega) (by decide), f1, ?_⟩
  unfold wpY_sharing
  refine yS (fun _ => True) _ (br_f ns ⟨vs, ?_⟩)
  rw [es, q3]
  refine yk_nom q rfl (by omega) (fun _ => br_t rfl ?_) (fun w => absurd (vp_in_nI hjn (by omega)) w)
  rw [uk_8m, nI_add, nI_clamp (by omega)]
  refine ⟨vp_in_nI (by omega) (by decide), ?_⟩
  obtain ⟨f, hf, ef⟩ := vp_in_of f1 (by decide)
  rw [ef, nI_clamp (by omega), hFu f hf]
  exact yk_sharers hP hN ⟨rfl, J⟩
theorem i_vc_memory {k : Nat} {u : SX} {v : SY} (I : i_Rel k u v) (hk : k + 5 ≤ 2560) (v1 : Int32) (v2 : Int32) : wpX_memory (fun r => wpY_memory (fun r' => r' = r ∧ i_Rel (k + 5) u v) v v1 v2) u v1 v2 := by
  have J := i_up I
  obtain ⟨t, b, x_changes, x_saidCount, x_time, x_lastSlot, x_sliceSteps, x_latestPid, x_greatestPid, x_code, x_codeLengths, x_pids, x_parents, x_programs, x_places, x_states, x_statuses, x_stepCounts, x_copyCounts, x_wakeTimes, x_registers, x_pageCounts, x_pageFrames, x_held, x_frameUsers, x_frameWords, x_openHolders, x_openKinds, x_openTargets, x_openPlaces, x_openModes, x_pipeFirsts, x_pipeCounts, x_pipeWords, x_nameFiles, x_fileSizes, x_fileWords, x_safeNames, x_safeSizes, x_safeWords, x_saidInts, y_time, y_last, y_lastPid, y_did, y_killed, y_ops, y_as, y_bs, y_pages, y_wake, y_zombie, y_blocked, y_memory, y_frame, y_kind, y_mode, y_pipe, y_size, y_safeSize, y_said, ht, hbt, rfl, rfl, hA⟩ := I
  have hA0 := hA
  obtain ⟨⟨g, eg, hg⟩, ⟨n, en, hn, hSd⟩, ⟨c, ec, hc⟩, eT, hPr, hPs, hMe, hFu, hHd, hHo, hOk, hPi, hFi, hSa, hSc, hWk⟩ := hA
  have hP : ∀ s, s < 8 → ¬ x_pids s < 0 := fun s hs => (hPs s hs).1
  have hN : ∀ s, s < 8 → x_pids s ≠ 0 → ∃ n, n ≤ 8 ∧ y_pages s = nI n := fun s hs hp => by
    obtain ⟨n, h1, _, h3, _⟩ := hMe s hs hp
    exact ⟨n, h1, h3⟩
  have yn : ∀ post : Int32 → Prop, post (0) → (v1 < 1 ∨ uk_ff (fun s => x_pids s = v1) 8 = -1) → wpY_memory post (x_changes, x_time, y_last, y_lastPid, y_did, x_greatestPid, x_latestPid, x_saidCount, y_killed, y_ops, y_as, y_bs, x_codeLengths, x_pids, x_parents, x_programs, x_places, x_statuses, x_stepCounts, x_copyCounts, y_pages, y_wake, y_zombie, y_blocked, x_registers, y_memory, y_frame, x_held, y_kind, x_openTargets, y_mode, x_openPlaces, x_pipeCounts, y_pipe, x_nameFiles, y_size, x_fileWords, x_safeNames, y_safeSize, x_safeWords, y_said) v1 v2 := fun post hp h => by
    unfold wpY_memory
    refine yk_slotOf (fun _ => br_t (by decide) hp) (fun a => ?_)
    rcases h with h | h
    · exact absurd h a
    · rw [h]
      exact br_t (by decide) hp
  unfold wpX_memory
  refine xk_findSlot (fun a => br_t rfl (yn _ ⟨rfl, J⟩ (Or.inl a))) (fun a => ?_)
  rcases uk_slot (P := x_pids) a with e | ⟨s, hs, e, eP, hp0⟩
  · rw [e]
    exact br_t rfl (yn _ ⟨rfl, J⟩ (Or.inr e))
  obtain ⟨_, vs, es⟩ := uk_lp 8 hs (by decide)
  obtain ⟨q, hq8, q2, q3, q4, q5⟩ := hMe s hs hp0
  have ns : ¬ nI s < 0 := nI_pos (by omega)
  have ns0 : 0 ≤ nI s := nI_pos' (by omega)
  have yS : ∀ post : Int32 → Prop, (∀ post', post' (nI s) → wpY_slotOf post' (x_changes, x_time, y_last, y_lastPid, y_did, x_greatestPid, x_latestPid, x_saidCount, y_killed, y_ops, y_as, y_bs, x_codeLengths, x_pids, x_parents, x_programs, x_places, x_statuses, x_stepCounts, x_copyCounts, y_pages, y_wake, y_zombie, y_blocked, x_registers, y_memory, y_frame, x_held, y_kind, x_openTargets, y_mode, x_openPlaces, x_pipeCounts, y_pipe, x_nameFiles, y_size, x_fileWords, x_safeNames, y_safeSize, x_safeWords, y_said) v1) := fun post post' hp => yk_slotOf (fun z => absurd z a) (fun _ => by rw [e]; exact hp)
  rw [e]
  refine br_f (uk_ne1 (by omega)) ?_
  have y0 : ¬ vp_in v2 (4 * q) → wpY_memory (fun r' => r' = 0 ∧ i_Rel (k + 5) (x_changes, x_saidCount, x_time, x_lastSlot, x_sliceSteps, x_latestPid, x_greatestPid, x_code, x_codeLengths, x_pids, x_parents, x_programs, x_places, x_states, x_statuses, x_stepCounts, x_copyCounts, x_wakeTimes, x_registers, x_pageCounts, x_pageFrames, x_held, x_frameUsers, x_frameWords, x_openHolders, x_openKinds, x_openTargets, x_openPlaces, x_openModes, x_pipeFirsts, x_pipeCounts, x_pipeWords, x_nameFiles, x_fileSizes, x_fileWords, x_safeNames, x_safeSizes, x_safeWords, x_saidInts) (x_changes, x_time, y_last, y_lastPid, y_did, x_greatestPid, x_latestPid, x_saidCount, y_killed, y_ops, y_as, y_bs, x_codeLengths, x_pids, x_parents, x_programs, x_places, x_statuses, x_stepCounts, x_copyCounts, y_pages, y_wake, y_zombie, y_blocked, x_registers, y_memory, y_frame, x_held, y_kind, x_openTargets, y_mode, x_openPlaces, x_pipeCounts, y_pipe, x_nameFiles, y_size, x_fileWords, x_safeNames, y_safeSize, x_safeWords, y_said)) (x_changes, x_time, y_last, y_lastPid, y_did, x_greatestPid, x_latestPid, x_saidCount, y_killed, y_ops, y_as, y_bs, x_codeLengths, x_pids, x_parents, x_programs, x_places, x_statuses, x_stepCounts, x_copyCounts, y_pages, y_wake, y_zombie, y_blocked, x_registers, y_memory, y_frame, x_held, y_kind, x_openTargets, y_mode, x_openPlaces, x_pipeCounts, y_pipe, x_nameFiles, y_size, x_fileWords, x_safeNames, y_safeSize, x_safeWords, y_said) v1 v2 := fun z => by
    unfold wpY_memory
    refine yS (fun _ => True) _ (br_f ns ⟨vs, ?_⟩)
    rw [es, q3, uk_4m]
    exact yk_nom (4 * q) rfl (by omega) (fun w => absurd w z) (fun _ => br_f (by decide) ⟨rfl, J⟩)
  refine xk_wordIndex hs q2 hq8 (fun p hp => by rw [(q5 p hp).2.1]; exact (q5 p hp).1) (fun z => br_t rfl (y0 z)) (fun j hj ej => ?_)
  subst ej
  obtain ⟨f1, f2, f3⟩ := q5 (j / 4) (by omega)
  have hfl := uk_inc f1
  rw [f2]
  refine br_f (uk_ne1 (by omega)) ⟨vp_in_nI (by omega) (by decide), ?_⟩
  rw [nI_clamp (by omega), f3 (j % 4) (by omega)]
  unfold wpY_memory
  refine yS (fun _ => True) _ (br_f ns ⟨vs, ?_⟩)
  rw [es, q3, uk_4m]
  refine yk_nom (4 * q) rfl (by omega) (fun _ => br_t rfl ?_) (fun w => absurd (vp_in_nI hj (by omega)) w)
  rw [uk_32m, nI_add, nI_clamp (by omega)]
  refine ⟨vp_in_nI (by omega) (by decide), ?_, J⟩
  exact congrArg y_memory (by omega)
theorem uk_3lt {x : Int32} (h : 3 < x) : (4 : Int32) ≤ x := by
  have h0 : ¬ x < 0 := fun z => by
    have := Int32.lt_trans h z
    exact absurd this (by decide)
  obtain ⟨j, hj, rfl⟩ := nI_of h0
  exact nI_le (a := 4) (by have := (nI_ltI (a := 3) (by decide) hj).mp h; omega) hj
theorem uk_4le {x : Int32} (h : (4 : Int32) ≤ x) : 3 < x := Int32.lt_of_lt_of_le (by decide) h
theorem i_vc_descriptor {k : Nat} {u : SX} {v : SY} (I : i_Rel k u v) (hk : k + 5 ≤ 2560) (v1 : Int32) (v2 : Int32) (v3 : Int32) : wpX_descriptor (fun r => wpY_descriptor (fun r' => r' = r ∧ i_Rel (k + 5) u v) v v1 v2 v3) u v1 v2 v3 := by
  have J := i_up I
  obtain ⟨t, b, x_changes, x_saidCount, x_time, x_lastSlot, x_sliceSteps, x_latestPid, x_greatestPid, x_code, x_codeLengths, x_pids, x_parents, x_programs, x_places, x_states, x_statuses, x_stepCounts, x_copyCounts, x_wakeTimes, x_registers, x_pageCounts, x_pageFrames, x_held, x_frameUsers, x_frameWords, x_openHolders, x_openKinds, x_openTargets, x_openPlaces, x_openModes, x_pipeFirsts, x_pipeCounts, x_pipeWords, x_nameFiles, x_fileSizes, x_fileWords, x_safeNames, x_safeSizes, x_safeWords, x_saidInts, y_time, y_last, y_lastPid, y_did, y_killed, y_ops, y_as, y_bs, y_pages, y_wake, y_zombie, y_blocked, y_memory, y_frame, y_kind, y_mode, y_pipe, y_size, y_safeSize, y_said, ht, hbt, rfl, rfl, hA⟩ := I
  have hA0 := hA
  obtain ⟨⟨g, eg, hg⟩, ⟨n, en, hn, hSd⟩, ⟨c, ec, hc⟩, eT, hPr, hPs, hMe, hFu, hHd, hHo, hOk, hPi, hFi, hSa, hSc, hWk⟩ := hA
  have hP : ∀ s, s < 8 → ¬ x_pids s < 0 := fun s hs => (hPs s hs).1
  have hN : ∀ s, s < 8 → x_pids s ≠ 0 → ∃ n, n ≤ 8 ∧ y_pages s = nI n := fun s hs hp => by
    obtain ⟨n, h1, _, h3, _⟩ := hMe s hs hp
    exact ⟨n, h1, h3⟩
  have yn : ∀ post : Int32 → Prop, post (-1) → (v1 < 1 ∨ uk_ff (fun s => x_pids s = v1) 8 = -1) → wpY_descriptor post (x_changes, x_time, y_last, y_lastPid, y_did, x_greatestPid, x_latestPid, x_saidCount, y_killed, y_ops, y_as, y_bs, x_codeLengths, x_pids, x_parents, x_programs, x_places, x_statuses, x_stepCounts, x_copyCounts, y_pages, y_wake, y_zombie, y_blocked, x_registers, y_memory, y_frame, x_held, y_kind, x_openTargets, y_mode, x_openPlaces, x_pipeCounts, y_pipe, x_nameFiles, y_size, x_fileWords, x_safeNames, y_safeSize, x_safeWords, y_said) v1 v2 v3 := fun post hp h => by
    unfold wpY_descriptor
    refine yk_slotOf (fun _ => br_t (by decide) hp) (fun a => ?_)
    rcases h with h | h
    · exact absurd h a
    · rw [h]
      exact br_t (by decide) hp
  unfold wpX_descriptor
  refine xk_findSlot (fun a => br_t rfl (yn _ ⟨rfl, J⟩ (Or.inl a))) (fun a => ?_)
  rcases uk_slot (P := x_pids) a with e | ⟨s, hs, e, eP, hp0⟩
  · rw [e]
    exact br_t rfl (yn _ ⟨rfl, J⟩ (Or.inr e))
  obtain ⟨_, vs, es⟩ := uk_lp 8 hs (by decide)
  obtain ⟨q, hq8, q2, q3, q4, q5⟩ := hMe s hs hp0
  have ns : ¬ nI s < 0 := nI_pos (by omega)
  have ns0 : 0 ≤ nI s := nI_pos' (by omega)
  have yS : ∀ post : Int32 → Prop, (∀ post', post' (nI s) → wpY_slotOf post' (x_changes, x_time, y_last, y_lastPid, y_did, x_greatestPid, x_latestPid, x_saidCount, y_killed, y_ops, y_as, y_bs, x_codeLengths, x_pids, x_parents, x_programs, x_places, x_statuses, x_stepCounts, x_copyCounts, y_pages, y_wake, y_zombie, y_blocked, x_registers, y_memory, y_frame, x_held, y_kind, x_openTargets, y_mode, x_openPlaces, x_pipeCounts, y_pipe, x_nameFiles, y_size, x_fileWords, x_safeNames, y_safeSize, x_safeWords, y_said) v1) := fun post post' hp => yk_slotOf (fun z => absurd z a) (fun _ => by rw [e]; exact hp)
  rw [e]
  refine br_f (uk_ne1 (by omega)) ?_
  refine ⟨vs, ?_⟩
  rw [es]
  have hst := (hPs s hs).2.2.2.2.2.2 hp0
  have y3 : y_zombie s = 1 → wpY_descriptor (fun r' => r' = -1 ∧ i_Rel (k + 5) (x_changes, x_saidCount, x_time, x_lastSlot, x_sliceSteps, x_latestPid, x_greatestPid, x_code, x_codeLengths, x_pids, x_parents, x_programs, x_places, x_states, x_statuses, x_stepCounts, x_copyCounts, x_wakeTimes, x_registers, x_pageCounts, x_pageFrames, x_held, x_frameUsers, x_frameWords, x_openHolders, x_openKinds, x_openTargets, x_openPlaces, x_openModes, x_pipeFirsts, x_pipeCounts, x_pipeWords, x_nameFiles, x_fileSizes, x_fileWords, x_safeNames, x_safeSizes, x_safeWords, x_saidInts) (x_changes, x_time, y_last, y_lastPid, y_did, x_greatestPid, x_latestPid, x_saidCount, y_killed, y_ops, y_as, y_bs, x_codeLengths, x_pids, x_parents, x_programs, x_places, x_statuses, x_stepCounts, x_copyCounts, y_pages, y_wake, y_zombie, y_blocked, x_registers, y_memory, y_frame, x_held, y_kind, x_openTargets, y_mode, x_openPlaces, x_pipeCounts, y_pipe, x_nameFiles, y_size, x_fileWords, x_safeNames, y_safeSize, x_safeWords, y_said)) (x_changes, x_time, y_last, y_lastPid, y_did, x_greatestPid, x_latestPid, x_saidCount, y_killed, y_ops, y_as, y_bs, x_codeLengths, x_pids, x_parents, x_programs, x_places, x_statuses, x_stepCounts, x_copyCounts, y_pages, y_wake, y_zombie, y_blocked, x_registers, y_memory, y_frame, x_held, y_kind, x_openTargets, y_mode, x_openPlaces, x_pipeCounts, y_pipe, x_nameFiles, y_size, x_fileWords, x_safeNames, y_safeSize, x_safeWords, y_said) v1 v2 v3 := fun z => by
    unfold wpY_descriptor
    refine yS (fun _ => True) _ (br_f ns ⟨vs, ?_⟩)
    rw [es, z]
    exact br_f (by decide) ⟨rfl, J⟩
  rcases hst with ⟨z1, z2⟩ | ⟨z1, _, z2⟩
  · rw [z2]
    exact br_t rfl (y3 z1)
  have z3 : ¬ x_states s = 3 := by
    rcases z2 with ⟨_, z2⟩ | ⟨_, z2⟩ <;> rw [z2] <;> decide
  have y4 : ∀ post : Int32 → Prop, (vp_in v2 6 → vp_in v3 4 → (∀ x, x = x_held ((6 * nI s) + v2).toNatClampNeg → ((0 ≤ x → ((v3 < 0 → wpY_holders (fun r => post r) (x_changes, x_time, y_last, y_lastPid, y_did, x_greatestPid, x_latestPid, x_saidCount, y_killed, y_ops, y_as, y_bs, x_codeLengths, x_pids, x_parents, x_programs, x_places, x_statuses, x_stepCounts, x_copyCounts, y_pages, y_wake, y_zombie, y_blocked, x_registers, y_memory, y_frame, x_held, y_kind, x_openTargets, y_mode, x_openPlaces, x_pipeCounts, y_pipe, x_nameFiles, y_size, x_fileWords, x_safeNames, y_safeSize, x_safeWords, y_said) x) ∧ (¬ v3 < 0 → ((2 < v3 → wpY_holders (fun r => post r) (x_changes, x_time, y_last, y_lastPid, y_did, x_greatestPid, x_latestPid, x_saidCount, y_killed, y_ops, y_as, y_bs, x_codeLengths, x_pids, x_parents, x_programs, x_places, x_statuses, x_stepCounts, x_copyCounts, y_pages, y_wake, y_zombie, y_blocked, x_registers, y_memory, y_frame, x_held, y_kind, x_openTargets, y_mode, x_openPlaces, x_pipeCounts, y_pipe, x_nameFiles, y_size, x_fileWords, x_safeNames, y_safeSize, x_safeWords, y_said) x) ∧ (¬ 2 < v3 → ((v3 = 0 → (vp_in x 12 ∧ post (y_kind x.toNatClampNeg))) ∧ (¬ v3 = 0 → ((v3 = 1 → (vp_in x 12 ∧ ((y_kind x.toNatClampNeg = 1 → (vp_in x 12 ∧ post (x_openTargets x.toNatClampNeg))) ∧ (¬ y_kind x.toNatClampNeg = 1 → post (-1))))) ∧ (¬ v3 = 1 → ((v3 = 2 → (vp_in x 12 ∧ post (x_openPlaces x.toNatClampNeg))) ∧ (¬ v3 = 2 → True)))))))))) ∧ (¬ 0 ≤ x → ((v3 = 0 → post 0) ∧ (¬ v3 = 0 → post (-1))))))) → (¬ (vp_in v2 6 ∧ vp_in v3 4) → post (-1)) → wpY_descriptor post (x_changes, x_time, y_last, y_lastPid, y_did, x_greatestPid, x_latestPid, x_saidCount, y_killed, y_ops, y_as, y_bs, x_codeLengths, x_pids, x_parents, x_programs, x_places, x_statuses, x_stepCounts, x_copyCounts, y_pages, y_wake, y_zombie, y_blocked, x_registers, y_memory, y_frame, x_held, y_kind, x_openTargets, y_mode, x_openPlaces, x_pipeCounts, y_pipe, x_nameFiles, y_size, x_fileWords, x_safeNames, y_safeSize, x_safeWords, y_said) v1 v2 v3 := fun post h1 h2 => by
    unfold wpY_descriptor
    refine yS (fun _ => True) _ (br_f ns ⟨vs, ?_⟩)
    rw [es]
    refine br_t z1 (yk_no 5 rfl (by decide) (fun a1 => br_t rfl (yk_no 3 rfl (by decide) (fun a2 => br_t rfl ⟨?_, ?_⟩) (fun a2 => br_f (by decide) (h2 (fun z => a2 z.2))))) (fun a1 => br_f (by decide) (h2 (fun z => a1 z.1))))
    · obtain ⟨j, hj, rfl⟩ := vp_in_of a1 (by decide)
      rw [uk_6m, nI_add]
      exact vp_in_nI (by omega) (by decide)
    · exact h1 a1 a2
  have e6 := uk_inE (x := v2) (n := 6) (N := 6) rfl (by decide)
  have e4 := uk_inE (x := v3) (n := 4) (N := 4) rfl (by decide)
  refine br_f z3 ⟨fun d => y4 _ (fun w => absurd d (e6.mp w).1) (fun _ => ⟨rfl, J⟩), fun d => ⟨fun d2 => ?_, fun d2 => y4 _ (fun w => absurd (Int32.not_le.mp (e6.mp w).2) d2) (fun _ => ⟨rfl, J⟩)⟩⟩
  have hv2 := e6.mpr ⟨d, Int32.not_le.mpr d2⟩
  obtain ⟨j, hj, rfl⟩ := vp_in_of hv2 (by decide)
  rw [uk_m6, nI_add, nI_clamp (show 6 * s + j < 2 ^ 31 by omega)]
  rw [uk_6m, nI_add, nI_clamp (show 6 * s + j < 2 ^ 31 by omega)] at y4
  refine ⟨vp_in_nI (by omega) (by decide), ?_⟩
  rcases hHd s hs hp0 z1 j hj with hx | hx
  · rw [hx]
    refine nm_e (br_t rfl ⟨fun d3 => y4 _ (fun _ w => ?_) (fun w => absurd ⟨hv2, ?_⟩ w), fun d3 => y4 _ (fun _ w => ?_) (fun w => ⟨rfl, J⟩)⟩)
    · rw [hx]
      exact nm_e (br_f (by decide) (br_t d3 ⟨rfl, J⟩))
    · rw [d3]; exact vp_in_nI (n := 0) (by decide) (by decide)
    · rw [hx]
      exact nm_e (br_f (by decide) (br_f d3 ⟨rfl, J⟩))
  · obtain ⟨o, ho, eo⟩ := vp_in_of hx (by decide)
    rw [eo]
    have hoh : x_openHolders o ≠ 0 := fun z => by
      have h1 := (uk_ohn hHo ho).mp z
      have h2 := uk_hwp hs hp0 z1 hj eo
      omega
    obtain ⟨_, k1⟩ := hOk o ho
    rcases k1 with ⟨k1, _⟩ | ⟨_, k1, _⟩
    · exact absurd k1 hoh
    have y5 := y4
    rw [eo] at y4
    refine nm_e (br_f (uk_ne1 (by omega)) ?_)
    have vo : vp_in (nI o) 12 := vp_in_nI ho (by decide)
    have n0 : 0 ≤ nI o := nI_pos' (by omega)
    rw [nI_clamp (show o < 2 ^ 31 by omega)] at y4 ⊢
    refine ⟨fun d3 => y4 _ (fun _ w => absurd d3 (e4.mp w).1) (fun w => ⟨rfl, J⟩), fun d3 => ⟨fun d4 => y4 _ (fun _ w => absurd d4 (fun z => (e4.mp w).2 (show (4 : Int32) ≤ v3 from uk_3lt z))) (fun w => ⟨rfl, J⟩), fun d4 => ?_⟩⟩
    have hv3 : vp_in v3 4 := e4.mpr ⟨d3, fun z => d4 (uk_4le z)⟩
    refine ⟨fun m0 => ⟨vo, ?_⟩, fun m0 => ⟨fun m1 => ⟨vo, ?_⟩, fun m1 => ⟨fun m2 => ⟨vo, ?_⟩, fun m2 => ⟨fun m3 => ⟨vo, ?_⟩, fun _ => trivial⟩⟩⟩⟩
    · exact y4 _ (fun _ _ => nm_e (br_t n0 (br_f d3 (br_f (by rw [m0]; decide) (br_t m0 ⟨vo, k1.symm, J⟩))))) (fun w => absurd ⟨hv2, hv3⟩ w)
    · rw [k1]
      exact ⟨fun m4 => ⟨vo, y4 _ (fun _ _ => nm_e (br_t n0 (br_f d3 (br_f (by rw [m1]; decide) (br_f m0 (br_t m1 ⟨vo, br_t m4 ⟨vo, rfl, J⟩⟩)))))) (fun w => absurd ⟨hv2, hv3⟩ w)⟩, fun m4 => y4 _ (fun _ _ => nm_e (br_t n0 (br_f d3 (br_f (by rw [m1]; decide) (br_f m0 (br_t m1 ⟨vo, br_f m4 ⟨rfl, J⟩⟩)))))) (fun w => absurd ⟨hv2, hv3⟩ w)⟩
    · exact y4 _ (fun _ _ => nm_e (br_t n0 (br_f d3 (br_f (by rw [m2]; decide) (br_f m0 (br_f m1 (br_t m2 ⟨vo, rfl, J⟩))))))) (fun w => absurd ⟨hv2, hv3⟩ w)
    · rw [hHo o ho]
      exact y4 _ (fun _ _ => nm_e (br_t n0 (br_f d3 (br_t (by rw [m3]; decide) (yk_holders hP ⟨rfl, J⟩))))) (fun w => absurd ⟨hv2, hv3⟩ w)
theorem i_vc_file {k : Nat} {u : SX} {v : SY} (I : i_Rel k u v) (hk : k + 5 ≤ 2560) (v1 : Int32) (v2 : Int32) : wpX_file (fun r => wpY_file (fun r' => r' = r ∧ i_Rel (k + 5) u v) v v1 v2) u v1 v2 := by
  have J := i_up I
  obtain ⟨t, b, x_changes, x_saidCount, x_time, x_lastSlot, x_sliceSteps, x_latestPid, x_greatestPid, x_code, x_codeLengths, x_pids, x_parents, x_programs, x_places, x_states, x_statuses, x_stepCounts, x_copyCounts, x_wakeTimes, x_registers, x_pageCounts, x_pageFrames, x_held, x_frameUsers, x_frameWords, x_openHolders, x_openKinds, x_openTargets, x_openPlaces, x_openModes, x_pipeFirsts, x_pipeCounts, x_pipeWords, x_nameFiles, x_fileSizes, x_fileWords, x_safeNames, x_safeSizes, x_safeWords, x_saidInts, y_time, y_last, y_lastPid, y_did, y_killed, y_ops, y_as, y_bs, y_pages, y_wake, y_zombie, y_blocked, y_memory, y_frame, y_kind, y_mode, y_pipe, y_size, y_safeSize, y_said, ht, hbt, rfl, rfl, hA⟩ := I
  have hA0 := hA
  obtain ⟨⟨g, eg, hg⟩, ⟨n, en, hn, hSd⟩, ⟨c, ec, hc⟩, eT, hPr, hPs, hMe, hFu, hHd, hHo, hOk, hPi, hFi, hSa, hSc, hWk⟩ := hA
  have hP : ∀ s, s < 8 → ¬ x_pids s < 0 := fun s hs => (hPs s hs).1
  have hN : ∀ s, s < 8 → x_pids s ≠ 0 → ∃ n, n ≤ 8 ∧ y_pages s = nI n := fun s hs hp => by
    obtain ⟨n, h1, _, h3, _⟩ := hMe s hs hp
    exact ⟨n, h1, h3⟩
  have e8 := uk_inE (x := v1) (n := 8) (N := 8) rfl (by decide)
  have y0 : ¬ vp_in v1 8 → wpY_file (fun r' => r' = -1 ∧ i_Rel (k + 5) (x_changes, x_saidCount, x_time, x_lastSlot, x_sliceSteps, x_latestPid, x_greatestPid, x_code, x_codeLengths, x_pids, x_parents, x_programs, x_places, x_states, x_statuses, x_stepCounts, x_copyCounts, x_wakeTimes, x_registers, x_pageCounts, x_pageFrames, x_held, x_frameUsers, x_frameWords, x_openHolders, x_openKinds, x_openTargets, x_openPlaces, x_openModes, x_pipeFirsts, x_pipeCounts, x_pipeWords, x_nameFiles, x_fileSizes, x_fileWords, x_safeNames, x_safeSizes, x_safeWords, x_saidInts) (x_changes, x_time, y_last, y_lastPid, y_did, x_greatestPid, x_latestPid, x_saidCount, y_killed, y_ops, y_as, y_bs, x_codeLengths, x_pids, x_parents, x_programs, x_places, x_statuses, x_stepCounts, x_copyCounts, y_pages, y_wake, y_zombie, y_blocked, x_registers, y_memory, y_frame, x_held, y_kind, x_openTargets, y_mode, x_openPlaces, x_pipeCounts, y_pipe, x_nameFiles, y_size, x_fileWords, x_safeNames, y_safeSize, x_safeWords, y_said)) (x_changes, x_time, y_last, y_lastPid, y_did, x_greatestPid, x_latestPid, x_saidCount, y_killed, y_ops, y_as, y_bs, x_codeLengths, x_pids, x_parents, x_programs, x_places, x_statuses, x_stepCounts, x_copyCounts, y_pages, y_wake, y_zombie, y_blocked, x_registers, y_memory, y_frame, x_held, y_kind, x_openTargets, y_mode, x_openPlaces, x_pipeCounts, y_pipe, x_nameFiles, y_size, x_fileWords, x_safeNames, y_safeSize, x_safeWords, y_said) v1 v2 := fun a => by
    unfold wpY_file
    exact yk_no 7 rfl (by decide) (fun b => absurd b a) (fun b => br_f (by decide) ⟨rfl, J⟩)
  unfold wpX_file
  refine ⟨fun a => y0 (fun z => (e8.mp z).1 a), fun a => ⟨fun b => y0 (fun z => (e8.mp z).2 b), fun b => ?_⟩⟩
  have hv := e8.mpr ⟨a, b⟩
  obtain ⟨f, hf, rfl⟩ := vp_in_of hv (by decide)
  obtain ⟨s1, s2, s3⟩ := hFi.2 f hf
  refine xk_isFree hOk hHo (fun fr => br_f (by decide) ?_) (fun fr => br_t rfl ?_)
  · unfold wpY_file
    exact yk_no 7 rfl (by decide) (fun _ => br_t rfl (yk_isFree (fun _ => br_f (by decide) ⟨rfl, J⟩) (fun z => absurd fr z))) (fun b => absurd hv b)
  · have y1 : ∀ post : Int32 → Prop, ((v2 = 0 → (vp_in (nI f) 8 ∧ post (y_size (nI f).toNatClampNeg))) ∧ (¬ v2 = 0 → ((v2 = 1 → wpY_named (fun r => post r) (x_changes, x_time, y_last, y_lastPid, y_did, x_greatestPid, x_latestPid, x_saidCount, y_killed, y_ops, y_as, y_bs, x_codeLengths, x_pids, x_parents, x_programs, x_places, x_statuses, x_stepCounts, x_copyCounts, y_pages, y_wake, y_zombie, y_blocked, x_registers, y_memory, y_frame, x_held, y_kind, x_openTargets, y_mode, x_openPlaces, x_pipeCounts, y_pipe, x_nameFiles, y_size, x_fileWords, x_safeNames, y_safeSize, x_safeWords, y_said) (nI f)) ∧ (¬ v2 = 1 → ((v2 = 2 → wpY_openOf (fun r => post r) (x_changes, x_time, y_last, y_lastPid, y_did, x_greatestPid, x_latestPid, x_saidCount, y_killed, y_ops, y_as, y_bs, x_codeLengths, x_pids, x_parents, x_programs, x_places, x_statuses, x_stepCounts, x_copyCounts, y_pages, y_wake, y_zombie, y_blocked, x_registers, y_memory, y_frame, x_held, y_kind, x_openTargets, y_mode, x_openPlaces, x_pipeCounts, y_pipe, x_nameFiles, y_size, x_fileWords, x_safeNames, y_safeSize, x_safeWords, y_said) (nI f)) ∧ (¬ v2 = 2 → post (-1))))))) → wpY_file post (x_changes, x_time, y_last, y_lastPid, y_did, x_greatestPid, x_latestPid, x_saidCount, y_killed, y_ops, y_as, y_bs, x_codeLengths, x_pids, x_parents, x_programs, x_places, x_statuses, x_stepCounts, x_copyCounts, y_pages, y_wake, y_zombie, y_blocked, x_registers, y_memory, y_frame, x_held, y_kind, x_openTargets, y_mode, x_openPlaces, x_pipeCounts, y_pipe, x_nameFiles, y_size, x_fileWords, x_safeNames, y_safeSize, x_safeWords, y_said) (nI f) v2 := fun post h => by
      unfold wpY_file
      exact yk_no 7 rfl (by decide) (fun _ => br_t rfl (yk_isFree (fun z => absurd z fr) (fun _ => br_t rfl h))) (fun b => absurd hv b)
    refine ⟨fun d => y1 _ (br_f (fun z => by rw [z] at d; exact absurd d (by decide)) (br_f (fun z => by rw [z] at d; exact absurd d (by decide)) (br_f (fun z => by rw [z] at d; exact absurd d (by decide)) ⟨rfl, J⟩))), fun d => ⟨fun d2 => y1 _ (br_f (fun z => by rw [z] at d2; exact absurd d2 (by decide)) (br_f (fun z => by rw [z] at d2; exact absurd d2 (by decide)) (br_f (fun z => by rw [z] at d2; exact absurd d2 (by decide)) ⟨rfl, J⟩))), fun d2 => ⟨fun m0 => ⟨hv, ?_⟩, fun m0 => ⟨fun m1 => ?_, fun m1 => ⟨fun m2 => ?_, fun _ => trivial⟩⟩⟩⟩⟩
    · rw [nI_clamp (by omega), s3 fr]
      refine y1 _ (br_t m0 ⟨hv, ?_, J⟩)
      rw [nI_clamp (by omega)]
    · exact xk_countNames (y1 _ (br_f m0 (br_t m1 (yk_named ⟨rfl, J⟩))))
    · refine xk_countOpens (y1 _ (br_f m0 (br_f m1 (br_t m2 (yk_openOf ⟨congrArg nI (uk_cnc 12 (fun o ho => ?_)), J⟩)))))
      rw [← uk_okk hOk hHo ho (k := 1) (by decide), and_assoc]
end
