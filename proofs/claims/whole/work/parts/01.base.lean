theorem pk_us {f : Nat → Int32} {k : Nat} {x : Int32} : upd f k x k = x := if_pos rfl
theorem pk_un {f : Nat → Int32} {k j : Nat} {x : Int32} (h : j ≠ k) : upd f k x j = f j := if_neg h
theorem pk_sub {a b : Nat} (h : b ≤ a) : nI a - nI b = nI (a - b) := by
  obtain ⟨c, rfl⟩ : ∃ c, a = c + b := ⟨a - b, by omega⟩
  rw [← nI_add, Int32.add_sub_cancel, Nat.add_sub_cancel]
theorem pk_m1 (n : Nat) : nI (n + 1) + (-1) = nI n := by
  rw [← nI_1, Int32.add_assoc, show (1 : Int32) + (-1) = 0 from rfl, Int32.add_zero]
theorem pk_mul (a b : Nat) : nI a * nI b = nI (a * b) := (Int32.ofNat_mul a b).symm
theorem pk_div {a d : Nat} (ha : a < 2 ^ 31) (h0 : 0 < d) (hd : d < 2 ^ 31) : nI a / nI d = nI (a / d) := by
  apply Int32.toInt_inj.mp
  rw [lg_idiv_nonneg (by rw [nI_toInt ha]; omega) (by rw [nI_toInt hd]; omega), nI_toInt ha, nI_toInt hd, nI_toInt (Nat.lt_of_le_of_lt (Nat.div_le_self a d) ha)]
  first | rfl | exact (Int.natCast_ediv _ _).symm
theorem pk_rem {a d : Nat} (ha : a < 2 ^ 31) (h0 : 0 < d) (hd : d < 2 ^ 31) : nI a - nI a / nI d * nI d = nI (a % d) := by
  rw [pk_div ha h0 hd, pk_mul, pk_sub (Nat.div_mul_le_self a d)]
  exact congrArg nI (by have := Nat.div_add_mod' a d; omega)
theorem pk_ix (x : Int32) {n : Nat} (hn : n < 2 ^ 31) : x < 0 ∨ nI n ≤ x ∨ ∃ j : Nat, j < n ∧ x = nI j := by
  by_cases h : x < 0
  · exact Or.inl h
  · obtain ⟨j, hj, rfl⟩ := nI_of h
    by_cases h2 : j < n
    · exact Or.inr (Or.inr ⟨j, h2, rfl⟩)
    · exact Or.inr (Or.inl (nI_le (by omega) hj))
theorem pk_le {x y : Int32} {A B : Prop} (a b : Nat) (f : a ≤ b → A) (g : b < a → B) (hx : x = nI a := by rfl) (hy : y = nI b := by rfl) (ha : a < 2 ^ 31 := by omega) (hb : b < 2 ^ 31 := by omega) : (x ≤ y → A) ∧ (¬ x ≤ y → B) := by
  subst hx hy
  rw [nI_leI ha hb]
  exact ⟨f, fun z => g (by omega)⟩
theorem pk_lt {x y : Int32} {A B : Prop} (a b : Nat) (f : a < b → A) (g : b ≤ a → B) (hx : x = nI a := by rfl) (hy : y = nI b := by rfl) (ha : a < 2 ^ 31 := by omega) (hb : b < 2 ^ 31 := by omega) : (x < y → A) ∧ (¬ x < y → B) := by
  subst hx hy
  rw [nI_ltI ha hb]
  exact ⟨f, fun z => g (by omega)⟩
theorem pk_eq {x y : Int32} {A B : Prop} (a b : Nat) (f : a = b → A) (g : a ≠ b → B) (hx : x = nI a := by rfl) (hy : y = nI b := by rfl) (ha : a < 2 ^ 31 := by omega) (hb : b < 2 ^ 31 := by omega) : (x = y → A) ∧ (¬ x = y → B) := by
  subst hx hy
  rw [nI_eq ha hb]
  exact ⟨f, g⟩
theorem pk_in {x : Int32} (n N : Nat) (h : n < N) (hx : x = nI n := by rfl) (hN : N < 2 ^ 31 := by omega) : vp_in x N := by
  subst hx
  exact vp_in_nI h hN
theorem pk_cl {x : Int32} (n : Nat) (hx : x = nI n := by rfl) (h : n < 2 ^ 31 := by omega) : x.toNatClampNeg = n := by
  subst hx
  exact nI_clamp h
theorem pk_tn {n : Nat} (h : n < 2 ^ 32) : (nI n).toBitVec.toNat = n := Nat.mod_eq_of_lt h
theorem pk_and (x : Int32) {m : Int32} (k : Nat) (hm : m.toBitVec.toNat = 2 ^ k - 1) : x &&& m = nI (x.toBitVec.toNat % 2 ^ k) := by
  apply Int32.toBitVec_inj.mp
  apply BitVec.eq_of_toNat_eq
  rw [Int32.toBitVec_and, BitVec.toNat_and, hm, Nat.and_two_pow_sub_one_eq_mod]
  show _ = (BitVec.ofNat 32 _).toNat
  rw [BitVec.toNat_ofNat]
  exact (Nat.mod_eq_of_lt (Nat.lt_of_le_of_lt (Nat.mod_le _ _) x.toBitVec.isLt)).symm
theorem pk_andN {n : Nat} (h : n < 2 ^ 32) {m : Int32} (k : Nat) (hm : m.toBitVec.toNat = 2 ^ k - 1) : nI n &&& m = nI (n % 2 ^ k) := by
  rw [pk_and _ k hm, pk_tn h]
theorem sb_m1 {p : Nat} (h : 0 < p) : nI p + (-1) = nI (p - 1) := by
  obtain ⟨q, rfl⟩ : ∃ q, p = q + 1 := ⟨p - 1, by omega⟩
  exact pk_m1 q
noncomputable def uk_b (p : Prop) : Nat := @ite Nat p (Classical.propDecidable p) 1 0
theorem uk_b1 {p : Prop} (h : p) : uk_b p = 1 := if_pos h
theorem uk_b0 {p : Prop} (h : ¬ p) : uk_b p = 0 := if_neg h
theorem uk_bi {p q : Prop} (h : p ↔ q) : uk_b p = uk_b q := by rw [propext h]
theorem uk_ble (p : Prop) : uk_b p ≤ 1 := by
  cases Classical.em p with
  | inl h => rw [uk_b1 h]; exact Nat.le_refl 1
  | inr h => rw [uk_b0 h]; exact Nat.zero_le 1
noncomputable def uk_cn (P : Nat → Prop) : Nat → Nat
  | 0 => 0
  | n + 1 => uk_cn P n + uk_b (P n)
theorem uk_cns (P : Nat → Prop) (n : Nat) : uk_cn P (n + 1) = uk_cn P n + uk_b (P n) := rfl
theorem uk_cnt {P : Nat → Prop} {n : Nat} (h : P n) : uk_cn P (n + 1) = uk_cn P n + 1 := by rw [uk_cns, uk_b1 h]
theorem uk_cnf {P : Nat → Prop} {n : Nat} (h : ¬ P n) : uk_cn P (n + 1) = uk_cn P n := by rw [uk_cns, uk_b0 h]; rfl
theorem uk_cnle (P : Nat → Prop) : ∀ n, uk_cn P n ≤ n
  | 0 => Nat.le_refl 0
  | n + 1 => by
    have h := uk_cnle P n
    have h2 := uk_ble (P n)
    rw [uk_cns]; omega
theorem uk_cnmono (P : Nat → Prop) {m : Nat} : ∀ n, m ≤ n → uk_cn P m ≤ uk_cn P n
  | 0, h => by
    have e : m = 0 := by omega
    rw [e]; exact Nat.le_refl _
  | n + 1, h => by
    by_cases e : m = n + 1
    · rw [e]; exact Nat.le_refl _
    · have := uk_cnmono P (m := m) n (by omega)
      rw [uk_cns]; omega
theorem uk_cnc {P Q : Nat → Prop} : ∀ n, (∀ i, i < n → (P i ↔ Q i)) → uk_cn P n = uk_cn Q n
  | 0, _ => rfl
  | n + 1, h => by rw [uk_cns, uk_cns, uk_cnc n (fun i hi => h i (by omega)), uk_bi (h n (by omega))]
theorem uk_cn0 {P : Nat → Prop} : ∀ n, (∀ i, i < n → ¬ P i) → uk_cn P n = 0
  | 0, _ => rfl
  | n + 1, h => by rw [uk_cnf (h n (by omega)), uk_cn0 n (fun i hi => h i (by omega))]
theorem uk_cnp {P : Nat → Prop} {i : Nat} (h : P i) : ∀ n, i < n → 0 < uk_cn P n
  | 0, hi => by omega
  | n + 1, hi => by
    by_cases e : i = n
    · subst e; rw [uk_cnt h]; omega
    · have := uk_cnp h n (by omega)
      rw [uk_cns]; omega
theorem uk_cn0' {P : Nat → Prop} {n : Nat} (h : uk_cn P n = 0) : ∀ i, i < n → ¬ P i := fun i hi hp => by
  have := uk_cnp hp n hi
  omega
theorem uk_cnset {P Q : Nat → Prop} {k : Nat} (hP : ¬ P k) (hQ : Q k) : ∀ n, k < n → (∀ i, i < n → i ≠ k → (P i ↔ Q i)) → uk_cn Q n = uk_cn P n + 1
  | 0, hk, _ => by omega
  | n + 1, hk, h => by
    by_cases e : k = n
    · subst e
      rw [uk_cnt hQ, uk_cnf hP, uk_cnc k (fun i hi => h i (by omega) (by omega))]
    · rw [uk_cns, uk_cns, uk_cnset hP hQ n (by omega) (fun i hi hk => h i (by omega) hk), uk_bi (h n (by omega) (fun z => e z.symm))]
      omega
theorem uk_cnadd (P : Nat → Prop) (a : Nat) : ∀ b, uk_cn P (a + b) = uk_cn P a + uk_cn (fun i => P (a + i)) b
  | 0 => rfl
  | b + 1 => by
    show uk_cn P (a + b + 1) = _
    rw [uk_cns, uk_cnadd P a b, uk_cns]; omega
def uk_sm (g : Nat → Nat) : Nat → Nat
  | 0 => 0
  | n + 1 => uk_sm g n + g n
theorem uk_sms (g : Nat → Nat) (n : Nat) : uk_sm g (n + 1) = uk_sm g n + g n := rfl
theorem uk_smc {g h : Nat → Nat} : ∀ n, (∀ i, i < n → g i = h i) → uk_sm g n = uk_sm h n
  | 0, _ => rfl
  | n + 1, e => by rw [uk_sms, uk_sms, uk_smc n (fun i hi => e i (by omega)), e n (by omega)]
theorem uk_smset {g h : Nat → Nat} {k : Nat} : ∀ n, k < n → (∀ i, i < n → i ≠ k → g i = h i) → uk_sm h n + g k = uk_sm g n + h k
  | 0, hk, _ => by omega
  | n + 1, hk, e => by
    by_cases z : k = n
    · subst z
      rw [uk_sms, uk_sms, uk_smc k (fun i hi => e i (by omega) (by omega))]; omega
    · have h1 := uk_smset (g := g) (h := h) n (by omega : k < n) (fun i hi hk => e i (by omega) hk)
      rw [uk_sms, uk_sms, e n (by omega) (fun y => z y.symm)]; omega
theorem uk_smle {g : Nat → Nat} {i : Nat} : ∀ n, i < n → g i ≤ uk_sm g n
  | 0, hi => by omega
  | n + 1, hi => by
    by_cases e : i = n
    · subst e; rw [uk_sms]; omega
    · have := uk_smle (g := g) n (by omega : i < n)
      rw [uk_sms]; omega
theorem uk_smb {g : Nat → Nat} {m : Nat} : ∀ n, (∀ i, i < n → g i ≤ m) → uk_sm g n ≤ n * m
  | 0, _ => Nat.zero_le _
  | n + 1, e => by
    have h1 := uk_smb (g := g) n (fun i hi => e i (by omega))
    have h2 := e n (by omega)
    rw [uk_sms, Nat.succ_mul]; omega
theorem uk_sm0 {g : Nat → Nat} : ∀ n, (∀ i, i < n → g i = 0) → uk_sm g n = 0
  | 0, _ => rfl
  | n + 1, e => by rw [uk_sms, uk_sm0 n (fun i hi => e i (by omega)), e n (by omega)]
theorem uk_cnmul (P : Nat → Prop) (m : Nat) : ∀ n, uk_cn P (m * n) = uk_sm (fun s => uk_cn (fun d => P (m * s + d)) m) n
  | 0 => rfl
  | n + 1 => by
    rw [uk_sms, ← uk_cnmul P m n, Nat.mul_succ, uk_cnadd]
noncomputable def uk_fg (P : Nat → Prop) : Nat → Nat → Int32
  | 0, _ => -1
  | d + 1, j => @ite Int32 (P j) (Classical.propDecidable (P j)) (nI j) (uk_fg P d (j + 1))
theorem uk_fgt {P : Nat → Prop} {d j : Nat} (h : P j) : uk_fg P (d + 1) j = nI j := if_pos h
theorem uk_fgf {P : Nat → Prop} {d j : Nat} (h : ¬ P j) : uk_fg P (d + 1) j = uk_fg P d (j + 1) := if_neg h
theorem uk_fgc {P Q : Nat → Prop} : ∀ d j, (∀ i, j ≤ i → i < j + d → (P i ↔ Q i)) → uk_fg P d j = uk_fg Q d j
  | 0, _, _ => rfl
  | d + 1, j, h => by
    have ih := uk_fgc (P := P) (Q := Q) d (j + 1) (fun i h1 h2 => h i (by omega) (by omega))
    cases Classical.em (P j) with
    | inl hp => rw [uk_fgt hp, uk_fgt ((h j (by omega) (by omega)).mp hp)]
    | inr hp => rw [uk_fgf hp, uk_fgf (fun q => hp ((h j (by omega) (by omega)).mpr q)), ih]
theorem uk_fgs (P : Nat → Prop) : ∀ d j, (uk_fg P d j = -1 ∧ ∀ i, j ≤ i → i < j + d → ¬ P i) ∨ (∃ i, j ≤ i ∧ i < j + d ∧ uk_fg P d j = nI i ∧ P i ∧ ∀ k, j ≤ k → k < i → ¬ P k)
  | 0, j => Or.inl ⟨rfl, fun i h1 h2 => by omega⟩
  | d + 1, j => by
    cases Classical.em (P j) with
    | inl hp => exact Or.inr ⟨j, by omega, by omega, uk_fgt hp, hp, fun k h1 h2 => by omega⟩
    | inr hp =>
      rw [uk_fgf hp]
      cases uk_fgs P d (j + 1) with
      | inl h =>
        refine Or.inl ⟨h.1, fun i h1 h2 => ?_⟩
        by_cases e : i = j
        · subst e; exact hp
        · exact h.2 i (by omega) (by omega)
      | inr h =>
        obtain ⟨i, h1, h2, h3, h4, h5⟩ := h
        refine Or.inr ⟨i, by omega, by omega, h3, h4, fun k hk1 hk2 => ?_⟩
        by_cases e : k = j
        · subst e; exact hp
        · exact h5 k (by omega) hk2
noncomputable def uk_ff (P : Nat → Prop) (n : Nat) : Int32 := uk_fg P n 0
theorem uk_ffc {P Q : Nat → Prop} (n : Nat) (h : ∀ i, i < n → (P i ↔ Q i)) : uk_ff P n = uk_ff Q n := uk_fgc n 0 (fun i _ h2 => h i (by omega))
theorem uk_ffs (P : Nat → Prop) (n : Nat) : (uk_ff P n = -1 ∧ ∀ i, i < n → ¬ P i) ∨ (∃ i, i < n ∧ uk_ff P n = nI i ∧ P i ∧ ∀ k, k < i → ¬ P k) := by
  cases uk_fgs P n 0 with
  | inl h => exact Or.inl ⟨h.1, fun i hi => h.2 i (by omega) (by omega)⟩
  | inr h =>
    obtain ⟨i, _, h2, h3, h4, h5⟩ := h
    exact Or.inr ⟨i, by omega, h3, h4, fun k hk => h5 k (by omega) hk⟩
theorem uk_firstG (W : Nat → Nat → Prop) (post : Int32 → Prop) (P : Nat → Prop) (N : Nat) (hx : ∀ n, post (-1) → W (n + 1) N) (hs : ∀ n i, i < N → (P i → post (nI i)) → (¬ P i → W n (i + 1)) → W (n + 1) i) : ∀ d j, j + d = N → post (uk_fg P d j) → W (d + 1) j
  | 0, j, hj, h => by
    have e : j = N := by omega
    rw [e]; exact hx 0 h
  | d + 1, j, hj, h => by
    refine hs (d + 1) j (by omega) (fun hp => ?_) (fun hp => ?_)
    · rw [uk_fgt hp] at h; exact h
    · rw [uk_fgf hp] at h; exact uk_firstG W post P N hx hs d (j + 1) (by omega) h
theorem uk_first (W : Nat → Nat → Prop) (post : Int32 → Prop) (P : Nat → Prop) (N : Nat) (h : post (uk_ff P N)) (hx : ∀ n, post (-1) → W (n + 1) N) (hs : ∀ n i, i < N → (P i → post (nI i)) → (¬ P i → W n (i + 1)) → W (n + 1) i) : ∃ n, W n 0 := ⟨N + 1, uk_firstG W post P N hx hs N 0 (by omega) h⟩
theorem uk_countG (W : Nat → Nat → Int32 → Prop) (P : Nat → Prop) (N : Nat) (hx : ∀ n, W (n + 1) N (nI (uk_cn P N))) (hs : ∀ n i c, i < N → (P i → W n (i + 1) (nI (c + 1))) → (¬ P i → W n (i + 1) (nI c)) → W (n + 1) i (nI c)) : ∀ d j, j + d = N → W (d + 1) j (nI (uk_cn P j))
  | 0, j, hj => by
    have e : j = N := by omega
    rw [e]; exact hx 0
  | d + 1, j, hj => by
    have ih := uk_countG W P N hx hs d (j + 1) (by omega)
    refine hs (d + 1) j _ (by omega) (fun hp => ?_) (fun hp => ?_)
    · rw [uk_cnt hp] at ih; exact ih
    · rw [uk_cnf hp] at ih; exact ih
theorem uk_count (W : Nat → Nat → Int32 → Prop) (P : Nat → Prop) (N : Nat) (hx : ∀ n, W (n + 1) N (nI (uk_cn P N))) (hs : ∀ n i c, i < N → (P i → W n (i + 1) (nI (c + 1))) → (¬ P i → W n (i + 1) (nI c)) → W (n + 1) i (nI c)) : ∃ n, W n 0 0 := ⟨N + 1, uk_countG W P N hx hs N 0 (by omega)⟩
theorem uk_anyG (W : Nat → Nat → Prop) (P : Nat → Prop) (N : Nat) (hx : (∀ i, i < N → ¬ P i) → ∀ n, W (n + 1) N) (ht : ∀ n i, i < N → P i → W (n + 1) i) (hf : ∀ n i, i < N → ¬ P i → W n (i + 1) → W (n + 1) i) : ∀ d j, j + d = N → (∀ i, i < j → ¬ P i) → W (d + 1) j
  | 0, j, hj, h => by
    have e : j = N := by omega
    rw [e] at h ⊢; exact hx h 0
  | d + 1, j, hj, h => by
    cases Classical.em (P j) with
    | inl hp => exact ht _ _ (by omega) hp
    | inr hp =>
      refine hf _ _ (by omega) hp (uk_anyG W P N hx ht hf d (j + 1) (by omega) (fun i hi => ?_))
      by_cases e : i = j
      · rw [e]; exact hp
      · exact h i (by omega)
theorem uk_any (W : Nat → Nat → Prop) (P : Nat → Prop) (N : Nat) (hx : (∀ i, i < N → ¬ P i) → ∀ n, W (n + 1) N) (ht : ∀ n i, i < N → P i → W (n + 1) i) (hf : ∀ n i, i < N → ¬ P i → W n (i + 1) → W (n + 1) i) : ∃ n, W n 0 := ⟨N + 1, uk_anyG W P N hx ht hf N 0 (by omega) (fun i hi => by omega)⟩
/-- a loop that goes through its states one by one: the state at i is g i -/
theorem uk_run {σ : Type} (W : Nat → Nat → σ → Prop) (g : Nat → σ) (N : Nat) (hx : ∀ n, W (n + 1) N (g N)) (hs : ∀ n i, i < N → W n (i + 1) (g (i + 1)) → W (n + 1) i (g i)) : ∀ d j, j + d = N → W (d + 1) j (g j)
  | 0, j, hj => by
    have e : j = N := by omega
    rw [e]; exact hx 0
  | d + 1, j, hj => hs _ _ (by omega) (uk_run W g N hx hs d (j + 1) (by omega))
theorem uk_run0 {σ : Type} (W : Nat → Nat → σ → Prop) (g : Nat → σ) (N : Nat) (hx : ∀ n, W (n + 1) N (g N)) (hs : ∀ n i, i < N → W n (i + 1) (g (i + 1)) → W (n + 1) i (g i)) : ∃ n, W n 0 (g 0) := ⟨N + 1, uk_run W g N hx hs N 0 (by omega)⟩
def uk_fl (a : Nat → Int32) (b : Nat) (g : Nat → Int32) (N : Nat) : Nat → Int32 := fun j => if b ≤ j ∧ j < b + N then g (j - b) else a j
theorem uk_fl0 (a : Nat → Int32) (b : Nat) (g : Nat → Int32) : uk_fl a b g 0 = a := by
  funext j
  exact if_neg (by omega)
theorem uk_fls {a : Nat → Int32} {b i : Nat} {g : Nat → Int32} : upd (uk_fl a b g i) (b + i) (g i) = uk_fl a b g (i + 1) := by
  funext j
  by_cases e : j = b + i
  · subst e
    rw [pk_us]
    show _ = if b ≤ b + i ∧ b + i < b + (i + 1) then g (b + i - b) else a (b + i)
    rw [if_pos (by omega), Nat.add_sub_cancel_left]
  · rw [pk_un e]
    show (if b ≤ j ∧ j < b + i then g (j - b) else a j) = (if b ≤ j ∧ j < b + (i + 1) then g (j - b) else a j)
    by_cases h : b ≤ j ∧ j < b + i
    · rw [if_pos h, if_pos (by omega)]
    · rw [if_neg h, if_neg (by omega)]
theorem uk_flin {a : Nat → Int32} {b N : Nat} {g : Nat → Int32} {j : Nat} (h : j < N) : uk_fl a b g N (b + j) = g j := by
  show (if b ≤ b + j ∧ b + j < b + N then g (b + j - b) else a (b + j)) = g j
  rw [if_pos (by omega), Nat.add_sub_cancel_left]
theorem uk_flout {a : Nat → Int32} {b N : Nat} {g : Nat → Int32} {j : Nat} (h : j < b ∨ b + N ≤ j) : uk_fl a b g N j = a j := if_neg (by omega)
theorem uk_uself (a : Nat → Int32) (i : Nat) : upd a i (a i) = a := by
  funext j
  by_cases e : j = i
  · subst e; exact pk_us
  · exact pk_un e
theorem uk_uu (a : Nat → Int32) (i : Nat) (x y : Int32) : upd (upd a i x) i y = upd a i y := by
  funext j
  by_cases e : j = i
  · subst e; rw [pk_us, pk_us]
  · rw [pk_un e, pk_un e, pk_un e]
theorem uk_m3 (s : Nat) : nI s * 3 = nI (3 * s) := (pk_mul s 3).trans (congrArg nI (Nat.mul_comm s 3))
theorem uk_m4 (s : Nat) : nI s * 4 = nI (4 * s) := (pk_mul s 4).trans (congrArg nI (Nat.mul_comm s 4))
theorem uk_m6 (s : Nat) : nI s * 6 = nI (6 * s) := (pk_mul s 6).trans (congrArg nI (Nat.mul_comm s 6))
theorem uk_m8 (s : Nat) : nI s * 8 = nI (8 * s) := (pk_mul s 8).trans (congrArg nI (Nat.mul_comm s 8))
theorem uk_m16 (s : Nat) : nI s * 16 = nI (16 * s) := (pk_mul s 16).trans (congrArg nI (Nat.mul_comm s 16))
theorem uk_m24 (s : Nat) : nI s * 24 = nI (24 * s) := (pk_mul s 24).trans (congrArg nI (Nat.mul_comm s 24))
theorem uk_4m (s : Nat) : 4 * nI s = nI (4 * s) := pk_mul 4 s
theorem uk_6m (s : Nat) : 6 * nI s = nI (6 * s) := pk_mul 6 s
theorem uk_8m (s : Nat) : 8 * nI s = nI (8 * s) := pk_mul 8 s
theorem uk_16m (s : Nat) : 16 * nI s = nI (16 * s) := pk_mul 16 s
theorem uk_24m (s : Nat) : 24 * nI s = nI (24 * s) := pk_mul 24 s
theorem uk_32m (s : Nat) : 32 * nI s = nI (32 * s) := pk_mul 32 s
theorem uk_a1 (s : Nat) : nI s + 1 = nI (s + 1) := nI_1 s
theorem uk_a2 (s : Nat) : nI s + 2 = nI (s + 2) := nI_add s 2
theorem uk_a3 (s : Nat) : nI s + 3 = nI (s + 3) := nI_add s 3
theorem uk_ne1 {n : Nat} (h : n < 2 ^ 31) : ¬ nI n = -1 := fun e => by
  have h1 := nI_pos h
  rw [e] at h1
  exact h1 (by decide)
theorem uk_n10 : (-1 : Int32) < 0 := by decide
theorem uk_inc {x : Int32} {n : Nat} (h : vp_in x n) : x.toNatClampNeg < n := by
  have := (not_or.mp h).2
  omega
theorem uk_ofin {x : Int32} {n : Nat} (h : vp_in x n) : nI x.toNatClampNeg = x := by
  obtain ⟨j, hj, rfl⟩ := nI_of (not_or.mp h).1
  rw [nI_clamp hj]
