theorem pk_us {f : Nat → Int32} {k : Nat} {x : Int32} : upd f k x k = x := sorry
theorem pk_un {f : Nat → Int32} {k j : Nat} {x : Int32} (h : j ≠ k) : upd f k x j = f j := sorry
theorem pk_sub {a b : Nat} (h : b ≤ a) : nI a - nI b = nI (a - b) := sorry
theorem pk_m1 (n : Nat) : nI (n + 1) + (-1) = nI n := sorry
theorem pk_mul (a b : Nat) : nI a * nI b = nI (a * b) := sorry
theorem pk_div {a d : Nat} (ha : a < 2 ^ 31) (h0 : 0 < d) (hd : d < 2 ^ 31) : nI a / nI d = nI (a / d) := sorry
theorem pk_rem {a d : Nat} (ha : a < 2 ^ 31) (h0 : 0 < d) (hd : d < 2 ^ 31) : nI a - nI a / nI d * nI d = nI (a % d) := sorry
theorem pk_ix (x : Int32) {n : Nat} (hn : n < 2 ^ 31) : x < 0 ∨ nI n ≤ x ∨ ∃ j : Nat, j < n ∧ x = nI j := sorry
theorem pk_le {x y : Int32} {A B : Prop} (a b : Nat) (f : a ≤ b → A) (g : b < a → B) (hx : x = nI a := by rfl) (hy : y = nI b := by rfl) (ha : a < 2 ^ 31 := by omega) (hb : b < 2 ^ 31 := by omega) : (x ≤ y → A) ∧ (¬ x ≤ y → B) := sorry
theorem pk_lt {x y : Int32} {A B : Prop} (a b : Nat) (f : a < b → A) (g : b ≤ a → B) (hx : x = nI a := by rfl) (hy : y = nI b := by rfl) (ha : a < 2 ^ 31 := by omega) (hb : b < 2 ^ 31 := by omega) : (x < y → A) ∧ (¬ x < y → B) := sorry
theorem pk_eq {x y : Int32} {A B : Prop} (a b : Nat) (f : a = b → A) (g : a ≠ b → B) (hx : x = nI a := by rfl) (hy : y = nI b := by rfl) (ha : a < 2 ^ 31 := by omega) (hb : b < 2 ^ 31 := by omega) : (x = y → A) ∧ (¬ x = y → B) := sorry
theorem pk_in {x : Int32} (n N : Nat) (h : n < N) (hx : x = nI n := by rfl) (hN : N < 2 ^ 31 := by omega) : vp_in x N := sorry
theorem pk_cl {x : Int32} (n : Nat) (hx : x = nI n := by rfl) (h : n < 2 ^ 31 := by omega) : x.toNatClampNeg = n := sorry
theorem pk_tn {n : Nat} (h : n < 2 ^ 32) : (nI n).toBitVec.toNat = n := sorry
theorem pk_and (x : Int32) {m : Int32} (k : Nat) (hm : m.toBitVec.toNat = 2 ^ k - 1) : x &&& m = nI (x.toBitVec.toNat % 2 ^ k) := sorry
theorem pk_andN {n : Nat} (h : n < 2 ^ 32) {m : Int32} (k : Nat) (hm : m.toBitVec.toNat = 2 ^ k - 1) : nI n &&& m = nI (n % 2 ^ k) := sorry
theorem sb_m1 {p : Nat} (h : 0 < p) : nI p + (-1) = nI (p - 1) := sorry
noncomputable def uk_b (p : Prop) : Nat := @ite Nat p (Classical.propDecidable p) 1 0
theorem uk_b1 {p : Prop} (h : p) : uk_b p = 1 := sorry
theorem uk_b0 {p : Prop} (h : ¬ p) : uk_b p = 0 := sorry
theorem uk_bi {p q : Prop} (h : p ↔ q) : uk_b p = uk_b q := sorry
theorem uk_ble (p : Prop) : uk_b p ≤ 1 := sorry
noncomputable def uk_cn (P : Nat → Prop) : Nat → Nat
  | 0 => 0
  | n + 1 => uk_cn P n + uk_b (P n)
theorem uk_cns (P : Nat → Prop) (n : Nat) : uk_cn P (n + 1) = uk_cn P n + uk_b (P n) := sorry
theorem uk_cnt {P : Nat → Prop} {n : Nat} (h : P n) : uk_cn P (n + 1) = uk_cn P n + 1 := sorry
theorem uk_cnf {P : Nat → Prop} {n : Nat} (h : ¬ P n) : uk_cn P (n + 1) = uk_cn P n := sorry
theorem uk_cnle (P : Nat → Prop) : ∀ n, uk_cn P n ≤ n := sorry
theorem uk_cnmono (P : Nat → Prop) {m : Nat} : ∀ n, m ≤ n → uk_cn P m ≤ uk_cn P n := sorry
theorem uk_cnc {P Q : Nat → Prop} : ∀ n, (∀ i, i < n → (P i ↔ Q i)) → uk_cn P n = uk_cn Q n := sorry
theorem uk_cn0 {P : Nat → Prop} : ∀ n, (∀ i, i < n → ¬ P i) → uk_cn P n = 0 := sorry
theorem uk_cnp {P : Nat → Prop} {i : Nat} (h : P i) : ∀ n, i < n → 0 < uk_cn P n := sorry
theorem uk_cn0' {P : Nat → Prop} {n : Nat} (h : uk_cn P n = 0) : ∀ i, i < n → ¬ P i := sorry
theorem uk_cnset {P Q : Nat → Prop} {k : Nat} (hP : ¬ P k) (hQ : Q k) : ∀ n, k < n → (∀ i, i < n → i ≠ k → (P i ↔ Q i)) → uk_cn Q n = uk_cn P n + 1 := sorry
theorem uk_cnadd (P : Nat → Prop) (a : Nat) : ∀ b, uk_cn P (a + b) = uk_cn P a + uk_cn (fun i => P (a + i)) b := sorry
def uk_sm (g : Nat → Nat) : Nat → Nat
  | 0 => 0
  | n + 1 => uk_sm g n + g n
theorem uk_sms (g : Nat → Nat) (n : Nat) : uk_sm g (n + 1) = uk_sm g n + g n := sorry
theorem uk_smc {g h : Nat → Nat} : ∀ n, (∀ i, i < n → g i = h i) → uk_sm g n = uk_sm h n := sorry
theorem uk_smset {g h : Nat → Nat} {k : Nat} : ∀ n, k < n → (∀ i, i < n → i ≠ k → g i = h i) → uk_sm h n + g k = uk_sm g n + h k := sorry
theorem uk_smle {g : Nat → Nat} {i : Nat} : ∀ n, i < n → g i ≤ uk_sm g n := sorry
theorem uk_smb {g : Nat → Nat} {m : Nat} : ∀ n, (∀ i, i < n → g i ≤ m) → uk_sm g n ≤ n * m := sorry
theorem uk_sm0 {g : Nat → Nat} : ∀ n, (∀ i, i < n → g i = 0) → uk_sm g n = 0 := sorry
theorem uk_cnmul (P : Nat → Prop) (m : Nat) : ∀ n, uk_cn P (m * n) = uk_sm (fun s => uk_cn (fun d => P (m * s + d)) m) n := sorry
noncomputable def uk_fg (P : Nat → Prop) : Nat → Nat → Int32
  | 0, _ => -1
  | d + 1, j => @ite Int32 (P j) (Classical.propDecidable (P j)) (nI j) (uk_fg P d (j + 1))
theorem uk_fgt {P : Nat → Prop} {d j : Nat} (h : P j) : uk_fg P (d + 1) j = nI j := sorry
theorem uk_fgf {P : Nat → Prop} {d j : Nat} (h : ¬ P j) : uk_fg P (d + 1) j = uk_fg P d (j + 1) := sorry
theorem uk_fgc {P Q : Nat → Prop} : ∀ d j, (∀ i, j ≤ i → i < j + d → (P i ↔ Q i)) → uk_fg P d j = uk_fg Q d j := sorry
theorem uk_fgs (P : Nat → Prop) : ∀ d j, (uk_fg P d j = -1 ∧ ∀ i, j ≤ i → i < j + d → ¬ P i) ∨ (∃ i, j ≤ i ∧ i < j + d ∧ uk_fg P d j = nI i ∧ P i ∧ ∀ k, j ≤ k → k < i → ¬ P k) := sorry
noncomputable def uk_ff (P : Nat → Prop) (n : Nat) : Int32 := uk_fg P n 0
theorem uk_ffc {P Q : Nat → Prop} (n : Nat) (h : ∀ i, i < n → (P i ↔ Q i)) : uk_ff P n = uk_ff Q n := sorry
theorem uk_ffs (P : Nat → Prop) (n : Nat) : (uk_ff P n = -1 ∧ ∀ i, i < n → ¬ P i) ∨ (∃ i, i < n ∧ uk_ff P n = nI i ∧ P i ∧ ∀ k, k < i → ¬ P k) := sorry
theorem uk_firstG (W : Nat → Nat → Prop) (post : Int32 → Prop) (P : Nat → Prop) (N : Nat) (hx : ∀ n, post (-1) → W (n + 1) N) (hs : ∀ n i, i < N → (P i → post (nI i)) → (¬ P i → W n (i + 1)) → W (n + 1) i) : ∀ d j, j + d = N → post (uk_fg P d j) → W (d + 1) j := sorry
theorem uk_first (W : Nat → Nat → Prop) (post : Int32 → Prop) (P : Nat → Prop) (N : Nat) (h : post (uk_ff P N)) (hx : ∀ n, post (-1) → W (n + 1) N) (hs : ∀ n i, i < N → (P i → post (nI i)) → (¬ P i → W n (i + 1)) → W (n + 1) i) : ∃ n, W n 0 := sorry
theorem uk_countG (W : Nat → Nat → Int32 → Prop) (P : Nat → Prop) (N : Nat) (hx : ∀ n, W (n + 1) N (nI (uk_cn P N))) (hs : ∀ n i c, i < N → (P i → W n (i + 1) (nI (c + 1))) → (¬ P i → W n (i + 1) (nI c)) → W (n + 1) i (nI c)) : ∀ d j, j + d = N → W (d + 1) j (nI (uk_cn P j)) := sorry
theorem uk_count (W : Nat → Nat → Int32 → Prop) (P : Nat → Prop) (N : Nat) (hx : ∀ n, W (n + 1) N (nI (uk_cn P N))) (hs : ∀ n i c, i < N → (P i → W n (i + 1) (nI (c + 1))) → (¬ P i → W n (i + 1) (nI c)) → W (n + 1) i (nI c)) : ∃ n, W n 0 0 := sorry
theorem uk_anyG (W : Nat → Nat → Prop) (P : Nat → Prop) (N : Nat) (hx : (∀ i, i < N → ¬ P i) → ∀ n, W (n + 1) N) (ht : ∀ n i, i < N → P i → W (n + 1) i) (hf : ∀ n i, i < N → ¬ P i → W n (i + 1) → W (n + 1) i) : ∀ d j, j + d = N → (∀ i, i < j → ¬ P i) → W (d + 1) j := sorry
theorem uk_any (W : Nat → Nat → Prop) (P : Nat → Prop) (N : Nat) (hx : (∀ i, i < N → ¬ P i) → ∀ n, W (n + 1) N) (ht : ∀ n i, i < N → P i → W (n + 1) i) (hf : ∀ n i, i < N → ¬ P i → W n (i + 1) → W (n + 1) i) : ∃ n, W n 0 := sorry
/-- a loop that goes through its states one by one: the state at i is g i -/
theorem uk_run {σ : Type} (W : Nat → Nat → σ → Prop) (g : Nat → σ) (N : Nat) (hx : ∀ n, W (n + 1) N (g N)) (hs : ∀ n i, i < N → W n (i + 1) (g (i + 1)) → W (n + 1) i (g i)) : ∀ d j, j + d = N → W (d + 1) j (g j) := sorry
theorem uk_run0 {σ : Type} (W : Nat → Nat → σ → Prop) (g : Nat → σ) (N : Nat) (hx : ∀ n, W (n + 1) N (g N)) (hs : ∀ n i, i < N → W n (i + 1) (g (i + 1)) → W (n + 1) i (g i)) : ∃ n, W n 0 (g 0) := sorry
def uk_fl (a : Nat → Int32) (b : Nat) (g : Nat → Int32) (N : Nat) : Nat → Int32 := fun j => if b ≤ j ∧ j < b + N then g (j - b) else a j
theorem uk_fl0 (a : Nat → Int32) (b : Nat) (g : Nat → Int32) : uk_fl a b g 0 = a := sorry
theorem uk_fls {a : Nat → Int32} {b i : Nat} {g : Nat → Int32} : upd (uk_fl a b g i) (b + i) (g i) = uk_fl a b g (i + 1) := sorry
theorem uk_flin {a : Nat → Int32} {b N : Nat} {g : Nat → Int32} {j : Nat} (h : j < N) : uk_fl a b g N (b + j) = g j := sorry
theorem uk_flout {a : Nat → Int32} {b N : Nat} {g : Nat → Int32} {j : Nat} (h : j < b ∨ b + N ≤ j) : uk_fl a b g N j = a j := sorry
theorem uk_uself (a : Nat → Int32) (i : Nat) : upd a i (a i) = a := sorry
theorem uk_uu (a : Nat → Int32) (i : Nat) (x y : Int32) : upd (upd a i x) i y = upd a i y := sorry
theorem uk_m3 (s : Nat) : nI s * 3 = nI (3 * s) := sorry
theorem uk_m4 (s : Nat) : nI s * 4 = nI (4 * s) := sorry
theorem uk_m6 (s : Nat) : nI s * 6 = nI (6 * s) := sorry
theorem uk_m8 (s : Nat) : nI s * 8 = nI (8 * s) := sorry
theorem uk_m16 (s : Nat) : nI s * 16 = nI (16 * s) := sorry
theorem uk_m24 (s : Nat) : nI s * 24 = nI (24 * s) := sorry
theorem uk_4m (s : Nat) : 4 * nI s = nI (4 * s) := sorry
theorem uk_6m (s : Nat) : 6 * nI s = nI (6 * s) := sorry
theorem uk_8m (s : Nat) : 8 * nI s = nI (8 * s) := sorry
theorem uk_16m (s : Nat) : 16 * nI s = nI (16 * s) := sorry
theorem uk_24m (s : Nat) : 24 * nI s = nI (24 * s) := sorry
theorem uk_32m (s : Nat) : 32 * nI s = nI (32 * s) := sorry
theorem uk_a1 (s : Nat) : nI s + 1 = nI (s + 1) := sorry
theorem uk_a2 (s : Nat) : nI s + 2 = nI (s + 2) := sorry
theorem uk_a3 (s : Nat) : nI s + 3 = nI (s + 3) := sorry
theorem uk_ne1 {n : Nat} (h : n < 2 ^ 31) : ¬ nI n = -1 := sorry
theorem uk_n10 : (-1 : Int32) < 0 := sorry
theorem uk_inc {x : Int32} {n : Nat} (h : vp_in x n) : x.toNatClampNeg < n := sorry
theorem uk_ofin {x : Int32} {n : Nat} (h : vp_in x n) : nI x.toNatClampNeg = x := sorry
