section
theorem pk_us {f : Nat → Int32} {k : Nat} {x : Int32} : upd f k x k = x := sorry
theorem pk_un {f : Nat → Int32} {k j : Nat} {x : Int32} (h : j ≠ k) : upd f k x j = f j := sorry
theorem pk_sub {a b : Nat} (h : b ≤ a) : nI a - nI b = nI (a - b) := sorry
theorem pk_m1 (n : Nat) : nI (n + 1) + (-1) = nI n := sorry
theorem pk_mul (a b : Nat) : nI a * nI b = nI (a * b) := sorry
theorem pk_div {a d : Nat} (ha : a < 2 ^ 31) (h0 : 0 < d) (hd : d < 2 ^ 31) : nI a / nI d = nI (a / d) := sorry
theorem pk_rem {a d : Nat} (ha : a < 2 ^ 31) (h0 : 0 < d) (hd : d < 2 ^ 31) : nI a - nI a / nI d * nI d = nI (a % d) := sorry
theorem pk_ix (x : Int32) {n : Nat} (hn : n < 2 ^ 31) : x < 0 ∨ nI n ≤ x ∨ ∃ j : Nat, j < n ∧ x = nI j := sorry
theorem pk_le {x y : Int32} {A B : Prop} (a b : Nat) (f : a ≤ b → A) (g : b < a → B) (hx : x = nI a := by rfl) (hy : y = nI b := by rfl) (ha : a < 2 ^ 31 := by omega) (hb : b < 2 ^ 31 := by omega) : (x ≤ y → A) ∧ (¬ x ≤ y → B) := sorry
theorem pk_lt {x y : Int32} {A B : Prop} (a b : Nat) (f : a < b → A) (g : b ≤ a → B) (hx : x = nI a := by rfl) (hy : y = nI b := by rfl) (ha : a < 2 ^ 31 := by omega) (hb : b < 2 ^ 31 := by omega) : (x < y → A) ∧ (¬ x < y → B) := sorry
theorem pk_eq {x y : Int32} {A B : Prop} (a b : Nat) (f : a = b → A) (g : a ≠ b → B) (hx : x = nI a := by rfl) (hy : y = nI b := by rfl) (ha : a < 2 ^ 31 := by omega) (hb : b < 2 ^ 31 := by omega) : (x = y → A) ∧ (¬ x = y → B) := sorry
theorem pk_in {x : Int32} (n N : Nat) (h : n < N) (hx : x = nI n := by rfl) (hN : N < 2 ^ 31 := by omega) : vp_in x N := sorry
theorem pk_cl {x : Int32} (n : Nat) (hx : x = nI n := by rfl) (h : n < 2 ^ 31 := by omega) : x.toNatClampNeg = n := sorry
theorem pk_tn {n : Nat} (h : n < 2 ^ 32) : (nI n).toBitVec.toNat = n := sorry
theorem pk_and (x : Int32) {m : Int32} (k : Nat) (hm : m.toBitVec.toNat = 2 ^ k - 1) : x &&& m = nI (x.toBitVec.toNat % 2 ^ k) := sorry
theorem pk_andN {n : Nat} (h : n < 2 ^ 32) {m : Int32} (k : Nat) (hm : m.toBitVec.toNat = 2 ^ k - 1) : nI n &&& m = nI (n % 2 ^ k) := sorry
theorem sb_m1 {p : Nat} (h : 0 < p) : nI p + (-1) = nI (p - 1) := sorry
noncomputable def uk_b (p : Prop) : Nat := @ite Nat p (Classical.propDecidable p) 1 0
theorem uk_b1 {p : Prop} (h : p) : uk_b p = 1 := sorry
theorem uk_b0 {p : Prop} (h : ¬ p) : uk_b p = 0 := sorry
theorem uk_bi {p q : Prop} (h : p ↔ q) : uk_b p = uk_b q := sorry
theorem uk_ble (p : Prop) : uk_b p ≤ 1 := sorry
noncomputable def uk_cn (P : Nat → Prop) : Nat → Nat
  | 0 => 0
  | n + 1 => uk_cn P n + uk_b (P n)
theorem uk_cns (P : Nat → Prop) (n : Nat) : uk_cn P (n + 1) = uk_cn P n + uk_b (P n) := sorry
theorem uk_cnt {P : Nat → Prop} {n : Nat} (h : P n) : uk_cn P (n + 1) = uk_cn P n + 1 := sorry
theorem uk_cnf {P : Nat → Prop} {n : Nat} (h : ¬ P n) : uk_cn P (n + 1) = uk_cn P n := sorry
theorem uk_cnle (P : Nat → Prop) : ∀ n, uk_cn P n ≤ n := sorry
theorem uk_cnmono (P : Nat → Prop) {m : Nat} : ∀ n, m ≤ n → uk_cn P m ≤ uk_cn P n := sorry
theorem uk_cnc {P Q : Nat → Prop} : ∀ n, (∀ i, i < n → (P i ↔ Q i)) → uk_cn P n = uk_cn Q n := sorry
theorem uk_cn0 {P : Nat → Prop} : ∀ n, (∀ i, i < n → ¬ P i) → uk_cn P n = 0 := sorry
theorem uk_cnp {P : Nat → Prop} {i : Nat} (h : P i) : ∀ n, i < n → 0 < uk_cn P n := sorry
theorem uk_cn0' {P : Nat → Prop} {n : Nat} (h : uk_cn P n = 0) : ∀ i, i < n → ¬ P i := sorry
theorem uk_cnset {P Q : Nat → Prop} {k : Nat} (hP : ¬ P k) (hQ : Q k) : ∀ n, k < n → (∀ i, i < n → i ≠ k → (P i ↔ Q i)) → uk_cn Q n = uk_cn P n + 1 := sorry
theorem uk_cnadd (P : Nat → Prop) (a : Nat) : ∀ b, uk_cn P (a + b) = uk_cn P a + uk_cn (fun i => P (a + i)) b := sorry
def uk_sm (g : Nat → Nat) : Nat → Nat
  | 0 => 0
  | n + 1 => uk_sm g n + g n
theorem uk_sms (g : Nat → Nat) (n : Nat) : uk_sm g (n + 1) = uk_sm g n + g n := sorry
theorem uk_smc {g h : Nat → Nat} : ∀ n, (∀ i, i < n → g i = h i) → uk_sm g n = uk_sm h n := sorry
theorem uk_smset {g h : Nat → Nat} {k : Nat} : ∀ n, k < n → (∀ i, i < n → i ≠ k → g i = h i) → uk_sm h n + g k = uk_sm g n + h k := sorry
theorem uk_smle {g : Nat → Nat} {i : Nat} : ∀ n, i < n → g i ≤ uk_sm g n := sorry
theorem uk_smb {g : Nat → Nat} {m : Nat} : ∀ n, (∀ i, i < n → g i ≤ m) → uk_sm g n ≤ n * m := sorry
theorem uk_sm0 {g : Nat → Nat} : ∀ n, (∀ i, i < n → g i = 0) → uk_sm g n = 0 := sorry
theorem uk_cnmul (P : Nat → Prop) (m : Nat) : ∀ n, uk_cn P (m * n) = uk_sm (fun s => uk_cn (fun d => P (m * s + d)) m) n := sorry
noncomputable def uk_fg (P : Nat → Prop) : Nat → Nat → Int32
  | 0, _ => -1
  | d + 1, j => @ite Int32 (P j) (Classical.propDecidable (P j)) (nI j) (uk_fg P d (j + 1))
theorem uk_fgt {P : Nat → Prop} {d j : Nat} (h : P j) : uk_fg P (d + 1) j = nI j := sorry
theorem uk_fgf {P : Nat → Prop} {d j : Nat} (h : ¬ P j) : uk_fg P (d + 1) j = uk_fg P d (j + 1) := sorry
theorem uk_fgc {P Q : Nat → Prop} : ∀ d j, (∀ i, j ≤ i → i < j + d → (P i ↔ Q i)) → uk_fg P d j = uk_fg Q d j := sorry
theorem uk_fgs (P : Nat → Prop) : ∀ d j, (uk_fg P d j = -1 ∧ ∀ i, j ≤ i → i < j + d → ¬ P i) ∨ (∃ i, j ≤ i ∧ i < j + d ∧ uk_fg P d j = nI i ∧ P i ∧ ∀ k, j ≤ k → k < i → ¬ P k) := sorry
noncomputable def uk_ff (P : Nat → Prop) (n : Nat) : Int32 := uk_fg P n 0
theorem uk_ffc {P Q : Nat → Prop} (n : Nat) (h : ∀ i, i < n → (P i ↔ Q i)) : uk_ff P n = uk_ff Q n := sorry
theorem uk_ffs (P : Nat → Prop) (n : Nat) : (uk_ff P n = -1 ∧ ∀ i, i < n → ¬ P i) ∨ (∃ i, i < n ∧ uk_ff P n = nI i ∧ P i ∧ ∀ k, k < i → ¬ P k) := sorry
theorem uk_firstG (W : Nat → Nat → Prop) (post : Int32 → Prop) (P : Nat → Prop) (N : Nat) (hx : ∀ n, post (-1) → W (n + 1) N) (hs : ∀ n i, i < N → (P i → post (nI i)) → (¬ P i → W n (i + 1)) → W (n + 1) i) : ∀ d j, j + d = N → post (uk_fg P d j) → W (d + 1) j := sorry
theorem uk_first (W : Nat → Nat → Prop) (post : Int32 → Prop) (P : Nat → Prop) (N : Nat) (h : post (uk_ff P N)) (hx : ∀ n, post (-1) → W (n + 1) N) (hs : ∀ n i, i < N → (P i → post (nI i)) → (¬ P i → W n (i + 1)) → W (n + 1) i) : ∃ n, W n 0 := sorry
theorem uk_countG (W : Nat → Nat → Int32 → Prop) (P : Nat → Prop) (N : Nat) (hx : ∀ n, W (n + 1) N (nI (uk_cn P N))) (hs : ∀ n i c, i < N → (P i → W n (i + 1) (nI (c + 1))) → (¬ P i → W n (i + 1) (nI c)) → W (n + 1) i (nI c)) : ∀ d j, j + d = N → W (d + 1) j (nI (uk_cn P j)) := sorry
theorem uk_count (W : Nat → Nat → Int32 → Prop) (P : Nat → Prop) (N : Nat) (hx : ∀ n, W (n + 1) N (nI (uk_cn P N))) (hs : ∀ n i c, i < N → (P i → W n (i + 1) (nI (c + 1))) → (¬ P i → W n (i + 1) (nI c)) → W (n + 1) i (nI c)) : ∃ n, W n 0 0 := sorry
theorem uk_anyG (W : Nat → Nat → Prop) (P : Nat → Prop) (N : Nat) (hx : (∀ i, i < N → ¬ P i) → ∀ n, W (n + 1) N) (ht : ∀ n i, i < N → P i → W (n + 1) i) (hf : ∀ n i, i < N → ¬ P i → W n (i + 1) → W (n + 1) i) : ∀ d j, j + d = N → (∀ i, i < j → ¬ P i) → W (d + 1) j := sorry
theorem uk_any (W : Nat → Nat → Prop) (P : Nat → Prop) (N : Nat) (hx : (∀ i, i < N → ¬ P i) → ∀ n, W (n + 1) N) (ht : ∀ n i, i < N → P i → W (n + 1) i) (hf : ∀ n i, i < N → ¬ P i → W n (i + 1) → W (n + 1) i) : ∃ n, W n 0 := sorry
/-- a loop that goes through its states one by one: the state at i is g i -/
theorem uk_run {σ : Type} (W : Nat → Nat → σ → Prop) (g : Nat → σ) (N : Nat) (hx : ∀ n, W (n + 1) N (g N)) (hs : ∀ n i, i < N → W n (i + 1) (g (i + 1)) → W (n + 1) i (g i)) : ∀ d j, j + d = N → W (d + 1) j (g j) := sorry
theorem uk_run0 {σ : Type} (W : Nat → Nat → σ → Prop) (g : Nat → σ) (N : Nat) (hx : ∀ n, W (n + 1) N (g N)) (hs : ∀ n i, i < N → W n (i + 1) (g (i + 1)) → W (n + 1) i (g i)) : ∃ n, W n 0 (g 0) := sorry
def uk_fl (a : Nat → Int32) (b : Nat) (g : Nat → Int32) (N : Nat) : Nat → Int32 := fun j => if b ≤ j ∧ j < b + N then g (j - b) else a j
theorem uk_fl0 (a : Nat → Int32) (b : Nat) (g : Nat → Int32) : uk_fl a b g 0 = a := sorry
theorem uk_fls {a : Nat → Int32} {b i : Nat} {g : Nat → Int32} : upd (uk_fl a b g i) (b + i) (g i) = uk_fl a b g (i + 1) := sorry
theorem uk_flin {a : Nat → Int32} {b N : Nat} {g : Nat → Int32} {j : Nat} (h : j < N) : uk_fl a b g N (b + j) = g j := sorry
theorem uk_flout {a : Nat → Int32} {b N : Nat} {g : Nat → Int32} {j : Nat} (h : j < b ∨ b + N ≤ j) : uk_fl a b g N j = a j := sorry
theorem uk_uself (a : Nat → Int32) (i : Nat) : upd a i (a i) = a := sorry
theorem uk_uu (a : Nat → Int32) (i : Nat) (x y : Int32) : upd (upd a i x) i y = upd a i y := sorry
theorem uk_m3 (s : Nat) : nI s * 3 = nI (3 * s) := sorry
theorem uk_m4 (s : Nat) : nI s * 4 = nI (4 * s) := sorry
theorem uk_m6 (s : Nat) : nI s * 6 = nI (6 * s) := sorry
theorem uk_m8 (s : Nat) : nI s * 8 = nI (8 * s) := sorry
theorem uk_m16 (s : Nat) : nI s * 16 = nI (16 * s) := sorry
theorem uk_m24 (s : Nat) : nI s * 24 = nI (24 * s) := sorry
theorem uk_4m (s : Nat) : 4 * nI s = nI (4 * s) := sorry
theorem uk_6m (s : Nat) : 6 * nI s = nI (6 * s) := sorry
theorem uk_8m (s : Nat) : 8 * nI s = nI (8 * s) := sorry
theorem uk_16m (s : Nat) : 16 * nI s = nI (16 * s) := sorry
theorem uk_24m (s : Nat) : 24 * nI s = nI (24 * s) := sorry
theorem uk_32m (s : Nat) : 32 * nI s = nI (32 * s) := sorry
theorem uk_a1 (s : Nat) : nI s + 1 = nI (s + 1) := sorry
theorem uk_a2 (s : Nat) : nI s + 2 = nI (s + 2) := sorry
theorem uk_a3 (s : Nat) : nI s + 3 = nI (s + 3) := sorry
theorem uk_ne1 {n : Nat} (h : n < 2 ^ 31) : ¬ nI n = -1 := sorry
theorem uk_n10 : (-1 : Int32) < 0 := sorry
theorem uk_inc {x : Int32} {n : Nat} (h : vp_in x n) : x.toNatClampNeg < n := sorry
theorem uk_ofin {x : Int32} {n : Nat} (h : vp_in x n) : nI x.toNatClampNeg = x := sorry
end
section
/-- an instruction that add takes -/
def uk_val (op a b : Int32) : Prop :=
  (op = 0 ∧ vp_in a 4) ∨ ((op = 1 ∨ op = 2 ∨ op = 3 ∨ op = 4 ∨ op = 5) ∧ vp_in a 4 ∧ vp_in b 4) ∨ (op = 6 ∧ vp_in b 24) ∨ (op = 7 ∧ vp_in a 4 ∧ vp_in b 24) ∨ (op = 8 ∧ vp_in b 19)
/-- the programs: X's code against Y's three tables -/
def uk_Pr (cd ln os oa ob : Nat → Int32) : Prop :=
  (∀ k, k < 144 → os k = cd (3 * k) ∧ ob k = cd (3 * k + 2) ∧ (os k ≠ 6 → os k ≠ 8 → oa k = cd (3 * k + 1))) ∧
  (∀ p, p < 6 → ∃ n, n ≤ 24 ∧ ln p = nI n ∧ ∀ j, j < n → uk_val (cd (3 * (24 * p + j))) (cd (3 * (24 * p + j) + 1)) (cd (3 * (24 * p + j) + 2)))
/-- the processes: pids P, parents Q, programs G, places L, statuses U; X's states, Y's zombie and blocked -/
def uk_Ps (P Q G L U st zo bl : Nat → Int32) : Prop := ∀ s, s < 8 → ¬ P s < 0 ∧ ¬ Q s < 0 ∧ vp_in (G s) 6 ∧ vp_in (L s) 25 ∧ (zo s = 0 ∨ zo s = 1) ∧ (bl s = 0 ∨ bl s = 1) ∧
  (P s ≠ 0 → (zo s = 1 ∧ st s = 3) ∨ (zo s = 0 ∧ U s = 0 ∧ ((bl s = 0 ∧ st s = 1) ∨ (bl s = 1 ∧ st s = 2))))
/-- pages and words: X's pageCounts, pageFrames, frameWords; Y's pages, frame, memory -/
def uk_Me (P zo pc pg pf fr fw me : Nat → Int32) : Prop := ∀ s, s < 8 → P s ≠ 0 → ∃ n, n ≤ 8 ∧ pc s = nI n ∧ pg s = nI n ∧ (zo s = 1 → n = 0) ∧ ∀ p, p < n → vp_in (fr (8 * s + p)) 20 ∧ pf (8 * s + p) = fr (8 * s + p) ∧ ∀ k, k < 4 → fw (4 * (fr (8 * s + p)).toNatClampNeg + k) = me (32 * s + 4 * p + k)
/-- how many pages of slot s have frame f -/
noncomputable def uk_rw (P pg fr : Nat → Int32) (f s : Nat) : Nat := uk_b (P s ≠ 0) * uk_cn (fun p => fr (8 * s + p) = nI f) (pg s).toNatClampNeg
def uk_Fu (P pg fr fu : Nat → Int32) : Prop := ∀ f, f < 20 → fu f = nI (uk_sm (uk_rw P pg fr f) 8)
/-- descriptors and o-files -/
def uk_Hd (P zo H : Nat → Int32) : Prop := ∀ s, s < 8 → P s ≠ 0 → zo s = 0 → ∀ d, d < 6 → H (6 * s + d) = -1 ∨ vp_in (H (6 * s + d)) 12
noncomputable def uk_hw (P zo H : Nat → Int32) (o s : Nat) : Nat := uk_b (P s ≠ 0 ∧ zo s = 0) * uk_cn (fun d => H (6 * s + d) = nI o) 6
def uk_Ho (P zo H oh : Nat → Int32) : Prop := ∀ o, o < 12 → oh o = nI (uk_sm (uk_hw P zo H o) 8)
def uk_Ok (oh ok ki T om mo op : Nat → Int32) : Prop := ∀ o, o < 12 → vp_in (op o) 17 ∧ ((oh o = 0 ∧ ki o = 0) ∨ (oh o ≠ 0 ∧ ok o = ki o ∧ ((ki o = 1 ∧ om o = mo o ∧ mo o &&& 3 ≠ 0 ∧ vp_in (T o) 8) ∨ (ki o = 2 ∧ om o = 1 ∧ vp_in (T o) 4) ∨ (ki o = 3 ∧ om o = 2 ∧ vp_in (T o) 4))))
/-- pipes: X's ring against Y's row -/
def uk_Pi (C pf pw pi : Nat → Int32) : Prop := ∀ q, q < 4 → ∃ c f, c ≤ 4 ∧ f < 4 ∧ C q = nI c ∧ pf q = nI f ∧ ∀ j, j < c → pw (4 * q + (f + j) % 4) = pi (4 * q + j)
/-- files -/
def uk_fre (N ki T : Nat → Int32) (f : Nat) : Prop := (∀ k, k < 8 → N k ≠ nI f) ∧ ∀ o, o < 12 → ¬ (ki o = 1 ∧ T o = nI f)
def uk_Fi (N ki T fs sz : Nat → Int32) : Prop := (∀ k, k < 8 → N k = -1 ∨ vp_in (N k) 8) ∧ ∀ f, f < 8 → vp_in (sz f) 17 ∧ (uk_fre N ki T f → sz f = 0) ∧ (¬ uk_fre N ki T f → fs f = sz f)
def uk_Sa (sn ss sz : Nat → Int32) : Prop := (∀ k, k < 8 → sn k = -1 ∨ vp_in (sn k) 8) ∧ ∀ f, f < 8 → vp_in (sz f) 17 ∧ ((∃ k, k < 8 ∧ sn k = nI f) → ss f = sz f)
/-- what was said: n ints -/
def uk_Sd (n : Nat) (si sd : Nat → Int32) : Prop := ∀ k, k < 16 → k < n → si ((n - 1 - k) % 16) = sd k
/-- whose step it was -/
def uk_Sc (P : Nat → Int32) (ls sl la lp di : Int32) : Prop := vp_in ls 8 ∧ vp_in la 8 ∧ ((∀ s, s < 8 → P s = 0) ∨ (ls = la ∧ (P la.toNatClampNeg = 0 ∨ (P la.toNatClampNeg = lp ∧ sl = di))))
/-- descriptor R0 of slot s is an o-file of kind k -/
def uk_de (R H ki : Nat → Int32) (s : Nat) (k : Int32) : Prop := ∃ d o, d < 6 ∧ o < 12 ∧ R (4 * s) = nI d ∧ H (6 * s + d) = nI o ∧ ki o = k
/-- blocked processes, and when they wake -/
def uk_wk1 (G L ln os ob wt wk R H ki : Nat → Int32) (t s : Nat) : Prop :=
  (L s).toNatClampNeg < (ln (G s).toNatClampNeg).toNatClampNeg ∧ os (24 * (G s).toNatClampNeg + (L s).toNatClampNeg) = 8 ∧
  ((ob (24 * (G s).toNatClampNeg + (L s).toNatClampNeg) = 14 ∧ ∃ w, 0 < w ∧ w ≤ t + 1001 ∧ wt s = nI w ∧ wk s = nI w) ∨
   (wt s = 0 ∧ wk s = -1 ∧ (ob (24 * (G s).toNatClampNeg + (L s).toNatClampNeg) = 2 ∨ (ob (24 * (G s).toNatClampNeg + (L s).toNatClampNeg) = 7 ∧ uk_de R H ki s 2) ∨ (ob (24 * (G s).toNatClampNeg + (L s).toNatClampNeg) = 8 ∧ uk_de R H ki s 3))))
def uk_Wk (P zo bl G L ln os ob wt wk R H ki : Nat → Int32) (t : Nat) : Prop := ∀ s, s < 8 → P s ≠ 0 → zo s = 0 → (bl s = 0 ∧ wt s = 0 ∧ wk s = -1) ∨ (bl s = 1 ∧ uk_wk1 G L ln os ob wt wk R H ki t s)
end
section
/-! how the groups of the relation are kept -/
theorem uk_FuC {P pg fr fu P' pg' fr' : Nat → Int32} (h : uk_Fu P pg fr fu) (e : ∀ f s, f < 20 → s < 8 → uk_rw P' pg' fr' f s = uk_rw P pg fr f s) : uk_Fu P' pg' fr' fu := sorry
theorem uk_HoC {P zo H oh P' zo' H' : Nat → Int32} (h : uk_Ho P zo H oh) (e : ∀ o s, o < 12 → s < 8 → uk_hw P' zo' H' o s = uk_hw P zo H o s) : uk_Ho P' zo' H' oh := sorry
theorem uk_rw0 {P pg fr : Nat → Int32} {f s : Nat} (h : P s = 0) : uk_rw P pg fr f s = 0 := sorry
theorem uk_rwn {P pg fr : Nat → Int32} {f s n : Nat} (h : P s ≠ 0) (hn : pg s = nI n) (hb : n < 2 ^ 31) : uk_rw P pg fr f s = uk_cn (fun p => fr (8 * s + p) = nI f) n := sorry
theorem uk_hw0 {P zo H : Nat → Int32} {o s : Nat} (h : ¬ (P s ≠ 0 ∧ zo s = 0)) : uk_hw P zo H o s = 0 := sorry
theorem uk_hwn {P zo H : Nat → Int32} {o s : Nat} (h : P s ≠ 0) (hz : zo s = 0) : uk_hw P zo H o s = uk_cn (fun d => H (6 * s + d) = nI o) 6 := sorry
theorem uk_hwle (P zo H : Nat → Int32) (o s : Nat) : uk_hw P zo H o s ≤ 6 := sorry
theorem uk_hsle (P zo H : Nat → Int32) (o : Nat) : uk_sm (uk_hw P zo H o) 8 ≤ 48 := sorry
theorem uk_rwle {P zo pc pg pf fr fw me : Nat → Int32} (h : uk_Me P zo pc pg pf fr fw me) {s : Nat} (hs : s < 8) (f : Nat) : uk_rw P pg fr f s ≤ 8 := sorry
theorem uk_rsle {P zo pc pg pf fr fw me : Nat → Int32} (h : uk_Me P zo pc pg pf fr fw me) (f : Nat) : uk_sm (uk_rw P pg fr f) 8 ≤ 64 := sorry
-- a slot is no more
theorem uk_P0_Ps {P Q G L U st zo bl : Nat → Int32} (z : Nat) (h : uk_Ps P Q G L U st zo bl) : uk_Ps (upd P z 0) Q G L U st zo bl := sorry
theorem uk_P0n {P : Nat → Int32} {z s : Nat} (h : upd P z 0 s ≠ 0) : s ≠ z ∧ P s ≠ 0 := sorry
theorem uk_P0_Me {P zo pc pg pf fr fw me : Nat → Int32} (z : Nat) (h : uk_Me P zo pc pg pf fr fw me) : uk_Me (upd P z 0) zo pc pg pf fr fw me := sorry
theorem uk_P0_Hd {P zo H : Nat → Int32} (z : Nat) (h : uk_Hd P zo H) : uk_Hd (upd P z 0) zo H := sorry
theorem uk_P0_Wk {P zo bl G L ln os ob wt wk R H ki : Nat → Int32} {t : Nat} (z : Nat) (h : uk_Wk P zo bl G L ln os ob wt wk R H ki t) : uk_Wk (upd P z 0) zo bl G L ln os ob wt wk R H ki t := sorry
theorem uk_P0_Sc {P : Nat → Int32} {ls sl la lp di : Int32} (z : Nat) (h : uk_Sc P ls sl la lp di) : uk_Sc (upd P z 0) ls sl la lp di := sorry
theorem uk_P0_Fu {P pg fr fu : Nat → Int32} (z : Nat) (h : uk_Fu P pg fr fu) (hz : P z ≠ 0 → pg z = 0) : uk_Fu (upd P z 0) pg fr fu := sorry
theorem uk_P0_Ho {P zo H oh : Nat → Int32} (z : Nat) (h : uk_Ho P zo H oh) (hz : ∀ o, o < 12 → uk_hw P zo H o z = 0) : uk_Ho (upd P z 0) zo H oh := sorry
-- blocked processes
theorem uk_wk1C {G L ln os ob wt wk R H ki G' L' wt' wk' R' H' ki' : Nat → Int32} {t t' s : Nat} (ht : t ≤ t') (eG : G' s = G s) (eL : L' s = L s) (ew : wt' s = wt s) (ek : wk' s = wk s) (eR : R' (4 * s) = R (4 * s)) (eH : ∀ d, d < 6 → H' (6 * s + d) = H (6 * s + d)) (eki : ∀ d o, d < 6 → o < 12 → H (6 * s + d) = nI o → (ki o = 2 ∨ ki o = 3) → ki' o = ki o) (h : uk_wk1 G L ln os ob wt wk R H ki t s) : uk_wk1 G' L' ln os ob wt' wk' R' H' ki' t' s := sorry
theorem uk_WkC {P zo bl G L ln os ob wt wk R H ki P' zo' bl' G' L' wt' wk' R' H' ki' : Nat → Int32} {t t' : Nat} (ht : t ≤ t') (h : uk_Wk P zo bl G L ln os ob wt wk R H ki t) (e : ∀ s, s < 8 → P' s ≠ 0 → zo' s = 0 → (bl' s = 0 ∧ wt' s = 0 ∧ wk' s = -1) ∨ (P s ≠ 0 ∧ zo s = 0 ∧ bl' s = bl s ∧ G' s = G s ∧ L' s = L s ∧ wt' s = wt s ∧ wk' s = wk s ∧ R' (4 * s) = R (4 * s) ∧ (∀ d, d < 6 → H' (6 * s + d) = H (6 * s + d)) ∧ (∀ d o, d < 6 → o < 12 → H (6 * s + d) = nI o → (ki o = 2 ∨ ki o = 3) → ki' o = ki o))) : uk_Wk P' zo' bl' G' L' ln os ob wt' wk' R' H' ki' t' := sorry
-- X's counts of frames
def uk_dec (fu pf : Nat → Int32) (b : Nat) : Nat → Nat → Int32
  | 0 => fu
  | p + 1 => upd (uk_dec fu pf b p) (pf (b + p)).toNatClampNeg (uk_dec fu pf b p (pf (b + p)).toNatClampNeg - 1)
def uk_icc (fu pf : Nat → Int32) (b : Nat) : Nat → Nat → Int32
  | 0 => fu
  | p + 1 => upd (uk_icc fu pf b p) (pf (b + p)).toNatClampNeg (uk_icc fu pf b p (pf (b + p)).toNatClampNeg + 1)
theorem uk_dec_val {fu pf : Nat → Int32} {b : Nat} {T : Nat → Nat} (hT : ∀ f, f < 20 → fu f = nI (T f)) : ∀ p, (∀ j, j < p → vp_in (pf (b + j)) 20) → (∀ f, f < 20 → uk_cn (fun j => pf (b + j) = nI f) p ≤ T f) → ∀ f, f < 20 → uk_dec fu pf b p f = nI (T f - uk_cn (fun j => pf (b + j) = nI f) p) := sorry
theorem uk_icc_val {fu pf : Nat → Int32} {b : Nat} {T : Nat → Nat} (hT : ∀ f, f < 20 → fu f = nI (T f)) : ∀ p, (∀ j, j < p → vp_in (pf (b + j)) 20) → ∀ f, f < 20 → uk_icc fu pf b p f = nI (T f + uk_cn (fun j => pf (b + j) = nI f) p) := sorry
-- the pages of a process go
theorem uk_drop_Me {P zo pc pg pf fr fw me : Nat → Int32} (s : Nat) (h : uk_Me P zo pc pg pf fr fw me) : uk_Me P zo (upd pc s 0) (upd pg s 0) pf fr fw me := sorry
theorem uk_pf_fr {P zo pc pg pf fr fw me : Nat → Int32} (h : uk_Me P zo pc pg pf fr fw me) {s n : Nat} (hs : s < 8) (hp : P s ≠ 0) (hn : pg s = nI n) (hb : n < 2 ^ 31) : n ≤ 8 ∧ pc s = nI n ∧ ∀ p, p < n → vp_in (fr (8 * s + p)) 20 ∧ pf (8 * s + p) = fr (8 * s + p) := sorry
theorem uk_drop_Fu {P zo pc pg pf fr fw me fu : Nat → Int32} {s n : Nat} (hm : uk_Me P zo pc pg pf fr fw me) (h : uk_Fu P pg fr fu) (hs : s < 8) (hp : P s ≠ 0) (hn : pg s = nI n) (hb : n < 2 ^ 31) : uk_Fu P (upd pg s 0) fr (uk_dec fu pf (8 * s) n) := sorry
-- a process has ended: its descriptors are free, its pages gone
theorem uk_end_Ps {P Q G L U st zo bl : Nat → Int32} {s : Nat} (x z : Int32) (h : uk_Ps P Q G L U st zo bl) (hz : z = 0 ∨ z = 1) (hP : P s ≠ 0 → z = 1) : uk_Ps P Q G L (upd U s x) (upd st s 3) (upd zo s z) (upd bl s 0) := sorry
theorem uk_end_Me {P zo pc pg pf fr fw me : Nat → Int32} {s : Nat} (z : Int32) (h : uk_Me P zo pc pg pf fr fw me) (hp : pg s = 0) : uk_Me P (upd zo s z) pc pg pf fr fw me := sorry
theorem uk_end_Hd {P zo H : Nat → Int32} {s : Nat} (z : Int32) (h : uk_Hd P zo H) (hz : P s ≠ 0 → z = 1) : uk_Hd P (upd zo s z) H := sorry
theorem uk_end_Ho {P zo H oh : Nat → Int32} {s : Nat} (z : Int32) (h : uk_Ho P zo H oh) (hH : ∀ d, d < 6 → H (6 * s + d) = -1) : uk_Ho P (upd zo s z) H oh := sorry
theorem uk_end_Wk {P zo bl G L ln os ob wt wk R H ki : Nat → Int32} {t s : Nat} (z : Int32) (hz : P s ≠ 0 → z = 1) (h : uk_Wk P zo bl G L ln os ob wt wk R H ki t) : uk_Wk P (upd zo s z) (upd bl s 0) G L ln os ob wt wk R H ki t := sorry
end
section
/-! descriptors: one goes, one comes -/
theorem uk_hwo {P zo H : Nat → Int32} {o s d s' : Nat} {x : Int32} (hd : d < 6) (e : s' ≠ s) : uk_hw P zo (upd H (6 * s + d) x) o s' = uk_hw P zo H o s' := sorry
theorem uk_hws {P zo H : Nat → Int32} {o s d : Nat} {x : Int32} (hs : s < 8) (hd : d < 6) (h1 : H (6 * s + d) ≠ nI o) (h2 : x ≠ nI o) : uk_sm (uk_hw P zo (upd H (6 * s + d) x) o) 8 = uk_sm (uk_hw P zo H o) 8 := sorry
theorem uk_hwa {P zo H : Nat → Int32} {o s d : Nat} (hs : s < 8) (hp : P s ≠ 0) (hz : zo s = 0) (hd : d < 6) (h1 : H (6 * s + d) ≠ nI o) : uk_sm (uk_hw P zo (upd H (6 * s + d) (nI o)) o) 8 = uk_sm (uk_hw P zo H o) 8 + 1 := sorry
theorem uk_hwd {P zo H : Nat → Int32} {o s d : Nat} {x : Int32} (hs : s < 8) (hp : P s ≠ 0) (hz : zo s = 0) (hd : d < 6) (h1 : H (6 * s + d) = nI o) (h2 : x ≠ nI o) : uk_sm (uk_hw P zo H o) 8 = uk_sm (uk_hw P zo (upd H (6 * s + d) x) o) 8 + 1 := sorry
theorem uk_hwp {P zo H : Nat → Int32} {o s d : Nat} (hs : s < 8) (hp : P s ≠ 0) (hz : zo s = 0) (hd : d < 6) (h1 : H (6 * s + d) = nI o) : 0 < uk_sm (uk_hw P zo H o) 8 := sorry
theorem uk_ohn {P zo H oh : Nat → Int32} (h : uk_Ho P zo H oh) {o : Nat} (ho : o < 12) : oh o = 0 ↔ uk_sm (uk_hw P zo H o) 8 = 0 := sorry
theorem uk_nIe {a b : Nat} (ha : a < 12) (hb : b < 12) (e : a ≠ b) : nI a ≠ nI b := sorry
theorem uk_HdU {P zo H : Nat → Int32} {s d : Nat} {x : Int32} (h : uk_Hd P zo H) (hx : x = -1 ∨ vp_in x 12) : uk_Hd P zo (upd H (6 * s + d) x) := sorry
/-- one descriptor goes: X's counts -/
theorem uk_cl_Ho {P zo H oh : Nat → Int32} {o s d : Nat} (h : uk_Ho P zo H oh) (hs : s < 8) (hp : P s ≠ 0) (hz : zo s = 0) (hd : d < 6) (ho : o < 12) (h1 : H (6 * s + d) = nI o) : uk_Ho P zo (upd H (6 * s + d) (-1)) (upd oh o (oh o - 1)) := sorry
theorem uk_OkC {oh ok ki T om mo op oh' : Nat → Int32} (h : uk_Ok oh ok ki T om mo op) (e : ∀ o, o < 12 → (oh' o = 0 ↔ oh o = 0)) : uk_Ok oh' ok ki T om mo op := sorry
theorem uk_cl_Ok1 {P zo H oh ok ki T om mo op : Nat → Int32} {o s d : Nat} (h : uk_Ok oh ok ki T om mo op) (hh : uk_Ho P zo H oh) (hs : s < 8) (hp : P s ≠ 0) (hz : zo s = 0) (hd : d < 6) (ho : o < 12) (h1 : H (6 * s + d) = nI o) (hn : uk_sm (uk_hw P zo (upd H (6 * s + d) (-1)) o) 8 ≠ 0) : uk_Ok (upd oh o (oh o - 1)) ok ki T om mo op := sorry
theorem uk_cl_Ok0 {P zo H oh ok ki T om mo op : Nat → Int32} {o s d : Nat} (h : uk_Ok oh ok ki T om mo op) (hh : uk_Ho P zo H oh) (hs : s < 8) (hp : P s ≠ 0) (hz : zo s = 0) (hd : d < 6) (ho : o < 12) (h1 : H (6 * s + d) = nI o) (hn : uk_sm (uk_hw P zo (upd H (6 * s + d) (-1)) o) 8 = 0) : uk_Ok (upd oh o (oh o - 1)) ok (upd ki o 0) T om mo op := sorry
theorem uk_freC {N ki T ki' T' : Nat → Int32} {f : Nat} (e : ∀ o, o < 12 → ((ki' o = 1 ∧ T' o = nI f) ↔ (ki o = 1 ∧ T o = nI f))) : uk_fre N ki' T' f ↔ uk_fre N ki T f := sorry
theorem uk_FiC {N ki T fs sz ki' T' : Nat → Int32} (h : uk_Fi N ki T fs sz) (e : ∀ f, f < 8 → (uk_fre N ki' T' f ↔ uk_fre N ki T f)) : uk_Fi N ki' T' fs sz := sorry
/-- the kind of o goes, it was no file -/
theorem uk_cl_Fi1 {N ki T fs sz : Nat → Int32} {o : Nat} (h : uk_Fi N ki T fs sz) (hk : ki o ≠ 1) : uk_Fi N (upd ki o 0) T fs sz := sorry
theorem uk_cl_fre {N ki T : Nat → Int32} {o f g : Nat} (hT : T o = nI g) (hg : g < 8) (hf : f < 8) (e : f ≠ g) : uk_fre N (upd ki o 0) T f ↔ uk_fre N ki T f := sorry
theorem uk_cl_Fi2 {N ki T fs sz : Nat → Int32} {o g : Nat} (h : uk_Fi N ki T fs sz) (hg : g < 8) (hT : T o = nI g) (hn : ¬ uk_fre N (upd ki o 0) T g) (ho : o < 12) (hk : ki o = 1) : uk_Fi N (upd ki o 0) T fs sz := sorry
theorem uk_cl_Fi3 {N ki T fs sz : Nat → Int32} {o g : Nat} (h : uk_Fi N ki T fs sz) (hg : g < 8) (hT : T o = nI g) (hn : uk_fre N (upd ki o 0) T g) : uk_Fi N (upd ki o 0) T fs (upd sz g 0) := sorry
/-- blocked ones don't see that another one's descriptor went -/
theorem uk_cl_Wk {P zo zo1 bl G L ln os ob wt wk R H ki ki' : Nat → Int32} {t o s d : Nat} (h : uk_Wk P zo1 bl G L ln os ob wt wk R H ki t) (hd : d < 6) (hzo : ∀ s', s' < 8 → s' ≠ s → zo1 s' = 0 → zo s' = 0) (hs1 : zo1 s = 0 → bl s = 0 ∧ wt s = 0 ∧ wk s = -1) (hk : ∀ o', o' ≠ o → ki' o' = ki o') (hn : uk_sm (uk_hw P zo (upd H (6 * s + d) (-1)) o) 8 = 0 ∨ ki' o = ki o) : uk_Wk P zo1 bl G L ln os ob wt wk R (upd H (6 * s + d) (-1)) ki' t := sorry
/-- one descriptor more of an o-file -/
theorem uk_du_Ho {P zo H oh : Nat → Int32} {o s d : Nat} (h : uk_Ho P zo H oh) (hs : s < 8) (hp : P s ≠ 0) (hz : zo s = 0) (hd : d < 6) (ho : o < 12) (h1 : H (6 * s + d) = -1) : uk_Ho P zo (upd H (6 * s + d) (nI o)) (upd oh o (oh o + 1)) := sorry
theorem uk_du_Ok {P zo H oh ok ki T om mo op : Nat → Int32} {o s d : Nat} (h : uk_Ok oh ok ki T om mo op) (hh : uk_Ho P zo H oh) (hs : s < 8) (hp : P s ≠ 0) (hz : zo s = 0) (hd : d < 6) (ho : o < 12) (h1 : H (6 * s + d) = -1) (hn : oh o ≠ 0) : uk_Ok (upd oh o (oh o + 1)) ok ki T om mo op := sorry
theorem uk_du_Wk {P zo bl G L ln os ob wt wk R H ki ki' : Nat → Int32} {t s d : Nat} {x : Int32} (h : uk_Wk P zo bl G L ln os ob wt wk R H ki t) (hd : d < 6) (hs1 : bl s = 0 ∧ wt s = 0 ∧ wk s = -1) (hk : ∀ o, o < 12 → (ki o = 2 ∨ ki o = 3) → ki' o = ki o) : uk_Wk P zo bl G L ln os ob wt wk R (upd H (6 * s + d) x) ki' t := sorry
/-- a new o-file -/
theorem uk_nw_Ho {P zo H oh : Nat → Int32} {o s d : Nat} (h : uk_Ho P zo H oh) (hs : s < 8) (hp : P s ≠ 0) (hz : zo s = 0) (hd : d < 6) (ho : o < 12) (h1 : H (6 * s + d) = -1) (h0 : oh o = 0) : uk_Ho P zo (upd H (6 * s + d) (nI o)) (upd oh o 1) := sorry
theorem uk_nw_Ok {oh ok ki T om mo op : Nat → Int32} {o : Nat} {k tg xm ym : Int32} (h : uk_Ok oh ok ki T om mo op) (hv : (k = 1 ∧ xm = ym ∧ ym &&& 3 ≠ 0 ∧ vp_in tg 8) ∨ (k = 2 ∧ xm = 1 ∧ vp_in tg 4) ∨ (k = 3 ∧ xm = 2 ∧ vp_in tg 4)) : uk_Ok (upd oh o 1) (upd ok o k) (upd ki o k) (upd T o tg) (upd om o xm) (upd mo o ym) (upd op o 0) := sorry
theorem uk_nw_Fi1 {N ki T fs sz : Nat → Int32} {o : Nat} {k tg : Int32} (h : uk_Fi N ki T fs sz) (h0 : ki o ≠ 1) (hk : k ≠ 1) : uk_Fi N (upd ki o k) (upd T o tg) fs sz := sorry
theorem uk_nw_Fi2 {N ki T fs sz : Nat → Int32} {o g : Nat} (h : uk_Fi N ki T fs sz) (ho : o < 12) (h0 : ki o ≠ 1) (hg : g < 8) (hfs : fs g = sz g) : uk_Fi N (upd ki o 1) (upd T o (nI g)) fs sz := sorry
end
section
/-! pages and frames -/
theorem uk_fr0 {P pg fr : Nat → Int32} {f s p n : Nat} (h : uk_sm (uk_rw P pg fr f) 8 = 0) (hs : s < 8) (hP : P s ≠ 0) (hn : pg s = nI n) (hb : n < 2 ^ 31) (hp : p < n) : fr (8 * s + p) ≠ nI f := sorry
theorem uk_cn2 {P : Nat → Prop} {i j : Nat} (hi : P i) (hj : P j) (hij : i < j) : ∀ n, j < n → 2 ≤ uk_cn P n := sorry
theorem uk_sm2 {g : Nat → Nat} {i j : Nat} (hi : 0 < g i) (hj : 0 < g j) (hij : i < j) : ∀ n, j < n → 2 ≤ uk_sm g n := sorry
theorem uk_fr1 {P pg fr : Nat → Int32} {f s p n s' p' n' : Nat} (h : uk_sm (uk_rw P pg fr f) 8 = 1) (hs : s < 8) (hP : P s ≠ 0) (hn : pg s = nI n) (hb : n < 2 ^ 31) (hp : p < n) (e : fr (8 * s + p) = nI f) (hs' : s' < 8) (hP' : P s' ≠ 0) (hn' : pg s' = nI n') (hb' : n' < 2 ^ 31) (hp' : p' < n') (e' : fr (8 * s' + p') = nI f) : s' = s ∧ p' = p := sorry
theorem uk_fun {P zo pc pg pf fr fw me fu : Nat → Int32} (hm : uk_Me P zo pc pg pf fr fw me) (h : uk_Fu P pg fr fu) {f : Nat} (hf : f < 20) : (fu f = 0 ↔ uk_sm (uk_rw P pg fr f) 8 = 0) ∧ (fu f = 1 ↔ uk_sm (uk_rw P pg fr f) 8 = 1) := sorry
theorem uk_rwo {P pg fr : Nat → Int32} {f s s' p : Nat} {x : Int32} {m : Int32} (hm : P s' ≠ 0 → (pg s').toNatClampNeg ≤ 8) (hp : p < 8) (e : s' ≠ s) : uk_rw P (upd pg s m) (upd fr (8 * s + p) x) f s' = uk_rw P pg fr f s' := sorry
/-- one page more, of zeros, in a free frame -/
theorem uk_ad_Me {P zo pc pg pf fr fw me : Nat → Int32} {s n f : Nat} (h : uk_Me P zo pc pg pf fr fw me) (hs : s < 8) (hz : zo s = 0) (hn : pg s = nI n) (hn8 : n < 8) (hf : f < 20) (h0 : uk_sm (uk_rw P pg fr f) 8 = 0) : uk_Me P zo (upd pc s (nI (n + 1))) (upd pg s (nI (n + 1))) (upd pf (8 * s + n) (nI f)) (upd fr (8 * s + n) (nI f)) (uk_fl fw (4 * f) (fun _ => 0) 4) (uk_fl me (32 * s + 4 * n) (fun _ => 0) 4) := sorry
theorem uk_pg8 {P zo pc pg pf fr fw me : Nat → Int32} (h : uk_Me P zo pc pg pf fr fw me) {s : Nat} (hs : s < 8) (hP : P s ≠ 0) : (pg s).toNatClampNeg ≤ 8 := sorry
theorem uk_ad_Fu {P zo pc pg pf fr fw me fu : Nat → Int32} {s n f : Nat} (hm : uk_Me P zo pc pg pf fr fw me) (h : uk_Fu P pg fr fu) (hs : s < 8) (hP : P s ≠ 0) (hn : pg s = nI n) (hn8 : n < 8) (hf : f < 20) (h0 : uk_sm (uk_rw P pg fr f) 8 = 0) : uk_Fu P (upd pg s (nI (n + 1))) (upd fr (8 * s + n) (nI f)) (upd fu f 1) := sorry
/-- a shared page gets a frame of its own -/
theorem uk_ow_Me {P zo pc pg pf fr fw me : Nat → Int32} {s n p f f0 : Nat} (h : uk_Me P zo pc pg pf fr fw me) (hs : s < 8) (hn : pg s = nI n) (hb : n < 2 ^ 31) (hp : p < n) (hf0 : fr (8 * s + p) = nI f0) (hf0' : f0 < 20) (hf : f < 20) (h0 : uk_sm (uk_rw P pg fr f) 8 = 0) : uk_Me P zo pc pg (upd pf (8 * s + p) (nI f)) (upd fr (8 * s + p) (nI f)) (uk_fl fw (4 * f) (fun k => fw (4 * f0 + k)) 4) me := sorry
theorem uk_ow_Fu {P zo pc pg pf fr fw me fu : Nat → Int32} {s n p f f0 : Nat} (hm : uk_Me P zo pc pg pf fr fw me) (h : uk_Fu P pg fr fu) (hs : s < 8) (hP : P s ≠ 0) (hn : pg s = nI n) (hn8 : n ≤ 8) (hp : p < n) (hf0 : fr (8 * s + p) = nI f0) (hf0' : f0 < 20) (hf : f < 20) (h0 : uk_sm (uk_rw P pg fr f) 8 = 0) : uk_Fu P pg (upd fr (8 * s + p) (nI f)) (upd (upd fu f0 (fu f0 - 1)) f 1) := sorry
/-- a word of a page that nobody shares -/
theorem uk_wr_Me {P zo pc pg pf fr fw me : Nat → Int32} {s n p f k : Nat} (v : Int32) (h : uk_Me P zo pc pg pf fr fw me) (hs : s < 8) (hP : P s ≠ 0) (hn : pg s = nI n) (hb : n ≤ 8) (hp : p < n) (hf : fr (8 * s + p) = nI f) (hf' : f < 20) (h1 : uk_sm (uk_rw P pg fr f) 8 = 1) (hk : k < 4) : uk_Me P zo pc pg pf fr (upd fw (4 * f + k) v) (upd me (32 * s + 4 * p + k) v) := sorry
/-! a forked process -/
theorem uk_fk_Ps {P Q G L U st zo bl : Nat → Int32} {s c : Nat} {x : Int32} (h : uk_Ps P Q G L U st zo bl) (hs : s < 8) (hx : ¬ x < 0) : uk_Ps (upd P c x) (upd Q c (P s)) (upd G c (G s)) (upd L c (L s)) (upd U c 0) (upd st c 1) (upd zo c 0) (upd bl c 0) := sorry
theorem uk_fk_Me {P zo pc pg pf fr fw me : Nat → Int32} {s c n : Nat} {x : Int32} (h : uk_Me P zo pc pg pf fr fw me) (hs : s < 8) (hP : P s ≠ 0) (hc : P c = 0) (hn : pg s = nI n) (hn8 : n ≤ 8) : uk_Me (upd P c x) (upd zo c 0) (upd pc c (nI n)) (upd pg c (nI n)) (uk_fl pf (8 * c) (fun p => pf (8 * s + p)) n) (uk_fl fr (8 * c) (fun p => fr (8 * s + p)) 8) fw (uk_fl me (32 * c) (fun k => me (32 * s + k)) 32) := sorry
theorem uk_fk_Fu {P zo pc pg pf fr fw me fu : Nat → Int32} {s c n : Nat} {x : Int32} (hm : uk_Me P zo pc pg pf fr fw me) (h : uk_Fu P pg fr fu) (hs : s < 8) (hc8 : c < 8) (hP : P s ≠ 0) (hc : P c = 0) (hx : x ≠ 0) (hn : pg s = nI n) (hn8 : n ≤ 8) : uk_Fu (upd P c x) (upd pg c (nI n)) (uk_fl fr (8 * c) (fun p => fr (8 * s + p)) 8) (uk_icc fu pf (8 * s) n) := sorry
def uk_hic (oh H : Nat → Int32) (b : Nat) : Nat → Nat → Int32
  | 0 => oh
  | d + 1 => if H (b + d) = -1 then uk_hic oh H b d else upd (uk_hic oh H b d) (H (b + d)).toNatClampNeg (uk_hic oh H b d (H (b + d)).toNatClampNeg + 1)
theorem uk_hic_val {oh H : Nat → Int32} {b : Nat} {T : Nat → Nat} (hT : ∀ o, o < 12 → oh o = nI (T o)) : ∀ d, (∀ j, j < d → H (b + j) = -1 ∨ vp_in (H (b + j)) 12) → ∀ o, o < 12 → uk_hic oh H b d o = nI (T o + uk_cn (fun j => H (b + j) = nI o) d) := sorry
theorem uk_fk_Hd {P zo H : Nat → Int32} {s c : Nat} {x : Int32} (h : uk_Hd P zo H) (hs : s < 8) (hP : P s ≠ 0) (hz : zo s = 0) : uk_Hd (upd P c x) (upd zo c 0) (uk_fl H (6 * c) (fun d => H (6 * s + d)) 6) := sorry
theorem uk_fk_Ho {P zo H oh : Nat → Int32} {s c : Nat} {x : Int32} (hh : uk_Hd P zo H) (h : uk_Ho P zo H oh) (hs : s < 8) (hc8 : c < 8) (hP : P s ≠ 0) (hz : zo s = 0) (hc : P c = 0) (hx : x ≠ 0) : uk_Ho (upd P c x) (upd zo c 0) (uk_fl H (6 * c) (fun d => H (6 * s + d)) 6) (uk_hic oh H (6 * s) 6) := sorry
theorem uk_fk_Ok {P zo H oh ok ki T om mo op : Nat → Int32} {s : Nat} (hh : uk_Hd P zo H) (h : uk_Ho P zo H oh) (hO : uk_Ok oh ok ki T om mo op) (hs : s < 8) (hP : P s ≠ 0) (hz : zo s = 0) : uk_Ok (uk_hic oh H (6 * s) 6) ok ki T om mo op := sorry
theorem uk_fk_Wk {P zo bl G L ln os ob wt wk R H ki R' : Nat → Int32} {t s c : Nat} {x : Int32} (h : uk_Wk P zo bl G L ln os ob wt wk R H ki t) (hR : ∀ s', s' < 8 → s' ≠ c → R' (4 * s') = R (4 * s')) : uk_Wk (upd P c x) (upd zo c 0) (upd bl c 0) (upd G c (G s)) (upd L c (L s)) ln os ob (upd wt c 0) (upd wk c (-1)) R' (uk_fl H (6 * c) (fun d => H (6 * s + d)) 6) ki t := sorry
end
section
/-! pipes -/
theorem uk_pi_rd {C pf pw pi : Nat → Int32} {q c f : Nat} (h : uk_Pi C pf pw pi) (hq : q < 4) (hC : C q = nI (c + 1)) (hf : pf q = nI f) (hc4 : c < 4) (hf4 : f < 4) : pw (4 * q + f) = pi (4 * q) ∧ uk_Pi (upd C q (nI c)) (upd pf q (nI ((f + 1) % 4))) pw (uk_fl pi (4 * q) (fun k => pi (4 * q + k + 1)) c) := sorry
theorem uk_pi_wr {C pf pw pi : Nat → Int32} {q c f : Nat} (v : Int32) (h : uk_Pi C pf pw pi) (hq : q < 4) (hC : C q = nI c) (hf : pf q = nI f) (hc4 : c < 4) (hf4 : f < 4) : uk_Pi (upd C q (nI (c + 1))) pf (upd pw (4 * q + (f + c) % 4) v) (upd pi (4 * q + c) v) := sorry
theorem uk_pi_nw {C pf pw pi : Nat → Int32} (q : Nat) (h : uk_Pi C pf pw pi) : uk_Pi (upd C q 0) (upd pf q 0) pw pi := sorry
/-! files -/
theorem uk_Ok_op {oh ok ki T om mo op : Nat → Int32} {x : Int32} (o : Nat) (h : uk_Ok oh ok ki T om mo op) (hx : vp_in x 17) : uk_Ok oh ok ki T om mo (upd op o x) := sorry
theorem uk_Fi_sz {N ki T fs sz : Nat → Int32} {g : Nat} {x : Int32} (h : uk_Fi N ki T fs sz) (hx : vp_in x 17) (hn : ¬ uk_fre N ki T g) : uk_Fi N ki T (upd fs g x) (upd sz g x) := sorry
theorem uk_NU {N : Nat → Int32} {y : Nat} {x : Int32} (h : ∀ k, k < 8 → N k = -1 ∨ vp_in (N k) 8) (hx : x = -1 ∨ vp_in x 8) : ∀ k, k < 8 → upd N y x k = -1 ∨ vp_in (upd N y x k) 8 := sorry
theorem uk_freN {N N' ki T : Nat → Int32} {f : Nat} (e : (∃ k, k < 8 ∧ N' k = nI f) ↔ (∃ k, k < 8 ∧ N k = nI f)) : uk_fre N' ki T f ↔ uk_fre N ki T f := sorry
theorem uk_Fi_ln {N ki T fs sz : Nat → Int32} {x y : Nat} (h : uk_Fi N ki T fs sz) (hx : x < 8) (hy : y < 8) (hy1 : N y = -1) : uk_Fi (upd N y (N x)) ki T fs sz := sorry
theorem uk_ul_fre {N ki T : Nat → Int32} {x g f : Nat} (hg : g < 8) (hN : N x = nI g) (hf : f < 8) (e : f ≠ g) : uk_fre (upd N x (-1)) ki T f ↔ uk_fre N ki T f := sorry
theorem uk_Fi_ul0 {N ki T fs sz : Nat → Int32} {x g : Nat} (h : uk_Fi N ki T fs sz) (hx : x < 8) (hg : g < 8) (hN : N x = nI g) (hn : uk_fre (upd N x (-1)) ki T g) : uk_Fi (upd N x (-1)) ki T fs (upd sz g 0) := sorry
theorem uk_Fi_ul1 {N ki T fs sz : Nat → Int32} {x g : Nat} (h : uk_Fi N ki T fs sz) (hx : x < 8) (hg : g < 8) (hN : N x = nI g) (hn : ¬ uk_fre (upd N x (-1)) ki T g) : uk_Fi (upd N x (-1)) ki T fs sz := sorry
theorem uk_Fi_mk {N ki T fs sz : Nat → Int32} {y g : Nat} (h : uk_Fi N ki T fs sz) (hy : y < 8) (hg : g < 8) (hy1 : N y = -1) : uk_Fi (upd N y (nI g)) ki T (upd fs g 0) (upd sz g 0) := sorry
theorem uk_fl1 {a g : Nat → Int32} {N j : Nat} (h : j < N) : uk_fl a 0 g N j = g j := sorry
theorem uk_fls0 {a g : Nat → Int32} {i : Nat} : upd (uk_fl a 0 g i) i (g i) = uk_fl a 0 g (i + 1) := sorry
theorem uk_fl_same {a g : Nat → Int32} {N : Nat} (h : ∀ j, j < N → g j = a j) : uk_fl a 0 g N = a := sorry
theorem uk_Sa_cm {N ki T fs sz sn ss sy : Nat → Int32} (h : uk_Fi N ki T fs sz) : uk_Sa (uk_fl sn 0 N 8) (uk_fl ss 0 fs 8) (uk_fl sy 0 sz 8) := sorry
/-! said -/
def uk_sh (sd : Nat → Int32) (x : Int32) : Nat → Int32 := fun j => if j = 0 then x else if j < 16 then sd (j - 1) else sd j
theorem uk_Sd_say {n : Nat} {si sd : Nat → Int32} (x : Int32) (h : uk_Sd n si sd) : uk_Sd (n + 1) (upd si (n % 16) x) (uk_sh sd x) := sorry
end
section
/-! what the two sides ask of the same tables -/
theorem uk_hold48 (P zo H : Nat → Int32) (o : Nat) : uk_cn (fun k => (P (k / 6) ≠ 0 ∧ zo (k / 6) = 0) ∧ H k = nI o) 48 = uk_sm (uk_hw P zo H o) 8 := sorry
theorem uk_used (P pg fr : Nat → Int32) (f : Nat) : uk_sm (uk_rw P pg fr f) 8 ≠ 0 ↔ ∃ s, s < 8 ∧ P s ≠ 0 ∧ ∃ p, p < (pg s).toNatClampNeg ∧ fr (8 * s + p) = nI f := sorry
theorem uk_ohp {P zo H oh : Nat → Int32} (h : uk_Ho P zo H oh) {o : Nat} (ho : o < 12) : (¬ oh o < 0) ∧ (oh o ≤ 0 ↔ oh o = 0) ∧ (0 < oh o ↔ oh o ≠ 0) := sorry
theorem uk_okk {P zo H oh ok ki T om mo op : Nat → Int32} (hO : uk_Ok oh ok ki T om mo op) (hh : uk_Ho P zo H oh) {o : Nat} (ho : o < 12) {k : Int32} (hk : k ≠ 0) : (¬ oh o ≤ 0 ∧ ok o = k) ↔ ki o = k := sorry
theorem uk_ki0 {P zo H oh ok ki T om mo op : Nat → Int32} (hO : uk_Ok oh ok ki T om mo op) {o : Nat} (ho : o < 12) : ki o = 0 ↔ oh o = 0 := sorry
/-- the least by pid of those that Z names -/
noncomputable def uk_be (P : Nat → Int32) (Z : Nat → Prop) : Nat → Int32
  | 0 => -1
  | n + 1 => @ite Int32 (Z n ∧ (uk_be P Z n = -1 ∨ P n < P (uk_be P Z n).toNatClampNeg)) (Classical.propDecidable _) (nI n) (uk_be P Z n)
theorem uk_bet {P : Nat → Int32} {Z : Nat → Prop} {n : Nat} (h : Z n ∧ (uk_be P Z n = -1 ∨ P n < P (uk_be P Z n).toNatClampNeg)) : uk_be P Z (n + 1) = nI n := sorry
theorem uk_bef {P : Nat → Int32} {Z : Nat → Prop} {n : Nat} (h : ¬ (Z n ∧ (uk_be P Z n = -1 ∨ P n < P (uk_be P Z n).toNatClampNeg))) : uk_be P Z (n + 1) = uk_be P Z n := sorry
theorem uk_bes (P : Nat → Int32) (Z : Nat → Prop) : ∀ n, (uk_be P Z n = -1 ∧ ∀ i, i < n → ¬ Z i) ∨ (∃ i, i < n ∧ uk_be P Z n = nI i ∧ Z i) := sorry
theorem uk_bec {P : Nat → Int32} {Z Y : Nat → Prop} : ∀ n, (∀ i, i < n → (Z i ↔ Y i)) → uk_be P Z n = uk_be P Y n := sorry
/-- the call c of slot s would wait (SLEEP apart) -/
def uk_Bk (P Q zo R H ki T C : Nat → Int32) (s : Nat) (c : Int32) : Prop :=
  (c = 2 ∧ (∃ k, k < 8 ∧ P k ≠ 0 ∧ Q k = P s) ∧ ∀ k, k < 8 → ¬ (P k ≠ 0 ∧ zo k = 1 ∧ Q k = P s)) ∨
  (c = 7 ∧ ∃ d o, d < 6 ∧ o < 12 ∧ R (4 * s) = nI d ∧ H (6 * s + d) = nI o ∧ ki o = 2 ∧ C (T o).toNatClampNeg = 0 ∧ ∃ e, e < 12 ∧ ki e = 3 ∧ T e = T o) ∨
  (c = 8 ∧ ∃ d o, d < 6 ∧ o < 12 ∧ R (4 * s) = nI d ∧ H (6 * s + d) = nI o ∧ ki o = 3 ∧ C (T o).toNatClampNeg = 4 ∧ ∃ e, e < 12 ∧ ki e = 2 ∧ T e = T o)
/-- slot s is ready at time t -/
def uk_Rd (P Q zo bl G L ob wk R H ki T C : Nat → Int32) (t : Int32) (s : Nat) : Prop := P s ≠ 0 ∧ zo s = 0 ∧ (bl s = 0 ∨ (ob (24 * (G s).toNatClampNeg + (L s).toNatClampNeg) ≠ 14 ∧ ¬ uk_Bk P Q zo R H ki T C s (ob (24 * (G s).toNatClampNeg + (L s).toNatClampNeg))) ∨ (ob (24 * (G s).toNatClampNeg + (L s).toNatClampNeg) = 14 ∧ wk s ≤ t))
end
section
/-- the whole relation but Y's time (and its flag): X's time is t -/
def uk_All (t b : Nat) (x_changes x_saidCount x_time x_lastSlot x_sliceSteps x_latestPid x_greatestPid : Int32) (x_code x_codeLengths x_pids x_parents x_programs x_places x_states x_statuses x_stepCounts x_copyCounts x_wakeTimes x_registers x_pageCounts x_pageFrames x_held x_frameUsers x_frameWords x_openHolders x_openKinds x_openTargets x_openPlaces x_openModes x_pipeFirsts x_pipeCounts x_pipeWords x_nameFiles x_fileSizes x_fileWords x_safeNames x_safeSizes x_safeWords x_saidInts : Nat → Int32) (y_time y_last y_lastPid y_did y_killed : Int32) (y_ops y_as y_bs y_pages y_wake y_zombie y_blocked y_memory y_frame y_kind y_mode y_pipe y_size y_safeSize y_said : Nat → Int32) : Prop :=
  (∃ g, x_greatestPid = nI g ∧ g ≤ b + 1) ∧
  (∃ n, x_saidCount = nI n ∧ n ≤ b ∧ uk_Sd n x_saidInts y_said) ∧
  (∃ c, x_changes = nI c ∧ c < 30) ∧
  x_time = nI t ∧
  uk_Pr x_code x_codeLengths y_ops y_as y_bs ∧
  uk_Ps x_pids x_parents x_programs x_places x_statuses x_states y_zombie y_blocked ∧
  uk_Me x_pids y_zombie x_pageCounts y_pages x_pageFrames y_frame x_frameWords y_memory ∧
  uk_Fu x_pids y_pages y_frame x_frameUsers ∧
  uk_Hd x_pids y_zombie x_held ∧
  uk_Ho x_pids y_zombie x_held x_openHolders ∧
  uk_Ok x_openHolders x_openKinds y_kind x_openTargets x_openModes y_mode x_openPlaces ∧
  uk_Pi x_pipeCounts x_pipeFirsts x_pipeWords y_pipe ∧
  uk_Fi x_nameFiles y_kind x_openTargets x_fileSizes y_size ∧
  uk_Sa x_safeNames x_safeSizes y_safeSize ∧
  uk_Sc x_pids x_lastSlot x_sliceSteps y_last y_lastPid y_did ∧
  uk_Wk x_pids y_zombie y_blocked x_programs x_places x_codeLengths y_ops y_bs x_wakeTimes y_wake x_registers x_held y_kind t
def uk_R (t b : Nat) (u : SX) (v : SY) : Prop := ∃ (x_changes x_saidCount x_time x_lastSlot x_sliceSteps x_latestPid x_greatestPid : Int32) (x_code x_codeLengths x_pids x_parents x_programs x_places x_states x_statuses x_stepCounts x_copyCounts x_wakeTimes x_registers x_pageCounts x_pageFrames x_held x_frameUsers x_frameWords x_openHolders x_openKinds x_openTargets x_openPlaces x_openModes x_pipeFirsts x_pipeCounts x_pipeWords x_nameFiles x_fileSizes x_fileWords x_safeNames x_safeSizes x_safeWords x_saidInts : Nat → Int32) (y_time y_last y_lastPid y_did y_killed : Int32) (y_ops y_as y_bs y_pages y_wake y_zombie y_blocked y_memory y_frame y_kind y_mode y_pipe y_size y_safeSize y_said : Nat → Int32), u = (x_changes, x_saidCount, x_time, x_lastSlot, x_sliceSteps, x_latestPid, x_greatestPid, x_code, x_codeLengths, x_pids, x_parents, x_programs, x_places, x_states, x_statuses, x_stepCounts, x_copyCounts, x_wakeTimes, x_registers, x_pageCounts, x_pageFrames, x_held, x_frameUsers, x_frameWords, x_openHolders, x_openKinds, x_openTargets, x_openPlaces, x_openModes, x_pipeFirsts, x_pipeCounts, x_pipeWords, x_nameFiles, x_fileSizes, x_fileWords, x_safeNames, x_safeSizes, x_safeWords, x_saidInts) ∧ v = (x_changes, y_time, y_last, y_lastPid, y_did, x_greatestPid, x_latestPid, x_saidCount, y_killed, y_ops, y_as, y_bs, x_codeLengths, x_pids, x_parents, x_programs, x_places, x_statuses, x_stepCounts, x_copyCounts, y_pages, y_wake, y_zombie, y_blocked, x_registers, y_memory, y_frame, x_held, y_kind, x_openTargets, y_mode, x_openPlaces, x_pipeCounts, y_pipe, x_nameFiles, y_size, x_fileWords, x_safeNames, y_safeSize, x_safeWords, y_said) ∧ uk_All t b x_changes x_saidCount x_time x_lastSlot x_sliceSteps x_latestPid x_greatestPid x_code x_codeLengths x_pids x_parents x_programs x_places x_states x_statuses x_stepCounts x_copyCounts x_wakeTimes x_registers x_pageCounts x_pageFrames x_held x_frameUsers x_frameWords x_openHolders x_openKinds x_openTargets x_openPlaces x_openModes x_pipeFirsts x_pipeCounts x_pipeWords x_nameFiles x_fileSizes x_fileWords x_safeNames x_safeSizes x_safeWords x_saidInts y_time y_last y_lastPid y_did y_killed y_ops y_as y_bs y_pages y_wake y_zombie y_blocked y_memory y_frame y_kind y_mode y_pipe y_size y_safeSize y_said
theorem uk_Rmk {t b : Nat} {x_changes x_saidCount x_time x_lastSlot x_sliceSteps x_latestPid x_greatestPid : Int32} {x_code x_codeLengths x_pids x_parents x_programs x_places x_states x_statuses x_stepCounts x_copyCounts x_wakeTimes x_registers x_pageCounts x_pageFrames x_held x_frameUsers x_frameWords x_openHolders x_openKinds x_openTargets x_openPlaces x_openModes x_pipeFirsts x_pipeCounts x_pipeWords x_nameFiles x_fileSizes x_fileWords x_safeNames x_safeSizes x_safeWords x_saidInts : Nat → Int32} {y_time y_last y_lastPid y_did y_killed : Int32} {y_ops y_as y_bs y_pages y_wake y_zombie y_blocked y_memory y_frame y_kind y_mode y_pipe y_size y_safeSize y_said : Nat → Int32} (h : uk_All t b x_changes x_saidCount x_time x_lastSlot x_sliceSteps x_latestPid x_greatestPid x_code x_codeLengths x_pids x_parents x_programs x_places x_states x_statuses x_stepCounts x_copyCounts x_wakeTimes x_registers x_pageCounts x_pageFrames x_held x_frameUsers x_frameWords x_openHolders x_openKinds x_openTargets x_openPlaces x_openModes x_pipeFirsts x_pipeCounts x_pipeWords x_nameFiles x_fileSizes x_fileWords x_safeNames x_safeSizes x_safeWords x_saidInts y_time y_last y_lastPid y_did y_killed y_ops y_as y_bs y_pages y_wake y_zombie y_blocked y_memory y_frame y_kind y_mode y_pipe y_size y_safeSize y_said) : uk_R t b (x_changes, x_saidCount, x_time, x_lastSlot, x_sliceSteps, x_latestPid, x_greatestPid, x_code, x_codeLengths, x_pids, x_parents, x_programs, x_places, x_states, x_statuses, x_stepCounts, x_copyCounts, x_wakeTimes, x_registers, x_pageCounts, x_pageFrames, x_held, x_frameUsers, x_frameWords, x_openHolders, x_openKinds, x_openTargets, x_openPlaces, x_openModes, x_pipeFirsts, x_pipeCounts, x_pipeWords, x_nameFiles, x_fileSizes, x_fileWords, x_safeNames, x_safeSizes, x_safeWords, x_saidInts) (x_changes, y_time, y_last, y_lastPid, y_did, x_greatestPid, x_latestPid, x_saidCount, y_killed, y_ops, y_as, y_bs, x_codeLengths, x_pids, x_parents, x_programs, x_places, x_statuses, x_stepCounts, x_copyCounts, y_pages, y_wake, y_zombie, y_blocked, x_registers, y_memory, y_frame, x_held, y_kind, x_openTargets, y_mode, x_openPlaces, x_pipeCounts, y_pipe, x_nameFiles, y_size, x_fileWords, x_safeNames, y_safeSize, x_safeWords, y_said) := sorry
def i_Rel (_ : Nat) (u : SX) (v : SY) : Prop := ∃ (t b : Nat) (x_changes x_saidCount x_time x_lastSlot x_sliceSteps x_latestPid x_greatestPid : Int32) (x_code x_codeLengths x_pids x_parents x_programs x_places x_states x_statuses x_stepCounts x_copyCounts x_wakeTimes x_registers x_pageCounts x_pageFrames x_held x_frameUsers x_frameWords x_openHolders x_openKinds x_openTargets x_openPlaces x_openModes x_pipeFirsts x_pipeCounts x_pipeWords x_nameFiles x_fileSizes x_fileWords x_safeNames x_safeSizes x_safeWords x_saidInts : Nat → Int32) (y_time y_last y_lastPid y_did y_killed : Int32) (y_ops y_as y_bs y_pages y_wake y_zombie y_blocked y_memory y_frame y_kind y_mode y_pipe y_size y_safeSize y_said : Nat → Int32), t ≤ 1001000000 ∧ b ≤ t ∧ u = (x_changes, x_saidCount, x_time, x_lastSlot, x_sliceSteps, x_latestPid, x_greatestPid, x_code, x_codeLengths, x_pids, x_parents, x_programs, x_places, x_states, x_statuses, x_stepCounts, x_copyCounts, x_wakeTimes, x_registers, x_pageCounts, x_pageFrames, x_held, x_frameUsers, x_frameWords, x_openHolders, x_openKinds, x_openTargets, x_openPlaces, x_openModes, x_pipeFirsts, x_pipeCounts, x_pipeWords, x_nameFiles, x_fileSizes, x_fileWords, x_safeNames, x_safeSizes, x_safeWords, x_saidInts) ∧ v = (x_changes, x_time, y_last, y_lastPid, y_did, x_greatestPid, x_latestPid, x_saidCount, y_killed, y_ops, y_as, y_bs, x_codeLengths, x_pids, x_parents, x_programs, x_places, x_statuses, x_stepCounts, x_copyCounts, y_pages, y_wake, y_zombie, y_blocked, x_registers, y_memory, y_frame, x_held, y_kind, x_openTargets, y_mode, x_openPlaces, x_pipeCounts, y_pipe, x_nameFiles, y_size, x_fileWords, x_safeNames, y_safeSize, x_safeWords, y_said) ∧ uk_All t b x_changes x_saidCount x_time x_lastSlot x_sliceSteps x_latestPid x_greatestPid x_code x_codeLengths x_pids x_parents x_programs x_places x_states x_statuses x_stepCounts x_copyCounts x_wakeTimes x_registers x_pageCounts x_pageFrames x_held x_frameUsers x_frameWords x_openHolders x_openKinds x_openTargets x_openPlaces x_openModes x_pipeFirsts x_pipeCounts x_pipeWords x_nameFiles x_fileSizes x_fileWords x_safeNames x_safeSizes x_safeWords x_saidInts y_time y_last y_lastPid y_did y_killed y_ops y_as y_bs y_pages y_wake y_zombie y_blocked y_memory y_frame y_kind y_mode y_pipe y_size y_safeSize y_said
theorem i_up {k : Nat} {u : SX} {v : SY} (h : i_Rel k u v) : i_Rel (k + 5) u v := sorry
theorem i_elim {k : Nat} {u : SX} {v : SY} {C : SX → SY → Prop} (I : i_Rel k u v) (h : ∀ (t b : Nat) (x_changes x_saidCount x_time x_lastSlot x_sliceSteps x_latestPid x_greatestPid : Int32) (x_code x_codeLengths x_pids x_parents x_programs x_places x_states x_statuses x_stepCounts x_copyCounts x_wakeTimes x_registers x_pageCounts x_pageFrames x_held x_frameUsers x_frameWords x_openHolders x_openKinds x_openTargets x_openPlaces x_openModes x_pipeFirsts x_pipeCounts x_pipeWords x_nameFiles x_fileSizes x_fileWords x_safeNames x_safeSizes x_safeWords x_saidInts : Nat → Int32) (y_time y_last y_lastPid y_did y_killed : Int32) (y_ops y_as y_bs y_pages y_wake y_zombie y_blocked y_memory y_frame y_kind y_mode y_pipe y_size y_safeSize y_said : Nat → Int32), t ≤ 1001000000 → b ≤ t → uk_All t b x_changes x_saidCount x_time x_lastSlot x_sliceSteps x_latestPid x_greatestPid x_code x_codeLengths x_pids x_parents x_programs x_places x_states x_statuses x_stepCounts x_copyCounts x_wakeTimes x_registers x_pageCounts x_pageFrames x_held x_frameUsers x_frameWords x_openHolders x_openKinds x_openTargets x_openPlaces x_openModes x_pipeFirsts x_pipeCounts x_pipeWords x_nameFiles x_fileSizes x_fileWords x_safeNames x_safeSizes x_safeWords x_saidInts y_time y_last y_lastPid y_did y_killed y_ops y_as y_bs y_pages y_wake y_zombie y_blocked y_memory y_frame y_kind y_mode y_pipe y_size y_safeSize y_said → C (x_changes, x_saidCount, x_time, x_lastSlot, x_sliceSteps, x_latestPid, x_greatestPid, x_code, x_codeLengths, x_pids, x_parents, x_programs, x_places, x_states, x_statuses, x_stepCounts, x_copyCounts, x_wakeTimes, x_registers, x_pageCounts, x_pageFrames, x_held, x_frameUsers, x_frameWords, x_openHolders, x_openKinds, x_openTargets, x_openPlaces, x_openModes, x_pipeFirsts, x_pipeCounts, x_pipeWords, x_nameFiles, x_fileSizes, x_fileWords, x_safeNames, x_safeSizes, x_safeWords, x_saidInts) (x_changes, x_time, y_last, y_lastPid, y_did, x_greatestPid, x_latestPid, x_saidCount, y_killed, y_ops, y_as, y_bs, x_codeLengths, x_pids, x_parents, x_programs, x_places, x_statuses, x_stepCounts, x_copyCounts, y_pages, y_wake, y_zombie, y_blocked, x_registers, y_memory, y_frame, x_held, y_kind, x_openTargets, y_mode, x_openPlaces, x_pipeCounts, y_pipe, x_nameFiles, y_size, x_fileWords, x_safeNames, y_safeSize, x_safeWords, y_said)) : C u v := sorry
theorem i_mk {k t b : Nat} {x_changes x_saidCount x_time x_lastSlot x_sliceSteps x_latestPid x_greatestPid : Int32} {x_code x_codeLengths x_pids x_parents x_programs x_places x_states x_statuses x_stepCounts x_copyCounts x_wakeTimes x_registers x_pageCounts x_pageFrames x_held x_frameUsers x_frameWords x_openHolders x_openKinds x_openTargets x_openPlaces x_openModes x_pipeFirsts x_pipeCounts x_pipeWords x_nameFiles x_fileSizes x_fileWords x_safeNames x_safeSizes x_safeWords x_saidInts : Nat → Int32} {y_time y_last y_lastPid y_did y_killed : Int32} {y_ops y_as y_bs y_pages y_wake y_zombie y_blocked y_memory y_frame y_kind y_mode y_pipe y_size y_safeSize y_said : Nat → Int32} (ht : t ≤ 1001000000) (hbt : b ≤ t) (h : uk_All t b x_changes x_saidCount x_time x_lastSlot x_sliceSteps x_latestPid x_greatestPid x_code x_codeLengths x_pids x_parents x_programs x_places x_states x_statuses x_stepCounts x_copyCounts x_wakeTimes x_registers x_pageCounts x_pageFrames x_held x_frameUsers x_frameWords x_openHolders x_openKinds x_openTargets x_openPlaces x_openModes x_pipeFirsts x_pipeCounts x_pipeWords x_nameFiles x_fileSizes x_fileWords x_safeNames x_safeSizes x_safeWords x_saidInts y_time y_last y_lastPid y_did y_killed y_ops y_as y_bs y_pages y_wake y_zombie y_blocked y_memory y_frame y_kind y_mode y_pipe y_size y_safeSize y_said) : i_Rel k (x_changes, x_saidCount, x_time, x_lastSlot, x_sliceSteps, x_latestPid, x_greatestPid, x_code, x_codeLengths, x_pids, x_parents, x_programs, x_places, x_states, x_statuses, x_stepCounts, x_copyCounts, x_wakeTimes, x_registers, x_pageCounts, x_pageFrames, x_held, x_frameUsers, x_frameWords, x_openHolders, x_openKinds, x_openTargets, x_openPlaces, x_openModes, x_pipeFirsts, x_pipeCounts, x_pipeWords, x_nameFiles, x_fileSizes, x_fileWords, x_safeNames, x_safeSizes, x_safeWords, x_saidInts) (x_changes, x_time, y_last, y_lastPid, y_did, x_greatestPid, x_latestPid, x_saidCount, y_killed, y_ops, y_as, y_bs, x_codeLengths, x_pids, x_parents, x_programs, x_places, x_statuses, x_stepCounts, x_copyCounts, y_pages, y_wake, y_zombie, y_blocked, x_registers, y_memory, y_frame, x_held, y_kind, x_openTargets, y_mode, x_openPlaces, x_pipeCounts, y_pipe, x_nameFiles, y_size, x_fileWords, x_safeNames, y_safeSize, x_safeWords, y_said) := sorry
section
variable {t b : Nat} {x_changes x_saidCount x_time x_lastSlot x_sliceSteps x_latestPid x_greatestPid : Int32} {x_code x_codeLengths x_pids x_parents x_programs x_places x_states x_statuses x_stepCounts x_copyCounts x_wakeTimes x_registers x_pageCounts x_pageFrames x_held x_frameUsers x_frameWords x_openHolders x_openKinds x_openTargets x_openPlaces x_openModes x_pipeFirsts x_pipeCounts x_pipeWords x_nameFiles x_fileSizes x_fileWords x_safeNames x_safeSizes x_safeWords x_saidInts : Nat → Int32} {y_time y_last y_lastPid y_did y_killed : Int32} {y_ops y_as y_bs y_pages y_wake y_zombie y_blocked y_memory y_frame y_kind y_mode y_pipe y_size y_safeSize y_said : Nat → Int32}
theorem uk_aG (h : uk_All t b x_changes x_saidCount x_time x_lastSlot x_sliceSteps x_latestPid x_greatestPid x_code x_codeLengths x_pids x_parents x_programs x_places x_states x_statuses x_stepCounts x_copyCounts x_wakeTimes x_registers x_pageCounts x_pageFrames x_held x_frameUsers x_frameWords x_openHolders x_openKinds x_openTargets x_openPlaces x_openModes x_pipeFirsts x_pipeCounts x_pipeWords x_nameFiles x_fileSizes x_fileWords x_safeNames x_safeSizes x_safeWords x_saidInts y_time y_last y_lastPid y_did y_killed y_ops y_as y_bs y_pages y_wake y_zombie y_blocked y_memory y_frame y_kind y_mode y_pipe y_size y_safeSize y_said) : ∃ g, x_greatestPid = nI g ∧ g ≤ b + 1 := sorry
theorem uk_aN (h : uk_All t b x_changes x_saidCount x_time x_lastSlot x_sliceSteps x_latestPid x_greatestPid x_code x_codeLengths x_pids x_parents x_programs x_places x_states x_statuses x_stepCounts x_copyCounts x_wakeTimes x_registers x_pageCounts x_pageFrames x_held x_frameUsers x_frameWords x_openHolders x_openKinds x_openTargets x_openPlaces x_openModes x_pipeFirsts x_pipeCounts x_pipeWords x_nameFiles x_fileSizes x_fileWords x_safeNames x_safeSizes x_safeWords x_saidInts y_time y_last y_lastPid y_did y_killed y_ops y_as y_bs y_pages y_wake y_zombie y_blocked y_memory y_frame y_kind y_mode y_pipe y_size y_safeSize y_said) : ∃ n, x_saidCount = nI n ∧ n ≤ b ∧ uk_Sd n x_saidInts y_said := sorry
theorem uk_aC (h : uk_All t b x_changes x_saidCount x_time x_lastSlot x_sliceSteps x_latestPid x_greatestPid x_code x_codeLengths x_pids x_parents x_programs x_places x_states x_statuses x_stepCounts x_copyCounts x_wakeTimes x_registers x_pageCounts x_pageFrames x_held x_frameUsers x_frameWords x_openHolders x_openKinds x_openTargets x_openPlaces x_openModes x_pipeFirsts x_pipeCounts x_pipeWords x_nameFiles x_fileSizes x_fileWords x_safeNames x_safeSizes x_safeWords x_saidInts y_time y_last y_lastPid y_did y_killed y_ops y_as y_bs y_pages y_wake y_zombie y_blocked y_memory y_frame y_kind y_mode y_pipe y_size y_safeSize y_said) : ∃ c, x_changes = nI c ∧ c < 30 := sorry
theorem uk_aeT (h : uk_All t b x_changes x_saidCount x_time x_lastSlot x_sliceSteps x_latestPid x_greatestPid x_code x_codeLengths x_pids x_parents x_programs x_places x_states x_statuses x_stepCounts x_copyCounts x_wakeTimes x_registers x_pageCounts x_pageFrames x_held x_frameUsers x_frameWords x_openHolders x_openKinds x_openTargets x_openPlaces x_openModes x_pipeFirsts x_pipeCounts x_pipeWords x_nameFiles x_fileSizes x_fileWords x_safeNames x_safeSizes x_safeWords x_saidInts y_time y_last y_lastPid y_did y_killed y_ops y_as y_bs y_pages y_wake y_zombie y_blocked y_memory y_frame y_kind y_mode y_pipe y_size y_safeSize y_said) : x_time = nI t := sorry
theorem uk_aPr (h : uk_All t b x_changes x_saidCount x_time x_lastSlot x_sliceSteps x_latestPid x_greatestPid x_code x_codeLengths x_pids x_parents x_programs x_places x_states x_statuses x_stepCounts x_copyCounts x_wakeTimes x_registers x_pageCounts x_pageFrames x_held x_frameUsers x_frameWords x_openHolders x_openKinds x_openTargets x_openPlaces x_openModes x_pipeFirsts x_pipeCounts x_pipeWords x_nameFiles x_fileSizes x_fileWords x_safeNames x_safeSizes x_safeWords x_saidInts y_time y_last y_lastPid y_did y_killed y_ops y_as y_bs y_pages y_wake y_zombie y_blocked y_memory y_frame y_kind y_mode y_pipe y_size y_safeSize y_said) : uk_Pr x_code x_codeLengths y_ops y_as y_bs := sorry
theorem uk_aPs (h : uk_All t b x_changes x_saidCount x_time x_lastSlot x_sliceSteps x_latestPid x_greatestPid x_code x_codeLengths x_pids x_parents x_programs x_places x_states x_statuses x_stepCounts x_copyCounts x_wakeTimes x_registers x_pageCounts x_pageFrames x_held x_frameUsers x_frameWords x_openHolders x_openKinds x_openTargets x_openPlaces x_openModes x_pipeFirsts x_pipeCounts x_pipeWords x_nameFiles x_fileSizes x_fileWords x_safeNames x_safeSizes x_safeWords x_saidInts y_time y_last y_lastPid y_did y_killed y_ops y_as y_bs y_pages y_wake y_zombie y_blocked y_memory y_frame y_kind y_mode y_pipe y_size y_safeSize y_said) : uk_Ps x_pids x_parents x_programs x_places x_statuses x_states y_zombie y_blocked := sorry
theorem uk_aMe (h : uk_All t b x_changes x_saidCount x_time x_lastSlot x_sliceSteps x_latestPid x_greatestPid x_code x_codeLengths x_pids x_parents x_programs x_places x_states x_statuses x_stepCounts x_copyCounts x_wakeTimes x_registers x_pageCounts x_pageFrames x_held x_frameUsers x_frameWords x_openHolders x_openKinds x_openTargets x_openPlaces x_openModes x_pipeFirsts x_pipeCounts x_pipeWords x_nameFiles x_fileSizes x_fileWords x_safeNames x_safeSizes x_safeWords x_saidInts y_time y_last y_lastPid y_did y_killed y_ops y_as y_bs y_pages y_wake y_zombie y_blocked y_memory y_frame y_kind y_mode y_pipe y_size y_safeSize y_said) : uk_Me x_pids y_zombie x_pageCounts y_pages x_pageFrames y_frame x_frameWords y_memory := sorry
theorem uk_aFu (h : uk_All t b x_changes x_saidCount x_time x_lastSlot x_sliceSteps x_latestPid x_greatestPid x_code x_codeLengths x_pids x_parents x_programs x_places x_states x_statuses x_stepCounts x_copyCounts x_wakeTimes x_registers x_pageCounts x_pageFrames x_held x_frameUsers x_frameWords x_openHolders x_openKinds x_openTargets x_openPlaces x_openModes x_pipeFirsts x_pipeCounts x_pipeWords x_nameFiles x_fileSizes x_fileWords x_safeNames x_safeSizes x_safeWords x_saidInts y_time y_last y_lastPid y_did y_killed y_ops y_as y_bs y_pages y_wake y_zombie y_blocked y_memory y_frame y_kind y_mode y_pipe y_size y_safeSize y_said) : uk_Fu x_pids y_pages y_frame x_frameUsers := sorry
theorem uk_aHd (h : uk_All t b x_changes x_saidCount x_time x_lastSlot x_sliceSteps x_latestPid x_greatestPid x_code x_codeLengths x_pids x_parents x_programs x_places x_states x_statuses x_stepCounts x_copyCounts x_wakeTimes x_registers x_pageCounts x_pageFrames x_held x_frameUsers x_frameWords x_openHolders x_openKinds x_openTargets x_openPlaces x_openModes x_pipeFirsts x_pipeCounts x_pipeWords x_nameFiles x_fileSizes x_fileWords x_safeNames x_safeSizes x_safeWords x_saidInts y_time y_last y_lastPid y_did y_killed y_ops y_as y_bs y_pages y_wake y_zombie y_blocked y_memory y_frame y_kind y_mode y_pipe y_size y_safeSize y_said) : uk_Hd x_pids y_zombie x_held := sorry
theorem uk_aHo (h : uk_All t b x_changes x_saidCount x_time x_lastSlot x_sliceSteps x_latestPid x_greatestPid x_code x_codeLengths x_pids x_parents x_programs x_places x_states x_statuses x_stepCounts x_copyCounts x_wakeTimes x_registers x_pageCounts x_pageFrames x_held x_frameUsers x_frameWords x_openHolders x_openKinds x_openTargets x_openPlaces x_openModes x_pipeFirsts x_pipeCounts x_pipeWords x_nameFiles x_fileSizes x_fileWords x_safeNames x_safeSizes x_safeWords x_saidInts y_time y_last y_lastPid y_did y_killed y_ops y_as y_bs y_pages y_wake y_zombie y_blocked y_memory y_frame y_kind y_mode y_pipe y_size y_safeSize y_said) : uk_Ho x_pids y_zombie x_held x_openHolders := sorry
theorem uk_aOk (h : uk_All t b x_changes x_saidCount x_time x_lastSlot x_sliceSteps x_latestPid x_greatestPid x_code x_codeLengths x_pids x_parents x_programs x_places x_states x_statuses x_stepCounts x_copyCounts x_wakeTimes x_registers x_pageCounts x_pageFrames x_held x_frameUsers x_frameWords x_openHolders x_openKinds x_openTargets x_openPlaces x_openModes x_pipeFirsts x_pipeCounts x_pipeWords x_nameFiles x_fileSizes x_fileWords x_safeNames x_safeSizes x_safeWords x_saidInts y_time y_last y_lastPid y_did y_killed y_ops y_as y_bs y_pages y_wake y_zombie y_blocked y_memory y_frame y_kind y_mode y_pipe y_size y_safeSize y_said) : uk_Ok x_openHolders x_openKinds y_kind x_openTargets x_openModes y_mode x_openPlaces := sorry
theorem uk_aPi (h : uk_All t b x_changes x_saidCount x_time x_lastSlot x_sliceSteps x_latestPid x_greatestPid x_code x_codeLengths x_pids x_parents x_programs x_places x_states x_statuses x_stepCounts x_copyCounts x_wakeTimes x_registers x_pageCounts x_pageFrames x_held x_frameUsers x_frameWords x_openHolders x_openKinds x_openTargets x_openPlaces x_openModes x_pipeFirsts x_pipeCounts x_pipeWords x_nameFiles x_fileSizes x_fileWords x_safeNames x_safeSizes x_safeWords x_saidInts y_time y_last y_lastPid y_did y_killed y_ops y_as y_bs y_pages y_wake y_zombie y_blocked y_memory y_frame y_kind y_mode y_pipe y_size y_safeSize y_said) : uk_Pi x_pipeCounts x_pipeFirsts x_pipeWords y_pipe := sorry
theorem uk_aFi (h : uk_All t b x_changes x_saidCount x_time x_lastSlot x_sliceSteps x_latestPid x_greatestPid x_code x_codeLengths x_pids x_parents x_programs x_places x_states x_statuses x_stepCounts x_copyCounts x_wakeTimes x_registers x_pageCounts x_pageFrames x_held x_frameUsers x_frameWords x_openHolders x_openKinds x_openTargets x_openPlaces x_openModes x_pipeFirsts x_pipeCounts x_pipeWords x_nameFiles x_fileSizes x_fileWords x_safeNames x_safeSizes x_safeWords x_saidInts y_time y_last y_lastPid y_did y_killed y_ops y_as y_bs y_pages y_wake y_zombie y_blocked y_memory y_frame y_kind y_mode y_pipe y_size y_safeSize y_said) : uk_Fi x_nameFiles y_kind x_openTargets x_fileSizes y_size := sorry
theorem uk_aSa (h : uk_All t b x_changes x_saidCount x_time x_lastSlot x_sliceSteps x_latestPid x_greatestPid x_code x_codeLengths x_pids x_parents x_programs x_places x_states x_statuses x_stepCounts x_copyCounts x_wakeTimes x_registers x_pageCounts x_pageFrames x_held x_frameUsers x_frameWords x_openHolders x_openKinds x_openTargets x_openPlaces x_openModes x_pipeFirsts x_pipeCounts x_pipeWords x_nameFiles x_fileSizes x_fileWords x_safeNames x_safeSizes x_safeWords x_saidInts y_time y_last y_lastPid y_did y_killed y_ops y_as y_bs y_pages y_wake y_zombie y_blocked y_memory y_frame y_kind y_mode y_pipe y_size y_safeSize y_said) : uk_Sa x_safeNames x_safeSizes y_safeSize := sorry
theorem uk_aSc (h : uk_All t b x_changes x_saidCount x_time x_lastSlot x_sliceSteps x_latestPid x_greatestPid x_code x_codeLengths x_pids x_parents x_programs x_places x_states x_statuses x_stepCounts x_copyCounts x_wakeTimes x_registers x_pageCounts x_pageFrames x_held x_frameUsers x_frameWords x_openHolders x_openKinds x_openTargets x_openPlaces x_openModes x_pipeFirsts x_pipeCounts x_pipeWords x_nameFiles x_fileSizes x_fileWords x_safeNames x_safeSizes x_safeWords x_saidInts y_time y_last y_lastPid y_did y_killed y_ops y_as y_bs y_pages y_wake y_zombie y_blocked y_memory y_frame y_kind y_mode y_pipe y_size y_safeSize y_said) : uk_Sc x_pids x_lastSlot x_sliceSteps y_last y_lastPid y_did := sorry
theorem uk_aWk (h : uk_All t b x_changes x_saidCount x_time x_lastSlot x_sliceSteps x_latestPid x_greatestPid x_code x_codeLengths x_pids x_parents x_programs x_places x_states x_statuses x_stepCounts x_copyCounts x_wakeTimes x_registers x_pageCounts x_pageFrames x_held x_frameUsers x_frameWords x_openHolders x_openKinds x_openTargets x_openPlaces x_openModes x_pipeFirsts x_pipeCounts x_pipeWords x_nameFiles x_fileSizes x_fileWords x_safeNames x_safeSizes x_safeWords x_saidInts y_time y_last y_lastPid y_did y_killed y_ops y_as y_bs y_pages y_wake y_zombie y_blocked y_memory y_frame y_kind y_mode y_pipe y_size y_safeSize y_said) : uk_Wk x_pids y_zombie y_blocked x_programs x_places x_codeLengths y_ops y_bs x_wakeTimes y_wake x_registers x_held y_kind t := sorry
end
end
section
/-! X's readers -/
theorem uk_lp {i : Nat} (N : Nat) (h : i < N) (hN : N < 2 ^ 31) : (¬ nI N ≤ nI i) ∧ vp_in (nI i) N ∧ (nI i).toNatClampNeg = i := sorry
theorem uk_refl (a : Int32) : a ≤ a := sorry
theorem uk_inE {x : Int32} {n : Nat} {N : Int32} (hN : N = nI n) (hb : n < 2 ^ 31) : vp_in x n ↔ (¬ x < 0 ∧ ¬ N ≤ x) := sorry
section
variable {x_changes x_saidCount x_time x_lastSlot x_sliceSteps x_latestPid x_greatestPid : Int32} {x_code x_codeLengths x_pids x_parents x_programs x_places x_states x_statuses x_stepCounts x_copyCounts x_wakeTimes x_registers x_pageCounts x_pageFrames x_held x_frameUsers x_frameWords x_openHolders x_openKinds x_openTargets x_openPlaces x_openModes x_pipeFirsts x_pipeCounts x_pipeWords x_nameFiles x_fileSizes x_fileWords x_safeNames x_safeSizes x_safeWords x_saidInts : Nat → Int32}
theorem xk_isProgram {post : Int32 → Prop} {p : Int32} (ht : vp_in p 6 → post 1) (hf : ¬ vp_in p 6 → post 0) : wpX_isProgram post (x_changes, x_saidCount, x_time, x_lastSlot, x_sliceSteps, x_latestPid, x_greatestPid, x_code, x_codeLengths, x_pids, x_parents, x_programs, x_places, x_states, x_statuses, x_stepCounts, x_copyCounts, x_wakeTimes, x_registers, x_pageCounts, x_pageFrames, x_held, x_frameUsers, x_frameWords, x_openHolders, x_openKinds, x_openTargets, x_openPlaces, x_openModes, x_pipeFirsts, x_pipeCounts, x_pipeWords, x_nameFiles, x_fileSizes, x_fileWords, x_safeNames, x_safeSizes, x_safeWords, x_saidInts) p := sorry
theorem xk_isRegister {post : Int32 → Prop} {p : Int32} (ht : vp_in p 4 → post 1) (hf : ¬ vp_in p 4 → post 0) : wpX_isRegister post (x_changes, x_saidCount, x_time, x_lastSlot, x_sliceSteps, x_latestPid, x_greatestPid, x_code, x_codeLengths, x_pids, x_parents, x_programs, x_places, x_states, x_statuses, x_stepCounts, x_copyCounts, x_wakeTimes, x_registers, x_pageCounts, x_pageFrames, x_held, x_frameUsers, x_frameWords, x_openHolders, x_openKinds, x_openTargets, x_openPlaces, x_openModes, x_pipeFirsts, x_pipeCounts, x_pipeWords, x_nameFiles, x_fileSizes, x_fileWords, x_safeNames, x_safeSizes, x_safeWords, x_saidInts) p := sorry
theorem xk_isName {post : Int32 → Prop} {p : Int32} (ht : vp_in p 8 → post 1) (hf : ¬ vp_in p 8 → post 0) : wpX_isName post (x_changes, x_saidCount, x_time, x_lastSlot, x_sliceSteps, x_latestPid, x_greatestPid, x_code, x_codeLengths, x_pids, x_parents, x_programs, x_places, x_states, x_statuses, x_stepCounts, x_copyCounts, x_wakeTimes, x_registers, x_pageCounts, x_pageFrames, x_held, x_frameUsers, x_frameWords, x_openHolders, x_openKinds, x_openTargets, x_openPlaces, x_openModes, x_pipeFirsts, x_pipeCounts, x_pipeWords, x_nameFiles, x_fileSizes, x_fileWords, x_safeNames, x_safeSizes, x_safeWords, x_saidInts) p := sorry
theorem xk_countProcesses {post : Int32 → Prop} (h : post (nI (uk_cn (fun s => x_pids s ≠ 0) 8))) : wpX_countProcesses post (x_changes, x_saidCount, x_time, x_lastSlot, x_sliceSteps, x_latestPid, x_greatestPid, x_code, x_codeLengths, x_pids, x_parents, x_programs, x_places, x_states, x_statuses, x_stepCounts, x_copyCounts, x_wakeTimes, x_registers, x_pageCounts, x_pageFrames, x_held, x_frameUsers, x_frameWords, x_openHolders, x_openKinds, x_openTargets, x_openPlaces, x_openModes, x_pipeFirsts, x_pipeCounts, x_pipeWords, x_nameFiles, x_fileSizes, x_fileWords, x_safeNames, x_safeSizes, x_safeWords, x_saidInts) := sorry
theorem xk_countFreeFrames {post : Int32 → Prop} (h : post (nI (uk_cn (fun f => x_frameUsers f = 0) 20))) : wpX_countFreeFrames post (x_changes, x_saidCount, x_time, x_lastSlot, x_sliceSteps, x_latestPid, x_greatestPid, x_code, x_codeLengths, x_pids, x_parents, x_programs, x_places, x_states, x_statuses, x_stepCounts, x_copyCounts, x_wakeTimes, x_registers, x_pageCounts, x_pageFrames, x_held, x_frameUsers, x_frameWords, x_openHolders, x_openKinds, x_openTargets, x_openPlaces, x_openModes, x_pipeFirsts, x_pipeCounts, x_pipeWords, x_nameFiles, x_fileSizes, x_fileWords, x_safeNames, x_safeSizes, x_safeWords, x_saidInts) := sorry
theorem xk_countOpens {post : Int32 → Prop} {k p : Int32} (h : post (nI (uk_cn (fun o => ¬ x_openHolders o ≤ 0 ∧ x_openKinds o = k ∧ x_openTargets o = p) 12))) : wpX_countOpens post (x_changes, x_saidCount, x_time, x_lastSlot, x_sliceSteps, x_latestPid, x_greatestPid, x_code, x_codeLengths, x_pids, x_parents, x_programs, x_places, x_states, x_statuses, x_stepCounts, x_copyCounts, x_wakeTimes, x_registers, x_pageCounts, x_pageFrames, x_held, x_frameUsers, x_frameWords, x_openHolders, x_openKinds, x_openTargets, x_openPlaces, x_openModes, x_pipeFirsts, x_pipeCounts, x_pipeWords, x_nameFiles, x_fileSizes, x_fileWords, x_safeNames, x_safeSizes, x_safeWords, x_saidInts) k p := sorry
theorem xk_countOpenFiles {post : Int32 → Prop} (h : post (nI (uk_cn (fun o => ¬ x_openHolders o ≤ 0) 12))) : wpX_countOpenFiles post (x_changes, x_saidCount, x_time, x_lastSlot, x_sliceSteps, x_latestPid, x_greatestPid, x_code, x_codeLengths, x_pids, x_parents, x_programs, x_places, x_states, x_statuses, x_stepCounts, x_copyCounts, x_wakeTimes, x_registers, x_pageCounts, x_pageFrames, x_held, x_frameUsers, x_frameWords, x_openHolders, x_openKinds, x_openTargets, x_openPlaces, x_openModes, x_pipeFirsts, x_pipeCounts, x_pipeWords, x_nameFiles, x_fileSizes, x_fileWords, x_safeNames, x_safeSizes, x_safeWords, x_saidInts) := sorry
theorem xk_countNames {post : Int32 → Prop} {f : Int32} (h : post (nI (uk_cn (fun k => x_nameFiles k = f) 8))) : wpX_countNames post (x_changes, x_saidCount, x_time, x_lastSlot, x_sliceSteps, x_latestPid, x_greatestPid, x_code, x_codeLengths, x_pids, x_parents, x_programs, x_places, x_states, x_statuses, x_stepCounts, x_copyCounts, x_wakeTimes, x_registers, x_pageCounts, x_pageFrames, x_held, x_frameUsers, x_frameWords, x_openHolders, x_openKinds, x_openTargets, x_openPlaces, x_openModes, x_pipeFirsts, x_pipeCounts, x_pipeWords, x_nameFiles, x_fileSizes, x_fileWords, x_safeNames, x_safeSizes, x_safeWords, x_saidInts) f := sorry
theorem xk_findSlot {post : Int32 → Prop} {p : Int32} (h1 : p < 1 → post (-1)) (h2 : ¬ p < 1 → post (uk_ff (fun s => x_pids s = p) 8)) : wpX_findSlot post (x_changes, x_saidCount, x_time, x_lastSlot, x_sliceSteps, x_latestPid, x_greatestPid, x_code, x_codeLengths, x_pids, x_parents, x_programs, x_places, x_states, x_statuses, x_stepCounts, x_copyCounts, x_wakeTimes, x_registers, x_pageCounts, x_pageFrames, x_held, x_frameUsers, x_frameWords, x_openHolders, x_openKinds, x_openTargets, x_openPlaces, x_openModes, x_pipeFirsts, x_pipeCounts, x_pipeWords, x_nameFiles, x_fileSizes, x_fileWords, x_safeNames, x_safeSizes, x_safeWords, x_saidInts) p := sorry
theorem xk_freeSlot {post : Int32 → Prop} (h : post (uk_ff (fun s => x_pids s = 0) 8)) : wpX_freeSlot post (x_changes, x_saidCount, x_time, x_lastSlot, x_sliceSteps, x_latestPid, x_greatestPid, x_code, x_codeLengths, x_pids, x_parents, x_programs, x_places, x_states, x_statuses, x_stepCounts, x_copyCounts, x_wakeTimes, x_registers, x_pageCounts, x_pageFrames, x_held, x_frameUsers, x_frameWords, x_openHolders, x_openKinds, x_openTargets, x_openPlaces, x_openModes, x_pipeFirsts, x_pipeCounts, x_pipeWords, x_nameFiles, x_fileSizes, x_fileWords, x_safeNames, x_safeSizes, x_safeWords, x_saidInts) := sorry
theorem xk_freeFrame {post : Int32 → Prop} (h : post (uk_ff (fun f => x_frameUsers f = 0) 20)) : wpX_freeFrame post (x_changes, x_saidCount, x_time, x_lastSlot, x_sliceSteps, x_latestPid, x_greatestPid, x_code, x_codeLengths, x_pids, x_parents, x_programs, x_places, x_states, x_statuses, x_stepCounts, x_copyCounts, x_wakeTimes, x_registers, x_pageCounts, x_pageFrames, x_held, x_frameUsers, x_frameWords, x_openHolders, x_openKinds, x_openTargets, x_openPlaces, x_openModes, x_pipeFirsts, x_pipeCounts, x_pipeWords, x_nameFiles, x_fileSizes, x_fileWords, x_safeNames, x_safeSizes, x_safeWords, x_saidInts) := sorry
theorem xk_freeDescriptor {post : Int32 → Prop} {s j : Nat} (hs : s < 8) (hj : j ≤ 6) (h : post (uk_fg (fun d => x_held (6 * s + d) = -1) (6 - j) j)) : wpX_freeDescriptor post (x_changes, x_saidCount, x_time, x_lastSlot, x_sliceSteps, x_latestPid, x_greatestPid, x_code, x_codeLengths, x_pids, x_parents, x_programs, x_places, x_states, x_statuses, x_stepCounts, x_copyCounts, x_wakeTimes, x_registers, x_pageCounts, x_pageFrames, x_held, x_frameUsers, x_frameWords, x_openHolders, x_openKinds, x_openTargets, x_openPlaces, x_openModes, x_pipeFirsts, x_pipeCounts, x_pipeWords, x_nameFiles, x_fileSizes, x_fileWords, x_safeNames, x_safeSizes, x_safeWords, x_saidInts) (nI s) (nI j) := sorry
theorem xk_freeOpen {post : Int32 → Prop} {j : Nat} (hj : j ≤ 12) (h : post (uk_fg (fun o => x_openHolders o = 0) (12 - j) j)) : wpX_freeOpen post (x_changes, x_saidCount, x_time, x_lastSlot, x_sliceSteps, x_latestPid, x_greatestPid, x_code, x_codeLengths, x_pids, x_parents, x_programs, x_places, x_states, x_statuses, x_stepCounts, x_copyCounts, x_wakeTimes, x_registers, x_pageCounts, x_pageFrames, x_held, x_frameUsers, x_frameWords, x_openHolders, x_openKinds, x_openTargets, x_openPlaces, x_openModes, x_pipeFirsts, x_pipeCounts, x_pipeWords, x_nameFiles, x_fileSizes, x_fileWords, x_safeNames, x_safeSizes, x_safeWords, x_saidInts) (nI j) := sorry
theorem xk_hasChild {post : Int32 → Prop} {s : Nat} (hs : s < 8) (ht : (∃ k, k < 8 ∧ x_pids k ≠ 0 ∧ x_parents k = x_pids s) → post 1) (hf : (∀ k, k < 8 → ¬ (x_pids k ≠ 0 ∧ x_parents k = x_pids s)) → post 0) : wpX_hasChild post (x_changes, x_saidCount, x_time, x_lastSlot, x_sliceSteps, x_latestPid, x_greatestPid, x_code, x_codeLengths, x_pids, x_parents, x_programs, x_places, x_states, x_statuses, x_stepCounts, x_copyCounts, x_wakeTimes, x_registers, x_pageCounts, x_pageFrames, x_held, x_frameUsers, x_frameWords, x_openHolders, x_openKinds, x_openTargets, x_openPlaces, x_openModes, x_pipeFirsts, x_pipeCounts, x_pipeWords, x_nameFiles, x_fileSizes, x_fileWords, x_safeNames, x_safeSizes, x_safeWords, x_saidInts) (nI s) := sorry
theorem xk_isFreePipe {post : Int32 → Prop} {p : Int32} (ht : (∀ o, o < 12 → ¬ (¬ x_openHolders o ≤ 0 ∧ x_openKinds o ≠ 1 ∧ x_openTargets o = p)) → post 1) (hf : (∃ o, o < 12 ∧ ¬ x_openHolders o ≤ 0 ∧ x_openKinds o ≠ 1 ∧ x_openTargets o = p) → post 0) : wpX_isFreePipe post (x_changes, x_saidCount, x_time, x_lastSlot, x_sliceSteps, x_latestPid, x_greatestPid, x_code, x_codeLengths, x_pids, x_parents, x_programs, x_places, x_states, x_statuses, x_stepCounts, x_copyCounts, x_wakeTimes, x_registers, x_pageCounts, x_pageFrames, x_held, x_frameUsers, x_frameWords, x_openHolders, x_openKinds, x_openTargets, x_openPlaces, x_openModes, x_pipeFirsts, x_pipeCounts, x_pipeWords, x_nameFiles, x_fileSizes, x_fileWords, x_safeNames, x_safeSizes, x_safeWords, x_saidInts) p := sorry
theorem xk_isFreeFile {post : Int32 → Prop} {f : Int32} (ht : (∀ k, k < 8 → x_nameFiles k ≠ f) → (∀ o, o < 12 → ¬ (¬ x_openHolders o ≤ 0 ∧ x_openKinds o = 1 ∧ x_openTargets o = f)) → post 1) (hf : ((∃ k, k < 8 ∧ x_nameFiles k = f) ∨ (∃ o, o < 12 ∧ ¬ x_openHolders o ≤ 0 ∧ x_openKinds o = 1 ∧ x_openTargets o = f)) → post 0) : wpX_isFreeFile post (x_changes, x_saidCount, x_time, x_lastSlot, x_sliceSteps, x_latestPid, x_greatestPid, x_code, x_codeLengths, x_pids, x_parents, x_programs, x_places, x_states, x_statuses, x_stepCounts, x_copyCounts, x_wakeTimes, x_registers, x_pageCounts, x_pageFrames, x_held, x_frameUsers, x_frameWords, x_openHolders, x_openKinds, x_openTargets, x_openPlaces, x_openModes, x_pipeFirsts, x_pipeCounts, x_pipeWords, x_nameFiles, x_fileSizes, x_fileWords, x_safeNames, x_safeSizes, x_safeWords, x_saidInts) f := sorry
end
end
section
/-! Y's readers -/
theorem uk_vb0 : vp_nar .boolean 0 = 0 := sorry
theorem uk_vb1 : vp_nar .boolean 1 = 1 := sorry
theorem uk_le0 {x : Int32} (h : ¬ x < 0) : x ≤ 0 ↔ x = 0 := sorry
theorem uk_lt1 {x : Int32} : x < 1 ↔ x ≤ 0 := sorry
theorem yk_no {post : Int32 → Prop} {x m : Int32} (n : Nat) (hm : m = nI n) (hb : n + 1 < 2 ^ 31) (hf : vp_in x (n + 1) → post 0) (ht : ¬ vp_in x (n + 1) → post 1) : wpY_no post x m := sorry
section
variable {y_changes y_time y_last y_lastPid y_did y_greatest y_stepped y_says y_killed : Int32} {y_ops y_as y_bs y_length y_pid y_parent y_program y_pc y_status y_steps y_copies y_pages y_wake y_zombie y_blocked y_reg y_memory y_frame y_descriptor y_kind y_of y_mode y_place y_piped y_pipe y_names y_size y_words y_safeNames y_safeSize y_safeWords y_said : Nat → Int32}
theorem yk_processes {post : Int32 → Prop} (hP : ∀ s, s < 8 → ¬ y_pid s < 0) (h : post (nI (uk_cn (fun s => y_pid s ≠ 0) 8))) : wpY_processes post (y_changes, y_time, y_last, y_lastPid, y_did, y_greatest, y_stepped, y_says, y_killed, y_ops, y_as, y_bs, y_length, y_pid, y_parent, y_program, y_pc, y_status, y_steps, y_copies, y_pages, y_wake, y_zombie, y_blocked, y_reg, y_memory, y_frame, y_descriptor, y_kind, y_of, y_mode, y_place, y_piped, y_pipe, y_names, y_size, y_words, y_safeNames, y_safeSize, y_safeWords, y_said) := sorry
theorem yk_slotOf {post : Int32 → Prop} {p : Int32} (h1 : p < 1 → post (-1)) (h2 : ¬ p < 1 → post (uk_ff (fun s => y_pid s = p) 8)) : wpY_slotOf post (y_changes, y_time, y_last, y_lastPid, y_did, y_greatest, y_stepped, y_says, y_killed, y_ops, y_as, y_bs, y_length, y_pid, y_parent, y_program, y_pc, y_status, y_steps, y_copies, y_pages, y_wake, y_zombie, y_blocked, y_reg, y_memory, y_frame, y_descriptor, y_kind, y_of, y_mode, y_place, y_piped, y_pipe, y_names, y_size, y_words, y_safeNames, y_safeSize, y_safeWords, y_said) p := sorry
theorem yk_isUsed_in {post J : Int32 → Prop} {f : Int32} {i : Nat} (hi : i < 8) (hP : ¬ y_pid i < 0) (hn : y_pid i ≠ 0 → ∃ n, n ≤ 8 ∧ y_pages i = nI n) (h1 : (y_pid i ≠ 0 ∧ ∃ p, p < (y_pages i).toNatClampNeg ∧ y_frame (8 * i + p) = f) → post 1) (h0 : ¬ (y_pid i ≠ 0 ∧ ∃ p, p < (y_pages i).toNatClampNeg ∧ y_frame (8 * i + p) = f) → J (nI (i + 1))) : ∃ m, wY_isUsed_10 post J f (nI i) y_changes y_time y_last y_lastPid y_did y_greatest y_stepped y_says y_killed y_ops y_as y_bs y_length y_pid y_parent y_program y_pc y_status y_steps y_copies y_pages y_wake y_zombie y_blocked y_reg y_memory y_frame y_descriptor y_kind y_of y_mode y_place y_piped y_pipe y_names y_size y_words y_safeNames y_safeSize y_safeWords y_said m 0 := sorry
theorem yk_isUsed {post : Int32 → Prop} {f : Nat} (hP : ∀ s, s < 8 → ¬ y_pid s < 0) (hn : ∀ s, s < 8 → y_pid s ≠ 0 → ∃ n, n ≤ 8 ∧ y_pages s = nI n) (ht : uk_sm (uk_rw y_pid y_pages y_frame f) 8 ≠ 0 → post 1) (hf : uk_sm (uk_rw y_pid y_pages y_frame f) 8 = 0 → post 0) : wpY_isUsed post (y_changes, y_time, y_last, y_lastPid, y_did, y_greatest, y_stepped, y_says, y_killed, y_ops, y_as, y_bs, y_length, y_pid, y_parent, y_program, y_pc, y_status, y_steps, y_copies, y_pages, y_wake, y_zombie, y_blocked, y_reg, y_memory, y_frame, y_descriptor, y_kind, y_of, y_mode, y_place, y_piped, y_pipe, y_names, y_size, y_words, y_safeNames, y_safeSize, y_safeWords, y_said) (nI f) := sorry
theorem yk_freeFrames {post : Int32 → Prop} (hP : ∀ s, s < 8 → ¬ y_pid s < 0) (hn : ∀ s, s < 8 → y_pid s ≠ 0 → ∃ n, n ≤ 8 ∧ y_pages s = nI n) (h : post (nI (uk_cn (fun f => uk_sm (uk_rw y_pid y_pages y_frame f) 8 = 0) 20))) : wpY_freeFrames post (y_changes, y_time, y_last, y_lastPid, y_did, y_greatest, y_stepped, y_says, y_killed, y_ops, y_as, y_bs, y_length, y_pid, y_parent, y_program, y_pc, y_status, y_steps, y_copies, y_pages, y_wake, y_zombie, y_blocked, y_reg, y_memory, y_frame, y_descriptor, y_kind, y_of, y_mode, y_place, y_piped, y_pipe, y_names, y_size, y_words, y_safeNames, y_safeSize, y_safeWords, y_said) := sorry
theorem yk_freeFrame {post : Int32 → Prop} (hP : ∀ s, s < 8 → ¬ y_pid s < 0) (hn : ∀ s, s < 8 → y_pid s ≠ 0 → ∃ n, n ≤ 8 ∧ y_pages s = nI n) (h : post (uk_ff (fun f => uk_sm (uk_rw y_pid y_pages y_frame f) 8 = 0) 20)) : wpY_freeFrame post (y_changes, y_time, y_last, y_lastPid, y_did, y_greatest, y_stepped, y_says, y_killed, y_ops, y_as, y_bs, y_length, y_pid, y_parent, y_program, y_pc, y_status, y_steps, y_copies, y_pages, y_wake, y_zombie, y_blocked, y_reg, y_memory, y_frame, y_descriptor, y_kind, y_of, y_mode, y_place, y_piped, y_pipe, y_names, y_size, y_words, y_safeNames, y_safeSize, y_safeWords, y_said) := sorry
theorem yk_sharers_in {post : Int32 → Prop} {J : Int32 → Int32 → Prop} {f i c : Nat} (hi : i < 8) (hP : ¬ y_pid i < 0) (hn : y_pid i ≠ 0 → ∃ n, n ≤ 8 ∧ y_pages i = nI n) (h : J (nI (c + uk_rw y_pid y_pages y_frame f i)) (nI (i + 1))) : ∃ m, wY_sharers_13 post J (nI f) (nI i) y_changes y_time y_last y_lastPid y_did y_greatest y_stepped y_says y_killed y_ops y_as y_bs y_length y_pid y_parent y_program y_pc y_status y_steps y_copies y_pages y_wake y_zombie y_blocked y_reg y_memory y_frame y_descriptor y_kind y_of y_mode y_place y_piped y_pipe y_names y_size y_words y_safeNames y_safeSize y_safeWords y_said m (nI c) 0 := sorry
theorem yk_sharers {post : Int32 → Prop} {f : Nat} (hP : ∀ s, s < 8 → ¬ y_pid s < 0) (hn : ∀ s, s < 8 → y_pid s ≠ 0 → ∃ n, n ≤ 8 ∧ y_pages s = nI n) (h : post (nI (uk_sm (uk_rw y_pid y_pages y_frame f) 8))) : wpY_sharers post (y_changes, y_time, y_last, y_lastPid, y_did, y_greatest, y_stepped, y_says, y_killed, y_ops, y_as, y_bs, y_length, y_pid, y_parent, y_program, y_pc, y_status, y_steps, y_copies, y_pages, y_wake, y_zombie, y_blocked, y_reg, y_memory, y_frame, y_descriptor, y_kind, y_of, y_mode, y_place, y_piped, y_pipe, y_names, y_size, y_words, y_safeNames, y_safeSize, y_safeWords, y_said) (nI f) := sorry
theorem yk_holders {post : Int32 → Prop} {o : Nat} (hP : ∀ s, s < 8 → ¬ y_pid s < 0) (h : post (nI (uk_sm (uk_hw y_pid y_zombie y_descriptor o) 8))) : wpY_holders post (y_changes, y_time, y_last, y_lastPid, y_did, y_greatest, y_stepped, y_says, y_killed, y_ops, y_as, y_bs, y_length, y_pid, y_parent, y_program, y_pc, y_status, y_steps, y_copies, y_pages, y_wake, y_zombie, y_blocked, y_reg, y_memory, y_frame, y_descriptor, y_kind, y_of, y_mode, y_place, y_piped, y_pipe, y_names, y_size, y_words, y_safeNames, y_safeSize, y_safeWords, y_said) (nI o) := sorry
theorem yk_named {post : Int32 → Prop} {f : Int32} (h : post (nI (uk_cn (fun k => y_names k = f) 8))) : wpY_named post (y_changes, y_time, y_last, y_lastPid, y_did, y_greatest, y_stepped, y_says, y_killed, y_ops, y_as, y_bs, y_length, y_pid, y_parent, y_program, y_pc, y_status, y_steps, y_copies, y_pages, y_wake, y_zombie, y_blocked, y_reg, y_memory, y_frame, y_descriptor, y_kind, y_of, y_mode, y_place, y_piped, y_pipe, y_names, y_size, y_words, y_safeNames, y_safeSize, y_safeWords, y_said) f := sorry
theorem yk_openOf {post : Int32 → Prop} {f : Int32} (h : post (nI (uk_cn (fun o => y_kind o = 1 ∧ y_of o = f) 12))) : wpY_openOf post (y_changes, y_time, y_last, y_lastPid, y_did, y_greatest, y_stepped, y_says, y_killed, y_ops, y_as, y_bs, y_length, y_pid, y_parent, y_program, y_pc, y_status, y_steps, y_copies, y_pages, y_wake, y_zombie, y_blocked, y_reg, y_memory, y_frame, y_descriptor, y_kind, y_of, y_mode, y_place, y_piped, y_pipe, y_names, y_size, y_words, y_safeNames, y_safeSize, y_safeWords, y_said) f := sorry
theorem uk_cnz {P : Nat → Prop} {n : Nat} (hn : n < 2 ^ 31) : nI (uk_cn P n) = 0 ↔ ∀ i, i < n → ¬ P i := sorry
theorem yk_isFree {post : Int32 → Prop} {f : Nat} (ht : uk_fre y_names y_kind y_of f → post 1) (hf : ¬ uk_fre y_names y_kind y_of f → post 0) : wpY_isFree post (y_changes, y_time, y_last, y_lastPid, y_did, y_greatest, y_stepped, y_says, y_killed, y_ops, y_as, y_bs, y_length, y_pid, y_parent, y_program, y_pc, y_status, y_steps, y_copies, y_pages, y_wake, y_zombie, y_blocked, y_reg, y_memory, y_frame, y_descriptor, y_kind, y_of, y_mode, y_place, y_piped, y_pipe, y_names, y_size, y_words, y_safeNames, y_safeSize, y_safeWords, y_said) (nI f) := sorry
theorem yk_hasEnd {post : Int32 → Prop} {p k : Int32} (ht : (∃ o, o < 12 ∧ y_kind o = k ∧ y_of o = p) → post 1) (hf : (∀ o, o < 12 → ¬ (y_kind o = k ∧ y_of o = p)) → post 0) : wpY_hasEnd post (y_changes, y_time, y_last, y_lastPid, y_did, y_greatest, y_stepped, y_says, y_killed, y_ops, y_as, y_bs, y_length, y_pid, y_parent, y_program, y_pc, y_status, y_steps, y_copies, y_pages, y_wake, y_zombie, y_blocked, y_reg, y_memory, y_frame, y_descriptor, y_kind, y_of, y_mode, y_place, y_piped, y_pipe, y_names, y_size, y_words, y_safeNames, y_safeSize, y_safeWords, y_said) p k := sorry
theorem yk_freeOpen {post : Int32 → Prop} (h : post (uk_ff (fun o => y_kind o = 0) 12)) : wpY_freeOpen post (y_changes, y_time, y_last, y_lastPid, y_did, y_greatest, y_stepped, y_says, y_killed, y_ops, y_as, y_bs, y_length, y_pid, y_parent, y_program, y_pc, y_status, y_steps, y_copies, y_pages, y_wake, y_zombie, y_blocked, y_reg, y_memory, y_frame, y_descriptor, y_kind, y_of, y_mode, y_place, y_piped, y_pipe, y_names, y_size, y_words, y_safeNames, y_safeSize, y_safeWords, y_said) := sorry
theorem yk_opens {post : Int32 → Prop} (h : post (nI (uk_cn (fun o => ¬ y_kind o ≤ 0) 12))) : wpY_opens post (y_changes, y_time, y_last, y_lastPid, y_did, y_greatest, y_stepped, y_says, y_killed, y_ops, y_as, y_bs, y_length, y_pid, y_parent, y_program, y_pc, y_status, y_steps, y_copies, y_pages, y_wake, y_zombie, y_blocked, y_reg, y_memory, y_frame, y_descriptor, y_kind, y_of, y_mode, y_place, y_piped, y_pipe, y_names, y_size, y_words, y_safeNames, y_safeSize, y_safeWords, y_said) := sorry
theorem yk_freeDescriptor {post : Int32 → Prop} {s j : Nat} (hs : s < 8) (hj : j ≤ 6) (hH : ∀ d, d < 6 → y_descriptor (6 * s + d) = -1 ∨ vp_in (y_descriptor (6 * s + d)) 12) (h : post (uk_fg (fun d => y_descriptor (6 * s + d) = -1) (6 - j) j)) : wpY_freeDescriptor post (y_changes, y_time, y_last, y_lastPid, y_did, y_greatest, y_stepped, y_says, y_killed, y_ops, y_as, y_bs, y_length, y_pid, y_parent, y_program, y_pc, y_status, y_steps, y_copies, y_pages, y_wake, y_zombie, y_blocked, y_reg, y_memory, y_frame, y_descriptor, y_kind, y_of, y_mode, y_place, y_piped, y_pipe, y_names, y_size, y_words, y_safeNames, y_safeSize, y_safeWords, y_said) (nI s) (nI j) := sorry
end
end
section
/-! readers of both sides over the same tables -/
def uk_fb (g : Nat → Nat) : Nat → Int32
  | 0 => 16
  | i + 1 => uk_fb g i - nI (g i)
def uk_pfr (ki T : Nat → Int32) (p : Int32) : Prop := ∀ o, o < 12 → ¬ ((ki o = 2 ∨ ki o = 3) ∧ T o = p)
theorem uk_okp {P zo H oh ok ki T om mo op : Nat → Int32} (hO : uk_Ok oh ok ki T om mo op) (hh : uk_Ho P zo H oh) {o : Nat} (ho : o < 12) : (¬ oh o ≤ 0 ∧ ok o ≠ 1) ↔ (ki o = 2 ∨ ki o = 3) := sorry
section
variable {x_changes x_saidCount x_time x_lastSlot x_sliceSteps x_latestPid x_greatestPid : Int32} {x_code x_codeLengths x_pids x_parents x_programs x_places x_states x_statuses x_stepCounts x_copyCounts x_wakeTimes x_registers x_pageCounts x_pageFrames x_held x_frameUsers x_frameWords x_openHolders x_openKinds x_openTargets x_openPlaces x_openModes x_pipeFirsts x_pipeCounts x_pipeWords x_nameFiles x_fileSizes x_fileWords x_safeNames x_safeSizes x_safeWords x_saidInts : Nat → Int32} {y_time y_last y_lastPid y_did y_killed : Int32} {y_ops y_as y_bs y_pages y_wake y_zombie y_blocked y_memory y_frame y_kind y_mode y_pipe y_size y_safeSize y_said : Nat → Int32}
theorem xk_isFree {post : Int32 → Prop} {f : Nat} (hO : uk_Ok x_openHolders x_openKinds y_kind x_openTargets x_openModes y_mode x_openPlaces) (hh : uk_Ho x_pids y_zombie x_held x_openHolders) (ht : uk_fre x_nameFiles y_kind x_openTargets f → post 1) (hf : ¬ uk_fre x_nameFiles y_kind x_openTargets f → post 0) : wpX_isFreeFile post (x_changes, x_saidCount, x_time, x_lastSlot, x_sliceSteps, x_latestPid, x_greatestPid, x_code, x_codeLengths, x_pids, x_parents, x_programs, x_places, x_states, x_statuses, x_stepCounts, x_copyCounts, x_wakeTimes, x_registers, x_pageCounts, x_pageFrames, x_held, x_frameUsers, x_frameWords, x_openHolders, x_openKinds, x_openTargets, x_openPlaces, x_openModes, x_pipeFirsts, x_pipeCounts, x_pipeWords, x_nameFiles, x_fileSizes, x_fileWords, x_safeNames, x_safeSizes, x_safeWords, x_saidInts) (nI f) := sorry
theorem xk_freeFile {post : Int32 → Prop} (hO : uk_Ok x_openHolders x_openKinds y_kind x_openTargets x_openModes y_mode x_openPlaces) (hh : uk_Ho x_pids y_zombie x_held x_openHolders) (h : post (uk_ff (fun f => uk_fre x_nameFiles y_kind x_openTargets f) 8)) : wpX_freeFile post (x_changes, x_saidCount, x_time, x_lastSlot, x_sliceSteps, x_latestPid, x_greatestPid, x_code, x_codeLengths, x_pids, x_parents, x_programs, x_places, x_states, x_statuses, x_stepCounts, x_copyCounts, x_wakeTimes, x_registers, x_pageCounts, x_pageFrames, x_held, x_frameUsers, x_frameWords, x_openHolders, x_openKinds, x_openTargets, x_openPlaces, x_openModes, x_pipeFirsts, x_pipeCounts, x_pipeWords, x_nameFiles, x_fileSizes, x_fileWords, x_safeNames, x_safeSizes, x_safeWords, x_saidInts) := sorry
theorem xk_countFreeFiles {post : Int32 → Prop} (hO : uk_Ok x_openHolders x_openKinds y_kind x_openTargets x_openModes y_mode x_openPlaces) (hh : uk_Ho x_pids y_zombie x_held x_openHolders) (h : post (nI (uk_cn (fun f => uk_fre x_nameFiles y_kind x_openTargets f) 8))) : wpX_countFreeFiles post (x_changes, x_saidCount, x_time, x_lastSlot, x_sliceSteps, x_latestPid, x_greatestPid, x_code, x_codeLengths, x_pids, x_parents, x_programs, x_places, x_states, x_statuses, x_stepCounts, x_copyCounts, x_wakeTimes, x_registers, x_pageCounts, x_pageFrames, x_held, x_frameUsers, x_frameWords, x_openHolders, x_openKinds, x_openTargets, x_openPlaces, x_openModes, x_pipeFirsts, x_pipeCounts, x_pipeWords, x_nameFiles, x_fileSizes, x_fileWords, x_safeNames, x_safeSizes, x_safeWords, x_saidInts) := sorry
theorem xk_isPipe {post : Int32 → Prop} {p : Int32} (hO : uk_Ok x_openHolders x_openKinds y_kind x_openTargets x_openModes y_mode x_openPlaces) (hh : uk_Ho x_pids y_zombie x_held x_openHolders) (ht : uk_pfr y_kind x_openTargets p → post 1) (hf : ¬ uk_pfr y_kind x_openTargets p → post 0) : wpX_isFreePipe post (x_changes, x_saidCount, x_time, x_lastSlot, x_sliceSteps, x_latestPid, x_greatestPid, x_code, x_codeLengths, x_pids, x_parents, x_programs, x_places, x_states, x_statuses, x_stepCounts, x_copyCounts, x_wakeTimes, x_registers, x_pageCounts, x_pageFrames, x_held, x_frameUsers, x_frameWords, x_openHolders, x_openKinds, x_openTargets, x_openPlaces, x_openModes, x_pipeFirsts, x_pipeCounts, x_pipeWords, x_nameFiles, x_fileSizes, x_fileWords, x_safeNames, x_safeSizes, x_safeWords, x_saidInts) p := sorry
theorem xk_freePipe {post : Int32 → Prop} (hO : uk_Ok x_openHolders x_openKinds y_kind x_openTargets x_openModes y_mode x_openPlaces) (hh : uk_Ho x_pids y_zombie x_held x_openHolders) (h : post (uk_ff (fun p => uk_pfr y_kind x_openTargets (nI p)) 4)) : wpX_freePipe post (x_changes, x_saidCount, x_time, x_lastSlot, x_sliceSteps, x_latestPid, x_greatestPid, x_code, x_codeLengths, x_pids, x_parents, x_programs, x_places, x_states, x_statuses, x_stepCounts, x_copyCounts, x_wakeTimes, x_registers, x_pageCounts, x_pageFrames, x_held, x_frameUsers, x_frameWords, x_openHolders, x_openKinds, x_openTargets, x_openPlaces, x_openModes, x_pipeFirsts, x_pipeCounts, x_pipeWords, x_nameFiles, x_fileSizes, x_fileWords, x_safeNames, x_safeSizes, x_safeWords, x_saidInts) := sorry
theorem xk_countPipes {post : Int32 → Prop} (hO : uk_Ok x_openHolders x_openKinds y_kind x_openTargets x_openModes y_mode x_openPlaces) (hh : uk_Ho x_pids y_zombie x_held x_openHolders) (h : post (nI (uk_cn (fun p => ¬ uk_pfr y_kind x_openTargets (nI p)) 4))) : wpX_countPipes post (x_changes, x_saidCount, x_time, x_lastSlot, x_sliceSteps, x_latestPid, x_greatestPid, x_code, x_codeLengths, x_pids, x_parents, x_programs, x_places, x_states, x_statuses, x_stepCounts, x_copyCounts, x_wakeTimes, x_registers, x_pageCounts, x_pageFrames, x_held, x_frameUsers, x_frameWords, x_openHolders, x_openKinds, x_openTargets, x_openPlaces, x_openModes, x_pipeFirsts, x_pipeCounts, x_pipeWords, x_nameFiles, x_fileSizes, x_fileWords, x_safeNames, x_safeSizes, x_safeWords, x_saidInts) := sorry
theorem xk_countFreeBlocks {post : Int32 → Prop} (hO : uk_Ok x_openHolders x_openKinds y_kind x_openTargets x_openModes y_mode x_openPlaces) (hh : uk_Ho x_pids y_zombie x_held x_openHolders) (hF : uk_Fi x_nameFiles y_kind x_openTargets x_fileSizes y_size) (h : post (uk_fb (fun f => ((y_size f).toNatClampNeg + 3) / 4) 8)) : wpX_countFreeBlocks post (x_changes, x_saidCount, x_time, x_lastSlot, x_sliceSteps, x_latestPid, x_greatestPid, x_code, x_codeLengths, x_pids, x_parents, x_programs, x_places, x_states, x_statuses, x_stepCounts, x_copyCounts, x_wakeTimes, x_registers, x_pageCounts, x_pageFrames, x_held, x_frameUsers, x_frameWords, x_openHolders, x_openKinds, x_openTargets, x_openPlaces, x_openModes, x_pipeFirsts, x_pipeCounts, x_pipeWords, x_nameFiles, x_fileSizes, x_fileWords, x_safeNames, x_safeSizes, x_safeWords, x_saidInts) := sorry
theorem yk_isPipe {post : Int32 → Prop} {p : Int32} (ht : ¬ uk_pfr y_kind x_openTargets p → post 1) (hf : uk_pfr y_kind x_openTargets p → post 0) : wpY_isPipe post (x_changes, y_time, y_last, y_lastPid, y_did, x_greatestPid, x_latestPid, x_saidCount, y_killed, y_ops, y_as, y_bs, x_codeLengths, x_pids, x_parents, x_programs, x_places, x_statuses, x_stepCounts, x_copyCounts, y_pages, y_wake, y_zombie, y_blocked, x_registers, y_memory, y_frame, x_held, y_kind, x_openTargets, y_mode, x_openPlaces, x_pipeCounts, y_pipe, x_nameFiles, y_size, x_fileWords, x_safeNames, y_safeSize, x_safeWords, y_said) p := sorry
theorem yk_freePipe {post : Int32 → Prop} (h : post (uk_ff (fun p => uk_pfr y_kind x_openTargets (nI p)) 4)) : wpY_freePipe post (x_changes, y_time, y_last, y_lastPid, y_did, x_greatestPid, x_latestPid, x_saidCount, y_killed, y_ops, y_as, y_bs, x_codeLengths, x_pids, x_parents, x_programs, x_places, x_statuses, x_stepCounts, x_copyCounts, y_pages, y_wake, y_zombie, y_blocked, x_registers, y_memory, y_frame, x_held, y_kind, x_openTargets, y_mode, x_openPlaces, x_pipeCounts, y_pipe, x_nameFiles, y_size, x_fileWords, x_safeNames, y_safeSize, x_safeWords, y_said) := sorry
theorem yk_freeBlocks {post : Int32 → Prop} (hF : uk_Fi x_nameFiles y_kind x_openTargets x_fileSizes y_size) (h : post (uk_fb (fun f => ((y_size f).toNatClampNeg + 3) / 4) 8)) : wpY_freeBlocks post (x_changes, y_time, y_last, y_lastPid, y_did, x_greatestPid, x_latestPid, x_saidCount, y_killed, y_ops, y_as, y_bs, x_codeLengths, x_pids, x_parents, x_programs, x_places, x_statuses, x_stepCounts, x_copyCounts, y_pages, y_wake, y_zombie, y_blocked, x_registers, y_memory, y_frame, x_held, y_kind, x_openTargets, y_mode, x_openPlaces, x_pipeCounts, y_pipe, x_nameFiles, y_size, x_fileWords, x_safeNames, y_safeSize, x_safeWords, y_said) := sorry
theorem xk_leastZombie {post : Int32 → Prop} {s : Nat} (hs : s < 8) (h : post (uk_be x_pids (fun c => x_pids c ≠ 0 ∧ x_states c = 3 ∧ x_parents c = x_pids s) 8)) : wpX_leastZombie post (x_changes, x_saidCount, x_time, x_lastSlot, x_sliceSteps, x_latestPid, x_greatestPid, x_code, x_codeLengths, x_pids, x_parents, x_programs, x_places, x_states, x_statuses, x_stepCounts, x_copyCounts, x_wakeTimes, x_registers, x_pageCounts, x_pageFrames, x_held, x_frameUsers, x_frameWords, x_openHolders, x_openKinds, x_openTargets, x_openPlaces, x_openModes, x_pipeFirsts, x_pipeCounts, x_pipeWords, x_nameFiles, x_fileSizes, x_fileWords, x_safeNames, x_safeSizes, x_safeWords, x_saidInts) (nI s) := sorry
end
end
section
/-! the calls that only read, first part -/
theorem yk_nom {post : Int32 → Prop} {x m : Int32} (n : Nat) (hm : m = nI n - 1) (hb : n < 2 ^ 31) (hf : vp_in x n → post 0) (ht : ¬ vp_in x n → post 1) : wpY_no post x m := sorry
theorem i_vc_name {k : Nat} {u : SX} {v : SY} (I : i_Rel k u v) (hk : k + 5 ≤ 2560) (v1 : Int32) : wpX_name (fun r => wpY_name (fun r' => r' = r ∧ i_Rel (k + 5) u v) v v1) u v1 := sorry
theorem i_vc_said {k : Nat} {u : SX} {v : SY} (I : i_Rel k u v) (hk : k + 5 ≤ 2560) (v1 : Int32) : wpX_said (fun r => wpY_said (fun r' => r' = r ∧ i_Rel (k + 5) u v) v v1) u v1 := sorry
theorem i_vc_word {k : Nat} {u : SX} {v : SY} (I : i_Rel k u v) (hk : k + 5 ≤ 2560) (v1 : Int32) (v2 : Int32) : wpX_word (fun r => wpY_word (fun r' => r' = r ∧ i_Rel (k + 5) u v) v v1 v2) u v1 v2 := sorry
section
variable {x_changes x_saidCount x_time x_lastSlot x_sliceSteps x_latestPid x_greatestPid : Int32} {x_code x_codeLengths x_pids x_parents x_programs x_places x_states x_statuses x_stepCounts x_copyCounts x_wakeTimes x_registers x_pageCounts x_pageFrames x_held x_frameUsers x_frameWords x_openHolders x_openKinds x_openTargets x_openPlaces x_openModes x_pipeFirsts x_pipeCounts x_pipeWords x_nameFiles x_fileSizes x_fileWords x_safeNames x_safeSizes x_safeWords x_saidInts : Nat → Int32} {y_time y_last y_lastPid y_did y_killed : Int32} {y_ops y_as y_bs y_pages y_wake y_zombie y_blocked y_memory y_frame y_kind y_mode y_pipe y_size y_safeSize y_said : Nat → Int32}
theorem yk_total3 {post : Int32 → Prop} (h : post (nI (uk_cn (fun f => uk_fre x_nameFiles y_kind x_openTargets f) 8))) : ∃ m, wY_total_77 post x_changes y_time y_last y_lastPid y_did x_greatestPid x_latestPid x_saidCount y_killed y_ops y_as y_bs x_codeLengths x_pids x_parents x_programs x_places x_statuses x_stepCounts x_copyCounts y_pages y_wake y_zombie y_blocked x_registers y_memory y_frame x_held y_kind x_openTargets y_mode x_openPlaces x_pipeCounts y_pipe x_nameFiles y_size x_fileWords x_safeNames y_safeSize x_safeWords y_said m 0 0 := sorry
theorem yk_total4 {post : Int32 → Prop} (h : post (nI (uk_cn (fun p => ¬ uk_pfr y_kind x_openTargets (nI p)) 4))) : ∃ m, wY_total_104 post x_changes y_time y_last y_lastPid y_did x_greatestPid x_latestPid x_saidCount y_killed y_ops y_as y_bs x_codeLengths x_pids x_parents x_programs x_places x_statuses x_stepCounts x_copyCounts y_pages y_wake y_zombie y_blocked x_registers y_memory y_frame x_held y_kind x_openTargets y_mode x_openPlaces x_pipeCounts y_pipe x_nameFiles y_size x_fileWords x_safeNames y_safeSize x_safeWords y_said m 0 0 := sorry
end
theorem i_vc_total {k : Nat} {u : SX} {v : SY} (I : i_Rel k u v) (hk : k + 5 ≤ 2560) (v1 : Int32) : wpX_total (fun r => wpY_total (fun r' => r' = r ∧ i_Rel (k + 5) u v) v v1) u v1 := sorry
end
section
/-! the calls that only read, second part -/
section
variable {x_changes x_saidCount x_time x_lastSlot x_sliceSteps x_latestPid x_greatestPid : Int32} {x_code x_codeLengths x_pids x_parents x_programs x_places x_states x_statuses x_stepCounts x_copyCounts x_wakeTimes x_registers x_pageCounts x_pageFrames x_held x_frameUsers x_frameWords x_openHolders x_openKinds x_openTargets x_openPlaces x_openModes x_pipeFirsts x_pipeCounts x_pipeWords x_nameFiles x_fileSizes x_fileWords x_safeNames x_safeSizes x_safeWords x_saidInts : Nat → Int32} {y_time y_last y_lastPid y_did y_killed : Int32} {y_ops y_as y_bs y_pages y_wake y_zombie y_blocked y_memory y_frame y_kind y_mode y_pipe y_size y_safeSize y_said : Nat → Int32}
theorem xk_wordIndex {post : Int32 → Prop} {s n : Nat} {a : Int32} (hs : s < 8) (hn : x_pageCounts s = nI n) (hn8 : n ≤ 8) (hpf : ∀ p, p < n → vp_in (x_pageFrames (8 * s + p)) 20) (h0 : ¬ vp_in a (4 * n) → post (-1)) (h1 : ∀ j, j < 4 * n → a = nI j → post (nI (4 * (x_pageFrames (8 * s + j / 4)).toNatClampNeg + j % 4))) : wpX_wordIndex post (x_changes, x_saidCount, x_time, x_lastSlot, x_sliceSteps, x_latestPid, x_greatestPid, x_code, x_codeLengths, x_pids, x_parents, x_programs, x_places, x_states, x_statuses, x_stepCounts, x_copyCounts, x_wakeTimes, x_registers, x_pageCounts, x_pageFrames, x_held, x_frameUsers, x_frameWords, x_openHolders, x_openKinds, x_openTargets, x_openPlaces, x_openModes, x_pipeFirsts, x_pipeCounts, x_pipeWords, x_nameFiles, x_fileSizes, x_fileWords, x_safeNames, x_safeSizes, x_safeWords, x_saidInts) (nI s) a := sorry
end
theorem uk_slot {P : Nat → Int32} {p : Int32} (h : ¬ p < 1) : (uk_ff (fun s => P s = p) 8 = -1) ∨ (∃ s, s < 8 ∧ uk_ff (fun s => P s = p) 8 = nI s ∧ P s = p ∧ P s ≠ 0) := sorry
theorem i_vc_sharing {k : Nat} {u : SX} {v : SY} (I : i_Rel k u v) (hk : k + 5 ≤ 2560) (v1 : Int32) (v2 : Int32) : wpX_sharing (fun r => wpY_sharing (fun r' => r' = r ∧ i_Rel (k + 5) u v) v v1 v2) u v1 v2 := sorry
theorem i_vc_memory {k : Nat} {u : SX} {v : SY} (I : i_Rel k u v) (hk : k + 5 ≤ 2560) (v1 : Int32) (v2 : Int32) : wpX_memory (fun r => wpY_memory (fun r' => r' = r ∧ i_Rel (k + 5) u v) v v1 v2) u v1 v2 := sorry
section
variable {x_changes x_saidCount x_time x_lastSlot x_sliceSteps x_latestPid x_greatestPid : Int32} {x_code x_codeLengths x_pids x_parents x_programs x_places x_states x_statuses x_stepCounts x_copyCounts x_wakeTimes x_registers x_pageCounts x_pageFrames x_held x_frameUsers x_frameWords x_openHolders x_openKinds x_openTargets x_openPlaces x_openModes x_pipeFirsts x_pipeCounts x_pipeWords x_nameFiles x_fileSizes x_fileWords x_safeNames x_safeSizes x_safeWords x_saidInts : Nat → Int32} {y_time y_last y_lastPid y_did y_killed : Int32} {y_ops y_as y_bs y_pages y_wake y_zombie y_blocked y_memory y_frame y_kind y_mode y_pipe y_size y_safeSize y_said : Nat → Int32}
theorem yk_descriptor {post : Int32 → Prop} {s j : Nat} {v1 v3 : Int32} (hs : s < 8) (hS : ∀ post' : Int32 → Prop, post' (nI s) → wpY_slotOf post' (x_changes, y_time, y_last, y_lastPid, y_did, x_greatestPid, x_latestPid, x_saidCount, y_killed, y_ops, y_as, y_bs, x_codeLengths, x_pids, x_parents, x_programs, x_places, x_statuses, x_stepCounts, x_copyCounts, y_pages, y_wake, y_zombie, y_blocked, x_registers, y_memory, y_frame, x_held, y_kind, x_openTargets, y_mode, x_openPlaces, x_pipeCounts, y_pipe, x_nameFiles, y_size, x_fileWords, x_safeNames, y_safeSize, x_safeWords, y_said) v1) (z1 : y_zombie s = 0) (hj : j < 6) (hv3 : vp_in v3 4) (hP : ∀ s, s < 8 → ¬ x_pids s < 0) (h : (x_held (6 * s + j) = -1 ∧ ((v3 = 0 → post 0) ∧ (¬ v3 = 0 → post (-1)))) ∨ (∃ o, o < 12 ∧ x_held (6 * s + j) = nI o ∧ ((v3 = 0 ∧ post (y_kind o)) ∨ (v3 = 1 ∧ ((y_kind o = 1 → post (x_openTargets o)) ∧ (¬ y_kind o = 1 → post (-1)))) ∨ (v3 = 2 ∧ post (x_openPlaces o)) ∨ (v3 = 3 ∧ post (nI (uk_sm (uk_hw x_pids y_zombie x_held o) 8)))))) : wpY_descriptor post (x_changes, y_time, y_last, y_lastPid, y_did, x_greatestPid, x_latestPid, x_saidCount, y_killed, y_ops, y_as, y_bs, x_codeLengths, x_pids, x_parents, x_programs, x_places, x_statuses, x_stepCounts, x_copyCounts, y_pages, y_wake, y_zombie, y_blocked, x_registers, y_memory, y_frame, x_held, y_kind, x_openTargets, y_mode, x_openPlaces, x_pipeCounts, y_pipe, x_nameFiles, y_size, x_fileWords, x_safeNames, y_safeSize, x_safeWords, y_said) v1 (nI j) v3 := sorry
end
theorem uk_3lt {x : Int32} (h : 3 < x) : (4 : Int32) ≤ x := sorry
theorem uk_4le {x : Int32} (h : (4 : Int32) ≤ x) : 3 < x := sorry
theorem i_vc_descriptor {k : Nat} {u : SX} {v : SY} (I : i_Rel k u v) (hk : k + 5 ≤ 2560) (v1 : Int32) (v2 : Int32) (v3 : Int32) : wpX_descriptor (fun r => wpY_descriptor (fun r' => r' = r ∧ i_Rel (k + 5) u v) v v1 v2 v3) u v1 v2 v3 := sorry
theorem i_vc_file {k : Nat} {u : SX} {v : SY} (I : i_Rel k u v) (hk : k + 5 ≤ 2560) (v1 : Int32) (v2 : Int32) : wpX_file (fun r => wpY_file (fun r' => r' = r ∧ i_Rel (k + 5) u v) v v1 v2) u v1 v2 := sorry
end
section
/-! who is ready -/
theorem uk_hk {P zo H oh ok ki T om mo op : Nat → Int32} {s d o : Nat} (hHo : uk_Ho P zo H oh) (hOk : uk_Ok oh ok ki T om mo op) (hs : s < 8) (hp : P s ≠ 0) (hz : zo s = 0) (hd : d < 6) (ho : o < 12) (e : H (6 * s + d) = nI o) : oh o ≠ 0 ∧ ok o = ki o ∧ ((ki o = 1 ∧ om o = mo o ∧ mo o &&& 3 ≠ 0 ∧ vp_in (T o) 8) ∨ (ki o = 2 ∧ om o = 1 ∧ vp_in (T o) 4) ∨ (ki o = 3 ∧ om o = 2 ∧ vp_in (T o) 4)) := sorry
theorem uk_n12 : ¬ (1 : Int32) = 2 := sorry
theorem uk_n13 : ¬ (1 : Int32) = 3 := sorry
theorem uk_n23 : ¬ (2 : Int32) = 3 := sorry
theorem uk_n32 : ¬ (3 : Int32) = 2 := sorry
theorem uk_m11 : (1 : Int32) &&& 1 ≠ 0 := sorry
theorem uk_m21 : (2 : Int32) &&& 1 = 0 := sorry
theorem uk_m22 : (2 : Int32) &&& 2 ≠ 0 := sorry
theorem uk_m12 : (1 : Int32) &&& 2 = 0 := sorry
theorem uk_nIn {a b : Nat} (ha : a < 2 ^ 31) (hb : b < 2 ^ 31) (h : nI a = nI b) : a = b := sorry
section
variable {x_changes x_saidCount x_time x_lastSlot x_sliceSteps x_latestPid x_greatestPid : Int32} {x_code x_codeLengths x_pids x_parents x_programs x_places x_states x_statuses x_stepCounts x_copyCounts x_wakeTimes x_registers x_pageCounts x_pageFrames x_held x_frameUsers x_frameWords x_openHolders x_openKinds x_openTargets x_openPlaces x_openModes x_pipeFirsts x_pipeCounts x_pipeWords x_nameFiles x_fileSizes x_fileWords x_safeNames x_safeSizes x_safeWords x_saidInts : Nat → Int32} {y_time y_last y_lastPid y_did y_killed : Int32} {y_ops y_as y_bs y_pages y_wake y_zombie y_blocked y_memory y_frame y_kind y_mode y_pipe y_size y_safeSize y_said : Nat → Int32}
theorem xk_openFor {post : Int32 → Prop} {s : Nat} {m : Int32} (hs : s < 8) (hH : ∀ d, d < 6 → x_held (6 * s + d) = -1 ∨ vp_in (x_held (6 * s + d)) 12) (h0 : (¬ ∃ d o, d < 6 ∧ o < 12 ∧ x_registers (4 * s) = nI d ∧ x_held (6 * s + d) = nI o ∧ x_openModes o &&& m ≠ 0) → post (-1)) (h1 : ∀ d o, d < 6 → o < 12 → x_registers (4 * s) = nI d → x_held (6 * s + d) = nI o → x_openModes o &&& m ≠ 0 → post (nI o)) : wpX_openFor post (x_changes, x_saidCount, x_time, x_lastSlot, x_sliceSteps, x_latestPid, x_greatestPid, x_code, x_codeLengths, x_pids, x_parents, x_programs, x_places, x_states, x_statuses, x_stepCounts, x_copyCounts, x_wakeTimes, x_registers, x_pageCounts, x_pageFrames, x_held, x_frameUsers, x_frameWords, x_openHolders, x_openKinds, x_openTargets, x_openPlaces, x_openModes, x_pipeFirsts, x_pipeCounts, x_pipeWords, x_nameFiles, x_fileSizes, x_fileWords, x_safeNames, x_safeSizes, x_safeWords, x_saidInts) (nI s) m := sorry
theorem uk_ends (hHo : uk_Ho x_pids y_zombie x_held x_openHolders) (hOk : uk_Ok x_openHolders x_openKinds y_kind x_openTargets x_openModes y_mode x_openPlaces) {k p : Int32} (hk : k ≠ 0) : nI (uk_cn (fun o => ¬ x_openHolders o ≤ 0 ∧ x_openKinds o = k ∧ x_openTargets o = p) 12) ≤ 0 ↔ ¬ ∃ e, e < 12 ∧ y_kind e = k ∧ x_openTargets e = p := sorry
theorem xk_readBlocks {post : Int32 → Prop} {s : Nat} (hHd : uk_Hd x_pids y_zombie x_held) (hHo : uk_Ho x_pids y_zombie x_held x_openHolders) (hOk : uk_Ok x_openHolders x_openKinds y_kind x_openTargets x_openModes y_mode x_openPlaces) (hs : s < 8) (hp : x_pids s ≠ 0) (hz : y_zombie s = 0) (ht : uk_Bk x_pids x_parents y_zombie x_registers x_held y_kind x_openTargets x_pipeCounts s 7 → post 1) (hf : ¬ uk_Bk x_pids x_parents y_zombie x_registers x_held y_kind x_openTargets x_pipeCounts s 7 → post 0) : wpX_readBlocks post (x_changes, x_saidCount, x_time, x_lastSlot, x_sliceSteps, x_latestPid, x_greatestPid, x_code, x_codeLengths, x_pids, x_parents, x_programs, x_places, x_states, x_statuses, x_stepCounts, x_copyCounts, x_wakeTimes, x_registers, x_pageCounts, x_pageFrames, x_held, x_frameUsers, x_frameWords, x_openHolders, x_openKinds, x_openTargets, x_openPlaces, x_openModes, x_pipeFirsts, x_pipeCounts, x_pipeWords, x_nameFiles, x_fileSizes, x_fileWords, x_safeNames, x_safeSizes, x_safeWords, x_saidInts) (nI s) := sorry
theorem uk_c4 {C pf pw pi : Nat → Int32} (h : uk_Pi C pf pw pi) {x : Int32} (hx : vp_in x 4) : (C x.toNatClampNeg < 4 ↔ ¬ C x.toNatClampNeg = 4) ∧ (¬ 0 < C x.toNatClampNeg ↔ C x.toNatClampNeg = 0) := sorry
theorem xk_writeBlocks {post : Int32 → Prop} {s : Nat} (hHd : uk_Hd x_pids y_zombie x_held) (hHo : uk_Ho x_pids y_zombie x_held x_openHolders) (hOk : uk_Ok x_openHolders x_openKinds y_kind x_openTargets x_openModes y_mode x_openPlaces) (hPi : uk_Pi x_pipeCounts x_pipeFirsts x_pipeWords y_pipe) (hs : s < 8) (hp : x_pids s ≠ 0) (hz : y_zombie s = 0) (ht : uk_Bk x_pids x_parents y_zombie x_registers x_held y_kind x_openTargets x_pipeCounts s 8 → post 1) (hf : ¬ uk_Bk x_pids x_parents y_zombie x_registers x_held y_kind x_openTargets x_pipeCounts s 8 → post 0) : wpX_writeBlocks post (x_changes, x_saidCount, x_time, x_lastSlot, x_sliceSteps, x_latestPid, x_greatestPid, x_code, x_codeLengths, x_pids, x_parents, x_programs, x_places, x_states, x_statuses, x_stepCounts, x_copyCounts, x_wakeTimes, x_registers, x_pageCounts, x_pageFrames, x_held, x_frameUsers, x_frameWords, x_openHolders, x_openKinds, x_openTargets, x_openPlaces, x_openModes, x_pipeFirsts, x_pipeCounts, x_pipeWords, x_nameFiles, x_fileSizes, x_fileWords, x_safeNames, x_safeSizes, x_safeWords, x_saidInts) (nI s) := sorry
theorem uk_zst (hPs : uk_Ps x_pids x_parents x_programs x_places x_statuses x_states y_zombie y_blocked) {c : Nat} (hc : c < 8) (hp : x_pids c ≠ 0) : x_states c = 3 ↔ y_zombie c = 1 := sorry
theorem xk_wouldBlock {post : Int32 → Prop} {s : Nat} {c : Int32} (hPs : uk_Ps x_pids x_parents x_programs x_places x_statuses x_states y_zombie y_blocked) (hHd : uk_Hd x_pids y_zombie x_held) (hHo : uk_Ho x_pids y_zombie x_held x_openHolders) (hOk : uk_Ok x_openHolders x_openKinds y_kind x_openTargets x_openModes y_mode x_openPlaces) (hPi : uk_Pi x_pipeCounts x_pipeFirsts x_pipeWords y_pipe) (hs : s < 8) (hp : x_pids s ≠ 0) (hz : y_zombie s = 0) (h14 : c ≠ 14) (ht : uk_Bk x_pids x_parents y_zombie x_registers x_held y_kind x_openTargets x_pipeCounts s c → post 1) (hf : ¬ uk_Bk x_pids x_parents y_zombie x_registers x_held y_kind x_openTargets x_pipeCounts s c → post 0) : wpX_wouldBlock post (x_changes, x_saidCount, x_time, x_lastSlot, x_sliceSteps, x_latestPid, x_greatestPid, x_code, x_codeLengths, x_pids, x_parents, x_programs, x_places, x_states, x_statuses, x_stepCounts, x_copyCounts, x_wakeTimes, x_registers, x_pageCounts, x_pageFrames, x_held, x_frameUsers, x_frameWords, x_openHolders, x_openKinds, x_openTargets, x_openPlaces, x_openModes, x_pipeFirsts, x_pipeCounts, x_pipeWords, x_nameFiles, x_fileSizes, x_fileWords, x_safeNames, x_safeSizes, x_safeWords, x_saidInts) (nI s) c := sorry
end
end
section
/-! who is ready, Y's side; the choice -/
section
variable {x_changes x_saidCount x_time x_lastSlot x_sliceSteps x_latestPid x_greatestPid : Int32} {x_code x_codeLengths x_pids x_parents x_programs x_places x_states x_statuses x_stepCounts x_copyCounts x_wakeTimes x_registers x_pageCounts x_pageFrames x_held x_frameUsers x_frameWords x_openHolders x_openKinds x_openTargets x_openPlaces x_openModes x_pipeFirsts x_pipeCounts x_pipeWords x_nameFiles x_fileSizes x_fileWords x_safeNames x_safeSizes x_safeWords x_saidInts : Nat → Int32} {y_time y_last y_lastPid y_did y_killed : Int32} {y_ops y_as y_bs y_pages y_wake y_zombie y_blocked y_memory y_frame y_kind y_mode y_pipe y_size y_safeSize y_said : Nat → Int32}
theorem yk_child {post : Int32 → Prop} {s : Nat} {w : Int32} (hs : s < 8) (Z : Nat → Prop) (hZ : ∀ c, c < 8 → (Z c ↔ (x_pids c ≠ 0 ∧ x_parents c = x_pids s ∧ (w ≠ 0 → y_zombie c ≠ 0)))) (h : post (uk_be x_pids Z 8)) : wpY_child post (x_changes, y_time, y_last, y_lastPid, y_did, x_greatestPid, x_latestPid, x_saidCount, y_killed, y_ops, y_as, y_bs, x_codeLengths, x_pids, x_parents, x_programs, x_places, x_statuses, x_stepCounts, x_copyCounts, y_pages, y_wake, y_zombie, y_blocked, x_registers, y_memory, y_frame, x_held, y_kind, x_openTargets, y_mode, x_openPlaces, x_pipeCounts, y_pipe, x_nameFiles, y_size, x_fileWords, x_safeNames, y_safeSize, x_safeWords, y_said) (nI s) w := sorry
theorem yk_child1 {post : Int32 → Prop} {s : Nat} (hPs : uk_Ps x_pids x_parents x_programs x_places x_statuses x_states y_zombie y_blocked) (hs : s < 8) (h : post (uk_be x_pids (fun c => x_pids c ≠ 0 ∧ x_states c = 3 ∧ x_parents c = x_pids s) 8)) : wpY_child post (x_changes, y_time, y_last, y_lastPid, y_did, x_greatestPid, x_latestPid, x_saidCount, y_killed, y_ops, y_as, y_bs, x_codeLengths, x_pids, x_parents, x_programs, x_places, x_statuses, x_stepCounts, x_copyCounts, y_pages, y_wake, y_zombie, y_blocked, x_registers, y_memory, y_frame, x_held, y_kind, x_openTargets, y_mode, x_openPlaces, x_pipeCounts, y_pipe, x_nameFiles, y_size, x_fileWords, x_safeNames, y_safeSize, x_safeWords, y_said) (nI s) 1 := sorry
theorem yk_child0 {post : Int32 → Prop} {s : Nat} (hs : s < 8) (h1 : (∃ k, k < 8 ∧ x_pids k ≠ 0 ∧ x_parents k = x_pids s) → ∀ i, i < 8 → post (nI i)) (h0 : (∀ k, k < 8 → ¬ (x_pids k ≠ 0 ∧ x_parents k = x_pids s)) → post (-1)) : wpY_child post (x_changes, y_time, y_last, y_lastPid, y_did, x_greatestPid, x_latestPid, x_saidCount, y_killed, y_ops, y_as, y_bs, x_codeLengths, x_pids, x_parents, x_programs, x_places, x_statuses, x_stepCounts, x_copyCounts, y_pages, y_wake, y_zombie, y_blocked, x_registers, y_memory, y_frame, x_held, y_kind, x_openTargets, y_mode, x_openPlaces, x_pipeCounts, y_pipe, x_nameFiles, y_size, x_fileWords, x_safeNames, y_safeSize, x_safeWords, y_said) (nI s) 0 := sorry
theorem yk_waits {post : Int32 → Prop} {s : Nat} {c : Int32} (hPs : uk_Ps x_pids x_parents x_programs x_places x_statuses x_states y_zombie y_blocked) (hHd : uk_Hd x_pids y_zombie x_held) (hHo : uk_Ho x_pids y_zombie x_held x_openHolders) (hOk : uk_Ok x_openHolders x_openKinds y_kind x_openTargets x_openModes y_mode x_openPlaces) (hs : s < 8) (hp : x_pids s ≠ 0) (hz : y_zombie s = 0) (h14 : c ≠ 14) (ht : uk_Bk x_pids x_parents y_zombie x_registers x_held y_kind x_openTargets x_pipeCounts s c → post 1) (hf : ¬ uk_Bk x_pids x_parents y_zombie x_registers x_held y_kind x_openTargets x_pipeCounts s c → post 0) : wpY_waits post (x_changes, y_time, y_last, y_lastPid, y_did, x_greatestPid, x_latestPid, x_saidCount, y_killed, y_ops, y_as, y_bs, x_codeLengths, x_pids, x_parents, x_programs, x_places, x_statuses, x_stepCounts, x_copyCounts, y_pages, y_wake, y_zombie, y_blocked, x_registers, y_memory, y_frame, x_held, y_kind, x_openTargets, y_mode, x_openPlaces, x_pipeCounts, y_pipe, x_nameFiles, y_size, x_fileWords, x_safeNames, y_safeSize, x_safeWords, y_said) (nI s) c (x_registers (4 * s)) := sorry
end
end
section
/-! who is ready, both sides; the choice -/
theorem uk_cix (g l : Nat) : (nI g * 24 + nI l) * 3 = nI (3 * (24 * g + l)) := by rw [uk_m24, nI_add, uk_m3]
theorem uk_cix2 (g l : Nat) : (nI g * 24 + nI l) * 3 + 2 = nI (3 * (24 * g + l) + 2) := by rw [uk_cix]; exact nI_add _ 2
theorem uk_cix1 (g l : Nat) : (nI g * 24 + nI l) * 3 + 1 = nI (3 * (24 * g + l) + 1) := by rw [uk_cix]; exact nI_add _ 1
section
variable {x_changes x_saidCount x_time x_lastSlot x_sliceSteps x_latestPid x_greatestPid : Int32} {x_code x_codeLengths x_pids x_parents x_programs x_places x_states x_statuses x_stepCounts x_copyCounts x_wakeTimes x_registers x_pageCounts x_pageFrames x_held x_frameUsers x_frameWords x_openHolders x_openKinds x_openTargets x_openPlaces x_openModes x_pipeFirsts x_pipeCounts x_pipeWords x_nameFiles x_fileSizes x_fileWords x_safeNames x_safeSizes x_safeWords x_saidInts : Nat → Int32} {y_time y_last y_lastPid y_did y_killed : Int32} {y_ops y_as y_bs y_pages y_wake y_zombie y_blocked y_memory y_frame y_kind y_mode y_pipe y_size y_safeSize y_said : Nat → Int32}
theorem uk_gl (hPr : uk_Pr x_code x_codeLengths y_ops y_as y_bs) (hPs : uk_Ps x_pids x_parents x_programs x_places x_statuses x_states y_zombie y_blocked) {s : Nat} (hs : s < 8) : ∃ g l m, g < 6 ∧ l ≤ 24 ∧ m ≤ 24 ∧ x_programs s = nI g ∧ x_places s = nI l ∧ x_codeLengths g = nI m ∧ (∀ j, j < m → uk_val (x_code (3 * (24 * g + j))) (x_code (3 * (24 * g + j) + 1)) (x_code (3 * (24 * g + j) + 2))) := by
  obtain ⟨_, _, h3, h4, _⟩ := hPs s hs
  obtain ⟨g, hg, eg⟩ := vp_in_of h3 (by decide)
  obtain ⟨l, hl, el⟩ := vp_in_of h4 (by decide)
  obtain ⟨m, hm, em, hv⟩ := hPr.2 g hg
  exact ⟨g, l, m, hg, by omega, hm, eg, el, em, hv⟩
theorem xk_isReady {post : Int32 → Prop} {s t : Nat} (hs : s < 8) (hPr : uk_Pr x_code x_codeLengths y_ops y_as y_bs) (hPs : uk_Ps x_pids x_parents x_programs x_places x_statuses x_states y_zombie y_blocked) (hHd : uk_Hd x_pids y_zombie x_held) (hHo : uk_Ho x_pids y_zombie x_held x_openHolders) (hOk : uk_Ok x_openHolders x_openKinds y_kind x_openTargets x_openModes y_mode x_openPlaces) (hPi : uk_Pi x_pipeCounts x_pipeFirsts x_pipeWords y_pipe) (hWk : uk_Wk x_pids y_zombie y_blocked x_programs x_places x_codeLengths y_ops y_bs x_wakeTimes y_wake x_registers x_held y_kind t) (ht : uk_Rd x_pids x_parents y_zombie y_blocked x_programs x_places y_bs y_wake x_registers x_held y_kind x_openTargets x_pipeCounts x_time s → post 1) (hf : ¬ uk_Rd x_pids x_parents y_zombie y_blocked x_programs x_places y_bs y_wake x_registers x_held y_kind x_openTargets x_pipeCounts x_time s → post 0) : wpX_isReady post (x_changes, x_saidCount, x_time, x_lastSlot, x_sliceSteps, x_latestPid, x_greatestPid, x_code, x_codeLengths, x_pids, x_parents, x_programs, x_places, x_states, x_statuses, x_stepCounts, x_copyCounts, x_wakeTimes, x_registers, x_pageCounts, x_pageFrames, x_held, x_frameUsers, x_frameWords, x_openHolders, x_openKinds, x_openTargets, x_openPlaces, x_openModes, x_pipeFirsts, x_pipeCounts, x_pipeWords, x_nameFiles, x_fileSizes, x_fileWords, x_safeNames, x_safeSizes, x_safeWords, x_saidInts) (nI s) := by
  obtain ⟨_, vs, es⟩ := uk_lp 8 hs (by decide)
  unfold wpX_isReady
  refine ⟨vs, ?_⟩
  rw [es]
  refine ⟨fun a => hf (fun z => z.1 a), fun hp => ⟨vs, ?_⟩⟩
  rcases (hPs s hs).2.2.2.2.2.2 hp with ⟨a, b⟩ | ⟨hz, _, b⟩
  · rw [b]
    exact br_t rfl (hf (fun z => absurd (a.symm.trans z.2.1) (by decide)))
  rcases b with ⟨b1, b2⟩ | ⟨b1, b2⟩
  · rw [b2]
    exact br_f (by decide) ⟨vs, br_t rfl (ht ⟨hp, hz, Or.inl b1⟩)⟩
  rw [b2]
  refine br_f (by decide) ⟨vs, br_f (by decide) ⟨vs, vs, ?_⟩⟩
  rcases hWk s hs hp hz with ⟨w, _⟩ | ⟨_, w1, w2, w3⟩
  · exact absurd (b1.symm.trans w) (by decide)
  obtain ⟨g, l, m, hg, hl, hm, eg, el, em, _⟩ := uk_gl hPr hPs hs
  unfold wpX_codeIndex
  dsimp only
  rw [eg, el, nI_clamp (show g < 2 ^ 31 by omega), em, nI_clamp (show l < 2 ^ 31 by omega), nI_clamp (show m < 2 ^ 31 by omega)] at w1
  rw [eg, el, nI_clamp (show g < 2 ^ 31 by omega), nI_clamp (show l < 2 ^ 31 by omega)] at w3
  have hR : uk_Rd x_pids x_parents y_zombie y_blocked x_programs x_places y_bs y_wake x_registers x_held y_kind x_openTargets x_pipeCounts x_time s ↔ ((y_bs (24 * g + l) ≠ 14 ∧ ¬ uk_Bk x_pids x_parents y_zombie x_registers x_held y_kind x_openTargets x_pipeCounts s (y_bs (24 * g + l))) ∨ (y_bs (24 * g + l) = 14 ∧ y_wake s ≤ x_time)) := by
    unfold uk_Rd
    rw [eg, el, nI_clamp (show g < 2 ^ 31 by omega), nI_clamp (show l < 2 ^ 31 by omega)]
    exact ⟨fun z => z.2.2.resolve_left (fun w => absurd (b1.symm.trans w) (by decide)), fun z => ⟨hp, hz, Or.inr z⟩⟩
  rw [eg, el, uk_cix2, nI_clamp (show 3 * (24 * g + l) + 2 < 2 ^ 31 by omega), ← (hPr.1 (24 * g + l) (by omega)).2.1]
  refine ⟨vp_in_nI (by omega) (by decide), ?_⟩
  by_cases h14 : y_bs (24 * g + l) = 14
  · rcases w3 with ⟨_, w, hw, hw2, e1, e2⟩ | ⟨_, _, w3⟩
    · rw [h14]
      unfold wpX_wouldBlock
      refine br_f (by decide) (br_f (by decide) (br_f (by decide) (br_t rfl ⟨vs, ?_⟩)))
      rw [es, e1, ← e2]
      exact ⟨fun q => br_t rfl (ht (hR.mpr (Or.inr ⟨h14, q⟩))), fun q => br_f (by decide) (hf (fun z => by
        rcases hR.mp z with y | y
        · exact y.1 h14
        · exact q y.2))⟩
    · rw [h14] at w3
      rcases w3 with w3 | w3 | w3
      · exact absurd w3 (by decide)
      · exact absurd w3.1 (by decide)
      · exact absurd w3.1 (by decide)
  · exact xk_wouldBlock hPs hHd hHo hOk hPi hs hp hz h14 (fun q => br_f (by decide) (hf (fun z => by
      rcases hR.mp z with y | y
      · exact y.2 q
      · exact h14 y.1))) (fun q => br_t rfl (ht (hR.mpr (Or.inl ⟨h14, q⟩))))
theorem yk_isReady {post : Int32 → Prop} {s t : Nat} (hs : s < 8) (hPr : uk_Pr x_code x_codeLengths y_ops y_as y_bs) (hPs : uk_Ps x_pids x_parents x_programs x_places x_statuses x_states y_zombie y_blocked) (hHd : uk_Hd x_pids y_zombie x_held) (hHo : uk_Ho x_pids y_zombie x_held x_openHolders) (hOk : uk_Ok x_openHolders x_openKinds y_kind x_openTargets x_openModes y_mode x_openPlaces) (hPi : uk_Pi x_pipeCounts x_pipeFirsts x_pipeWords y_pipe) (hWk : uk_Wk x_pids y_zombie y_blocked x_programs x_places x_codeLengths y_ops y_bs x_wakeTimes y_wake x_registers x_held y_kind t) (ht : uk_Rd x_pids x_parents y_zombie y_blocked x_programs x_places y_bs y_wake x_registers x_held y_kind x_openTargets x_pipeCounts y_time s → post 1) (hf : ¬ uk_Rd x_pids x_parents y_zombie y_blocked x_programs x_places y_bs y_wake x_registers x_held y_kind x_openTargets x_pipeCounts y_time s → post 0) : wpY_isReady post (x_changes, y_time, y_last, y_lastPid, y_did, x_greatestPid, x_latestPid, x_saidCount, y_killed, y_ops, y_as, y_bs, x_codeLengths, x_pids, x_parents, x_programs, x_places, x_statuses, x_stepCounts, x_copyCounts, y_pages, y_wake, y_zombie, y_blocked, x_registers, y_memory, y_frame, x_held, y_kind, x_openTargets, y_mode, x_openPlaces, x_pipeCounts, y_pipe, x_nameFiles, y_size, x_fileWords, x_safeNames, y_safeSize, x_safeWords, y_said) (nI s) := by
  obtain ⟨_, vs, es⟩ := uk_lp 8 hs (by decide)
  unfold wpY_isReady
  refine ⟨vs, ?_⟩
  rw [es, uk_le0 (hPs s hs).1]
  refine ⟨fun a => hf (fun z => z.1 a), fun hp => ⟨vs, ?_⟩⟩
  rcases (hPs s hs).2.2.2.2.2.2 hp with ⟨a, b⟩ | ⟨hz, _, b⟩
  · rw [a]
    exact br_f (by decide) (hf (fun z => absurd (a.symm.trans z.2.1) (by decide)))
  rcases b with ⟨b1, b2⟩ | ⟨b1, b2⟩
  · rw [b1]
    exact br_t hz ⟨vs, br_t rfl (ht ⟨hp, hz, Or.inl b1⟩)⟩
  rw [b1]
  refine br_t hz ⟨vs, br_f (by decide) ?_⟩
  rcases hWk s hs hp hz with ⟨w, _⟩ | ⟨_, w1, w2, w3⟩
  · exact absurd (b1.symm.trans w) (by decide)
  obtain ⟨g, l, m, hg, hl, hm, eg, el, em, _⟩ := uk_gl hPr hPs hs
  rw [eg, el, nI_clamp (show g < 2 ^ 31 by omega), em, nI_clamp (show l < 2 ^ 31 by omega), nI_clamp (show m < 2 ^ 31 by omega)] at w1
  rw [eg, el, nI_clamp (show g < 2 ^ 31 by omega), nI_clamp (show l < 2 ^ 31 by omega)] at w3
  have hR : uk_Rd x_pids x_parents y_zombie y_blocked x_programs x_places y_bs y_wake x_registers x_held y_kind x_openTargets x_pipeCounts y_time s ↔ ((y_bs (24 * g + l) ≠ 14 ∧ ¬ uk_Bk x_pids x_parents y_zombie x_registers x_held y_kind x_openTargets x_pipeCounts s (y_bs (24 * g + l))) ∨ (y_bs (24 * g + l) = 14 ∧ y_wake s ≤ y_time)) := by
    unfold uk_Rd
    rw [eg, el, nI_clamp (show g < 2 ^ 31 by omega), nI_clamp (show l < 2 ^ 31 by omega)]
    exact ⟨fun z => z.2.2.resolve_left (fun w => absurd (b1.symm.trans w) (by decide)), fun z => ⟨hp, hz, Or.inr z⟩⟩
  unfold wpY_canGo
  dsimp only
  rw [es, eg, el, uk_24m, nI_add, nI_clamp (show 24 * g + l < 2 ^ 31 by omega)]
  refine ⟨vs, vs, vp_in_nI (by omega) (by decide), nm_e ?_⟩
  rcases w3 with ⟨h14, w, hw, hw2, e1, e2⟩ | ⟨_, _, w3⟩
  · rw [h14]
    refine br_f (by decide) (br_t rfl ⟨vs, fun q => br_t rfl (hf (fun z => ?_)), fun q => br_f (by decide) (ht (hR.mpr (Or.inr ⟨h14, Int32.not_lt.mp q⟩)))⟩)
    rcases hR.mp z with y | y
    · exact y.1 h14
    · exact Int32.not_lt.mpr y.2 q
  rcases w3 with c2 | ⟨c7, d, o, hd, ho, f1, f2, f3⟩ | ⟨c8, d, o, hd, ho, f1, f2, f3⟩
  · rw [c2] at hR ⊢
    refine br_t rfl (yk_child1 hPs hs ?_)
    rcases uk_bes x_pids (fun c => x_pids c ≠ 0 ∧ x_states c = 3 ∧ x_parents c = x_pids s) 8 with ⟨b, b3⟩ | ⟨i, hi, b, b3⟩
    · rw [b]
      refine br_f (by decide) (yk_child0 hs (fun q i hi => br_t (nI_pos' (by omega)) (br_t rfl (hf (fun z => ?_)))) (fun q => br_f (by decide) (br_f (by decide) (ht (hR.mpr (Or.inl ⟨by decide, fun z => ?_⟩))))))
      · rcases hR.mp z with y | y
        · exact y.2 (Or.inl ⟨rfl, q, fun k hk z => b3 k hk ⟨z.1, (uk_zst hPs hk z.1).mpr z.2.1, z.2.2⟩⟩)
        · exact absurd y.1 (by decide)
      · rcases z with z | z | z
        · obtain ⟨k, hk, z1⟩ := z.2.1
          exact q k hk z1
        · exact absurd z.1 (by decide)
        · exact absurd z.1 (by decide)
    · rw [b]
      refine br_t (nI_pos' (by omega)) (br_f (by decide) (ht (hR.mpr (Or.inl ⟨by decide, fun z => ?_⟩))))
      rcases z with z | z | z
      · exact z.2.2 i hi ⟨b3.1, (uk_zst hPs hi b3.1).mp b3.2.1, b3.2.2⟩
      · exact absurd z.1 (by decide)
      · exact absurd z.1 (by decide)
  · have vt : vp_in (x_openTargets o) 4 := by
      have := (uk_hk hHo hOk hs hp hz hd ho f2).2.2
      rw [f3] at this
      rcases this with q | q | q
      · exact absurd q.1 (by decide)
      · exact q.2.2
      · exact q.2.2
    have hu2 : ∀ d' o', d' < 6 → o' < 12 → x_registers (4 * s) = nI d' → x_held (6 * s + d') = nI o' → o' = o := fun d' o' hd' ho' g1 g2 => by
      have := uk_nIn (by omega) (by omega) (g1.symm.trans f1)
      subst this
      exact uk_nIn (by omega) (by omega) (g2.symm.trans f2)
    rw [c7] at hR ⊢
    refine br_f (by decide) (br_f (by decide) ?_)
    rw [uk_4m, nI_clamp (show 4 * s < 2 ^ 31 by omega), f1, uk_6m, nI_add, nI_clamp (show 6 * s + d < 2 ^ 31 by omega), f2, nI_clamp (show o < 2 ^ 31 by omega)]
    refine ⟨vp_in_nI (by omega) (by decide), vp_in_nI (by omega) (by decide), vp_in_nI ho (by decide), nm_e (br_t rfl ⟨vt, fun q => br_f (by decide) (ht (hR.mpr (Or.inl ⟨by decide, fun z => ?_⟩))), fun q => yk_hasEnd (fun y => br_f (by decide) (br_t rfl (hf (fun z => ?_)))) (fun y => br_t rfl (br_f (by decide) (ht (hR.mpr (Or.inl ⟨by decide, fun z => ?_⟩)))))⟩)⟩
    · rcases z with z | z | z
      · exact absurd z.1 (by decide)
      · obtain ⟨_, d', o', hd', ho', g1, g2, g3, g4, g5⟩ := z
        have := hu2 d' o' hd' ho' g1 g2
        subst this
        exact ((uk_c4 hPi vt).2.mpr g4) q
      · exact absurd z.1 (by decide)
    · rcases hR.mp z with w | w
      · exact w.2 (Or.inr (Or.inl ⟨rfl, d, o, hd, ho, f1, f2, f3, (uk_c4 hPi vt).2.mp q, y⟩))
      · exact absurd w.1 (by decide)
    · rcases z with z | z | z
      · exact absurd z.1 (by decide)
      · obtain ⟨_, d', o', hd', ho', g1, g2, g3, g4, ex, hx, g5⟩ := z
        have := hu2 d' o' hd' ho' g1 g2
        subst this
        exact y ex hx g5
      · exact absurd z.1 (by decide)
  · have vt : vp_in (x_openTargets o) 4 := by
      have := (uk_hk hHo hOk hs hp hz hd ho f2).2.2
      rw [f3] at this
      rcases this with q | q | q
      · exact absurd q.1 (by decide)
      · exact q.2.2
      · exact q.2.2
    have hu2 : ∀ d' o', d' < 6 → o' < 12 → x_registers (4 * s) = nI d' → x_held (6 * s + d') = nI o' → o' = o := fun d' o' hd' ho' g1 g2 => by
      have := uk_nIn (by omega) (by omega) (g1.symm.trans f1)
      subst this
      exact uk_nIn (by omega) (by omega) (g2.symm.trans f2)
    rw [c8] at hR ⊢
    refine br_f (by decide) (br_f (by decide) ?_)
    rw [uk_4m, nI_clamp (show 4 * s < 2 ^ 31 by omega), f1, uk_6m, nI_add, nI_clamp (show 6 * s + d < 2 ^ 31 by omega), f2, nI_clamp (show o < 2 ^ 31 by omega)]
    refine ⟨vp_in_nI (by omega) (by decide), vp_in_nI (by omega) (by decide), vp_in_nI ho (by decide), nm_e (br_f (by decide) ⟨vt, fun q => br_f (by decide) (ht (hR.mpr (Or.inl ⟨by decide, fun z => ?_⟩))), fun q => yk_hasEnd (fun y => br_f (by decide) (br_t rfl (hf (fun z => ?_)))) (fun y => br_t rfl (br_f (by decide) (ht (hR.mpr (Or.inl ⟨by decide, fun z => ?_⟩)))))⟩)⟩
    · rcases z with z | z | z
      · exact absurd z.1 (by decide)
      · exact absurd z.1 (by decide)
      · obtain ⟨_, d', o', hd', ho', g1, g2, g3, g4, g5⟩ := z
        have := hu2 d' o' hd' ho' g1 g2
        subst this
        exact (uk_c4 hPi vt).1.mp q g4
    · rcases hR.mp z with w | w
      · exact w.2 (Or.inr (Or.inr ⟨rfl, d, o, hd, ho, f1, f2, f3, Classical.byContradiction (fun y2 => q ((uk_c4 hPi vt).1.mpr y2)), y⟩))
      · exact absurd w.1 (by decide)
    · rcases z with z | z | z
      · exact absurd z.1 (by decide)
      · exact absurd z.1 (by decide)
      · obtain ⟨_, d', o', hd', ho', g1, g2, g3, g4, ex, hx, g5⟩ := z
        have := hu2 d' o' hd' ho' g1 g2
        subst this
        exact y ex hx g5
end
end
section
/-! a descriptor goes, on both sides -/
section
variable {x_changes x_saidCount x_time x_lastSlot x_sliceSteps x_latestPid x_greatestPid : Int32} {x_code x_codeLengths x_pids x_parents x_programs x_places x_states x_statuses x_stepCounts x_copyCounts x_wakeTimes x_registers x_pageCounts x_pageFrames x_held x_frameUsers x_frameWords x_openHolders x_openKinds x_openTargets x_openPlaces x_openModes x_pipeFirsts x_pipeCounts x_pipeWords x_nameFiles x_fileSizes x_fileWords x_safeNames x_safeSizes x_safeWords x_saidInts : Nat → Int32} {y_time y_last y_lastPid y_did y_killed : Int32} {y_ops y_as y_bs y_pages y_wake y_zombie y_blocked y_memory y_frame y_kind y_mode y_pipe y_size y_safeSize y_said : Nat → Int32}
theorem xk_letGo {post : SX → Prop} {s d : Nat} (hs : s < 8) (hd : d < 6) (hH : x_held (6 * s + d) = -1 ∨ vp_in (x_held (6 * s + d)) 12) (h0 : x_held (6 * s + d) = -1 → post (x_changes, x_saidCount, x_time, x_lastSlot, x_sliceSteps, x_latestPid, x_greatestPid, x_code, x_codeLengths, x_pids, x_parents, x_programs, x_places, x_states, x_statuses, x_stepCounts, x_copyCounts, x_wakeTimes, x_registers, x_pageCounts, x_pageFrames, x_held, x_frameUsers, x_frameWords, x_openHolders, x_openKinds, x_openTargets, x_openPlaces, x_openModes, x_pipeFirsts, x_pipeCounts, x_pipeWords, x_nameFiles, x_fileSizes, x_fileWords, x_safeNames, x_safeSizes, x_safeWords, x_saidInts)) (h1 : ∀ o, o < 12 → x_held (6 * s + d) = nI o → post (x_changes, x_saidCount, x_time, x_lastSlot, x_sliceSteps, x_latestPid, x_greatestPid, x_code, x_codeLengths, x_pids, x_parents, x_programs, x_places, x_states, x_statuses, x_stepCounts, x_copyCounts, x_wakeTimes, x_registers, x_pageCounts, x_pageFrames, upd x_held (6 * s + d) (-1), x_frameUsers, x_frameWords, upd x_openHolders o (x_openHolders o - 1), x_openKinds, x_openTargets, x_openPlaces, x_openModes, x_pipeFirsts, x_pipeCounts, x_pipeWords, x_nameFiles, x_fileSizes, x_fileWords, x_safeNames, x_safeSizes, x_safeWords, x_saidInts)) : wpX_letGo post (x_changes, x_saidCount, x_time, x_lastSlot, x_sliceSteps, x_latestPid, x_greatestPid, x_code, x_codeLengths, x_pids, x_parents, x_programs, x_places, x_states, x_statuses, x_stepCounts, x_copyCounts, x_wakeTimes, x_registers, x_pageCounts, x_pageFrames, x_held, x_frameUsers, x_frameWords, x_openHolders, x_openKinds, x_openTargets, x_openPlaces, x_openModes, x_pipeFirsts, x_pipeCounts, x_pipeWords, x_nameFiles, x_fileSizes, x_fileWords, x_safeNames, x_safeSizes, x_safeWords, x_saidInts) (nI s) (nI d) := by
  unfold wpX_letGo
  rw [uk_m6, nI_add, nI_clamp (show 6 * s + d < 2 ^ 31 by omega)]
  have v : vp_in (nI (6 * s + d)) 48 := vp_in_nI (by omega) (by decide)
  refine ⟨v, ?_⟩
  rcases hH with e | e
  · rw [e]
    exact nm_e (br_t rfl (h0 e))
  · obtain ⟨o, ho, eo⟩ := vp_in_of e (by decide)
    rw [eo]
    have vo : vp_in (nI o) 12 := vp_in_nI ho (by decide)
    refine nm_e (br_f (uk_ne1 (by omega)) ⟨vo, vo, ?_⟩)
    rw [nI_clamp (show o < 2 ^ 31 by omega)]
    exact nm_e ⟨v, nm_e (h1 o ho eo)⟩
theorem yk_release {post : SY → Prop} {f : Nat} (hf8 : f < 8) (h1 : uk_fre x_nameFiles y_kind x_openTargets f → post (x_changes, y_time, y_last, y_lastPid, y_did, x_greatestPid, x_latestPid, x_saidCount, y_killed, y_ops, y_as, y_bs, x_codeLengths, x_pids, x_parents, x_programs, x_places, x_statuses, x_stepCounts, x_copyCounts, y_pages, y_wake, y_zombie, y_blocked, x_registers, y_memory, y_frame, x_held, y_kind, x_openTargets, y_mode, x_openPlaces, x_pipeCounts, y_pipe, x_nameFiles, upd y_size f 0, x_fileWords, x_safeNames, y_safeSize, x_safeWords, y_said)) (h0 : ¬ uk_fre x_nameFiles y_kind x_openTargets f → post (x_changes, y_time, y_last, y_lastPid, y_did, x_greatestPid, x_latestPid, x_saidCount, y_killed, y_ops, y_as, y_bs, x_codeLengths, x_pids, x_parents, x_programs, x_places, x_statuses, x_stepCounts, x_copyCounts, y_pages, y_wake, y_zombie, y_blocked, x_registers, y_memory, y_frame, x_held, y_kind, x_openTargets, y_mode, x_openPlaces, x_pipeCounts, y_pipe, x_nameFiles, y_size, x_fileWords, x_safeNames, y_safeSize, x_safeWords, y_said)) : wpY_release post (x_changes, y_time, y_last, y_lastPid, y_did, x_greatestPid, x_latestPid, x_saidCount, y_killed, y_ops, y_as, y_bs, x_codeLengths, x_pids, x_parents, x_programs, x_places, x_statuses, x_stepCounts, x_copyCounts, y_pages, y_wake, y_zombie, y_blocked, x_registers, y_memory, y_frame, x_held, y_kind, x_openTargets, y_mode, x_openPlaces, x_pipeCounts, y_pipe, x_nameFiles, y_size, x_fileWords, x_safeNames, y_safeSize, x_safeWords, y_said) (nI f) := by
  unfold wpY_release
  refine yk_isFree (fun a => br_f (by decide) ⟨vp_in_nI hf8 (by decide), ?_⟩) (fun a => br_t rfl (h0 a))
  rw [nI_clamp (show f < 2 ^ 31 by omega)]
  exact nm_e (h1 a)
theorem yk_close {post : SY → Prop} {s d : Nat} (hs : s < 8) (hd : d < 6) (hP : ∀ s, s < 8 → ¬ x_pids s < 0) (hH : x_held (6 * s + d) = -1 ∨ vp_in (x_held (6 * s + d)) 12) (hT : ∀ o, o < 12 → y_kind o = 1 → x_held (6 * s + d) = nI o → vp_in (x_openTargets o) 8)
  (h0 : x_held (6 * s + d) = -1 → post (x_changes, y_time, y_last, y_lastPid, y_did, x_greatestPid, x_latestPid, x_saidCount, y_killed, y_ops, y_as, y_bs, x_codeLengths, x_pids, x_parents, x_programs, x_places, x_statuses, x_stepCounts, x_copyCounts, y_pages, y_wake, y_zombie, y_blocked, x_registers, y_memory, y_frame, upd x_held (6 * s + d) (-1), y_kind, x_openTargets, y_mode, x_openPlaces, x_pipeCounts, y_pipe, x_nameFiles, y_size, x_fileWords, x_safeNames, y_safeSize, x_safeWords, y_said))
  (h1 : ∀ o, o < 12 → x_held (6 * s + d) = nI o → uk_sm (uk_hw x_pids y_zombie (upd x_held (6 * s + d) (-1)) o) 8 ≠ 0 → post (x_changes, y_time, y_last, y_lastPid, y_did, x_greatestPid, x_latestPid, x_saidCount, y_killed, y_ops, y_as, y_bs, x_codeLengths, x_pids, x_parents, x_programs, x_places, x_statuses, x_stepCounts, x_copyCounts, y_pages, y_wake, y_zombie, y_blocked, x_registers, y_memory, y_frame, upd x_held (6 * s + d) (-1), y_kind, x_openTargets, y_mode, x_openPlaces, x_pipeCounts, y_pipe, x_nameFiles, y_size, x_fileWords, x_safeNames, y_safeSize, x_safeWords, y_said))
  (h2 : ∀ o, o < 12 → x_held (6 * s + d) = nI o → uk_sm (uk_hw x_pids y_zombie (upd x_held (6 * s + d) (-1)) o) 8 = 0 → y_kind o ≠ 1 → post (x_changes, y_time, y_last, y_lastPid, y_did, x_greatestPid, x_latestPid, x_saidCount, y_killed, y_ops, y_as, y_bs, x_codeLengths, x_pids, x_parents, x_programs, x_places, x_statuses, x_stepCounts, x_copyCounts, y_pages, y_wake, y_zombie, y_blocked, x_registers, y_memory, y_frame, upd x_held (6 * s + d) (-1), upd y_kind o 0, x_openTargets, y_mode, x_openPlaces, x_pipeCounts, y_pipe, x_nameFiles, y_size, x_fileWords, x_safeNames, y_safeSize, x_safeWords, y_said))
  (h3 : ∀ o f, o < 12 → f < 8 → x_held (6 * s + d) = nI o → uk_sm (uk_hw x_pids y_zombie (upd x_held (6 * s + d) (-1)) o) 8 = 0 → y_kind o = 1 → x_openTargets o = nI f → uk_fre x_nameFiles (upd y_kind o 0) x_openTargets f → post (x_changes, y_time, y_last, y_lastPid, y_did, x_greatestPid, x_latestPid, x_saidCount, y_killed, y_ops, y_as, y_bs, x_codeLengths, x_pids, x_parents, x_programs, x_places, x_statuses, x_stepCounts, x_copyCounts, y_pages, y_wake, y_zombie, y_blocked, x_registers, y_memory, y_frame, upd x_held (6 * s + d) (-1), upd y_kind o 0, x_openTargets, y_mode, x_openPlaces, x_pipeCounts, y_pipe, x_nameFiles, upd y_size f 0, x_fileWords, x_safeNames, y_safeSize, x_safeWords, y_said))
  (h4 : ∀ o f, o < 12 → f < 8 → x_held (6 * s + d) = nI o → uk_sm (uk_hw x_pids y_zombie (upd x_held (6 * s + d) (-1)) o) 8 = 0 → y_kind o = 1 → x_openTargets o = nI f → ¬ uk_fre x_nameFiles (upd y_kind o 0) x_openTargets f → post (x_changes, y_time, y_last, y_lastPid, y_did, x_greatestPid, x_latestPid, x_saidCount, y_killed, y_ops, y_as, y_bs, x_codeLengths, x_pids, x_parents, x_programs, x_places, x_statuses, x_stepCounts, x_copyCounts, y_pages, y_wake, y_zombie, y_blocked, x_registers, y_memory, y_frame, upd x_held (6 * s + d) (-1), upd y_kind o 0, x_openTargets, y_mode, x_openPlaces, x_pipeCounts, y_pipe, x_nameFiles, y_size, x_fileWords, x_safeNames, y_safeSize, x_safeWords, y_said))
  : wpY_close post (x_changes, y_time, y_last, y_lastPid, y_did, x_greatestPid, x_latestPid, x_saidCount, y_killed, y_ops, y_as, y_bs, x_codeLengths, x_pids, x_parents, x_programs, x_places, x_statuses, x_stepCounts, x_copyCounts, y_pages, y_wake, y_zombie, y_blocked, x_registers, y_memory, y_frame, x_held, y_kind, x_openTargets, y_mode, x_openPlaces, x_pipeCounts, y_pipe, x_nameFiles, y_size, x_fileWords, x_safeNames, y_safeSize, x_safeWords, y_said) (nI s) (nI d) := by
  unfold wpY_close
  rw [uk_6m, nI_add, nI_clamp (show 6 * s + d < 2 ^ 31 by omega)]
  have v : vp_in (nI (6 * s + d)) 48 := vp_in_nI (by omega) (by decide)
  refine ⟨v, ?_⟩
  rcases hH with e | e
  · have h0' := h0 e
    rw [e]
    exact nm_e ⟨v, nm_e (br_t (by decide) h0')⟩
  · obtain ⟨o, ho, eo⟩ := vp_in_of e (by decide)
    have vo : vp_in (nI o) 12 := vp_in_nI ho (by decide)
    have k1 := h1 o ho eo
    have k2 := h2 o ho eo
    have k3 := fun f hf => h3 o f ho hf eo
    have k4 := fun f hf => h4 o f ho hf eo
    have kT := hT o ho
    rw [eo]
    refine nm_e ⟨v, nm_e (br_f (nI_pos (by omega)) (yk_holders hP ?_))⟩
    have hle := uk_hsle x_pids y_zombie (upd x_held (6 * s + d) (-1)) o
    refine ⟨fun z => ⟨vo, ?_⟩, fun z => k1 (fun w => z (by rw [w]; rfl))⟩
    have z0 := uk_nIn (b := 0) (by omega) (by decide) z
    rw [nI_clamp (show o < 2 ^ 31 by omega)]
    refine ⟨fun a => ⟨vo, ?_⟩, fun a => ⟨vo, ?_⟩⟩
    · obtain ⟨f, hf, ef⟩ := vp_in_of (kT a eo) (by decide)
      unfold wY_close_56
      rw [nI_clamp (show o < 2 ^ 31 by omega), ef]
      refine ⟨vo, nm_e (br_f (nI_pos (by omega)) (yk_release hf (fun b => k3 f hf z0 a ef b) (fun b => k4 f hf z0 a ef b)))⟩
    · rw [nI_clamp (show o < 2 ^ 31 by omega)]
      exact nm_e (br_t (by decide) (k2 z0 a))
/-- one descriptor of s goes on both sides -/
theorem uk_go1 {zo1 : Nat → Int32} {t s d : Nat} (hs : s < 8) (hd : d < 6) (hp : x_pids s ≠ 0) (hz : y_zombie s = 0) (hP : ∀ s, s < 8 → ¬ x_pids s < 0) (hHd : uk_Hd x_pids y_zombie x_held) (hHo : uk_Ho x_pids y_zombie x_held x_openHolders) (hOk : uk_Ok x_openHolders x_openKinds y_kind x_openTargets x_openModes y_mode x_openPlaces) (hFi : uk_Fi x_nameFiles y_kind x_openTargets x_fileSizes y_size) (hWk : uk_Wk x_pids zo1 y_blocked x_programs x_places x_codeLengths y_ops y_bs x_wakeTimes y_wake x_registers x_held y_kind t) (hzo : ∀ s', s' < 8 → s' ≠ s → zo1 s' = 0 → y_zombie s' = 0) (hs1 : zo1 s = 0 → y_blocked s = 0 ∧ x_wakeTimes s = 0 ∧ y_wake s = -1) :
  ∃ oh' ki' sz', uk_Hd x_pids y_zombie (upd x_held (6 * s + d) (-1)) ∧ uk_Ho x_pids y_zombie (upd x_held (6 * s + d) (-1)) oh' ∧ uk_Ok oh' x_openKinds ki' x_openTargets x_openModes y_mode x_openPlaces ∧ uk_Fi x_nameFiles ki' x_openTargets x_fileSizes sz' ∧ uk_Wk x_pids zo1 y_blocked x_programs x_places x_codeLengths y_ops y_bs x_wakeTimes y_wake x_registers (upd x_held (6 * s + d) (-1)) ki' t ∧
  (∀ post, post (x_changes, x_saidCount, x_time, x_lastSlot, x_sliceSteps, x_latestPid, x_greatestPid, x_code, x_codeLengths, x_pids, x_parents, x_programs, x_places, x_states, x_statuses, x_stepCounts, x_copyCounts, x_wakeTimes, x_registers, x_pageCounts, x_pageFrames, upd x_held (6 * s + d) (-1), x_frameUsers, x_frameWords, oh', x_openKinds, x_openTargets, x_openPlaces, x_openModes, x_pipeFirsts, x_pipeCounts, x_pipeWords, x_nameFiles, x_fileSizes, x_fileWords, x_safeNames, x_safeSizes, x_safeWords, x_saidInts) → wpX_letGo post (x_changes, x_saidCount, x_time, x_lastSlot, x_sliceSteps, x_latestPid, x_greatestPid, x_code, x_codeLengths, x_pids, x_parents, x_programs, x_places, x_states, x_statuses, x_stepCounts, x_copyCounts, x_wakeTimes, x_registers, x_pageCounts, x_pageFrames, x_held, x_frameUsers, x_frameWords, x_openHolders, x_openKinds, x_openTargets, x_openPlaces, x_openModes, x_pipeFirsts, x_pipeCounts, x_pipeWords, x_nameFiles, x_fileSizes, x_fileWords, x_safeNames, x_safeSizes, x_safeWords, x_saidInts) (nI s) (nI d)) ∧ (∀ post, post (x_changes, y_time, y_last, y_lastPid, y_did, x_greatestPid, x_latestPid, x_saidCount, y_killed, y_ops, y_as, y_bs, x_codeLengths, x_pids, x_parents, x_programs, x_places, x_statuses, x_stepCounts, x_copyCounts, y_pages, y_wake, y_zombie, y_blocked, x_registers, y_memory, y_frame, upd x_held (6 * s + d) (-1), ki', x_openTargets, y_mode, x_openPlaces, x_pipeCounts, y_pipe, x_nameFiles, sz', x_fileWords, x_safeNames, y_safeSize, x_safeWords, y_said) → wpY_close post (x_changes, y_time, y_last, y_lastPid, y_did, x_greatestPid, x_latestPid, x_saidCount, y_killed, y_ops, y_as, y_bs, x_codeLengths, x_pids, x_parents, x_programs, x_places, x_statuses, x_stepCounts, x_copyCounts, y_pages, y_wake, y_zombie, y_blocked, x_registers, y_memory, y_frame, x_held, y_kind, x_openTargets, y_mode, x_openPlaces, x_pipeCounts, y_pipe, x_nameFiles, y_size, x_fileWords, x_safeNames, y_safeSize, x_safeWords, y_said) (nI s) (nI d)) := by
  have hH := hHd s hs hp hz d hd
  have hHd' : uk_Hd x_pids y_zombie (upd x_held (6 * s + d) (-1)) := uk_HdU hHd (Or.inl rfl)
  have hT : ∀ o, o < 12 → y_kind o = 1 → x_held (6 * s + d) = nI o → vp_in (x_openTargets o) 8 := fun o ho k e => by
    rcases (uk_hk hHo hOk hs hp hz hd ho e).2.2 with c | c | c
    · exact c.2.2.2
    · exact absurd (k.symm.trans c.1) (by decide)
    · exact absurd (k.symm.trans c.1) (by decide)
  rcases hH with e | e
  · have eu : upd x_held (6 * s + d) (-1) = x_held := by rw [← e]; exact uk_uself _ _
    refine ⟨x_openHolders, y_kind, y_size, hHd', by rw [eu]; exact hHo, hOk, hFi, by rw [eu]; exact hWk, fun post h => ?_, fun post h => ?_⟩
    · rw [eu] at h
      exact xk_letGo hs hd (Or.inl e) (fun _ => h) (fun o ho z => absurd (z.symm.trans e) (uk_ne1 (by omega)))
    · have hno : ∀ o, o < 12 → ¬ x_held (6 * s + d) = nI o := fun o ho z => absurd (z.symm.trans e) (uk_ne1 (by omega))
      exact yk_close hs hd hP (Or.inl e) hT (fun _ => h) (fun o ho z => absurd z (hno o ho)) (fun o ho z => absurd z (hno o ho)) (fun o _ ho _ z => absurd z (hno o ho)) (fun o _ ho _ z => absurd z (hno o ho))
  · obtain ⟨o, ho, eo⟩ := vp_in_of e (by decide)
    have hu : ∀ o', o' < 12 → x_held (6 * s + d) = nI o' → o' = o := fun o' ho' z => uk_nIn (by omega) (by omega) (z.symm.trans eo)
    have nn : ¬ x_held (6 * s + d) = -1 := fun z => uk_ne1 (n := o) (by omega) (eo.symm.trans z)
    have hX : ∀ post : SX → Prop, post (x_changes, x_saidCount, x_time, x_lastSlot, x_sliceSteps, x_latestPid, x_greatestPid, x_code, x_codeLengths, x_pids, x_parents, x_programs, x_places, x_states, x_statuses, x_stepCounts, x_copyCounts, x_wakeTimes, x_registers, x_pageCounts, x_pageFrames, upd x_held (6 * s + d) (-1), x_frameUsers, x_frameWords, upd x_openHolders o (x_openHolders o - 1), x_openKinds, x_openTargets, x_openPlaces, x_openModes, x_pipeFirsts, x_pipeCounts, x_pipeWords, x_nameFiles, x_fileSizes, x_fileWords, x_safeNames, x_safeSizes, x_safeWords, x_saidInts) → wpX_letGo post (x_changes, x_saidCount, x_time, x_lastSlot, x_sliceSteps, x_latestPid, x_greatestPid, x_code, x_codeLengths, x_pids, x_parents, x_programs, x_places, x_states, x_statuses, x_stepCounts, x_copyCounts, x_wakeTimes, x_registers, x_pageCounts, x_pageFrames, x_held, x_frameUsers, x_frameWords, x_openHolders, x_openKinds, x_openTargets, x_openPlaces, x_openModes, x_pipeFirsts, x_pipeCounts, x_pipeWords, x_nameFiles, x_fileSizes, x_fileWords, x_safeNames, x_safeSizes, x_safeWords, x_saidInts) (nI s) (nI d) := fun post h => xk_letGo hs hd (Or.inr e) (fun z => absurd z nn) (fun o' ho' z => by
      have := hu o' ho' z
      subst this
      exact h)
    have hHo' := uk_cl_Ho hHo hs hp hz hd ho eo
    by_cases hn : uk_sm (uk_hw x_pids y_zombie (upd x_held (6 * s + d) (-1)) o) 8 = 0
    · have hOk' := uk_cl_Ok0 hOk hHo hs hp hz hd ho eo hn
      have hWk' := uk_cl_Wk (zo := y_zombie) (ki' := upd y_kind o 0) hWk hd hzo hs1 (fun o' z => pk_un z) (Or.inl hn)
      by_cases hk : y_kind o = 1
      · obtain ⟨f, hf, ef⟩ := vp_in_of (hT o ho hk eo) (by decide)
        by_cases hfr : uk_fre x_nameFiles (upd y_kind o 0) x_openTargets f
        · refine ⟨_, _, _, hHd', hHo', hOk', uk_cl_Fi3 hFi hf ef hfr, hWk', hX, fun post h => ?_⟩
          exact yk_close hs hd hP (Or.inr e) hT (fun z => absurd z nn) (fun o' ho' z w => by
              have := hu o' ho' z
              subst this
              exact absurd hn w) (fun o' ho' z _ w => by
              have := hu o' ho' z
              subst this
              exact absurd hk w) (fun o' f' ho' hf' z _ _ w _ => by
              have := hu o' ho' z
              subst this
              have := uk_nIn (by omega) (by omega) (w.symm.trans ef)
              subst this
              exact h) (fun o' f' ho' hf' z _ _ w y => by
              have := hu o' ho' z
              subst this
              have := uk_nIn (by omega) (by omega) (w.symm.trans ef)
              subst this
              exact absurd hfr y)
        · refine ⟨_, _, _, hHd', hHo', hOk', uk_cl_Fi2 hFi hf ef hfr ho hk, hWk', hX, fun post h => ?_⟩
          exact yk_close hs hd hP (Or.inr e) hT (fun z => absurd z nn) (fun o' ho' z w => by
              have := hu o' ho' z
              subst this
              exact absurd hn w) (fun o' ho' z _ w => by
              have := hu o' ho' z
              subst this
              exact absurd hk w) (fun o' f' ho' hf' z _ _ w y => by
              have := hu o' ho' z
              subst this
              have := uk_nIn (by omega) (by omega) (w.symm.trans ef)
              subst this
              exact absurd y hfr) (fun o' f' ho' hf' z _ _ w _ => by
              have := hu o' ho' z
              subst this
              exact h)
      · refine ⟨_, _, _, hHd', hHo', hOk', uk_cl_Fi1 hFi hk, hWk', hX, fun post h => ?_⟩
        exact yk_close hs hd hP (Or.inr e) hT (fun z => absurd z nn) (fun o' ho' z w => by
            have := hu o' ho' z
            subst this
            exact absurd hn w) (fun o' ho' z _ _ => by
            have := hu o' ho' z
            subst this
            exact h) (fun o' _ ho' _ z _ w _ _ => by
            have := hu o' ho' z
            subst this
            exact absurd w hk) (fun o' _ ho' _ z _ w _ _ => by
            have := hu o' ho' z
            subst this
            exact absurd w hk)
    · have hOk' := uk_cl_Ok1 hOk hHo hs hp hz hd ho eo hn
      have hWk' := uk_cl_Wk (zo := y_zombie) (ki' := y_kind) (o := o) hWk hd hzo hs1 (fun _ _ => rfl) (Or.inr rfl)
      refine ⟨_, y_kind, y_size, hHd', hHo', hOk', hFi, hWk', hX, fun post h => ?_⟩
      exact yk_close hs hd hP (Or.inr e) hT (fun z => absurd z nn) (fun o' ho' z _ => h) (fun o' ho' z w => by
          have := hu o' ho' z
          subst this
          exact absurd w hn) (fun o' _ ho' _ z w => by
          have := hu o' ho' z
          subst this
          exact absurd w hn) (fun o' _ ho' _ z w => by
          have := hu o' ho' z
          subst this
          exact absurd w hn)
end
end
section
/-! a process ends, on both sides -/
section
variable {x_changes x_saidCount x_time x_lastSlot x_sliceSteps x_latestPid x_greatestPid : Int32} {x_code x_codeLengths x_pids x_parents x_programs x_places x_states x_statuses x_stepCounts x_copyCounts x_wakeTimes x_registers x_pageCounts x_pageFrames x_held x_frameUsers x_frameWords x_openHolders x_openKinds x_openTargets x_openPlaces x_openModes x_pipeFirsts x_pipeCounts x_pipeWords x_nameFiles x_fileSizes x_fileWords x_safeNames x_safeSizes x_safeWords x_saidInts : Nat → Int32} {y_time y_last y_lastPid y_did y_killed : Int32} {y_ops y_as y_bs y_pages y_wake y_zombie y_blocked y_memory y_frame y_kind y_mode y_pipe y_size y_safeSize y_said : Nat → Int32}
theorem xk_dropPages {post : SX → Prop} {s n : Nat} (hs : s < 8) (hn : x_pageCounts s = nI n) (hn8 : n ≤ 8) (hpf : ∀ p, p < n → vp_in (x_pageFrames (8 * s + p)) 20) (h : post (x_changes, x_saidCount, x_time, x_lastSlot, x_sliceSteps, x_latestPid, x_greatestPid, x_code, x_codeLengths, x_pids, x_parents, x_programs, x_places, x_states, x_statuses, x_stepCounts, x_copyCounts, x_wakeTimes, x_registers, upd x_pageCounts s 0, x_pageFrames, x_held, uk_dec x_frameUsers x_pageFrames (8 * s) n, x_frameWords, x_openHolders, x_openKinds, x_openTargets, x_openPlaces, x_openModes, x_pipeFirsts, x_pipeCounts, x_pipeWords, x_nameFiles, x_fileSizes, x_fileWords, x_safeNames, x_safeSizes, x_safeWords, x_saidInts)) : wpX_dropPages post (x_changes, x_saidCount, x_time, x_lastSlot, x_sliceSteps, x_latestPid, x_greatestPid, x_code, x_codeLengths, x_pids, x_parents, x_programs, x_places, x_states, x_statuses, x_stepCounts, x_copyCounts, x_wakeTimes, x_registers, x_pageCounts, x_pageFrames, x_held, x_frameUsers, x_frameWords, x_openHolders, x_openKinds, x_openTargets, x_openPlaces, x_openModes, x_pipeFirsts, x_pipeCounts, x_pipeWords, x_nameFiles, x_fileSizes, x_fileWords, x_safeNames, x_safeSizes, x_safeWords, x_saidInts) (nI s) := by
  obtain ⟨_, vs, es⟩ := uk_lp 8 hs (by decide)
  unfold wpX_dropPages
  refine uk_run0 (fun m p (fu : Nat → Int32) => wX_dropPages_2 post (nI s) x_changes x_saidCount x_time x_lastSlot x_sliceSteps x_latestPid x_greatestPid m (nI p) x_code x_codeLengths x_pids x_parents x_programs x_places x_states x_statuses x_stepCounts x_copyCounts x_wakeTimes x_registers x_pageCounts x_pageFrames x_held fu x_frameWords x_openHolders x_openKinds x_openTargets x_openPlaces x_openModes x_pipeFirsts x_pipeCounts x_pipeWords x_nameFiles x_fileSizes x_fileWords x_safeNames x_safeSizes x_safeWords x_saidInts) (fun p => uk_dec x_frameUsers x_pageFrames (8 * s) p) n (fun m => ⟨vs, ?_⟩) (fun m p hp ih => ⟨vs, ?_⟩)
  · rw [es, hn]
    exact br_t (uk_refl _) ⟨vs, nm_e h⟩
  · rw [es, hn]
    refine br_f (nI_ge hp (by omega)) ?_
    rw [uk_m8, nI_add, nI_clamp (show 8 * s + p < 2 ^ 31 by omega)]
    exact ⟨vp_in_nI (by omega) (by decide), hpf p hp, hpf p hp, nm_e (nm_r (nI_1 p) ih)⟩
theorem uk_gos {zo1 : Nat → Int32} {t s : Nat} (hs : s < 8) (hp : x_pids s ≠ 0) (hz : y_zombie s = 0) (hP : ∀ s, s < 8 → ¬ x_pids s < 0) (hHd : uk_Hd x_pids y_zombie x_held) (hHo : uk_Ho x_pids y_zombie x_held x_openHolders) (hOk : uk_Ok x_openHolders x_openKinds y_kind x_openTargets x_openModes y_mode x_openPlaces) (hFi : uk_Fi x_nameFiles y_kind x_openTargets x_fileSizes y_size) (hWk : uk_Wk x_pids zo1 y_blocked x_programs x_places x_codeLengths y_ops y_bs x_wakeTimes y_wake x_registers x_held y_kind t) (hzo : ∀ s', s' < 8 → s' ≠ s → zo1 s' = 0 → y_zombie s' = 0) (hs1 : zo1 s = 0 → y_blocked s = 0 ∧ x_wakeTimes s = 0 ∧ y_wake s = -1) : ∀ d, d ≤ 6 →
  ∃ oh' ki' sz', uk_Hd x_pids y_zombie (uk_fl x_held (6 * s) (fun _ => -1) d) ∧ uk_Ho x_pids y_zombie (uk_fl x_held (6 * s) (fun _ => -1) d) oh' ∧ uk_Ok oh' x_openKinds ki' x_openTargets x_openModes y_mode x_openPlaces ∧ uk_Fi x_nameFiles ki' x_openTargets x_fileSizes sz' ∧ uk_Wk x_pids zo1 y_blocked x_programs x_places x_codeLengths y_ops y_bs x_wakeTimes y_wake x_registers (uk_fl x_held (6 * s) (fun _ => -1) d) ki' t ∧
  (∀ (post : SX → Prop) (st q : Int32) (m : Nat), wX_endProcess_10 post (nI s) st q m (nI d) x_changes x_saidCount x_time x_lastSlot x_sliceSteps x_latestPid x_greatestPid x_code x_codeLengths x_pids x_parents x_programs x_places x_states x_statuses x_stepCounts x_copyCounts x_wakeTimes x_registers x_pageCounts x_pageFrames (uk_fl x_held (6 * s) (fun _ => -1) d) x_frameUsers x_frameWords oh' x_openKinds x_openTargets x_openPlaces x_openModes x_pipeFirsts x_pipeCounts x_pipeWords x_nameFiles x_fileSizes x_fileWords x_safeNames x_safeSizes x_safeWords x_saidInts → wX_endProcess_10 post (nI s) st q (m + d) 0 x_changes x_saidCount x_time x_lastSlot x_sliceSteps x_latestPid x_greatestPid x_code x_codeLengths x_pids x_parents x_programs x_places x_states x_statuses x_stepCounts x_copyCounts x_wakeTimes x_registers x_pageCounts x_pageFrames x_held x_frameUsers x_frameWords x_openHolders x_openKinds x_openTargets x_openPlaces x_openModes x_pipeFirsts x_pipeCounts x_pipeWords x_nameFiles x_fileSizes x_fileWords x_safeNames x_safeSizes x_safeWords x_saidInts) ∧
  (∀ (post : SY → Prop) (st q : Int32) (m : Nat), wY_exit_10 post (nI s) st q m (nI d) x_changes y_time y_last y_lastPid y_did x_greatestPid x_latestPid x_saidCount y_killed y_ops y_as y_bs x_codeLengths x_pids x_parents x_programs x_places x_statuses x_stepCounts x_copyCounts y_pages y_wake y_zombie y_blocked x_registers y_memory y_frame (uk_fl x_held (6 * s) (fun _ => -1) d) ki' x_openTargets y_mode x_openPlaces x_pipeCounts y_pipe x_nameFiles sz' x_fileWords x_safeNames y_safeSize x_safeWords y_said → wY_exit_10 post (nI s) st q (m + d) 0 x_changes y_time y_last y_lastPid y_did x_greatestPid x_latestPid x_saidCount y_killed y_ops y_as y_bs x_codeLengths x_pids x_parents x_programs x_places x_statuses x_stepCounts x_copyCounts y_pages y_wake y_zombie y_blocked x_registers y_memory y_frame x_held y_kind x_openTargets y_mode x_openPlaces x_pipeCounts y_pipe x_nameFiles y_size x_fileWords x_safeNames y_safeSize x_safeWords y_said)
  | 0, _ => by
    rw [uk_fl0]
    exact ⟨_, _, _, hHd, hHo, hOk, hFi, hWk, fun _ _ _ _ h => h, fun _ _ _ _ h => h⟩
  | d + 1, hd => by
    obtain ⟨oh, ki, sz, a1, a2, a3, a4, a5, a6, a7⟩ := uk_gos hs hp hz hP hHd hHo hOk hFi hWk hzo hs1 d (by omega)
    obtain ⟨oh2, ki2, sz2, b1, b2, b3, b4, b5, b6, b7⟩ := uk_go1 (d := d) (x_changes := x_changes) (x_saidCount := x_saidCount) (x_time := x_time) (x_lastSlot := x_lastSlot) (x_sliceSteps := x_sliceSteps) (x_latestPid := x_latestPid) (x_greatestPid := x_greatestPid) (x_code := x_code) (x_codeLengths := x_codeLengths) (x_pids := x_pids) (x_parents := x_parents) (x_programs := x_programs) (x_places := x_places) (x_states := x_states) (x_statuses := x_statuses) (x_stepCounts := x_stepCounts) (x_copyCounts := x_copyCounts) (x_wakeTimes := x_wakeTimes) (x_registers := x_registers) (x_pageCounts := x_pageCounts) (x_pageFrames := x_pageFrames) (x_held := uk_fl x_held (6 * s) (fun _ => -1) d) (x_frameUsers := x_frameUsers) (x_frameWords := x_frameWords) (x_openHolders := oh) (x_openKinds := x_openKinds) (x_openTargets := x_openTargets) (x_openPlaces := x_openPlaces) (x_openModes := x_openModes) (x_pipeFirsts := x_pipeFirsts) (x_pipeCounts := x_pipeCounts) (x_pipeWords := x_pipeWords) (x_nameFiles := x_nameFiles) (x_fileSizes := x_fileSizes) (x_fileWords := x_fileWords) (x_safeNames := x_safeNames) (x_safeSizes := x_safeSizes) (x_safeWords := x_safeWords) (x_saidInts := x_saidInts) (y_time := y_time) (y_last := y_last) (y_lastPid := y_lastPid) (y_did := y_did) (y_killed := y_killed) (y_ops := y_ops) (y_as := y_as) (y_bs := y_bs) (y_pages := y_pages) (y_wake := y_wake) (y_zombie := y_zombie) (y_blocked := y_blocked) (y_memory := y_memory) (y_frame := y_frame) (y_kind := ki) (y_mode := y_mode) (y_pipe := y_pipe) (y_size := sz) (y_safeSize := y_safeSize) (y_said := y_said) hs (by omega) hp hz hP a1 a2 a3 a4 a5 hzo hs1
    rw [uk_fls (g := fun _ => -1)] at b1 b2 b5 b6 b7
    refine ⟨oh2, ki2, sz2, b1, b2, b3, b4, b5, fun post st q m h => ?_, fun post st q m h => ?_⟩
    · rw [show m + (d + 1) = (m + 1) + d by omega]
      exact a6 post st q (m + 1) (br_f (nI_ge (b := 6) (by omega) (by decide)) (b6 _ (nm_r (nI_1 d) h)))
    · rw [show m + (d + 1) = (m + 1) + d by omega]
      exact a7 post st q (m + 1) (br_f (nI_ge (b := 6) (by omega) (by decide)) (b7 _ (nm_r (nI_1 d) h)))
theorem uk_orph {zo1 : Nat → Int32} {t e : Nat} {q heir : Int32} (he : e < 8) (hz : y_zombie e = 0) (hh : ¬ heir < 0) (hPs : uk_Ps x_pids x_parents x_programs x_places x_statuses x_states y_zombie y_blocked) (hMe : uk_Me x_pids y_zombie x_pageCounts y_pages x_pageFrames y_frame x_frameWords y_memory) (hFu : uk_Fu x_pids y_pages y_frame x_frameUsers) (hHd : uk_Hd x_pids y_zombie x_held) (hHo : uk_Ho x_pids y_zombie x_held x_openHolders) (hWk : uk_Wk x_pids zo1 y_blocked x_programs x_places x_codeLengths y_ops y_bs x_wakeTimes y_wake x_registers x_held y_kind t) (hSc : uk_Sc x_pids x_lastSlot x_sliceSteps y_last y_lastPid y_did) : ∀ c, c ≤ 8 →
  ∃ P' Q', uk_Ps P' Q' x_programs x_places x_statuses x_states y_zombie y_blocked ∧ uk_Me P' y_zombie x_pageCounts y_pages x_pageFrames y_frame x_frameWords y_memory ∧ uk_Fu P' y_pages y_frame x_frameUsers ∧ uk_Hd P' y_zombie x_held ∧ uk_Ho P' y_zombie x_held x_openHolders ∧ uk_Wk P' zo1 y_blocked x_programs x_places x_codeLengths y_ops y_bs x_wakeTimes y_wake x_registers x_held y_kind t ∧ uk_Sc P' x_lastSlot x_sliceSteps y_last y_lastPid y_did ∧ P' e = x_pids e ∧
  (∀ (post : SX → Prop) (st : Int32) (m : Nat), wX_endProcess_86 post (nI e) st q heir x_changes x_saidCount x_time x_lastSlot x_sliceSteps x_latestPid x_greatestPid m (nI c) x_code x_codeLengths P' Q' x_programs x_places x_states x_statuses x_stepCounts x_copyCounts x_wakeTimes x_registers x_pageCounts x_pageFrames x_held x_frameUsers x_frameWords x_openHolders x_openKinds x_openTargets x_openPlaces x_openModes x_pipeFirsts x_pipeCounts x_pipeWords x_nameFiles x_fileSizes x_fileWords x_safeNames x_safeSizes x_safeWords x_saidInts → wX_endProcess_86 post (nI e) st q heir x_changes x_saidCount x_time x_lastSlot x_sliceSteps x_latestPid x_greatestPid (m + c) 0 x_code x_codeLengths x_pids x_parents x_programs x_places x_states x_statuses x_stepCounts x_copyCounts x_wakeTimes x_registers x_pageCounts x_pageFrames x_held x_frameUsers x_frameWords x_openHolders x_openKinds x_openTargets x_openPlaces x_openModes x_pipeFirsts x_pipeCounts x_pipeWords x_nameFiles x_fileSizes x_fileWords x_safeNames x_safeSizes x_safeWords x_saidInts) ∧
  (∀ (post : SY → Prop) (st : Int32) (m : Nat), wY_exit_74 post (nI e) st q heir x_changes y_time y_last y_lastPid y_did x_greatestPid x_latestPid x_saidCount y_killed m (nI c) y_ops y_as y_bs x_codeLengths P' Q' x_programs x_places x_statuses x_stepCounts x_copyCounts y_pages y_wake y_zombie y_blocked x_registers y_memory y_frame x_held y_kind x_openTargets y_mode x_openPlaces x_pipeCounts y_pipe x_nameFiles y_size x_fileWords x_safeNames y_safeSize x_safeWords y_said → wY_exit_74 post (nI e) st q heir x_changes y_time y_last y_lastPid y_did x_greatestPid x_latestPid x_saidCount y_killed (m + c) 0 y_ops y_as y_bs x_codeLengths x_pids x_parents x_programs x_places x_statuses x_stepCounts x_copyCounts y_pages y_wake y_zombie y_blocked x_registers y_memory y_frame x_held y_kind x_openTargets y_mode x_openPlaces x_pipeCounts y_pipe x_nameFiles y_size x_fileWords x_safeNames y_safeSize x_safeWords y_said)
  | 0, _ => ⟨_, _, hPs, hMe, hFu, hHd, hHo, hWk, hSc, rfl, fun _ _ _ h => h, fun _ _ _ h => h⟩
  | c + 1, hc => by
    obtain ⟨P', Q', a1, a2, a3, a4, a5, a6, a7, a8, a9, a10⟩ := uk_orph he hz hh hPs hMe hFu hHd hHo hWk hSc c (by omega)
    obtain ⟨z, v, ev⟩ := uk_lp 8 (show c < 8 by omega) (by decide)
    have eX : ∀ m, m + (c + 1) = (m + 1) + c := fun m => by omega
    by_cases h1 : P' c = 0
    · refine ⟨P', Q', a1, a2, a3, a4, a5, a6, a7, a8, fun post st m h => ?_, fun post st m h => ?_⟩
      · rw [eX]
        refine a9 post st (m + 1) (br_f z ⟨v, ?_⟩)
        rw [ev]
        exact br_t h1 (nm_r (nI_1 c) h)
      · rw [eX]
        refine a10 post st (m + 1) (br_f z ⟨v, ?_⟩)
        rw [ev]
        exact br_t h1 (nm_r (nI_1 c) h)
    by_cases h2 : Q' c = q
    · have b1 : uk_Ps P' (upd Q' c heir) x_programs x_places x_statuses x_states y_zombie y_blocked := fun s hs => by
        obtain ⟨k1, k2, k3⟩ := a1 s hs
        refine ⟨k1, ?_, k3⟩
        by_cases e2 : s = c
        · subst e2; rw [pk_us]; exact hh
        · rw [pk_un e2]; exact k2
      by_cases h3 : heir = 0
      · by_cases h4 : y_zombie c = 0
        · have h5 : ¬ x_states c = 3 := fun w => absurd (((uk_zst a1 (by omega) h1).mp w).symm.trans h4) (by decide)
          refine ⟨P', upd Q' c heir, b1, a2, a3, a4, a5, a6, a7, a8, fun post st m h => ?_, fun post st m h => ?_⟩
          · rw [eX]
            refine a9 post st (m + 1) (br_f z ⟨v, ?_⟩)
            rw [ev]
            exact br_f h1 ⟨v, br_t h2 ⟨v, nm_e (br_t h3 ⟨v, br_f h5 (nm_r (nI_1 c) h)⟩)⟩⟩
          · rw [eX]
            refine a10 post st (m + 1) (br_f z ⟨v, ?_⟩)
            rw [ev]
            exact br_f h1 ⟨v, br_t h2 ⟨v, nm_e (br_t h3 ⟨v, br_t h4 (nm_r (nI_1 c) h)⟩)⟩⟩
        · have h4' : y_zombie c = 1 := (a1 c (by omega)).2.2.2.2.1.resolve_left h4
          have h5 : x_states c = 3 := (uk_zst a1 (by omega) h1).mpr h4'
          have hce : e ≠ c := fun w => by subst w; exact h4 hz
          have hpg : P' c ≠ 0 → y_pages c = 0 := fun w => by
            obtain ⟨n, _, _, k3, k4, _⟩ := a2 c (by omega) w
            rw [k3, k4 h4']; rfl
          refine ⟨upd P' c 0, upd Q' c heir, uk_P0_Ps c b1, uk_P0_Me c a2, uk_P0_Fu c a3 hpg, uk_P0_Hd c a4, uk_P0_Ho c a5 (fun o _ => uk_hw0 (fun w => h4 w.2)), uk_P0_Wk c a6, uk_P0_Sc c a7, (pk_un hce).trans a8, fun post st m h => ?_, fun post st m h => ?_⟩
          · rw [eX]
            refine a9 post st (m + 1) (br_f z ⟨v, ?_⟩)
            rw [ev]
            exact br_f h1 ⟨v, br_t h2 ⟨v, nm_e (br_t h3 ⟨v, br_t h5 ⟨v, nm_e (nm_r (nI_1 c) h)⟩⟩)⟩⟩
          · rw [eX]
            refine a10 post st (m + 1) (br_f z ⟨v, ?_⟩)
            rw [ev]
            exact br_f h1 ⟨v, br_t h2 ⟨v, nm_e (br_t h3 ⟨v, br_f h4 ⟨v, nm_e (nm_r (nI_1 c) h)⟩⟩)⟩⟩
      · refine ⟨P', upd Q' c heir, b1, a2, a3, a4, a5, a6, a7, a8, fun post st m h => ?_, fun post st m h => ?_⟩
        · rw [eX]
          refine a9 post st (m + 1) (br_f z ⟨v, ?_⟩)
          rw [ev]
          exact br_f h1 ⟨v, br_t h2 ⟨v, nm_e (br_f h3 (nm_r (nI_1 c) h))⟩⟩
        · rw [eX]
          refine a10 post st (m + 1) (br_f z ⟨v, ?_⟩)
          rw [ev]
          exact br_f h1 ⟨v, br_t h2 ⟨v, nm_e (br_f h3 (nm_r (nI_1 c) h))⟩⟩
    · refine ⟨P', Q', a1, a2, a3, a4, a5, a6, a7, a8, fun post st m h => ?_, fun post st m h => ?_⟩
      · rw [eX]
        refine a9 post st (m + 1) (br_f z ⟨v, ?_⟩)
        rw [ev]
        exact br_f h1 ⟨v, br_f h2 (nm_r (nI_1 c) h)⟩
      · rw [eX]
        refine a10 post st (m + 1) (br_f z ⟨v, ?_⟩)
        rw [ev]
        exact br_f h1 ⟨v, br_f h2 (nm_r (nI_1 c) h)⟩
end
end
section
/-! a process ends: the whole of it -/
section
variable {x_changes x_saidCount x_time x_lastSlot x_sliceSteps x_latestPid x_greatestPid : Int32} {x_code x_codeLengths x_pids x_parents x_programs x_places x_states x_statuses x_stepCounts x_copyCounts x_wakeTimes x_registers x_pageCounts x_pageFrames x_held x_frameUsers x_frameWords x_openHolders x_openKinds x_openTargets x_openPlaces x_openModes x_pipeFirsts x_pipeCounts x_pipeWords x_nameFiles x_fileSizes x_fileWords x_safeNames x_safeSizes x_safeWords x_saidInts : Nat → Int32} {y_time y_last y_lastPid y_did y_killed : Int32} {y_ops y_as y_bs y_pages y_wake y_zombie y_blocked y_memory y_frame y_kind y_mode y_pipe y_size y_safeSize y_said : Nat → Int32}
theorem uk_heir {e : Nat} {st : Int32} (he : e < 8) (hPs : uk_Ps x_pids x_parents x_programs x_places x_statuses x_states y_zombie y_blocked) {n : Nat} (hn : x_pageCounts e = nI n) (hn8 : n ≤ 8) (hpf : ∀ p, p < n → vp_in (x_pageFrames (8 * e + p)) 20) : ∃ heir : Int32, (heir = 0 ∨ heir = 1) ∧
  (∀ (post : SX → Prop) (m : Nat), wX_endProcess_86 post (nI e) st (x_pids e) heir x_changes x_saidCount x_time x_lastSlot x_sliceSteps x_latestPid x_greatestPid m 0 x_code x_codeLengths x_pids x_parents x_programs x_places x_states x_statuses x_stepCounts x_copyCounts x_wakeTimes x_registers (upd x_pageCounts e 0) x_pageFrames x_held (uk_dec x_frameUsers x_pageFrames (8 * e) n) x_frameWords x_openHolders x_openKinds x_openTargets x_openPlaces x_openModes x_pipeFirsts x_pipeCounts x_pipeWords x_nameFiles x_fileSizes x_fileWords x_safeNames x_safeSizes x_safeWords x_saidInts → wX_endProcess_10 post (nI e) st (x_pids e) 1 (nI 6) x_changes x_saidCount x_time x_lastSlot x_sliceSteps x_latestPid x_greatestPid x_code x_codeLengths x_pids x_parents x_programs x_places x_states x_statuses x_stepCounts x_copyCounts x_wakeTimes x_registers x_pageCounts x_pageFrames x_held x_frameUsers x_frameWords x_openHolders x_openKinds x_openTargets x_openPlaces x_openModes x_pipeFirsts x_pipeCounts x_pipeWords x_nameFiles x_fileSizes x_fileWords x_safeNames x_safeSizes x_safeWords x_saidInts) ∧
  (∀ (post : SY → Prop) (m : Nat), wY_exit_74 post (nI e) st (x_pids e) heir x_changes y_time y_last y_lastPid y_did x_greatestPid x_latestPid x_saidCount y_killed m 0 y_ops y_as y_bs x_codeLengths x_pids x_parents x_programs x_places x_statuses x_stepCounts x_copyCounts (upd y_pages e 0) y_wake y_zombie y_blocked x_registers y_memory y_frame x_held y_kind x_openTargets y_mode x_openPlaces x_pipeCounts y_pipe x_nameFiles y_size x_fileWords x_safeNames y_safeSize x_safeWords y_said → wY_exit_10 post (nI e) st (x_pids e) 1 (nI 6) x_changes y_time y_last y_lastPid y_did x_greatestPid x_latestPid x_saidCount y_killed y_ops y_as y_bs x_codeLengths x_pids x_parents x_programs x_places x_statuses x_stepCounts x_copyCounts y_pages y_wake y_zombie y_blocked x_registers y_memory y_frame x_held y_kind x_openTargets y_mode x_openPlaces x_pipeCounts y_pipe x_nameFiles y_size x_fileWords x_safeNames y_safeSize x_safeWords y_said) := by
  obtain ⟨_, vs, es⟩ := uk_lp 8 he (by decide)
  have n11 : ¬ (1 : Int32) < 1 := by decide
  have key : ∀ heir : Int32, ((x_pids e = 1 ∧ heir = 0) ∨ (x_pids e ≠ 1 ∧ ((uk_ff (fun s => x_pids s = 1) 8 = -1 ∧ heir = 0) ∨ (∃ i, i < 8 ∧ uk_ff (fun s => x_pids s = 1) 8 = nI i ∧ ((x_states i = 3 ∧ y_zombie i ≠ 0 ∧ heir = 0) ∨ (x_states i ≠ 3 ∧ y_zombie i = 0 ∧ heir = 1)))))) →
    (∀ (post : SX → Prop) (m : Nat), wX_endProcess_86 post (nI e) st (x_pids e) heir x_changes x_saidCount x_time x_lastSlot x_sliceSteps x_latestPid x_greatestPid m 0 x_code x_codeLengths x_pids x_parents x_programs x_places x_states x_statuses x_stepCounts x_copyCounts x_wakeTimes x_registers (upd x_pageCounts e 0) x_pageFrames x_held (uk_dec x_frameUsers x_pageFrames (8 * e) n) x_frameWords x_openHolders x_openKinds x_openTargets x_openPlaces x_openModes x_pipeFirsts x_pipeCounts x_pipeWords x_nameFiles x_fileSizes x_fileWords x_safeNames x_safeSizes x_safeWords x_saidInts → wX_endProcess_10 post (nI e) st (x_pids e) 1 (nI 6) x_changes x_saidCount x_time x_lastSlot x_sliceSteps x_latestPid x_greatestPid x_code x_codeLengths x_pids x_parents x_programs x_places x_states x_statuses x_stepCounts x_copyCounts x_wakeTimes x_registers x_pageCounts x_pageFrames x_held x_frameUsers x_frameWords x_openHolders x_openKinds x_openTargets x_openPlaces x_openModes x_pipeFirsts x_pipeCounts x_pipeWords x_nameFiles x_fileSizes x_fileWords x_safeNames x_safeSizes x_safeWords x_saidInts) ∧
    (∀ (post : SY → Prop) (m : Nat), wY_exit_74 post (nI e) st (x_pids e) heir x_changes y_time y_last y_lastPid y_did x_greatestPid x_latestPid x_saidCount y_killed m 0 y_ops y_as y_bs x_codeLengths x_pids x_parents x_programs x_places x_statuses x_stepCounts x_copyCounts (upd y_pages e 0) y_wake y_zombie y_blocked x_registers y_memory y_frame x_held y_kind x_openTargets y_mode x_openPlaces x_pipeCounts y_pipe x_nameFiles y_size x_fileWords x_safeNames y_safeSize x_safeWords y_said → wY_exit_10 post (nI e) st (x_pids e) 1 (nI 6) x_changes y_time y_last y_lastPid y_did x_greatestPid x_latestPid x_saidCount y_killed y_ops y_as y_bs x_codeLengths x_pids x_parents x_programs x_places x_statuses x_stepCounts x_copyCounts y_pages y_wake y_zombie y_blocked x_registers y_memory y_frame x_held y_kind x_openTargets y_mode x_openPlaces x_pipeCounts y_pipe x_nameFiles y_size x_fileWords x_safeNames y_safeSize x_safeWords y_said) := fun heir hc => by
    constructor
    · intro post m h
      refine br_t (uk_refl 6) (xk_dropPages he hn hn8 hpf (xk_findSlot (fun z => absurd z n11) (fun _ => ?_)))
      rcases hc with ⟨c1, rfl⟩ | ⟨c1, c2⟩
      · exact br_t c1 (br_f (by decide) ⟨m, h⟩)
      · refine br_f c1 ?_
        rcases c2 with ⟨c2, rfl⟩ | ⟨i, hi, c2, c3⟩
        · rw [c2]
          exact br_t rfl (br_f (by decide) ⟨m, h⟩)
        · rw [c2]
          refine br_f (uk_ne1 (by omega)) ⟨vp_in_nI hi (by decide), ?_⟩
          rw [nI_clamp (show i < 2 ^ 31 by omega)]
          rcases c3 with ⟨c3, _, rfl⟩ | ⟨c3, _, rfl⟩
          · exact br_t c3 (br_f (by decide) ⟨m, h⟩)
          · exact br_f c3 (br_t rfl ⟨m, h⟩)
    · intro post m h
      refine br_t (uk_refl 6) ⟨vs, ?_⟩
      rw [es]
      refine nm_e (yk_slotOf (fun z => absurd z n11) (fun _ => ?_))
      rcases hc with ⟨c1, rfl⟩ | ⟨c1, c2⟩
      · exact br_t c1 ⟨m, h⟩
      · refine br_f c1 ?_
        rcases c2 with ⟨c2, rfl⟩ | ⟨i, hi, c2, c3⟩
        · rw [c2]
          exact br_t (by decide) ⟨m, h⟩
        · rw [c2]
          refine br_f (nI_pos (by omega)) ⟨vp_in_nI hi (by decide), ?_⟩
          rw [nI_clamp (show i < 2 ^ 31 by omega)]
          rcases c3 with ⟨_, c3, rfl⟩ | ⟨_, c3, rfl⟩
          · exact br_f c3 ⟨m, h⟩
          · exact br_t c3 ⟨m, h⟩
  by_cases c1 : x_pids e = 1
  · exact ⟨0, Or.inl rfl, key 0 (Or.inl ⟨c1, rfl⟩)⟩
  · rcases uk_slot (P := x_pids) n11 with c2 | ⟨i, hi, c2, c3, c4⟩
    · exact ⟨0, Or.inl rfl, key 0 (Or.inr ⟨c1, Or.inl ⟨c2, rfl⟩⟩)⟩
    · by_cases c5 : y_zombie i = 0
      · exact ⟨1, Or.inr rfl, key 1 (Or.inr ⟨c1, Or.inr ⟨i, hi, c2, Or.inr ⟨fun w => absurd (((uk_zst hPs hi c4).mp w).symm.trans c5) (by decide), c5, rfl⟩⟩⟩)⟩
      · exact ⟨0, Or.inl rfl, key 0 (Or.inr ⟨c1, Or.inr ⟨i, hi, c2, Or.inl ⟨(uk_zst hPs hi c4).mpr ((hPs i hi).2.2.2.2.1.resolve_left c5), c5, rfl⟩⟩⟩)⟩
theorem uk_exit {t e : Nat} (st : Int32) (he : e < 8) (hp : x_pids e ≠ 0) (hz : y_zombie e = 0) (hPs : uk_Ps x_pids x_parents x_programs x_places x_statuses x_states y_zombie y_blocked) (hMe : uk_Me x_pids y_zombie x_pageCounts y_pages x_pageFrames y_frame x_frameWords y_memory) (hFu : uk_Fu x_pids y_pages y_frame x_frameUsers) (hHd : uk_Hd x_pids y_zombie x_held) (hHo : uk_Ho x_pids y_zombie x_held x_openHolders) (hOk : uk_Ok x_openHolders x_openKinds y_kind x_openTargets x_openModes y_mode x_openPlaces) (hFi : uk_Fi x_nameFiles y_kind x_openTargets x_fileSizes y_size) (hSc : uk_Sc x_pids x_lastSlot x_sliceSteps y_last y_lastPid y_did) (hWk : uk_Wk x_pids y_zombie y_blocked x_programs x_places x_codeLengths y_ops y_bs x_wakeTimes y_wake x_registers x_held y_kind t) :
  ∃ P' Q' zo' oh' ki' sz' fu', uk_Ps P' Q' x_programs x_places (upd x_statuses e st) (upd x_states e 3) zo' (upd y_blocked e 0) ∧ uk_Me P' zo' (upd x_pageCounts e 0) (upd y_pages e 0) x_pageFrames y_frame x_frameWords y_memory ∧ uk_Fu P' (upd y_pages e 0) y_frame fu' ∧ uk_Hd P' zo' (uk_fl x_held (6 * e) (fun _ => -1) 6) ∧ uk_Ho P' zo' (uk_fl x_held (6 * e) (fun _ => -1) 6) oh' ∧ uk_Ok oh' x_openKinds ki' x_openTargets x_openModes y_mode x_openPlaces ∧ uk_Fi x_nameFiles ki' x_openTargets x_fileSizes sz' ∧ uk_Sc P' x_lastSlot x_sliceSteps y_last y_lastPid y_did ∧ uk_Wk P' zo' (upd y_blocked e 0) x_programs x_places x_codeLengths y_ops y_bs x_wakeTimes y_wake x_registers (uk_fl x_held (6 * e) (fun _ => -1) 6) ki' t ∧
  (∀ post : SX → Prop, post (x_changes, x_saidCount, x_time, x_lastSlot, x_sliceSteps, x_latestPid, x_greatestPid, x_code, x_codeLengths, P', Q', x_programs, x_places, upd x_states e 3, upd x_statuses e st, x_stepCounts, x_copyCounts, x_wakeTimes, x_registers, upd x_pageCounts e 0, x_pageFrames, uk_fl x_held (6 * e) (fun _ => -1) 6, fu', x_frameWords, oh', x_openKinds, x_openTargets, x_openPlaces, x_openModes, x_pipeFirsts, x_pipeCounts, x_pipeWords, x_nameFiles, x_fileSizes, x_fileWords, x_safeNames, x_safeSizes, x_safeWords, x_saidInts) → wpX_endProcess post (x_changes, x_saidCount, x_time, x_lastSlot, x_sliceSteps, x_latestPid, x_greatestPid, x_code, x_codeLengths, x_pids, x_parents, x_programs, x_places, x_states, x_statuses, x_stepCounts, x_copyCounts, x_wakeTimes, x_registers, x_pageCounts, x_pageFrames, x_held, x_frameUsers, x_frameWords, x_openHolders, x_openKinds, x_openTargets, x_openPlaces, x_openModes, x_pipeFirsts, x_pipeCounts, x_pipeWords, x_nameFiles, x_fileSizes, x_fileWords, x_safeNames, x_safeSizes, x_safeWords, x_saidInts) (nI e) st) ∧
  (∀ post : SY → Prop, post (x_changes, y_time, y_last, y_lastPid, y_did, x_greatestPid, x_latestPid, x_saidCount, y_killed, y_ops, y_as, y_bs, x_codeLengths, P', Q', x_programs, x_places, upd x_statuses e st, x_stepCounts, x_copyCounts, upd y_pages e 0, y_wake, zo', upd y_blocked e 0, x_registers, y_memory, y_frame, uk_fl x_held (6 * e) (fun _ => -1) 6, ki', x_openTargets, y_mode, x_openPlaces, x_pipeCounts, y_pipe, x_nameFiles, sz', x_fileWords, x_safeNames, y_safeSize, x_safeWords, y_said) → wpY_exit post (x_changes, y_time, y_last, y_lastPid, y_did, x_greatestPid, x_latestPid, x_saidCount, y_killed, y_ops, y_as, y_bs, x_codeLengths, x_pids, x_parents, x_programs, x_places, x_statuses, x_stepCounts, x_copyCounts, y_pages, y_wake, y_zombie, y_blocked, x_registers, y_memory, y_frame, x_held, y_kind, x_openTargets, y_mode, x_openPlaces, x_pipeCounts, y_pipe, x_nameFiles, y_size, x_fileWords, x_safeNames, y_safeSize, x_safeWords, y_said) (nI e) st) := by
  obtain ⟨_, vs, es⟩ := uk_lp 8 he (by decide)
  have hP : ∀ s, s < 8 → ¬ x_pids s < 0 := fun s hs => (hPs s hs).1
  obtain ⟨n, hn8, n2, n3, n4, n5⟩ := hMe e he hp
  have hpf : ∀ p, p < n → vp_in (x_pageFrames (8 * e + p)) 20 := fun p hp => by rw [(n5 p hp).2.1]; exact (n5 p hp).1
  have hWk1 : uk_Wk x_pids (upd y_zombie e 1) y_blocked x_programs x_places x_codeLengths y_ops y_bs x_wakeTimes y_wake x_registers x_held y_kind t := uk_WkC (Nat.le_refl t) hWk (fun s' hs' hP' hz' => by
    by_cases w : s' = e
    · subst w; rw [pk_us] at hz'; exact absurd hz' (by decide)
    · rw [pk_un w] at hz'
      exact Or.inr ⟨hP', hz', rfl, rfl, rfl, rfl, rfl, rfl, fun _ _ => rfl, fun _ _ _ _ _ _ => rfl⟩)
  obtain ⟨oh', ki', sz', a1, a2, a3, a4, a5, a6, a7⟩ := uk_gos (x_changes := x_changes) (x_saidCount := x_saidCount) (x_time := x_time) (x_lastSlot := x_lastSlot) (x_sliceSteps := x_sliceSteps) (x_latestPid := x_latestPid) (x_greatestPid := x_greatestPid) (x_code := x_code) (x_codeLengths := x_codeLengths) (x_pids := x_pids) (x_parents := x_parents) (x_programs := x_programs) (x_places := x_places) (x_states := x_states) (x_statuses := x_statuses) (x_stepCounts := x_stepCounts) (x_copyCounts := x_copyCounts) (x_wakeTimes := x_wakeTimes) (x_registers := x_registers) (x_pageCounts := x_pageCounts) (x_pageFrames := x_pageFrames) (x_held := x_held) (x_frameUsers := x_frameUsers) (x_frameWords := x_frameWords) (x_openHolders := x_openHolders) (x_openKinds := x_openKinds) (x_openTargets := x_openTargets) (x_openPlaces := x_openPlaces) (x_openModes := x_openModes) (x_pipeFirsts := x_pipeFirsts) (x_pipeCounts := x_pipeCounts) (x_pipeWords := x_pipeWords) (x_nameFiles := x_nameFiles) (x_fileSizes := x_fileSizes) (x_fileWords := x_fileWords) (x_safeNames := x_safeNames) (x_safeSizes := x_safeSizes) (x_safeWords := x_safeWords) (x_saidInts := x_saidInts) (y_time := y_time) (y_last := y_last) (y_lastPid := y_lastPid) (y_did := y_did) (y_killed := y_killed) (y_ops := y_ops) (y_as := y_as) (y_bs := y_bs) (y_pages := y_pages) (y_wake := y_wake) (y_zombie := y_zombie) (y_blocked := y_blocked) (y_memory := y_memory) (y_frame := y_frame) (y_kind := y_kind) (y_mode := y_mode) (y_pipe := y_pipe) (y_size := y_size) (y_safeSize := y_safeSize) (y_said := y_said) (zo1 := upd y_zombie e 1) he hp hz hP hHd hHo hOk hFi hWk1 (fun s' _ w z => by rw [pk_un w] at z; exact z) (fun z => by rw [pk_us] at z; exact absurd z (by decide)) 6 (Nat.le_refl 6)
  have hMe' := uk_drop_Me e hMe
  have hFu' := uk_drop_Fu hMe hFu he hp n3 (by omega)
  obtain ⟨heir, hh, b1, b2⟩ := uk_heir (x_changes := x_changes) (x_saidCount := x_saidCount) (x_time := x_time) (x_lastSlot := x_lastSlot) (x_sliceSteps := x_sliceSteps) (x_latestPid := x_latestPid) (x_greatestPid := x_greatestPid) (x_code := x_code) (x_codeLengths := x_codeLengths) (x_pids := x_pids) (x_parents := x_parents) (x_programs := x_programs) (x_places := x_places) (x_states := x_states) (x_statuses := x_statuses) (x_stepCounts := x_stepCounts) (x_copyCounts := x_copyCounts) (x_wakeTimes := x_wakeTimes) (x_registers := x_registers) (x_pageCounts := x_pageCounts) (x_pageFrames := x_pageFrames) (x_held := uk_fl x_held (6 * e) (fun _ => -1) 6) (x_frameUsers := x_frameUsers) (x_frameWords := x_frameWords) (x_openHolders := oh') (x_openKinds := x_openKinds) (x_openTargets := x_openTargets) (x_openPlaces := x_openPlaces) (x_openModes := x_openModes) (x_pipeFirsts := x_pipeFirsts) (x_pipeCounts := x_pipeCounts) (x_pipeWords := x_pipeWords) (x_nameFiles := x_nameFiles) (x_fileSizes := x_fileSizes) (x_fileWords := x_fileWords) (x_safeNames := x_safeNames) (x_safeSizes := x_safeSizes) (x_safeWords := x_safeWords) (x_saidInts := x_saidInts) (y_time := y_time) (y_last := y_last) (y_lastPid := y_lastPid) (y_did := y_did) (y_killed := y_killed) (y_ops := y_ops) (y_as := y_as) (y_bs := y_bs) (y_pages := y_pages) (y_wake := y_wake) (y_zombie := y_zombie) (y_blocked := y_blocked) (y_memory := y_memory) (y_frame := y_frame) (y_kind := ki') (y_mode := y_mode) (y_pipe := y_pipe) (y_size := sz') (y_safeSize := y_safeSize) (y_said := y_said) (st := st) he hPs n2 hn8 hpf
  have hh0 : ¬ heir < 0 := by rcases hh with h | h <;> rw [h] <;> decide
  obtain ⟨P', Q', c1, c2, c3, c4, c5, c6, c7, c8, c9, c10⟩ := uk_orph (x_changes := x_changes) (x_saidCount := x_saidCount) (x_time := x_time) (x_lastSlot := x_lastSlot) (x_sliceSteps := x_sliceSteps) (x_latestPid := x_latestPid) (x_greatestPid := x_greatestPid) (x_code := x_code) (x_codeLengths := x_codeLengths) (x_pids := x_pids) (x_parents := x_parents) (x_programs := x_programs) (x_places := x_places) (x_states := x_states) (x_statuses := x_statuses) (x_stepCounts := x_stepCounts) (x_copyCounts := x_copyCounts) (x_wakeTimes := x_wakeTimes) (x_registers := x_registers) (x_pageCounts := upd x_pageCounts e 0) (x_pageFrames := x_pageFrames) (x_held := uk_fl x_held (6 * e) (fun _ => -1) 6) (x_frameUsers := uk_dec x_frameUsers x_pageFrames (8 * e) n) (x_frameWords := x_frameWords) (x_openHolders := oh') (x_openKinds := x_openKinds) (x_openTargets := x_openTargets) (x_openPlaces := x_openPlaces) (x_openModes := x_openModes) (x_pipeFirsts := x_pipeFirsts) (x_pipeCounts := x_pipeCounts) (x_pipeWords := x_pipeWords) (x_nameFiles := x_nameFiles) (x_fileSizes := x_fileSizes) (x_fileWords := x_fileWords) (x_safeNames := x_safeNames) (x_safeSizes := x_safeSizes) (x_safeWords := x_safeWords) (x_saidInts := x_saidInts) (y_time := y_time) (y_last := y_last) (y_lastPid := y_lastPid) (y_did := y_did) (y_killed := y_killed) (y_ops := y_ops) (y_as := y_as) (y_bs := y_bs) (y_pages := upd y_pages e 0) (y_wake := y_wake) (y_zombie := y_zombie) (y_blocked := y_blocked) (y_memory := y_memory) (y_frame := y_frame) (y_kind := ki') (y_mode := y_mode) (y_pipe := y_pipe) (y_size := sz') (y_safeSize := y_safeSize) (y_said := y_said) (q := x_pids e) he hz hh0 hPs hMe' hFu' a1 a2 a5 hSc 8 (Nat.le_refl 8)
  have hH1 : ∀ d, d < 6 → uk_fl x_held (6 * e) (fun _ => -1) 6 (6 * e + d) = -1 := fun d hd => uk_flin hd
  have hpe : P' e ≠ 0 := by rw [c8]; exact hp
  have hq0 := (c1 e he).2.1
  have wX : ∀ post : SX → Prop, wX_endProcess_86 post (nI e) st (x_pids e) heir x_changes x_saidCount x_time x_lastSlot x_sliceSteps x_latestPid x_greatestPid 1 (nI 8) x_code x_codeLengths P' Q' x_programs x_places x_states x_statuses x_stepCounts x_copyCounts x_wakeTimes x_registers (upd x_pageCounts e 0) x_pageFrames (uk_fl x_held (6 * e) (fun _ => -1) 6) (uk_dec x_frameUsers x_pageFrames (8 * e) n) x_frameWords oh' x_openKinds x_openTargets x_openPlaces x_openModes x_pipeFirsts x_pipeCounts x_pipeWords x_nameFiles x_fileSizes x_fileWords x_safeNames x_safeSizes x_safeWords x_saidInts → wpX_endProcess post (x_changes, x_saidCount, x_time, x_lastSlot, x_sliceSteps, x_latestPid, x_greatestPid, x_code, x_codeLengths, x_pids, x_parents, x_programs, x_places, x_states, x_statuses, x_stepCounts, x_copyCounts, x_wakeTimes, x_registers, x_pageCounts, x_pageFrames, x_held, x_frameUsers, x_frameWords, x_openHolders, x_openKinds, x_openTargets, x_openPlaces, x_openModes, x_pipeFirsts, x_pipeCounts, x_pipeWords, x_nameFiles, x_fileSizes, x_fileWords, x_safeNames, x_safeSizes, x_safeWords, x_saidInts) (nI e) st := fun post h => by
    unfold wpX_endProcess
    refine ⟨vs, ?_⟩
    rw [es]
    exact nm_e ⟨1 + 6, a6 post st _ 1 (b1 post _ (c9 post st 1 h))⟩
  have wY : ∀ post : SY → Prop, wY_exit_74 post (nI e) st (x_pids e) heir x_changes y_time y_last y_lastPid y_did x_greatestPid x_latestPid x_saidCount y_killed 1 (nI 8) y_ops y_as y_bs x_codeLengths P' Q' x_programs x_places x_statuses x_stepCounts x_copyCounts (upd y_pages e 0) y_wake y_zombie y_blocked x_registers y_memory y_frame (uk_fl x_held (6 * e) (fun _ => -1) 6) ki' x_openTargets y_mode x_openPlaces x_pipeCounts y_pipe x_nameFiles sz' x_fileWords x_safeNames y_safeSize x_safeWords y_said → wpY_exit post (x_changes, y_time, y_last, y_lastPid, y_did, x_greatestPid, x_latestPid, x_saidCount, y_killed, y_ops, y_as, y_bs, x_codeLengths, x_pids, x_parents, x_programs, x_places, x_statuses, x_stepCounts, x_copyCounts, y_pages, y_wake, y_zombie, y_blocked, x_registers, y_memory, y_frame, x_held, y_kind, x_openTargets, y_mode, x_openPlaces, x_pipeCounts, y_pipe, x_nameFiles, y_size, x_fileWords, x_safeNames, y_safeSize, x_safeWords, y_said) (nI e) st := fun post h => by
    unfold wpY_exit
    refine ⟨vs, ?_⟩
    rw [es]
    exact nm_e ⟨1 + 6, a7 post st _ 1 (b2 post _ (c10 post st 1 h))⟩
  have c6' : ∀ P'', (∀ s, P'' s ≠ 0 → P' s ≠ 0) → ∀ zz : Int32, (P'' e ≠ 0 → zz = 1) → uk_Wk P'' (upd y_zombie e zz) (upd y_blocked e 0) x_programs x_places x_codeLengths y_ops y_bs x_wakeTimes y_wake x_registers (uk_fl x_held (6 * e) (fun _ => -1) 6) ki' t := fun P'' h1 zz h2 => uk_WkC (Nat.le_refl t) c6 (fun s' hs' hP' hz' => by
    by_cases w : s' = e
    · subst w; rw [pk_us, h2 hP'] at hz'; exact absurd hz' (by decide)
    · rw [pk_un w] at hz'
      exact Or.inr ⟨h1 s' hP', by rw [pk_un w]; exact hz', by rw [pk_un w], rfl, rfl, rfl, rfl, rfl, fun _ _ => rfl, fun _ _ _ _ _ _ => rfl⟩)
  by_cases hq : Q' e = 0
  · have k1 : ¬ upd P' e 0 e ≠ 0 := fun w => w pk_us
    refine ⟨upd P' e 0, Q', upd y_zombie e 0, oh', ki', sz', _, uk_end_Ps st 0 (uk_P0_Ps e c1) (Or.inl rfl) (fun w => absurd w k1), uk_end_Me 0 (uk_P0_Me e c2) pk_us, uk_P0_Fu e c3 (fun _ => pk_us), uk_end_Hd 0 (uk_P0_Hd e c4) (fun w => absurd w k1), uk_end_Ho 0 (uk_P0_Ho e c5 (fun o ho => ?_)) hH1, a3, a4, uk_P0_Sc e c7, c6' _ (fun s hs => (uk_P0n hs).2) 0 (fun w => absurd w k1), fun post h => wX post ?_, fun post h => wY post ?_⟩
    · rw [uk_hwn hpe hz]
      exact uk_cn0 6 (fun d hd w => uk_ne1 (n := o) (by omega) (w.symm.trans (hH1 d hd)))
    · refine br_t (uk_refl 8) ⟨vs, ?_⟩
      rw [es]
      exact nm_e ⟨vs, nm_e ⟨vs, br_t hq ⟨vs, nm_e h⟩⟩⟩
    · refine br_t (uk_refl 8) ⟨vs, ?_⟩
      rw [es]
      refine nm_e ⟨vs, br_t ((uk_le0 hq0).mpr hq) ⟨vs, ?_⟩⟩
      rw [es]
      exact nm_e ⟨vs, nm_e ⟨vs, br_t pk_us ⟨vs, nm_e h⟩⟩⟩
  · refine ⟨P', Q', upd y_zombie e 1, oh', ki', sz', _, uk_end_Ps st 1 c1 (Or.inr rfl) (fun _ => rfl), uk_end_Me 1 c2 pk_us, c3, uk_end_Hd 1 c4 (fun _ => rfl), uk_end_Ho 1 c5 hH1, a3, a4, c7, c6' _ (fun s hs => hs) 1 (fun _ => rfl), fun post h => wX post ?_, fun post h => wY post ?_⟩
    · refine br_t (uk_refl 8) ⟨vs, ?_⟩
      rw [es]
      exact nm_e ⟨vs, nm_e ⟨vs, br_f hq h⟩⟩
    · refine br_t (uk_refl 8) ⟨vs, ?_⟩
      rw [es]
      refine nm_e ⟨vs, br_f (fun w => hq ((uk_le0 hq0).mp w)) ⟨vs, ?_⟩⟩
      rw [es]
      exact nm_e ⟨vs, nm_e ⟨vs, br_f (by rw [pk_us]; decide) h⟩⟩
end
end
