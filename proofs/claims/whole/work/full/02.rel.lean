/-- an instruction that add takes -/
def uk_val (op a b : Int32) : Prop :=
  (op = 0 ∧ vp_in a 4) ∨ ((op = 1 ∨ op = 2 ∨ op = 3 ∨ op = 4 ∨ op = 5) ∧ vp_in a 4 ∧ vp_in b 4) ∨ (op = 6 ∧ vp_in b 24) ∨ (op = 7 ∧ vp_in a 4 ∧ vp_in b 24) ∨ (op = 8 ∧ vp_in b 19)
/-- the programs: X's code against Y's three tables -/
def uk_Pr (cd ln os oa ob : Nat → Int32) : Prop :=
  (∀ k, k < 144 → os k = cd (3 * k) ∧ ob k = cd (3 * k + 2) ∧ (os k ≠ 6 → os k ≠ 8 → oa k = cd (3 * k + 1))) ∧
  (∀ p, p < 6 → ∃ n, n ≤ 24 ∧ ln p = nI n ∧ ∀ j, j < n → uk_val (cd (3 * (24 * p + j))) (cd (3 * (24 * p + j) + 1)) (cd (3 * (24 * p + j) + 2)))
/-- the processes: pids P, parents Q, programs G, places L, statuses U; X's states, Y's zombie and blocked -/
def uk_Ps (P Q G L U st zo bl : Nat → Int32) : Prop := ∀ s, s < 8 → ¬ P s < 0 ∧ ¬ Q s < 0 ∧ vp_in (G s) 6 ∧ vp_in (L s) 25 ∧ (zo s = 0 ∨ zo s = 1) ∧ (bl s = 0 ∨ bl s = 1) ∧
  (P s ≠ 0 → (zo s = 1 ∧ st s = 3) ∨ (zo s = 0 ∧ U s = 0 ∧ ((bl s = 0 ∧ st s = 1) ∨ (bl s = 1 ∧ st s = 2))))
/-- pages and words: X's pageCounts, pageFrames, frameWords; Y's pages, frame, memory -/
def uk_Me (P zo pc pg pf fr fw me : Nat → Int32) : Prop := ∀ s, s < 8 → P s ≠ 0 → ∃ n, n ≤ 8 ∧ pc s = nI n ∧ pg s = nI n ∧ (zo s = 1 → n = 0) ∧ ∀ p, p < n → vp_in (fr (8 * s + p)) 20 ∧ pf (8 * s + p) = fr (8 * s + p) ∧ ∀ k, k < 4 → fw (4 * (fr (8 * s + p)).toNatClampNeg + k) = me (32 * s + 4 * p + k)
/-- how many pages of slot s have frame f -/
noncomputable def uk_rw (P pg fr : Nat → Int32) (f s : Nat) : Nat := uk_b (P s ≠ 0) * uk_cn (fun p => fr (8 * s + p) = nI f) (pg s).toNatClampNeg
def uk_Fu (P pg fr fu : Nat → Int32) : Prop := ∀ f, f < 20 → fu f = nI (uk_sm (uk_rw P pg fr f) 8)
/-- descriptors and o-files -/
def uk_Hd (P zo H : Nat → Int32) : Prop := ∀ s, s < 8 → P s ≠ 0 → zo s = 0 → ∀ d, d < 6 → H (6 * s + d) = -1 ∨ vp_in (H (6 * s + d)) 12
noncomputable def uk_hw (P zo H : Nat → Int32) (o s : Nat) : Nat := uk_b (P s ≠ 0 ∧ zo s = 0) * uk_cn (fun d => H (6 * s + d) = nI o) 6
def uk_Ho (P zo H oh : Nat → Int32) : Prop := ∀ o, o < 12 → oh o = nI (uk_sm (uk_hw P zo H o) 8)
def uk_Ok (oh ok ki T om mo op : Nat → Int32) : Prop := ∀ o, o < 12 → vp_in (op o) 17 ∧ ((oh o = 0 ∧ ki o = 0) ∨ (oh o ≠ 0 ∧ ok o = ki o ∧ ((ki o = 1 ∧ om o = mo o ∧ mo o &&& 3 ≠ 0 ∧ vp_in (T o) 8) ∨ (ki o = 2 ∧ om o = 1 ∧ vp_in (T o) 4) ∨ (ki o = 3 ∧ om o = 2 ∧ vp_in (T o) 4))))
/-- pipes: X's ring against Y's row -/
def uk_Pi (C pf pw pi : Nat → Int32) : Prop := ∀ q, q < 4 → ∃ c f, c ≤ 4 ∧ f < 4 ∧ C q = nI c ∧ pf q = nI f ∧ ∀ j, j < c → pw (4 * q + (f + j) % 4) = pi (4 * q + j)
/-- files -/
def uk_fre (N ki T : Nat → Int32) (f : Nat) : Prop := (∀ k, k < 8 → N k ≠ nI f) ∧ ∀ o, o < 12 → ¬ (ki o = 1 ∧ T o = nI f)
def uk_Fi (N ki T fs sz : Nat → Int32) : Prop := (∀ k, k < 8 → N k = -1 ∨ vp_in (N k) 8) ∧ ∀ f, f < 8 → vp_in (sz f) 17 ∧ (uk_fre N ki T f → sz f = 0) ∧ (¬ uk_fre N ki T f → fs f = sz f)
def uk_Sa (sn ss sz : Nat → Int32) : Prop := (∀ k, k < 8 → sn k = -1 ∨ vp_in (sn k) 8) ∧ ∀ f, f < 8 → vp_in (sz f) 17 ∧ ((∃ k, k < 8 ∧ sn k = nI f) → ss f = sz f)
/-- what was said: n ints -/
def uk_Sd (n : Nat) (si sd : Nat → Int32) : Prop := ∀ k, k < 16 → k < n → si ((n - 1 - k) % 16) = sd k
/-- whose step it was -/
def uk_Sc (P : Nat → Int32) (ls sl la lp di : Int32) : Prop := vp_in ls 8 ∧ vp_in la 8 ∧ ((∀ s, s < 8 → P s = 0) ∨ (ls = la ∧ (P la.toNatClampNeg = 0 ∨ (P la.toNatClampNeg = lp ∧ sl = di))))
/-- descriptor R0 of slot s is an o-file of kind k -/
def uk_de (R H ki : Nat → Int32) (s : Nat) (k : Int32) : Prop := ∃ d o, d < 6 ∧ o < 12 ∧ R (4 * s) = nI d ∧ H (6 * s + d) = nI o ∧ ki o = k
/-- blocked processes, and when they wake -/
def uk_wk1 (G L ln os ob wt wk R H ki : Nat → Int32) (t s : Nat) : Prop :=
  (L s).toNatClampNeg < (ln (G s).toNatClampNeg).toNatClampNeg ∧ os (24 * (G s).toNatClampNeg + (L s).toNatClampNeg) = 8 ∧
  ((ob (24 * (G s).toNatClampNeg + (L s).toNatClampNeg) = 14 ∧ ∃ w, 0 < w ∧ w ≤ t + 1001 ∧ wt s = nI w ∧ wk s = nI w) ∨
   (wt s = 0 ∧ wk s = -1 ∧ (ob (24 * (G s).toNatClampNeg + (L s).toNatClampNeg) = 2 ∨ (ob (24 * (G s).toNatClampNeg + (L s).toNatClampNeg) = 7 ∧ uk_de R H ki s 2) ∨ (ob (24 * (G s).toNatClampNeg + (L s).toNatClampNeg) = 8 ∧ uk_de R H ki s 3))))
def uk_Wk (P zo bl G L ln os ob wt wk R H ki : Nat → Int32) (t : Nat) : Prop := ∀ s, s < 8 → P s ≠ 0 → zo s = 0 → (bl s = 0 ∧ wt s = 0 ∧ wk s = -1) ∨ (bl s = 1 ∧ uk_wk1 G L ln os ob wt wk R H ki t s)
