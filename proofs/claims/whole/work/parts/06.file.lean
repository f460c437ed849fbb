/-! pipes -/
theorem uk_pi_rd {C pf pw pi : Nat → Int32} {q c f : Nat} (h : uk_Pi C pf pw pi) (hq : q < 4) (hC : C q = nI (c + 1)) (hf : pf q = nI f) (hc4 : c < 4) (hf4 : f < 4) : pw (4 * q + f) = pi (4 * q) ∧ uk_Pi (upd C q (nI c)) (upd pf q (nI ((f + 1) % 4))) pw (uk_fl pi (4 * q) (fun k => pi (4 * q + k + 1)) c) := sorry
theorem uk_pi_wr {C pf pw pi : Nat → Int32} {q c f : Nat} (v : Int32) (h : uk_Pi C pf pw pi) (hq : q < 4) (hC : C q = nI c) (hf : pf q = nI f) (hc4 : c < 4) (hf4 : f < 4) : uk_Pi (upd C q (nI (c + 1))) pf (upd pw (4 * q + (f + c) % 4) v) (upd pi (4 * q + c) v) := sorry
theorem uk_pi_nw {C pf pw pi : Nat → Int32} (q : Nat) (h : uk_Pi C pf pw pi) : uk_Pi (upd C q 0) (upd pf q 0) pw pi := sorry
/-! files -/
theorem uk_Ok_op {oh ok ki T om mo op : Nat → Int32} {x : Int32} (o : Nat) (h : uk_Ok oh ok ki T om mo op) (hx : vp_in x 17) : uk_Ok oh ok ki T om mo (upd op o x) := sorry
theorem uk_Fi_sz {N ki T fs sz : Nat → Int32} {g : Nat} {x : Int32} (h : uk_Fi N ki T fs sz) (hx : vp_in x 17) (hn : ¬ uk_fre N ki T g) : uk_Fi N ki T (upd fs g x) (upd sz g x) := sorry
theorem uk_NU {N : Nat → Int32} {y : Nat} {x : Int32} (h : ∀ k, k < 8 → N k = -1 ∨ vp_in (N k) 8) (hx : x = -1 ∨ vp_in x 8) : ∀ k, k < 8 → upd N y x k = -1 ∨ vp_in (upd N y x k) 8 := sorry
theorem uk_freN {N N' ki T : Nat → Int32} {f : Nat} (e : (∃ k, k < 8 ∧ N' k = nI f) ↔ (∃ k, k < 8 ∧ N k = nI f)) : uk_fre N' ki T f ↔ uk_fre N ki T f := sorry
theorem uk_Fi_ln {N ki T fs sz : Nat → Int32} {x y : Nat} (h : uk_Fi N ki T fs sz) (hx : x < 8) (hy : y < 8) (hy1 : N y = -1) : uk_Fi (upd N y (N x)) ki T fs sz := sorry
theorem uk_ul_fre {N ki T : Nat → Int32} {x g f : Nat} (hg : g < 8) (hN : N x = nI g) (hf : f < 8) (e : f ≠ g) : uk_fre (upd N x (-1)) ki T f ↔ uk_fre N ki T f := sorry
theorem uk_Fi_ul0 {N ki T fs sz : Nat → Int32} {x g : Nat} (h : uk_Fi N ki T fs sz) (hx : x < 8) (hg : g < 8) (hN : N x = nI g) (hn : uk_fre (upd N x (-1)) ki T g) : uk_Fi (upd N x (-1)) ki T fs (upd sz g 0) := sorry
theorem uk_Fi_ul1 {N ki T fs sz : Nat → Int32} {x g : Nat} (h : uk_Fi N ki T fs sz) (hx : x < 8) (hg : g < 8) (hN : N x = nI g) (hn : ¬ uk_fre (upd N x (-1)) ki T g) : uk_Fi (upd N x (-1)) ki T fs sz := sorry
theorem uk_Fi_mk {N ki T fs sz : Nat → Int32} {y g : Nat} (h : uk_Fi N ki T fs sz) (hy : y < 8) (hg : g < 8) (hy1 : N y = -1) : uk_Fi (upd N y (nI g)) ki T (upd fs g 0) (upd sz g 0) := sorry
theorem uk_fl1 {a g : Nat → Int32} {N j : Nat} (h : j < N) : uk_fl a 0 g N j = g j := sorry
theorem uk_fls0 {a g : Nat → Int32} {i : Nat} : upd (uk_fl a 0 g i) i (g i) = uk_fl a 0 g (i + 1) := sorry
theorem uk_fl_same {a g : Nat → Int32} {N : Nat} (h : ∀ j, j < N → g j = a j) : uk_fl a 0 g N = a := sorry
theorem uk_Sa_cm {N ki T fs sz sn ss sy : Nat → Int32} (h : uk_Fi N ki T fs sz) : uk_Sa (uk_fl sn 0 N 8) (uk_fl ss 0 fs 8) (uk_fl sy 0 sz 8) := sorry
/-! said -/
def uk_sh (sd : Nat → Int32) (x : Int32) : Nat → Int32 := fun j => if j = 0 then x else if j < 16 then sd (j - 1) else sd j
theorem uk_Sd_say {n : Nat} {si sd : Nat → Int32} (x : Int32) (h : uk_Sd n si sd) : uk_Sd (n + 1) (upd si (n % 16) x) (uk_sh sd x) := sorry
