/-! ===== where the class's own things lie (by program: gen65.py) ===== -/
/-- a side of a wire: of a switch's port, or of a node's -/
def sd (sw nd x : Nat) : Prop := x < 8 * sw ∨ (40 ≤ x ∧ x < 40 + nd)
def nj (sw j : Nat) : Prop := j < sw ∨ j = 5
def ow (x : Nat) : Int32 := if x < 40 then nI (x / 8) else nI (16 + (x - 40))
def nu (x : Nat) : Int32 := if x < 40 then nI (x % 8) else 0
def c_fab (sw nd rm : Nat) (M : hM) : Prop := (h_tg M 1 = 12 ∧ h_fr M 1100 1 = some 2 ∧ h_fr M 1101 1 = some 8 ∧ h_fr M 1102 1 = some 9 ∧ h_fr M 1103 1 = some 5 ∧ h_fr M 1104 1 = some 6 ∧ h_fr M 1106 1 = some 7)
def c_sh (sw nd rm : Nat) (M : hM) : Prop := (h_tg M 2 = 10 ∧ h_fi M 900 2 = nI sw ∧ h_fi M 901 2 = nI nd ∧ h_fi M 902 2 = nI rm ∧ h_fr M 904 2 = some 3 ∧ h_fr M 905 2 = some 4)
def c_ar (sw nd rm : Nat) (M : hM) : Prop := (h_tg M 3 = 20 ∧ h_ln M 3 = 9 ∧ h_tg M 4 = 20 ∧ h_ln M 4 = 8 ∧ h_tg M 5 = 38 ∧ h_ln M 5 = 16 ∧ h_tg M 6 = 38 ∧ h_ln M 6 = 16 ∧ h_tg M 7 = 30 ∧ h_ln M 7 = 300 ∧ h_tg M 8 = 40 ∧ h_ln M 8 = sw ∧ h_tg M 9 = 35 ∧ h_ln M 9 = nd)
def c_si (sw nd rm : Nat) (M : hM) : Prop := ∀ s, s < sw → (h_tg M (10 + s) = 11 ∧ h_fr M 1000 (10 + s) = some 2 ∧ h_fi M 1001 (10 + s) = nI s ∧ h_fr M 1002 (10 + s) = some (20 + s) ∧ h_fr M 1004 (10 + s) = some (30 + s) ∧ h_fr M 1006 (10 + s) = some (60 + s) ∧ h_fr M 1007 (10 + s) = some (70 + s) ∧ h_fr M 1008 (10 + s) = some (40 + s) ∧ h_fr M 1009 (10 + s) = some (50 + s) ∧ h_ar M 8 s = some (10 + s))
def c_sa (sw nd rm : Nat) (M : hM) : Prop := ∀ s, s < sw → (h_tg M (20 + s) = 38 ∧ h_ln M (20 + s) = 8 ∧ h_tg M (30 + s) = 36 ∧ h_ln M (30 + s) = sw ∧ h_tg M (40 + s) = 20 ∧ h_ln M (40 + s) = sw ∧ h_tg M (50 + s) = 20 ∧ h_ln M (50 + s) = 16 ∧ h_tg M (60 + s) = 50 ∧ h_ln M (60 + s) = sw ∧ h_tg M (70 + s) = 50 ∧ h_ln M (70 + s) = sw)
def c_sp (sw nd rm : Nat) (M : hM) : Prop := ∀ s p, s < sw → p < 8 → (h_ar M (20 + s) p = some (200 + (8 * s + p)))
def c_ss (sw nd rm : Nat) (M : hM) : Prop := ∀ s a, s < sw → a < sw → (h_ar M (60 + s) a = some (80 + (5 * s + a)) ∧ h_ar M (70 + s) a = some (110 + (5 * s + a)) ∧ h_tg M (80 + (5 * s + a)) = 20 ∧ h_ln M (80 + (5 * s + a)) = sw ∧ h_tg M (110 + (5 * s + a)) = 20 ∧ h_ln M (110 + (5 * s + a)) = sw)
def c_no (sw nd rm : Nat) (M : hM) : Prop := ∀ n, n < nd → (h_tg M (140 + n) = 6 ∧ h_fr M 500 (140 + n) = some 2 ∧ h_fi M 501 (140 + n) = nI n ∧ h_fr M 502 (140 + n) = some (200 + (40 + n)) ∧ h_ar M 9 n = some (140 + n))
def c_ho (sw nd rm : Nat) (M : hM) : Prop := ∀ n, n < nd → (h_tg M (150 + n) = 5 ∧ h_fr M 400 (150 + n) = some 2 ∧ h_fr M 401 (150 + n) = some (140 + n) ∧ h_fr M 403 (150 + n) = some (160 + n) ∧ h_fr M 404 (150 + n) = some (170 + n) ∧ h_tg M (160 + n) = 20 ∧ h_ln M (160 + n) = nd ∧ h_tg M (170 + n) = 30 ∧ h_ln M (170 + n) = 4)
def c_po (sw nd rm : Nat) (M : hM) : Prop := ∀ x, sd sw nd x → (h_tg M (200 + x) = 9 ∧ h_fr M 800 (200 + x) = some 2 ∧ h_fi M 801 (200 + x) = ow x ∧ h_fi M 802 (200 + x) = nu x ∧ h_fr M 809 (200 + x) = some (250 + x) ∧ h_fr M 810 (200 + x) = some (300 + x) ∧ h_tg M (250 + x) = 4 ∧ h_tg M (300 + x) = 4)
def c_nt (sw nd rm : Nat) (M : hM) : Prop := ∀ s j, s < sw → nj sw j → (h_tg M (400 + (6 * s + j)) = 7 ∧ h_fr M 600 (400 + (6 * s + j)) = some (440 + (6 * s + j)) ∧ h_tg M (440 + (6 * s + j)) = 21 ∧ h_ln M (440 + (6 * s + j)) = 31)
def cB (sw nd rm : Nat) : Prop := (1 ≤ sw ∧ sw ≤ 5) ∧ (1 ≤ nd ∧ nd ≤ 8) ∧ 1 ≤ rm ∧ rm ≤ 4
def cI (sw nd rm : Nat) (M : hM) : Prop := cB sw nd rm ∧ c_fab sw nd rm M ∧ c_sh sw nd rm M ∧ c_ar sw nd rm M ∧ c_si sw nd rm M ∧ c_sa sw nd rm M ∧ c_sp sw nd rm M ∧ c_ss sw nd rm M ∧ c_no sw nd rm M ∧ c_ho sw nd rm M ∧ c_po sw nd rm M ∧ c_nt sw nd rm M
def cCF : List Nat := [400, 401, 403, 404, 500, 501, 502, 600, 800, 801, 802, 809, 810, 900, 901, 902, 904, 905, 1000, 1001, 1002, 1004, 1006, 1007, 1008, 1009, 1100, 1101, 1102, 1103, 1104, 1106]
def cCA : List Nat := [35, 38, 40, 50]
section CI
variable {sw nd rm : Nat} {M M' : hM} {F A : List Nat}
theorem cI.fab (h : cI sw nd rm M) : c_fab sw nd rm M := h.2.1
theorem cI.sh (h : cI sw nd rm M) : c_sh sw nd rm M := h.2.2.1
theorem cI.ar (h : cI sw nd rm M) : c_ar sw nd rm M := h.2.2.2.1
theorem cI.si (h : cI sw nd rm M) : c_si sw nd rm M := h.2.2.2.2.1
theorem cI.sa (h : cI sw nd rm M) : c_sa sw nd rm M := h.2.2.2.2.2.1
theorem cI.sp (h : cI sw nd rm M) : c_sp sw nd rm M := h.2.2.2.2.2.2.1
theorem cI.ss (h : cI sw nd rm M) : c_ss sw nd rm M := h.2.2.2.2.2.2.2.1
theorem cI.no (h : cI sw nd rm M) : c_no sw nd rm M := h.2.2.2.2.2.2.2.2.1
theorem cI.ho (h : cI sw nd rm M) : c_ho sw nd rm M := h.2.2.2.2.2.2.2.2.2.1
theorem cI.po (h : cI sw nd rm M) : c_po sw nd rm M := h.2.2.2.2.2.2.2.2.2.2.1
theorem cI.nt (h : cI sw nd rm M) : c_nt sw nd rm M := h.2.2.2.2.2.2.2.2.2.2.2
theorem cI.bs (h : cI sw nd rm M) : cB sw nd rm := h.1
theorem cI.fab0 (h : cI sw nd rm M) : h_tg M 1 = 12 := (h.fab).1
theorem cI.fab1 (h : cI sw nd rm M) : h_fr M 1100 1 = some 2 := (h.fab).2.1
theorem cI.fab2 (h : cI sw nd rm M) : h_fr M 1101 1 = some 8 := (h.fab).2.2.1
theorem cI.fab3 (h : cI sw nd rm M) : h_fr M 1102 1 = some 9 := (h.fab).2.2.2.1
theorem cI.fab4 (h : cI sw nd rm M) : h_fr M 1103 1 = some 5 := (h.fab).2.2.2.2.1
theorem cI.fab5 (h : cI sw nd rm M) : h_fr M 1104 1 = some 6 := (h.fab).2.2.2.2.2.1
theorem cI.fab6 (h : cI sw nd rm M) : h_fr M 1106 1 = some 7 := (h.fab).2.2.2.2.2.2
theorem cI.sh0 (h : cI sw nd rm M) : h_tg M 2 = 10 := (h.sh).1
theorem cI.sh1 (h : cI sw nd rm M) : h_fi M 900 2 = nI sw := (h.sh).2.1
theorem cI.sh2 (h : cI sw nd rm M) : h_fi M 901 2 = nI nd := (h.sh).2.2.1
theorem cI.sh3 (h : cI sw nd rm M) : h_fi M 902 2 = nI rm := (h.sh).2.2.2.1
theorem cI.sh4 (h : cI sw nd rm M) : h_fr M 904 2 = some 3 := (h.sh).2.2.2.2.1
theorem cI.sh5 (h : cI sw nd rm M) : h_fr M 905 2 = some 4 := (h.sh).2.2.2.2.2
theorem cI.ar0 (h : cI sw nd rm M) : h_tg M 3 = 20 := (h.ar).1
theorem cI.ar1 (h : cI sw nd rm M) : h_ln M 3 = 9 := (h.ar).2.1
theorem cI.ar2 (h : cI sw nd rm M) : h_tg M 4 = 20 := (h.ar).2.2.1
theorem cI.ar3 (h : cI sw nd rm M) : h_ln M 4 = 8 := (h.ar).2.2.2.1
theorem cI.ar4 (h : cI sw nd rm M) : h_tg M 5 = 38 := (h.ar).2.2.2.2.1
theorem cI.ar5 (h : cI sw nd rm M) : h_ln M 5 = 16 := (h.ar).2.2.2.2.2.1
theorem cI.ar6 (h : cI sw nd rm M) : h_tg M 6 = 38 := (h.ar).2.2.2.2.2.2.1
theorem cI.ar7 (h : cI sw nd rm M) : h_ln M 6 = 16 := (h.ar).2.2.2.2.2.2.2.1
theorem cI.ar8 (h : cI sw nd rm M) : h_tg M 7 = 30 := (h.ar).2.2.2.2.2.2.2.2.1
theorem cI.ar9 (h : cI sw nd rm M) : h_ln M 7 = 300 := (h.ar).2.2.2.2.2.2.2.2.2.1
theorem cI.ar10 (h : cI sw nd rm M) : h_tg M 8 = 40 := (h.ar).2.2.2.2.2.2.2.2.2.2.1
theorem cI.ar11 (h : cI sw nd rm M) : h_ln M 8 = sw := (h.ar).2.2.2.2.2.2.2.2.2.2.2.1
theorem cI.ar12 (h : cI sw nd rm M) : h_tg M 9 = 35 := (h.ar).2.2.2.2.2.2.2.2.2.2.2.2.1
theorem cI.ar13 (h : cI sw nd rm M) : h_ln M 9 = nd := (h.ar).2.2.2.2.2.2.2.2.2.2.2.2.2
theorem cI.si0 {s : Nat} (h : cI sw nd rm M) (h1 : s < sw) : h_tg M (10 + s) = 11 := (h.si _ h1).1
theorem cI.si1 {s : Nat} (h : cI sw nd rm M) (h1 : s < sw) : h_fr M 1000 (10 + s) = some 2 := (h.si _ h1).2.1
theorem cI.si2 {s : Nat} (h : cI sw nd rm M) (h1 : s < sw) : h_fi M 1001 (10 + s) = nI s := (h.si _ h1).2.2.1
theorem cI.si3 {s : Nat} (h : cI sw nd rm M) (h1 : s < sw) : h_fr M 1002 (10 + s) = some (20 + s) := (h.si _ h1).2.2.2.1
theorem cI.si4 {s : Nat} (h : cI sw nd rm M) (h1 : s < sw) : h_fr M 1004 (10 + s) = some (30 + s) := (h.si _ h1).2.2.2.2.1
theorem cI.si5 {s : Nat} (h : cI sw nd rm M) (h1 : s < sw) : h_fr M 1006 (10 + s) = some (60 + s) := (h.si _ h1).2.2.2.2.2.1
theorem cI.si6 {s : Nat} (h : cI sw nd rm M) (h1 : s < sw) : h_fr M 1007 (10 + s) = some (70 + s) := (h.si _ h1).2.2.2.2.2.2.1
theorem cI.si7 {s : Nat} (h : cI sw nd rm M) (h1 : s < sw) : h_fr M 1008 (10 + s) = some (40 + s) := (h.si _ h1).2.2.2.2.2.2.2.1
theorem cI.si8 {s : Nat} (h : cI sw nd rm M) (h1 : s < sw) : h_fr M 1009 (10 + s) = some (50 + s) := (h.si _ h1).2.2.2.2.2.2.2.2.1
theorem cI.si9 {s : Nat} (h : cI sw nd rm M) (h1 : s < sw) : h_ar M 8 s = some (10 + s) := (h.si _ h1).2.2.2.2.2.2.2.2.2
theorem cI.sa0 {s : Nat} (h : cI sw nd rm M) (h1 : s < sw) : h_tg M (20 + s) = 38 := (h.sa _ h1).1
theorem cI.sa1 {s : Nat} (h : cI sw nd rm M) (h1 : s < sw) : h_ln M (20 + s) = 8 := (h.sa _ h1).2.1
theorem cI.sa2 {s : Nat} (h : cI sw nd rm M) (h1 : s < sw) : h_tg M (30 + s) = 36 := (h.sa _ h1).2.2.1
theorem cI.sa3 {s : Nat} (h : cI sw nd rm M) (h1 : s < sw) : h_ln M (30 + s) = sw := (h.sa _ h1).2.2.2.1
theorem cI.sa4 {s : Nat} (h : cI sw nd rm M) (h1 : s < sw) : h_tg M (40 + s) = 20 := (h.sa _ h1).2.2.2.2.1
theorem cI.sa5 {s : Nat} (h : cI sw nd rm M) (h1 : s < sw) : h_ln M (40 + s) = sw := (h.sa _ h1).2.2.2.2.2.1
theorem cI.sa6 {s : Nat} (h : cI sw nd rm M) (h1 : s < sw) : h_tg M (50 + s) = 20 := (h.sa _ h1).2.2.2.2.2.2.1
theorem cI.sa7 {s : Nat} (h : cI sw nd rm M) (h1 : s < sw) : h_ln M (50 + s) = 16 := (h.sa _ h1).2.2.2.2.2.2.2.1
theorem cI.sa8 {s : Nat} (h : cI sw nd rm M) (h1 : s < sw) : h_tg M (60 + s) = 50 := (h.sa _ h1).2.2.2.2.2.2.2.2.1
theorem cI.sa9 {s : Nat} (h : cI sw nd rm M) (h1 : s < sw) : h_ln M (60 + s) = sw := (h.sa _ h1).2.2.2.2.2.2.2.2.2.1
theorem cI.sa10 {s : Nat} (h : cI sw nd rm M) (h1 : s < sw) : h_tg M (70 + s) = 50 := (h.sa _ h1).2.2.2.2.2.2.2.2.2.2.1
theorem cI.sa11 {s : Nat} (h : cI sw nd rm M) (h1 : s < sw) : h_ln M (70 + s) = sw := (h.sa _ h1).2.2.2.2.2.2.2.2.2.2.2
theorem cI.sp0 {s p : Nat} (h : cI sw nd rm M) (h1 : s < sw) (h2 : p < 8) : h_ar M (20 + s) p = some (200 + (8 * s + p)) := (h.sp _ _ h1 h2)
theorem cI.ss0 {s a : Nat} (h : cI sw nd rm M) (h1 : s < sw) (h2 : a < sw) : h_ar M (60 + s) a = some (80 + (5 * s + a)) := (h.ss _ _ h1 h2).1
theorem cI.ss1 {s a : Nat} (h : cI sw nd rm M) (h1 : s < sw) (h2 : a < sw) : h_ar M (70 + s) a = some (110 + (5 * s + a)) := (h.ss _ _ h1 h2).2.1
theorem cI.ss2 {s a : Nat} (h : cI sw nd rm M) (h1 : s < sw) (h2 : a < sw) : h_tg M (80 + (5 * s + a)) = 20 := (h.ss _ _ h1 h2).2.2.1
theorem cI.ss3 {s a : Nat} (h : cI sw nd rm M) (h1 : s < sw) (h2 : a < sw) : h_ln M (80 + (5 * s + a)) = sw := (h.ss _ _ h1 h2).2.2.2.1
theorem cI.ss4 {s a : Nat} (h : cI sw nd rm M) (h1 : s < sw) (h2 : a < sw) : h_tg M (110 + (5 * s + a)) = 20 := (h.ss _ _ h1 h2).2.2.2.2.1
theorem cI.ss5 {s a : Nat} (h : cI sw nd rm M) (h1 : s < sw) (h2 : a < sw) : h_ln M (110 + (5 * s + a)) = sw := (h.ss _ _ h1 h2).2.2.2.2.2
theorem cI.no0 {n : Nat} (h : cI sw nd rm M) (h1 : n < nd) : h_tg M (140 + n) = 6 := (h.no _ h1).1
theorem cI.no1 {n : Nat} (h : cI sw nd rm M) (h1 : n < nd) : h_fr M 500 (140 + n) = some 2 := (h.no _ h1).2.1
theorem cI.no2 {n : Nat} (h : cI sw nd rm M) (h1 : n < nd) : h_fi M 501 (140 + n) = nI n := (h.no _ h1).2.2.1
theorem cI.no3 {n : Nat} (h : cI sw nd rm M) (h1 : n < nd) : h_fr M 502 (140 + n) = some (200 + (40 + n)) := (h.no _ h1).2.2.2.1
theorem cI.no4 {n : Nat} (h : cI sw nd rm M) (h1 : n < nd) : h_ar M 9 n = some (140 + n) := (h.no _ h1).2.2.2.2
theorem cI.ho0 {n : Nat} (h : cI sw nd rm M) (h1 : n < nd) : h_tg M (150 + n) = 5 := (h.ho _ h1).1
theorem cI.ho1 {n : Nat} (h : cI sw nd rm M) (h1 : n < nd) : h_fr M 400 (150 + n) = some 2 := (h.ho _ h1).2.1
theorem cI.ho2 {n : Nat} (h : cI sw nd rm M) (h1 : n < nd) : h_fr M 401 (150 + n) = some (140 + n) := (h.ho _ h1).2.2.1
theorem cI.ho3 {n : Nat} (h : cI sw nd rm M) (h1 : n < nd) : h_fr M 403 (150 + n) = some (160 + n) := (h.ho _ h1).2.2.2.1
theorem cI.ho4 {n : Nat} (h : cI sw nd rm M) (h1 : n < nd) : h_fr M 404 (150 + n) = some (170 + n) := (h.ho _ h1).2.2.2.2.1
theorem cI.ho5 {n : Nat} (h : cI sw nd rm M) (h1 : n < nd) : h_tg M (160 + n) = 20 := (h.ho _ h1).2.2.2.2.2.1
theorem cI.ho6 {n : Nat} (h : cI sw nd rm M) (h1 : n < nd) : h_ln M (160 + n) = nd := (h.ho _ h1).2.2.2.2.2.2.1
theorem cI.ho7 {n : Nat} (h : cI sw nd rm M) (h1 : n < nd) : h_tg M (170 + n) = 30 := (h.ho _ h1).2.2.2.2.2.2.2.1
theorem cI.ho8 {n : Nat} (h : cI sw nd rm M) (h1 : n < nd) : h_ln M (170 + n) = 4 := (h.ho _ h1).2.2.2.2.2.2.2.2
theorem cI.po0 {x : Nat} (h : cI sw nd rm M) (h1 : sd sw nd x) : h_tg M (200 + x) = 9 := (h.po _ h1).1
theorem cI.po1 {x : Nat} (h : cI sw nd rm M) (h1 : sd sw nd x) : h_fr M 800 (200 + x) = some 2 := (h.po _ h1).2.1
theorem cI.po2 {x : Nat} (h : cI sw nd rm M) (h1 : sd sw nd x) : h_fi M 801 (200 + x) = ow x := (h.po _ h1).2.2.1
theorem cI.po3 {x : Nat} (h : cI sw nd rm M) (h1 : sd sw nd x) : h_fi M 802 (200 + x) = nu x := (h.po _ h1).2.2.2.1
theorem cI.po4 {x : Nat} (h : cI sw nd rm M) (h1 : sd sw nd x) : h_fr M 809 (200 + x) = some (250 + x) := (h.po _ h1).2.2.2.2.1
theorem cI.po5 {x : Nat} (h : cI sw nd rm M) (h1 : sd sw nd x) : h_fr M 810 (200 + x) = some (300 + x) := (h.po _ h1).2.2.2.2.2.1
theorem cI.po6 {x : Nat} (h : cI sw nd rm M) (h1 : sd sw nd x) : h_tg M (250 + x) = 4 := (h.po _ h1).2.2.2.2.2.2.1
theorem cI.po7 {x : Nat} (h : cI sw nd rm M) (h1 : sd sw nd x) : h_tg M (300 + x) = 4 := (h.po _ h1).2.2.2.2.2.2.2
theorem cI.nt0 {s j : Nat} (h : cI sw nd rm M) (h1 : s < sw) (h2 : nj sw j) : h_tg M (400 + (6 * s + j)) = 7 := (h.nt _ _ h1 h2).1
theorem cI.nt1 {s j : Nat} (h : cI sw nd rm M) (h1 : s < sw) (h2 : nj sw j) : h_fr M 600 (400 + (6 * s + j)) = some (440 + (6 * s + j)) := (h.nt _ _ h1 h2).2.1
theorem cI.nt2 {s j : Nat} (h : cI sw nd rm M) (h1 : s < sw) (h2 : nj sw j) : h_tg M (440 + (6 * s + j)) = 21 := (h.nt _ _ h1 h2).2.2.1
theorem cI.nt3 {s j : Nat} (h : cI sw nd rm M) (h1 : s < sw) (h2 : nj sw j) : h_ln M (440 + (6 * s + j)) = 31 := (h.nt _ _ h1 h2).2.2.2
theorem kp.t0 {a t : Nat} (k : kp F A M M') (h : h_tg M a = t + 1) : h_tg M' a = t + 1 := by rw [(k.2.1 a (by omega)).1]; exact h
theorem kp.l0 {a n t : Nat} (k : kp F A M M') (h : h_ln M a = n) (ht : h_tg M a = t + 1) : h_ln M' a = n := by rw [(k.2.1 a (by omega)).2]; exact h
theorem kp.fi {j : Nat} (k : kp F A M M') (hF : F.contains j = false) : h_fi M' j = h_fi M j := (k.2.2.1 j (fun q => by rw [List.contains_iff_mem.mpr q] at hF; cases hF)).1
theorem kp.fl {j : Nat} (k : kp F A M M') (hF : F.contains j = false) : h_fl M' j = h_fl M j := (k.2.2.1 j (fun q => by rw [List.contains_iff_mem.mpr q] at hF; cases hF)).2.1
theorem kp.fr {j : Nat} (k : kp F A M M') (hF : F.contains j = false) : h_fr M' j = h_fr M j := (k.2.2.1 j (fun q => by rw [List.contains_iff_mem.mpr q] at hF; cases hF)).2.2
theorem kp.ai {a t : Nat} (k : kp F A M M') (h : h_tg M a = t) (hA : A.contains t = false) : h_ai M' a = h_ai M a := (k.2.2.2.1 a (fun q => by rw [List.contains_iff_mem.mpr (h ▸ q)] at hA; cases hA)).1
theorem kp.al {a t : Nat} (k : kp F A M M') (h : h_tg M a = t) (hA : A.contains t = false) : h_al M' a = h_al M a := (k.2.2.2.1 a (fun q => by rw [List.contains_iff_mem.mpr (h ▸ q)] at hA; cases hA)).2.1
theorem kp.ar {a t : Nat} (k : kp F A M M') (h : h_tg M a = t) (hA : A.contains t = false) : h_ar M' a = h_ar M a := (k.2.2.2.1 a (fun q => by rw [List.contains_iff_mem.mpr (h ▸ q)] at hA; cases hA)).2.2
theorem cI.keep (h : cI sw nd rm M) (k : kp F A M M') (hF : cCF.all (fun x => ! F.contains x) = true) (hA : cCA.all (fun x => ! A.contains x) = true) : cI sw nd rm M' := by
  have qF : ∀ x, x ∈ cCF → F.contains x = false := fun x hx => by have := List.all_eq_true.mp hF x hx; simpa using this
  have qA : ∀ x, x ∈ cCA → A.contains x = false := fun x hx => by have := List.all_eq_true.mp hA x hx; simpa using this
  refine ⟨h.1, ?_, ?_, ?_, ?_, ?_, ?_, ?_, ?_, ?_, ?_, ?_⟩
  · exact ⟨k.t0 (cI.fab0 h ), (congrFun (k.fr (qF 1100 (by decide))) _).trans (cI.fab1 h ), (congrFun (k.fr (qF 1101 (by decide))) _).trans (cI.fab2 h ), (congrFun (k.fr (qF 1102 (by decide))) _).trans (cI.fab3 h ), (congrFun (k.fr (qF 1103 (by decide))) _).trans (cI.fab4 h ), (congrFun (k.fr (qF 1104 (by decide))) _).trans (cI.fab5 h ), (congrFun (k.fr (qF 1106 (by decide))) _).trans (cI.fab6 h )⟩
  · exact ⟨k.t0 (cI.sh0 h ), (congrFun (k.fi (qF 900 (by decide))) _).trans (cI.sh1 h ), (congrFun (k.fi (qF 901 (by decide))) _).trans (cI.sh2 h ), (congrFun (k.fi (qF 902 (by decide))) _).trans (cI.sh3 h ), (congrFun (k.fr (qF 904 (by decide))) _).trans (cI.sh4 h ), (congrFun (k.fr (qF 905 (by decide))) _).trans (cI.sh5 h )⟩
  · exact ⟨k.t0 (cI.ar0 h ), k.l0 (cI.ar1 h ) (cI.ar0 h ), k.t0 (cI.ar2 h ), k.l0 (cI.ar3 h ) (cI.ar2 h ), k.t0 (cI.ar4 h ), k.l0 (cI.ar5 h ) (cI.ar4 h ), k.t0 (cI.ar6 h ), k.l0 (cI.ar7 h ) (cI.ar6 h ), k.t0 (cI.ar8 h ), k.l0 (cI.ar9 h ) (cI.ar8 h ), k.t0 (cI.ar10 h ), k.l0 (cI.ar11 h ) (cI.ar10 h ), k.t0 (cI.ar12 h ), k.l0 (cI.ar13 h ) (cI.ar12 h )⟩
  · exact fun s h1 => ⟨k.t0 (cI.si0 h h1), (congrFun (k.fr (qF 1000 (by decide))) _).trans (cI.si1 h h1), (congrFun (k.fi (qF 1001 (by decide))) _).trans (cI.si2 h h1), (congrFun (k.fr (qF 1002 (by decide))) _).trans (cI.si3 h h1), (congrFun (k.fr (qF 1004 (by decide))) _).trans (cI.si4 h h1), (congrFun (k.fr (qF 1006 (by decide))) _).trans (cI.si5 h h1), (congrFun (k.fr (qF 1007 (by decide))) _).trans (cI.si6 h h1), (congrFun (k.fr (qF 1008 (by decide))) _).trans (cI.si7 h h1), (congrFun (k.fr (qF 1009 (by decide))) _).trans (cI.si8 h h1), (congrFun (k.ar h.ar10 (qA 40 (by decide))) _).trans (cI.si9 h h1)⟩
  · exact fun s h1 => ⟨k.t0 (cI.sa0 h h1), k.l0 (cI.sa1 h h1) (cI.sa0 h h1), k.t0 (cI.sa2 h h1), k.l0 (cI.sa3 h h1) (cI.sa2 h h1), k.t0 (cI.sa4 h h1), k.l0 (cI.sa5 h h1) (cI.sa4 h h1), k.t0 (cI.sa6 h h1), k.l0 (cI.sa7 h h1) (cI.sa6 h h1), k.t0 (cI.sa8 h h1), k.l0 (cI.sa9 h h1) (cI.sa8 h h1), k.t0 (cI.sa10 h h1), k.l0 (cI.sa11 h h1) (cI.sa10 h h1)⟩
  · exact fun s p h1 h2 => (congrFun (k.ar (h.sa0 h1) (qA 38 (by decide))) _).trans (cI.sp0 h h1 h2)
  · exact fun s a h1 h2 => ⟨(congrFun (k.ar (h.sa8 h1) (qA 50 (by decide))) _).trans (cI.ss0 h h1 h2), (congrFun (k.ar (h.sa10 h1) (qA 50 (by decide))) _).trans (cI.ss1 h h1 h2), k.t0 (cI.ss2 h h1 h2), k.l0 (cI.ss3 h h1 h2) (cI.ss2 h h1 h2), k.t0 (cI.ss4 h h1 h2), k.l0 (cI.ss5 h h1 h2) (cI.ss4 h h1 h2)⟩
  · exact fun n h1 => ⟨k.t0 (cI.no0 h h1), (congrFun (k.fr (qF 500 (by decide))) _).trans (cI.no1 h h1), (congrFun (k.fi (qF 501 (by decide))) _).trans (cI.no2 h h1), (congrFun (k.fr (qF 502 (by decide))) _).trans (cI.no3 h h1), (congrFun (k.ar h.ar12 (qA 35 (by decide))) _).trans (cI.no4 h h1)⟩
  · exact fun n h1 => ⟨k.t0 (cI.ho0 h h1), (congrFun (k.fr (qF 400 (by decide))) _).trans (cI.ho1 h h1), (congrFun (k.fr (qF 401 (by decide))) _).trans (cI.ho2 h h1), (congrFun (k.fr (qF 403 (by decide))) _).trans (cI.ho3 h h1), (congrFun (k.fr (qF 404 (by decide))) _).trans (cI.ho4 h h1), k.t0 (cI.ho5 h h1), k.l0 (cI.ho6 h h1) (cI.ho5 h h1), k.t0 (cI.ho7 h h1), k.l0 (cI.ho8 h h1) (cI.ho7 h h1)⟩
  · exact fun x h1 => ⟨k.t0 (cI.po0 h h1), (congrFun (k.fr (qF 800 (by decide))) _).trans (cI.po1 h h1), (congrFun (k.fi (qF 801 (by decide))) _).trans (cI.po2 h h1), (congrFun (k.fi (qF 802 (by decide))) _).trans (cI.po3 h h1), (congrFun (k.fr (qF 809 (by decide))) _).trans (cI.po4 h h1), (congrFun (k.fr (qF 810 (by decide))) _).trans (cI.po5 h h1), k.t0 (cI.po6 h h1), k.t0 (cI.po7 h h1)⟩
  · exact fun s j h1 h2 => ⟨k.t0 (cI.nt0 h h1 h2), (congrFun (k.fr (qF 600 (by decide))) _).trans (cI.nt1 h h1 h2), k.t0 (cI.nt2 h h1 h2), k.l0 (cI.nt3 h h1 h2) (cI.nt2 h h1 h2)⟩
end CI
