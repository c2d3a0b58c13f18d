/-! ===== the class's constructors over cells, second (by program: genf6.py) ===== -/
def maO (b n : Nat) : cD := ((50, n), fun _ => 0, fun _ => none, fun _ => 0, fun i => if i < n then some (b + i) else none)
def rE (x y : Nat) : Prop := x = y
def szL (a b : Nat) (H H1 : hM) : Prop := h_sz H1 = h_sz H + a ∧ h_sl H1 = h_sl H + b
theorem szL.tr {a b a1 b1 : Nat} {H H1 H2 : hM} (h : szL a b H H1) (z : h_sz H2 = h_sz H1 + a1) (l : h_sl H2 = h_sl H1 + b1) : szL (a + a1) (b + b1) H H2 := ⟨by rw [z, h.1, Nat.add_assoc], by rw [l, h.2, Nat.add_assoc]⟩
theorem szL.t2 {a b a1 b1 : Nat} {H H1 H2 : hM} (h : szL a b H H1) (z : szL a1 b1 H1 H2) : szL (a + a1) (b + b1) H H2 := h.tr z.1 z.2
theorem szL.le {a b a1 b1 : Nat} {H H1 : hM} (h : szL a b H H1) (ha : a ≤ a1) (hb : b ≤ b1) : h_sz H1 ≤ h_sz H + a1 ∧ h_sl H1 ≤ h_sl H + b1 := ⟨by rw [h.1]; omega, by rw [h.2]; omega⟩
section MK1
variable {ρ : Nat → Nat} {c : Nat → cD} {H : hM} {a b q t l ci n k i s sw nd rm α β γ : Nat} {v v2 v3 : Int32}
def shC (p1 p2 p3 : Int32) : cD := cPi (cPi (cPi (cPr (cPr (oC 10 0) 904 (some (3))) 905 (some (4))) 900 (p1)) 901 (p2)) 902 (p3)
theorem Fs0 {p1 p2 p3 : Int32} (g : rc ρ c H) (Ca : c 2 = oC 10 0) (Ra : ρ 2 = α) (h3 : (c 3).1.1 = 0) (h4 : (c 4).1.1 = 0) : ∃ ρ' c' H', f0 [.inr (.inr (some α)), .inl p1, .inl p2, .inl p3] H = some (none, H') ∧ rc ρ' c' H' ∧ gx ρ c ρ' c' ∧ c' 2 = shC p1 p2 p3 ∧ c' 3 = oC 20 9 ∧ c' 4 = oC 20 8 ∧ (∀ x, x ≠ 2 → x ≠ 3 → x ≠ 4 → c' x = c x) ∧ h_sz H' = h_sz H + 2 ∧ h_sl H' = h_sl H + 17 := by
  show ∃ ρ' c' H', x_out (b0_0 α p1 p2 p3 H) = _ ∧ _
  unfold b0_0
  have Z0 : szL 0 0 H H := ⟨rfl, rfl⟩
  obtain ⟨ρ1, c1, H1, e1, g1, x1, vv1, o1, r1, z1, l1⟩ := K_na g (3) 20 (9) (v := 9) h3 (by decide) (by decide)
  have Z1 : szL _ _ H H1 := szL.tr Z0 z1 l1
  clear z1 l1 Z0
  have Ca_1 : c1 (2) = oC 10 0 := (o1 (2) (by omega)).trans Ca
  have Ra_1 : rE (ρ1 (2)) (α) := (x1 (2) (by rw [Ca]; exact (by decide : (10 : Nat) ≠ 0))).1.trans Ra
  clear Ca Ra
  have Ct_1 : c1 (3) = oC 20 (9) := vv1
  have Rt_1 : rE (ρ1 (3)) (h_sz H) := r1
  clear r1
  rw [bd_s e1]
  obtain ⟨c2, H2, e2, g2, x2, vv2, o2, z2, l2⟩ := K_pr g1 (2) 9 4 (3) Ra_1 (by rw [Ca_1]; rfl) Rt_1 (by rw [Ct_1]; exact (by decide : (20 : Nat) ≠ 0))
  have Z2 : szL _ _ H H2 := szL.tr Z1 (a1 := 0) (b1 := 0) z2 l2
  clear z2 l2 Z1
  have Ct_2 : c2 (3) = oC 20 (9) := (o2 (3) (by omega)).trans Ct_1
  clear Ct_1
  have Ca_2 : c2 (2) = cPr (oC 10 0) 904 (some (3)) := by rw [vv2, Ca_1]
  rw [bd_s e2]
  obtain ⟨ρ3, c3, H3, e3, g3, x3, vv3, o3, r3, z3, l3⟩ := K_na g2 (4) 20 (8) (v := 8) (by rw [o2 (4) (by omega), o1 (4) (by omega)]; exact h4) (by decide) (by decide)
  have Z3 : szL _ _ H H3 := szL.tr Z2 z3 l3
  clear z3 l3 Z2
  have Ca_3 : c3 (2) = cPr (oC 10 0) 904 (some (3)) := (o3 (2) (by omega)).trans Ca_2
  have Ct_3 : c3 (3) = oC 20 (9) := (o3 (3) (by omega)).trans Ct_2
  have Ra_3 : rE (ρ3 (2)) (α) := (x3 (2) (by rw [Ca_2]; exact (by decide : (10 : Nat) ≠ 0))).1.trans Ra_1
  have Rt_3 : rE (ρ3 (3)) (h_sz H) := (x3 (3) (by rw [Ct_2]; exact (by decide : (20 : Nat) ≠ 0))).1.trans Rt_1
  clear Ca_2 Ct_2 Ra_1 Rt_1
  have Cu_3 : c3 (4) = oC 20 (8) := vv3
  have Ru_3 : rE (ρ3 (4)) (h_sz H2) := r3
  clear r3
  rw [bd_s e3]
  obtain ⟨c4, H4, e4, g4, x4, vv4, o4, z4, l4⟩ := K_pr g3 (2) 9 5 (4) Ra_3 (by rw [Ca_3]; rfl) Ru_3 (by rw [Cu_3]; exact (by decide : (20 : Nat) ≠ 0))
  have Z4 : szL _ _ H H4 := szL.tr Z3 (a1 := 0) (b1 := 0) z4 l4
  clear z4 l4 Z3
  have Ct_4 : c4 (3) = oC 20 (9) := (o4 (3) (by omega)).trans Ct_3
  have Cu_4 : c4 (4) = oC 20 (8) := (o4 (4) (by omega)).trans Cu_3
  clear Ct_3 Cu_3
  have Ca_4 : c4 (2) = cPr (cPr (oC 10 0) 904 (some (3))) 905 (some (4)) := by rw [vv4, Ca_3]
  rw [bd_s e4]
  obtain ⟨c5, H5, e5, g5, x5, vv5, o5, z5, l5⟩ := K_pi g4 (2) 9 0 Ra_3 (by rw [Ca_4]; rfl) (p1)
  have Z5 : szL _ _ H H5 := szL.tr Z4 (a1 := 0) (b1 := 0) z5 l5
  clear z5 l5 Z4
  have Ct_5 : c5 (3) = oC 20 (9) := (o5 (3) (by omega)).trans Ct_4
  have Cu_5 : c5 (4) = oC 20 (8) := (o5 (4) (by omega)).trans Cu_4
  clear Ct_4 Cu_4
  have Ca_5 : c5 (2) = cPi (cPr (cPr (oC 10 0) 904 (some (3))) 905 (some (4))) 900 (p1) := by rw [vv5, Ca_4]
  rw [bd_s e5]
  obtain ⟨c6, H6, e6, g6, x6, vv6, o6, z6, l6⟩ := K_pi g5 (2) 9 1 Ra_3 (by rw [Ca_5]; rfl) (p2)
  have Z6 : szL _ _ H H6 := szL.tr Z5 (a1 := 0) (b1 := 0) z6 l6
  clear z6 l6 Z5
  have Ct_6 : c6 (3) = oC 20 (9) := (o6 (3) (by omega)).trans Ct_5
  have Cu_6 : c6 (4) = oC 20 (8) := (o6 (4) (by omega)).trans Cu_5
  clear Ct_5 Cu_5
  have Ca_6 : c6 (2) = cPi (cPi (cPr (cPr (oC 10 0) 904 (some (3))) 905 (some (4))) 900 (p1)) 901 (p2) := by rw [vv6, Ca_5]
  rw [bd_s e6]
  obtain ⟨c7, H7, e7, g7, x7, vv7, o7, z7, l7⟩ := K_pi g6 (2) 9 2 Ra_3 (by rw [Ca_6]; rfl) (p3)
  have Z7 : szL _ _ H H7 := szL.tr Z6 (a1 := 0) (b1 := 0) z7 l7
  clear z7 l7 Z6
  have Ct_7 : c7 (3) = oC 20 (9) := (o7 (3) (by omega)).trans Ct_6
  have Cu_7 : c7 (4) = oC 20 (8) := (o7 (4) (by omega)).trans Cu_6
  clear Ct_6 Cu_6
  have Ca_7 : c7 (2) = cPi (cPi (cPi (cPr (cPr (oC 10 0) 904 (some (3))) 905 (some (4))) 900 (p1)) 901 (p2)) 902 (p3) := by rw [vv7, Ca_6]
  rw [bd_s e7]
  exact ⟨ρ3, c7, H7, rfl, g7, ((((((x1).tr x2).tr x3).tr x4).tr x5).tr x6).tr x7, Ca_7, Ct_7, Cu_7, fun x h1 h2 h3 => (o7 x (h1)).trans ((o6 x (h1)).trans ((o5 x (h1)).trans ((o4 x (h1)).trans ((o3 x (h3)).trans ((o2 x (h1)).trans (o1 x (h2))))))), Z7.1, Z7.2⟩
def noC (p sh : Nat) (v2 : Int32) : cD := cPr (cPi (cPr (oC 6 0) 500 (some (sh))) 501 (v2)) 502 (some (p))
theorem F3 {y : cD} (g : rc ρ c H) (a p q b sh : Nat) (Ca : c a = oC 6 0) (Ra : ρ a = α) (Cs : c sh = y) (hy : y.1.1 ≠ 0) (Rs : ρ sh = β) (hp : (c p).1.1 = 0) (hq : (c q).1.1 = 0) (hb : (c b).1.1 = 0) (hne : (a ≠ p ∧ a ≠ q ∧ a ≠ b ∧ p ≠ q ∧ p ≠ b ∧ q ≠ b) ∧ sh ≠ a ∧ sh ≠ p ∧ sh ≠ q ∧ sh ≠ b) : ∃ ρ' c' H', f3 [.inr (.inr (some α)), .inr (.inr (some β)), .inl v2] H = some (none, H') ∧ rc ρ' c' H' ∧ gx ρ c ρ' c' ∧ c' a = noC p sh v2 ∧ c' p = poC q b sh (16 + v2) 0 ∧ c' q = oC 4 0 ∧ c' b = oC 4 0 ∧ (∀ x, x ≠ a → x ≠ p → x ≠ q → x ≠ b → c' x = c x) ∧ h_sz H' = h_sz H + 3 ∧ h_sl H' = h_sl H + 21 := by
  show ∃ ρ' c' H', x_out (b3_0 α (some β) v2 H) = _ ∧ _
  unfold b3_0
  have Z0 : szL 0 0 H H := ⟨rfl, rfl⟩
  obtain ⟨c1, H1, e1, g1, x1, vv1, o1, z1, l1⟩ := K_pr g (a) 5 0 (sh) Ra (by rw [Ca]; rfl) Rs (by rw [Cs]; exact hy)
  have Z1 : szL _ _ H H1 := szL.tr Z0 (a1 := 0) (b1 := 0) z1 l1
  clear z1 l1 Z0
  have Cs_1 : c1 (sh) = y := (o1 (sh) (by omega)).trans Cs
  clear Cs
  have Ca_1 : c1 (a) = cPr (oC 6 0) 500 (some (sh)) := by rw [vv1, Ca]
  rw [bd_s e1]
  obtain ⟨c2, H2, e2, g2, x2, vv2, o2, z2, l2⟩ := K_pi g1 (a) 5 1 Ra (by rw [Ca_1]; rfl) (v2)
  have Z2 : szL _ _ H H2 := szL.tr Z1 (a1 := 0) (b1 := 0) z2 l2
  clear z2 l2 Z1
  have Cs_2 : c2 (sh) = y := (o2 (sh) (by omega)).trans Cs_1
  clear Cs_1
  have Ca_2 : c2 (a) = cPi (cPr (oC 6 0) 500 (some (sh))) 501 (v2) := by rw [vv2, Ca_1]
  rw [bd_s e2]
  obtain ⟨ρ3, c3, H3, e3, g3, x3, vv3, o3, r3, z3, l3⟩ := K_no g2 (p) 8 15 (by rw [o2 (p) (by omega), o1 (p) (by omega)]; exact hp)
  have Z3 : szL _ _ H H3 := szL.tr Z2 z3 l3
  clear z3 l3 Z2
  have Ca_3 : c3 (a) = cPi (cPr (oC 6 0) 500 (some (sh))) 501 (v2) := (o3 (a) (by omega)).trans Ca_2
  have Cs_3 : c3 (sh) = y := (o3 (sh) (by omega)).trans Cs_2
  have Ra_3 : rE (ρ3 (a)) (α) := (x3 (a) (by rw [Ca_2]; exact (by decide : (6 : Nat) ≠ 0))).1.trans Ra
  have Rs_3 : rE (ρ3 (sh)) (β) := (x3 (sh) (by rw [Cs_2]; exact hy)).1.trans Rs
  clear Ca_2 Cs_2 Ra Rs
  have Cp_3 : c3 (p) = oC 9 0 := vv3
  have Rp_3 : rE (ρ3 (p)) (h_sz H2) := r3
  clear r3
  rw [bd_s e3]
  obtain ⟨ρ4, c4, H4, e4, g4, x4, u4p, u4q, u4b, o4, z4, l4⟩ := F2 (v2 := (16 : Int32) + v2) (v3 := 0) g3 p q b sh Cp_3 Rp_3 Cs_3 hy Rs_3 (by rw [o3 (q) (by omega), o2 (q) (by omega), o1 (q) (by omega)]; exact hq) (by rw [o3 (b) (by omega), o2 (b) (by omega), o1 (b) (by omega)]; exact hb) (by omega)
  have Z4 : szL _ _ H H4 := szL.tr Z3 z4 l4
  clear z4 l4 Z3
  have Ca_4 : c4 (a) = cPi (cPr (oC 6 0) 500 (some (sh))) 501 (v2) := (o4 (a) (by omega) (by omega) (by omega)).trans Ca_3
  have Cs_4 : c4 (sh) = y := (o4 (sh) (by omega) (by omega) (by omega)).trans Cs_3
  have Ra_4 : rE (ρ4 (a)) (α) := (x4 (a) (by rw [Ca_3]; exact (by decide : (6 : Nat) ≠ 0))).1.trans Ra_3
  have Rs_4 : rE (ρ4 (sh)) (β) := (x4 (sh) (by rw [Cs_3]; exact hy)).1.trans Rs_3
  have Rp_4 : rE (ρ4 (p)) (h_sz H2) := (x4 (p) (by rw [Cp_3]; exact (by decide : (9 : Nat) ≠ 0))).1.trans Rp_3
  clear Ca_3 Cs_3 Ra_3 Rs_3 Rp_3
  have Cp_4 : c4 (p) = poC q b sh (16 + v2) 0 := u4p
  have Cq_4 : c4 (q) = oC 4 0 := u4q
  have Cb_4 : c4 (b) = oC 4 0 := u4b
  rw [bd_s (c_V_of e4)]
  obtain ⟨c5, H5, e5, g5, x5, vv5, o5, z5, l5⟩ := K_pr g4 (a) 5 2 (p) Ra_4 (by rw [Ca_4]; rfl) Rp_4 (by rw [Cp_4]; exact (by decide : (9 : Nat) ≠ 0))
  have Z5 : szL _ _ H H5 := szL.tr Z4 (a1 := 0) (b1 := 0) z5 l5
  clear z5 l5 Z4
  have Cs_5 : c5 (sh) = y := (o5 (sh) (by omega)).trans Cs_4
  have Cp_5 : c5 (p) = poC q b sh (16 + v2) 0 := (o5 (p) (by omega)).trans Cp_4
  have Cq_5 : c5 (q) = oC 4 0 := (o5 (q) (by omega)).trans Cq_4
  have Cb_5 : c5 (b) = oC 4 0 := (o5 (b) (by omega)).trans Cb_4
  clear Cs_4 Cp_4 Cq_4 Cb_4
  have Ca_5 : c5 (a) = cPr (cPi (cPr (oC 6 0) 500 (some (sh))) 501 (v2)) 502 (some (p)) := by rw [vv5, Ca_4]
  rw [bd_s e5]
  exact ⟨ρ4, c5, H5, rfl, g5, ((((x1).tr x2).tr x3).tr x4).tr x5, Ca_5, Cp_5, Cq_5, Cb_5, fun x h1 h2 h3 h4 => (o5 x (h1)).trans ((o4 x (h2) (h3) (h4)).trans ((o3 x (h2)).trans ((o2 x (h1)).trans (o1 x (h1))))), Z5.1, Z5.2⟩
def hoC (e l sh d : Nat) : cD := cPr (cPr (cPr (cPr (oC 5 0) 404 (some (e))) 400 (some (sh))) 401 (some (d))) 403 (some (l))
theorem F4 {y y2 : cD} (g : rc ρ c H) (a e l sh d : Nat) (Ca : c a = oC 5 0) (Ra : ρ a = α) (Cs : c sh = y) (hy : y.1.1 = 10) (hy2 : y.2.1 901 = nI nd) (hnd : nd ≤ 8) (Rs : ρ sh = β) (Cd : c d = y2) (hd : y2.1.1 ≠ 0) (Rd : ρ d = γ) (he : (c e).1.1 = 0) (hl : (c l).1.1 = 0) (hne : (a ≠ e ∧ a ≠ l ∧ e ≠ l) ∧ (sh ≠ a ∧ sh ≠ e ∧ sh ≠ l) ∧ d ≠ a ∧ d ≠ e ∧ d ≠ l) : ∃ ρ' c' H', f4 [.inr (.inr (some α)), .inr (.inr (some β)), .inr (.inr (some γ))] H = some (none, H') ∧ rc ρ' c' H' ∧ gx ρ c ρ' c' ∧ c' a = hoC e l sh d ∧ c' e = oC 30 4 ∧ c' l = oC 20 nd ∧ (∀ x, x ≠ a → x ≠ e → x ≠ l → c' x = c x) ∧ h_sz H' = h_sz H + 2 ∧ h_sl H' = h_sl H + (4 + nd) := by
  show ∃ ρ' c' H', x_out (b4_0 α (some β) (some γ) H) = _ ∧ _
  unfold b4_0
  have Z0 : szL 0 0 H H := ⟨rfl, rfl⟩
  obtain ⟨ρ1, c1, H1, e1, g1, x1, vv1, o1, r1, z1, l1⟩ := K_na g (e) 30 (4) (v := 4) he (by decide) (by decide)
  have Z1 : szL _ _ H H1 := szL.tr Z0 z1 l1
  clear z1 l1 Z0
  have Ca_1 : c1 (a) = oC 5 0 := (o1 (a) (by omega)).trans Ca
  have Cs_1 : c1 (sh) = y := (o1 (sh) (by omega)).trans Cs
  have Cd_1 : c1 (d) = y2 := (o1 (d) (by omega)).trans Cd
  have Ra_1 : rE (ρ1 (a)) (α) := (x1 (a) (by rw [Ca]; exact (by decide : (5 : Nat) ≠ 0))).1.trans Ra
  have Rs_1 : rE (ρ1 (sh)) (β) := (x1 (sh) (by rw [Cs]; rw [hy]; decide)).1.trans Rs
  have Rd_1 : rE (ρ1 (d)) (γ) := (x1 (d) (by rw [Cd]; exact hd)).1.trans Rd
  clear Ca Cs Cd Ra Rs Rd
  have Ce_1 : c1 (e) = oC 30 (4) := vv1
  have Re_1 : rE (ρ1 (e)) (h_sz H) := r1
  clear r1
  rw [bd_s e1]
  obtain ⟨c2, H2, e2, g2, x2, vv2, o2, z2, l2⟩ := K_pr g1 (a) 4 4 (e) Ra_1 (by rw [Ca_1]; rfl) Re_1 (by rw [Ce_1]; exact (by decide : (30 : Nat) ≠ 0))
  have Z2 : szL _ _ H H2 := szL.tr Z1 (a1 := 0) (b1 := 0) z2 l2
  clear z2 l2 Z1
  have Cs_2 : c2 (sh) = y := (o2 (sh) (by omega)).trans Cs_1
  have Cd_2 : c2 (d) = y2 := (o2 (d) (by omega)).trans Cd_1
  have Ce_2 : c2 (e) = oC 30 (4) := (o2 (e) (by omega)).trans Ce_1
  clear Cs_1 Cd_1 Ce_1
  have Ca_2 : c2 (a) = cPr (oC 5 0) 404 (some (e)) := by rw [vv2, Ca_1]
  rw [bd_s e2]
  obtain ⟨c3, H3, e3, g3, x3, vv3, o3, z3, l3⟩ := K_pr g2 (a) 4 0 (sh) Ra_1 (by rw [Ca_2]; rfl) Rs_1 (by rw [Cs_2]; rw [hy]; decide)
  have Z3 : szL _ _ H H3 := szL.tr Z2 (a1 := 0) (b1 := 0) z3 l3
  clear z3 l3 Z2
  have Cs_3 : c3 (sh) = y := (o3 (sh) (by omega)).trans Cs_2
  have Cd_3 : c3 (d) = y2 := (o3 (d) (by omega)).trans Cd_2
  have Ce_3 : c3 (e) = oC 30 (4) := (o3 (e) (by omega)).trans Ce_2
  clear Cs_2 Cd_2 Ce_2
  have Ca_3 : c3 (a) = cPr (cPr (oC 5 0) 404 (some (e))) 400 (some (sh)) := by rw [vv3, Ca_2]
  rw [bd_s e3]
  obtain ⟨c4, H4, e4, g4, x4, vv4, o4, z4, l4⟩ := K_pr g3 (a) 4 1 (d) Ra_1 (by rw [Ca_3]; rfl) Rd_1 (by rw [Cd_3]; exact hd)
  have Z4 : szL _ _ H H4 := szL.tr Z3 (a1 := 0) (b1 := 0) z4 l4
  clear z4 l4 Z3
  have Cs_4 : c4 (sh) = y := (o4 (sh) (by omega)).trans Cs_3
  have Cd_4 : c4 (d) = y2 := (o4 (d) (by omega)).trans Cd_3
  have Ce_4 : c4 (e) = oC 30 (4) := (o4 (e) (by omega)).trans Ce_3
  clear Cs_3 Cd_3 Ce_3
  have Ca_4 : c4 (a) = cPr (cPr (cPr (oC 5 0) 404 (some (e))) 400 (some (sh))) 401 (some (d)) := by rw [vv4, Ca_3]
  rw [bd_s e4]
  rw [bd_s (O_gi g4 sh 9 1 Rs_1 (by rw [Cs_4]; exact hy)), show (c4 sh).2.1 (100 * 9 + 1) = nI nd by rw [Cs_4]; exact hy2]
  obtain ⟨ρ5, c5, H5, e5, g5, x5, vv5, o5, r5, z5, l5⟩ := K_na g4 (l) 20 (nd) (v := nI nd) (by rw [o4 (l) (by omega), o3 (l) (by omega), o2 (l) (by omega), o1 (l) (by omega)]; exact hl) (by decide) ⟨⟨nI_pos (by omega), nI_clamp (by omega)⟩, by omega⟩
  have Z5 : szL _ _ H H5 := szL.tr Z4 z5 l5
  clear z5 l5 Z4
  have Ca_5 : c5 (a) = cPr (cPr (cPr (oC 5 0) 404 (some (e))) 400 (some (sh))) 401 (some (d)) := (o5 (a) (by omega)).trans Ca_4
  have Cs_5 : c5 (sh) = y := (o5 (sh) (by omega)).trans Cs_4
  have Cd_5 : c5 (d) = y2 := (o5 (d) (by omega)).trans Cd_4
  have Ce_5 : c5 (e) = oC 30 (4) := (o5 (e) (by omega)).trans Ce_4
  have Ra_5 : rE (ρ5 (a)) (α) := (x5 (a) (by rw [Ca_4]; exact (by decide : (5 : Nat) ≠ 0))).1.trans Ra_1
  have Rs_5 : rE (ρ5 (sh)) (β) := (x5 (sh) (by rw [Cs_4]; rw [hy]; decide)).1.trans Rs_1
  have Rd_5 : rE (ρ5 (d)) (γ) := (x5 (d) (by rw [Cd_4]; exact hd)).1.trans Rd_1
  have Re_5 : rE (ρ5 (e)) (h_sz H) := (x5 (e) (by rw [Ce_4]; exact (by decide : (30 : Nat) ≠ 0))).1.trans Re_1
  clear Ca_4 Cs_4 Cd_4 Ce_4 Ra_1 Rs_1 Rd_1 Re_1
  have Cl_5 : c5 (l) = oC 20 (nd) := vv5
  have Rl_5 : rE (ρ5 (l)) (h_sz H4) := r5
  clear r5
  rw [bd_s e5]
  obtain ⟨c6, H6, e6, g6, x6, vv6, o6, z6, l6⟩ := K_pr g5 (a) 4 3 (l) Ra_5 (by rw [Ca_5]; rfl) Rl_5 (by rw [Cl_5]; exact (by decide : (20 : Nat) ≠ 0))
  have Z6 : szL _ _ H H6 := szL.tr Z5 (a1 := 0) (b1 := 0) z6 l6
  clear z6 l6 Z5
  have Cs_6 : c6 (sh) = y := (o6 (sh) (by omega)).trans Cs_5
  have Cd_6 : c6 (d) = y2 := (o6 (d) (by omega)).trans Cd_5
  have Ce_6 : c6 (e) = oC 30 (4) := (o6 (e) (by omega)).trans Ce_5
  have Cl_6 : c6 (l) = oC 20 (nd) := (o6 (l) (by omega)).trans Cl_5
  clear Cs_5 Cd_5 Ce_5 Cl_5
  have Ca_6 : c6 (a) = cPr (cPr (cPr (cPr (oC 5 0) 404 (some (e))) 400 (some (sh))) 401 (some (d))) 403 (some (l)) := by rw [vv6, Ca_5]
  rw [bd_s e6]
  exact ⟨ρ5, c6, H6, rfl, g6, (((((x1).tr x2).tr x3).tr x4).tr x5).tr x6, Ca_6, Ce_6, Cl_6, fun x h1 h2 h3 => (o6 x (h1)).trans ((o5 x (h3)).trans ((o4 x (h1)).trans ((o3 x (h1)).trans ((o2 x (h1)).trans (o1 x (h2)))))), Z6.1, by rw [Z6.2]; omega⟩
/-- the addresses of switch s -/
def regS (sw s x : Nat) : Prop := (x = 10 + s ∨ x = 20 + s ∨ x = 30 + s ∨ x = 40 + s ∨ x = 50 + s ∨ x = 60 + s ∨ x = 70 + s) ∨ ((80 + 5 * s ≤ x ∧ x < 80 + 5 * s + sw) ∨ (110 + 5 * s ≤ x ∧ x < 110 + 5 * s + sw)) ∨ ((400 + 6 * s ≤ x ∧ x < 400 + 6 * s + 6) ∨ (440 + 6 * s ≤ x ∧ x < 440 + 6 * s + 6)) ∨ (200 + 8 * s ≤ x ∧ x < 200 + 8 * s + 8) ∨ (250 + 8 * s ≤ x ∧ x < 250 + 8 * s + 8) ∨ (300 + 8 * s ≤ x ∧ x < 300 + 8 * s + 8)
def swC (s : Nat) : cD := cPr (cPr (cPr (cPr (cPi (cPi (cPr (cPr (cPr (cPr (oC 11 0) 1002 (some (20 + s))) 1005 (some (405 + 6 * s))) 1009 (some (50 + s))) 1000 (some (2))) 1001 (nI s)) 1003 (nI s + 1)) 1004 (some (30 + s))) 1006 (some (60 + s))) 1007 (some (70 + s))) 1008 (some (40 + s))
theorem F6a {y : cD} (g : rc ρ c H) (hs : s < sw) (h5 : sw ≤ 5) (Ca : c (10 + s) = oC 11 0) (Ra : ρ (10 + s) = α) (Cs : c 2 = y) (hy : y.1.1 = 10) (hy2 : y.2.1 900 = nI sw) (Rs : ρ 2 = β) (hf : ∀ x, regS sw s x → x ≠ 10 + s → (c x).1.1 = 0) : ∃ ρ' c' H', b6_0 α (some β) (nI s) H = some (.inr (92, [.inr (.inr (some α)), .inr (.inr (some β)), .inl (nI s), .inl (nI sw), .inl (0 : Int32)], H')) ∧ rc ρ' c' H' ∧ gx ρ c ρ' c' ∧ (c' (10 + s) = swC s ∧ c' (20 + s) = oC 38 8 ∧ c' (405 + 6 * s) = ntC (445 + 6 * s) ∧ c' (445 + 6 * s) = oC 21 31 ∧ c' (50 + s) = oC 20 16 ∧ c' (30 + s) = oC 36 sw ∧ c' (60 + s) = maO (80 + 5 * s) sw ∧ c' (70 + s) = maO (110 + 5 * s) sw ∧ c' (40 + s) = oC 20 sw) ∧ ((∀ x, 80 + 5 * s ≤ x → x < 80 + 5 * s + sw → c' x = oC 20 sw) ∧ ∀ x, 110 + 5 * s ≤ x → x < 110 + 5 * s + sw → c' x = oC 20 sw) ∧ (∀ x, (¬ regS sw s x ∨ (400 + 6 * s ≤ x ∧ x < 400 + 6 * s + 5) ∨ (440 + 6 * s ≤ x ∧ x < 440 + 6 * s + 5) ∨ 200 ≤ x ∧ x < 400) → c' x = c x) ∧ h_sz H' ≤ h_sz H + 20 ∧ h_sl H' ≤ h_sl H + 150 := by
  unfold b6_0
  have Z0 : szL 0 0 H H := ⟨rfl, rfl⟩
  obtain ⟨ρ1, c1, H1, e1, g1, x1, vv1, o1, r1, z1, l1⟩ := K_na g (20 + s) 38 (8) (v := 8) (hf _ (by unfold regS; omega) (by omega)) (by decide) (by decide)
  have Z1 : szL _ _ H H1 := szL.tr Z0 z1 l1
  clear z1 l1 Z0
  have Ca_1 : c1 (10 + s) = oC 11 0 := (o1 (10 + s) (by omega)).trans Ca
  have Cs_1 : c1 (2) = y := (o1 (2) (by omega)).trans Cs
  have Ra_1 : rE (ρ1 (10 + s)) (α) := (x1 (10 + s) (by rw [Ca]; exact (by decide : (11 : Nat) ≠ 0))).1.trans Ra
  have Rs_1 : rE (ρ1 (2)) (β) := (x1 (2) (by rw [Cs]; rw [hy]; decide)).1.trans Rs
  clear Ca Cs Ra Rs
  have Cp_1 : c1 (20 + s) = oC 38 (8) := vv1
  have Rp_1 : rE (ρ1 (20 + s)) (h_sz H) := r1
  clear r1
  rw [bd_s e1]
  obtain ⟨c2, H2, e2, g2, x2, vv2, o2, z2, l2⟩ := K_pr g1 (10 + s) 10 2 (20 + s) Ra_1 (by rw [Ca_1]; rfl) Rp_1 (by rw [Cp_1]; exact (by decide : (38 : Nat) ≠ 0))
  have Z2 : szL _ _ H H2 := szL.tr Z1 (a1 := 0) (b1 := 0) z2 l2
  clear z2 l2 Z1
  have Cs_2 : c2 (2) = y := (o2 (2) (by omega)).trans Cs_1
  have Cp_2 : c2 (20 + s) = oC 38 (8) := (o2 (20 + s) (by omega)).trans Cp_1
  clear Cs_1 Cp_1
  have Ca_2 : c2 (10 + s) = cPr (oC 11 0) 1002 (some (20 + s)) := by rw [vv2, Ca_1]
  rw [bd_s e2]
  obtain ⟨ρ3, c3, H3, e3, g3, x3, vv3, o3, r3, z3, l3⟩ := K_no g2 (405 + 6 * s) 6 3 (by rw [o2 (405 + 6 * s) (by omega), o1 (405 + 6 * s) (by omega)]; exact (hf _ (by unfold regS; omega) (by omega)))
  have Z3 : szL _ _ H H3 := szL.tr Z2 z3 l3
  clear z3 l3 Z2
  have Ca_3 : c3 (10 + s) = cPr (oC 11 0) 1002 (some (20 + s)) := (o3 (10 + s) (by omega)).trans Ca_2
  have Cs_3 : c3 (2) = y := (o3 (2) (by omega)).trans Cs_2
  have Cp_3 : c3 (20 + s) = oC 38 (8) := (o3 (20 + s) (by omega)).trans Cp_2
  have Ra_3 : rE (ρ3 (10 + s)) (α) := (x3 (10 + s) (by rw [Ca_2]; exact (by decide : (11 : Nat) ≠ 0))).1.trans Ra_1
  have Rs_3 : rE (ρ3 (2)) (β) := (x3 (2) (by rw [Cs_2]; rw [hy]; decide)).1.trans Rs_1
  have Rp_3 : rE (ρ3 (20 + s)) (h_sz H) := (x3 (20 + s) (by rw [Cp_2]; exact (by decide : (38 : Nat) ≠ 0))).1.trans Rp_1
  clear Ca_2 Cs_2 Cp_2 Ra_1 Rs_1 Rp_1
  have Cd_3 : c3 (405 + 6 * s) = oC 7 0 := vv3
  have Rd_3 : rE (ρ3 (405 + 6 * s)) (h_sz H2) := r3
  clear r3
  rw [bd_s e3]
  obtain ⟨ρ4, c4, H4, e4, g4, x4, u4d, u4e, o4, z4, l4⟩ := F5 g3 (405 + 6 * s) (445 + 6 * s) Cd_3 Rd_3 (by rw [o3 (445 + 6 * s) (by omega), o2 (445 + 6 * s) (by omega), o1 (445 + 6 * s) (by omega)]; exact (hf _ (by unfold regS; omega) (by omega))) (by omega)
  have Z4 : szL _ _ H H4 := szL.tr Z3 z4 l4
  clear z4 l4 Z3
  have Ca_4 : c4 (10 + s) = cPr (oC 11 0) 1002 (some (20 + s)) := (o4 (10 + s) (by omega) (by omega)).trans Ca_3
  have Cs_4 : c4 (2) = y := (o4 (2) (by omega) (by omega)).trans Cs_3
  have Cp_4 : c4 (20 + s) = oC 38 (8) := (o4 (20 + s) (by omega) (by omega)).trans Cp_3
  have Ra_4 : rE (ρ4 (10 + s)) (α) := (x4 (10 + s) (by rw [Ca_3]; exact (by decide : (11 : Nat) ≠ 0))).1.trans Ra_3
  have Rs_4 : rE (ρ4 (2)) (β) := (x4 (2) (by rw [Cs_3]; rw [hy]; decide)).1.trans Rs_3
  have Rp_4 : rE (ρ4 (20 + s)) (h_sz H) := (x4 (20 + s) (by rw [Cp_3]; exact (by decide : (38 : Nat) ≠ 0))).1.trans Rp_3
  have Rd_4 : rE (ρ4 (405 + 6 * s)) (h_sz H2) := (x4 (405 + 6 * s) (by rw [Cd_3]; exact (by decide : (7 : Nat) ≠ 0))).1.trans Rd_3
  clear Ca_3 Cs_3 Cp_3 Ra_3 Rs_3 Rp_3 Rd_3
  have Cd_4 : c4 (405 + 6 * s) = ntC (445 + 6 * s) := u4d
  have Ce_4 : c4 (445 + 6 * s) = oC 21 31 := u4e
  rw [bd_s (c_V_of e4)]
  obtain ⟨c5, H5, e5, g5, x5, vv5, o5, z5, l5⟩ := K_pr g4 (10 + s) 10 5 (405 + 6 * s) Ra_4 (by rw [Ca_4]; rfl) Rd_4 (by rw [Cd_4]; exact (by decide : (7 : Nat) ≠ 0))
  have Z5 : szL _ _ H H5 := szL.tr Z4 (a1 := 0) (b1 := 0) z5 l5
  clear z5 l5 Z4
  have Cs_5 : c5 (2) = y := (o5 (2) (by omega)).trans Cs_4
  have Cp_5 : c5 (20 + s) = oC 38 (8) := (o5 (20 + s) (by omega)).trans Cp_4
  have Cd_5 : c5 (405 + 6 * s) = ntC (445 + 6 * s) := (o5 (405 + 6 * s) (by omega)).trans Cd_4
  have Ce_5 : c5 (445 + 6 * s) = oC 21 31 := (o5 (445 + 6 * s) (by omega)).trans Ce_4
  clear Cs_4 Cp_4 Cd_4 Ce_4
  have Ca_5 : c5 (10 + s) = cPr (cPr (oC 11 0) 1002 (some (20 + s))) 1005 (some (405 + 6 * s)) := by rw [vv5, Ca_4]
  rw [bd_s e5]
  obtain ⟨ρ6, c6, H6, e6, g6, x6, vv6, o6, r6, z6, l6⟩ := K_na g5 (50 + s) 20 (16) (v := 16) (by rw [o5 (50 + s) (by omega), o4 (50 + s) (by omega) (by omega), o3 (50 + s) (by omega), o2 (50 + s) (by omega), o1 (50 + s) (by omega)]; exact (hf _ (by unfold regS; omega) (by omega))) (by decide) (by decide)
  have Z6 : szL _ _ H H6 := szL.tr Z5 z6 l6
  clear z6 l6 Z5
  have Ca_6 : c6 (10 + s) = cPr (cPr (oC 11 0) 1002 (some (20 + s))) 1005 (some (405 + 6 * s)) := (o6 (10 + s) (by omega)).trans Ca_5
  have Cs_6 : c6 (2) = y := (o6 (2) (by omega)).trans Cs_5
  have Cp_6 : c6 (20 + s) = oC 38 (8) := (o6 (20 + s) (by omega)).trans Cp_5
  have Cd_6 : c6 (405 + 6 * s) = ntC (445 + 6 * s) := (o6 (405 + 6 * s) (by omega)).trans Cd_5
  have Ce_6 : c6 (445 + 6 * s) = oC 21 31 := (o6 (445 + 6 * s) (by omega)).trans Ce_5
  have Ra_6 : rE (ρ6 (10 + s)) (α) := (x6 (10 + s) (by rw [Ca_5]; exact (by decide : (11 : Nat) ≠ 0))).1.trans Ra_4
  have Rs_6 : rE (ρ6 (2)) (β) := (x6 (2) (by rw [Cs_5]; rw [hy]; decide)).1.trans Rs_4
  have Rp_6 : rE (ρ6 (20 + s)) (h_sz H) := (x6 (20 + s) (by rw [Cp_5]; exact (by decide : (38 : Nat) ≠ 0))).1.trans Rp_4
  have Rd_6 : rE (ρ6 (405 + 6 * s)) (h_sz H2) := (x6 (405 + 6 * s) (by rw [Cd_5]; exact (by decide : (7 : Nat) ≠ 0))).1.trans Rd_4
  clear Ca_5 Cs_5 Cp_5 Cd_5 Ce_5 Ra_4 Rs_4 Rp_4 Rd_4
  have Ch_6 : c6 (50 + s) = oC 20 (16) := vv6
  have Rh_6 : rE (ρ6 (50 + s)) (h_sz H5) := r6
  clear r6
  rw [bd_s e6]
  obtain ⟨c7, H7, e7, g7, x7, vv7, o7, z7, l7⟩ := K_pr g6 (10 + s) 10 9 (50 + s) Ra_6 (by rw [Ca_6]; rfl) Rh_6 (by rw [Ch_6]; exact (by decide : (20 : Nat) ≠ 0))
  have Z7 : szL _ _ H H7 := szL.tr Z6 (a1 := 0) (b1 := 0) z7 l7
  clear z7 l7 Z6
  have Cs_7 : c7 (2) = y := (o7 (2) (by omega)).trans Cs_6
  have Cp_7 : c7 (20 + s) = oC 38 (8) := (o7 (20 + s) (by omega)).trans Cp_6
  have Cd_7 : c7 (405 + 6 * s) = ntC (445 + 6 * s) := (o7 (405 + 6 * s) (by omega)).trans Cd_6
  have Ce_7 : c7 (445 + 6 * s) = oC 21 31 := (o7 (445 + 6 * s) (by omega)).trans Ce_6
  have Ch_7 : c7 (50 + s) = oC 20 (16) := (o7 (50 + s) (by omega)).trans Ch_6
  clear Cs_6 Cp_6 Cd_6 Ce_6 Ch_6
  have Ca_7 : c7 (10 + s) = cPr (cPr (cPr (oC 11 0) 1002 (some (20 + s))) 1005 (some (405 + 6 * s))) 1009 (some (50 + s)) := by rw [vv7, Ca_6]
  rw [bd_s e7]
  rw [bd_s (O_gi g7 2 9 0 Rs_6 (by rw [Cs_7]; exact hy)), show (c7 2).2.1 (100 * 9 + 0) = nI sw by rw [Cs_7]; exact hy2]
  obtain ⟨c8, H8, e8, g8, x8, vv8, o8, z8, l8⟩ := K_pr g7 (10 + s) 10 0 (2) Ra_6 (by rw [Ca_7]; rfl) Rs_6 (by rw [Cs_7]; rw [hy]; decide)
  have Z8 : szL _ _ H H8 := szL.tr Z7 (a1 := 0) (b1 := 0) z8 l8
  clear z8 l8 Z7
  have Cs_8 : c8 (2) = y := (o8 (2) (by omega)).trans Cs_7
  have Cp_8 : c8 (20 + s) = oC 38 (8) := (o8 (20 + s) (by omega)).trans Cp_7
  have Cd_8 : c8 (405 + 6 * s) = ntC (445 + 6 * s) := (o8 (405 + 6 * s) (by omega)).trans Cd_7
  have Ce_8 : c8 (445 + 6 * s) = oC 21 31 := (o8 (445 + 6 * s) (by omega)).trans Ce_7
  have Ch_8 : c8 (50 + s) = oC 20 (16) := (o8 (50 + s) (by omega)).trans Ch_7
  clear Cs_7 Cp_7 Cd_7 Ce_7 Ch_7
  have Ca_8 : c8 (10 + s) = cPr (cPr (cPr (cPr (oC 11 0) 1002 (some (20 + s))) 1005 (some (405 + 6 * s))) 1009 (some (50 + s))) 1000 (some (2)) := by rw [vv8, Ca_7]
  rw [bd_s e8]
  obtain ⟨c9, H9, e9, g9, x9, vv9, o9, z9, l9⟩ := K_pi g8 (10 + s) 10 1 Ra_6 (by rw [Ca_8]; rfl) (nI s)
  have Z9 : szL _ _ H H9 := szL.tr Z8 (a1 := 0) (b1 := 0) z9 l9
  clear z9 l9 Z8
  have Cs_9 : c9 (2) = y := (o9 (2) (by omega)).trans Cs_8
  have Cp_9 : c9 (20 + s) = oC 38 (8) := (o9 (20 + s) (by omega)).trans Cp_8
  have Cd_9 : c9 (405 + 6 * s) = ntC (445 + 6 * s) := (o9 (405 + 6 * s) (by omega)).trans Cd_8
  have Ce_9 : c9 (445 + 6 * s) = oC 21 31 := (o9 (445 + 6 * s) (by omega)).trans Ce_8
  have Ch_9 : c9 (50 + s) = oC 20 (16) := (o9 (50 + s) (by omega)).trans Ch_8
  clear Cs_8 Cp_8 Cd_8 Ce_8 Ch_8
  have Ca_9 : c9 (10 + s) = cPi (cPr (cPr (cPr (cPr (oC 11 0) 1002 (some (20 + s))) 1005 (some (405 + 6 * s))) 1009 (some (50 + s))) 1000 (some (2))) 1001 (nI s) := by rw [vv9, Ca_8]
  rw [bd_s e9]
  obtain ⟨c10, H10, e10, g10, x10, vv10, o10, z10, l10⟩ := K_pi g9 (10 + s) 10 3 Ra_6 (by rw [Ca_9]; rfl) (nI s + 1)
  have Z10 : szL _ _ H H10 := szL.tr Z9 (a1 := 0) (b1 := 0) z10 l10
  clear z10 l10 Z9
  have Cs_10 : c10 (2) = y := (o10 (2) (by omega)).trans Cs_9
  have Cp_10 : c10 (20 + s) = oC 38 (8) := (o10 (20 + s) (by omega)).trans Cp_9
  have Cd_10 : c10 (405 + 6 * s) = ntC (445 + 6 * s) := (o10 (405 + 6 * s) (by omega)).trans Cd_9
  have Ce_10 : c10 (445 + 6 * s) = oC 21 31 := (o10 (445 + 6 * s) (by omega)).trans Ce_9
  have Ch_10 : c10 (50 + s) = oC 20 (16) := (o10 (50 + s) (by omega)).trans Ch_9
  clear Cs_9 Cp_9 Cd_9 Ce_9 Ch_9
  have Ca_10 : c10 (10 + s) = cPi (cPi (cPr (cPr (cPr (cPr (oC 11 0) 1002 (some (20 + s))) 1005 (some (405 + 6 * s))) 1009 (some (50 + s))) 1000 (some (2))) 1001 (nI s)) 1003 (nI s + 1) := by rw [vv10, Ca_9]
  rw [bd_s e10]
  obtain ⟨ρ11, c11, H11, e11, g11, x11, vv11, o11, r11, z11, l11⟩ := K_na g10 (30 + s) 36 (sw) (v := nI sw) (by rw [o10 (30 + s) (by omega), o9 (30 + s) (by omega), o8 (30 + s) (by omega), o7 (30 + s) (by omega), o6 (30 + s) (by omega), o5 (30 + s) (by omega), o4 (30 + s) (by omega) (by omega), o3 (30 + s) (by omega), o2 (30 + s) (by omega), o1 (30 + s) (by omega)]; exact (hf _ (by unfold regS; omega) (by omega))) (by decide) ⟨⟨nI_pos (by omega), nI_clamp (by omega)⟩, by omega⟩
  have Z11 : szL _ _ H H11 := szL.tr Z10 z11 l11
  clear z11 l11 Z10
  have Ca_11 : c11 (10 + s) = cPi (cPi (cPr (cPr (cPr (cPr (oC 11 0) 1002 (some (20 + s))) 1005 (some (405 + 6 * s))) 1009 (some (50 + s))) 1000 (some (2))) 1001 (nI s)) 1003 (nI s + 1) := (o11 (10 + s) (by omega)).trans Ca_10
  have Cs_11 : c11 (2) = y := (o11 (2) (by omega)).trans Cs_10
  have Cp_11 : c11 (20 + s) = oC 38 (8) := (o11 (20 + s) (by omega)).trans Cp_10
  have Cd_11 : c11 (405 + 6 * s) = ntC (445 + 6 * s) := (o11 (405 + 6 * s) (by omega)).trans Cd_10
  have Ce_11 : c11 (445 + 6 * s) = oC 21 31 := (o11 (445 + 6 * s) (by omega)).trans Ce_10
  have Ch_11 : c11 (50 + s) = oC 20 (16) := (o11 (50 + s) (by omega)).trans Ch_10
  have Ra_11 : rE (ρ11 (10 + s)) (α) := (x11 (10 + s) (by rw [Ca_10]; exact (by decide : (11 : Nat) ≠ 0))).1.trans Ra_6
  have Rs_11 : rE (ρ11 (2)) (β) := (x11 (2) (by rw [Cs_10]; rw [hy]; decide)).1.trans Rs_6
  have Rp_11 : rE (ρ11 (20 + s)) (h_sz H) := (x11 (20 + s) (by rw [Cp_10]; exact (by decide : (38 : Nat) ≠ 0))).1.trans Rp_6
  have Rd_11 : rE (ρ11 (405 + 6 * s)) (h_sz H2) := (x11 (405 + 6 * s) (by rw [Cd_10]; exact (by decide : (7 : Nat) ≠ 0))).1.trans Rd_6
  have Rh_11 : rE (ρ11 (50 + s)) (h_sz H5) := (x11 (50 + s) (by rw [Ch_10]; exact (by decide : (20 : Nat) ≠ 0))).1.trans Rh_6
  clear Ca_10 Cs_10 Cp_10 Cd_10 Ce_10 Ch_10 Ra_6 Rs_6 Rp_6 Rd_6 Rh_6
  have Cn_11 : c11 (30 + s) = oC 36 (sw) := vv11
  have Rn_11 : rE (ρ11 (30 + s)) (h_sz H10) := r11
  clear r11
  rw [bd_s e11]
  obtain ⟨c12, H12, e12, g12, x12, vv12, o12, z12, l12⟩ := K_pr g11 (10 + s) 10 4 (30 + s) Ra_11 (by rw [Ca_11]; rfl) Rn_11 (by rw [Cn_11]; exact (by decide : (36 : Nat) ≠ 0))
  have Z12 : szL _ _ H H12 := szL.tr Z11 (a1 := 0) (b1 := 0) z12 l12
  clear z12 l12 Z11
  have Cs_12 : c12 (2) = y := (o12 (2) (by omega)).trans Cs_11
  have Cp_12 : c12 (20 + s) = oC 38 (8) := (o12 (20 + s) (by omega)).trans Cp_11
  have Cd_12 : c12 (405 + 6 * s) = ntC (445 + 6 * s) := (o12 (405 + 6 * s) (by omega)).trans Cd_11
  have Ce_12 : c12 (445 + 6 * s) = oC 21 31 := (o12 (445 + 6 * s) (by omega)).trans Ce_11
  have Ch_12 : c12 (50 + s) = oC 20 (16) := (o12 (50 + s) (by omega)).trans Ch_11
  have Cn_12 : c12 (30 + s) = oC 36 (sw) := (o12 (30 + s) (by omega)).trans Cn_11
  clear Cs_11 Cp_11 Cd_11 Ce_11 Ch_11 Cn_11
  have Ca_12 : c12 (10 + s) = cPr (cPi (cPi (cPr (cPr (cPr (cPr (oC 11 0) 1002 (some (20 + s))) 1005 (some (405 + 6 * s))) 1009 (some (50 + s))) 1000 (some (2))) 1001 (nI s)) 1003 (nI s + 1)) 1004 (some (30 + s)) := by rw [vv12, Ca_11]
  rw [bd_s e12]
  obtain ⟨ρ13, c13, H13, e13, g13, x13, vv13, vw13, o13, r13, z13, l13⟩ := K_ma g12 (60 + s) (80 + 5 * s) sw (by rw [o12 (60 + s) (by omega), o11 (60 + s) (by omega), o10 (60 + s) (by omega), o9 (60 + s) (by omega), o8 (60 + s) (by omega), o7 (60 + s) (by omega), o6 (60 + s) (by omega), o5 (60 + s) (by omega), o4 (60 + s) (by omega) (by omega), o3 (60 + s) (by omega), o2 (60 + s) (by omega), o1 (60 + s) (by omega)]; exact (hf _ (by unfold regS; omega) (by omega))) (fun x h1 h2 => by rw [o12 x (by omega), o11 x (by omega), o10 x (by omega), o9 x (by omega), o8 x (by omega), o7 x (by omega), o6 x (by omega), o5 x (by omega), o4 x (by omega) (by omega), o3 x (by omega), o2 x (by omega), o1 x (by omega)]; exact hf x (by unfold regS; omega) (by omega)) (by omega) (by omega)
  have z13 : h_sz H13 = h_sz H12 + (1 + sw) := by rw [z13, Nat.add_assoc]
  have l13 : h_sl H13 = h_sl H12 + (sw + sw * sw) := by rw [l13, Nat.add_assoc]
  have Z13 : szL _ _ H H13 := szL.tr Z12 z13 l13
  clear z13 l13 Z12
  have Ca_13 : c13 (10 + s) = cPr (cPi (cPi (cPr (cPr (cPr (cPr (oC 11 0) 1002 (some (20 + s))) 1005 (some (405 + 6 * s))) 1009 (some (50 + s))) 1000 (some (2))) 1001 (nI s)) 1003 (nI s + 1)) 1004 (some (30 + s)) := (o13 (10 + s) (by omega) (by omega)).trans Ca_12
  have Cs_13 : c13 (2) = y := (o13 (2) (by omega) (by omega)).trans Cs_12
  have Cp_13 : c13 (20 + s) = oC 38 (8) := (o13 (20 + s) (by omega) (by omega)).trans Cp_12
  have Cd_13 : c13 (405 + 6 * s) = ntC (445 + 6 * s) := (o13 (405 + 6 * s) (by omega) (by omega)).trans Cd_12
  have Ce_13 : c13 (445 + 6 * s) = oC 21 31 := (o13 (445 + 6 * s) (by omega) (by omega)).trans Ce_12
  have Ch_13 : c13 (50 + s) = oC 20 (16) := (o13 (50 + s) (by omega) (by omega)).trans Ch_12
  have Cn_13 : c13 (30 + s) = oC 36 (sw) := (o13 (30 + s) (by omega) (by omega)).trans Cn_12
  have Ra_13 : rE (ρ13 (10 + s)) (α) := (x13 (10 + s) (by rw [Ca_12]; exact (by decide : (11 : Nat) ≠ 0))).1.trans Ra_11
  have Rs_13 : rE (ρ13 (2)) (β) := (x13 (2) (by rw [Cs_12]; rw [hy]; decide)).1.trans Rs_11
  have Rp_13 : rE (ρ13 (20 + s)) (h_sz H) := (x13 (20 + s) (by rw [Cp_12]; exact (by decide : (38 : Nat) ≠ 0))).1.trans Rp_11
  have Rd_13 : rE (ρ13 (405 + 6 * s)) (h_sz H2) := (x13 (405 + 6 * s) (by rw [Cd_12]; exact (by decide : (7 : Nat) ≠ 0))).1.trans Rd_11
  have Rh_13 : rE (ρ13 (50 + s)) (h_sz H5) := (x13 (50 + s) (by rw [Ch_12]; exact (by decide : (20 : Nat) ≠ 0))).1.trans Rh_11
  have Rn_13 : rE (ρ13 (30 + s)) (h_sz H10) := (x13 (30 + s) (by rw [Cn_12]; exact (by decide : (36 : Nat) ≠ 0))).1.trans Rn_11
  clear Ca_12 Cs_12 Cp_12 Cd_12 Ce_12 Ch_12 Cn_12 Ra_11 Rs_11 Rp_11 Rd_11 Rh_11 Rn_11
  have Cm_13 : c13 (60 + s) = maO (80 + 5 * s) sw := vv13
  have Rm_13 : rE (ρ13 (60 + s)) (h_sz H12) := r13
  clear r13
  rw [bd_s e13]
  obtain ⟨c14, H14, e14, g14, x14, vv14, o14, z14, l14⟩ := K_pr g13 (10 + s) 10 6 (60 + s) Ra_13 (by rw [Ca_13]; rfl) Rm_13 (by rw [Cm_13]; exact (by decide : (50 : Nat) ≠ 0))
  have Z14 : szL _ _ H H14 := szL.tr Z13 (a1 := 0) (b1 := 0) z14 l14
  clear z14 l14 Z13
  have Cs_14 : c14 (2) = y := (o14 (2) (by omega)).trans Cs_13
  have Cp_14 : c14 (20 + s) = oC 38 (8) := (o14 (20 + s) (by omega)).trans Cp_13
  have Cd_14 : c14 (405 + 6 * s) = ntC (445 + 6 * s) := (o14 (405 + 6 * s) (by omega)).trans Cd_13
  have Ce_14 : c14 (445 + 6 * s) = oC 21 31 := (o14 (445 + 6 * s) (by omega)).trans Ce_13
  have Ch_14 : c14 (50 + s) = oC 20 (16) := (o14 (50 + s) (by omega)).trans Ch_13
  have Cn_14 : c14 (30 + s) = oC 36 (sw) := (o14 (30 + s) (by omega)).trans Cn_13
  have Cm_14 : c14 (60 + s) = maO (80 + 5 * s) sw := (o14 (60 + s) (by omega)).trans Cm_13
  clear Cs_13 Cp_13 Cd_13 Ce_13 Ch_13 Cn_13 Cm_13
  have Ca_14 : c14 (10 + s) = cPr (cPr (cPi (cPi (cPr (cPr (cPr (cPr (oC 11 0) 1002 (some (20 + s))) 1005 (some (405 + 6 * s))) 1009 (some (50 + s))) 1000 (some (2))) 1001 (nI s)) 1003 (nI s + 1)) 1004 (some (30 + s))) 1006 (some (60 + s)) := by rw [vv14, Ca_13]
  rw [bd_s e14]
  obtain ⟨ρ15, c15, H15, e15, g15, x15, vv15, vw15, o15, r15, z15, l15⟩ := K_ma g14 (70 + s) (110 + 5 * s) sw (by rw [o14 (70 + s) (by omega), o13 (70 + s) (by omega) (by omega), o12 (70 + s) (by omega), o11 (70 + s) (by omega), o10 (70 + s) (by omega), o9 (70 + s) (by omega), o8 (70 + s) (by omega), o7 (70 + s) (by omega), o6 (70 + s) (by omega), o5 (70 + s) (by omega), o4 (70 + s) (by omega) (by omega), o3 (70 + s) (by omega), o2 (70 + s) (by omega), o1 (70 + s) (by omega)]; exact (hf _ (by unfold regS; omega) (by omega))) (fun x h1 h2 => by rw [o14 x (by omega), o13 x (by omega) (by omega), o12 x (by omega), o11 x (by omega), o10 x (by omega), o9 x (by omega), o8 x (by omega), o7 x (by omega), o6 x (by omega), o5 x (by omega), o4 x (by omega) (by omega), o3 x (by omega), o2 x (by omega), o1 x (by omega)]; exact hf x (by unfold regS; omega) (by omega)) (by omega) (by omega)
  have z15 : h_sz H15 = h_sz H14 + (1 + sw) := by rw [z15, Nat.add_assoc]
  have l15 : h_sl H15 = h_sl H14 + (sw + sw * sw) := by rw [l15, Nat.add_assoc]
  have Z15 : szL _ _ H H15 := szL.tr Z14 z15 l15
  clear z15 l15 Z14
  have Ca_15 : c15 (10 + s) = cPr (cPr (cPi (cPi (cPr (cPr (cPr (cPr (oC 11 0) 1002 (some (20 + s))) 1005 (some (405 + 6 * s))) 1009 (some (50 + s))) 1000 (some (2))) 1001 (nI s)) 1003 (nI s + 1)) 1004 (some (30 + s))) 1006 (some (60 + s)) := (o15 (10 + s) (by omega) (by omega)).trans Ca_14
  have Cs_15 : c15 (2) = y := (o15 (2) (by omega) (by omega)).trans Cs_14
  have Cp_15 : c15 (20 + s) = oC 38 (8) := (o15 (20 + s) (by omega) (by omega)).trans Cp_14
  have Cd_15 : c15 (405 + 6 * s) = ntC (445 + 6 * s) := (o15 (405 + 6 * s) (by omega) (by omega)).trans Cd_14
  have Ce_15 : c15 (445 + 6 * s) = oC 21 31 := (o15 (445 + 6 * s) (by omega) (by omega)).trans Ce_14
  have Ch_15 : c15 (50 + s) = oC 20 (16) := (o15 (50 + s) (by omega) (by omega)).trans Ch_14
  have Cn_15 : c15 (30 + s) = oC 36 (sw) := (o15 (30 + s) (by omega) (by omega)).trans Cn_14
  have Cm_15 : c15 (60 + s) = maO (80 + 5 * s) sw := (o15 (60 + s) (by omega) (by omega)).trans Cm_14
  have Ra_15 : rE (ρ15 (10 + s)) (α) := (x15 (10 + s) (by rw [Ca_14]; exact (by decide : (11 : Nat) ≠ 0))).1.trans Ra_13
  have Rs_15 : rE (ρ15 (2)) (β) := (x15 (2) (by rw [Cs_14]; rw [hy]; decide)).1.trans Rs_13
  have Rp_15 : rE (ρ15 (20 + s)) (h_sz H) := (x15 (20 + s) (by rw [Cp_14]; exact (by decide : (38 : Nat) ≠ 0))).1.trans Rp_13
  have Rd_15 : rE (ρ15 (405 + 6 * s)) (h_sz H2) := (x15 (405 + 6 * s) (by rw [Cd_14]; exact (by decide : (7 : Nat) ≠ 0))).1.trans Rd_13
  have Rh_15 : rE (ρ15 (50 + s)) (h_sz H5) := (x15 (50 + s) (by rw [Ch_14]; exact (by decide : (20 : Nat) ≠ 0))).1.trans Rh_13
  have Rn_15 : rE (ρ15 (30 + s)) (h_sz H10) := (x15 (30 + s) (by rw [Cn_14]; exact (by decide : (36 : Nat) ≠ 0))).1.trans Rn_13
  have Rm_15 : rE (ρ15 (60 + s)) (h_sz H12) := (x15 (60 + s) (by rw [Cm_14]; exact (by decide : (50 : Nat) ≠ 0))).1.trans Rm_13
  clear Ca_14 Cs_14 Cp_14 Cd_14 Ce_14 Ch_14 Cn_14 Cm_14 Ra_13 Rs_13 Rp_13 Rd_13 Rh_13 Rn_13 Rm_13
  have Cw_15 : c15 (70 + s) = maO (110 + 5 * s) sw := vv15
  have Rw_15 : rE (ρ15 (70 + s)) (h_sz H14) := r15
  clear r15
  rw [bd_s e15]
  obtain ⟨c16, H16, e16, g16, x16, vv16, o16, z16, l16⟩ := K_pr g15 (10 + s) 10 7 (70 + s) Ra_15 (by rw [Ca_15]; rfl) Rw_15 (by rw [Cw_15]; exact (by decide : (50 : Nat) ≠ 0))
  have Z16 : szL _ _ H H16 := szL.tr Z15 (a1 := 0) (b1 := 0) z16 l16
  clear z16 l16 Z15
  have Cs_16 : c16 (2) = y := (o16 (2) (by omega)).trans Cs_15
  have Cp_16 : c16 (20 + s) = oC 38 (8) := (o16 (20 + s) (by omega)).trans Cp_15
  have Cd_16 : c16 (405 + 6 * s) = ntC (445 + 6 * s) := (o16 (405 + 6 * s) (by omega)).trans Cd_15
  have Ce_16 : c16 (445 + 6 * s) = oC 21 31 := (o16 (445 + 6 * s) (by omega)).trans Ce_15
  have Ch_16 : c16 (50 + s) = oC 20 (16) := (o16 (50 + s) (by omega)).trans Ch_15
  have Cn_16 : c16 (30 + s) = oC 36 (sw) := (o16 (30 + s) (by omega)).trans Cn_15
  have Cm_16 : c16 (60 + s) = maO (80 + 5 * s) sw := (o16 (60 + s) (by omega)).trans Cm_15
  have Cw_16 : c16 (70 + s) = maO (110 + 5 * s) sw := (o16 (70 + s) (by omega)).trans Cw_15
  clear Cs_15 Cp_15 Cd_15 Ce_15 Ch_15 Cn_15 Cm_15 Cw_15
  have Ca_16 : c16 (10 + s) = cPr (cPr (cPr (cPi (cPi (cPr (cPr (cPr (cPr (oC 11 0) 1002 (some (20 + s))) 1005 (some (405 + 6 * s))) 1009 (some (50 + s))) 1000 (some (2))) 1001 (nI s)) 1003 (nI s + 1)) 1004 (some (30 + s))) 1006 (some (60 + s))) 1007 (some (70 + s)) := by rw [vv16, Ca_15]
  rw [bd_s e16]
  obtain ⟨ρ17, c17, H17, e17, g17, x17, vv17, o17, r17, z17, l17⟩ := K_na g16 (40 + s) 20 (sw) (v := nI sw) (by rw [o16 (40 + s) (by omega), o15 (40 + s) (by omega) (by omega), o14 (40 + s) (by omega), o13 (40 + s) (by omega) (by omega), o12 (40 + s) (by omega), o11 (40 + s) (by omega), o10 (40 + s) (by omega), o9 (40 + s) (by omega), o8 (40 + s) (by omega), o7 (40 + s) (by omega), o6 (40 + s) (by omega), o5 (40 + s) (by omega), o4 (40 + s) (by omega) (by omega), o3 (40 + s) (by omega), o2 (40 + s) (by omega), o1 (40 + s) (by omega)]; exact (hf _ (by unfold regS; omega) (by omega))) (by decide) ⟨⟨nI_pos (by omega), nI_clamp (by omega)⟩, by omega⟩
  have Z17 : szL _ _ H H17 := szL.tr Z16 z17 l17
  clear z17 l17 Z16
  have Ca_17 : c17 (10 + s) = cPr (cPr (cPr (cPi (cPi (cPr (cPr (cPr (cPr (oC 11 0) 1002 (some (20 + s))) 1005 (some (405 + 6 * s))) 1009 (some (50 + s))) 1000 (some (2))) 1001 (nI s)) 1003 (nI s + 1)) 1004 (some (30 + s))) 1006 (some (60 + s))) 1007 (some (70 + s)) := (o17 (10 + s) (by omega)).trans Ca_16
  have Cs_17 : c17 (2) = y := (o17 (2) (by omega)).trans Cs_16
  have Cp_17 : c17 (20 + s) = oC 38 (8) := (o17 (20 + s) (by omega)).trans Cp_16
  have Cd_17 : c17 (405 + 6 * s) = ntC (445 + 6 * s) := (o17 (405 + 6 * s) (by omega)).trans Cd_16
  have Ce_17 : c17 (445 + 6 * s) = oC 21 31 := (o17 (445 + 6 * s) (by omega)).trans Ce_16
  have Ch_17 : c17 (50 + s) = oC 20 (16) := (o17 (50 + s) (by omega)).trans Ch_16
  have Cn_17 : c17 (30 + s) = oC 36 (sw) := (o17 (30 + s) (by omega)).trans Cn_16
  have Cm_17 : c17 (60 + s) = maO (80 + 5 * s) sw := (o17 (60 + s) (by omega)).trans Cm_16
  have Cw_17 : c17 (70 + s) = maO (110 + 5 * s) sw := (o17 (70 + s) (by omega)).trans Cw_16
  have Ra_17 : rE (ρ17 (10 + s)) (α) := (x17 (10 + s) (by rw [Ca_16]; exact (by decide : (11 : Nat) ≠ 0))).1.trans Ra_15
  have Rs_17 : rE (ρ17 (2)) (β) := (x17 (2) (by rw [Cs_16]; rw [hy]; decide)).1.trans Rs_15
  have Rp_17 : rE (ρ17 (20 + s)) (h_sz H) := (x17 (20 + s) (by rw [Cp_16]; exact (by decide : (38 : Nat) ≠ 0))).1.trans Rp_15
  have Rd_17 : rE (ρ17 (405 + 6 * s)) (h_sz H2) := (x17 (405 + 6 * s) (by rw [Cd_16]; exact (by decide : (7 : Nat) ≠ 0))).1.trans Rd_15
  have Rh_17 : rE (ρ17 (50 + s)) (h_sz H5) := (x17 (50 + s) (by rw [Ch_16]; exact (by decide : (20 : Nat) ≠ 0))).1.trans Rh_15
  have Rn_17 : rE (ρ17 (30 + s)) (h_sz H10) := (x17 (30 + s) (by rw [Cn_16]; exact (by decide : (36 : Nat) ≠ 0))).1.trans Rn_15
  have Rm_17 : rE (ρ17 (60 + s)) (h_sz H12) := (x17 (60 + s) (by rw [Cm_16]; exact (by decide : (50 : Nat) ≠ 0))).1.trans Rm_15
  have Rw_17 : rE (ρ17 (70 + s)) (h_sz H14) := (x17 (70 + s) (by rw [Cw_16]; exact (by decide : (50 : Nat) ≠ 0))).1.trans Rw_15
  clear Ca_16 Cs_16 Cp_16 Cd_16 Ce_16 Ch_16 Cn_16 Cm_16 Cw_16 Ra_15 Rs_15 Rp_15 Rd_15 Rh_15 Rn_15 Rm_15 Rw_15
  have Cy_17 : c17 (40 + s) = oC 20 (sw) := vv17
  have Ry_17 : rE (ρ17 (40 + s)) (h_sz H16) := r17
  clear r17
  rw [bd_s e17]
  obtain ⟨c18, H18, e18, g18, x18, vv18, o18, z18, l18⟩ := K_pr g17 (10 + s) 10 8 (40 + s) Ra_17 (by rw [Ca_17]; rfl) Ry_17 (by rw [Cy_17]; exact (by decide : (20 : Nat) ≠ 0))
  have Z18 : szL _ _ H H18 := szL.tr Z17 (a1 := 0) (b1 := 0) z18 l18
  clear z18 l18 Z17
  have Cs_18 : c18 (2) = y := (o18 (2) (by omega)).trans Cs_17
  have Cp_18 : c18 (20 + s) = oC 38 (8) := (o18 (20 + s) (by omega)).trans Cp_17
  have Cd_18 : c18 (405 + 6 * s) = ntC (445 + 6 * s) := (o18 (405 + 6 * s) (by omega)).trans Cd_17
  have Ce_18 : c18 (445 + 6 * s) = oC 21 31 := (o18 (445 + 6 * s) (by omega)).trans Ce_17
  have Ch_18 : c18 (50 + s) = oC 20 (16) := (o18 (50 + s) (by omega)).trans Ch_17
  have Cn_18 : c18 (30 + s) = oC 36 (sw) := (o18 (30 + s) (by omega)).trans Cn_17
  have Cm_18 : c18 (60 + s) = maO (80 + 5 * s) sw := (o18 (60 + s) (by omega)).trans Cm_17
  have Cw_18 : c18 (70 + s) = maO (110 + 5 * s) sw := (o18 (70 + s) (by omega)).trans Cw_17
  have Cy_18 : c18 (40 + s) = oC 20 (sw) := (o18 (40 + s) (by omega)).trans Cy_17
  clear Cs_17 Cp_17 Cd_17 Ce_17 Ch_17 Cn_17 Cm_17 Cw_17 Cy_17
  have Ca_18 : c18 (10 + s) = cPr (cPr (cPr (cPr (cPi (cPi (cPr (cPr (cPr (cPr (oC 11 0) 1002 (some (20 + s))) 1005 (some (405 + 6 * s))) 1009 (some (50 + s))) 1000 (some (2))) 1001 (nI s)) 1003 (nI s + 1)) 1004 (some (30 + s))) 1006 (some (60 + s))) 1007 (some (70 + s))) 1008 (some (40 + s)) := by rw [vv18, Ca_17]
  rw [bd_s e18]
  have hm : sw * sw ≤ 5 * 5 := Nat.mul_le_mul h5 h5
  refine ⟨ρ17, c18, H18, rfl, g18, (((((((((((((((((x1).tr x2).tr x3).tr x4).tr x5).tr x6).tr x7).tr x8).tr x9).tr x10).tr x11).tr x12).tr x13).tr x14).tr x15).tr x16).tr x17).tr x18, ⟨Ca_18, Cp_18, Cd_18, Ce_18, Ch_18, Cn_18, Cm_18, Cw_18, Cy_18⟩, ⟨fun x h1 h2 => ((o18 x (by omega)).trans ((o17 x (by omega)).trans ((o16 x (by omega)).trans ((o15 x (by omega) (by omega)).trans (o14 x (by omega)))))).trans (vw13 x h1 h2), fun x h1 h2 => ((o18 x (by omega)).trans ((o17 x (by omega)).trans (o16 x (by omega)))).trans (vw15 x h1 h2)⟩, fun x hx => ?_, (Z18.le (a1 := 20) (b1 := 150) (by omega) (by omega)).1, (Z18.le (a1 := 20) (b1 := 150) (by omega) (by omega)).2⟩
  unfold regS at hx
  exact (o18 x (by omega)).trans ((o17 x (by omega)).trans ((o16 x (by omega)).trans ((o15 x (by omega) (by omega)).trans ((o14 x (by omega)).trans ((o13 x (by omega) (by omega)).trans ((o12 x (by omega)).trans ((o11 x (by omega)).trans ((o10 x (by omega)).trans ((o9 x (by omega)).trans ((o8 x (by omega)).trans ((o7 x (by omega)).trans ((o6 x (by omega)).trans ((o5 x (by omega)).trans ((o4 x (by omega) (by omega)).trans ((o3 x (by omega)).trans ((o2 x (by omega)).trans (o1 x (by omega))))))))))))))))))
end MK1
