/-! ===== the class's constructor (by program: genf8.py) ===== -/
/-- whose address x is -/
def own (x : Nat) : Nat := if x < 80 then x % 10 else if x < 110 then (x - 80) / 5 else if x < 140 then (x - 110) / 5 else if x < 250 then (x - 200) / 8 else if x < 300 then (x - 250) / 8 else if x < 400 then (x - 300) / 8 else if x < 440 then (x - 400) / 6 else (x - 440) / 6
theorem regS_own {sw s x : Nat} (hs : s < 5) (h5 : sw ≤ 5) (h : regS sw s x) : own x = s := by
  unfold regS at h
  unfold own
  rcases h with (rfl | rfl | rfl | rfl | rfl | rfl | rfl) | (h | h) | (h | h) | h | h | h <;> (repeat' split) <;> omega
theorem regS_10 {sw s x : Nat} (h : regS sw s x) : 10 ≤ x := by unfold regS at h; omega
theorem swF_keep {sw s : Nat} {c c' : Nat → cD} (h5 : sw ≤ 5) (h : swF sw s c) (hk : ∀ x, regS sw s x → c' x = c x) : swF sw s c' := by
  obtain ⟨⟨a1, a2, a3, a4, a5, a6, a7⟩, ⟨b1, b2⟩, b3, b4⟩ := h
  have R : ∀ x, regS sw s x → regS sw s x := fun _ q => q
  refine ⟨⟨?_, ?_, ?_, ?_, ?_, ?_, ?_⟩, ⟨fun j hj => ?_, fun j hj => ?_⟩, fun j hj => ?_, fun j hj => ?_⟩
  · rw [hk (10 + s) (by unfold regS; omega)]; exact a1
  · rw [hk (20 + s) (by unfold regS; omega)]; exact a2
  · rw [hk (30 + s) (by unfold regS; omega)]; exact a3
  · rw [hk (40 + s) (by unfold regS; omega)]; exact a4
  · rw [hk (50 + s) (by unfold regS; omega)]; exact a5
  · rw [hk (60 + s) (by unfold regS; omega)]; exact a6
  · rw [hk (70 + s) (by unfold regS; omega)]; exact a7
  · rw [hk (80 + 5 * s + j) (by unfold regS; omega)]; exact b1 j hj
  · rw [hk (110 + 5 * s + j) (by unfold regS; omega)]; exact b2 j hj
  · have : j < 6 := by rcases hj with q | q <;> omega
    rw [hk (400 + 6 * s + j) (by unfold regS; omega), hk (440 + 6 * s + j) (by unfold regS; omega)]; exact b3 j hj
  · rw [hk (200 + 8 * s + j) (by unfold regS; omega), hk (250 + 8 * s + j) (by unfold regS; omega), hk (300 + 8 * s + j) (by unfold regS; omega)]; exact b4 j hj
def regN (n x : Nat) : Prop := x = 140 + n ∨ x = 150 + n ∨ x = 160 + n ∨ x = 170 + n ∨ x = 240 + n ∨ x = 290 + n ∨ x = 340 + n
def noD (n : Nat) : cD := cPr (noC (240 + n) 2 (nI n)) 504 (some (150 + n))
def noF (nd n : Nat) (c : Nat → cD) : Prop := c (140 + n) = noD n ∧ c (150 + n) = hoC (170 + n) (160 + n) 2 (140 + n) ∧ c (170 + n) = oC 30 4 ∧ c (160 + n) = oC 20 nd ∧ c (240 + n) = poC (290 + n) (340 + n) 2 (16 + nI n) 0 ∧ c (290 + n) = oC 4 0 ∧ c (340 + n) = oC 4 0
theorem noF_keep {nd n : Nat} {c c' : Nat → cD} (h : noF nd n c) (hk : ∀ x, regN n x → c' x = c x) : noF nd n c' := by
  obtain ⟨a1, a2, a3, a4, a5, a6, a7⟩ := h
  refine ⟨?_, ?_, ?_, ?_, ?_, ?_, ?_⟩
  · rw [hk _ (by unfold regN; omega)]; exact a1
  · rw [hk _ (by unfold regN; omega)]; exact a2
  · rw [hk _ (by unfold regN; omega)]; exact a3
  · rw [hk _ (by unfold regN; omega)]; exact a4
  · rw [hk _ (by unfold regN; omega)]; exact a5
  · rw [hk _ (by unfold regN; omega)]; exact a6
  · rw [hk _ (by unfold regN; omega)]; exact a7
section MK3
variable {sw nd rm α : Nat} {v1 v2 v3 : Int32}
def faA : cD := cPr (cPr (cPr (cPr (cPr (oC 12 0) 1103 (some (5))) 1104 (some (6))) 1106 (some (7))) 1100 (some (2))) 1101 (some (8))
theorem F7a {ρ : Nat → Nat} {c : Nat → cD} {H : hM} (g : rc ρ c H) (p1 : prm v1 5 sw) (p2 : prm v2 8 nd) (p3 : prm v3 4 rm) (Ca : c 1 = oC 12 0) (Ra : ρ 1 = α) (hf : ∀ x, x ≠ 1 → (c x).1.1 = 0) : ∃ ρ' c' H', b7_0 α v1 v2 v3 H = some (.inr (109, [.inr (.inr (some α)), .inl (nI sw), .inl (nI nd), .inl (0 : Int32)], H')) ∧ rc ρ' c' H' ∧ gx ρ c ρ' c' ∧ (c' 1 = faA ∧ c' 2 = shC (nI sw) (nI nd) (nI rm) ∧ c' 3 = oC 20 9 ∧ c' 4 = oC 20 8 ∧ c' 5 = oC 38 16 ∧ c' 6 = oC 38 16 ∧ c' 7 = oC 30 300 ∧ c' 8 = oC 40 sw) ∧ (∀ x, 9 ≤ x ∨ x = 0 → c' x = c x) ∧ h_sz H' ≤ h_sz H + 10 ∧ h_sl H' ≤ h_sl H + 400 := by
  have h5 : sw ≤ 5 := p1.1.2
  have h8 : nd ≤ 8 := p2.1.2
  unfold b7_0
  have Z0 : szL 0 0 H H := ⟨rfl, rfl⟩
  obtain ⟨ρ1, c1, H1, e1, g1, x1, vv1, o1, r1, z1, l1⟩ := K_na g (5) 38 (16) (v := 16) (hf 5 (by omega)) (by decide) (by decide)
  have Z1 : szL _ _ H H1 := szL.tr Z0 z1 l1
  clear z1 l1 Z0
  have Ca_1 : c1 (1) = oC 12 0 := (o1 (1) (by omega)).trans Ca
  have Ra_1 : rE (ρ1 (1)) (α) := (x1 (1) (by rw [Ca]; exact (by decide : (12 : Nat) ≠ 0))).1.trans Ra
  clear Ca Ra
  have Ce_1 : c1 (5) = oC 38 (16) := vv1
  have Re_1 : rE (ρ1 (5)) (h_sz H) := r1
  clear r1
  rw [bd_s e1]
  obtain ⟨c2, H2, e2, g2, x2, vv2, o2, z2, l2⟩ := K_pr g1 (1) 11 3 (5) Ra_1 (by rw [Ca_1]; rfl) Re_1 (by rw [Ce_1]; exact (by decide : (38 : Nat) ≠ 0))
  have Z2 : szL _ _ H H2 := szL.tr Z1 (a1 := 0) (b1 := 0) z2 l2
  clear z2 l2 Z1
  have Ce_2 : c2 (5) = oC 38 (16) := (o2 (5) (by omega)).trans Ce_1
  clear Ce_1
  have Ca_2 : c2 (1) = cPr (oC 12 0) 1103 (some (5)) := by rw [vv2, Ca_1]
  rw [bd_s e2]
  obtain ⟨ρ3, c3, H3, e3, g3, x3, vv3, o3, r3, z3, l3⟩ := K_na g2 (6) 38 (16) (v := 16) (by rw [o2 (6) (by omega), o1 (6) (by omega)]; exact (hf 6 (by omega))) (by decide) (by decide)
  have Z3 : szL _ _ H H3 := szL.tr Z2 z3 l3
  clear z3 l3 Z2
  have Ca_3 : c3 (1) = cPr (oC 12 0) 1103 (some (5)) := (o3 (1) (by omega)).trans Ca_2
  have Ce_3 : c3 (5) = oC 38 (16) := (o3 (5) (by omega)).trans Ce_2
  have Ra_3 : rE (ρ3 (1)) (α) := (x3 (1) (by rw [Ca_2]; exact (by decide : (12 : Nat) ≠ 0))).1.trans Ra_1
  have Re_3 : rE (ρ3 (5)) (h_sz H) := (x3 (5) (by rw [Ce_2]; exact (by decide : (38 : Nat) ≠ 0))).1.trans Re_1
  clear Ca_2 Ce_2 Ra_1 Re_1
  have Cf_3 : c3 (6) = oC 38 (16) := vv3
  have Rf_3 : rE (ρ3 (6)) (h_sz H2) := r3
  clear r3
  rw [bd_s e3]
  obtain ⟨c4, H4, e4, g4, x4, vv4, o4, z4, l4⟩ := K_pr g3 (1) 11 4 (6) Ra_3 (by rw [Ca_3]; rfl) Rf_3 (by rw [Cf_3]; exact (by decide : (38 : Nat) ≠ 0))
  have Z4 : szL _ _ H H4 := szL.tr Z3 (a1 := 0) (b1 := 0) z4 l4
  clear z4 l4 Z3
  have Ce_4 : c4 (5) = oC 38 (16) := (o4 (5) (by omega)).trans Ce_3
  have Cf_4 : c4 (6) = oC 38 (16) := (o4 (6) (by omega)).trans Cf_3
  clear Ce_3 Cf_3
  have Ca_4 : c4 (1) = cPr (cPr (oC 12 0) 1103 (some (5))) 1104 (some (6)) := by rw [vv4, Ca_3]
  rw [bd_s e4]
  obtain ⟨ρ5, c5, H5, e5, g5, x5, vv5, o5, r5, z5, l5⟩ := K_na g4 (7) 30 (300) (v := 300) (by rw [o4 (7) (by omega), o3 (7) (by omega), o2 (7) (by omega), o1 (7) (by omega)]; exact (hf 7 (by omega))) (by decide) (by decide)
  have Z5 : szL _ _ H H5 := szL.tr Z4 z5 l5
  clear z5 l5 Z4
  have Ca_5 : c5 (1) = cPr (cPr (oC 12 0) 1103 (some (5))) 1104 (some (6)) := (o5 (1) (by omega)).trans Ca_4
  have Ce_5 : c5 (5) = oC 38 (16) := (o5 (5) (by omega)).trans Ce_4
  have Cf_5 : c5 (6) = oC 38 (16) := (o5 (6) (by omega)).trans Cf_4
  have Ra_5 : rE (ρ5 (1)) (α) := (x5 (1) (by rw [Ca_4]; exact (by decide : (12 : Nat) ≠ 0))).1.trans Ra_3
  have Re_5 : rE (ρ5 (5)) (h_sz H) := (x5 (5) (by rw [Ce_4]; exact (by decide : (38 : Nat) ≠ 0))).1.trans Re_3
  have Rf_5 : rE (ρ5 (6)) (h_sz H2) := (x5 (6) (by rw [Cf_4]; exact (by decide : (38 : Nat) ≠ 0))).1.trans Rf_3
  clear Ca_4 Ce_4 Cf_4 Ra_3 Re_3 Rf_3
  have Ck_5 : c5 (7) = oC 30 (300) := vv5
  have Rk_5 : rE (ρ5 (7)) (h_sz H4) := r5
  clear r5
  rw [bd_s e5]
  obtain ⟨c6, H6, e6, g6, x6, vv6, o6, z6, l6⟩ := K_pr g5 (1) 11 6 (7) Ra_5 (by rw [Ca_5]; rfl) Rk_5 (by rw [Ck_5]; exact (by decide : (30 : Nat) ≠ 0))
  have Z6 : szL _ _ H H6 := szL.tr Z5 (a1 := 0) (b1 := 0) z6 l6
  clear z6 l6 Z5
  have Ce_6 : c6 (5) = oC 38 (16) := (o6 (5) (by omega)).trans Ce_5
  have Cf_6 : c6 (6) = oC 38 (16) := (o6 (6) (by omega)).trans Cf_5
  have Ck_6 : c6 (7) = oC 30 (300) := (o6 (7) (by omega)).trans Ck_5
  clear Ce_5 Cf_5 Ck_5
  have Ca_6 : c6 (1) = cPr (cPr (cPr (oC 12 0) 1103 (some (5))) 1104 (some (6))) 1106 (some (7)) := by rw [vv6, Ca_5]
  rw [bd_s e6]
  have E1 : (if v1 < (1 : Int32) then (b7_46 α v2 v3 H6) else (if (5 : Int32) < v1 then (b7_46 α v2 v3 H6) else (b7_47 α v2 v3 v1 H6))) = b7_47 α v2 v3 (nI sw) H6 := prm_if (f := fun q => b7_47 α v2 v3 q H6) p1 (w := (5 : Int32)) rfl
  rw [E1]
  unfold b7_47
  have E2 : (if v2 < (1 : Int32) then (b7_64 α v3 (nI sw) H6) else (if (8 : Int32) < v2 then (b7_64 α v3 (nI sw) H6) else (b7_65 α v3 (nI sw) v2 H6))) = b7_65 α v3 (nI sw) (nI nd) H6 := prm_if (f := fun q => b7_65 α v3 (nI sw) q H6) p2 (w := (8 : Int32)) rfl
  rw [E2]
  unfold b7_65
  obtain ⟨ρ7, c7, H7, e7, g7, x7, vv7, o7, r7, z7, l7⟩ := K_no g6 (2) 9 8 (by rw [o6 (2) (by omega), o5 (2) (by omega), o4 (2) (by omega), o3 (2) (by omega), o2 (2) (by omega), o1 (2) (by omega)]; exact (hf 2 (by omega)))
  have Z7 : szL _ _ H H7 := szL.tr Z6 z7 l7
  clear z7 l7 Z6
  have Ca_7 : c7 (1) = cPr (cPr (cPr (oC 12 0) 1103 (some (5))) 1104 (some (6))) 1106 (some (7)) := (o7 (1) (by omega)).trans Ca_6
  have Ce_7 : c7 (5) = oC 38 (16) := (o7 (5) (by omega)).trans Ce_6
  have Cf_7 : c7 (6) = oC 38 (16) := (o7 (6) (by omega)).trans Cf_6
  have Ck_7 : c7 (7) = oC 30 (300) := (o7 (7) (by omega)).trans Ck_6
  have Ra_7 : rE (ρ7 (1)) (α) := (x7 (1) (by rw [Ca_6]; exact (by decide : (12 : Nat) ≠ 0))).1.trans Ra_5
  have Re_7 : rE (ρ7 (5)) (h_sz H) := (x7 (5) (by rw [Ce_6]; exact (by decide : (38 : Nat) ≠ 0))).1.trans Re_5
  have Rf_7 : rE (ρ7 (6)) (h_sz H2) := (x7 (6) (by rw [Cf_6]; exact (by decide : (38 : Nat) ≠ 0))).1.trans Rf_5
  have Rk_7 : rE (ρ7 (7)) (h_sz H4) := (x7 (7) (by rw [Ck_6]; exact (by decide : (30 : Nat) ≠ 0))).1.trans Rk_5
  clear Ca_6 Ce_6 Cf_6 Ck_6 Ra_5 Re_5 Rf_5 Rk_5
  have Cs_7 : c7 (2) = oC 10 0 := vv7
  have Rs_7 : rE (ρ7 (2)) (h_sz H6) := r7
  clear r7
  rw [bd_s e7]
  have E3 : (if v3 < (1 : Int32) then (b7_90 α (nI sw) (nI nd) (nI nd) (nI sw) (some (h_sz H6)) (some (h_sz H6)) (some α) H7) else (if (4 : Int32) < v3 then (b7_90 α (nI sw) (nI nd) (nI nd) (nI sw) (some (h_sz H6)) (some (h_sz H6)) (some α) H7) else (b7_91 α (nI sw) (nI nd) v3 (nI nd) (nI sw) (some (h_sz H6)) (some (h_sz H6)) (some α) H7))) = b7_91 α (nI sw) (nI nd) (nI rm) (nI nd) (nI sw) (some (h_sz H6)) (some (h_sz H6)) (some α) H7 := prm_if (f := fun q => b7_91 α (nI sw) (nI nd) q (nI nd) (nI sw) (some (h_sz H6)) (some (h_sz H6)) (some α) H7) p3 (w := (4 : Int32)) rfl
  rw [E3]
  unfold b7_91
  rw [bd_s (show g_o H7 9 (some (h_sz H6)) = some (h_sz H6) by rw [← show ρ7 2 = h_sz H6 from Rs_7]; exact if_pos ((g7.2.1 2 (by rw [Cs_7]; decide)).2.1.trans (by rw [Cs_7]; rfl)))]
  obtain ⟨ρ8, c8, H8, e8, g8, x8, u8s, u8t, u8u, o8, z8, l8⟩ := Fs0 (p1 := nI sw) (p2 := nI nd) (p3 := nI rm) g7 Cs_7 Rs_7 (by rw [o7 (3) (by omega), o6 (3) (by omega), o5 (3) (by omega), o4 (3) (by omega), o3 (3) (by omega), o2 (3) (by omega), o1 (3) (by omega)]; exact (hf 3 (by omega))) (by rw [o7 (4) (by omega), o6 (4) (by omega), o5 (4) (by omega), o4 (4) (by omega), o3 (4) (by omega), o2 (4) (by omega), o1 (4) (by omega)]; exact (hf 4 (by omega)))
  have Z8 : szL _ _ H H8 := szL.tr Z7 z8 l8
  clear z8 l8 Z7
  have Ca_8 : c8 (1) = cPr (cPr (cPr (oC 12 0) 1103 (some (5))) 1104 (some (6))) 1106 (some (7)) := (o8 (1) (by omega) (by omega) (by omega)).trans Ca_7
  have Ce_8 : c8 (5) = oC 38 (16) := (o8 (5) (by omega) (by omega) (by omega)).trans Ce_7
  have Cf_8 : c8 (6) = oC 38 (16) := (o8 (6) (by omega) (by omega) (by omega)).trans Cf_7
  have Ck_8 : c8 (7) = oC 30 (300) := (o8 (7) (by omega) (by omega) (by omega)).trans Ck_7
  have Ra_8 : rE (ρ8 (1)) (α) := (x8 (1) (by rw [Ca_7]; exact (by decide : (12 : Nat) ≠ 0))).1.trans Ra_7
  have Re_8 : rE (ρ8 (5)) (h_sz H) := (x8 (5) (by rw [Ce_7]; exact (by decide : (38 : Nat) ≠ 0))).1.trans Re_7
  have Rf_8 : rE (ρ8 (6)) (h_sz H2) := (x8 (6) (by rw [Cf_7]; exact (by decide : (38 : Nat) ≠ 0))).1.trans Rf_7
  have Rk_8 : rE (ρ8 (7)) (h_sz H4) := (x8 (7) (by rw [Ck_7]; exact (by decide : (30 : Nat) ≠ 0))).1.trans Rk_7
  have Rs_8 : rE (ρ8 (2)) (h_sz H6) := (x8 (2) (by rw [Cs_7]; exact (by decide : (10 : Nat) ≠ 0))).1.trans Rs_7
  clear Ca_7 Ce_7 Cf_7 Ck_7 Ra_7 Re_7 Rf_7 Rk_7 Rs_7
  have Cs_8 : c8 (2) = shC (nI sw) (nI nd) (nI rm) := u8s
  have Ct_8 : c8 (3) = oC 20 9 := u8t
  have Cu_8 : c8 (4) = oC 20 8 := u8u
  rw [bd_s (c_V_of e8)]
  obtain ⟨c9, H9, e9, g9, x9, vv9, o9, z9, l9⟩ := K_pr g8 (1) 11 0 (2) Ra_8 (by rw [Ca_8]; rfl) Rs_8 (by rw [Cs_8]; exact (by decide : (10 : Nat) ≠ 0))
  have Z9 : szL _ _ H H9 := szL.tr Z8 (a1 := 0) (b1 := 0) z9 l9
  clear z9 l9 Z8
  have Ce_9 : c9 (5) = oC 38 (16) := (o9 (5) (by omega)).trans Ce_8
  have Cf_9 : c9 (6) = oC 38 (16) := (o9 (6) (by omega)).trans Cf_8
  have Ck_9 : c9 (7) = oC 30 (300) := (o9 (7) (by omega)).trans Ck_8
  have Cs_9 : c9 (2) = shC (nI sw) (nI nd) (nI rm) := (o9 (2) (by omega)).trans Cs_8
  have Ct_9 : c9 (3) = oC 20 9 := (o9 (3) (by omega)).trans Ct_8
  have Cu_9 : c9 (4) = oC 20 8 := (o9 (4) (by omega)).trans Cu_8
  clear Ce_8 Cf_8 Ck_8 Cs_8 Ct_8 Cu_8
  have Ca_9 : c9 (1) = cPr (cPr (cPr (cPr (oC 12 0) 1103 (some (5))) 1104 (some (6))) 1106 (some (7))) 1100 (some (2)) := by rw [vv9, Ca_8]
  rw [bd_s e9]
  obtain ⟨ρ10, c10, H10, e10, g10, x10, vv10, o10, r10, z10, l10⟩ := K_na g9 (8) 40 (sw) (v := nI sw) (by rw [o9 (8) (by omega), o8 (8) (by omega) (by omega) (by omega), o7 (8) (by omega), o6 (8) (by omega), o5 (8) (by omega), o4 (8) (by omega), o3 (8) (by omega), o2 (8) (by omega), o1 (8) (by omega)]; exact (hf 8 (by omega))) (by decide) ⟨⟨nI_pos (by omega), nI_clamp (by omega)⟩, by omega⟩
  have Z10 : szL _ _ H H10 := szL.tr Z9 z10 l10
  clear z10 l10 Z9
  have Ca_10 : c10 (1) = cPr (cPr (cPr (cPr (oC 12 0) 1103 (some (5))) 1104 (some (6))) 1106 (some (7))) 1100 (some (2)) := (o10 (1) (by omega)).trans Ca_9
  have Ce_10 : c10 (5) = oC 38 (16) := (o10 (5) (by omega)).trans Ce_9
  have Cf_10 : c10 (6) = oC 38 (16) := (o10 (6) (by omega)).trans Cf_9
  have Ck_10 : c10 (7) = oC 30 (300) := (o10 (7) (by omega)).trans Ck_9
  have Cs_10 : c10 (2) = shC (nI sw) (nI nd) (nI rm) := (o10 (2) (by omega)).trans Cs_9
  have Ct_10 : c10 (3) = oC 20 9 := (o10 (3) (by omega)).trans Ct_9
  have Cu_10 : c10 (4) = oC 20 8 := (o10 (4) (by omega)).trans Cu_9
  have Ra_10 : rE (ρ10 (1)) (α) := (x10 (1) (by rw [Ca_9]; exact (by decide : (12 : Nat) ≠ 0))).1.trans Ra_8
  have Re_10 : rE (ρ10 (5)) (h_sz H) := (x10 (5) (by rw [Ce_9]; exact (by decide : (38 : Nat) ≠ 0))).1.trans Re_8
  have Rf_10 : rE (ρ10 (6)) (h_sz H2) := (x10 (6) (by rw [Cf_9]; exact (by decide : (38 : Nat) ≠ 0))).1.trans Rf_8
  have Rk_10 : rE (ρ10 (7)) (h_sz H4) := (x10 (7) (by rw [Ck_9]; exact (by decide : (30 : Nat) ≠ 0))).1.trans Rk_8
  have Rs_10 : rE (ρ10 (2)) (h_sz H6) := (x10 (2) (by rw [Cs_9]; exact (by decide : (10 : Nat) ≠ 0))).1.trans Rs_8
  clear Ca_9 Ce_9 Cf_9 Ck_9 Cs_9 Ct_9 Cu_9 Ra_8 Re_8 Rf_8 Rk_8 Rs_8
  have Cw_10 : c10 (8) = oC 40 (sw) := vv10
  have Rw_10 : rE (ρ10 (8)) (h_sz H9) := r10
  clear r10
  rw [bd_s e10]
  obtain ⟨c11, H11, e11, g11, x11, vv11, o11, z11, l11⟩ := K_pr g10 (1) 11 1 (8) Ra_10 (by rw [Ca_10]; rfl) Rw_10 (by rw [Cw_10]; exact (by decide : (40 : Nat) ≠ 0))
  have Z11 : szL _ _ H H11 := szL.tr Z10 (a1 := 0) (b1 := 0) z11 l11
  clear z11 l11 Z10
  have Ce_11 : c11 (5) = oC 38 (16) := (o11 (5) (by omega)).trans Ce_10
  have Cf_11 : c11 (6) = oC 38 (16) := (o11 (6) (by omega)).trans Cf_10
  have Ck_11 : c11 (7) = oC 30 (300) := (o11 (7) (by omega)).trans Ck_10
  have Cs_11 : c11 (2) = shC (nI sw) (nI nd) (nI rm) := (o11 (2) (by omega)).trans Cs_10
  have Ct_11 : c11 (3) = oC 20 9 := (o11 (3) (by omega)).trans Ct_10
  have Cu_11 : c11 (4) = oC 20 8 := (o11 (4) (by omega)).trans Cu_10
  have Cw_11 : c11 (8) = oC 40 (sw) := (o11 (8) (by omega)).trans Cw_10
  clear Ce_10 Cf_10 Ck_10 Cs_10 Ct_10 Cu_10 Cw_10
  have Ca_11 : c11 (1) = cPr (cPr (cPr (cPr (cPr (oC 12 0) 1103 (some (5))) 1104 (some (6))) 1106 (some (7))) 1100 (some (2))) 1101 (some (8)) := by rw [vv11, Ca_10]
  rw [bd_s e11]
  exact ⟨ρ10, c11, H11, rfl, g11, ((((((((((x1).tr x2).tr x3).tr x4).tr x5).tr x6).tr x7).tr x8).tr x9).tr x10).tr x11, ⟨Ca_11, Cs_11, Ct_11, Cu_11, Ce_11, Cf_11, Ck_11, Cw_11⟩, fun x hx => (o11 x (by omega)).trans ((o10 x (by omega)).trans ((o9 x (by omega)).trans ((o8 x (by omega) (by omega) (by omega)).trans ((o7 x (by omega)).trans ((o6 x (by omega)).trans ((o5 x (by omega)).trans ((o4 x (by omega)).trans ((o3 x (by omega)).trans ((o2 x (by omega)).trans (o1 x (by omega))))))))))), (Z11.le (a1 := 10) (b1 := 400) (by omega) (by omega)).1, (Z11.le (a1 := 10) (b1 := 400) (by omega) (by omega)).2⟩
theorem L109 {ND : Int32} (h1 : 1 ≤ sw) (h5 : sw ≤ 5) {y : cD} (hy : y = shC (nI sw) (nI nd) (nI rm)) : ∀ d r (ρ : Nat → Nat) (c : Nat → cD) (H : hM) g, r + d = sw → rc ρ c H → ρ 1 = α → c 1 = faA → c 2 = y → c 8 = raC 40 sw (pf 10 r) → (∀ s, s < r → swF sw s c) → (∀ x, 9 ≤ x → (∀ s, s < r → ¬ regS sw s x) → c x = oC 0 0) →
    ∃ ρ' c' H', drive k7 (g + d + 1) 109 [.inr (.inr (some α)), .inl (nI sw), .inl ND, .inl (nI r)] H = drive k7 (g + 1) 109 [.inr (.inr (some α)), .inl (nI sw), .inl ND, .inl (nI sw)] H' ∧ rc ρ' c' H' ∧ gx ρ c ρ' c' ∧ c' 8 = raC 40 sw (pf 10 sw) ∧ (∀ s, s < sw → swF sw s c') ∧ (∀ x, x < 8 → c' x = c x) ∧ (∀ x, 9 ≤ x → (∀ s, s < sw → ¬ regS sw s x) → c' x = oC 0 0) ∧ h_sz H' ≤ h_sz H + 61 * d ∧ h_sl H' ≤ h_sl H + 611 * d := by
  intro d
  induction d with
  | zero =>
    intro r ρ c H g hr hg Ra Ca Cs C8 hS hf
    have e : r = sw := by omega
    subst e
    exact ⟨ρ, c, H, rfl, hg, gx.rf, C8, hS, fun _ _ => rfl, hf, by omega, by omega⟩
  | succ d ih =>
    intro r ρ c H g hr hg Ra Ca Cs C8 hS hf
    have hr2 : r < sw := by omega
    have t1 : (c 1).1.1 ≠ 0 := by rw [Ca]; exact (by decide : (12 : Nat) ≠ 0)
    have t2 : (c 2).1.1 ≠ 0 := by rw [Cs, hy]; exact (by decide : (10 : Nat) ≠ 0)
    have t8 : (c 8).1.1 ≠ 0 := by rw [C8]; exact (by decide : (40 : Nat) ≠ 0)
    have q1 : g_r H 11 1 (some α) = some (some (ρ 8)) := by
      rw [O_gr hg 1 11 1 Ra (by rw [Ca]; rfl), Ca]; rfl
    have fr : ∀ x, regS sw r x → c x = oC 0 0 := fun x hx => hf x (by have := regS_10 hx; omega) (fun s hs q => by have a1 := regS_own (by omega) h5 hx; have a2 := regS_own (by omega) h5 q; omega)
    obtain ⟨ρ1, c1, H1, e1, g1, x1, v1, o1, r1, z1, l1⟩ := K_no hg (10 + r) 10 11 (by rw [fr _ (by unfold regS; omega)]; rfl)
    have Ra1 : ρ1 1 = α := (x1 1 t1).1.trans Ra
    have Ca1 : c1 1 = faA := (o1 1 (by omega)).trans Ca
    have q2 : g_r H1 11 0 (some α) = some (some (ρ1 2)) := by
      rw [O_gr g1 1 11 0 Ra1 (by rw [Ca1]; rfl), Ca1]; rfl
    obtain ⟨ρ2, c2, H2, e2, g2, x2, s2, o2, z2, l2⟩ := F6 (y := y) g1 hr2 h5 v1 r1 ((o1 2 (by omega)).trans Cs) (by rw [hy]; rfl) (by rw [hy]; rfl) rfl (fun x hx hn => by rw [o1 x hn, fr x hx]; rfl)
    have n10 : ∀ x, x < 10 → ¬ regS sw r x := fun x hx q => by have := regS_10 q; omega
    have C82 : c2 8 = raC 40 sw (pf 10 r) := (o2 8 (n10 8 (by omega))).trans ((o1 8 (by omega)).trans C8)
    have R82 : ρ2 8 = ρ 8 := ((x1.tr x2) 8 t8).1
    have Rn : ρ2 (10 + r) = h_sz H := ((x2 _ (by rw [v1]; exact (by decide : (11 : Nat) ≠ 0))).1).trans r1
    obtain ⟨c3, H3, e3, g3, x3, v3, o3, z3, l3⟩ := K_ar g2 8 10 r (10 + r) R82 (by rw [C82]; rfl) (by rw [C82]; exact hr2) (by omega) Rn (by rw [s2.1.1]; rfl)
    have st : k7 109 [.inr (.inr (some α)), .inl (nI sw), .inl ND, .inl (nI r)] H = some (.inr (109, [.inr (.inr (some α)), .inl (nI sw), .inl ND, .inl (nI (r + 1))], H3)) := by
      show b7_109 α (nI sw) ND (nI r) H = _
      unfold b7_109
      rw [if_neg (nI_ge hr2 (by omega)), bd_s q1, bd_s e1, bd_s q2, bd_s (c_V_of e2), bd_s e3, nI_1]
    have x13 := (x1.tr x2).tr x3
    have on : ∀ x, x ≠ 8 → ¬ regS sw r x → c3 x = c x := fun x h1 h2 => (o3 x h1).trans ((o2 x h2).trans (o1 x (fun e => h2 (by rw [e]; unfold regS; omega))))
    obtain ⟨ρ', c', H', y1, y2, y3, y4, y5, y6, y7, y8, y9⟩ := ih (r + 1) ρ2 c3 H3 g (by omega) g3 ((x13 1 t1).1.trans Ra) ((on 1 (by omega) (n10 1 (by omega))).trans Ca) ((on 2 (by omega) (n10 2 (by omega))).trans Cs) (by rw [v3, C82, raC_s]) (fun s hs => by
        by_cases e : s = r
        · subst e; exact swF_keep h5 s2 (fun x hx => o3 x (by have := regS_10 hx; omega))
        · exact swF_keep h5 (hS s (by omega)) (fun x hx => on x (by have := regS_10 hx; omega) (fun q => by have a1 := regS_own (by omega) h5 hx; have a2 := regS_own (by omega) h5 q; omega)))
      (fun x hx hn => by rw [on x (by omega) (hn r (by omega))]; exact hf x hx (fun s hs => hn s (by omega)))
    refine ⟨ρ', c', H', ?_, y2, x13.tr y3, y4, y5, fun x hx => (y6 x hx).trans (on x (by omega) (n10 x (by omega))), y7, by omega, by omega⟩
    rw [show g + (d + 1) + 1 = (g + d + 1) + 1 by omega, dr_go st]; exact y1
def faC : cD := cPr faA 1102 (some 9)
theorem L154 (h8 : nd ≤ 8) {y : cD} (hy : y = shC (nI sw) (nI nd) (nI rm)) : ∀ d r (ρ : Nat → Nat) (c : Nat → cD) (H : hM) g, r + d = nd → rc ρ c H → ρ 1 = α → c 1 = faC → c 2 = y → c 9 = raC 35 nd (pf 140 r) → (∀ n, n < r → noF nd n c) → (∀ n, r ≤ n → n < nd → ∀ x, regN n x → (c x).1.1 = 0) →
    ∃ ρ' c' H', drive k7 (g + d + 1) 154 [.inr (.inr (some α)), .inl (nI nd), .inl (nI r)] H = some (none, H') ∧ rc ρ' c' H' ∧ gx ρ c ρ' c' ∧ c' 9 = raC 35 nd (pf 140 nd) ∧ (∀ n, n < nd → noF nd n c') ∧ (∀ x, x ≠ 9 → (∀ n, r ≤ n → n < nd → ¬ regN n x) → c' x = c x) ∧ h_sz H' ≤ h_sz H + 10 * d ∧ h_sl H' ≤ h_sl H + 50 * d := by
  intro d
  induction d with
  | zero =>
    intro r ρ c H g hr hg Ra Ca Cs C9 hS hf
    have e : r = nd := by omega
    subst e
    refine ⟨ρ, c, H, ?_, hg, gx.rf, C9, hS, fun _ _ _ => rfl, by omega, by omega⟩
    refine dr_end (n := g) ?_
    show b7_154 α (nI r) (nI r) H = _
    unfold b7_154
    rw [if_pos (Int32.le_refl _)]
  | succ d ih =>
    intro r ρ c H g hr hg Ra Ca Cs C9 hS hf
    have hr2 : r < nd := by omega
    have t1 : (c 1).1.1 ≠ 0 := by rw [Ca]; exact (by decide : (12 : Nat) ≠ 0)
    have t2 : (c 2).1.1 ≠ 0 := by rw [Cs, hy]; exact (by decide : (10 : Nat) ≠ 0)
    have t9 : (c 9).1.1 ≠ 0 := by rw [C9]; exact (by decide : (35 : Nat) ≠ 0)
    have fr := hf r (Nat.le_refl _) hr2
    obtain ⟨ρ1, c1, H1, e1, g1, x1, v1, o1, r1, z1, l1⟩ := K_no hg (140 + r) 5 6 (fr _ (by unfold regN; omega))
    have Ra1 : ρ1 1 = α := (x1 1 t1).1.trans Ra
    have Ca1 : c1 1 = faC := (o1 1 (by omega)).trans Ca
    have q1 : g_r H1 11 0 (some α) = some (some (ρ1 2)) := by
      rw [O_gr g1 1 11 0 Ra1 (by rw [Ca1]; rfl), Ca1]; rfl
    have Cs1 : c1 2 = y := (o1 2 (by omega)).trans Cs
    obtain ⟨ρ2, c2, H2, e2, g2, x2, s2a, s2b, s2c, s2d, o2, z2, l2⟩ := F3 (v2 := nI r) (y := y) g1 (140 + r) (240 + r) (290 + r) (340 + r) 2 v1 r1 Cs1 (by rw [hy]; exact (by decide : (10 : Nat) ≠ 0)) rfl (by rw [o1 _ (by omega)]; exact fr _ (by unfold regN; omega)) (by rw [o1 _ (by omega)]; exact fr _ (by unfold regN; omega)) (by rw [o1 _ (by omega)]; exact fr _ (by unfold regN; omega)) (by omega)
    have x12 := x1.tr x2
    have o12 : ∀ x, x ≠ 140 + r → x ≠ 240 + r → x ≠ 290 + r → x ≠ 340 + r → c2 x = c x := fun x a b d e => (o2 x a b d e).trans (o1 x a)
    obtain ⟨ρ3, c3, H3, e3, g3, x3, v3, o3, r3, z3, l3⟩ := K_no g2 (150 + r) 4 6 (by rw [o12 _ (by omega) (by omega) (by omega) (by omega)]; exact fr _ (by unfold regN; omega))
    have x13 := x12.tr x3
    have o13 : ∀ x, x ≠ 140 + r → x ≠ 240 + r → x ≠ 290 + r → x ≠ 340 + r → x ≠ 150 + r → c3 x = c x := fun x a b d e f => (o3 x f).trans (o12 x a b d e)
    have Ra3 : ρ3 1 = α := (x13 1 t1).1.trans Ra
    have Ca3 : c3 1 = faC := (o13 1 (by omega) (by omega) (by omega) (by omega) (by omega)).trans Ca
    have q3 : g_r H3 11 0 (some α) = some (some (ρ3 2)) := by
      rw [O_gr g3 1 11 0 Ra3 (by rw [Ca3]; rfl), Ca3]; rfl
    have Cs3 : c3 2 = y := (o13 2 (by omega) (by omega) (by omega) (by omega) (by omega)).trans Cs
    have C14 : c3 (140 + r) = noC (240 + r) 2 (nI r) := (o3 _ (by omega)).trans s2a
    have R14 : ρ3 (140 + r) = h_sz H := ((x2.tr x3) _ (by rw [v1]; exact (by decide : (6 : Nat) ≠ 0))).1.trans r1
    obtain ⟨ρ4, c4, H4, e4, g4, x4, s4a, s4b, s4c, o4, z4, l4⟩ := F4 (nd := nd) (y := y) g3 (150 + r) (170 + r) (160 + r) 2 (140 + r) v3 r3 Cs3 (by rw [hy]; rfl) (by rw [hy]; rfl) h8 rfl C14 (by exact (by decide : (6 : Nat) ≠ 0)) R14 (by rw [o13 _ (by omega) (by omega) (by omega) (by omega) (by omega)]; exact fr _ (by unfold regN; omega)) (by rw [o13 _ (by omega) (by omega) (by omega) (by omega) (by omega)]; exact fr _ (by unfold regN; omega)) (by omega)
    have C144 : c4 (140 + r) = noC (240 + r) 2 (nI r) := (o4 _ (by omega) (by omega) (by omega)).trans C14
    have R144 : ρ4 (140 + r) = h_sz H := (x4 _ (by rw [C14]; exact (by decide : (6 : Nat) ≠ 0))).1.trans R14
    have R154 : ρ4 (150 + r) = h_sz H2 := (x4 _ (by rw [v3]; exact (by decide : (5 : Nat) ≠ 0))).1.trans r3
    obtain ⟨c5, H5', e5, g5, x5, v5, o5, z5, l5⟩ := K_pr g4 (140 + r) 5 4 (150 + r) R144 (by rw [C144]; rfl) R154 (by rw [s4a]; exact (by decide : (5 : Nat) ≠ 0))
    have C145 : c5 (140 + r) = noD r := by rw [v5, C144]; rfl
    have o15 : ∀ x, x ≠ 9 → ¬ regN r x → c5 x = c x := fun x _ h => by
      unfold regN at h
      rw [o5 x (by omega), o4 x (by omega) (by omega) (by omega), o13 x (by omega) (by omega) (by omega) (by omega) (by omega)]
    have x15 := (x13.tr x4).tr x5
    have Ra5 : ρ4 1 = α := (x15 1 t1).1.trans Ra
    have n10 : ∀ x, x < 10 → ¬ regN r x := fun x hx q => by unfold regN at q; omega
    have Ca5 : c5 1 = faC := (o15 1 (by omega) (n10 1 (by omega))).trans Ca
    have q5 : g_r H5' 11 2 (some α) = some (some (ρ4 9)) := by
      rw [O_gr g5 1 11 2 Ra5 (by rw [Ca5]; rfl), Ca5]; rfl
    have C95 : c5 9 = raC 35 nd (pf 140 r) := by
      rw [o5 9 (by omega), o4 9 (by omega) (by omega) (by omega), o13 9 (by omega) (by omega) (by omega) (by omega) (by omega)]; exact C9
    obtain ⟨c6, H6, e6, g6, x6, v6, o6, z6, l6⟩ := K_ar g5 9 5 r (140 + r) rfl (by rw [C95]; rfl) (by rw [C95]; exact hr2) (by omega) R144 (by rw [C145]; rfl)
    have st : k7 154 [.inr (.inr (some α)), .inl (nI nd), .inl (nI r)] H = some (.inr (154, [.inr (.inr (some α)), .inl (nI nd), .inl (nI (r + 1))], H6)) := by
      show b7_154 α (nI nd) (nI r) H = _
      unfold b7_154
      rw [if_neg (nI_ge hr2 (by omega)), bd_s e1, bd_s q1, bd_s (c_V_of e2), bd_s e3, bd_s q3, bd_s (c_V_of e4), bd_s e5, bd_s q5, bd_s e6, nI_1]
    have x16 := x15.tr x6
    have on : ∀ x, x ≠ 9 → ¬ regN r x → c6 x = c x := fun x h1 h2 => (o6 x h1).trans (o15 x h1 h2)
    have me : noF nd r c6 := by
      refine ⟨?_, ?_, ?_, ?_, ?_, ?_, ?_⟩
      · rw [o6 _ (by omega)]; exact C145
      · rw [o6 _ (by omega), o5 _ (by omega)]; exact s4a
      · rw [o6 _ (by omega), o5 _ (by omega)]; exact s4b
      · rw [o6 _ (by omega), o5 _ (by omega)]; exact s4c
      · rw [o6 _ (by omega), o5 _ (by omega), o4 _ (by omega) (by omega) (by omega), o3 _ (by omega)]; exact s2b
      · rw [o6 _ (by omega), o5 _ (by omega), o4 _ (by omega) (by omega) (by omega), o3 _ (by omega)]; exact s2c
      · rw [o6 _ (by omega), o5 _ (by omega), o4 _ (by omega) (by omega) (by omega), o3 _ (by omega)]; exact s2d
    have dj : ∀ n x, n < 8 → n ≠ r → regN n x → x ≠ 9 ∧ ¬ regN r x := fun n x h1 h2 h3 => by unfold regN at h3 ⊢; omega
    obtain ⟨ρ', c', H', y1, y2, y3, y4, y5, y6, y7, y8⟩ := ih (r + 1) ρ4 c6 H6 g (by omega) g6 Ra5 ((on 1 (by omega) (n10 1 (by omega))).trans Ca) ((on 2 (by omega) (n10 2 (by omega))).trans Cs) (by rw [v6, C95, raC_s]) (fun n hn => by
        by_cases e : n = r
        · subst e; exact me
        · exact noF_keep (hS n (by omega)) (fun x hx => on x (dj n x (by omega) e hx).1 (dj n x (by omega) e hx).2))
      (fun n h1 h2 x hx => by rw [on x (dj n x (by omega) (by omega) hx).1 (dj n x (by omega) (by omega) hx).2]; exact hf n (by omega) h2 x hx)
    refine ⟨ρ', c', H', ?_, y2, x16.tr y3, y4, y5, fun x h1 h2 => ?_, by omega, by omega⟩
    · rw [show g + (d + 1) + 1 = (g + d + 1) + 1 by omega, dr_go st]; exact y1
    · rw [y6 x h1 (fun n a b => h2 n (by omega) b)]
      exact on x h1 (h2 r (Nat.le_refl _) hr2)
/-- the class at the beginning -/
def clF (sw nd rm : Nat) (c : Nat → cD) : Prop := (c 1 = faC ∧ c 2 = shC (nI sw) (nI nd) (nI rm) ∧ c 3 = oC 20 9 ∧ c 4 = oC 20 8 ∧ c 5 = oC 38 16 ∧ c 6 = oC 38 16 ∧ c 7 = oC 30 300 ∧ c 8 = raC 40 sw (pf 10 sw) ∧ c 9 = raC 35 nd (pf 140 nd)) ∧ (∀ s, s < sw → swF sw s c) ∧ (∀ n, n < nd → noF nd n c) ∧ ∀ x, 10 ≤ x ∨ x = 0 → (∀ s, s < sw → ¬ regS sw s x) → (∀ n, n < nd → ¬ regN n x) → c x = oC 0 0
theorem F7 (z : Nat) (p1 : prm v1 5 sw) (p2 : prm v2 8 nd) (p3 : prm v3 4 rm) : ∃ ρ c B, f7 [.inr (.inr (some z)), .inl v1, .inl v2, .inl v3] (h_no (hM0 z) 11 8) = some (none, B) ∧ rc ρ c B ∧ ρ 1 = z ∧ clF sw nd rm c ∧ h_sz B ≤ z + 1000 ∧ h_sl B ≤ 10000 := by
  have h5 : sw ≤ 5 := p1.1.2
  have h1 : 1 ≤ sw := p1.1.1
  have h8 : nd ≤ 8 := p2.1.2
  have g0 : rc (fun _ => 0) (fun _ => oC 0 0) (hM0 z) := ⟨⟨fun a _ => ⟨rfl, rfl, fun _ => ⟨rfl, rfl, rfl⟩, fun _ => ⟨rfl, rfl, rfl⟩⟩, fun _ _ => rfl, fun _ _ => rfl⟩, fun a ha => absurd rfl ha, fun a ha => absurd rfl ha, fun a b ha => absurd rfl ha⟩
  obtain ⟨ρ1, c1, H1, e1, g1, x1, v1', o1, r1, z1, l1⟩ := K_no g0 1 11 8 rfl
  have e1 : h_no (hM0 z) 11 8 = H1 := Option.some.inj e1
  rw [e1]
  have z1 : h_sz H1 = z + 1 := z1
  have l1 : h_sl H1 = 0 + 8 := l1
  obtain ⟨ρ2, c2, H2, e2, g2, x2, ⟨a1, a2, a3, a4, a5, a6, a7, a8⟩, o2, z2, l2⟩ := F7a (α := z) g1 p1 p2 p3 v1' r1 (fun x hx => by rw [o1 x hx]; rfl)
  have R2 : ρ2 1 = z := (x2 1 (by rw [v1']; exact (by decide : (12 : Nat) ≠ 0))).1.trans r1
  have b2 : ∀ x, 9 ≤ x ∨ x = 0 → c2 x = oC 0 0 := fun x hx => (o2 x hx).trans (o1 x (by omega))
  obtain ⟨ρ3, c3, H3, e3, g3, x3, s8, sS, s7, s0, z3, l3⟩ := L109 (α := z) (ND := nI nd) (nd := nd) (rm := rm) h1 h5 rfl sw 0 ρ2 c2 H2 (999998 - sw + 1) (by omega) g2 R2 a1 a2 (a8.trans raC_0) (fun s hs => absurd hs (by omega)) (fun x hx _ => b2 x (Or.inl hx))
  have R3 : ρ3 1 = z := (x3 1 (by rw [a1]; exact (by decide : (12 : Nat) ≠ 0))).1.trans R2
  have A1 : c3 1 = faA := (s7 1 (by omega)).trans a1
  have n9 : ∀ s, s < sw → ¬ regS sw s 9 := fun s _ q => by have := regS_10 q; omega
  obtain ⟨ρ4, c4, H4, e4, g4, x4, v4, o4, r4, z4, l4⟩ := K_na g3 9 35 nd (v := nI nd) (by rw [s0 9 (by omega) n9]; rfl) (by decide) ⟨⟨nI_pos (by omega), nI_clamp (by omega)⟩, by omega⟩
  have R4 : ρ4 1 = z := (x4 1 (by rw [A1]; exact (by decide : (12 : Nat) ≠ 0))).1.trans R3
  have A4 : c4 1 = faA := (o4 1 (by omega)).trans A1
  obtain ⟨c5, H5', e5, g5, x5, v5, o5, z5, l5⟩ := K_pr g4 1 11 2 9 R4 (by rw [A4]; rfl) r4 (by rw [v4]; exact (by decide : (35 : Nat) ≠ 0))
  have A5 : c5 1 = faC := by rw [v5, A4]; rfl
  have o35 : ∀ x, x ≠ 1 → x ≠ 9 → c5 x = c3 x := fun x h1 h2 => (o5 x h1).trans (o4 x h2)
  have NS : ∀ n x, n < nd → regN n x → ∀ s, s < sw → ¬ regS sw s x := fun n x hn hx s hs q => by unfold regN at hx; unfold regS at q; omega
  have b5 : ∀ n, n < nd → ∀ x, regN n x → c5 x = oC 0 0 := fun n hn x hx => by
    have : 140 ≤ x := by unfold regN at hx; omega
    rw [o35 x (by omega) (by omega)]
    exact s0 x (by omega) (NS n x hn hx)
  obtain ⟨ρ6, c6, H6, e6, g6, x6, y9, yN, y0, z6, l6⟩ := L154 (α := z) (sw := sw) (rm := rm) h8 rfl nd 0 ρ4 c5 H5' (999999 - sw - 1 - nd - 1 + 1 - 1 + 1) (by omega) g5 R4 A5 ((o35 2 (by omega) (by omega)).trans ((s7 2 (by omega)).trans a2)) (by rw [o5 9 (by omega), v4]; exact raC_0) (fun n hn => absurd hn (by omega)) (fun n _ hn x hx => by rw [b5 n hn x hx]; rfl)
  have lo : ∀ x, x < 9 → x ≠ 1 → c6 x = c3 x := fun x h1 h2 => (y0 x (by omega) (fun n _ _ q => by unfold regN at q; omega)).trans (o35 x h2 (by omega))
  refine ⟨ρ6, c6, H6, ?_, g6, (x6 1 (by rw [A5]; exact (by decide : (12 : Nat) ≠ 0))).1.trans R4, ⟨⟨?_, ?_, ?_, ?_, ?_, ?_, ?_, ?_, y9⟩, fun s hs => ?_, yN, fun x hx h1 h2 => ?_⟩, by omega, by omega⟩
  · show x_go k7 (b7_0 z v1 v2 v3 H1) = _
    rw [e2]
    show drive k7 xF 109 _ H2 = _
    have f1 : drive k7 xF 109 [.inr (.inr (some z)), .inl (nI sw), .inl (nI nd), .inl (0 : Int32)] H2 = drive k7 (999998 - sw + 1 + 1) 109 [.inr (.inr (some z)), .inl (nI sw), .inl (nI nd), .inl (nI sw)] H3 := by
      rw [← e3, show 999998 - sw + 1 + sw + 1 = xF by unfold xF; omega]; rfl
    have st : k7 109 [.inr (.inr (some z)), .inl (nI sw), .inl (nI nd), .inl (nI sw)] H3 = some (.inr (154, [.inr (.inr (some z)), .inl (nI nd), .inl (nI 0)], H5')) := by
      show b7_109 z (nI sw) (nI nd) (nI sw) H3 = _
      unfold b7_109
      rw [if_pos (Int32.le_refl _), bd_s e4, bd_s e5]
      rfl
    rw [f1, dr_go st]
    rw [← e6, show 999999 - sw - 1 - nd - 1 + 1 - 1 + 1 + nd + 1 = 999998 - sw + 1 by omega]
  · exact (y0 1 (by omega) (fun n _ _ q => by unfold regN at q; omega)).trans A5
  · exact (lo 2 (by omega) (by omega)).trans ((s7 2 (by omega)).trans a2)
  · exact (lo 3 (by omega) (by omega)).trans ((s7 3 (by omega)).trans a3)
  · exact (lo 4 (by omega) (by omega)).trans ((s7 4 (by omega)).trans a4)
  · exact (lo 5 (by omega) (by omega)).trans ((s7 5 (by omega)).trans a5)
  · exact (lo 6 (by omega) (by omega)).trans ((s7 6 (by omega)).trans a6)
  · exact (lo 7 (by omega) (by omega)).trans ((s7 7 (by omega)).trans a7)
  · exact (lo 8 (by omega) (by omega)).trans s8
  · refine swF_keep h5 (sS s hs) (fun x hx => ?_)
    have := regS_10 hx
    rw [y0 x (by omega) (fun n _ hn q => NS n x hn q s hs hx), o35 x (by omega) (by omega)]
  · rw [y0 x (by omega) (fun n _ hn => h2 n hn), o35 x (by omega) (by omega)]
    rcases hx with hx | rfl
    · exact s0 x (by omega) h1
    · rw [s7 0 (by omega)]; exact b2 0 (Or.inr rfl)
end MK3
