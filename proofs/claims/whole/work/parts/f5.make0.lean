/-! ===== the class's constructors over cells (by program: genf5.py) ===== -/
section MK
variable {ρ : Nat → Nat} {c : Nat → cD} {H : hM} {a b q t l ci n k i s sw nd rm sh α β : Nat} {v v2 v3 : Int32}
theorem K_no (g : rc ρ c H) (a ci n : Nat) (ha : (c a).1.1 = 0) : ∃ ρ' c' H', n_o H ci n = some H' ∧ rc ρ' c' H' ∧ gx ρ c ρ' c' ∧ c' a = oC (ci + 1) 0 ∧ (∀ x, x ≠ a → c' x = c x) ∧ ρ' a = h_sz H ∧ h_sz H' = h_sz H + 1 ∧ h_sl H' = h_sl H + n := by
  obtain ⟨ρ', H', x1, x2, x3, x4⟩ := O_no g a ci n ha
  exact ⟨ρ', _, H', x1, x2, x3, u1_eq, fun x hx => u1_ne hx, x4⟩
theorem K_na (g : rc ρ c H) (a t n : Nat) (ha : (c a).1.1 = 0) (ht : t ≠ 0) (hv : (¬ v < 0 ∧ v.toNatClampNeg = n) ∧ n ≤ 1000000) : ∃ ρ' c' H', n_a H t v = some H' ∧ rc ρ' c' H' ∧ gx ρ c ρ' c' ∧ c' a = oC t n ∧ (∀ x, x ≠ a → c' x = c x) ∧ ρ' a = h_sz H ∧ h_sz H' = h_sz H + 1 ∧ h_sl H' = h_sl H + n := by
  obtain ⟨ρ', H', x1, x2, x3, x4⟩ := O_na g a t n ha ht hv.1 hv.2
  exact ⟨ρ', _, H', x1, x2, x3, u1_eq, fun x hx => u1_ne hx, x4⟩
theorem K_pr (g : rc ρ c H) (a ci k b : Nat) (hα : ρ a = α) (ha : (c a).1.1 = ci + 1) (hβ : ρ b = β) (hb : (c b).1.1 ≠ 0) : ∃ c' H', p_r H ci k (some α) (some β) = some H' ∧ rc ρ c' H' ∧ gx ρ c ρ c' ∧ c' a = cPr (c a) (100 * ci + k) (some b) ∧ (∀ x, x ≠ a → c' x = c x) ∧ h_sz H' = h_sz H ∧ h_sl H' = h_sl H := by
  obtain ⟨H', x1, x2, x3, x4⟩ := O_pr g a ci k (some b) hα ha (by rw [← hβ]; rfl : some β = Option.map ρ (some b)) (fun d e => by cases e; exact hb)
  exact ⟨_, H', x1, x2, x3, u1_eq, fun x hx => u1_ne hx, x4⟩
theorem K_pi (g : rc ρ c H) (a ci k : Nat) (hα : ρ a = α) (ha : (c a).1.1 = ci + 1) (v : Int32) : ∃ c' H', p_i H ci k (some α) v = some H' ∧ rc ρ c' H' ∧ gx ρ c ρ c' ∧ c' a = cPi (c a) (100 * ci + k) v ∧ (∀ x, x ≠ a → c' x = c x) ∧ h_sz H' = h_sz H ∧ h_sl H' = h_sl H := by
  obtain ⟨H', x1, x2, x3, x4⟩ := O_pi g a ci k hα ha v
  exact ⟨_, H', x1, x2, x3, u1_eq, fun x hx => u1_ne hx, x4⟩
theorem K_ai (g : rc ρ c H) (a t i : Nat) (hα : ρ a = α) (ha : (c a).1.1 = t) (h0 : t ≠ 0) (hi : i < (c a).1.2) (hs : i < 2 ^ 31) (v : Int32) : ∃ c' H', as_i H t (some α) (nI i) v = some H' ∧ rc ρ c' H' ∧ gx ρ c ρ c' ∧ c' a = cQi (c a) i v ∧ (∀ x, x ≠ a → c' x = c x) ∧ h_sz H' = h_sz H ∧ h_sl H' = h_sl H := by
  obtain ⟨H', x1, x2, x3, x4⟩ := O_ai g a t i hα ha h0 hi hs v
  exact ⟨_, H', x1, x2, x3, u1_eq, fun x hx => u1_ne hx, x4⟩
theorem K_ar (g : rc ρ c H) (a ci i b : Nat) (hα : ρ a = α) (ha : (c a).1.1 = 30 + ci) (hi : i < (c a).1.2) (hs : i < 2 ^ 31) (hβ : ρ b = β) (hb : (c b).1.1 = ci + 1) : ∃ c' H', as_r H ci (some α) (nI i) (some β) = some H' ∧ rc ρ c' H' ∧ gx ρ c ρ c' ∧ c' a = cQr (c a) i (some b) ∧ (∀ x, x ≠ a → c' x = c x) ∧ h_sz H' = h_sz H ∧ h_sl H' = h_sl H := by
  obtain ⟨H', x1, x2, x3, x4⟩ := O_ar g a ci i b hα ha hi hs hβ hb
  exact ⟨_, H', x1, x2, x3, u1_eq, fun x hx => u1_ne hx, x4⟩
theorem K_ma (g : rc ρ c H) (a b n : Nat) (ha : (c a).1.1 = 0) (hb : ∀ x, b ≤ x → x < b + n → (c x).1.1 = 0) (hab : a < b ∨ b + n ≤ a) (hn : n ≤ 1000) : ∃ ρ' c' H', n_m H (nI n) (nI n) = some H' ∧ rc ρ' c' H' ∧ gx ρ c ρ' c' ∧ c' a = ((50, n), fun _ => 0, fun _ => none, fun _ => 0, fun i => if i < n then some (b + i) else none) ∧ (∀ x, b ≤ x → x < b + n → c' x = oC 20 n) ∧ (∀ x, x ≠ a → (x < b ∨ b + n ≤ x) → c' x = c x) ∧ ρ' a = h_sz H ∧ h_sz H' = h_sz H + 1 + n ∧ h_sl H' = h_sl H + n + n * n := by
  obtain ⟨ρ', H', x1, x2, x3, x4⟩ := O_ma g a b n ha hb hab hn
  exact ⟨ρ', _, H', x1, x2, x3, if_pos rfl, fun x h1 h2 => (if_neg (by omega)).trans (if_pos ⟨h1, h2⟩), fun x h1 h2 => (if_neg h1).trans (if_neg (by omega)), x4⟩
def ntC (b : Nat) : cD := cPr (oC 7 0) 600 (some b)
theorem F5 (g : rc ρ c H) (a b : Nat) (Ca : c a = oC 7 0) (Ra : ρ a = α) (hb : (c b).1.1 = 0) (hab : b ≠ a) : ∃ ρ' c' H', f5 [.inr (.inr (some α))] H = some (none, H') ∧ rc ρ' c' H' ∧ gx ρ c ρ' c' ∧ c' a = ntC b ∧ c' b = oC 21 31 ∧ (∀ x, x ≠ a → x ≠ b → c' x = c x) ∧ h_sz H' = h_sz H + 1 ∧ h_sl H' = h_sl H + 31 := by
  show ∃ ρ' c' H', x_out (b5_0 α H) = _ ∧ _
  unfold b5_0
  obtain ⟨ρ1, c1, H1, e1, g1, x1, vv1, o1, r1, z1, l1⟩ := K_na g (b) 21 (31) (v := 31) (by exact hb) (by decide) (by decide)
  have Ca_1 : c1 (a) = oC 7 0 := (o1 _ (by omega)).trans Ca
  have Ra_1 : ρ1 (a) = α := (x1 _ (by rw [Ca]; exact (by decide : (7 : Nat) ≠ 0))).1.trans Ra
  have Cb_1 : c1 (b) = oC 21 (31) := vv1
  have Rb_1 : ρ1 (b) = h_sz H := r1
  rw [bd_s e1]
  obtain ⟨c2, H2, e2, g2, x2, vv2, o2, z2, l2⟩ := K_pr g1 (a) 6 0 (b) Ra_1 (by rw [Ca_1]; rfl) Rb_1 (by rw [Cb_1]; exact (by decide : (21 : Nat) ≠ 0))
  have Cb_2 : c2 (b) = oC 21 (31) := (o2 _ (by omega)).trans Cb_1
  have Ca_2 : c2 (a) = cPr (oC 7 0) 600 (some (b)) := by rw [vv2, Ca_1]
  rw [bd_s e2]
  refine ⟨ρ1, c2, H2, ?_, g2, (x1).tr x2, Ca_2, Cb_2, fun x h1 h2 => (o2 x (h1)).trans (o1 x (h2)), by omega, by omega⟩
  rfl
def poC (q b sh : Nat) (v2 v3 : Int32) : cD := cPi (cPi (cPr (cPi (cPi (cPr (cPr (oC 9 0) 809 (some (q))) 810 (some (b))) 811 (-1)) 814 (-1000)) 800 (some (sh))) 801 (v2)) 802 (v3)
theorem F2 {y : cD} (g : rc ρ c H) (a q b sh : Nat) (Ca : c a = oC 9 0) (Ra : ρ a = α) (Cs : c sh = y) (hy : y.1.1 ≠ 0) (Rs : ρ sh = β) (hq : (c q).1.1 = 0) (hb : (c b).1.1 = 0) (hne : a ≠ q ∧ a ≠ b ∧ q ≠ b ∧ sh ≠ a ∧ sh ≠ q ∧ sh ≠ b) : ∃ ρ' c' H', f2 [.inr (.inr (some α)), .inr (.inr (some β)), .inl v2, .inl v3] H = some (none, H') ∧ rc ρ' c' H' ∧ gx ρ c ρ' c' ∧ c' a = poC q b sh v2 v3 ∧ c' q = oC 4 0 ∧ c' b = oC 4 0 ∧ (∀ x, x ≠ a → x ≠ q → x ≠ b → c' x = c x) ∧ h_sz H' = h_sz H + 2 ∧ h_sl H' = h_sl H + 6 := by
  show ∃ ρ' c' H', x_out (b2_0 α (some β) v2 v3 H) = _ ∧ _
  unfold b2_0
  obtain ⟨ρ1, c1, H1, e1, g1, x1, vv1, o1, r1, z1, l1⟩ := K_no g (q) 3 3 (by exact hq)
  have Ca_1 : c1 (a) = oC 9 0 := (o1 _ (by omega)).trans Ca
  have Cs_1 : c1 (sh) = y := (o1 _ (by omega)).trans Cs
  have Ra_1 : ρ1 (a) = α := (x1 _ (by rw [Ca]; exact (by decide : (9 : Nat) ≠ 0))).1.trans Ra
  have Rs_1 : ρ1 (sh) = β := (x1 _ (by rw [Cs]; exact hy)).1.trans Rs
  have Cq_1 : c1 (q) = oC 4 0 := vv1
  have Rq_1 : ρ1 (q) = h_sz H := r1
  rw [bd_s e1]
  rw [bd_s (show c_V (f1 [.inr (.inr (some (h_sz H)))] H1) = some H1 from rfl)]
  obtain ⟨c2, H2, e2, g2, x2, vv2, o2, z2, l2⟩ := K_pr g1 (a) 8 9 (q) Ra_1 (by rw [Ca_1]; rfl) Rq_1 (by rw [Cq_1]; exact (by decide : (4 : Nat) ≠ 0))
  have Cs_2 : c2 (sh) = y := (o2 _ (by omega)).trans Cs_1
  have Cq_2 : c2 (q) = oC 4 0 := (o2 _ (by omega)).trans Cq_1
  have Ca_2 : c2 (a) = cPr (oC 9 0) 809 (some (q)) := by rw [vv2, Ca_1]
  rw [bd_s e2]
  obtain ⟨ρ3, c3, H3, e3, g3, x3, vv3, o3, r3, z3, l3⟩ := K_no g2 (b) 3 3 (by rw [o2 b (by omega), o1 b (by omega)]; exact hb)
  have Ca_3 : c3 (a) = cPr (oC 9 0) 809 (some (q)) := (o3 _ (by omega)).trans Ca_2
  have Cs_3 : c3 (sh) = y := (o3 _ (by omega)).trans Cs_2
  have Cq_3 : c3 (q) = oC 4 0 := (o3 _ (by omega)).trans Cq_2
  have Ra_3 : ρ3 (a) = α := (x3 _ (by rw [Ca_2]; exact (by decide : (9 : Nat) ≠ 0))).1.trans Ra_1
  have Rs_3 : ρ3 (sh) = β := (x3 _ (by rw [Cs_2]; exact hy)).1.trans Rs_1
  have Rq_3 : ρ3 (q) = h_sz H := (x3 _ (by rw [Cq_2]; exact (by decide : (4 : Nat) ≠ 0))).1.trans Rq_1
  have Cb_3 : c3 (b) = oC 4 0 := vv3
  have Rb_3 : ρ3 (b) = h_sz H2 := r3
  rw [bd_s e3]
  rw [bd_s (show c_V (f1 [.inr (.inr (some (h_sz H2)))] H3) = some H3 from rfl)]
  obtain ⟨c4, H4, e4, g4, x4, vv4, o4, z4, l4⟩ := K_pr g3 (a) 8 10 (b) Ra_3 (by rw [Ca_3]; rfl) Rb_3 (by rw [Cb_3]; exact (by decide : (4 : Nat) ≠ 0))
  have Cs_4 : c4 (sh) = y := (o4 _ (by omega)).trans Cs_3
  have Cq_4 : c4 (q) = oC 4 0 := (o4 _ (by omega)).trans Cq_3
  have Cb_4 : c4 (b) = oC 4 0 := (o4 _ (by omega)).trans Cb_3
  have Ca_4 : c4 (a) = cPr (cPr (oC 9 0) 809 (some (q))) 810 (some (b)) := by rw [vv4, Ca_3]
  rw [bd_s e4]
  obtain ⟨c5, H5, e5, g5, x5, vv5, o5, z5, l5⟩ := K_pi g4 (a) 8 11 Ra_3 (by rw [Ca_4]; rfl) (-1)
  have Cs_5 : c5 (sh) = y := (o5 _ (by omega)).trans Cs_4
  have Cq_5 : c5 (q) = oC 4 0 := (o5 _ (by omega)).trans Cq_4
  have Cb_5 : c5 (b) = oC 4 0 := (o5 _ (by omega)).trans Cb_4
  have Ca_5 : c5 (a) = cPi (cPr (cPr (oC 9 0) 809 (some (q))) 810 (some (b))) 811 (-1) := by rw [vv5, Ca_4]
  rw [bd_s e5]
  obtain ⟨c6, H6, e6, g6, x6, vv6, o6, z6, l6⟩ := K_pi g5 (a) 8 14 Ra_3 (by rw [Ca_5]; rfl) (-1000)
  have Cs_6 : c6 (sh) = y := (o6 _ (by omega)).trans Cs_5
  have Cq_6 : c6 (q) = oC 4 0 := (o6 _ (by omega)).trans Cq_5
  have Cb_6 : c6 (b) = oC 4 0 := (o6 _ (by omega)).trans Cb_5
  have Ca_6 : c6 (a) = cPi (cPi (cPr (cPr (oC 9 0) 809 (some (q))) 810 (some (b))) 811 (-1)) 814 (-1000) := by rw [vv6, Ca_5]
  rw [bd_s e6]
  obtain ⟨c7, H7, e7, g7, x7, vv7, o7, z7, l7⟩ := K_pr g6 (a) 8 0 (sh) Ra_3 (by rw [Ca_6]; rfl) Rs_3 (by rw [Cs_6]; exact hy)
  have Cs_7 : c7 (sh) = y := (o7 _ (by omega)).trans Cs_6
  have Cq_7 : c7 (q) = oC 4 0 := (o7 _ (by omega)).trans Cq_6
  have Cb_7 : c7 (b) = oC 4 0 := (o7 _ (by omega)).trans Cb_6
  have Ca_7 : c7 (a) = cPr (cPi (cPi (cPr (cPr (oC 9 0) 809 (some (q))) 810 (some (b))) 811 (-1)) 814 (-1000)) 800 (some (sh)) := by rw [vv7, Ca_6]
  rw [bd_s e7]
  obtain ⟨c8, H8, e8, g8, x8, vv8, o8, z8, l8⟩ := K_pi g7 (a) 8 1 Ra_3 (by rw [Ca_7]; rfl) (v2)
  have Cs_8 : c8 (sh) = y := (o8 _ (by omega)).trans Cs_7
  have Cq_8 : c8 (q) = oC 4 0 := (o8 _ (by omega)).trans Cq_7
  have Cb_8 : c8 (b) = oC 4 0 := (o8 _ (by omega)).trans Cb_7
  have Ca_8 : c8 (a) = cPi (cPr (cPi (cPi (cPr (cPr (oC 9 0) 809 (some (q))) 810 (some (b))) 811 (-1)) 814 (-1000)) 800 (some (sh))) 801 (v2) := by rw [vv8, Ca_7]
  rw [bd_s e8]
  obtain ⟨c9, H9, e9, g9, x9, vv9, o9, z9, l9⟩ := K_pi g8 (a) 8 2 Ra_3 (by rw [Ca_8]; rfl) (v3)
  have Cs_9 : c9 (sh) = y := (o9 _ (by omega)).trans Cs_8
  have Cq_9 : c9 (q) = oC 4 0 := (o9 _ (by omega)).trans Cq_8
  have Cb_9 : c9 (b) = oC 4 0 := (o9 _ (by omega)).trans Cb_8
  have Ca_9 : c9 (a) = cPi (cPi (cPr (cPi (cPi (cPr (cPr (oC 9 0) 809 (some (q))) 810 (some (b))) 811 (-1)) 814 (-1000)) 800 (some (sh))) 801 (v2)) 802 (v3) := by rw [vv9, Ca_8]
  rw [bd_s e9]
  refine ⟨ρ3, c9, H9, ?_, g9, ((((((((x1).tr x2).tr x3).tr x4).tr x5).tr x6).tr x7).tr x8).tr x9, Ca_9, Cq_9, Cb_9, fun x h1 h2 h3 => (o9 x (h1)).trans ((o8 x (h1)).trans ((o7 x (h1)).trans ((o6 x (h1)).trans ((o5 x (h1)).trans ((o4 x (h1)).trans ((o3 x (h3)).trans ((o2 x (h1)).trans (o1 x (h2))))))))), by omega, by omega⟩
  rfl
end MK
