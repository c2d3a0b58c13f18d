/-! ===== the law: one call ===== -/
section LX
variable {sw nd rm t zb sb o m : Nat} {ad : Nat → Nat} {H H1 N M0 : hM} {S S' : sT} {ρ : Nat → Nat} {xs : Nat → Int32} {n j : Nat} {F G : List aV → hM → xO}
theorem lg_rr (r : Int64) : lg_cmp r r = 0 := by
  unfold lg_cmp
  simp
theorem bI1 (hj : j + 8 ≤ n) (hn : n ≤ 4099) (hL : LV sw nd rm t zb sb o m ad H) (hF : ∃ r H1 H2, F [.inr (.inr (some o)), .inl (xs (j + 1))] H = some (some (.inl r), H1) ∧ g_o H1 12 (some m) = some m ∧ G [.inr (.inr (some m)), .inl (xs (j + 1))] H1 = some (some (.inl r), H2) ∧ LC sw nd rm t zb sb o m ad H2) : Lgo sw nd rm t zb sb o m ad j (Option.bind (sc_a xs n (nI j + (1 : Int32))) fun v1 => Option.bind (g_o H 11 (some o)) fun b1 => Option.bind (c_I (F [.inr (.inr (some b1)), .inl v1] H)) fun q1 => Option.bind (sc_a xs n (nI j + (1 : Int32))) fun w1 => Option.bind (g_o q1.2 12 (some m)) fun b2 => Option.bind (c_I (G [.inr (.inr (some b2)), .inl w1] q1.2)) fun q2 => if q1.1 = q2.1 then (b999_1027 xs n (some o) (some m) (nI j) q2.2) else (none)) := by
  obtain ⟨r, H1, H2, e1, e2, e3, e4⟩ := hF
  have x1 : sc_a xs n (nI j + (1 : Int32)) = some (xs (j + 1)) := by rw [show (1 : Int32) = nI 1 from rfl, nI_add]; exact sc_n (by omega) hn
  rw [bd_s x1, bd_s hL.go, bd_s (c_I_of e1), bd_s x1, bd_s e2, bd_s (c_I_of e3), if_pos rfl]
  exact Lgo.of e4
theorem bI2 (hj : j + 8 ≤ n) (hn : n ≤ 4099) (hL : LV sw nd rm t zb sb o m ad H) (hF : ∃ r H1 H2, F [.inr (.inr (some o)), .inl (xs (j + 1)), .inl (xs (j + 2))] H = some (some (.inl r), H1) ∧ g_o H1 12 (some m) = some m ∧ G [.inr (.inr (some m)), .inl (xs (j + 1)), .inl (xs (j + 2))] H1 = some (some (.inl r), H2) ∧ LC sw nd rm t zb sb o m ad H2) : Lgo sw nd rm t zb sb o m ad j (Option.bind (sc_a xs n (nI j + (1 : Int32))) fun v1 => Option.bind (sc_a xs n (nI j + (2 : Int32))) fun v2 => Option.bind (g_o H 11 (some o)) fun b1 => Option.bind (c_I (F [.inr (.inr (some b1)), .inl v1, .inl v2] H)) fun q1 => Option.bind (sc_a xs n (nI j + (1 : Int32))) fun w1 => Option.bind (sc_a xs n (nI j + (2 : Int32))) fun w2 => Option.bind (g_o q1.2 12 (some m)) fun b2 => Option.bind (c_I (G [.inr (.inr (some b2)), .inl w1, .inl w2] q1.2)) fun q2 => if q1.1 = q2.1 then (b999_1027 xs n (some o) (some m) (nI j) q2.2) else (none)) := by
  obtain ⟨r, H1, H2, e1, e2, e3, e4⟩ := hF
  have x1 : sc_a xs n (nI j + (1 : Int32)) = some (xs (j + 1)) := by rw [show (1 : Int32) = nI 1 from rfl, nI_add]; exact sc_n (by omega) hn
  have x2 : sc_a xs n (nI j + (2 : Int32)) = some (xs (j + 2)) := by rw [show (2 : Int32) = nI 2 from rfl, nI_add]; exact sc_n (by omega) hn
  rw [bd_s x1, bd_s x2, bd_s hL.go, bd_s (c_I_of e1), bd_s x1, bd_s x2, bd_s e2, bd_s (c_I_of e3), if_pos rfl]
  exact Lgo.of e4
theorem bI3 (hj : j + 8 ≤ n) (hn : n ≤ 4099) (hL : LV sw nd rm t zb sb o m ad H) (hF : ∃ r H1 H2, F [.inr (.inr (some o)), .inl (xs (j + 1)), .inl (xs (j + 2)), .inl (xs (j + 3))] H = some (some (.inl r), H1) ∧ g_o H1 12 (some m) = some m ∧ G [.inr (.inr (some m)), .inl (xs (j + 1)), .inl (xs (j + 2)), .inl (xs (j + 3))] H1 = some (some (.inl r), H2) ∧ LC sw nd rm t zb sb o m ad H2) : Lgo sw nd rm t zb sb o m ad j (Option.bind (sc_a xs n (nI j + (1 : Int32))) fun v1 => Option.bind (sc_a xs n (nI j + (2 : Int32))) fun v2 => Option.bind (sc_a xs n (nI j + (3 : Int32))) fun v3 => Option.bind (g_o H 11 (some o)) fun b1 => Option.bind (c_I (F [.inr (.inr (some b1)), .inl v1, .inl v2, .inl v3] H)) fun q1 => Option.bind (sc_a xs n (nI j + (1 : Int32))) fun w1 => Option.bind (sc_a xs n (nI j + (2 : Int32))) fun w2 => Option.bind (sc_a xs n (nI j + (3 : Int32))) fun w3 => Option.bind (g_o q1.2 12 (some m)) fun b2 => Option.bind (c_I (G [.inr (.inr (some b2)), .inl w1, .inl w2, .inl w3] q1.2)) fun q2 => if q1.1 = q2.1 then (b999_1027 xs n (some o) (some m) (nI j) q2.2) else (none)) := by
  obtain ⟨r, H1, H2, e1, e2, e3, e4⟩ := hF
  have x1 : sc_a xs n (nI j + (1 : Int32)) = some (xs (j + 1)) := by rw [show (1 : Int32) = nI 1 from rfl, nI_add]; exact sc_n (by omega) hn
  have x2 : sc_a xs n (nI j + (2 : Int32)) = some (xs (j + 2)) := by rw [show (2 : Int32) = nI 2 from rfl, nI_add]; exact sc_n (by omega) hn
  have x3 : sc_a xs n (nI j + (3 : Int32)) = some (xs (j + 3)) := by rw [show (3 : Int32) = nI 3 from rfl, nI_add]; exact sc_n (by omega) hn
  rw [bd_s x1, bd_s x2, bd_s x3, bd_s hL.go, bd_s (c_I_of e1), bd_s x1, bd_s x2, bd_s x3, bd_s e2, bd_s (c_I_of e3), if_pos rfl]
  exact Lgo.of e4
theorem bI5 (hj : j + 8 ≤ n) (hn : n ≤ 4099) (hL : LV sw nd rm t zb sb o m ad H) (hF : ∃ r H1 H2, F [.inr (.inr (some o)), .inl (xs (j + 1)), .inl (xs (j + 2)), .inl (xs (j + 3)), .inl (xs (j + 4)), .inl (xs (j + 5))] H = some (some (.inl r), H1) ∧ g_o H1 12 (some m) = some m ∧ G [.inr (.inr (some m)), .inl (xs (j + 1)), .inl (xs (j + 2)), .inl (xs (j + 3)), .inl (xs (j + 4)), .inl (xs (j + 5))] H1 = some (some (.inl r), H2) ∧ LC sw nd rm t zb sb o m ad H2) : Lgo sw nd rm t zb sb o m ad j (Option.bind (sc_a xs n (nI j + (1 : Int32))) fun v1 => Option.bind (sc_a xs n (nI j + (2 : Int32))) fun v2 => Option.bind (sc_a xs n (nI j + (3 : Int32))) fun v3 => Option.bind (sc_a xs n (nI j + (4 : Int32))) fun v4 => Option.bind (sc_a xs n (nI j + (5 : Int32))) fun v5 => Option.bind (g_o H 11 (some o)) fun b1 => Option.bind (c_I (F [.inr (.inr (some b1)), .inl v1, .inl v2, .inl v3, .inl v4, .inl v5] H)) fun q1 => Option.bind (sc_a xs n (nI j + (1 : Int32))) fun w1 => Option.bind (sc_a xs n (nI j + (2 : Int32))) fun w2 => Option.bind (sc_a xs n (nI j + (3 : Int32))) fun w3 => Option.bind (sc_a xs n (nI j + (4 : Int32))) fun w4 => Option.bind (sc_a xs n (nI j + (5 : Int32))) fun w5 => Option.bind (g_o q1.2 12 (some m)) fun b2 => Option.bind (c_I (G [.inr (.inr (some b2)), .inl w1, .inl w2, .inl w3, .inl w4, .inl w5] q1.2)) fun q2 => if q1.1 = q2.1 then (b999_1027 xs n (some o) (some m) (nI j) q2.2) else (none)) := by
  obtain ⟨r, H1, H2, e1, e2, e3, e4⟩ := hF
  have x1 : sc_a xs n (nI j + (1 : Int32)) = some (xs (j + 1)) := by rw [show (1 : Int32) = nI 1 from rfl, nI_add]; exact sc_n (by omega) hn
  have x2 : sc_a xs n (nI j + (2 : Int32)) = some (xs (j + 2)) := by rw [show (2 : Int32) = nI 2 from rfl, nI_add]; exact sc_n (by omega) hn
  have x3 : sc_a xs n (nI j + (3 : Int32)) = some (xs (j + 3)) := by rw [show (3 : Int32) = nI 3 from rfl, nI_add]; exact sc_n (by omega) hn
  have x4 : sc_a xs n (nI j + (4 : Int32)) = some (xs (j + 4)) := by rw [show (4 : Int32) = nI 4 from rfl, nI_add]; exact sc_n (by omega) hn
  have x5 : sc_a xs n (nI j + (5 : Int32)) = some (xs (j + 5)) := by rw [show (5 : Int32) = nI 5 from rfl, nI_add]; exact sc_n (by omega) hn
  rw [bd_s x1, bd_s x2, bd_s x3, bd_s x4, bd_s x5, bd_s hL.go, bd_s (c_I_of e1), bd_s x1, bd_s x2, bd_s x3, bd_s x4, bd_s x5, bd_s e2, bd_s (c_I_of e3), if_pos rfl]
  exact Lgo.of e4
theorem bI7 (hj : j + 8 ≤ n) (hn : n ≤ 4099) (hL : LV sw nd rm t zb sb o m ad H) (hF : ∃ r H1 H2, F [.inr (.inr (some o)), .inl (xs (j + 1)), .inl (xs (j + 2)), .inl (xs (j + 3)), .inl (xs (j + 4)), .inl (xs (j + 5)), .inr (.inl (((Int32.toInt64 (xs (j + 6))) <<< (Int32.toInt64 (32 : Int32) &&& 63)) ||| ((Int32.toInt64 (xs (j + 7))) &&& (4294967295 : Int64))))] H = some (some (.inl r), H1) ∧ g_o H1 12 (some m) = some m ∧ G [.inr (.inr (some m)), .inl (xs (j + 1)), .inl (xs (j + 2)), .inl (xs (j + 3)), .inl (xs (j + 4)), .inl (xs (j + 5)), .inr (.inl (((Int32.toInt64 (xs (j + 6))) <<< (Int32.toInt64 (32 : Int32) &&& 63)) ||| ((Int32.toInt64 (xs (j + 7))) &&& (4294967295 : Int64))))] H1 = some (some (.inl r), H2) ∧ LC sw nd rm t zb sb o m ad H2) : Lgo sw nd rm t zb sb o m ad j (Option.bind (sc_a xs n (nI j + (1 : Int32))) fun v1 => Option.bind (sc_a xs n (nI j + (2 : Int32))) fun v2 => Option.bind (sc_a xs n (nI j + (3 : Int32))) fun v3 => Option.bind (sc_a xs n (nI j + (4 : Int32))) fun v4 => Option.bind (sc_a xs n (nI j + (5 : Int32))) fun v5 => Option.bind (sc_a xs n (nI j + (6 : Int32))) fun v6 => Option.bind (sc_a xs n (nI j + (7 : Int32))) fun v7 => Option.bind (g_o H 11 (some o)) fun b1 => Option.bind (c_I (F [.inr (.inr (some b1)), .inl v1, .inl v2, .inl v3, .inl v4, .inl v5, .inr (.inl (((Int32.toInt64 v6) <<< (Int32.toInt64 (32 : Int32) &&& 63)) ||| ((Int32.toInt64 v7) &&& (4294967295 : Int64))))] H)) fun q1 => Option.bind (sc_a xs n (nI j + (1 : Int32))) fun w1 => Option.bind (sc_a xs n (nI j + (2 : Int32))) fun w2 => Option.bind (sc_a xs n (nI j + (3 : Int32))) fun w3 => Option.bind (sc_a xs n (nI j + (4 : Int32))) fun w4 => Option.bind (sc_a xs n (nI j + (5 : Int32))) fun w5 => Option.bind (sc_a xs n (nI j + (6 : Int32))) fun w6 => Option.bind (sc_a xs n (nI j + (7 : Int32))) fun w7 => Option.bind (g_o q1.2 12 (some m)) fun b2 => Option.bind (c_I (G [.inr (.inr (some b2)), .inl w1, .inl w2, .inl w3, .inl w4, .inl w5, .inr (.inl (((Int32.toInt64 w6) <<< (Int32.toInt64 (32 : Int32) &&& 63)) ||| ((Int32.toInt64 w7) &&& (4294967295 : Int64))))] q1.2)) fun q2 => if q1.1 = q2.1 then (b999_1027 xs n (some o) (some m) (nI j) q2.2) else (none)) := by
  obtain ⟨r, H1, H2, e1, e2, e3, e4⟩ := hF
  have x1 : sc_a xs n (nI j + (1 : Int32)) = some (xs (j + 1)) := by rw [show (1 : Int32) = nI 1 from rfl, nI_add]; exact sc_n (by omega) hn
  have x2 : sc_a xs n (nI j + (2 : Int32)) = some (xs (j + 2)) := by rw [show (2 : Int32) = nI 2 from rfl, nI_add]; exact sc_n (by omega) hn
  have x3 : sc_a xs n (nI j + (3 : Int32)) = some (xs (j + 3)) := by rw [show (3 : Int32) = nI 3 from rfl, nI_add]; exact sc_n (by omega) hn
  have x4 : sc_a xs n (nI j + (4 : Int32)) = some (xs (j + 4)) := by rw [show (4 : Int32) = nI 4 from rfl, nI_add]; exact sc_n (by omega) hn
  have x5 : sc_a xs n (nI j + (5 : Int32)) = some (xs (j + 5)) := by rw [show (5 : Int32) = nI 5 from rfl, nI_add]; exact sc_n (by omega) hn
  have x6 : sc_a xs n (nI j + (6 : Int32)) = some (xs (j + 6)) := by rw [show (6 : Int32) = nI 6 from rfl, nI_add]; exact sc_n (by omega) hn
  have x7 : sc_a xs n (nI j + (7 : Int32)) = some (xs (j + 7)) := by rw [show (7 : Int32) = nI 7 from rfl, nI_add]; exact sc_n (by omega) hn
  rw [bd_s x1, bd_s x2, bd_s x3, bd_s x4, bd_s x5, bd_s x6, bd_s x7, bd_s hL.go, bd_s (c_I_of e1), bd_s x1, bd_s x2, bd_s x3, bd_s x4, bd_s x5, bd_s x6, bd_s x7, bd_s e2, bd_s (c_I_of e3), if_pos rfl]
  exact Lgo.of e4
theorem bL2 (hj : j + 8 ≤ n) (hn : n ≤ 4099) (hL : LV sw nd rm t zb sb o m ad H) (hF : ∃ r H1 H2, F [.inr (.inr (some o)), .inl (xs (j + 1)), .inl (xs (j + 2))] H = some (some (.inr (.inl r)), H1) ∧ g_o H1 12 (some m) = some m ∧ G [.inr (.inr (some m)), .inl (xs (j + 1)), .inl (xs (j + 2))] H1 = some (some (.inr (.inl r)), H2) ∧ LC sw nd rm t zb sb o m ad H2) : Lgo sw nd rm t zb sb o m ad j (Option.bind (sc_a xs n (nI j + (1 : Int32))) fun v1 => Option.bind (sc_a xs n (nI j + (2 : Int32))) fun v2 => Option.bind (g_o H 11 (some o)) fun b1 => Option.bind (c_L (F [.inr (.inr (some b1)), .inl v1, .inl v2] H)) fun q1 => Option.bind (sc_a xs n (nI j + (1 : Int32))) fun w1 => Option.bind (sc_a xs n (nI j + (2 : Int32))) fun w2 => Option.bind (g_o q1.2 12 (some m)) fun b2 => Option.bind (c_L (G [.inr (.inr (some b2)), .inl w1, .inl w2] q1.2)) fun q2 => if (lg_cmp q1.1 q2.1) = 0 then (b999_1027 xs n (some o) (some m) (nI j) q2.2) else (none)) := by
  obtain ⟨r, H1, H2, e1, e2, e3, e4⟩ := hF
  have x1 : sc_a xs n (nI j + (1 : Int32)) = some (xs (j + 1)) := by rw [show (1 : Int32) = nI 1 from rfl, nI_add]; exact sc_n (by omega) hn
  have x2 : sc_a xs n (nI j + (2 : Int32)) = some (xs (j + 2)) := by rw [show (2 : Int32) = nI 2 from rfl, nI_add]; exact sc_n (by omega) hn
  rw [bd_s x1, bd_s x2, bd_s hL.go, bd_s (c_L_of e1), bd_s x1, bd_s x2, bd_s e2, bd_s (c_L_of e3), if_pos (show lg_cmp r r = 0 from lg_rr r)]
  exact Lgo.of e4
theorem bL3 (hj : j + 8 ≤ n) (hn : n ≤ 4099) (hL : LV sw nd rm t zb sb o m ad H) (hF : ∃ r H1 H2, F [.inr (.inr (some o)), .inl (xs (j + 1)), .inl (xs (j + 2)), .inl (xs (j + 3))] H = some (some (.inr (.inl r)), H1) ∧ g_o H1 12 (some m) = some m ∧ G [.inr (.inr (some m)), .inl (xs (j + 1)), .inl (xs (j + 2)), .inl (xs (j + 3))] H1 = some (some (.inr (.inl r)), H2) ∧ LC sw nd rm t zb sb o m ad H2) : Lgo sw nd rm t zb sb o m ad j (Option.bind (sc_a xs n (nI j + (1 : Int32))) fun v1 => Option.bind (sc_a xs n (nI j + (2 : Int32))) fun v2 => Option.bind (sc_a xs n (nI j + (3 : Int32))) fun v3 => Option.bind (g_o H 11 (some o)) fun b1 => Option.bind (c_L (F [.inr (.inr (some b1)), .inl v1, .inl v2, .inl v3] H)) fun q1 => Option.bind (sc_a xs n (nI j + (1 : Int32))) fun w1 => Option.bind (sc_a xs n (nI j + (2 : Int32))) fun w2 => Option.bind (sc_a xs n (nI j + (3 : Int32))) fun w3 => Option.bind (g_o q1.2 12 (some m)) fun b2 => Option.bind (c_L (G [.inr (.inr (some b2)), .inl w1, .inl w2, .inl w3] q1.2)) fun q2 => if (lg_cmp q1.1 q2.1) = 0 then (b999_1027 xs n (some o) (some m) (nI j) q2.2) else (none)) := by
  obtain ⟨r, H1, H2, e1, e2, e3, e4⟩ := hF
  have x1 : sc_a xs n (nI j + (1 : Int32)) = some (xs (j + 1)) := by rw [show (1 : Int32) = nI 1 from rfl, nI_add]; exact sc_n (by omega) hn
  have x2 : sc_a xs n (nI j + (2 : Int32)) = some (xs (j + 2)) := by rw [show (2 : Int32) = nI 2 from rfl, nI_add]; exact sc_n (by omega) hn
  have x3 : sc_a xs n (nI j + (3 : Int32)) = some (xs (j + 3)) := by rw [show (3 : Int32) = nI 3 from rfl, nI_add]; exact sc_n (by omega) hn
  rw [bd_s x1, bd_s x2, bd_s x3, bd_s hL.go, bd_s (c_L_of e1), bd_s x1, bd_s x2, bd_s x3, bd_s e2, bd_s (c_L_of e3), if_pos (show lg_cmp r r = 0 from lg_rr r)]
  exact Lgo.of e4
theorem bZ (hj : j + 8 ≤ n) (hn : n ≤ 4099) (hL : LV sw nd rm t zb sb o m ad H) : Lgo sw nd rm t zb sb o m ad j (Option.bind (sc_a xs n (nI j + (1 : Int32))) fun v1 => Option.bind (sc_a xs n (nI j + (2 : Int32))) fun v2 => Option.bind (sc_a xs n (nI j + (3 : Int32))) fun v3 => if v3 = 0 then (b999_320 xs n (some o) (some m) (nI j) (0 : Int32) v2 v1 (some o) H) else (b999_320 xs n (some o) (some m) (nI j) (1 : Int32) v2 v1 (some o) H)) := by
  have x1 : sc_a xs n (nI j + (1 : Int32)) = some (xs (j + 1)) := by rw [show (1 : Int32) = nI 1 from rfl, nI_add]; exact sc_n (by omega) hn
  have x2 : sc_a xs n (nI j + (2 : Int32)) = some (xs (j + 2)) := by rw [show (2 : Int32) = nI 2 from rfl, nI_add]; exact sc_n (by omega) hn
  have x3 : sc_a xs n (nI j + (3 : Int32)) = some (xs (j + 3)) := by rw [show (3 : Int32) = nI 3 from rfl, nI_add]; exact sc_n (by omega) hn
  have go : ∀ z : Int32, ∃ r H1 H2, f26 [.inr (.inr (some o)), .inl (xs (j + 1)), .inl (xs (j + 2)), .inl z] H = some (some (.inl r), H1) ∧ g_o H1 12 (some m) = some m ∧ f237 [.inr (.inr (some m)), .inl (xs (j + 1)), .inl (xs (j + 2)), .inl z] H1 = some (some (.inl r), H2) ∧ LC sw nd rm t zb sb o m ad H2 := fun z => L_I (e := e237 (xs (j + 1)) (xs (j + 2)) z) hL (fun _ _ => ⟨rfl, rfl, rfl, trivial⟩) w26 (fun hR h => u237 hR h) (fun h => C_zone h)
  have e320 : ∀ z : Int32, b999_320 xs n (some o) (some m) (nI j) z (xs (j + 2)) (xs (j + 1)) (some o) H = Option.bind (g_o H 11 (some o)) fun b_430 => Option.bind (c_I (f26 [.inr (.inr (some b_430)), .inl (xs (j + 1)), .inl (xs (j + 2)), .inl z] H)) fun q_428 => (if xs (j + 3) = 0 then (b999_347 xs n (some o) (some m) (nI j) (0 : Int32) (xs (j + 2)) (xs (j + 1)) (some m) q_428.1 q_428.2) else (b999_347 xs n (some o) (some m) (nI j) (1 : Int32) (xs (j + 2)) (xs (j + 1)) (some m) q_428.1 q_428.2)) := fun z => by
    unfold b999_320
    rw [x1, x2, x3]
    rfl
  rw [bd_s x1, bd_s x2, bd_s x3]
  by_cases q : xs (j + 3) = 0
  · obtain ⟨r, H1, H2, e1, e2, e3, e4⟩ := go 0
    rw [if_pos q, e320, bd_s hL.go, bd_s (c_I_of e1), if_pos q]
    unfold b999_347
    rw [bd_s e2, bd_s (c_I_of e3), if_pos rfl]
    exact Lgo.of e4
  · obtain ⟨r, H1, H2, e1, e2, e3, e4⟩ := go 1
    rw [if_neg q, e320, bd_s hL.go, bd_s (c_I_of e1), if_neg q]
    unfold b999_347
    rw [bd_s e2, bd_s (c_I_of e3), if_pos rfl]
    exact Lgo.of e4
theorem bY (hj : j + 8 ≤ n) (hn : n ≤ 4099) (hL : LV sw nd rm t zb sb o m ad H) : Lgo sw nd rm t zb sb o m ad j (Option.bind (sc_a xs n (nI j + (1 : Int32))) fun v1 => if v1 = 0 then (b999_369 xs n (some o) (some m) (nI j) (0 : Int32) (some o) H) else (b999_369 xs n (some o) (some m) (nI j) (1 : Int32) (some o) H)) := by
  have x1 : sc_a xs n (nI j + (1 : Int32)) = some (xs (j + 1)) := by rw [show (1 : Int32) = nI 1 from rfl, nI_add]; exact sc_n (by omega) hn
  have go : ∀ z : Int32, z = 0 ∨ z = 1 → ∃ H1 H2, f27 [.inr (.inr (some o)), .inl z] H = some (none, H1) ∧ g_o H1 12 (some m) = some m ∧ f238 [.inr (.inr (some m)), .inl z] H1 = some (none, H2) ∧ LC sw nd rm t zb sb o m ad H2 := fun z hz => L_V (e := e238 z) hL (fun _ _ => ⟨rfl, trivial⟩) w27 (fun hR h => u238 hR h) (fun h => C_zoning h hz)
  have e369 : ∀ z : Int32, b999_369 xs n (some o) (some m) (nI j) z (some o) H = Option.bind (g_o H 11 (some o)) fun b => Option.bind (c_V (f27 [.inr (.inr (some b)), .inl z] H)) fun q => (if xs (j + 1) = 0 then (b999_386 xs n (some o) (some m) (nI j) (0 : Int32) (some m) q) else (b999_386 xs n (some o) (some m) (nI j) (1 : Int32) (some m) q)) := fun z => by
    unfold b999_369
    rw [x1]
    rfl
  rw [bd_s x1]
  by_cases q : xs (j + 1) = 0
  · obtain ⟨H1, H2, e1, e2, e3, e4⟩ := go 0 (Or.inl rfl)
    rw [if_pos q, e369, bd_s hL.go, bd_s (c_V_of e1), if_pos q]
    unfold b999_386
    rw [bd_s e2, bd_s (c_V_of e3)]
    exact Lgo.of e4
  · obtain ⟨H1, H2, e1, e2, e3, e4⟩ := go 1 (Or.inr rfl)
    rw [if_neg q, e369, bd_s hL.go, bd_s (c_V_of e1), if_neg q]
    unfold b999_386
    rw [bd_s e2, bd_s (c_V_of e3)]
    exact Lgo.of e4
theorem law_step (hj : j + 8 ≤ n) (hn : n ≤ 4099) (hL : LV sw nd rm t zb sb o m ad H) (ht : t + 300 ≤ 200000) : Lgo sw nd rm t zb sb o m ad j (b999_48 xs n (some o) (some m) (nI j) H) := by
  unfold b999_48
  have c0 : ¬ (Int32.ofNat n - (8 : Int32)) < nI j := by
    rw [show Int32.ofNat n = nI (n - 8 + 8) by unfold nI; congr 1; omega, show (8 : Int32) = nI 8 from rfl, ← nI_add, show nI (n - 8) + nI 8 - nI 8 = nI (n - 8) from by simp]
    exact nI_nlt (by omega) (by omega)
  rw [if_neg c0, bd_s (sc_n (by omega) hn)]
  generalize xs j &&& (31 : Int32) = op
  by_cases q0 : op = 0
  · rw [if_pos q0]
    exact bI1 (F := f11) (G := f232) hj hn hL (L_I (e := e232 _) hL (fun _ _ => ⟨rfl, trivial⟩) w11 (fun hR h => u232 hR h) (fun h => C_disc h))
  rw [if_neg q0]
  by_cases q1 : op = 1
  · rw [if_pos q1]
    exact bI5 (F := f15) (G := f233) hj hn hL (L_I (e := e233 _ _ _ _ _) hL (fun _ _ => ⟨rfl, rfl, rfl, rfl, rfl, trivial⟩) w15 (fun hR h => u233 hR h) (fun h => C_wire h))
  rw [if_neg q1]
  by_cases q2 : op = 2
  · rw [if_pos q2]
    exact bI1 (F := f24) (G := f235) hj hn hL (L_I (e := e235 _) hL (fun _ _ => ⟨rfl, trivial⟩) w24 (fun hR h => u235 hR h) (fun h => C_cut h))
  rw [if_neg q2]
  by_cases q3 : op = 3
  · rw [if_pos q3]
    exact bI1 (F := f25) (G := f236) hj hn hL (L_I (e := e236 _) hL (fun _ _ => ⟨rfl, trivial⟩) w25 (fun hR h => u236 hR h) (fun h => C_join h))
  rw [if_neg q3]
  by_cases q4 : op = 4
  · rw [if_pos q4]
    exact bZ hj hn hL
  rw [if_neg q4]
  by_cases q5 : op = 5
  · rw [if_pos q5]
    exact bY hj hn hL
  rw [if_neg q5]
  by_cases q6 : op = 6
  · rw [if_pos q6]
    exact bI2 (F := f28) (G := f239) hj hn hL (L_I (e := e239 _ _) hL (fun _ _ => ⟨rfl, rfl, trivial⟩) w28 (fun hR h => u239 hR h) (fun h => C_domain h))
  rw [if_neg q6]
  by_cases q7 : op = 7
  · rw [if_pos q7]
    exact bI3 (F := f31) (G := f241) hj hn hL (L_I (e := e241 _ _ _) hL (fun _ _ => ⟨rfl, rfl, rfl, trivial⟩) w31 (fun hR h => u241 hR h) (fun h => C_flip h))
  rw [if_neg q7]
  by_cases q8 : op = 8
  · rw [if_pos q8]
    exact bI1 (F := f140) (G := f242) hj hn hL (L_I (e := e242 _) hL (fun _ _ => ⟨rfl, trivial⟩) w140 (fun hR h => u242 hR h) (fun h => C_tick h ht))
  rw [if_neg q8]
  by_cases q9 : op = 9
  · rw [if_pos q9]
    exact bI5 (F := f148) (G := f244) hj hn hL (L_I (e := e244 _ _ _ _ _) hL (fun _ _ => ⟨rfl, rfl, rfl, rfl, rfl, trivial⟩) w148 (fun hR h => u244 hR h) (fun h => C_read h))
  rw [if_neg q9]
  by_cases q10 : op = 10
  · rw [if_pos q10]
    exact bI7 (F := f149) (G := f245) hj hn hL (L_I (e := e245 _ _ _ _ _ _) hL (fun _ _ => ⟨rfl, rfl, rfl, rfl, rfl, rfl, trivial⟩) w149 (fun hR h => u245 hR h) (fun h => C_write h))
  rw [if_neg q10]
  by_cases q11 : op = 11
  · rw [if_pos q11]
    exact bI1 (F := f151) (G := f247) hj hn hL (L_I (e := e247 _) hL (fun _ _ => ⟨rfl, trivial⟩) w151 (fun hR h => u247 hR h) (fun {M S} h => let ⟨r, q1, q2⟩ := C_status h; ⟨r, M, S, q1, q2, h.cr⟩))
  rw [if_neg q11]
  by_cases q12 : op = 12
  · rw [if_pos q12]
    exact bL2 (F := f152) (G := f248) hj hn hL (L_L (e := e248 _ _) hL (fun _ _ => ⟨rfl, rfl, trivial⟩) w152 (fun hR h => u248 hR h) (fun {M S} h => let ⟨r, q1, q2⟩ := C_got h; ⟨r, M, S, q1, q2, h.cr⟩))
  rw [if_neg q12]
  by_cases q13 : op = 13
  · rw [if_pos q13]
    exact bI2 (F := f153) (G := f249) hj hn hL (L_I (e := e249 _ _) hL (fun _ _ => ⟨rfl, rfl, trivial⟩) w153 (fun hR h => u249 hR h) (fun {M S} h => let ⟨r, q1, q2⟩ := C_when h; ⟨r, M, S, q1, q2, h.cr⟩))
  rw [if_neg q13]
  by_cases q14 : op = 14
  · rw [if_pos q14]
    exact bL3 (F := f154) (G := f250) hj hn hL (L_L (e := e250 _ _ _) hL (fun _ _ => ⟨rfl, rfl, rfl, trivial⟩) w154 (fun hR h => u250 hR h) (fun {M S} h => let ⟨r, q1, q2⟩ := C_block h; ⟨r, M, S, q1, q2, h.cr⟩))
  rw [if_neg q14]
  by_cases q15 : op = 15
  · rw [if_pos q15]
    exact bI2 (F := f155) (G := f251) hj hn hL (L_I (e := e251 _ _) hL (fun _ _ => ⟨rfl, rfl, trivial⟩) w155 (fun hR h => u251 hR h) (fun {M S} h => let ⟨r, S', q1, q2, q3⟩ := C_way h; ⟨r, M, S', q1, q2, q3.cr⟩))
  rw [if_neg q15]
  by_cases q16 : op = 16
  · rw [if_pos q16]
    exact bI3 (F := f157) (G := f252) hj hn hL (L_I (e := e252 _ _ _) hL (fun _ _ => ⟨rfl, rfl, rfl, trivial⟩) w157 (fun hR h => u252 hR h) (fun {M S} h => let ⟨r, q1, q2⟩ := C_record h; ⟨r, M, S, q1, q2, h.cr⟩))
  rw [if_neg q16]
  by_cases q17 : op = 17
  · rw [if_pos q17]
    exact bI3 (F := f159) (G := f253) hj hn hL (L_I (e := e253 _ _ _) hL (fun _ _ => ⟨rfl, rfl, rfl, trivial⟩) w159 (fun hR h => u253 hR h) (fun {M S} h => let ⟨r, q1, q2⟩ := C_port h; ⟨r, M, S, q1, q2, h.cr⟩))
  rw [if_neg q17]
  by_cases q18 : op = 18
  · rw [if_pos q18]
    exact bI1 (F := f160) (G := f254) hj hn hL (L_I (e := e254 _) hL (fun _ _ => ⟨rfl, trivial⟩) w160 (fun hR h => u254 hR h) (fun {M S} h => let ⟨r, q1, q2⟩ := C_address h; ⟨r, M, S, q1, q2, h.cr⟩))
  rw [if_neg q18]
  by_cases q19 : op = 19
  · rw [if_pos q19]
    exact bL3 (F := f161) (G := f255) hj hn hL (L_L (e := e255 _ _ _) hL (fun _ _ => ⟨rfl, rfl, rfl, trivial⟩) w161 (fun hR h => u255 hR h) (fun {M S} h => let ⟨r, q1, q2⟩ := C_frame h; ⟨r, M, S, q1, q2, h.cr⟩))
  rw [if_neg q19]
  by_cases q20 : op = 20
  · rw [if_pos q20]
    exact bI1 (F := f162) (G := f256) hj hn hL (L_I (e := e256 _) hL (fun _ _ => ⟨rfl, trivial⟩) w162 (fun hR h => u256 hR h) (fun {M S} h => let ⟨r, q1, q2⟩ := C_count h; ⟨r, M, S, q1, q2, h.cr⟩))
  rw [if_neg q20]
  by_cases q21 : op = 21
  · rw [if_pos q21]
    exact bI1 (F := f163) (G := f257) hj hn hL (L_I (e := e257 _) hL (fun _ _ => ⟨rfl, trivial⟩) w163 (fun hR h => u257 hR h) (fun {M S} h => let ⟨r, q1, q2⟩ := C_broken h; ⟨r, M, S, q1, q2, h.cr⟩))
  rw [if_neg q21]
  exact Lgo.of ⟨t, zb, sb, hL, by omega, by omega, by omega⟩
end LX
