/-! ===== what is TRUE ===== -/
def b2 (b : Bool) : Int32 := if b then 1 else 0
theorem b2_01 (b : Bool) : b2 b = 0 ∨ b2 b = 1 := by cases b <;> simp [b2]
theorem b2_t : b2 true = 1 := rfl
theorem b2_f : b2 false = 0 := rfl
theorem b2_z {b : Bool} : b2 b = 0 ↔ b = false := by cases b <;> simp [b2]
/-- k neighbours from i on -/
def rnb (sw : Nat) (L : List Int32) : Nat → Int32 → Nat → Bool
  | _, _, 0 => true
  | i, last, k + 1 => if nI (bn L i) ≤ last then false else if 8 ≤ nI (bn L i) then false else if nI sw ≤ nI (bn L (i + 1)) then false else if nI (bn L (i + 2)) < 1 then false else if nI (bn L (i + 2)) ≤ 9 then rnb sw L (i + 3) (nI (bn L i)) k else false
/-- k nodes from i on -/
def rno (nd : Nat) (L : List Int32) : Nat → Int32 → Int32 → Nat → Bool
  | _, _, _, 0 => true
  | i, last, seen, k + 1 => if nI (bn L (i + 1)) ≤ last then false else if 8 ≤ nI (bn L (i + 1)) then false else if nI nd ≤ nI (bn L i) then false else if ((seen >>> (nI (bn L i) &&& 31)) &&& 1) = 1 then false else rno nd L (i + 2) (nI (bn L (i + 1))) (seen ||| ((1 : Int32) <<< (nI (bn L i) &&& 31))) k
/-- a record's form -/
def rcF (sw nd : Nat) (L : List Int32) : Bool :=
  if L.length < 24 then false else if L.length < 24 + 3 * bn L 18 then false else if 24 + 3 * bn L 18 + 2 * bn L (19 + 3 * bn L 18) ≠ L.length then false else
  if sw ≤ bn L 13 then false else if bn L 17 < 1 then false else if 15 < bn L 17 then false else rnb sw L 19 (-1) (bn L 18) && rno nd L (20 + 3 * bn L 18) (-1) 0 (bn L (19 + 3 * bn L 18))
/-- a frame's form -/
def hfF (sw nd : Nat) (L : List Int32) : Bool :=
  if bn L 0 = 1 then (if L.length = 18 then decide (bn L 13 < sw) else false) else
  if bn L 0 = 2 then rcF sw nd L else
  if bn L 0 = 3 ∨ bn L 0 = 5 ∨ bn L 0 = 7 then (if L.length = 18 then decide (bn L 13 < nd) else false) else
  if bn L 0 = 6 then (if L.length = 21 then (if bn L 13 < nd then (if num L 14 3 = 0 then true else decide (bn L 16 = bn L 13 + 1)) else false) else false) else
  if bn L 0 = 9 then (if L.length = 21 then decide (bn L 14 < 2) else false) else
  if bn L 0 = 10 then decide (L.length = 18) else
  if bn L 0 = 11 then decide (L.length = 25) else
  if bn L 0 = 12 then (if L.length = 18 then decide (bn L 13 < 2) else false) else true
def tru (sw nd : Nat) (L : List Int32) : Bool :=
  if num L (L.length - 4) 4 = crcF (fun j => L.getD j 0) (L.length - 4) ^^^ (-1) then (if bn L 12 = L.length - 17 then hfF sw nd L else false) else false
theorem nIle {a b : Nat} (ha : a < 1000000) (hb : b < 1000000) : (nI a ≤ nI b) = (a ≤ b) := propext (nI_leI (by omega) (by omega))
theorem nIlt {a b : Nat} (ha : a < 1000000) (hb : b < 1000000) : (nI a < nI b) = (a < b) := propext (nI_ltI (by omega) (by omega))
theorem nIeq {a b : Nat} (ha : a < 1000000) (hb : b < 1000000) : (nI a = nI b) = (a = b) := propext (nI_eq (by omega) (by omega))
theorem f8_eq {M : hM} {nd v : Nat} (h2 : h_tg M 2 = 10) (h9 : h_fi M 901 2 = nI nd) (hv : v < 256) (hn : nd < 256) : f8 [.inr (.inr (some 2)), .inl (nI v)] M = some (some (.inl (b2 (decide (v < nd)))), M) := by
  have a1 : ¬ nI v < 0 := nI_pos (by omega)
  by_cases c : v < nd
  · have a2 : ¬ nI nd ≤ nI v := nI_ge c (by omega)
    simp [f8, b8_0, b8_16, b8_17, h2, h9, a1, a2, c, b2, g_i, g_r, g_l, g_o, p_i, p_r, p_l, p_z, c_V, c_I, c_L, c_R, x_out, z_fl_pi, z_fr_pi, z_ai_pi, z_al_pi, z_ar_pi, z_ln_pi, z_tg_pi, z_sz_pi, z_sl_pi, z_fi_pl, z_fr_pl, z_ai_pl, z_al_pl, z_ar_pl, z_ln_pl, z_tg_pl, z_sz_pl, z_sl_pl, z_fi_pr, z_fl_pr, z_ai_pr, z_al_pr, z_ar_pr, z_ln_pr, z_tg_pr, z_sz_pr, z_sl_pr, z_fi_qi, z_fl_qi, z_fr_qi, z_al_qi, z_ar_qi, z_ln_qi, z_tg_qi, z_sz_qi, z_sl_qi, z_fi_ql, z_fl_ql, z_fr_ql, z_ai_ql, z_ar_ql, z_ln_ql, z_tg_ql, z_sz_ql, z_sl_ql, z_fi_qr, z_fl_qr, z_fr_qr, z_ai_qr, z_al_qr, z_ln_qr, z_tg_qr, z_sz_qr, z_sl_qr, z_fi_ca, z_fl_ca, z_fr_ca, z_al_ca, z_ar_ca, z_ln_ca, z_tg_ca, z_sz_ca, z_sl_ca, y_pi, y_pl, y_pr, y_qi, y_ql, y_qr, y_ca]
  · have a2 : nI nd ≤ nI v := nI_le (by omega) (by omega)
    simp [f8, b8_0, b8_16, b8_17, h2, h9, a1, a2, c, b2, g_i, g_r, g_l, g_o, p_i, p_r, p_l, p_z, c_V, c_I, c_L, c_R, x_out, z_fl_pi, z_fr_pi, z_ai_pi, z_al_pi, z_ar_pi, z_ln_pi, z_tg_pi, z_sz_pi, z_sl_pi, z_fi_pl, z_fr_pl, z_ai_pl, z_al_pl, z_ar_pl, z_ln_pl, z_tg_pl, z_sz_pl, z_sl_pl, z_fi_pr, z_fl_pr, z_ai_pr, z_al_pr, z_ar_pr, z_ln_pr, z_tg_pr, z_sz_pr, z_sl_pr, z_fi_qi, z_fl_qi, z_fr_qi, z_al_qi, z_ar_qi, z_ln_qi, z_tg_qi, z_sz_qi, z_sl_qi, z_fi_ql, z_fl_ql, z_fr_ql, z_ai_ql, z_ar_ql, z_ln_ql, z_tg_ql, z_sz_ql, z_sl_ql, z_fi_qr, z_fl_qr, z_fr_qr, z_ai_qr, z_al_qr, z_ln_qr, z_tg_qr, z_sz_qr, z_sl_qr, z_fi_ca, z_fl_ca, z_fr_ca, z_al_ca, z_ar_ca, z_ln_ca, z_tg_ca, z_sz_ca, z_sl_ca, y_pi, y_pl, y_pr, y_qi, y_ql, y_qr, y_ca]
section TC
variable {M : hM} {a sw nd : Nat} {L : List Int32}
theorem f60_loop (h : rd M a L) (h2 : h_tg M 2 = 10) (h9 : h_fi M 900 2 = nI sw) {p : Nat} (hp : 19 + 3 * p ≤ L.length) : ∀ d k last fuel, k + d = p → d < fuel → drive k60 fuel 5 [.inr (.inr (some a)), .inl (nI p), .inr (.inr (some 2)), .inl last, .inl (nI k)] M = some (some (.inl (b2 (rnb sw L (19 + 3 * k) last d))), M)
  | 0, k, last, fuel, hk, hf => by
    obtain ⟨g, rfl⟩ : ∃ g, fuel = g + 1 := ⟨fuel - 1, by omega⟩
    have := h.2.2.1
    have e : nI p ≤ nI k := nI_le (by omega) (by omega)
    refine dr_end ?_
    simp [k60, b60_5, e, rnb, b2]
  | d + 1, k, last, fuel, hk, hf => by
    obtain ⟨g, rfl⟩ : ∃ g, fuel = g + 1 := ⟨fuel - 1, by omega⟩
    have h48 := h.2.2.1
    have e : ¬ nI p ≤ nI k := nI_ge (by omega) (by omega)
    have ht := h.1.1
    have x6 : (6 : Int32) + nI (3 * k) = nI (6 + 3 * k) := nI_add 6 _
    have x7 : (7 : Int32) + nI (3 * k) = nI (7 + 3 * k) := nI_add 7 _
    have x8 : (8 : Int32) + nI (3 * k) = nI (8 + 3 * k) := nI_add 8 _
    have e6 : f58 [.inr (.inr (some a)), .inl (nI (6 + 3 * k))] M = some (some (.inl (nI (bn L (19 + 3 * k)))), M) := by
      rw [f58_eq h (by omega), show 13 + (6 + 3 * k) = 19 + 3 * k by omega]
    have e7 : f58 [.inr (.inr (some a)), .inl (nI (7 + 3 * k))] M = some (some (.inl (nI (bn L (19 + 3 * k + 1)))), M) := by
      rw [f58_eq h (by omega), show 13 + (7 + 3 * k) = 19 + 3 * k + 1 by omega]
    have e8 : f58 [.inr (.inr (some a)), .inl (nI (8 + 3 * k))] M = some (some (.inl (nI (bn L (19 + 3 * k + 2)))), M) := by
      rw [f58_eq h (by omega), show 13 + (8 + 3 * k) = 19 + 3 * k + 2 by omega]
    unfold rnb
    by_cases c1 : nI (bn L (19 + 3 * k)) ≤ last
    · refine dr_end ?_
      simp [k60, b60_5, b60_81, e, ht, ixl3, x6, x7, x8, e6, e7, e8, c1, b2, g_i, g_r, g_l, g_o, p_i, p_r, p_l, p_z, c_V, c_I, c_L, c_R, x_out, z_fl_pi, z_fr_pi, z_ai_pi, z_al_pi, z_ar_pi, z_ln_pi, z_tg_pi, z_sz_pi, z_sl_pi, z_fi_pl, z_fr_pl, z_ai_pl, z_al_pl, z_ar_pl, z_ln_pl, z_tg_pl, z_sz_pl, z_sl_pl, z_fi_pr, z_fl_pr, z_ai_pr, z_al_pr, z_ar_pr, z_ln_pr, z_tg_pr, z_sz_pr, z_sl_pr, z_fi_qi, z_fl_qi, z_fr_qi, z_al_qi, z_ar_qi, z_ln_qi, z_tg_qi, z_sz_qi, z_sl_qi, z_fi_ql, z_fl_ql, z_fr_ql, z_ai_ql, z_ar_ql, z_ln_ql, z_tg_ql, z_sz_ql, z_sl_ql, z_fi_qr, z_fl_qr, z_fr_qr, z_ai_qr, z_al_qr, z_ln_qr, z_tg_qr, z_sz_qr, z_sl_qr, z_fi_ca, z_fl_ca, z_fr_ca, z_al_ca, z_ar_ca, z_ln_ca, z_tg_ca, z_sz_ca, z_sl_ca, y_pi, y_pl, y_pr, y_qi, y_ql, y_qr, y_ca]
    by_cases c2 : 8 ≤ nI (bn L (19 + 3 * k))
    · refine dr_end ?_
      simp [k60, b60_5, b60_81, e, ht, ixl3, x6, x7, x8, e6, e7, e8, c1, c2, b2, g_i, g_r, g_l, g_o, p_i, p_r, p_l, p_z, c_V, c_I, c_L, c_R, x_out, z_fl_pi, z_fr_pi, z_ai_pi, z_al_pi, z_ar_pi, z_ln_pi, z_tg_pi, z_sz_pi, z_sl_pi, z_fi_pl, z_fr_pl, z_ai_pl, z_al_pl, z_ar_pl, z_ln_pl, z_tg_pl, z_sz_pl, z_sl_pl, z_fi_pr, z_fl_pr, z_ai_pr, z_al_pr, z_ar_pr, z_ln_pr, z_tg_pr, z_sz_pr, z_sl_pr, z_fi_qi, z_fl_qi, z_fr_qi, z_al_qi, z_ar_qi, z_ln_qi, z_tg_qi, z_sz_qi, z_sl_qi, z_fi_ql, z_fl_ql, z_fr_ql, z_ai_ql, z_ar_ql, z_ln_ql, z_tg_ql, z_sz_ql, z_sl_ql, z_fi_qr, z_fl_qr, z_fr_qr, z_ai_qr, z_al_qr, z_ln_qr, z_tg_qr, z_sz_qr, z_sl_qr, z_fi_ca, z_fl_ca, z_fr_ca, z_al_ca, z_ar_ca, z_ln_ca, z_tg_ca, z_sz_ca, z_sl_ca, y_pi, y_pl, y_pr, y_qi, y_ql, y_qr, y_ca]
    by_cases c3 : nI sw ≤ nI (bn L (19 + 3 * k + 1))
    · refine dr_end ?_
      simp [k60, b60_5, b60_81, e, ht, ixl3, x6, x7, x8, e6, e7, e8, c1, c2, c3, h2, h9, b2, g_i, g_r, g_l, g_o, p_i, p_r, p_l, p_z, c_V, c_I, c_L, c_R, x_out, z_fl_pi, z_fr_pi, z_ai_pi, z_al_pi, z_ar_pi, z_ln_pi, z_tg_pi, z_sz_pi, z_sl_pi, z_fi_pl, z_fr_pl, z_ai_pl, z_al_pl, z_ar_pl, z_ln_pl, z_tg_pl, z_sz_pl, z_sl_pl, z_fi_pr, z_fl_pr, z_ai_pr, z_al_pr, z_ar_pr, z_ln_pr, z_tg_pr, z_sz_pr, z_sl_pr, z_fi_qi, z_fl_qi, z_fr_qi, z_al_qi, z_ar_qi, z_ln_qi, z_tg_qi, z_sz_qi, z_sl_qi, z_fi_ql, z_fl_ql, z_fr_ql, z_ai_ql, z_ar_ql, z_ln_ql, z_tg_ql, z_sz_ql, z_sl_ql, z_fi_qr, z_fl_qr, z_fr_qr, z_ai_qr, z_al_qr, z_ln_qr, z_tg_qr, z_sz_qr, z_sl_qr, z_fi_ca, z_fl_ca, z_fr_ca, z_al_ca, z_ar_ca, z_ln_ca, z_tg_ca, z_sz_ca, z_sl_ca, y_pi, y_pl, y_pr, y_qi, y_ql, y_qr, y_ca]
    by_cases c4 : nI (bn L (19 + 3 * k + 2)) < 1
    · refine dr_end ?_
      simp [k60, b60_5, b60_81, e, ht, ixl3, x6, x7, x8, e6, e7, e8, c1, c2, c3, c4, h2, h9, b2, g_i, g_r, g_l, g_o, p_i, p_r, p_l, p_z, c_V, c_I, c_L, c_R, x_out, z_fl_pi, z_fr_pi, z_ai_pi, z_al_pi, z_ar_pi, z_ln_pi, z_tg_pi, z_sz_pi, z_sl_pi, z_fi_pl, z_fr_pl, z_ai_pl, z_al_pl, z_ar_pl, z_ln_pl, z_tg_pl, z_sz_pl, z_sl_pl, z_fi_pr, z_fl_pr, z_ai_pr, z_al_pr, z_ar_pr, z_ln_pr, z_tg_pr, z_sz_pr, z_sl_pr, z_fi_qi, z_fl_qi, z_fr_qi, z_al_qi, z_ar_qi, z_ln_qi, z_tg_qi, z_sz_qi, z_sl_qi, z_fi_ql, z_fl_ql, z_fr_ql, z_ai_ql, z_ar_ql, z_ln_ql, z_tg_ql, z_sz_ql, z_sl_ql, z_fi_qr, z_fl_qr, z_fr_qr, z_ai_qr, z_al_qr, z_ln_qr, z_tg_qr, z_sz_qr, z_sl_qr, z_fi_ca, z_fl_ca, z_fr_ca, z_al_ca, z_ar_ca, z_ln_ca, z_tg_ca, z_sz_ca, z_sl_ca, y_pi, y_pl, y_pr, y_qi, y_ql, y_qr, y_ca]
    by_cases c5 : nI (bn L (19 + 3 * k + 2)) ≤ 9
    · have hb : k60 5 [.inr (.inr (some a)), .inl (nI p), .inr (.inr (some 2)), .inl last, .inl (nI k)] M = some (.inr (5, [.inr (.inr (some a)), .inl (nI p), .inr (.inr (some 2)), .inl (nI (bn L (19 + 3 * k))), .inl (nI (k + 1))], M)) := by
        simp [k60, b60_5, b60_81, e, ht, ixl3, x6, x7, x8, e6, e7, e8, c1, c2, c3, c4, c5, h2, h9, nI_1, g_i, g_r, g_l, g_o, p_i, p_r, p_l, p_z, c_V, c_I, c_L, c_R, x_out, z_fl_pi, z_fr_pi, z_ai_pi, z_al_pi, z_ar_pi, z_ln_pi, z_tg_pi, z_sz_pi, z_sl_pi, z_fi_pl, z_fr_pl, z_ai_pl, z_al_pl, z_ar_pl, z_ln_pl, z_tg_pl, z_sz_pl, z_sl_pl, z_fi_pr, z_fl_pr, z_ai_pr, z_al_pr, z_ar_pr, z_ln_pr, z_tg_pr, z_sz_pr, z_sl_pr, z_fi_qi, z_fl_qi, z_fr_qi, z_al_qi, z_ar_qi, z_ln_qi, z_tg_qi, z_sz_qi, z_sl_qi, z_fi_ql, z_fl_ql, z_fr_ql, z_ai_ql, z_ar_ql, z_ln_ql, z_tg_ql, z_sz_ql, z_sl_ql, z_fi_qr, z_fl_qr, z_fr_qr, z_ai_qr, z_al_qr, z_ln_qr, z_tg_qr, z_sz_qr, z_sl_qr, z_fi_ca, z_fl_ca, z_fr_ca, z_al_ca, z_ar_ca, z_ln_ca, z_tg_ca, z_sz_ca, z_sl_ca, y_pi, y_pl, y_pr, y_qi, y_ql, y_qr, y_ca]
      rw [dr_go hb]
      show drive k60 g 5 _ M = _
      rw [f60_loop h h2 h9 hp d (k + 1) _ g (by omega) (by omega), if_neg c1, if_neg c2, if_neg c3, if_neg c4, if_pos c5, show 19 + 3 * (k + 1) = 19 + 3 * k + 3 by omega]
    · refine dr_end ?_
      simp [k60, b60_5, b60_81, e, ht, ixl3, x6, x7, x8, e6, e7, e8, c1, c2, c3, c4, c5, h2, h9, b2, g_i, g_r, g_l, g_o, p_i, p_r, p_l, p_z, c_V, c_I, c_L, c_R, x_out, z_fl_pi, z_fr_pi, z_ai_pi, z_al_pi, z_ar_pi, z_ln_pi, z_tg_pi, z_sz_pi, z_sl_pi, z_fi_pl, z_fr_pl, z_ai_pl, z_al_pl, z_ar_pl, z_ln_pl, z_tg_pl, z_sz_pl, z_sl_pl, z_fi_pr, z_fl_pr, z_ai_pr, z_al_pr, z_ar_pr, z_ln_pr, z_tg_pr, z_sz_pr, z_sl_pr, z_fi_qi, z_fl_qi, z_fr_qi, z_al_qi, z_ar_qi, z_ln_qi, z_tg_qi, z_sz_qi, z_sl_qi, z_fi_ql, z_fl_ql, z_fr_ql, z_ai_ql, z_ar_ql, z_ln_ql, z_tg_ql, z_sz_ql, z_sl_ql, z_fi_qr, z_fl_qr, z_fr_qr, z_ai_qr, z_al_qr, z_ln_qr, z_tg_qr, z_sz_qr, z_sl_qr, z_fi_ca, z_fl_ca, z_fr_ca, z_al_ca, z_ar_ca, z_ln_ca, z_tg_ca, z_sz_ca, z_sl_ca, y_pi, y_pl, y_pr, y_qi, y_ql, y_qr, y_ca]
theorem f60_eq (h : rd M a L) (h2 : h_tg M 2 = 10) (h9 : h_fi M 900 2 = nI sw) {p : Nat} (hp : 19 + 3 * p ≤ L.length) : f60 [.inr (.inr (some a)), .inl (nI p), .inr (.inr (some 2))] M = some (some (.inl (b2 (rnb sw L 19 (-1) p))), M) := f60_loop h h2 h9 hp p 0 (-1) xF (by omega) (by have := h.2.2.1; unfold xF; omega)
theorem f61_loop (h : rd M a L) (h2 : h_tg M 2 = 10) (h9 : h_fi M 901 2 = nI nd) (hn8 : nd < 256) {t q : Nat} (hq : q = bn L (13 + t)) (hp : 14 + t + 2 * q ≤ L.length) : ∀ d k last seen fuel, k + d = q → d < fuel → drive k61 fuel 8 [.inr (.inr (some a)), .inl (nI t), .inr (.inr (some 2)), .inl last, .inl seen, .inl (nI k)] M = some (some (.inl (b2 (rno nd L (14 + t + 2 * k) last seen d))), M)
  | 0, k, last, seen, fuel, hk, hf => by
    obtain ⟨g, rfl⟩ : ∃ g, fuel = g + 1 := ⟨fuel - 1, by omega⟩
    have := h.2.2.1
    have e0 : f58 [.inr (.inr (some a)), .inl (nI t)] M = some (some (.inl (nI q)), M) := by rw [f58_eq h (by omega), hq]
    have e : nI q ≤ nI k := nI_le (by omega) (by omega)
    have ht := h.1.1
    refine dr_end ?_
    simp [k61, b61_8, ht, e0, e, rno, b2, g_i, g_r, g_l, g_o, p_i, p_r, p_l, p_z, c_V, c_I, c_L, c_R, x_out, z_fl_pi, z_fr_pi, z_ai_pi, z_al_pi, z_ar_pi, z_ln_pi, z_tg_pi, z_sz_pi, z_sl_pi, z_fi_pl, z_fr_pl, z_ai_pl, z_al_pl, z_ar_pl, z_ln_pl, z_tg_pl, z_sz_pl, z_sl_pl, z_fi_pr, z_fl_pr, z_ai_pr, z_al_pr, z_ar_pr, z_ln_pr, z_tg_pr, z_sz_pr, z_sl_pr, z_fi_qi, z_fl_qi, z_fr_qi, z_al_qi, z_ar_qi, z_ln_qi, z_tg_qi, z_sz_qi, z_sl_qi, z_fi_ql, z_fl_ql, z_fr_ql, z_ai_ql, z_ar_ql, z_ln_ql, z_tg_ql, z_sz_ql, z_sl_ql, z_fi_qr, z_fl_qr, z_fr_qr, z_ai_qr, z_al_qr, z_ln_qr, z_tg_qr, z_sz_qr, z_sl_qr, z_fi_ca, z_fl_ca, z_fr_ca, z_al_ca, z_ar_ca, z_ln_ca, z_tg_ca, z_sz_ca, z_sl_ca, y_pi, y_pl, y_pr, y_qi, y_ql, y_qr, y_ca]
  | d + 1, k, last, seen, fuel, hk, hf => by
    obtain ⟨g, rfl⟩ : ∃ g, fuel = g + 1 := ⟨fuel - 1, by omega⟩
    have h48 := h.2.2.1
    have e : ¬ nI q ≤ nI k := nI_ge (by omega) (by omega)
    have ht := h.1.1
    have e0 : f58 [.inr (.inr (some a)), .inl (nI t)] M = some (some (.inl (nI q)), M) := by rw [f58_eq h (by omega), hq]
    have x1 : nI t + 1 = nI (t + 1) := nI_add t 1
    have x2 : nI t + 2 = nI (t + 2) := nI_add t 2
    have x3 : nI (t + 1) + nI (2 * k) = nI (t + 1 + 2 * k) := nI_add _ _
    have x4 : nI (t + 2) + nI (2 * k) = nI (t + 2 + 2 * k) := nI_add _ _
    have e6 : f58 [.inr (.inr (some a)), .inl (nI (t + 1 + 2 * k))] M = some (some (.inl (nI (bn L (14 + t + 2 * k)))), M) := by
      rw [f58_eq h (by omega), show 13 + (t + 1 + 2 * k) = 14 + t + 2 * k by omega]
    have e7 : f58 [.inr (.inr (some a)), .inl (nI (t + 2 + 2 * k))] M = some (some (.inl (nI (bn L (14 + t + 2 * k + 1)))), M) := by
      rw [f58_eq h (by omega), show 13 + (t + 2 + 2 * k) = 14 + t + 2 * k + 1 by omega]
    have hb8 := f8_eq (v := bn L (14 + t + 2 * k)) h2 h9 (bn_lt _ _) hn8
    have hbl := bn_lt L (14 + t + 2 * k)
    unfold rno
    by_cases c1 : nI (bn L (14 + t + 2 * k + 1)) ≤ last
    · refine dr_end ?_
      simp [k61, b61_8, b61_79, ht, e0, e, x1, x2, ixl2, x3, x4, e6, e7, c1, b2, g_i, g_r, g_l, g_o, p_i, p_r, p_l, p_z, c_V, c_I, c_L, c_R, x_out, z_fl_pi, z_fr_pi, z_ai_pi, z_al_pi, z_ar_pi, z_ln_pi, z_tg_pi, z_sz_pi, z_sl_pi, z_fi_pl, z_fr_pl, z_ai_pl, z_al_pl, z_ar_pl, z_ln_pl, z_tg_pl, z_sz_pl, z_sl_pl, z_fi_pr, z_fl_pr, z_ai_pr, z_al_pr, z_ar_pr, z_ln_pr, z_tg_pr, z_sz_pr, z_sl_pr, z_fi_qi, z_fl_qi, z_fr_qi, z_al_qi, z_ar_qi, z_ln_qi, z_tg_qi, z_sz_qi, z_sl_qi, z_fi_ql, z_fl_ql, z_fr_ql, z_ai_ql, z_ar_ql, z_ln_ql, z_tg_ql, z_sz_ql, z_sl_ql, z_fi_qr, z_fl_qr, z_fr_qr, z_ai_qr, z_al_qr, z_ln_qr, z_tg_qr, z_sz_qr, z_sl_qr, z_fi_ca, z_fl_ca, z_fr_ca, z_al_ca, z_ar_ca, z_ln_ca, z_tg_ca, z_sz_ca, z_sl_ca, y_pi, y_pl, y_pr, y_qi, y_ql, y_qr, y_ca]
    by_cases c2 : 8 ≤ nI (bn L (14 + t + 2 * k + 1))
    · refine dr_end ?_
      simp [k61, b61_8, b61_79, ht, e0, e, x1, x2, ixl2, x3, x4, e6, e7, c1, c2, b2, g_i, g_r, g_l, g_o, p_i, p_r, p_l, p_z, c_V, c_I, c_L, c_R, x_out, z_fl_pi, z_fr_pi, z_ai_pi, z_al_pi, z_ar_pi, z_ln_pi, z_tg_pi, z_sz_pi, z_sl_pi, z_fi_pl, z_fr_pl, z_ai_pl, z_al_pl, z_ar_pl, z_ln_pl, z_tg_pl, z_sz_pl, z_sl_pl, z_fi_pr, z_fl_pr, z_ai_pr, z_al_pr, z_ar_pr, z_ln_pr, z_tg_pr, z_sz_pr, z_sl_pr, z_fi_qi, z_fl_qi, z_fr_qi, z_al_qi, z_ar_qi, z_ln_qi, z_tg_qi, z_sz_qi, z_sl_qi, z_fi_ql, z_fl_ql, z_fr_ql, z_ai_ql, z_ar_ql, z_ln_ql, z_tg_ql, z_sz_ql, z_sl_ql, z_fi_qr, z_fl_qr, z_fr_qr, z_ai_qr, z_al_qr, z_ln_qr, z_tg_qr, z_sz_qr, z_sl_qr, z_fi_ca, z_fl_ca, z_fr_ca, z_al_ca, z_ar_ca, z_ln_ca, z_tg_ca, z_sz_ca, z_sl_ca, y_pi, y_pl, y_pr, y_qi, y_ql, y_qr, y_ca]
    by_cases c3 : nd ≤ bn L (14 + t + 2 * k)
    · have c3' : nI nd ≤ nI (bn L (14 + t + 2 * k)) := nI_le c3 (by omega)
      have c3'' : ¬ bn L (14 + t + 2 * k) < nd := by omega
      refine dr_end ?_
      simp [k61, b61_8, b61_79, ht, e0, e, x1, x2, ixl2, x3, x4, e6, e7, c1, c2, c3', c3'', hb8, h2, b2, g_i, g_r, g_l, g_o, p_i, p_r, p_l, p_z, c_V, c_I, c_L, c_R, x_out, z_fl_pi, z_fr_pi, z_ai_pi, z_al_pi, z_ar_pi, z_ln_pi, z_tg_pi, z_sz_pi, z_sl_pi, z_fi_pl, z_fr_pl, z_ai_pl, z_al_pl, z_ar_pl, z_ln_pl, z_tg_pl, z_sz_pl, z_sl_pl, z_fi_pr, z_fl_pr, z_ai_pr, z_al_pr, z_ar_pr, z_ln_pr, z_tg_pr, z_sz_pr, z_sl_pr, z_fi_qi, z_fl_qi, z_fr_qi, z_al_qi, z_ar_qi, z_ln_qi, z_tg_qi, z_sz_qi, z_sl_qi, z_fi_ql, z_fl_ql, z_fr_ql, z_ai_ql, z_ar_ql, z_ln_ql, z_tg_ql, z_sz_ql, z_sl_ql, z_fi_qr, z_fl_qr, z_fr_qr, z_ai_qr, z_al_qr, z_ln_qr, z_tg_qr, z_sz_qr, z_sl_qr, z_fi_ca, z_fl_ca, z_fr_ca, z_al_ca, z_ar_ca, z_ln_ca, z_tg_ca, z_sz_ca, z_sl_ca, y_pi, y_pl, y_pr, y_qi, y_ql, y_qr, y_ca]
    have c3' : ¬ nI nd ≤ nI (bn L (14 + t + 2 * k)) := nI_ge (by omega) (by omega)
    have c3'' : bn L (14 + t + 2 * k) < nd := by omega
    by_cases c4 : ((seen >>> (nI (bn L (14 + t + 2 * k)) &&& 31)) &&& 1) = 1
    · refine dr_end ?_
      simp [k61, b61_8, b61_79, ht, e0, e, x1, x2, ixl2, x3, x4, e6, e7, c1, c2, c3', c3'', hb8, h2, c4, b2, g_i, g_r, g_l, g_o, p_i, p_r, p_l, p_z, c_V, c_I, c_L, c_R, x_out, z_fl_pi, z_fr_pi, z_ai_pi, z_al_pi, z_ar_pi, z_ln_pi, z_tg_pi, z_sz_pi, z_sl_pi, z_fi_pl, z_fr_pl, z_ai_pl, z_al_pl, z_ar_pl, z_ln_pl, z_tg_pl, z_sz_pl, z_sl_pl, z_fi_pr, z_fl_pr, z_ai_pr, z_al_pr, z_ar_pr, z_ln_pr, z_tg_pr, z_sz_pr, z_sl_pr, z_fi_qi, z_fl_qi, z_fr_qi, z_al_qi, z_ar_qi, z_ln_qi, z_tg_qi, z_sz_qi, z_sl_qi, z_fi_ql, z_fl_ql, z_fr_ql, z_ai_ql, z_ar_ql, z_ln_ql, z_tg_ql, z_sz_ql, z_sl_ql, z_fi_qr, z_fl_qr, z_fr_qr, z_ai_qr, z_al_qr, z_ln_qr, z_tg_qr, z_sz_qr, z_sl_qr, z_fi_ca, z_fl_ca, z_fr_ca, z_al_ca, z_ar_ca, z_ln_ca, z_tg_ca, z_sz_ca, z_sl_ca, y_pi, y_pl, y_pr, y_qi, y_ql, y_qr, y_ca]
    have hb : k61 8 [.inr (.inr (some a)), .inl (nI t), .inr (.inr (some 2)), .inl last, .inl seen, .inl (nI k)] M = some (.inr (8, [.inr (.inr (some a)), .inl (nI t), .inr (.inr (some 2)), .inl (nI (bn L (14 + t + 2 * k + 1))), .inl (seen ||| ((1 : Int32) <<< (nI (bn L (14 + t + 2 * k)) &&& 31))), .inl (nI (k + 1))], M)) := by
      simp [k61, b61_8, b61_79, ht, e0, e, x1, x2, ixl2, x3, x4, e6, e7, c1, c2, c3', c3'', hb8, h2, c4, b2, nI_1, g_i, g_r, g_l, g_o, p_i, p_r, p_l, p_z, c_V, c_I, c_L, c_R, x_out, z_fl_pi, z_fr_pi, z_ai_pi, z_al_pi, z_ar_pi, z_ln_pi, z_tg_pi, z_sz_pi, z_sl_pi, z_fi_pl, z_fr_pl, z_ai_pl, z_al_pl, z_ar_pl, z_ln_pl, z_tg_pl, z_sz_pl, z_sl_pl, z_fi_pr, z_fl_pr, z_ai_pr, z_al_pr, z_ar_pr, z_ln_pr, z_tg_pr, z_sz_pr, z_sl_pr, z_fi_qi, z_fl_qi, z_fr_qi, z_al_qi, z_ar_qi, z_ln_qi, z_tg_qi, z_sz_qi, z_sl_qi, z_fi_ql, z_fl_ql, z_fr_ql, z_ai_ql, z_ar_ql, z_ln_ql, z_tg_ql, z_sz_ql, z_sl_ql, z_fi_qr, z_fl_qr, z_fr_qr, z_ai_qr, z_al_qr, z_ln_qr, z_tg_qr, z_sz_qr, z_sl_qr, z_fi_ca, z_fl_ca, z_fr_ca, z_al_ca, z_ar_ca, z_ln_ca, z_tg_ca, z_sz_ca, z_sl_ca, y_pi, y_pl, y_pr, y_qi, y_ql, y_qr, y_ca]
    rw [dr_go hb]
    show drive k61 g 8 _ M = _
    rw [f61_loop h h2 h9 hn8 hq hp d (k + 1) _ _ g (by omega) (by omega), if_neg c1, if_neg c2, if_neg c3', if_neg c4, show 14 + t + 2 * (k + 1) = 14 + t + 2 * k + 2 by omega]
theorem f61_eq (h : rd M a L) (h2 : h_tg M 2 = 10) (h9 : h_fi M 901 2 = nI nd) (hn8 : nd < 256) {t : Nat} (hp : 14 + t + 2 * bn L (13 + t) ≤ L.length) : f61 [.inr (.inr (some a)), .inl (nI t), .inr (.inr (some 2))] M = some (some (.inl (b2 (rno nd L (14 + t) (-1) 0 (bn L (13 + t))))), M) := f61_loop h h2 h9 hn8 rfl hp (bn L (13 + t)) 0 (-1) 0 xF (by omega) (by have := h.2.2.1; unfold xF; omega)
theorem f62_eq (h : rd M a L) (h2 : h_tg M 2 = 10) (h9 : h_fi M 900 2 = nI sw) (h91 : h_fi M 901 2 = nI nd) (hs8 : sw < 256) (hn8 : nd < 256) (h17 : 17 ≤ L.length) : f62 [.inr (.inr (some a)), .inl (nI (L.length - 17)), .inr (.inr (some 2))] M = some (some (.inl (b2 (rcF sw nd L))), M) := by
  have h48 := h.2.2.1
  have ht := h.1.1
  have e5c : (5 : Int32) = nI 5 := rfl
  have e4c : (4 : Int32) = nI 4 := rfl
  have e0c : (0 : Int32) = nI 0 := rfl
  obtain ⟨p, hp, e5⟩ := f58_ex (i := 5) h (by omega)
  rw [← e5c] at e5
  have x6 : (6 : Int32) + nI (3 * p) = nI (6 + 3 * p) := nI_add 6 _
  unfold rcF
  by_cases c1 : L.length < 24
  · have c1' : nI (L.length - 17) ≤ nI (6 + 3 * p) := nI_le (by omega) (by omega)
    simp [f62, b62_0, b62_37, ht, e5, ixl3, x6, c1', c1, b2, g_i, g_r, g_l, g_o, p_i, p_r, p_l, p_z, c_V, c_I, c_L, c_R, x_out, z_fl_pi, z_fr_pi, z_ai_pi, z_al_pi, z_ar_pi, z_ln_pi, z_tg_pi, z_sz_pi, z_sl_pi, z_fi_pl, z_fr_pl, z_ai_pl, z_al_pl, z_ar_pl, z_ln_pl, z_tg_pl, z_sz_pl, z_sl_pl, z_fi_pr, z_fl_pr, z_ai_pr, z_al_pr, z_ar_pr, z_ln_pr, z_tg_pr, z_sz_pr, z_sl_pr, z_fi_qi, z_fl_qi, z_fr_qi, z_al_qi, z_ar_qi, z_ln_qi, z_tg_qi, z_sz_qi, z_sl_qi, z_fi_ql, z_fl_ql, z_fr_ql, z_ai_ql, z_ar_ql, z_ln_ql, z_tg_ql, z_sz_ql, z_sl_ql, z_fi_qr, z_fl_qr, z_fr_qr, z_ai_qr, z_al_qr, z_ln_qr, z_tg_qr, z_sz_qr, z_sl_qr, z_fi_ca, z_fl_ca, z_fr_ca, z_al_ca, z_ar_ca, z_ln_ca, z_tg_ca, z_sz_ca, z_sl_ca, y_pi, y_pl, y_pr, y_qi, y_ql, y_qr, y_ca]
  have hpe : p = bn L 18 := by
    have := f58_eq (i := 5) h (by omega)
    rw [← e5c, e5] at this
    have := (Prod.mk.inj (Option.some.inj this)).1
    have := Sum.inl.inj (Option.some.inj this)
    have hb := bn_lt L 18
    exact (nI_eq (by omega) (by omega)).mp this
  subst hpe
  by_cases c2 : L.length < 24 + 3 * bn L 18
  · have c2' : nI (L.length - 17) ≤ nI (6 + 3 * bn L 18) := nI_le (by omega) (by omega)
    simp [f62, b62_0, b62_37, ht, e5, ixl3, x6, c2', c2, b2, g_i, g_r, g_l, g_o, p_i, p_r, p_l, p_z, c_V, c_I, c_L, c_R, x_out, z_fl_pi, z_fr_pi, z_ai_pi, z_al_pi, z_ar_pi, z_ln_pi, z_tg_pi, z_sz_pi, z_sl_pi, z_fi_pl, z_fr_pl, z_ai_pl, z_al_pl, z_ar_pl, z_ln_pl, z_tg_pl, z_sz_pl, z_sl_pl, z_fi_pr, z_fl_pr, z_ai_pr, z_al_pr, z_ar_pr, z_ln_pr, z_tg_pr, z_sz_pr, z_sl_pr, z_fi_qi, z_fl_qi, z_fr_qi, z_al_qi, z_ar_qi, z_ln_qi, z_tg_qi, z_sz_qi, z_sl_qi, z_fi_ql, z_fl_ql, z_fr_ql, z_ai_ql, z_ar_ql, z_ln_ql, z_tg_ql, z_sz_ql, z_sl_ql, z_fi_qr, z_fl_qr, z_fr_qr, z_ai_qr, z_al_qr, z_ln_qr, z_tg_qr, z_sz_qr, z_sl_qr, z_fi_ca, z_fl_ca, z_fr_ca, z_al_ca, z_ar_ca, z_ln_ca, z_tg_ca, z_sz_ca, z_sl_ca, y_pi, y_pl, y_pr, y_qi, y_ql, y_qr, y_ca]
  have c2' : ¬ nI (L.length - 17) ≤ nI (6 + 3 * bn L 18) := nI_ge (by omega) (by omega)
  have e6 : f58 [.inr (.inr (some a)), .inl (nI (6 + 3 * bn L 18))] M = some (some (.inl (nI (bn L (19 + 3 * bn L 18)))), M) := by
    rw [f58_eq h (by omega), show 13 + (6 + 3 * bn L 18) = 19 + 3 * bn L 18 by omega]
  have x7 : nI (6 + 3 * bn L 18) + 1 = nI (7 + 3 * bn L 18) := by rw [nI_1]; congr 1; omega
  have x8 : nI (7 + 3 * bn L 18) + nI (2 * bn L (19 + 3 * bn L 18)) = nI (7 + 3 * bn L 18 + 2 * bn L (19 + 3 * bn L 18)) := nI_add _ _
  have hq8 := bn_lt L (19 + 3 * bn L 18)
  by_cases c3 : 24 + 3 * bn L 18 + 2 * bn L (19 + 3 * bn L 18) = L.length
  · have c3' : nI (L.length - 17) = nI (7 + 3 * bn L 18 + 2 * bn L (19 + 3 * bn L 18)) := by congr 1; omega
    have c2'' : ¬ nI (7 + 3 * bn L 18 + 2 * bn L (19 + 3 * bn L 18)) ≤ nI (6 + 3 * bn L 18) := by rw [← c3']; exact c2'
    have d0 : f58 [.inr (.inr (some a)), .inl (0 : Int32)] M = some (some (.inl (nI (bn L 13))), M) := f58_eq (i := 0) h (by omega)
    have d4 : f58 [.inr (.inr (some a)), .inl (4 : Int32)] M = some (some (.inl (nI (bn L 17))), M) := f58_eq (i := 4) h (by omega)
    have b13 := bn_lt L 13
    have b17 := bn_lt L 17
    by_cases c4 : sw ≤ bn L 13
    · have c4' : nI sw ≤ nI (bn L 13) := nI_le c4 (by omega)
      simp [f62, b62_0, b62_37, b62_93, b62_94, ht, e5, ixl3, ixl2, x6, x7, x8, c2', c2'', c1, c2, e6, c3', c3, d0, h2, h9, c4, c4', b2, g_i, g_r, g_l, g_o, p_i, p_r, p_l, p_z, c_V, c_I, c_L, c_R, x_out, z_fl_pi, z_fr_pi, z_ai_pi, z_al_pi, z_ar_pi, z_ln_pi, z_tg_pi, z_sz_pi, z_sl_pi, z_fi_pl, z_fr_pl, z_ai_pl, z_al_pl, z_ar_pl, z_ln_pl, z_tg_pl, z_sz_pl, z_sl_pl, z_fi_pr, z_fl_pr, z_ai_pr, z_al_pr, z_ar_pr, z_ln_pr, z_tg_pr, z_sz_pr, z_sl_pr, z_fi_qi, z_fl_qi, z_fr_qi, z_al_qi, z_ar_qi, z_ln_qi, z_tg_qi, z_sz_qi, z_sl_qi, z_fi_ql, z_fl_ql, z_fr_ql, z_ai_ql, z_ar_ql, z_ln_ql, z_tg_ql, z_sz_ql, z_sl_ql, z_fi_qr, z_fl_qr, z_fr_qr, z_ai_qr, z_al_qr, z_ln_qr, z_tg_qr, z_sz_qr, z_sl_qr, z_fi_ca, z_fl_ca, z_fr_ca, z_al_ca, z_ar_ca, z_ln_ca, z_tg_ca, z_sz_ca, z_sl_ca, y_pi, y_pl, y_pr, y_qi, y_ql, y_qr, y_ca]
    have c4' : ¬ nI sw ≤ nI (bn L 13) := nI_ge (by omega) (by omega)
    by_cases c5 : bn L 17 < 1
    · have c5' : nI (bn L 17) < 1 := by
        have : bn L 17 = 0 := by omega
        rw [this]; decide
      simp [f62, b62_0, b62_37, b62_93, b62_94, ht, e5, ixl3, ixl2, x6, x7, x8, c2', c2'', c1, c2, e6, c3', c3, d0, d4, h2, h9, c4, c4', c5, c5', b2, g_i, g_r, g_l, g_o, p_i, p_r, p_l, p_z, c_V, c_I, c_L, c_R, x_out, z_fl_pi, z_fr_pi, z_ai_pi, z_al_pi, z_ar_pi, z_ln_pi, z_tg_pi, z_sz_pi, z_sl_pi, z_fi_pl, z_fr_pl, z_ai_pl, z_al_pl, z_ar_pl, z_ln_pl, z_tg_pl, z_sz_pl, z_sl_pl, z_fi_pr, z_fl_pr, z_ai_pr, z_al_pr, z_ar_pr, z_ln_pr, z_tg_pr, z_sz_pr, z_sl_pr, z_fi_qi, z_fl_qi, z_fr_qi, z_al_qi, z_ar_qi, z_ln_qi, z_tg_qi, z_sz_qi, z_sl_qi, z_fi_ql, z_fl_ql, z_fr_ql, z_ai_ql, z_ar_ql, z_ln_ql, z_tg_ql, z_sz_ql, z_sl_ql, z_fi_qr, z_fl_qr, z_fr_qr, z_ai_qr, z_al_qr, z_ln_qr, z_tg_qr, z_sz_qr, z_sl_qr, z_fi_ca, z_fl_ca, z_fr_ca, z_al_ca, z_ar_ca, z_ln_ca, z_tg_ca, z_sz_ca, z_sl_ca, y_pi, y_pl, y_pr, y_qi, y_ql, y_qr, y_ca]
    have c5' : ¬ nI (bn L 17) < 1 := nI_nlt (b := 1) (by omega) (by omega)
    by_cases c6 : 15 < bn L 17
    · have c6' : (15 : Int32) < nI (bn L 17) := nI_lt (a := 15) c6 (by omega)
      simp [f62, b62_0, b62_37, b62_93, b62_94, ht, e5, ixl3, ixl2, x6, x7, x8, c2', c2'', c1, c2, e6, c3', c3, d0, d4, h2, h9, c4, c4', c5, c5', c6, c6', b2, g_i, g_r, g_l, g_o, p_i, p_r, p_l, p_z, c_V, c_I, c_L, c_R, x_out, z_fl_pi, z_fr_pi, z_ai_pi, z_al_pi, z_ar_pi, z_ln_pi, z_tg_pi, z_sz_pi, z_sl_pi, z_fi_pl, z_fr_pl, z_ai_pl, z_al_pl, z_ar_pl, z_ln_pl, z_tg_pl, z_sz_pl, z_sl_pl, z_fi_pr, z_fl_pr, z_ai_pr, z_al_pr, z_ar_pr, z_ln_pr, z_tg_pr, z_sz_pr, z_sl_pr, z_fi_qi, z_fl_qi, z_fr_qi, z_al_qi, z_ar_qi, z_ln_qi, z_tg_qi, z_sz_qi, z_sl_qi, z_fi_ql, z_fl_ql, z_fr_ql, z_ai_ql, z_ar_ql, z_ln_ql, z_tg_ql, z_sz_ql, z_sl_ql, z_fi_qr, z_fl_qr, z_fr_qr, z_ai_qr, z_al_qr, z_ln_qr, z_tg_qr, z_sz_qr, z_sl_qr, z_fi_ca, z_fl_ca, z_fr_ca, z_al_ca, z_ar_ca, z_ln_ca, z_tg_ca, z_sz_ca, z_sl_ca, y_pi, y_pl, y_pr, y_qi, y_ql, y_qr, y_ca]
    have c6' : ¬ (15 : Int32) < nI (bn L 17) := nI_nlt (a := 15) (by omega) (by omega)
    have f60' := f60_eq (p := bn L 18) h h2 h9 (by omega)
    have f61' := f61_eq (t := 6 + 3 * bn L 18) h h2 h91 hn8 (by rw [show 13 + (6 + 3 * bn L 18) = 19 + 3 * bn L 18 by omega]; omega)
    rw [show 14 + (6 + 3 * bn L 18) = 20 + 3 * bn L 18 by omega, show 13 + (6 + 3 * bn L 18) = 19 + 3 * bn L 18 by omega] at f61'
    cases r1 : rnb sw L 19 (-1) (bn L 18) with
    | false =>
      rw [r1, b2_f] at f60'
      simp [f62, b62_0, b62_37, b62_93, b62_94, ht, e5, ixl3, ixl2, x6, x7, x8, c2', c2'', c1, c2, e6, c3', c3, d0, d4, h2, h9, c4, c4', c5, c5', c6, c6', f60', b2, g_i, g_r, g_l, g_o, p_i, p_r, p_l, p_z, c_V, c_I, c_L, c_R, x_out, z_fl_pi, z_fr_pi, z_ai_pi, z_al_pi, z_ar_pi, z_ln_pi, z_tg_pi, z_sz_pi, z_sl_pi, z_fi_pl, z_fr_pl, z_ai_pl, z_al_pl, z_ar_pl, z_ln_pl, z_tg_pl, z_sz_pl, z_sl_pl, z_fi_pr, z_fl_pr, z_ai_pr, z_al_pr, z_ar_pr, z_ln_pr, z_tg_pr, z_sz_pr, z_sl_pr, z_fi_qi, z_fl_qi, z_fr_qi, z_al_qi, z_ar_qi, z_ln_qi, z_tg_qi, z_sz_qi, z_sl_qi, z_fi_ql, z_fl_ql, z_fr_ql, z_ai_ql, z_ar_ql, z_ln_ql, z_tg_ql, z_sz_ql, z_sl_ql, z_fi_qr, z_fl_qr, z_fr_qr, z_ai_qr, z_al_qr, z_ln_qr, z_tg_qr, z_sz_qr, z_sl_qr, z_fi_ca, z_fl_ca, z_fr_ca, z_al_ca, z_ar_ca, z_ln_ca, z_tg_ca, z_sz_ca, z_sl_ca, y_pi, y_pl, y_pr, y_qi, y_ql, y_qr, y_ca]
    | true =>
      rw [r1, b2_t] at f60'
      cases r2 : rno nd L (20 + 3 * bn L 18) (-1) 0 (bn L (19 + 3 * bn L 18)) with
      | false =>
        rw [r2, b2_f] at f61'
        simp [f62, b62_0, b62_37, b62_93, b62_94, ht, e5, ixl3, ixl2, x6, x7, x8, c2', c2'', c1, c2, e6, c3', c3, d0, d4, h2, h9, c4, c4', c5, c5', c6, c6', f60', f61', b2, g_i, g_r, g_l, g_o, p_i, p_r, p_l, p_z, c_V, c_I, c_L, c_R, x_out, z_fl_pi, z_fr_pi, z_ai_pi, z_al_pi, z_ar_pi, z_ln_pi, z_tg_pi, z_sz_pi, z_sl_pi, z_fi_pl, z_fr_pl, z_ai_pl, z_al_pl, z_ar_pl, z_ln_pl, z_tg_pl, z_sz_pl, z_sl_pl, z_fi_pr, z_fl_pr, z_ai_pr, z_al_pr, z_ar_pr, z_ln_pr, z_tg_pr, z_sz_pr, z_sl_pr, z_fi_qi, z_fl_qi, z_fr_qi, z_al_qi, z_ar_qi, z_ln_qi, z_tg_qi, z_sz_qi, z_sl_qi, z_fi_ql, z_fl_ql, z_fr_ql, z_ai_ql, z_ar_ql, z_ln_ql, z_tg_ql, z_sz_ql, z_sl_ql, z_fi_qr, z_fl_qr, z_fr_qr, z_ai_qr, z_al_qr, z_ln_qr, z_tg_qr, z_sz_qr, z_sl_qr, z_fi_ca, z_fl_ca, z_fr_ca, z_al_ca, z_ar_ca, z_ln_ca, z_tg_ca, z_sz_ca, z_sl_ca, y_pi, y_pl, y_pr, y_qi, y_ql, y_qr, y_ca]
      | true =>
        rw [r2, b2_t] at f61'
        simp [f62, b62_0, b62_37, b62_93, b62_94, ht, e5, ixl3, ixl2, x6, x7, x8, c2', c2'', c1, c2, e6, c3', c3, d0, d4, h2, h9, c4, c4', c5, c5', c6, c6', f60', f61', b2, g_i, g_r, g_l, g_o, p_i, p_r, p_l, p_z, c_V, c_I, c_L, c_R, x_out, z_fl_pi, z_fr_pi, z_ai_pi, z_al_pi, z_ar_pi, z_ln_pi, z_tg_pi, z_sz_pi, z_sl_pi, z_fi_pl, z_fr_pl, z_ai_pl, z_al_pl, z_ar_pl, z_ln_pl, z_tg_pl, z_sz_pl, z_sl_pl, z_fi_pr, z_fl_pr, z_ai_pr, z_al_pr, z_ar_pr, z_ln_pr, z_tg_pr, z_sz_pr, z_sl_pr, z_fi_qi, z_fl_qi, z_fr_qi, z_al_qi, z_ar_qi, z_ln_qi, z_tg_qi, z_sz_qi, z_sl_qi, z_fi_ql, z_fl_ql, z_fr_ql, z_ai_ql, z_ar_ql, z_ln_ql, z_tg_ql, z_sz_ql, z_sl_ql, z_fi_qr, z_fl_qr, z_fr_qr, z_ai_qr, z_al_qr, z_ln_qr, z_tg_qr, z_sz_qr, z_sl_qr, z_fi_ca, z_fl_ca, z_fr_ca, z_al_ca, z_ar_ca, z_ln_ca, z_tg_ca, z_sz_ca, z_sl_ca, y_pi, y_pl, y_pr, y_qi, y_ql, y_qr, y_ca]
  · have c3' : ¬ nI (L.length - 17) = nI (7 + 3 * bn L 18 + 2 * bn L (19 + 3 * bn L 18)) := fun q => c3 (by have := (nI_eq (by omega) (by omega)).mp q; omega)
    simp [f62, b62_0, b62_37, b62_93, b62_94, ht, e5, ixl3, ixl2, x6, x7, x8, c2', c1, c2, e6, c3', c3, b2, g_i, g_r, g_l, g_o, p_i, p_r, p_l, p_z, c_V, c_I, c_L, c_R, x_out, z_fl_pi, z_fr_pi, z_ai_pi, z_al_pi, z_ar_pi, z_ln_pi, z_tg_pi, z_sz_pi, z_sl_pi, z_fi_pl, z_fr_pl, z_ai_pl, z_al_pl, z_ar_pl, z_ln_pl, z_tg_pl, z_sz_pl, z_sl_pl, z_fi_pr, z_fl_pr, z_ai_pr, z_al_pr, z_ar_pr, z_ln_pr, z_tg_pr, z_sz_pr, z_sl_pr, z_fi_qi, z_fl_qi, z_fr_qi, z_al_qi, z_ar_qi, z_ln_qi, z_tg_qi, z_sz_qi, z_sl_qi, z_fi_ql, z_fl_ql, z_fr_ql, z_ai_ql, z_ar_ql, z_ln_ql, z_tg_ql, z_sz_ql, z_sl_ql, z_fi_qr, z_fl_qr, z_fr_qr, z_ai_qr, z_al_qr, z_ln_qr, z_tg_qr, z_sz_qr, z_sl_qr, z_fi_ca, z_fl_ca, z_fr_ca, z_al_ca, z_ar_ca, z_ln_ca, z_tg_ca, z_sz_ca, z_sl_ca, y_pi, y_pl, y_pr, y_qi, y_ql, y_qr, y_ca]
end TC
