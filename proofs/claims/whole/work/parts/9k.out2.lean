section OQ
variable {sw nd rm : Nat} {M M' : hM} {S T : sT} {ia : Nat → Nat → Int32} {w t zb sb : Nat} {pe : Nat → Option Nat} {wo : Nat → Nat} {flc flr : Nat → List (List Int32)} {hc : List (Nat × Int32 × List Int32)} {hs : List (Nat × List Int32)} {kR : Nat → rK} {ka : Nat → Nat → Nat} {tog : Nat → Bool} {s p f τ : Nat} {X : List Int32}
theorem P_out (h : SB sw nd rm M S ia w pe wo t zb sb flc flr hc hs kR ka tog) (hown : OWN sw pe kR) (hss : s < sw) (hp : p < 8) (hτ : τ < 16777216) (hX : rdS S f X) (h13 : 13 ≤ X.length) : ∃ r v T', f133 [.inr (.inr (some (10 + s))), .inr (.inr (some (200 + (8 * s + p)))), .inl (num X 4 3), .inl (nI τ)] M = some (some (.inl r), M) ∧ e225 (nI s) (nI (8 * s + p)) (nI f) (nI τ) S = some (v, T') ∧ ks [32] S T' ∧ oW nd S pe s (num X 4 3) r v := by
  have hI := h.st.I
  have hsw := hI.bs.1.2
  have hW := h.st.W
  have hx : sd sw nd (8 * s + p) := sd_sp hss hp
  have hx8 := hI.x8 hx
  have tp := hI.po0 hx
  have h1 := hI.si0 hss
  have g115 := f115_eq hI hW hx
  have g116 := f116_eq hI hW hx
  have g179 : e179 (nI (8 * s + p)) S = some (ndA pe (8 * s + p), S) := e179_eq hW hx8 (fun y hy => hI.x8 (hW.sds hy).2.1)
  have g166 : e166 (nI f) 4 3 S = some (num X 4 3, S) := r166 (i := 4) (n := 3) hX (by omega)
  have near := P_near (fr := num X 4 3) h hown hss hτ
  show ∃ r v T', x_out (b133_0 (10 + s) (some (200 + (8 * s + p))) (num X 4 3) (nI τ) M) = _ ∧ s_out (c225_0 (nI s) (nI (8 * s + p)) (nI f) (nI τ) S) = _ ∧ _
  unfold b133_0 c225_0
  rw [bd_s (g_o_t (ci := 8) tp), bd_s (c_I_of g115), bd_s g166]
  show ∃ r v T', x_out (if b2 (match pe (8 * s + p) with | some y => decide (40 ≤ y) | none => false) = 0 then _ else _) = _ ∧ s_out (Option.bind (e179 (nI (8 * s + p)) S) _) = _ ∧ _
  rw [bd_s g179]
  show ∃ r v T', x_out (if b2 (match pe (8 * s + p) with | some y => decide (40 ≤ y) | none => false) = 0 then _ else _) = _ ∧ s_out (if ndA pe (8 * s + p) = -1 then _ else _) = _ ∧ _
  cases e : pe (8 * s + p) with
  | none =>
    have n1 : ndA pe (8 * s + p) = -1 := by unfold ndA; rw [e]
    have b1 : b2 (match (none : Option Nat) with | some y => decide (40 ≤ y) | none => false) = 0 := rfl
    rw [if_pos b1, if_pos n1]
    exact near
  | some y =>
    by_cases c : 40 ≤ y
    · have n1 : ndA pe (8 * s + p) = nI (y - 40) := by unfold ndA; rw [e]; exact if_pos c
      have hy8 := hI.x8 (hW.sds e).2.1
      have n2 : ¬ ndA pe (8 * s + p) = -1 := by rw [n1]; exact nI_m1 (by omega)
      have b1 : ¬ b2 (match some y with | some y => decide (40 ≤ y) | none => false) = 0 := by simp [b2, c]
      obtain ⟨⟨p1, p2⟩, -⟩ := h.px (8 * s + p) hx
      have gg : g_i M 8 12 (some (200 + (8 * s + p))) = some (S.1 25 (8 * s + p)) := (g_i_t (ci := 8) tp).trans (congrArg some p2)
      have gsh : g_r M 10 0 (some (10 + s)) = some (some 2) := (g_r_t (ci := 10) h1).trans (congrArg some (hI.si1 hss))
      rw [if_neg b1, if_neg n2, bd_s gg, bd_s (ga25 hx8)]
      by_cases c0 : S.1 25 (8 * s + p) = 0
      · rw [if_pos c0, if_pos c0]
        exact ⟨-2, 2, S, rfl, rfl, ks.rf, Or.inl ⟨rfl, rfl⟩⟩
      · rw [if_neg c0, if_neg c0, bd_s gg, bd_s (ga25 hx8)]
        by_cases c1 : num X 4 3 = S.1 25 (8 * s + p)
        · have e125 := f125_eq (v := ndA pe (8 * s + p)) (u := (nI τ &&& 255) - 1) (zs := S.1 37) hI (h.st.zn h.pb)
          rw [h.st.2.2.2.2.1.2.1] at e125
          have g188 := e188_eq (S := S) (nd := nd) (v := ndA pe (8 * s + p)) (u := (nI τ &&& 255) - 1) h.st.2.2.1.2.1
          rw [if_pos c1, if_pos c1, bd_s gsh, bd_s (g_o_t (ci := 8) tp), bd_s (c_I_of g116), bd_s (g_o_t (ci := 9) hI.sh0), bd_s (c_I_of e125)]
          show ∃ r v T', x_out (if b2 (cmz nd (S.1 38 0) (S.1 37) (ndA pe (8 * s + p)) ((nI τ &&& 255) - 1)) = 0 then _ else _) = _ ∧ s_out (Option.bind (e188 (ndA pe (8 * s + p)) ((nI τ &&& 255) - 1) S) _) = _ ∧ _
          rw [bd_s g188]
          show ∃ r v T', x_out (if b2 (cmz nd (S.1 38 0) (S.1 37) (ndA pe (8 * s + p)) ((nI τ &&& 255) - 1)) = 0 then _ else _) = _ ∧ s_out (if b2 (cmz nd (S.1 38 0) (S.1 37) (ndA pe (8 * s + p)) ((nI τ &&& 255) - 1)) = 0 then _ else _) = _ ∧ _
          by_cases cz : b2 (cmz nd (S.1 38 0) (S.1 37) (ndA pe (8 * s + p)) ((nI τ &&& 255) - 1)) = 0
          · rw [if_pos cz, if_pos cz]
            exact ⟨-2, 2, S, rfl, rfl, ks.rf, Or.inl ⟨rfl, rfl⟩⟩
          · rw [if_neg cz, if_neg cz]
            exact near
        · rw [if_neg c1, if_neg c1]
          exact ⟨-2, 2, S, rfl, rfl, ks.rf, Or.inl ⟨rfl, rfl⟩⟩
    · have n1 : ndA pe (8 * s + p) = -1 := by unfold ndA; rw [e]; exact if_neg c
      have b1 : b2 (match some y with | some y => decide (40 ≤ y) | none => false) = 0 := by simp [b2, c]
      rw [if_pos b1, if_pos n1]
      exact near
end OQ
