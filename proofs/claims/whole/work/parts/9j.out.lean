/-! ===== outPort and wayOn ===== -/
/-- a switch's own record tells of ports that lead to switches -/
def OWN (sw : Nat) (pe : Nat → Option Nat) (kR : Nat → rK) : Prop := ∀ s L, s < sw → kR s s = some L → ∀ k, k < L.getD 5 0 → ∃ y, pe (8 * s + L.getD (6 + 3 * k) 0) = some y ∧ y < 40
theorem wtK_rg {sw : Nat} {K : rK} {s e : Nat} (h5 : sw ≤ 5) (hK : rKo sw K) : wtK sw K s e = -1 ∨ ∃ j, j < rgo (K s) 5 ∧ wtK sw K s e = nI (rgo (K s) (6 + 3 * j)) ∧ rgo (K s) (6 + 3 * j) < 8 := by
  unfold wtK
  split
  · exact Or.inl rfl
  · split
    · exact Or.inl rfl
    · exact wyK_rg hK
section OP
variable {sw nd rm : Nat} {M M' : hM} {S T : sT} {ia : Nat → Nat → Int32} {w t zb sb : Nat} {pe : Nat → Option Nat} {wo : Nat → Nat} {flc flr : Nat → List (List Int32)} {hc : List (Nat × Int32 × List Int32)} {hs : List (Nat × List Int32)} {kR : Nat → rK} {ka : Nat → Nat → Nat} {tog : Nat → Bool} {s p f τ : Nat} {X : List Int32} {fr : Int32}
/-- what both find: out of 2, 3 or a port -/
def oW (nd : Nat) (S : sT) (pe : Nat → Option Nat) (s : Nat) (fr : Int32) (r v : Int32) : Prop := (r = -2 ∧ v = 2) ∨ (r = -3 ∧ v = 3) ∨ ∃ q, q < 8 ∧ r = nI q ∧ v = nI (16 + q) ∧ (ndA pe (8 * s + q) = -1 ∨ cmz nd (S.1 38 0) (S.1 37) ((fr &&& 255) - 1) (ndA pe (8 * s + q)) = true)
theorem P_far (h : SB sw nd rm M S ia w pe wo t zb sb flc flr hc hs kR ka tog) (hown : OWN sw pe kR) (hss : s < sw) (hτ : τ < 16777216) (hks : ks [32] S T) : ∃ r v T', x_out (b133_68 (10 + s) (nI τ) M) = some (some (.inl r), M) ∧ s_out (c225_183 (nI s) (nI τ >>> ((16 : Int32) &&& 31)) T) = some (v, T') ∧ ks [32] S T' ∧ oW nd S pe s fr r v := by
  have hI := h.st.I
  have hsw := hI.bs.1.2
  have hT := h.ks32 hks
  have rc := hT.rc hss
  obtain ⟨hl, hK⟩ := rc.kl hsw
  have hD : nI τ >>> ((16 : Int32) &&& 31) = nI (τ / 65536) := pk_shrN (by omega) _ 16 (by decide)
  have e132 := f132_eq hI hss rc.2.2.2.2.2.1 rc.2.2.2.2.1 (e := τ / 65536) (by omega)
  have e132 : f132 [.inr (.inr (some (10 + s))), .inl (nI (τ / 65536))] M = some (some (.inl (wtK sw (kR s) s (τ / 65536))), M) := e132
  obtain ⟨T', t1, t2⟩ := e201_eq (e := τ / 65536) hss hsw (by omega) hT.st.2.2.1.1 rc.2.2.1 hl hK
  have h1 := hI.si0 hss
  rw [hD]
  rcases wtK_rg (s := s) (e := τ / 65536) hsw hK with q | ⟨j, j1, j2, j3⟩
  · refine ⟨-3, 3, T', ?_, ?_, hks.tt t2 (fun _ q => q), Or.inr (Or.inl ⟨rfl, rfl⟩)⟩
    · unfold b133_68
      rw [bd_s (g_o_t (ci := 10) h1), hD, bd_s (c_I_of e132)]
      show x_out (if wtK sw (kR s) s (τ / 65536) = -1 then _ else _) = _
      rw [if_pos q]
      rfl
    · unfold c225_183
      rw [bd_s t1]
      show s_out (if wtK sw (kR s) s (τ / 65536) = -1 then _ else _) = _
      rw [if_pos q]
      rfl
  · have m1 : ¬ wtK sw (kR s) s (τ / 65536) = -1 := by rw [j2]; exact nI_m1 (by omega)
    refine ⟨nI (rgo (kR s s) (6 + 3 * j)), nI (16 + rgo (kR s s) (6 + 3 * j)), T', ?_, ?_, hks.tt t2 (fun _ q => q), Or.inr (Or.inr ⟨_, j3, rfl, rfl, Or.inl ?_⟩)⟩
    · unfold b133_68
      rw [bd_s (g_o_t (ci := 10) h1), hD, bd_s (c_I_of e132)]
      show x_out (if wtK sw (kR s) s (τ / 65536) = -1 then _ else b133_91 (wtK sw (kR s) s (τ / 65536)) M) = _
      rw [if_neg m1, j2]
      rfl
    · unfold c225_183
      rw [bd_s t1]
      show s_out (if wtK sw (kR s) s (τ / 65536) = -1 then _ else c225_207 (16 + wtK sw (kR s) s (τ / 65536)) T') = _
      rw [if_neg m1, j2]
      have : (16 : Int32) + nI (rgo (kR s s) (6 + 3 * j)) = nI (16 + rgo (kR s s) (6 + 3 * j)) := nI_add 16 _
      rw [this]
      rfl
    · cases hL : kR s s with
      | none => rw [hL] at j1; have j1 : j < 0 := j1; omega
      | some L =>
        rw [hL] at j1
        obtain ⟨y, y1, y2⟩ := hown s L hss hL j j1
        show ndA pe (8 * s + L.getD (6 + 3 * j) 0) = -1
        unfold ndA
        rw [y1]
        show (if 40 ≤ y then _ else _) = _
        rw [if_neg (by omega)]
theorem P_near (h : SB sw nd rm M S ia w pe wo t zb sb flc flr hc hs kR ka tog) (hown : OWN sw pe kR) (hss : s < sw) (hτ : τ < 16777216) : ∃ r v T', x_out (b133_50 (10 + s) fr (nI τ) ((nI τ &&& 255) - 1) M) = some (some (.inl r), M) ∧ s_out (c225_59 (nI s) (nI τ) fr S) = some (v, T') ∧ ks [32] S T' ∧ oW nd S pe s fr r v := by
  have hI := h.st.I
  have hsw := hI.bs.1.2
  have hW := h.st.W
  have h1 := hI.si0 hss
  obtain ⟨d, d1, d2, d3, d4⟩ := h.st.2.2.2.2.2 s hss
  have hD : nI τ >>> ((16 : Int32) &&& 31) = nI (τ / 65536) := pk_shrN (by omega) _ 16 (by decide)
  have hs5 : s < 5 := by omega
  have gd : g_i M 10 3 (some (10 + s)) = some (nI d) := (g_i_t (ci := 10) h1).trans (congrArg some d3)
  unfold b133_50 c225_59
  rw [bd_s gd, bd_s (ga26 hs5), d4]
  by_cases c0 : nI τ >>> ((16 : Int32) &&& 31) = nI d
  · rw [if_pos c0, if_pos c0]
    have rc := h.rc hss
    obtain ⟨hl, hK⟩ := rc.kl hsw
    obtain ⟨T, t1, t2⟩ := e200_eq hss hsw rc.2.2.1 hl hK
    have go : g_i M 10 10 (some (10 + s)) = some (b2 (ofK sw (kR s) s)) := (g_i_t (ci := 10) h1).trans (congrArg some rc.2.2.2.2.2.2)
    rw [bd_s go, bd_s t1]
    show ∃ r v T', x_out (if b2 (ofK sw (kR s) s) = 0 then _ else _) = _ ∧ s_out (if b2 (ofK sw (kR s) s) = 0 then _ else _) = _ ∧ _
    by_cases co : b2 (ofK sw (kR s) s) = 0
    · rw [if_pos co, if_pos co]
      have hT := h.ks32 t2
      have hP : (nI τ >>> ((8 : Int32) &&& 31)) &&& 255 = nI (τ / 256 % 256) := by
        rw [pk_shrN (by omega) _ 8 (by decide), pk_andN (by omega) 8 (by decide)]
      rw [hP]
      have lt : τ / 256 % 256 < 256 := Nat.mod_lt _ (by omega)
      generalize hq : τ / 256 % 256 = q at lt
      by_cases c8 : 8 ≤ q
      · have e1 : (8 : Int32) ≤ nI q := nI_le (a := 8) c8 (by omega)
        have e2 : (7 : Int32) < nI q := nI_lt (a := 7) (by omega) (by omega)
        rw [if_pos e1, if_pos e2]
        exact ⟨-3, 3, T, rfl, rfl, t2, Or.inr (Or.inl ⟨rfl, rfl⟩)⟩
      · have e1 : ¬ (8 : Int32) ≤ nI q := nI_ge (b := 8) (by omega) (by omega)
        have e2 : ¬ (7 : Int32) < nI q := nI_nlt (a := 7) (by omega) (by omega)
        rw [if_neg e1, if_neg e2]
        have hq8 : q < 8 := by omega
        have hx : sd sw nd (8 * s + q) := sd_sp hss hq8
        have hx8 := hI.x8 hx
        have tp := hI.po0 hx
        have gp : g_r M 10 2 (some (10 + s)) = some (some (20 + s)) := (g_r_t (ci := 10) h1).trans (congrArg some (hI.si3 hss))
        have gu : g_i M 8 5 (some (200 + (8 * s + q))) = some (upS S (8 * s + q)) := (g_i_t (ci := 8) tp).trans (congrArg some (hW.up hx))
        have g175 : ∀ U : sT, e175 (nI s) (nI q) U = some (nI (8 * s + q), U) := fun U => by
          have : nI (8 * s) + nI q = nI (8 * s + q) := nI_add _ _
          simp [e175, c175_0, ixl8, this, s_out]
        have g177 : e177 (nI (8 * s + q)) T = some (upS S (8 * s + q), T) := by
          rw [e177_eq hT.st.W.wO hx8, upS_ks t2 (by decide) (by decide)]
        have g179 : e179 (nI (8 * s + q)) T = some (ndA pe (8 * s + q), T) := e179_eq hT.st.W hx8 (fun y hy => hI.x8 (hW.sds hy).2.1)
        have g189 : ∀ v U, e189 v U = some ((v &&& 255) - 1, U) := fun v U => rfl
        rw [bd_s gp, bd_s (port_a hI hss hq8), bd_s gu, bd_s (g175 T)]
        show ∃ r v T', x_out (if upS S (8 * s + q) = 0 then _ else _) = _ ∧ s_out (Option.bind (e177 (nI (8 * s + q)) T) _) = _ ∧ _
        rw [bd_s g177]
        show ∃ r v T', x_out (if upS S (8 * s + q) = 0 then _ else _) = _ ∧ s_out (if upS S (8 * s + q) = 0 then _ else _) = _ ∧ _
        by_cases cu : upS S (8 * s + q) = 0
        · rw [if_pos cu, if_pos cu]
          exact ⟨-3, 3, T, rfl, rfl, t2, Or.inr (Or.inl ⟨rfl, rfl⟩)⟩
        · rw [if_neg cu, if_neg cu]
          have e116 := f116_eq hI hW hx
          have gg : g_o M 8 (some (200 + (8 * s + q))) = some (200 + (8 * s + q)) := g_o_t (ci := 8) tp
          rw [bd_s (g175 T)]
          show ∃ r v T', _ ∧ s_out (Option.bind (e179 (nI (8 * s + q)) T) _) = _ ∧ _
          rw [bd_s g179]
          show ∃ r v T', _ ∧ s_out (if ndA pe (8 * s + q) = -1 then _ else _) = _ ∧ _
          by_cases cn : (nI τ &&& 255) - 1 < 0
          · rw [if_pos cn]
            -- no node has that number
            have hne : ¬ ndA pe (8 * s + q) = (nI τ &&& 255) - 1 ∨ ndA pe (8 * s + q) = -1 := by
              by_cases z : ndA pe (8 * s + q) = -1
              · exact Or.inr z
              · refine Or.inl (fun y => ?_)
                rw [← y] at cn
                unfold ndA at cn z
                cases hpe : pe (8 * s + q) with
                | none => rw [hpe] at z; exact z rfl
                | some y' =>
                  rw [hpe] at cn z
                  by_cases w4 : 40 ≤ y'
                  · have cn : (if 40 ≤ y' then nI (y' - 40) else -1) < 0 := cn
                    rw [if_pos w4] at cn
                    have := hI.x8 (hW.sds hpe).2.1
                    exact nI_pos (by omega) cn
                  · have z : ¬ (if 40 ≤ y' then nI (y' - 40) else -1) = -1 := z
                    rw [if_neg w4] at z
                    exact z rfl
            by_cases z : ndA pe (8 * s + q) = -1
            · rw [if_pos z]
              exact ⟨-3, 3, T, rfl, rfl, t2, Or.inr (Or.inl ⟨rfl, rfl⟩)⟩
            · rw [if_neg z, bd_s (g175 T)]
              show ∃ r v T', _ ∧ s_out (Option.bind (e179 (nI (8 * s + q)) T) _) = _ ∧ _
              rw [bd_s g179]
              show ∃ r v T', _ ∧ s_out (if ndA pe (8 * s + q) = (nI τ &&& 255) - 1 then _ else _) = _ ∧ _
              rw [if_neg (hne.resolve_right z)]
              exact ⟨-3, 3, T, rfl, rfl, t2, Or.inr (Or.inl ⟨rfl, rfl⟩)⟩
          · rw [if_neg cn, bd_s gp, bd_s (port_a hI hss hq8), bd_s gg, bd_s (c_I_of e116)]
            show ∃ r v T', x_out (if ndA pe (8 * s + q) = (nI τ &&& 255) - 1 then _ else _) = _ ∧ _ ∧ _
            by_cases z : ndA pe (8 * s + q) = -1
            · have zn : ¬ ndA pe (8 * s + q) = (nI τ &&& 255) - 1 := fun y => cn (by rw [← y, z]; decide)
              rw [if_neg zn, if_pos z]
              exact ⟨-3, 3, T, rfl, rfl, t2, Or.inr (Or.inl ⟨rfl, rfl⟩)⟩
            · rw [if_neg z, bd_s (g175 T)]
              show ∃ r v T', _ ∧ s_out (Option.bind (e179 (nI (8 * s + q)) T) _) = _ ∧ _
              rw [bd_s g179]
              show ∃ r v T', _ ∧ s_out (if ndA pe (8 * s + q) = (nI τ &&& 255) - 1 then _ else _) = _ ∧ _
              by_cases cm : ndA pe (8 * s + q) = (nI τ &&& 255) - 1
              · rw [if_pos cm, if_pos cm]
                have hzn := h.st.zn h.pb
                have e125 := f125_eq (v := (fr &&& 255) - 1) (u := (nI τ &&& 255) - 1) (zs := S.1 37) hI hzn
                rw [h.st.2.2.2.2.1.2.1] at e125
                have g188 : e188 ((fr &&& 255) - 1) ((nI τ &&& 255) - 1) T = some (b2 (cmz nd (S.1 38 0) (S.1 37) ((fr &&& 255) - 1) ((nI τ &&& 255) - 1)), T) := by
                  have := e188_eq (S := T) (nd := nd) (v := (fr &&& 255) - 1) (u := (nI τ &&& 255) - 1) hT.st.2.2.1.2.1
                  rw [t2.i (by decide), t2.i (by decide)] at this
                  exact this
                have gsh : g_r M 10 0 (some (10 + s)) = some (some 2) := (g_r_t (ci := 10) h1).trans (congrArg some (hI.si1 hss))
                show ∃ r v T', x_out (Option.bind (g_r M 10 0 (some (10 + s))) _) = _ ∧ s_out (Option.bind (e188 ((fr &&& 255) - 1) ((nI τ &&& 255) - 1) T) _) = _ ∧ _
                rw [bd_s gsh, bd_s (g_o_t (ci := 9) hI.sh0), bd_s (c_I_of e125), bd_s g188]
                show ∃ r v T', x_out (if b2 (cmz nd (S.1 38 0) (S.1 37) ((fr &&& 255) - 1) ((nI τ &&& 255) - 1)) = 0 then _ else _) = _ ∧ s_out (if b2 (cmz nd (S.1 38 0) (S.1 37) ((fr &&& 255) - 1) ((nI τ &&& 255) - 1)) = 0 then _ else _) = _ ∧ _
                by_cases cz : b2 (cmz nd (S.1 38 0) (S.1 37) ((fr &&& 255) - 1) ((nI τ &&& 255) - 1)) = 0
                · rw [if_pos cz, if_pos cz]
                  exact ⟨-2, 2, T, rfl, rfl, t2, Or.inl ⟨rfl, rfl⟩⟩
                · rw [if_neg cz, if_neg cz]
                  have e16 : (16 : Int32) + nI q = nI (16 + q) := nI_add 16 _
                  refine ⟨nI q, nI (16 + q), T, rfl, by rw [e16]; rfl, t2, Or.inr (Or.inr ⟨q, hq8, rfl, rfl, Or.inr ?_⟩)⟩
                  rw [cm]
                  by_cases y : cmz nd (S.1 38 0) (S.1 37) ((fr &&& 255) - 1) ((nI τ &&& 255) - 1) = true
                  · exact y
                  · exact absurd (b2_z.mpr (by simpa using y)) cz
              · rw [if_neg cm, if_neg cm]
                exact ⟨-3, 3, T, rfl, rfl, t2, Or.inr (Or.inl ⟨rfl, rfl⟩)⟩
    · rw [if_neg co, if_neg co]
      exact P_far h hown hss hτ t2
  · rw [if_neg c0, if_neg c0]
    exact P_far h hown hss hτ ks.rf
end OP
