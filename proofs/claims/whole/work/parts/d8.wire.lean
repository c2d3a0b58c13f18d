/-! ===== wire ===== -/
section WR
variable {sw nd rm : Nat} {M N M' : hM} {S T U V : sT} {ia : Nat → Nat → Int32} {w t x y z zb sb nc c s p n i a b f j : Nat} {pe : Nat → Option Nat} {wo : Nat → Nat} {fl : Nat → List (List Int32)} {kR : Nat → rK} {ka : Nat → Nat → Nat} {tog : Nat → Bool} {ca hh : Nat → Nat} {lv : Nat → Bool} {jj : Nat → Nat} {G : Nat → nG} {v v1 v2 v3 v4 v5 : Int32}
theorem f13_eq (hI : cI sw nd rm M) : f13 [.inr (.inr (some 1)), .inl v1, .inl v2] M = some (some (.inr (.inr ((sdV sw nd v1 v2).map (fun x => 200 + x)))), M) := by
  have h5 := hI.bs.1.2
  have h8 := hI.bs.2.1.2
  rcases sdV_c (sw := sw) (nd := nd) h5 h8 v1 v2 with z | ⟨s, p, hs, hp, rfl, rfl⟩ | ⟨n, hn, rfl, rfl⟩
  · rw [f13_no hI z, z]; rfl
  · rw [f13_s hI hs hp, sdV_s hs hp h5]; rfl
  · rw [f13_n hI hn, sdV_n hn h8]; rfl
theorem sdV_sd (h5 : sw ≤ 5) (h8 : nd ≤ 8) (h : sdV sw nd v1 v2 = some x) : sd sw nd x := by
  rcases sdV_c (sw := sw) (nd := nd) h5 h8 v1 v2 with z | ⟨s, p, hs, hp, rfl, rfl⟩ | ⟨n, hn, rfl, rfl⟩
  · rw [z] at h; cases h
  · rw [sdV_s hs hp h5] at h; cases h; exact sd_sp hs hp
  · rw [sdV_n hn h8] at h; cases h; exact sd_n hn
theorem su_id {k : Nat} (h : S.1 k i = v) : s_u S k i v = S := by
  refine Prod.ext (funext fun a => funext fun b => ?_) rfl
  show (if a = k ∧ b = i then v else S.1 a b) = S.1 a b
  by_cases c : a = k ∧ b = i
  · rw [if_pos c, c.1, c.2]; exact h.symm
  · rw [if_neg c]
/-- what never had a wire, emptied -/
theorem E_emp (h : FR T fl []) (hB : FLb fl) (hz : z < 48) (hf : fl z = [] ∧ fl (48 + z) = [] ∧ fl (96 + z) = []) (q20 : T.1 20 z = 0) (q21 : T.1 21 z = 0) (q23 : T.1 23 z = -1) (q25 : T.1 25 z = 0) (qn : 40 ≤ z → T.1 35 (z - 40) = 0 ∧ (∀ d, d < 8 → T.1 39 (8 * (z - 40) + d) = 0) ∧ T.1 41 (z - 40) = 0 ∧ T.1 46 (z - 40) = 0) : ∃ U, e187 (nI z) T = some U ∧ FR U fl [] ∧ ks [8, 9, 15, 24, 36] T U ∧ U.1 24 = u1 (T.1 24) z (-1000) ∧ U.1 36 = (if 40 ≤ z then u1 (T.1 36) (z - 40) (-1000) else T.1 36) := by
  obtain ⟨T0, r1, r2, r3, r4, r5⟩ := FR_emp h hz hB
  have efl : u1 (u1 (u1 fl z []) (96 + z) []) (48 + z) [] = fl := funext fun q => by
    by_cases q1 : q = 48 + z
    · subst q1; rw [u1_eq, hf.2.1]
    rw [u1_ne q1]
    by_cases q2 : q = 96 + z
    · subst q2; rw [u1_eq, hf.2.2]
    rw [u1_ne q2]
    by_cases q3 : q = z
    · subst q3; rw [u1_eq, hf.1]
    rw [u1_ne q3]
  rw [efl] at r1
  obtain ⟨b17, b19⟩ := h.bl hz
  rw [hf.2.1] at b17
  rw [hf.2.2] at b19
  have k0 := r2
  have eS : emS T0 z = s_u T0 24 z (-1000) := by
    unfold emS
    rw [su_id (show T0.1 17 z = 0 by rw [k0.i (j := 17) (by decide)]; exact b17), su_id (show T0.1 19 z = 0 by rw [k0.i (j := 19) (by decide)]; exact b19), su_id (show T0.1 20 z = 0 by rw [k0.i (j := 20) (by decide)]; exact q20), su_id (show T0.1 21 z = 0 by rw [k0.i (j := 21) (by decide)]; exact q21), su_id (show T0.1 23 z = -1 by rw [k0.i (j := 23) (by decide)]; exact q23)]
    exact su_id (by rw [su_ne (by decide), k0.i (j := 25) (by decide)]; exact q25)
  rw [eS] at r1 r4 r5
  have k1 : ks [8, 9, 15, 24, 36] T (s_u T0 24 z (-1000)) := ((ks.rf : ks [8, 9, 15, 24, 36] T T).tr k0 rfl).tr k_su rfl
  by_cases z40 : 40 ≤ z
  · obtain ⟨n, rfl⟩ : ∃ n, z = 40 + n := ⟨z - 40, by omega⟩
    rw [show 40 + n - 40 = n by omega] at qn r5 ⊢
    obtain ⟨n1, n2, n3, n4⟩ := qn z40
    have n8 : n < 8 := by omega
    have k1' : ks [24] T0 (s_u T0 24 (40 + n) (-1000)) := k_su
    have e35 : s_u (s_u (s_u T0 24 (40 + n) (-1000)) 36 n (-1000)) 35 n 0 = s_u (s_u T0 24 (40 + n) (-1000)) 36 n (-1000) := su_id (by rw [su_ne (by decide), su_ne (by decide), k0.i (j := 35) (by decide)]; exact n1)
    have k2 : ks [8, 9, 15, 24, 36] T (s_u (s_u T0 24 (40 + n) (-1000)) 36 n (-1000)) := k1.tr k_su rfl
    obtain ⟨U, y1, y2, y3, y4, y5, y6, y7⟩ := k186_2 n8 8 0 (s_u (s_u T0 24 (40 + n) (-1000)) 36 n (-1000)) xF (by omega) (by unfold xF; omega)
    have eU : U = s_u (s_u T0 24 (40 + n) (-1000)) 36 n (-1000) := by
      refine Prod.ext (funext fun k => funext fun i => ?_) y3
      by_cases c1 : k = 39
      · subst c1
        by_cases c : i < 8 * n + 0 ∨ 8 * n + 8 ≤ i
        · exact y7 i c
        · obtain ⟨d, rfl⟩ : ∃ d, i = 8 * n + d := ⟨i - 8 * n, by omega⟩
          rw [y6 d (by omega) (by omega), k2.i (j := 39) (by decide)]
          exact (n2 d (by omega)).symm
      by_cases c2 : k = 41
      · subst c2
        rw [y4]
        by_cases c : i = n
        · subst c; rw [u1_eq, k2.i (j := 41) (by decide)]; exact n3.symm
        · rw [u1_ne c]
      by_cases c3 : k = 46
      · subst c3
        rw [y5]
        by_cases c : i = n
        · subst c; rw [u1_eq, k2.i (j := 46) (by decide)]; exact n4.symm
        · rw [u1_ne c]
      · exact congrFun (y2 k (fun q => by
          rcases List.mem_cons.mp q with q | q
          · exact c1 q
          rcases List.mem_cons.mp q with q | q
          · exact c2 q
          · exact c3 (List.mem_singleton.mp q))).1 i
    have ev : e186 (nI n) (s_u (s_u (s_u T0 24 (40 + n) (-1000)) 36 n (-1000)) 35 n 0) = some U := by
      rw [e35]
      exact y1
    refine ⟨U, r5 U z40 ev, ?_, ?_, ?_, ?_⟩
    · rw [eU]
      exact r1.cg (k_su : ks [36] _ _) (by decide)
    · rw [eU]; exact k2
    · rw [eU, su_ne (by decide), su_eq, k0.i (j := 24) (by decide)]
    · rw [eU, su_eq, su_ne (by decide), k0.i (j := 36) (by decide), if_pos z40]
  · refine ⟨_, r4 (by omega), r1, k1, ?_, ?_⟩
    · rw [su_eq, k0.i (j := 24) (by decide)]
    · rw [su_ne (by decide), k0.i (j := 36) (by decide), if_neg z40]
theorem cI.qr {o : Option Nat} (h : cI sw nd rm M) (hb : b = 5 ∨ b = 6) : cI sw nd rm (h_qr M b i o) := by
  have ne : ∀ q, q ≠ 5 → q ≠ 6 → ∀ j, h_ar (h_qr M b i o) q j = h_ar M q j := fun q h5 h6 j => u2_nk (by omega)
  refine ⟨h.1, h.2.1, h.2.2.1, h.2.2.2.1, fun s hs => ?_, h.sa, fun s p hs hp => ?_, fun s a hs ha => ?_, fun n hn => ?_, h.ho, h.po, h.nt⟩
  · obtain ⟨a1, a2, a3, a4, a5, a6, a7, a8, a9, a10⟩ := h.si s hs
    exact ⟨a1, a2, a3, a4, a5, a6, a7, a8, a9, (ne 8 (by omega) (by omega) _).trans a10⟩
  · exact (ne _ (by omega) (by omega) _).trans (h.sp s p hs hp)
  · obtain ⟨a1, a2, a3⟩ := h.ss s a hs ha
    exact ⟨(ne _ (by omega) (by omega) _).trans a1, (ne _ (by omega) (by omega) _).trans a2, a3⟩
  · obtain ⟨a1, a2, a3, a4, a5⟩ := h.no n hn
    exact ⟨a1, a2, a3, a4, (ne _ (by omega) (by omega) _).trans a5⟩
/-- the class's heap with a new wire -/
def wA1 (M : hM) (x y : Nat) (v : Int32) : hM := h_pi (h_pi (h_pr (h_pr M 803 (200 + x) (some (200 + y))) 803 (200 + y) (some (200 + x))) 804 (200 + x) v) 804 (200 + y) v
def wA3 (rm : Nat) (M : hM) (x y w : Nat) (v : Int32) : hM := h_qr (h_qr (cuM rm (cuM rm (wA1 M x y v) x) y) 5 w (some (200 + x))) 6 w (some (200 + y))
def wA4 (rm : Nat) (M : hM) (x y w : Nat) (v : Int32) : hM := h_pi (wA3 rm M x y w v) 1105 1 (nI w + 1)
theorem wA1_kp (hI : cI sw nd rm M) (hb : bk M) (sx : sd sw nd x) (sy : sd sw nd y) : kp [803, 804] [] M (wA1 M x y v) := by
  have tx : h_tg M (200 + x) ≠ 0 := by rw [hI.po0 sx]; decide
  have ty : h_tg M (200 + y) ≠ 0 := by rw [hI.po0 sy]; decide
  have k1 := k_hpr (f := 803) (a := 200 + x) (v := some (200 + y)) hb tx
  have k2 := k_hpr (f := 803) (a := 200 + y) (v := some (200 + x)) k1.1 ty
  have k3 := k_hpi (f := 804) (a := 200 + x) (v := v) k2.1 tx
  have k4 := k_hpi (f := 804) (a := 200 + y) (v := v) k3.1 ty
  exact ((((kp.rf hb : kp [803, 804] [] M M).tr k1 rfl rfl).tr k2 rfl rfl).tr k3 rfl rfl).tr k4 rfl rfl
theorem wA4_kp (hI : cI sw nd rm M) (hb : bk M) (sx : sd sw nd x) (sy : sd sw nd y) : kp [803, 804, 805, 806, 814, 1105] [38] M (wA4 rm M x y w v) ∧ cI sw nd rm (wA4 rm M x y w v) := by
  have k1 := wA1_kp (v := v) hI hb sx sy
  have hI1 := hI.keep k1 (by decide) (by decide)
  have k2 := cu_kp (rm := rm) k1.1 (hI1.po0 sx)
  have hI2 := hI1.keep k2 (by decide) (by decide)
  have k3 := cu_kp (rm := rm) k2.1 (hI2.po0 sy)
  have hI3 := hI2.keep k3 (by decide) (by decide)
  have k4 := k_hqr (i := w) (v := some (200 + x)) k3.1 hI3.ar4 (by decide)
  have hI4 : cI sw nd rm (h_qr (cuM rm (cuM rm (wA1 M x y v) x) y) 5 w (some (200 + x))) := hI3.qr (Or.inl rfl)
  have k5 := k_hqr (i := w) (v := some (200 + y)) k4.1 hI4.ar6 (by decide)
  have hI5 : cI sw nd rm (wA3 rm M x y w v) := hI4.qr (Or.inr rfl)
  have k6 := k_hpi (f := 1105) (a := 1) (v := nI w + 1) k5.1 (show h_tg (wA3 rm M x y w v) 1 ≠ 0 by rw [hI5.fab0]; decide)
  refine ⟨((((((kp.rf hb : kp [803, 804, 805, 806, 814, 1105] [38] M M).tr k1 rfl rfl).tr k2 rfl rfl).tr k3 rfl rfl).tr k4 rfl rfl).tr k5 rfl rfl).tr k6 rfl rfl, hI5.keep k6 (by decide) (by decide)⟩
theorem cu_fr : h_fr (cuM rm M x) = h_fr M := by
  unfold cuM
  rw [z_fr_pi, z_fr_pi, z_fr_pi]
theorem cu_ai : h_ai (cuM rm M x) = h_ai M := by
  unfold cuM
  rw [z_ai_pi, z_ai_pi, z_ai_pi]
theorem cu_ar : h_ar (cuM rm M x) = h_ar M := by
  unfold cuM
  rw [z_ar_pi, z_ar_pi, z_ar_pi]
theorem wA1_ai : h_ai (wA1 M x y v) = h_ai M := by
  unfold wA1
  rw [z_ai_pi, z_ai_pi, z_ai_pr, z_ai_pr]
theorem wA1_ar : h_ar (wA1 M x y v) = h_ar M := by
  unfold wA1
  rw [z_ar_pi, z_ar_pi, z_ar_pr, z_ar_pr]
theorem wA4_ai : h_ai (wA4 rm M x y w v) = h_ai M := by
  unfold wA4 wA3
  rw [z_ai_pi, z_ai_qr, z_ai_qr, cu_ai, cu_ai, wA1_ai]
theorem wA4_ar {q i : Nat} : h_ar (wA4 rm M x y w v) q i = if q = 6 ∧ i = w then some (200 + y) else if q = 5 ∧ i = w then some (200 + x) else h_ar M q i := by
  unfold wA4 wA3
  rw [z_ar_pi, y_qr, y_qr, cu_ar, cu_ar, wA1_ar]
theorem wA4_803 : h_fr (wA4 rm M x y w v) 803 = u1 (u1 (h_fr M 803) (200 + x) (some (200 + y))) (200 + y) (some (200 + x)) := by
  unfold wA4 wA3
  rw [z_fr_pi, z_fr_qr, z_fr_qr, cu_fr, cu_fr]
  unfold wA1
  rw [z_fr_pi, z_fr_pi, fr_eq, fr_eq]
theorem wA4_cu (k : Nat) (h : k ≠ 1105) : h_fi (wA4 rm M x y w v) k = h_fi (cuM rm (cuM rm (wA1 M x y v) x) y) k := by
  unfold wA4 wA3
  rw [fi_ne h, z_fi_qr, z_fi_qr]
theorem wA1_fi (k : Nat) (h : k ≠ 804) : h_fi (wA1 M x y v) k = h_fi M k := by
  unfold wA1
  rw [fi_ne h, fi_ne h, z_fi_pr, z_fi_pr]
theorem wA4_804 : h_fi (wA4 rm M x y w v) 804 = u1 (u1 (h_fi M 804) (200 + x) v) (200 + y) v := by
  rw [wA4_cu _ (by decide)]
  unfold cuM
  rw [fi_ne (by decide), fi_ne (by decide), fi_ne (by decide), fi_ne (by decide), fi_ne (by decide), fi_ne (by decide)]
  unfold wA1
  rw [fi_eq, fi_eq, z_fi_pr, z_fi_pr]
theorem wA4_805 : h_fi (wA4 rm M x y w v) 805 = u1 (u1 (h_fi M 805) (200 + x) 1) (200 + y) 1 := by rw [wA4_cu _ (by decide), cu_805, cu_805, wA1_fi _ (by decide)]
theorem wA4_806 : h_fi (wA4 rm M x y w v) 806 = u1 (u1 (h_fi M 806) (200 + x) (nI rm)) (200 + y) (nI rm) := by rw [wA4_cu _ (by decide), cu_806, cu_806, wA1_fi _ (by decide)]
theorem wA4_814 : h_fi (wA4 rm M x y w v) 814 = u1 (u1 (h_fi M 814) (200 + x) (-1000)) (200 + y) (-1000) := by rw [wA4_cu _ (by decide), cu_814, cu_814, wA1_fi _ (by decide)]
theorem wA4_1105 : h_fi (wA4 rm M x y w v) 1105 1 = nI (w + 1) := by
  unfold wA4
  rw [fi_eq, u1_eq, nI_1]
theorem cu2 {u : Int32} {f g : Nat → Int32} (hg : g = u1 (u1 f (200 + x) u) (200 + y) u) (z : Nat) : g (200 + z) = if z = x ∨ z = y then u else f (200 + z) := by
  rw [hg]
  by_cases q : z = y
  · subst q; rw [u1_eq, if_pos (Or.inr rfl)]
  · rw [u1_ne (by omega)]
    by_cases q2 : z = x
    · subst q2; rw [u1_eq, if_pos (Or.inl rfl)]
    · rw [u1_ne (by omega), if_neg (fun z => z.elim q2 q)]
theorem ref_w_no (s0 : s_g S 0 = nI sw) (s1 : s_g S 1 = nI nd) (z : sdV sw nd v3 v4 = none) : (if v3 < (16 : Int32) then (c233_57 v1 v2 v3 v4 v5 (0 : Int32) S) else (c233_57 v1 v2 v3 v4 v5 (1 : Int32) S)) = some (.inl (-1, S)) := by
  unfold sdV at z
  by_cases a : v3 < 16
  · rw [if_pos a] at z
    rw [if_pos a]
    unfold c233_57
    rw [if_pos rfl, s0]
    by_cases b : v3 < 0
    · rw [if_pos b]; rfl
    rw [if_neg b] at z ⊢
    by_cases b : nI sw ≤ v3
    · rw [if_pos b]; rfl
    rw [if_neg b] at z ⊢
    by_cases e : v3 = v1
    · rw [if_pos e]; rfl
    rw [if_neg e]
    by_cases b : v4 < 0
    · rw [if_pos b]; rfl
    rw [if_neg b] at z ⊢
    by_cases b : v4 ≤ 7
    · rw [if_pos b] at z; cases z
    · rw [if_neg b]; rfl
  · rw [if_neg a] at z
    rw [if_neg a]
    unfold c233_57
    rw [if_neg (show ¬ (1 : Int32) = 0 by decide), s1]
    by_cases b : nI nd ≤ v3 - 16
    · rw [if_pos b]; rfl
    rw [if_neg b] at z ⊢
    by_cases b : v4 = 0
    · rw [if_pos b] at z; cases z
    · rw [if_neg b]; rfl
theorem ref_w_yes (h5 : sw ≤ 5) (h8 : nd ≤ 8) (s0 : s_g S 0 = nI sw) (s1 : s_g S 1 = nI nd) (hne : v3 ≠ nI s) (z : sdV sw nd v3 v4 = some y) : (if v3 < (16 : Int32) then (c233_57 (nI s) (nI p) v3 v4 v5 (0 : Int32) S) else (c233_57 (nI s) (nI p) v3 v4 v5 (1 : Int32) S)) = c233_145 v5 (nI (8 * s + p)) (nI y) S := by
  rcases sdV_c (sw := sw) (nd := nd) h5 h8 v3 v4 with q | ⟨s', p', hs, hp, rfl, rfl⟩ | ⟨n, hn, rfl, rfl⟩
  · rw [q] at z; cases z
  · rw [sdV_s hs hp h5] at z
    cases z
    rw [if_pos (show nI s' < 16 from nI_lt (b := 16) (by omega) (by omega))]
    unfold c233_57
    rw [if_pos rfl, s0, if_neg (nI_pos (by omega)), if_neg (nI_ge hs (by omega)), if_neg hne, if_neg (nI_pos (by omega)), if_pos (show nI p' ≤ 7 from nI_le (b := 7) (by omega) (by omega))]
    unfold c233_114
    rw [bd_s (e175_v S), if_pos rfl, bd_s (e175_v S)]
  · rw [sdV_n hn h8] at z
    cases z
    have n1 : ¬ (1 : Int32) = 0 := by decide
    rw [if_neg (show ¬ nI (16 + n) < 16 from nI_nlt (b := 16) (by omega) (by omega))]
    unfold c233_57
    rw [if_neg n1, s1, sub16, if_neg (nI_ge hn (by omega)), if_pos rfl]
    unfold c233_114
    rw [bd_s (e175_v S), if_neg n1, sub16, bd_s e176_v]
end WR
