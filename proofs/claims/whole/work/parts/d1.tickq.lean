/-! ===== ticks, with what never had a wire; what a call leaves ===== -/
section TQ
variable {sw nd rm : Nat} {M N : hM} {S T : sT} {ia : Nat → Nat → Int32} {w t x y zb sb nc : Nat} {pe : Nat → Option Nat} {wo : Nat → Nat} {fl : Nat → List (List Int32)} {kR : Nat → rK} {ka : Nat → Nat → Nat} {tog : Nat → Bool} {ca hh : Nat → Nat} {lv : Nat → Bool} {jj : Nat → Nat} {G : Nat → nG}
theorem QZ_arr (h : TB sw nd rm M T ia w pe wo t zb sb fl kR ka tog) (q : QZ pe nd S) (l : ks [3, 15, 16, 17, 20, 22] S T) : QZ pe nd T := by
  obtain ⟨⟨a1, a2⟩, a3, a4⟩ := q
  refine ⟨⟨by rw [l.i (j := 1) (by decide)]; exact a1, a2⟩, fun x hx hp => ⟨?_, ?_⟩, fun n hn hp => ?_⟩
  · have h0 := (h.2.1.2.2.1 x hx (upS_no h.W hx hp)).1.2.1
    have := (HB.n17 (hc := []) (hs := []) h hx).1
    rw [this, h0]; rfl
  · rw [l.i (j := 21) (by decide)]; exact (a3 x hx hp).2
  · rw [l.i (j := 35) (by decide), l.i (j := 39) (by decide), l.i (j := 41) (by decide), l.i (j := 46) (by decide)]; exact a4 n hn hp
theorem P_tick1q {v1 v2 v3 : Int32} {fuel : Nat} (h : AL sw nd rm M S ia w pe wo t zb sb fl kR ka tog nc ca hh lv jj G) (qz : QZ pe nd S) (ht : t + 1 ≤ 200000) (hf : 50 < fuel) (hv : ¬ v1 ≤ v3) : ∃ M' S' ib fm kR' ka' tog' lv' jj' G' k fuel', fuel ≤ fuel' + 40 ∧ drive k140 fuel 17 [.inr (.inr (some 1)), .inl v1, .inl v2, .inl v3] M = drive k140 fuel' 17 [.inr (.inr (some 1)), .inl v1, .inl (v2 + nI k), .inl (v3 + 1)] M' ∧ e231 S = some (nI k, S') ∧ AL sw nd rm M' S' ib w pe wo (t + 1) zb sb fm kR' ka' tog' nc ca hh lv' jj' G' ∧ QZ pe nd S' := by
  obtain ⟨h1, h2, h3, h4⟩ := h
  have hI := h1.I
  have hsw := hI.bs.1.2
  have hnd := hI.bs.2.1.2
  have hw16 := h1.W.1.2.2
  obtain ⟨f, rfl⟩ : ∃ f, fuel = f + 1 := ⟨fuel - 1, by omega⟩
  obtain ⟨M1, S1, f1, k, a1, a2, a3, a4, a5⟩ := P_arr (v1 := v1) (v2 := v2) (v3 := v3) (fuel := f) h1 ht (by omega)
  have hN1 : NR nd M1 S1 (t + 1) nc ca hh (fun _ => false) (fun _ => 0) G := (h3.tick h4 ht).kp hI a4 (by decide) (by decide) (fun a _ q => ⟨a4.t0 q, (a4.2.2.2.1 a (by intro z; cases z)).1⟩) a5 (by decide)
  have hag : agT sw (t + 1) kR ka 0 := fun s hs q => by
    obtain ⟨y1, y2, y3⟩ := h2 s hs q
    have := y3 hs
    exact ⟨by omega, by omega, fun z => by omega⟩
  obtain ⟨M2, S2, i2, f2, k2, ka2, t2, b1, b2, b3, b4, b5, b6, b7⟩ := P_turnK (v1 := v1) (v2 := v2 + nI k) (v3 := v3) (v4 := nI k) sw 0 M1 S1 ia f1 kR ka tog (f - w - 1) (xF - 48 - 1 - 48 - 1) a3 hag (by omega) (by omega) (by unfold xF; omega)
  have hN2 := hN1.kp a3.I b6 (by decide) (by decide) b5 b7 (by decide)
  obtain ⟨M3, S3, i3, f3, lv3, jj3, G3, c1, c2, c3, c4, c5⟩ := P_nodes (v1 := v1) (v2 := v2 + nI k) (v3 := v3) (v4 := nI k) nd 0 M2 S2 i2 f2 (fun _ => false) (fun _ => 0) G (f - w - 1 - sw - 1) (xF - 48 - 1 - 48 - 1 - sw - 1) b3 hN2 (by omega) (by omega) (by unfold xF; omega) (fun _ _ _ => ⟨rfl, rfl⟩) (fun m _ q => by omega)
  refine ⟨M3, S3, i3, f3, k2, ka2, t2, lv3, jj3, G3, k, f - w - 1 - sw - 1 - nd - 1, by omega, ?_, ?_, ⟨TB.tw c3, b4, c4, c5⟩, ?_⟩
  · have st : k140 17 [.inr (.inr (some 1)), .inl v1, .inl v2, .inl v3] M = some (.inr (38, [.inr (.inr (some 1)), .inl v1, .inl v2, .inl v3, .inl (nI 0)], h_pi M 903 2 (nI (t + 1)))) := by
      show b140_17 1 v1 v2 v3 M = _
      unfold b140_17
      rw [if_neg hv, bd_s ((g_r_t (ci := 11) hI.fab0).trans (congrArg some hI.fab1)), bd_s ((g_i_t (ci := 9) hI.sh0).trans (congrArg some h1.1.st.2.2.2.1.1)), nI_1, bd_s (p_i_t (ci := 9) hI.sh0)]
      rfl
    rw [dr_go st]
    show drive k140 f 38 _ _ = _
    rw [a1, b1, c1]
  · rw [a2, b2, c2]
  · exact q231 (r := (nI k, S3)) (b2.trans c2) (QZ_arr a3 qz a5)
theorem P_ticksq {n : Nat} (hn : n ≤ 300) : ∀ d i M S ia t fl kR ka tog lv jj G k fuel fus, i + d = n → 41 * d + 60 < fuel → d < fus → AL sw nd rm M S ia w pe wo t zb sb fl kR ka tog nc ca hh lv jj G → QZ pe nd S → t + d ≤ 200000 → ∃ M' S' ib fm kR' ka' tog' lv' jj' G' k', drive k140 fuel 17 [.inr (.inr (some 1)), .inl (nI n), .inl k, .inl (nI i)] M = some (some (.inl k'), M') ∧ sdrive kS242 fus 17 [.inl (nI n), .inl k, .inl (nI i)] S = some (k', S') ∧ AL sw nd rm M' S' ib w pe wo (t + d) zb sb fm kR' ka' tog' nc ca hh lv' jj' G' ∧ QZ pe nd S'
  | 0, i, M, S, ia, t, fl, kR, ka, tog, lv, jj, G, k, fuel, fus, hi, hf, hg, h, qz, ht => by
    obtain ⟨f, rfl⟩ : ∃ f, fuel = f + 1 := ⟨fuel - 1, by omega⟩
    obtain ⟨g, rfl⟩ : ∃ g, fus = g + 1 := ⟨fus - 1, by omega⟩
    have e : nI n ≤ nI i := nI_le (by omega) (by omega)
    refine ⟨M, S, ia, fl, kR, ka, tog, lv, jj, G, k, dr_end ?_, sd_end ?_, h, qz⟩
    · show b140_17 1 (nI n) k (nI i) M = _
      unfold b140_17; rw [if_pos e]
    · show c242_17 (nI n) k (nI i) S = _
      unfold c242_17; rw [if_pos e]
  | d + 1, i, M, S, ia, t, fl, kR, ka, tog, lv, jj, G, k, fuel, fus, hi, hf, hg, h, qz, ht => by
    obtain ⟨g, rfl⟩ : ∃ g, fus = g + 1 := ⟨fus - 1, by omega⟩
    have e : ¬ nI n ≤ nI i := nI_ge (by omega) (by omega)
    obtain ⟨M1, S1, ib, fm, kR1, ka1, tog1, lv1, jj1, G1, k1, fuel1, a1, a2, a3, a4, a5⟩ := P_tick1q (v1 := nI n) (v2 := k) (v3 := nI i) (fuel := fuel) h qz (by omega) (by omega) e
    obtain ⟨M2, S2, ib2, fm2, kR2, ka2, tog2, lv2, jj2, G2, k2, b1, b2, b3, b4⟩ := P_ticksq hn d (i + 1) M1 S1 ib (t + 1) fm kR1 ka1 tog1 lv1 jj1 G1 (k + nI k1) fuel1 g (by omega) (by omega) (by omega) a4 a5 (by omega)
    refine ⟨M2, S2, ib2, fm2, kR2, ka2, tog2, lv2, jj2, G2, k2, ?_, ?_, by rw [show t + (d + 1) = t + 1 + d by omega]; exact b3, b4⟩
    · rw [a2, nI_1]; exact b1
    · have st : kS242 17 [.inl (nI n), .inl k, .inl (nI i)] S = some (.inr (17, [.inl (nI n), .inl (k + nI k1), .inl (nI (i + 1))], S1)) := by
        show c242_17 (nI n) k (nI i) S = _
        unfold c242_17; rw [if_neg e, bd_s a3, nI_1]
      rw [sd_go st]; exact b2
/-- everything, between calls -/
def AX (sw nd rm t zb sb : Nat) (M : hM) (S : sT) : Prop := ∃ ia w pe wo fl kR ka tog nc ca hh lv jj G, AL sw nd rm M S ia w pe wo t zb sb fl kR ka tog nc ca hh lv jj G ∧ QZ pe nd S
/-- what a call leaves -/
def CR (sw nd rm t zb sb : Nat) (M' : hM) (S' : sT) : Prop := ∃ t' zb' sb', AX sw nd rm t' zb' sb' M' S' ∧ t' ≤ t + 300 ∧ zb' ≤ zb + 16 ∧ sb' ≤ sb + 131
theorem AX.cr (h : AX sw nd rm t zb sb M S) : CR sw nd rm t zb sb M S := ⟨t, zb, sb, h, by omega, by omega, by omega⟩
theorem C_tick {v : Int32} (h : AX sw nd rm t zb sb M S) (ht : t + 300 ≤ 200000) : ∃ r M' S', f140 [.inr (.inr (some 1)), .inl v] M = some (some (.inl r), M') ∧ e242 v S = some (r, S') ∧ CR sw nd rm t zb sb M' S' := by
  obtain ⟨ia, w, pe, wo, fl, kR, ka, tog, nc, ca, hh, lv, jj, G, h, qz⟩ := h
  have hx : AX sw nd rm t zb sb M S := ⟨ia, w, pe, wo, fl, kR, ka, tog, nc, ca, hh, lv, jj, G, h, qz⟩
  have fdef : f140 [.inr (.inr (some 1)), .inl v] M = x_go k140 (b140_0 1 v M) := rfl
  have edef : e242 v S = s_go kS242 (c242_0 v S) := rfl
  rw [fdef, edef]
  unfold b140_0 c242_0
  by_cases z0 : v < 0
  · rw [if_pos z0, if_pos z0]
    exact ⟨-1, M, S, rfl, rfl, hx.cr⟩
  rw [if_neg z0, if_neg z0]
  by_cases z1 : v ≤ 300
  · rw [if_pos z1, if_pos z1]
    obtain ⟨n, n1, rfl⟩ := nI_of2 (M := 300) (n := 300) (by decide) z0 z1
    obtain ⟨M2, S2, ib2, fm2, kR2, ka2, tog2, lv2, jj2, G2, k2, b1, b2, b3, b4⟩ := P_ticksq n1 n 0 M S ia t fl kR ka tog lv jj G 0 xF xF (by omega) (by unfold xF; omega) (by unfold xF; omega) h qz (by omega)
    exact ⟨k2, M2, S2, b1, b2, t + n, zb, sb, ⟨ib2, w, pe, wo, fm2, kR2, ka2, tog2, nc, ca, hh, lv2, jj2, G2, b3, b4⟩, by omega, by omega, by omega⟩
  · rw [if_neg z1, if_neg z1]
    exact ⟨-1, M, S, rfl, rfl, hx.cr⟩
end TQ
