/-! ===== the beginning ===== -/
def N5 (c : Nat → cD) (sz sl : Nat) : hM := (fun k a => (c a).2.1 k, fun _ _ => 0, fun k a => (c a).2.2.1 k, fun a i => (c a).2.2.2.1 i, fun _ _ => 0, fun a i => (c a).2.2.2.2 i, fun a => (c a).1.2, fun a => (c a).1.1, sz, sl)
section BG
variable {ρ : Nat → Nat} {c : Nat → cD} {B H : hM} {sw nd rm z l : Nat} {S : sT}
theorem clF.hi (h : clF sw nd rm c) (h5 : sw ≤ 5) (h8 : nd ≤ 8) {x : Nat} (hx : 1000 ≤ x) : c x = oC 0 0 := h.2.2.2 x (by omega) (fun s hs q => by unfold regS at q; omega) (fun n hn q => by unfold regN at q; omega)
theorem rn_0 (g : rc ρ c B) (hc : clF sw nd rm c) (h5 : sw ≤ 5) (h8 : nd ≤ 8) (hb : bk H) (hl : lo (h_sz B) B H) (hz : h_sz H = h_sz B + 54) : rn (Yr (h_sz B) (adR (h_sz B))) H ρ (N5 c (h_sz H + 1000) (h_sl H)) H := by
  obtain ⟨⟨b1, b2, b3⟩, g2, g3, g4⟩ := g
  refine ⟨⟨⟨fun a ha => ?_, hb⟩, rfl, rfl⟩, fun a ha => ?_, fun a ha k => ?_, fun a ha i => ?_, g4, fun y hy => ⟨?_, rfl, rfl, fun _ => ⟨rfl, rfl, rfl⟩, fun _ => ⟨rfl, rfl, rfl⟩⟩⟩
  · have ha : h_sz H + 1000 ≤ a := ha
    have e := hc.hi h5 h8 (x := a) (by omega)
    show (c a).1.1 = 0 ∧ (c a).1.2 = 0 ∧ (∀ k, (c a).2.1 k = 0 ∧ _ ∧ (c a).2.2.1 k = none) ∧ ∀ i, (c a).2.2.2.1 i = 0 ∧ _ ∧ (c a).2.2.2.2 i = none
    rw [e]
    exact ⟨rfl, rfl, fun _ => ⟨rfl, rfl, rfl⟩, fun _ => ⟨rfl, rfl, rfl⟩⟩
  · obtain ⟨p1, p2, p3, -⟩ := g2 a ha
    obtain ⟨q1, q2, -⟩ := hl (ρ a) p1
    refine ⟨by omega, fun q => ?_, q1.trans p2, q2.trans p3⟩
    rcases q with q | ⟨k, -, -, q⟩
    · omega
    · unfold adR at q; omega
  · obtain ⟨p1, -, -, p4, -⟩ := g2 a ha
    obtain ⟨-, -, q3, -⟩ := hl (ρ a) p1
    exact ⟨(q3 k).1.trans (p4 k).1, (q3 k).2.1.trans (b2 _ _), (q3 k).2.2.trans (p4 k).2, fun b hb => (g3 a ha).1 k b hb⟩
  · obtain ⟨p1, -, -, -, p5⟩ := g2 a ha
    obtain ⟨-, -, -, q4⟩ := hl (ρ a) p1
    exact ⟨(q4 i).1.trans (p5 i).1, (q4 i).2.1.trans (b3 _ _), (q4 i).2.2.trans (p5 i).2, fun b hb => (g3 a ha).2 i b hb⟩
  · rcases hy with rfl | ⟨k, hk, ht, rfl⟩
    · omega
    · have := (aLs_ix k hk ht).2
      unfold adR
      omega
theorem clF.po (h : clF sw nd rm c) (h5 : sw ≤ 5) {x : Nat} (hx : sd sw nd x) : c (200 + x) = poC (250 + x) (300 + x) 2 (ow x) (nu x) ∧ c (250 + x) = oC 4 0 ∧ c (300 + x) = oC 4 0 := by
  by_cases q : x < 40
  · have hx2 : x < 8 * sw := by rcases hx with r | r <;> omega
    obtain ⟨a1, a2, a3⟩ := (h.2.1 (x / 8) (by omega)).2.2.2 (x % 8) (by omega)
    rw [show 200 + 8 * (x / 8) + x % 8 = 200 + x by omega, show 250 + 8 * (x / 8) + x % 8 = 250 + x by omega, show 300 + 8 * (x / 8) + x % 8 = 300 + x by omega] at a1
    rw [show 250 + 8 * (x / 8) + x % 8 = 250 + x by omega] at a2
    rw [show 300 + 8 * (x / 8) + x % 8 = 300 + x by omega] at a3
    exact ⟨by unfold ow nu; rw [if_pos q, if_pos q]; exact a1, a2, a3⟩
  · by_cases q2 : x < 40 + nd ∧ 40 ≤ x
    · obtain ⟨-, -, -, -, a1, a2, a3⟩ := h.2.2.1 (x - 40) (by omega)
      rw [show 240 + (x - 40) = 200 + x by omega, show 290 + (x - 40) = 250 + x by omega, show 340 + (x - 40) = 300 + x by omega] at a1
      rw [show 290 + (x - 40) = 250 + x by omega] at a2
      rw [show 340 + (x - 40) = 300 + x by omega] at a3
      refine ⟨?_, a2, a3⟩
      unfold ow nu
      rw [if_neg q, if_neg q, a1, show (16 : Int32) + nI (x - 40) = nI (16 + (x - 40)) from nI_add 16 (x - 40)]
    · exfalso
      rcases hx with r | r <;> omega
/-- a cell's parts in the canonical heap -/
theorem c5 {x : Nat} {y : cD} (e : c x = y) : h_tg (N5 c z l) x = y.1.1 ∧ h_ln (N5 c z l) x = y.1.2 ∧ (∀ k, h_fi (N5 c z l) k x = y.2.1 k ∧ h_fr (N5 c z l) k x = y.2.2.1 k) ∧ ∀ i, h_ai (N5 c z l) x i = y.2.2.2.1 i ∧ h_ar (N5 c z l) x i = y.2.2.2.2 i := by
  subst e
  exact ⟨rfl, rfl, fun _ => ⟨rfl, rfl⟩, fun _ => ⟨rfl, rfl⟩⟩
theorem cI_0 (h : clF sw nd rm c) (hB : cB sw nd rm) : cI sw nd rm (N5 c z l) := by
  have h5 := hB.1.2
  obtain ⟨⟨a1, a2, a3, a4, a5, a6, a7, a8, a9⟩, hS, hN, -⟩ := id h
  have k1 := c5 (z := z) (l := l) a1
  have k2 := c5 (z := z) (l := l) a2
  have k3 := c5 (z := z) (l := l) a3
  have k4 := c5 (z := z) (l := l) a4
  have k5 := c5 (z := z) (l := l) a5
  have k6 := c5 (z := z) (l := l) a6
  have k7 := c5 (z := z) (l := l) a7
  have k8 := c5 (z := z) (l := l) a8
  have k9 := c5 (z := z) (l := l) a9
  refine ⟨hB, ⟨k1.1, (k1.2.2.1 1100).2, (k1.2.2.1 1101).2, (k1.2.2.1 1102).2, (k1.2.2.1 1103).2, (k1.2.2.1 1104).2, (k1.2.2.1 1106).2⟩, ⟨k2.1, (k2.2.2.1 900).1, (k2.2.2.1 901).1, (k2.2.2.1 902).1, (k2.2.2.1 904).2, (k2.2.2.1 905).2⟩, ⟨k3.1, k3.2.1, k4.1, k4.2.1, k5.1, k5.2.1, k6.1, k6.2.1, k7.1, k7.2.1, k8.1, k8.2.1, k9.1, k9.2.1⟩, fun s hs => ?_, fun s hs => ?_, fun s p hs hp => ?_, fun s a hs ha => ?_, fun n hn => ?_, fun n hn => ?_, fun x hx => ?_, fun s j hs hj => ?_⟩
  · obtain ⟨⟨b1, -⟩, -⟩ := hS s hs
    have e := c5 (z := z) (l := l) b1
    exact ⟨e.1, (e.2.2.1 1000).2, (e.2.2.1 1001).1, (e.2.2.1 1002).2, (e.2.2.1 1004).2, (e.2.2.1 1006).2, (e.2.2.1 1007).2, (e.2.2.1 1008).2, (e.2.2.1 1009).2, (k8.2.2.2 s).2.trans (if_pos hs)⟩
  · obtain ⟨⟨-, b2, b3, b4, b5, b6, b7⟩, -⟩ := hS s hs
    have e2 := c5 (z := z) (l := l) b2
    have e3 := c5 (z := z) (l := l) b3
    have e4 := c5 (z := z) (l := l) b4
    have e5 := c5 (z := z) (l := l) b5
    have e6 := c5 (z := z) (l := l) b6
    have e7 := c5 (z := z) (l := l) b7
    exact ⟨e2.1, e2.2.1, e3.1, e3.2.1, e4.1, e4.2.1, e5.1, e5.2.1, e6.1, e6.2.1, e7.1, e7.2.1⟩
  · obtain ⟨⟨-, b2, -⟩, -⟩ := hS s hs
    rw [(c5 (z := z) (l := l) b2).2.2.2 p |>.2]
    exact (if_pos hp).trans (congrArg some (by omega))
  · obtain ⟨⟨-, -, -, -, -, b6, b7⟩, ⟨d1, d2⟩, -⟩ := hS s hs
    have e1 := c5 (z := z) (l := l) (d1 a ha)
    have e2 := c5 (z := z) (l := l) (d2 a ha)
    rw [show 80 + (5 * s + a) = 80 + 5 * s + a by omega, show 110 + (5 * s + a) = 110 + 5 * s + a by omega]
    exact ⟨((c5 (z := z) (l := l) b6).2.2.2 a).2.trans (if_pos ha), ((c5 (z := z) (l := l) b7).2.2.2 a).2.trans (if_pos ha), e1.1, e1.2.1, e2.1, e2.2.1⟩
  · obtain ⟨b1, -⟩ := hN n hn
    have e := c5 (z := z) (l := l) b1
    exact ⟨e.1, (e.2.2.1 500).2, (e.2.2.1 501).1, (e.2.2.1 502).2.trans (congrArg some (by omega)), (k9.2.2.2 n).2.trans (if_pos hn)⟩
  · obtain ⟨-, b2, b3, b4, -⟩ := hN n hn
    have e := c5 (z := z) (l := l) b2
    have e3 := c5 (z := z) (l := l) b3
    have e4 := c5 (z := z) (l := l) b4
    exact ⟨e.1, (e.2.2.1 400).2, (e.2.2.1 401).2, (e.2.2.1 403).2, (e.2.2.1 404).2, e4.1, e4.2.1, e3.1, e3.2.1⟩
  · obtain ⟨b1, b2, b3⟩ := h.po h5 hx
    have e := c5 (z := z) (l := l) b1
    exact ⟨e.1, (e.2.2.1 800).2, (e.2.2.1 801).1, (e.2.2.1 802).1, (e.2.2.1 809).2, (e.2.2.1 810).2, (c5 (z := z) (l := l) b2).1, (c5 (z := z) (l := l) b3).1⟩
  · obtain ⟨-, -, d, -⟩ := hS s hs
    obtain ⟨d1, d2⟩ := d j hj
    have e1 := c5 (z := z) (l := l) d1
    have e2 := c5 (z := z) (l := l) d2
    rw [show 400 + (6 * s + j) = 400 + 6 * s + j by omega, show 440 + (6 * s + j) = 440 + 6 * s + j by omega]
    exact ⟨e1.1, (e1.2.2.1 600).2, e2.1, e2.2.1⟩
/-- the reference's values at the beginning -/
theorem sI.zr (h : sI sw nd rm S) {k : Nat} (hk : [0, 1, 2, 8, 9, 14, 15, 23, 26].contains k = false) (x : Nat) : S.1 k x = 0 := by
  have n : ∀ q, [0, 1, 2, 8, 9, 14, 15, 23, 26].contains q = true → k ≠ q := fun q hq e => by rw [e, hq] at hk; cases hk
  rw [h.2, if_neg (fun q => n 9 (by decide) q.1), if_neg (fun q => n 8 (by decide) q.1), if_neg (fun q => n 26 (by decide) q.1), if_neg (fun q => ?_), if_neg (fun q => n 2 (by decide) q.1), if_neg (fun q => n 1 (by decide) q.1), if_neg (fun q => n 0 (by decide) q.1)]
  rcases q.1 with r | r | r
  · exact n 14 (by decide) r
  · exact n 15 (by decide) r
  · exact n 23 (by decide) r
theorem sI.m (h : sI sw nd rm S) {k x : Nat} (hk : k = 14 ∨ k = 15 ∨ k = 23) (hx : x < 48) : S.1 k x = -1 := by
  rw [h.2, if_neg (by omega), if_neg (by omega), if_neg (by omega), if_pos ⟨hk, by omega, hx⟩]
theorem sI.up (h : sI sw nd rm S) {x : Nat} (hx : x < 48) : upS S x = 0 := by
  unfold upS
  rw [if_pos (h.m (Or.inl rfl) hx)]
theorem sumL_0 {α : Type} : ∀ n, sumL (fun _ => ([] : List α)) n = 0
  | 0 => rfl
  | n + 1 => by
    show sumL (fun _ => ([] : List α)) n + 0 = 0
    rw [sumL_0 n]
theorem FR_0 (h : sI sw nd rm S) : FR S (fun _ => []) [] := by
  have r0 : ∃ rl : Nat → List Nat, rl = u1 (fun _ => []) 144 (List.range 1800).reverse := ⟨_, rfl⟩
  obtain ⟨rl, hrl⟩ := r0
  have e1 : rl 144 = (List.range 1800).reverse := by rw [hrl, u1_eq]
  have e2 : ∀ p, p ≠ 144 → rl p = [] := fun p hp => by rw [hrl, u1_ne hp]
  refine ⟨rl, ⟨fun p q a hp hq => ?_, fun p => ?_⟩, fun p f hf => ?_, ⟨fun x hx => ?_, ?_, fun i f hi => ?_⟩, ⟨⟨e2 145 (by omega), fun t ht => by cases ht⟩, fun p hp => by rw [e2 p (by omega)]; rfl, fun p hp hq => by rw [e2 p (by omega)]; rfl⟩, ?_⟩
  · have f1 : ∀ p, a ∈ rl p → p = 144 := fun p hp => by
      by_cases q : p = 144
      · exact q
      · rw [e2 p q] at hp; cases hp
    rw [f1 p hp, f1 q hq]
  · by_cases q : p = 144
    · subst q
      rw [e1]
      exact List.pairwise_reverse.mpr (List.nodup_range.imp (fun q => q.symm))
    · rw [e2 p q]; exact List.nodup_nil
  · by_cases q : p = 144
    · subst q
      rw [e1, List.mem_reverse, List.mem_range] at hf
      exact ⟨hf, 0, h.zr (by decide) f, by omega⟩
    · rw [e2 p q] at hf; cases hf
  · rw [e2 x (by omega), e2 (48 + x) (by omega), e2 (96 + x) (by omega)]
    exact ⟨h.m (by omega) hx, ⟨h.zr (by decide) x, fun i g hi => by cases hi⟩, h.zr (by decide) x, fun i g hi => by cases hi⟩
  · rw [e1, List.length_reverse, List.length_range, h.2]; rfl
  · rw [e1, List.reverse_reverse] at hi
    have hi2 := List.getElem?_eq_some_iff.mp hi
    obtain ⟨h1, h2⟩ := hi2
    rw [List.length_range] at h1
    rw [List.getElem_range] at h2
    subst h2
    rw [h.2, if_neg (by omega), if_pos ⟨rfl, by omega, by omega⟩, Nat.zero_add]
  · have s1 := sumL_u1 (f := fun _ => ([] : List Nat)) (p := 144) (l := (List.range 1800).reverse) 146
    rw [← hrl] at s1
    rw [sumL_0, if_pos (by omega), if_pos (by omega), List.length_reverse, List.length_range] at s1
    generalize sumL rl 146 = X at s1 ⊢
    simpa using s1
theorem wy_0 {s t : Nat} : wyK sw (fun _ => none) s t = -1 := by
  unfold wyK
  split
  · rfl
  · split
    · rfl
    · rfl
theorem ho_0 {s d : Nat} (h5 : sw ≤ 5) : hoK sw (fun _ => none) s d = -1 := by
  unfold hoK
  by_cases q : d = 0
  · rw [if_pos q]
  · rw [if_neg q]
    rcases hoP_rg (n := sw) (K := fun _ => none) (s := s) (d := d) sw (by omega) with r | ⟨r, -, -, -, r4, -⟩
    · exact r
    · exact absurd r4.symm q
theorem FC_0 (h : clF sw nd rm c) (hB : cB sw nd rm) (hb : bk (N5 c z l)) : FC (tru sw nd) sw nd (N5 c z l) (h_ai (N5 c z l)) (h_ai (N5 c z l) 3) z l (fun _ => []) [] := by
  have h5 := hB.1.2
  have h8 := hB.2.1.2
  refine ⟨⟨fun _ _ _ => rfl, rfl, hb⟩, fun _ => [], ⟨fun p q a hp => (by cases hp), fun p => List.nodup_nil⟩, fun p a hp => (by cases hp), ⟨fun x hx => ?_, fun p h1 h2 hx => ?_, ?_⟩, ⟨⟨rfl, fun t ht => (by cases ht)⟩, fun p hp => rfl, fun p a _ hp => (by cases hp), fun p a _ _ hp => (by cases hp)⟩, ?_, ?_, ?_⟩
  · exact ((c5 (z := z) (l := l) (h.po h5 hx).1).2.2.1 808).2
  · have e : c (lq p) = oC 4 0 := by
      unfold lq
      by_cases q : p < 96
      · rw [if_pos q, show 252 + p = 300 + p % 48 by omega]
        exact (h.po h5 hx).2.2
      · rw [if_neg q, show 154 + p = 250 + p % 48 by omega]
        exact (h.po h5 hx).2.1
    have k := c5 (z := z) (l := l) e
    exact ⟨(k.2.2.1 300).2, (k.2.2.1 301).2, (k.2.2.1 302).1⟩
  · exact ((c5 (z := z) (l := l) h.1.2.1).2.2.1 907).2
  · rw [sumL_0]; rfl
  · rw [sumL_0]; rfl
  · rw [sumL_0]; omega
/-- all that holds at the beginning -/
theorem AX_0 (h : clF sw nd rm c) (hB : cB sw nd rm) (hb : bk (N5 c z l)) (hz : 1000 ≤ z) (hS : sI sw nd rm S) : AX sw nd rm 0 z l (N5 c z l) S := by
  have h5 := hB.1.2
  have h8 := hB.2.1.2
  have hI : cI sw nd rm (N5 c z l) := cI_0 h hB
  have x48 : ∀ x, sd sw nd x → x < 48 := fun x hx => by rcases hx with q | q <;> omega
  have K2 := c5 (z := z) (l := l) h.1.2.1
  have K1 := c5 (z := z) (l := l) h.1.1
  have PO : ∀ x, sd sw nd x → ∀ k, h_fi (N5 c z l) k (200 + x) = (poC (250 + x) (300 + x) 2 (ow x) (nu x)).2.1 k ∧ h_fr (N5 c z l) k (200 + x) = (poC (250 + x) (300 + x) 2 (ow x) (nu x)).2.2.1 k := fun x hx => (c5 (z := z) (l := l) (h.po h5 hx).1).2.2.1
  have W : WI sw nd (N5 c z l) S 0 (fun _ => none) (fun _ => 0) := ⟨⟨(K1.2.2.1 1105).1, hS.zr (by decide) 0, by omega⟩, fun x hx _ => hS.m (Or.inl rfl) hx, fun x hx _ => (PO x hx 803).2, fun x y e => (by cases e), fun i hi => absurd hi (by omega), fun x hx => ((PO x hx 805).1).trans (hS.up (x48 x hx)).symm⟩
  have T : ST sw nd rm (N5 c z l) S (h_ai (N5 c z l)) 0 (fun _ => none) (fun _ => 0) 0 := by
    refine ⟨hI, W, ⟨?_, ?_, ?_⟩, ⟨(K2.2.2.1 903).1, hS.zr (by decide) 0, by omega⟩, ⟨fun q hq => ⟨0, by omega, ((c5 (z := z) (l := l) h.1.2.2.2.1).2.2.2 q).1, hS.zr (by decide) q⟩, ((K2.2.2.1 906).1).trans (hS.zr (by decide) 0).symm, Or.inl (hS.zr (by decide) 0)⟩, fun s hs => ⟨s + 1, by omega, by omega, ?_, ?_⟩⟩
    · rw [hS.2]; rfl
    · rw [hS.2]; rfl
    · rw [hS.2]; rfl
    · have e := ((c5 (z := z) (l := l) (h.2.1 s hs).1.1).2.2.1 1003).1
      rw [e, ← nI_1]; rfl
    · rw [hS.2, if_neg (by omega), if_neg (by omega), if_pos ⟨rfl, by omega, by omega⟩]
  have P : PB sw nd (N5 c z l) S (h_ai (N5 c z l)) z l (fun _ => []) (fun _ => []) [] [] := by
    refine ⟨h_ai (N5 c z l) 3, FC_0 h hB hb, FR_0 hS, fun x hx => ⟨Nat.zero_le _, Nat.zero_le _, Nat.zero_le _⟩, fun x hx => ⟨Nat.zero_le _, Nat.zero_le _, Nat.zero_le _⟩, fun _ _ _ => rfl, fun k _ _ => ?_, hz⟩
    rw [hS.zr (by decide)]
    exact ((c5 (z := z) (l := l) h.1.2.2.1).2.2.2 k).1
  have X : PX sw nd (N5 c z l) S (fun _ => none) := fun x hx => by
    have u := hS.up (x48 x hx)
    have m := hS.m (k := 23) (by omega) (x48 x hx)
    have n := hS.zr (k := 25) (by decide) x
    exact ⟨⟨((PO x hx 811).1).trans m.symm, ((PO x hx 812).1).trans n.symm⟩, Or.inl m, Or.inl n, ⟨fun q => absurd u q, fun q => absurd u q⟩, fun _ q => absurd rfl q, fun _ q => absurd rfl q⟩
  have R : ∀ s, s < sw → RC1 sw nd (N5 c z l) S s (fun _ => none) (fun _ => 0) false := fun s hs => by
    obtain ⟨⟨b1, b2, b3, b4, b5, -⟩, -, b6, -⟩ := h.2.1 s hs
    have e1 := c5 (z := z) (l := l) b1
    refine ⟨fun r hr => ⟨?_, ⟨⟨?_, ?_, ?_, ?_⟩, ?_⟩, fun q => absurd rfl q⟩, ?_, fun r hr => hS.zr (by decide) _, fun r L q => (by cases q), fun t ht => ?_, fun d hd => ?_, ?_⟩
    · rw [((c5 (z := z) (l := l) b3).2.2.2 r).2]
      exact (if_pos hr).trans (congrArg some (by unfold nJ; rw [if_neg (by simp)]; omega))
    all_goals try (have ej : nJ false s r = r := by unfold nJ; rw [if_neg (by simp)])
    · rw [ej]; exact hI.nt0 hs (Or.inl hr)
    · rw [ej]; exact (hI.nt1 hs (Or.inl hr)).trans (congrArg some (by omega))
    · rw [ej, show 400 + (6 * s + r) + 40 = 440 + (6 * s + r) by omega]; exact hI.nt2 hs (Or.inl hr)
    · rw [ej, show 400 + (6 * s + r) + 40 = 440 + (6 * s + r) by omega]; exact hI.nt3 hs (Or.inl hr)
    · rw [ej, show 400 + (6 * s + r) = 400 + 6 * s + r by omega]
      exact ((c5 (z := z) (l := l) (b6 r (Or.inl hr)).1).2.2.1 601).1
    · rw [(e1.2.2.1 1005).2]
      exact congrArg some (by unfold dJ; rw [if_neg (by simp)]; omega)
    · rw [((c5 (z := z) (l := l) b4).2.2.2 t).1, wy_0]
      exact if_pos ht
    · rw [((c5 (z := z) (l := l) b5).2.2.2 d).1, ho_0 h5]
      exact if_pos hd
    · exact (e1.2.2.1 1010).1
  have NRr : NR nd (N5 c z l) S 0 0 (fun _ => 0) (fun _ => 0) (fun _ => true) (fun _ => 0) (fun _ => .inl []) := by
    refine ⟨⟨⟨(K1.2.2.1 1107).1, hS.zr (by decide) 0, by omega⟩, fun _ q => absurd q (by omega), fun _ _ q => absurd q (by omega), fun _ _ _ _ _ => by rw [hS.1]⟩, fun n hn => ?_, fun n hn => ?_, fun _ _ _ _ _ _ _ q => (by cases q)⟩
    · rw [hS.zr (by decide)]
      exact ((c5 (z := z) (l := l) (h.2.2.1 n hn).1).2.2.1 503).1
    · obtain ⟨b1, b2, b3, b4, -⟩ := h.2.2.1 n hn
      have e1 := c5 (z := z) (l := l) b1
      have e2 := c5 (z := z) (l := l) b2
      have e4 := c5 (z := z) (l := l) b4
      refine ⟨⟨(e1.2.2.1 504).2, (e1.2.2.1 505).2, hS.zr (by decide) n⟩, ⟨((e2.2.2.1 402).1).trans (hS.zr (by decide) n).symm, Or.inl (hS.zr (by decide) n), fun _ _ q => absurd q (by omega)⟩, fun d hd => ((e4.2.2.2 d).1).trans (hS.zr (by decide) _).symm, ⟨(e2.2.2.1 405).1, by decide, fun i hi => absurd hi (by simp), List.Pairwise.nil, fun _ q => (by cases q), fun _ q => absurd q (by omega)⟩, hS.zr (by decide) n, hS.zr (by decide) n, hS.zr (by decide) n, fun i _ => by rw [hS.1]⟩
  refine ⟨h_ai (N5 c z l), 0, fun _ => none, fun _ => 0, fun _ => [], fun _ _ => none, fun _ _ => 0, fun _ => false, 0, fun _ => 0, fun _ => 0, fun _ => true, fun _ => 0, fun _ => .inl [], ⟨⟨⟨T, P, X, R⟩, ⟨fun p _ L q => (by cases q), fun k _ => hS.zr (by decide) k, fun x hx _ => ⟨⟨rfl, rfl, rfl⟩, hS.zr (by decide) x, fun q => ⟨(PO x q 806).1, (PO x q 807).1⟩⟩, fun x y q => (by cases q), trivial, fun x hx => ((PO x hx 813).1).trans (hS.zr (by decide) x).symm⟩, fun s L _ q => (by cases q)⟩, fun s _ q => absurd rfl q, NRr, fun m _ => ⟨rfl, Nat.zero_le _, fun q e => (by cases e)⟩⟩, ⟨?_, h8⟩, fun x _ _ => ⟨hS.zr (by decide) x, hS.zr (by decide) x⟩, fun n _ _ => ⟨hS.zr (by decide) n, fun d _ => hS.zr (by decide) _, hS.zr (by decide) n, hS.zr (by decide) n⟩⟩
  rw [hS.2]; rfl
theorem lStart : LStart := by
  intro z v1 v2 v3
  obtain ⟨sw, p1⟩ := prm_of v1 (hi := 5) (by omega) (by omega)
  obtain ⟨nd, p2⟩ := prm_of v2 (hi := 8) (by omega) (by omega)
  obtain ⟨rm, p3⟩ := prm_of v3 (hi := 4) (by omega) (by omega)
  obtain ⟨ρ, c, B, e1, g, r1, hc, z1, l1⟩ := F7 z p1 p2 p3
  obtain ⟨H, S, e2, hR, hS, ⟨hb, hl⟩, z2, l2⟩ := F164 g.1.1 p1 p2 p3
  have hB : cB sw nd rm := ⟨p1.1, p2.1, p3.1⟩
  have r := rn_0 g hc hB.1.2 hB.2.1.2 hb hl z2
  exact ⟨B, H, sw, nd, rm, h_sz H + 1000, h_sl H, adR (h_sz B), e1, e2, ⟨_, S, ρ, AX_0 hc hB r.1.1.1 (by omega) hS, r, hR, r1⟩, by omega, by omega⟩
theorem lawPure : LawPure := law_of lStart
end BG
