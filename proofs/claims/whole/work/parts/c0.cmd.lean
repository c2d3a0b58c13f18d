/-! ===== a disc opens a WRITE ===== -/
theorem nodup_le : ∀ (l m : List Nat), l.Nodup → (∀ x, x ∈ l → x ∈ m) → l.length ≤ m.length
  | [], m, _, _ => Nat.zero_le _
  | x :: l, m, h, hs => by
    obtain ⟨h1, h2⟩ := List.nodup_cons.mp h
    have hx : x ∈ m := hs x List.mem_cons_self
    have := nodup_le l (m.erase x) h2 (fun y hy => (List.mem_erase_of_ne (fun q => h1 (by rw [← q]; exact hy))).mpr (hs y (List.mem_cons_of_mem _ hy)))
    rw [List.length_erase_of_mem hx] at this
    have : 0 < m.length := List.length_pos_of_mem hx
    show l.length + 1 ≤ m.length
    omega
theorem all6 {l : List Nat} (h : ∀ i, i < 6 → i ∈ l) : 6 ≤ l.length := by
  have := nodup_le (List.range 6) l List.nodup_range (fun x hx => h x (List.mem_range.mp hx))
  simpa using this
theorem not6 {l : List Nat} (h : l.Nodup) (hl : ∀ x, x ∈ l → x < 6) {i : Nat} (hi : i < 6) (hn : i ∉ l) : l.length ≤ 5 := by
  have := nodup_le l ((List.range 6).erase i) h (fun x hx => (List.mem_erase_of_ne (fun q => hn (by rw [← q]; exact hx))).mpr (List.mem_range.mpr (hl x hx)))
  rw [List.length_erase_of_mem (List.mem_range.mpr hi)] at this
  simpa using this
theorem ag1 {lr r : Nat} (h1 : lr < 65536) (h2 : r < 65536) (h3 : agR lr r < 65535) : agR ((lr + 1) % 65536) r = agR lr r + 1 := by
  unfold agR at *
  omega
theorem ag0 {lr : Nat} (h : lr < 65536) : agR lr lr = 0 := by
  unfold agR
  omega
def wr8 (M : hM) (s : Nat) (v : Nat → Int32) : hM := h_pi (h_pi (h_pi (h_pi (h_pi (h_pi (h_pi (h_pi M 700 s (v 0)) 701 s (v 1)) 702 s (v 2)) 703 s (v 3)) 704 s (v 4)) 705 s (v 5)) 706 s (v 6)) 707 s (v 7)
def sw8 (S : sT) (b : Nat) (v : Nat → Int32) : sT := s_u (s_u (s_u (s_u (s_u (s_u (s_u (s_u S 44 b (v 0)) 44 (b + 1) (v 1)) 44 (b + 2) (v 2)) 44 (b + 3) (v 3)) 44 (b + 4) (v 4)) 44 (b + 5) (v 5)) 44 (b + 6) (v 6)) 44 (b + 7) (v 7)
section OW
variable {sw nd rm : Nat} {M M' N : hM} {S S' T : sT} {ia ib : Nat → Nat → Int32} {w t x y zb sb a f n nc fus dk j lm s : Nat} {pe : Nat → Option Nat} {wo : Nat → Nat} {fl fm : Nat → List (List Int32)} {hc hc' : List (Nat × Int32 × List Int32)} {hs hs' : List (Nat × List Int32)} {L Lr : List Int32} {kR : Nat → rK} {ka : Nat → Nat → Nat} {tog : Nat → Bool} {ca hh : Nat → Nat} {lv : Nat → Bool} {jj : Nat → Nat} {G : Nat → nG} {R : List Nat} {g : Int32} {OL : List oE} {v : Nat → Int32}
theorem wr8_at : h_fi (wr8 M s v) 700 s = v 0 ∧ h_fi (wr8 M s v) 701 s = v 1 ∧ h_fi (wr8 M s v) 702 s = v 2 ∧ h_fi (wr8 M s v) 703 s = v 3 ∧ h_fi (wr8 M s v) 704 s = v 4 ∧ h_fi (wr8 M s v) 705 s = v 5 ∧ h_fi (wr8 M s v) 706 s = v 6 ∧ h_fi (wr8 M s v) 707 s = v 7 := by
  unfold wr8
  refine ⟨?_, ?_, ?_, ?_, ?_, ?_, ?_, ?_⟩
  · rw [fi_ne (by decide), fi_ne (by decide), fi_ne (by decide), fi_ne (by decide), fi_ne (by decide), fi_ne (by decide), fi_ne (by decide), fi_eq, u1_eq]
  · rw [fi_ne (by decide), fi_ne (by decide), fi_ne (by decide), fi_ne (by decide), fi_ne (by decide), fi_ne (by decide), fi_eq, u1_eq]
  · rw [fi_ne (by decide), fi_ne (by decide), fi_ne (by decide), fi_ne (by decide), fi_ne (by decide), fi_eq, u1_eq]
  · rw [fi_ne (by decide), fi_ne (by decide), fi_ne (by decide), fi_ne (by decide), fi_eq, u1_eq]
  · rw [fi_ne (by decide), fi_ne (by decide), fi_ne (by decide), fi_eq, u1_eq]
  · rw [fi_ne (by decide), fi_ne (by decide), fi_eq, u1_eq]
  · rw [fi_ne (by decide), fi_eq, u1_eq]
  · rw [fi_eq, u1_eq]
theorem h_pi_o {k a' k' : Nat} {u : Int32} (h : a' ≠ s ∨ k' ≠ k) : h_fi (h_pi M k s u) k' a' = h_fi M k' a' := by
  by_cases z : k' = k
  · subst z
    rcases h with h | h
    · rw [fi_eq, u1_ne h]
    · exact absurd rfl h
  · rw [fi_ne z]
theorem wr8_o {k a' : Nat} (h : a' ≠ s ∨ k < 700 ∨ 707 < k) : h_fi (wr8 M s v) k a' = h_fi M k a' := by
  unfold wr8
  rw [h_pi_o (by omega), h_pi_o (by omega), h_pi_o (by omega), h_pi_o (by omega), h_pi_o (by omega), h_pi_o (by omega), h_pi_o (by omega), h_pi_o (by omega)]
theorem wr8_kp (hb : bk M) (ht : h_tg M s = 8) : kp [700, 701, 702, 703, 704, 705, 706, 707] [] M (wr8 M s v) := by
  have n0 : ∀ N, h_tg N = h_tg M → h_tg N s ≠ 0 := fun N q => by rw [q, ht]; decide
  have k0 : kp [700, 701, 702, 703, 704, 705, 706, 707] [] M M := kp.rf hb
  have k1 := k0.tr (k_hpi (f := 700) (v := v 0) k0.1 (n0 _ rfl)) rfl rfl
  have k2 := k1.tr (k_hpi (f := 701) (v := v 1) k1.1 (n0 _ rfl)) rfl rfl
  have k3 := k2.tr (k_hpi (f := 702) (v := v 2) k2.1 (n0 _ rfl)) rfl rfl
  have k4 := k3.tr (k_hpi (f := 703) (v := v 3) k3.1 (n0 _ rfl)) rfl rfl
  have k5 := k4.tr (k_hpi (f := 704) (v := v 4) k4.1 (n0 _ rfl)) rfl rfl
  have k6 := k5.tr (k_hpi (f := 705) (v := v 5) k5.1 (n0 _ rfl)) rfl rfl
  have k7 := k6.tr (k_hpi (f := 706) (v := v 6) k6.1 (n0 _ rfl)) rfl rfl
  exact k7.tr (k_hpi (f := 707) (v := v 7) k7.1 (n0 _ rfl)) rfl rfl
theorem wr8_dW (hs : dk ≤ s ∧ s < dk + 16) : dW n dk M (wr8 M s v) S S := by
  unfold wr8
  have p : ∀ k N u, 700 ≤ k → k ≤ 707 → dW n dk N (h_pi N k s u) S S := fun k N u h1 h2 => dW_pi (Or.inr (Or.inr ⟨h1, h2⟩)) hs
  exact dW_tr (dW_tr (dW_tr (dW_tr (dW_tr (dW_tr (dW_tr (p _ _ _ (by omega) (by omega)) (p _ _ _ (by omega) (by omega))) (p _ _ _ (by omega) (by omega))) (p _ _ _ (by omega) (by omega))) (p _ _ _ (by omega) (by omega))) (p _ _ _ (by omega) (by omega))) (p _ _ _ (by omega) (by omega))) (p _ _ _ (by omega) (by omega))
theorem s_u_o {i i' k k' : Nat} {u : Int32} (h : i' ≠ i ∨ k' ≠ k) : (s_u S k i u).1 k' i' = S.1 k' i' := by
  by_cases z : k' = k
  · subst z
    rcases h with h | h
    · rw [su_eq, u1_ne h]
    · exact absurd rfl h
  · rw [su_ne z]
theorem s_u_at {i k : Nat} {u : Int32} : (s_u S k i u).1 k i = u := by rw [su_eq, u1_eq]
theorem sw8_at {b : Nat} : ∀ i, i < 8 → (sw8 S b v).1 44 (b + i) = v i := fun i hi => by
  unfold sw8
  match i, hi with
  | 0, _ => rw [s_u_o (by omega), s_u_o (by omega), s_u_o (by omega), s_u_o (by omega), s_u_o (by omega), s_u_o (by omega), s_u_o (by omega)]; exact s_u_at
  | 1, _ => rw [s_u_o (by omega), s_u_o (by omega), s_u_o (by omega), s_u_o (by omega), s_u_o (by omega), s_u_o (by omega)]; exact s_u_at
  | 2, _ => rw [s_u_o (by omega), s_u_o (by omega), s_u_o (by omega), s_u_o (by omega), s_u_o (by omega)]; exact s_u_at
  | 3, _ => rw [s_u_o (by omega), s_u_o (by omega), s_u_o (by omega), s_u_o (by omega)]; exact s_u_at
  | 4, _ => rw [s_u_o (by omega), s_u_o (by omega), s_u_o (by omega)]; exact s_u_at
  | 5, _ => rw [s_u_o (by omega), s_u_o (by omega)]; exact s_u_at
  | 6, _ => rw [s_u_o (by omega)]; exact s_u_at
  | 7, _ => exact s_u_at
theorem sw8_o {b k i : Nat} (h : k ≠ 44 ∨ i < b ∨ b + 8 ≤ i) : (sw8 S b v).1 k i = S.1 k i := by
  unfold sw8
  rw [s_u_o (by omega), s_u_o (by omega), s_u_o (by omega), s_u_o (by omega), s_u_o (by omega), s_u_o (by omega), s_u_o (by omega), s_u_o (by omega)]
theorem sw8_ks {b : Nat} : ks [44] S (sw8 S b v) := by
  unfold sw8
  have p : ∀ (T U V : sT), ks [44] T U → ks [44] U V → ks [44] T V := fun T U V a b => a.tr b rfl
  exact p _ _ _ (p _ _ _ (p _ _ _ (p _ _ _ (p _ _ _ (p _ _ _ (p _ _ _ k_su k_su) k_su) k_su) k_su) k_su) k_su) k_su
theorem sw8_dW {b : Nat} (hb : 48 * n ≤ b ∧ b + 8 ≤ 48 * n + 48) : dW n dk M M S (sw8 S b v) := by
  unfold sw8
  have p : ∀ T i u, b ≤ i → i < b + 8 → dW n dk M M T (s_u T 44 i u) := fun T i u h1 h2 => dW_su (Or.inr (Or.inr (Or.inr (Or.inl ⟨rfl, by omega, by omega⟩))))
  exact dW_tr (dW_tr (dW_tr (dW_tr (dW_tr (dW_tr (dW_tr (p _ _ _ (by omega) (by omega)) (p _ _ _ (by omega) (by omega))) (p _ _ _ (by omega) (by omega))) (p _ _ _ (by omega) (by omega))) (p _ _ _ (by omega) (by omega))) (p _ _ _ (by omega) (by omega))) (p _ _ _ (by omega) (by omega))) (p _ _ _ (by omega) (by omega))
/-- freeWrite -/
theorem f76_eq {lr : Nat} (hd : dkR M n dk) (ho : olR M S t n dk OL lr j) : ∃ o, f76 [.inr (.inr (some dk))] M = some (some (.inr (.inr o)), M) ∧ ((o = none ∧ OL.length = 6) ∨ ∃ i, i < 6 ∧ o = some (dk + 4 + 2 * i) ∧ i ∉ OL.map (fun e => e.1) ∧ OL.length ≤ 5) := by
  obtain ⟨⟨o1, o2⟩, -, o3, o4, o5, -⟩ := ho
  have hsl : ∀ x, x ∈ OL.map (fun e => e.1) → x < 6 ∧ h_fi M 700 (dk + 4 + 2 * x) = 1 := fun x hx => by
    obtain ⟨e, e1, e2⟩ := List.mem_map.mp hx
    obtain ⟨u, b, m, bits, o, r, a1, ⟨a2, -⟩, -⟩ := o4 e e1
    subst e2
    exact ⟨a1, a2⟩
  have hlen : (OL.map (fun e => e.1)).length = OL.length := List.length_map _
  have loop : ∀ d i fuel, i + d = 6 → d < fuel → (∀ q, q < i → q ∈ OL.map (fun e => e.1)) → ∃ o, drive k76 fuel 2 [.inr (.inr (some dk)), .inl (nI i)] M = some (some (.inr (.inr o)), M) ∧ ((o = none ∧ OL.length = 6) ∨ ∃ i, i < 6 ∧ o = some (dk + 4 + 2 * i) ∧ i ∉ OL.map (fun e => e.1) ∧ OL.length ≤ 5) := by
    intro d
    induction d with
    | zero =>
      intro i fuel hi hf hq
      obtain ⟨g, rfl⟩ : ∃ g, fuel = g + 1 := ⟨fuel - 1, by omega⟩
      refine ⟨none, dr_end ?_, Or.inl ⟨rfl, ?_⟩⟩
      · show b76_2 dk (nI i) M = _
        unfold b76_2
        rw [if_pos (show (6 : Int32) ≤ nI i from nI_le (a := 6) (by omega) (by omega))]
      · have := all6 (l := OL.map (fun e => e.1)) (fun q hq' => hq q (by omega))
        omega
    | succ d ih =>
      intro i fuel hi hf hq
      obtain ⟨g, rfl⟩ : ∃ g, fuel = g + 1 := ⟨fuel - 1, by omega⟩
      obtain ⟨y1, y2, y3⟩ := slot_i hd (show i < 6 by omega)
      by_cases z : i ∈ OL.map (fun e => e.1)
      · have g0 : g_i M 7 0 (some (dk + 4 + 2 * i)) = some 1 := (g_i_t (ci := 7) y3).trans (congrArg some (hsl i z).2)
        have body : k76 2 [.inr (.inr (some dk)), .inl (nI i)] M = some (.inr (2, [.inr (.inr (some dk)), .inl (nI (i + 1))], M)) := by
          show b76_2 dk (nI i) M = _
          unfold b76_2
          rw [if_neg (show ¬ (6 : Int32) ≤ nI i from nI_ge (b := 6) (by omega) (by omega)), bd_s y1, bd_s y2, bd_s g0, if_neg (by decide), nI_1]
        obtain ⟨o, r1, r2⟩ := ih (i + 1) g (by omega) (by omega) (fun q hq' => by
          by_cases y : q = i
          · subst y; exact z
          · exact hq q (by omega))
        exact ⟨o, by rw [dr_go body]; exact r1, r2⟩
      · have g0 : g_i M 7 0 (some (dk + 4 + 2 * i)) = some 0 := (g_i_t (ci := 7) y3).trans (congrArg some (o5 i (by omega) z))
        refine ⟨some (dk + 4 + 2 * i), dr_end ?_, Or.inr ⟨i, by omega, rfl, z, ?_⟩⟩
        · show b76_2 dk (nI i) M = _
          unfold b76_2
          rw [if_neg (show ¬ (6 : Int32) ≤ nI i from nI_ge (b := 6) (by omega) (by omega)), bd_s y1, bd_s y2, bd_s g0, if_pos rfl, bd_s y1, bd_s y2]
        · have := not6 o3 (fun x hx => (hsl x hx).1) (show i < 6 by omega) z
          omega
  exact loop 6 0 xF (by omega) (by unfold xF; omega) (fun q hq => by omega)
/-- a WRITE is opened, both sides -/
theorem P_opn {i u b m : Nat} {ox fr : Int32} (h : HB sw nd rm M S ia w pe wo t zb sb fl hc hs kR ka tog) (hN : NR nd M S t nc ca hh lv jj G) (hn : n < nd) (hG : G n = .inr (dk, OL)) (hi : i < 6) (hni : i ∉ OL.map (fun e => e.1)) (hl5 : OL.length ≤ 5) (hu : u ≤ 1) (hm : 1 ≤ m ∧ m ≤ 4 ∧ b + m ≤ 16) (hj : jj n ≤ 100) : ∃ lr lr' ib OL', (h_fi M 106 dk = nI lr ∧ S.1 43 n = nI lr ∧ lr < 65536 ∧ (lr + 1) % 65536 = lr') ∧ HB sw nd rm (wr8 (h_pi M 106 dk (nI lr')) (dk + 4 + 2 * i) (fun k => [1, ox, fr, nI lr', nI (16 * u + b), nI m, nI t, 0].getD k 0)) (s_u (sw8 (s_u S 43 n (nI lr')) (48 * n + 8 * OL.length) (fun k => [fr, ox, nI lr', nI u, nI b, nI m, 0, nI t].getD k 0)) 46 n (nI (OL.length + 1))) ib w pe wo t zb sb fl hc hs kR ka tog ∧ NR nd (wr8 (h_pi M 106 dk (nI lr')) (dk + 4 + 2 * i) (fun k => [1, ox, fr, nI lr', nI (16 * u + b), nI m, nI t, 0].getD k 0)) (s_u (sw8 (s_u S 43 n (nI lr')) (48 * n + 8 * OL.length) (fun k => [fr, ox, nI lr', nI u, nI b, nI m, 0, nI t].getD k 0)) 46 n (nI (OL.length + 1))) t nc ca hh lv (u1 jj n (jj n + 1)) (u1 G n (.inr (dk, OL'))) := by
  have hI := h.I
  have hnd := hI.bs.2.1.2
  obtain ⟨h1, h2, h3, ⟨lm, l1, l2, l3, l4⟩, lr, r1, r2, r3, ⟨o1, o1'⟩, o2, o3, o4, o5, o6⟩ := hN.dd hn hG
  have t8 := (h2.2.2.2 i hi).2.1
  have t2 := h2.2.1.1
  generalize hlr : (lr + 1) % 65536 = lr' at *
  have hlr' : lr' < 65536 := by rw [← hlr]; exact Nat.mod_lt _ (by omega)
  let vM : Nat → Int32 := fun k => [1, ox, fr, nI lr', nI (16 * u + b), nI m, nI t, 0].getD k 0
  let vS : Nat → Int32 := fun k => [fr, ox, nI lr', nI u, nI b, nI m, 0, nI t].getD k 0
  let M1 := h_pi M 106 dk (nI lr')
  let N := wr8 M1 (dk + 4 + 2 * i) vM
  let S1 := s_u S 43 n (nI lr')
  let S2 := sw8 S1 (48 * n + 8 * OL.length) vS
  let T := s_u S2 46 n (nI (OL.length + 1))
  let e : oE := (i, vS, fun k => S.2 45 (24 * n + 4 * OL.length + k))
  have k1 := k_hpi (f := 106) (a := dk) (v := nI lr') h.bk (by rw [t2]; decide)
  have k2 : kp [700, 701, 702, 703, 704, 705, 706, 707] [] M1 N := wr8_kp k1.1 t8
  have kk : kp [106, 700, 701, 702, 703, 704, 705, 706, 707] [] M N := ((kp.rf h.bk : kp [106, 700, 701, 702, 703, 704, 705, 706, 707] [] M M).tr k1 rfl rfl).tr k2 rfl rfl
  have ll : ks [43, 44, 46] S T := ((ks.rf.tr (k_su : ks [43] S S1) rfl : ks [43, 44, 46] S S1).tr (sw8_ks : ks [44] S1 S2) rfl).tr (k_su : ks [46] S2 T) rfl
  have hw : dW n dk M N S T := by
    have w1 : dW n dk M M1 S S := dW_pi (Or.inr (Or.inl rfl)) (by omega)
    have w2 : dW n dk M1 N S S := wr8_dW (by omega)
    have w3 : dW n dk N N S S1 := dW_su (Or.inr (Or.inl ⟨by omega, rfl⟩))
    have w4 : dW n dk N N S1 S2 := sw8_dW (by omega)
    have w5 : dW n dk N N S2 T := dW_su (Or.inr (Or.inl ⟨by omega, rfl⟩))
    exact dW_tr (dW_tr (dW_tr (dW_tr w1 w2) w3) w4) w5
  have hT2 : T.2 = S.2 := rfl
  have f106 : h_fi N 106 dk = nI lr' := by
    show h_fi (wr8 M1 (dk + 4 + 2 * i) vM) 106 dk = _
    rw [wr8_o (by omega)]
    show h_fi (h_pi M 106 dk (nI lr')) 106 dk = _
    rw [fi_eq, u1_eq]
  have fo : ∀ k a', (700 ≤ k ∧ a' ≠ dk + 4 + 2 * i) → h_fi N k a' = h_fi M k a' := fun k a' q => by
    show h_fi (wr8 M1 (dk + 4 + 2 * i) vM) k a' = _
    rw [wr8_o (by omega)]
    exact h_pi_o (by omega)
  have t43 : T.1 43 n = nI lr' := by
    show (s_u S2 46 n (nI (OL.length + 1))).1 43 n = _
    rw [su_ne (by decide)]
    show (sw8 S1 (48 * n + 8 * OL.length) vS).1 43 n = _
    rw [sw8_o (by omega)]
    exact s_u_at
  have t44 : ∀ x, (x < 48 * n + 8 * OL.length ∨ 48 * n + 8 * OL.length + 8 ≤ x) → T.1 44 x = S.1 44 x := fun x q => by
    show (s_u S2 46 n (nI (OL.length + 1))).1 44 x = _
    rw [su_ne (by decide)]
    show (sw8 S1 (48 * n + 8 * OL.length) vS).1 44 x = _
    rw [sw8_o (by omega)]
    exact s_u_o (by omega)
  have t44' : ∀ q, q < 8 → T.1 44 (48 * n + 8 * OL.length + q) = vS q := fun q hq => by
    show (s_u S2 46 n (nI (OL.length + 1))).1 44 _ = _
    rw [su_ne (by decide)]
    exact sw8_at q hq
  have t46 : T.1 46 n = nI (OL.length + 1) := s_u_at
  have hage : ∀ e, e ∈ OL → ∃ r, r < 65536 ∧ e.2.1 2 = nI r ∧ agR lr' r = agR lr r + 1 := fun e he => by
    obtain ⟨u', b', m', bits, o, r, a1, a2, a3, a4, ⟨a5, a6, a7⟩, a8, a9, a10⟩ := o4 e he
    refine ⟨r, a9, a8, ?_⟩
    rw [← hlr]
    exact ag1 r1 a9 (by omega)
  have hdi : diR N T t n dk (OL ++ [e]) (jj n + 1) := by
    refine ⟨?_, h2.kp kk (by decide) (by decide), fun q hq => ?_, ⟨lm, l1, ?_, ?_, fun q hq => ?_⟩, lr', hlr', f106, t43, ⟨?_, ?_⟩, fun q hq => ?_, ?_, fun e' he' => ?_, fun q hq hnq => ?_, ?_⟩
    · rw [kk.fr (by decide), kk.fr (by decide), ll.i (by decide)]; exact h1
    · rw [(kk.2.2.2.1 _ (by intro z; cases z)).2.1, hT2]; exact h3 q hq
    · rw [kk.fi (by decide)]; exact l2
    · rw [ll.i (by decide)]; exact l3
    · rw [(kk.2.2.2.1 _ (by intro z; cases z)).1, ll.i (by decide)]; exact l4 q hq
    · rw [t46, List.length_append]; rfl
    · rw [List.length_append]; show OL.length + 1 ≤ 6; omega
    · rw [List.length_append] at hq
      have hq : q < OL.length + 1 := hq
      by_cases z : q = OL.length
      · subst z
        have : (OL ++ [e]).getD OL.length oE0 = e := by simp [List.getD_eq_getElem?_getD]
        rw [this]
        exact ⟨fun p hp => t44' p hp, fun p _ => rfl⟩
      · have : (OL ++ [e]).getD q oE0 = OL.getD q oE0 := by
          rw [List.getD_eq_getElem?_getD, List.getD_eq_getElem?_getD, List.getElem?_append_left (by omega)]
        rw [this]
        obtain ⟨y1, y2⟩ := o2 q (by omega)
        exact ⟨fun p hp => by rw [t44 _ (by omega)]; exact y1 p hp, fun p hp => by rw [hT2]; exact y2 p hp⟩
    · rw [List.map_append]
      refine List.nodup_append.mpr ⟨o3, List.nodup_cons.mpr ⟨List.not_mem_nil, List.nodup_nil⟩, fun x hx y hy q => ?_⟩
      have : y = i := by simpa using hy
      subst this
      subst q
      exact hni hx
    · rcases List.mem_append.mp he' with q | q
      · have hq := o4 e' q
        have hs : e'.1 ≠ i := fun z => hni (by rw [← z]; exact List.mem_map_of_mem q)
        obtain ⟨r, r1', r2', r3'⟩ := hage e' q
        obtain ⟨u', b', m', bits, o, r', a1, a2, a3, ⟨a4, a4', a4''⟩, ⟨a5, a6, a7⟩, a8, a9, a10⟩ := hq
        have er : r = r' := (nI_eq (by omega) (by omega)).mp (by rw [← r2', ← a8])
        subst er
        refine ⟨u', b', m', bits, o, r, a1, ?_, a3, ⟨a4, a4', ?_⟩, ⟨a5, a6, a7⟩, a8, a9, by rw [r3']; omega⟩
        · rw [fo 700 _ (by omega), fo 701 _ (by omega), fo 702 _ (by omega), fo 703 _ (by omega), fo 704 _ (by omega), fo 705 _ (by omega), fo 706 _ (by omega), fo 707 _ (by omega)]; exact a2
        · rw [(kk.2.2.2.1 _ (by intro z; cases z)).2.1]; exact a4''
      · have : e' = e := by simpa using q
        subst this
        have A := wr8_at (M := M1) (s := dk + 4 + 2 * i) (v := vM)
        refine ⟨u, b, m, 0, t, lr', hi, ⟨A.1, A.2.1, A.2.2.1, A.2.2.2.1, A.2.2.2.2.1, A.2.2.2.2.2.1, A.2.2.2.2.2.2.1, A.2.2.2.2.2.2.2⟩, ⟨rfl, rfl, rfl, hu, hm.1, hm.2.1, hm.2.2⟩, ⟨rfl, by omega, fun p _ q => by simp at q⟩, ⟨rfl, Nat.le_refl _, by omega⟩, rfl, hlr', by rw [ag0 hlr']; omega⟩
    · rw [List.map_append] at hnq
      have z1 : q ∉ OL.map (fun e => e.1) := fun z => hnq (List.mem_append_left _ z)
      have z2 : q ≠ i := fun z => hnq (List.mem_append_right _ (by rw [z]; exact List.mem_singleton.mpr rfl))
      rw [fo 700 _ (by omega)]; exact o5 q hq z1
    · refine List.pairwise_append.mpr ⟨?_, List.pairwise_singleton _ _, fun x hx y hy => ?_⟩
      · refine o6.imp_of_mem (fun {x y} hx hy q => ?_)
        obtain ⟨rx, x1, x2, x3⟩ := hage x hx
        obtain ⟨ry, y1, y2, y3⟩ := hage y hy
        unfold rxN at q ⊢
        rw [x2, y2, nI_clamp (by omega), nI_clamp (by omega)] at q ⊢
        rw [x3, y3]; omega
      · have : y = e := by simpa using hy
        subst this
        obtain ⟨rx, x1, x2, x3⟩ := hage x hx
        have ey : rxN e = lr' := by
          show (nI lr').toNatClampNeg = _
          exact nI_clamp (by omega)
        rw [ey, ag0 hlr']
        unfold rxN
        rw [x2, nI_clamp (by omega), x3]; omega
  exact ⟨lr, lr', _, OL ++ [e], ⟨r2, r3, r1, hlr⟩, h.cw kk (by decide) (by decide) (fun a _ => (kk.2.2.2.1 a (by intro z; cases z)).1) ll (by decide), hN.di hI hn hG hw hdi⟩
end OW
