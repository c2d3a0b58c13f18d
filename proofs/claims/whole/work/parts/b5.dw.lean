/-! ===== a disc changes ===== -/
def dsI (n k i : Nat) : Prop := (k = 40 ∧ 8 * n ≤ i ∧ i < 8 * n + 8) ∨ ((k = 41 ∨ k = 43 ∨ k = 46) ∧ i = n) ∨ (k = 42 ∧ 32 * n ≤ i ∧ i < 32 * n + 32) ∨ (k = 44 ∧ 48 * n ≤ i ∧ i < 48 * n + 48) ∨ (k = 45 ∧ 24 * n ≤ i ∧ i < 24 * n + 24)
def dkI (k : Nat) : Prop := k = 104 ∨ k = 106 ∨ (700 ≤ k ∧ k ≤ 707)
def dW (n dk : Nat) (M N : hM) (S T : sT) : Prop :=
  (∀ a, h_tg M a ≠ 0 → h_tg N a = h_tg M a ∧ h_ln N a = h_ln M a) ∧
  (∀ k, k ∈ nrF → (∀ a, ((a < dk ∨ dk + 16 ≤ a) ∨ ¬ dkI k) → h_fi N k a = h_fi M k a) ∧ h_fl N k = h_fl M k ∧ h_fr N k = h_fr M k) ∧
  (∀ a, (a < dk ∨ dk + 16 ≤ a) → (h_tg M a = 20 → 140 ≤ a → h_ai N a = h_ai M a) ∧ (h_tg M a = 23 → h_al N a = h_al M a)) ∧
  (∀ a, (h_tg M a = 30 ∨ h_tg M a = 37) → h_ar N a = h_ar M a) ∧
  ∀ k, k ∈ nrS → ∀ i, ¬ dsI n k i → T.1 k i = S.1 k i ∧ T.2 k i = S.2 k i
section DW
variable {sw nd rm : Nat} {M M' N : hM} {S S' T : sT} {t nc c n j dk : Nat} {ca hh : Nat → Nat} {lv : Nat → Bool} {jj : Nat → Nat} {G : Nat → nG} {R : List Nat} {OL OL' : List oE}
theorem dW_rf : dW n dk M M S S := ⟨fun _ _ => ⟨rfl, rfl⟩, fun _ _ => ⟨fun _ _ => rfl, rfl, rfl⟩, fun _ _ => ⟨fun _ _ => rfl, fun _ => rfl⟩, fun _ _ => rfl, fun _ _ _ _ => ⟨rfl, rfl⟩⟩
theorem dW_tr (h : dW n dk M M' S S') (g : dW n dk M' N S' T) : dW n dk M N S T := by
  obtain ⟨h1, h2, h3, h4, h5⟩ := h
  obtain ⟨g1, g2, g3, g4, g5⟩ := g
  refine ⟨fun a q => ?_, fun k hk => ⟨fun a q => ?_, ?_, ?_⟩, fun a q => ⟨fun q1 q2 => ?_, fun q1 => ?_⟩, fun a q => ?_, fun k hk i q => ?_⟩
  · obtain ⟨e1, e2⟩ := h1 a q
    obtain ⟨e3, e4⟩ := g1 a (by rw [e1]; exact q)
    exact ⟨e3.trans e1, e4.trans e2⟩
  · exact ((g2 k hk).1 a q).trans ((h2 k hk).1 a q)
  · exact (g2 k hk).2.1.trans (h2 k hk).2.1
  · exact (g2 k hk).2.2.trans (h2 k hk).2.2
  · exact ((g3 a q).1 (by rw [(h1 a (by rw [q1]; decide)).1]; exact q1) q2).trans ((h3 a q).1 q1 q2)
  · exact ((g3 a q).2 (by rw [(h1 a (by rw [q1]; decide)).1]; exact q1)).trans ((h3 a q).2 q1)
  · refine (g4 a ?_).trans (h4 a q)
    rcases q with q | q
    · rw [(h1 a (by rw [q]; decide)).1]; exact Or.inl q
    · rw [(h1 a (by rw [q]; decide)).1]; exact Or.inr q
  · exact ⟨((g5 k hk i q).1).trans (h5 k hk i q).1, ((g5 k hk i q).2).trans (h5 k hk i q).2⟩
theorem dW_fst (k : fst M N S T) : dW n dk M N S T := by
  have qf : ∀ x, x ∈ nrF → x ∉ fsF := by decide
  have qs : ∀ x, x ∈ nrS → x ∉ fsS := by decide
  refine ⟨k.1.2.1, fun x hx => ?_, fun a _ => ⟨fun q1 q2 => (k.2.1 a q2 q1).2, fun q1 => ?_⟩, fun a q => ?_, fun x hx i _ => ?_⟩
  · obtain ⟨e1, e2, e3⟩ := k.1.2.2.1 x (qf x hx)
    exact ⟨fun a _ => by rw [e1], e2, e3⟩
  · exact (k.1.2.2.2.1 a (by rw [q1]; decide)).2.1
  · exact (k.1.2.2.2.1 a (by rcases q with q | q <;> rw [q] <;> decide)).2.2
  · obtain ⟨e1, e2⟩ := k.2.2 x (qs x hx)
    exact ⟨by rw [e1], by rw [e2]⟩
theorem dW_pi {k a : Nat} {v : Int32} (hk : dkI k) (ha : dk ≤ a ∧ a < dk + 16) : dW n dk M (h_pi M k a v) S S := by
  refine ⟨fun _ _ => ⟨rfl, rfl⟩, fun x hx => ⟨fun b q => ?_, rfl, rfl⟩, fun _ _ => ⟨fun _ _ => rfl, fun _ => rfl⟩, fun _ _ => rfl, fun _ _ _ _ => ⟨rfl, rfl⟩⟩
  by_cases z : x = k
  · subst z
    rw [fi_eq]
    refine u1_ne ?_
    rcases q with q | q
    · omega
    · exact absurd hk q
  · rw [fi_ne z]
theorem dW_qi {a i : Nat} {v : Int32} (ha : dk ≤ a ∧ a < dk + 16) : dW n dk M (h_qi M a i v) S S := ⟨fun _ _ => ⟨rfl, rfl⟩, fun _ _ => ⟨fun _ _ => rfl, rfl, rfl⟩, fun b q => ⟨fun _ _ => funext fun _ => u2_nk (by omega), fun _ => rfl⟩, fun _ _ => rfl, fun _ _ _ _ => ⟨rfl, rfl⟩⟩
theorem dW_ca {a : Nat} {g : Nat → Int32} (ha : dk ≤ a ∧ a < dk + 16) : dW n dk M (h_ca M a g) S S := ⟨fun _ _ => ⟨rfl, rfl⟩, fun _ _ => ⟨fun _ _ => rfl, rfl, rfl⟩, fun b q => ⟨fun _ _ => funext fun _ => if_neg (show ¬ b = a by omega), fun _ => rfl⟩, fun _ _ => rfl, fun _ _ _ _ => ⟨rfl, rfl⟩⟩
theorem dW_ql {a i : Nat} {v : Int64} (ha : dk ≤ a ∧ a < dk + 16) : dW n dk M (h_ql M a i v) S S := ⟨fun _ _ => ⟨rfl, rfl⟩, fun _ _ => ⟨fun _ _ => rfl, rfl, rfl⟩, fun b q => ⟨fun _ _ => rfl, fun _ => funext fun _ => u2_nk (by omega)⟩, fun _ _ => rfl, fun _ _ _ _ => ⟨rfl, rfl⟩⟩
theorem dW_su {k i : Nat} {v : Int32} (h : dsI n k i) : dW n dk M M S (s_u S k i v) := by
  refine ⟨fun _ _ => ⟨rfl, rfl⟩, fun _ _ => ⟨fun _ _ => rfl, rfl, rfl⟩, fun _ _ => ⟨fun _ _ => rfl, fun _ => rfl⟩, fun _ _ => rfl, fun x _ y q => ⟨?_, rfl⟩⟩
  by_cases z : x = k
  · subst z
    rw [su_eq]
    exact u1_ne (fun y' => q (by rw [y']; exact h))
  · rw [su_ne z]
theorem dW_sul {k i : Nat} {v : Int64} (h : dsI n k i) : dW n dk M M S (s_ul S k i v) := by
  refine ⟨fun _ _ => ⟨rfl, rfl⟩, fun _ _ => ⟨fun _ _ => rfl, rfl, rfl⟩, fun _ _ => ⟨fun _ _ => rfl, fun _ => rfl⟩, fun _ _ => rfl, fun x _ y q => ⟨rfl, ?_⟩⟩
  refine sul_ne ?_
  by_cases z : x = k
  · subst z; exact Or.inr (fun y' => q (by rw [y']; exact h))
  · exact Or.inl z
theorem NR.di (h : NR nd M S t nc ca hh lv jj G) (hI : cI sw nd rm M) (hn : n < nd) (hG : G n = .inr (dk, OL)) (k : dW n dk M N S T) (hd : diR N T t n dk OL' j) : NR nd N T t nc ca hh lv (u1 jj n j) (u1 G n (.inr (dk, OL'))) := by
  obtain ⟨k1, k2, k3, k4, k5⟩ := k
  obtain ⟨⟨⟨b1, b2, b3⟩, b4, b5, b6⟩, b7, b8, b9⟩ := h
  have hd0 := b8 n hn
  rw [hG] at hd0
  obtain ⟨q1, q2, q3⟩ := hd0
  have dk0 := q1.2.1.1
  have ns : ∀ k, (k < 40 ∨ 46 < k) → ∀ i, ¬ dsI n k i := fun k q i z => by
    unfold dsI at z; omega
  have nk : ∀ k, ¬ dkI k → ∀ a, ((a < dk ∨ dk + 16 ≤ a) ∨ ¬ dkI k) := fun k q a => Or.inr q
  have n1107 : ¬ dkI 1107 := by unfold dkI; omega
  have fi : ∀ k, k ∈ nrF → ¬ dkI k → ∀ a, h_fi N k a = h_fi M k a := fun k q1 q2 a => (k2 k q1).1 a (Or.inr q2)
  refine ⟨⟨⟨by rw [fi 1107 (by decide) n1107]; exact b1, by rw [(k5 47 (by decide) 0 (ns 47 (by omega) 0)).1]; exact b2, b3⟩, fun c' hc' => ?_, b5, fun c' k' y1 y2 y3 => by rw [(k5 54 (by decide) _ (ns 54 (by omega) _)).2]; exact b6 c' k' y1 y2 y3⟩, fun n' hn' => ?_, fun n' hn' => ?_, fun n' m' q r hn' hm' hne e1 e2 => ?_⟩
  · obtain ⟨⟨a1, a2, a3⟩, a4⟩ := b4 c' hc'
    refine ⟨⟨by rw [k4 7 (Or.inl hI.ar8)]; exact a1, a2, a3⟩, ?_⟩
    have a4' := a4
    obtain ⟨wr, un, bl, m, d, ph, bg, pa, cb, ⟨p1, p2, p3, p4⟩, -⟩ := a4'
    have dj := q3 c' hc'
    refine a4.cg (fun k hk => fi k ?_ (by unfold dkI; omega) _) ?_ ?_ ⟨(k1 _ (by rw [p1]; decide)).1, (k1 _ (by rw [p3]; decide)).1, (k1 _ (by rw [p3]; decide)).2⟩ ((k3 _ (by have : ca c' + 1 < dk ∨ dk + 16 ≤ ca c' := dj; omega)).2 p3) (fun k y1 y2 => (k5 k ?_ _ (ns k (by omega) _)).1) (fun k hk => (k5 54 (by decide) _ (ns 54 (by omega) _)).2)
    · have : k = 0 ∨ k = 1 ∨ k = 2 ∨ k = 3 ∨ k = 4 ∨ k = 5 ∨ k = 6 ∨ k = 7 ∨ k = 8 ∨ k = 9 ∨ k = 10 ∨ k = 11 ∨ k = 12 ∨ k = 13 := by omega
      rcases this with rfl | rfl | rfl | rfl | rfl | rfl | rfl | rfl | rfl | rfl | rfl | rfl | rfl | rfl <;> decide
    · rw [(k2 4 (by decide)).2.1]
    · rw [(k2 5 (by decide)).2.2]
    · have : k = 48 ∨ k = 49 ∨ k = 50 ∨ k = 51 ∨ k = 52 ∨ k = 53 ∨ k = 54 ∨ k = 55 ∨ k = 56 ∨ k = 57 ∨ k = 58 ∨ k = 59 ∨ k = 60 := by omega
      rcases this with rfl | rfl | rfl | rfl | rfl | rfl | rfl | rfl | rfl | rfl | rfl | rfl | rfl <;> decide
  · rw [fi 503 (by decide) (by unfold dkI; omega), (k5 35 (by decide) _ (ns 35 (by omega) _)).1]; exact b7 n' hn'
  · by_cases z : n' = n
    · subst z
      rw [u1_eq, u1_eq]
      exact ⟨hd, q2, q3⟩
    · rw [u1_ne z, u1_ne z]
      have q := b8 n' hn'
      have out : ∀ k i, k ∈ nrS → (k ≠ 40 ∨ (i < 8 * n ∨ 8 * n + 8 ≤ i)) → ((k ≠ 41 ∧ k ≠ 43 ∧ k ≠ 46) ∨ i ≠ n) → (k ≠ 42 ∨ (i < 32 * n ∨ 32 * n + 32 ≤ i)) → (k ≠ 44 ∨ (i < 48 * n ∨ 48 * n + 48 ≤ i)) → (k ≠ 45 ∨ (i < 24 * n ∨ 24 * n + 24 ≤ i)) → T.1 k i = S.1 k i ∧ T.2 k i = S.2 k i := fun k i h0 y1 y2 y3 y4 y5 => k5 k h0 i (fun z => by unfold dsI at z; omega)
      cases hG' : G n' with
      | inl R =>
        rw [hG'] at q
        obtain ⟨p1, p2, p3, ⟨p4, p5, p6, p7, p8, p9⟩, p10⟩ := q
        refine ⟨?_, ?_, fun d hd => ?_, ⟨?_, p5, fun i hi => ?_, p7, p8, fun c' y1 y2 y3 => ?_⟩, ?_⟩
        · rw [(k2 504 (by decide)).2.2, (k2 505 (by decide)).2.2, (k5 33 (by decide) _ (ns 33 (by omega) _)).1]; exact p1
        · rw [fi 402 (by decide) (by unfold dkI; omega), (k5 34 (by decide) _ (ns 34 (by omega) _)).1]; exact p2
        · rw [(k3 (160 + n') (by have := hI.bs.2.1.2; omega)).1 (hI.ho5 hn') (by omega), (k5 39 (by decide) _ (ns 39 (by omega) _)).1]; exact p3 d hd
        · rw [fi 405 (by decide) (by unfold dkI; omega)]; exact p4
        · rw [k4 (170 + n') (Or.inl (hI.ho7 hn'))]; exact p6 i hi
        · rw [(k5 59 (by decide) _ (ns 59 (by omega) _)).1] at y3; exact p9 c' y1 y2 y3
        · rw [(out 41 n' (by decide) (by omega) (by omega) (by omega) (by omega) (by omega)).1, (out 46 n' (by decide) (by omega) (by omega) (by omega) (by omega) (by omega)).1, (out 43 n' (by decide) (by omega) (by omega) (by omega) (by omega) (by omega)).1]
          exact ⟨p10.1, p10.2.1, p10.2.2.1, fun i hi => by rw [(out 42 (32 * n' + i) (by decide) (by omega) (by omega) (by omega) (by omega) (by omega)).2]; exact p10.2.2.2 i hi⟩
      | inr w =>
        rw [hG'] at q
        obtain ⟨p1, p2, p3⟩ := q
        have dj : w.1 + 16 ≤ dk ∨ dk + 16 ≤ w.1 := b9 n' n w (dk, OL) hn' hn z hG' hG
        have w0 := p1.2.1
        refine ⟨p1.cg k1 (fun x hx => ?_) ⟨by rw [(k2 504 (by decide)).2.2], by rw [(k2 505 (by decide)).2.2]⟩ (fun x a hx h1 h2 => ?_) ((k3 _ (by omega)).2 w0.2.2.1.1) ((k3 _ (by omega)).1 w0.2.2.1.2.2.1 (by have := w0.1; omega)) (k4 _ (Or.inr w0.2.2.1.2.2.2.2.1)) (fun i hi => (k3 _ (by omega)).2 (w0.2.2.2 i hi).2.2.2.1) ⟨(k5 33 (by decide) _ (ns 33 (by omega) _)).1, (out 41 n' (by decide) (by omega) (by omega) (by omega) (by omega) (by omega)).1, (out 43 n' (by decide) (by omega) (by omega) (by omega) (by omega) (by omega)).1, (out 46 n' (by decide) (by omega) (by omega) (by omega) (by omega) (by omega)).1⟩ (fun i _ => (out 42 (32 * n' + i) (by decide) (by omega) (by omega) (by omega) (by omega) (by omega)).2) (fun i _ => (out 40 (8 * n' + i) (by decide) (by omega) (by omega) (by omega) (by omega) (by omega)).1) (fun i _ => (out 44 (48 * n' + i) (by decide) (by omega) (by omega) (by omega) (by omega) (by omega)).1) (fun i _ => (out 45 (24 * n' + i) (by decide) (by omega) (by omega) (by omega) (by omega) (by omega)).2), p2, p3⟩
        · refine (k2 x ?_).2.2
          have : x = 100 ∨ x = 101 ∨ x = 102 ∨ x = 103 ∨ x = 105 ∨ x = 708 := by simpa using hx
          rcases this with rfl | rfl | rfl | rfl | rfl | rfl <;> decide
        · have : x = 104 ∨ x = 106 ∨ x = 700 ∨ x = 701 ∨ x = 702 ∨ x = 703 ∨ x = 704 ∨ x = 705 ∨ x = 706 ∨ x = 707 := by omega
          exact (k2 x (by rcases this with rfl | rfl | rfl | rfl | rfl | rfl | rfl | rfl | rfl | rfl <;> decide)).1 a (by omega)
  · by_cases z1 : n' = n
    · subst z1
      rw [u1_eq] at e1
      cases e1
      rw [u1_ne (Ne.symm hne)] at e2
      exact b9 n' m' (dk, OL) r hn' hm' hne hG e2
    · rw [u1_ne z1] at e1
      by_cases z2 : m' = n
      · subst z2
        rw [u1_eq] at e2
        cases e2
        exact b9 n' m' q (dk, OL) hn' hm' hne e1 hG
      · rw [u1_ne z2] at e2
        exact b9 n' m' q r hn' hm' hne e1 e2
theorem NR.dd (h : NR nd M S t nc ca hh lv jj G) (hn : n < nd) (hG : G n = .inr (dk, OL)) : diR M S t n dk OL (jj n) := by
  have := h.2.2.1 n hn
  rw [hG] at this; exact this.1
end DW
