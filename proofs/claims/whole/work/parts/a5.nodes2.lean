/-! ===== what the nodes' relation outlives ===== -/
section NL
variable {sw nd rm : Nat} {M M' N : hM} {S T : sT} {t nc a c hn n j dk : Nat} {ca hh : Nat → Nat} {lv : Nat → Bool} {jj : Nat → Nat} {G : Nat → nG} {b : Bool} {F A H : List Nat} {R : List Nat} {OL : List oE} {e : oE} {lr : Nat}
theorem nav {P : List Nat} (h : P.all (fun x => ! F.contains x) = true) : ∀ x, x ∈ P → F.contains x = false := fun x hx => by have := List.all_eq_true.mp h x hx; simpa using this
theorem NR.kp (h : NR nd M S t nc ca hh lv jj G) (hI : cI sw nd rm M) (k : kp F A M N) (hF : nrF.all (fun x => ! F.contains x) = true) (hA : [23, 30, 37].all (fun x => ! A.contains x) = true) (i : i20 M N) (l : ks H S T) (hH : nrS.all (fun x => ! H.contains x) = true) : NR nd N T t nc ca hh lv jj G := by
  have qF := nav hF
  have qA := nav hA
  have qH : ∀ x, x ∈ nrS → T.1 x = S.1 x ∧ T.2 x = S.2 x := fun x hx => ⟨l.i (nav hH x hx), (l x (fun q => by have := nav hH x hx; rw [List.contains_iff_mem.mpr q] at this; cases this)).2⟩
  have qf : ∀ x, x ∈ nrF → h_fi N x = h_fi M x ∧ h_fl N x = h_fl M x ∧ h_fr N x = h_fr M x := fun x hx => k.2.2.1 x (fun q => by have := qF x hx; rw [List.contains_iff_mem.mpr q] at this; cases this)
  have al : ∀ a, h_tg M a = 23 → h_al N a = h_al M a := fun a q => (k.2.2.2.1 a (by rw [q]; intro q; have := qA 23 (by decide); rw [List.contains_iff_mem.mpr q] at this; cases this)).2.1
  have cmk : ∀ a c hn b, cmR nd M S t a c hn b → cmR nd N T t a c hn b := fun a c hn b q => by
    have q' := q
    obtain ⟨wr, un, bl, m, d, ph, bg, pa, cb, ⟨a1, a2, a3, a4⟩, -⟩ := q'
    refine q.cg (fun k' hk => by rw [(qf k' (by
      have : k' = 0 ∨ k' = 1 ∨ k' = 2 ∨ k' = 3 ∨ k' = 4 ∨ k' = 5 ∨ k' = 6 ∨ k' = 7 ∨ k' = 8 ∨ k' = 9 ∨ k' = 10 ∨ k' = 11 ∨ k' = 12 ∨ k' = 13 := by omega
      rcases this with rfl | rfl | rfl | rfl | rfl | rfl | rfl | rfl | rfl | rfl | rfl | rfl | rfl | rfl <;> decide)).1]) (by rw [(qf 4 (by decide)).2.1]) (by rw [(qf 5 (by decide)).2.2]) ⟨(k.2.1 a (by rw [a1]; decide)).1, (k.2.1 (a + 1) (by rw [a3]; decide)).1, (k.2.1 (a + 1) (by rw [a3]; decide)).2⟩ (al _ a3) (fun k' h1 h2 => ?_) (fun k' _ => by rw [(qH 54 (by decide)).2])
    rw [(qH k' (by
      have : k' = 48 ∨ k' = 49 ∨ k' = 50 ∨ k' = 51 ∨ k' = 52 ∨ k' = 53 ∨ k' = 54 ∨ k' = 55 ∨ k' = 56 ∨ k' = 57 ∨ k' = 58 ∨ k' = 59 ∨ k' = 60 := by omega
      rcases this with rfl | rfl | rfl | rfl | rfl | rfl | rfl | rfl | rfl | rfl | rfl | rfl | rfl <;> decide)).1]
  obtain ⟨⟨⟨h1, h2, h3⟩, h4, h5, h6⟩, h7, h8, h9⟩ := h
  refine ⟨⟨⟨by rw [(qf 1107 (by decide)).1]; exact h1, by rw [(qH 47 (by decide)).1]; exact h2, h3⟩, fun c hc => ?_, h5, fun c k' g1 g2 g3 => by rw [(qH 54 (by decide)).2]; exact h6 c k' g1 g2 g3⟩, fun n hn => ?_, fun n hn => ?_, h9⟩
  · obtain ⟨⟨a1, a2, a3⟩, a4⟩ := h4 c hc
    exact ⟨⟨by rw [k.ar hI.ar8 (qA 30 (by decide))]; exact a1, a2, a3⟩, cmk _ _ _ _ a4⟩
  · rw [(qf 503 (by decide)).1, (qH 35 (by decide)).1]; exact h7 n hn
  · have q := h8 n hn
    cases hG : G n with
    | inl R =>
      rw [hG] at q
      obtain ⟨q1, q2, q3, ⟨q4, q5, q6, q7, q8, q9⟩, q10⟩ := q
      refine ⟨?_, ?_, fun d hd => ?_, ⟨?_, q5, fun i hi => ?_, q7, q8, fun c y1 y2 y3 => ?_⟩, ?_⟩
      · rw [(qf 504 (by decide)).2.2, (qf 505 (by decide)).2.2, (qH 33 (by decide)).1]; exact q1
      · rw [(qf 402 (by decide)).1, (qH 34 (by decide)).1]; exact q2
      · rw [(i (160 + n) (by omega) (hI.ho5 hn)).2, (qH 39 (by decide)).1]; exact q3 d hd
      · rw [(qf 405 (by decide)).1]; exact q4
      · rw [k.ar (hI.ho7 hn) (qA 30 (by decide))]; exact q6 i hi
      · rw [(qH 59 (by decide)).1] at y3; exact q9 c y1 y2 y3
      · rw [(qH 41 (by decide)).1, (qH 46 (by decide)).1, (qH 43 (by decide)).1, (qH 42 (by decide)).2]; exact q10
    | inr w =>
      rw [hG] at q
      obtain ⟨q1, q2, q3⟩ := q
      have dk := q1.2.1
      refine ⟨q1.cg k.2.1 (fun x hx => ?_) ⟨by rw [(qf 504 (by decide)).2.2], by rw [(qf 505 (by decide)).2.2]⟩ (fun x a hx _ _ => ?_) (al _ dk.2.2.1.1) (i _ (by have := dk.1; omega) dk.2.2.1.2.2.1).2 (k.ar dk.2.2.1.2.2.2.2.1 (qA 37 (by decide))) (fun i hi => al _ (dk.2.2.2 i hi).2.2.2.1) ⟨by rw [(qH 33 (by decide)).1], by rw [(qH 41 (by decide)).1], by rw [(qH 43 (by decide)).1], by rw [(qH 46 (by decide)).1]⟩ (fun i _ => by rw [(qH 42 (by decide)).2]) (fun i _ => by rw [(qH 40 (by decide)).1]) (fun i _ => by rw [(qH 44 (by decide)).1]) (fun i _ => by rw [(qH 45 (by decide)).2]), q2, q3⟩
      · refine (qf x ?_).2.2
        have : x = 100 ∨ x = 101 ∨ x = 102 ∨ x = 103 ∨ x = 105 ∨ x = 708 := by simpa using hx
        rcases this with rfl | rfl | rfl | rfl | rfl | rfl <;> decide
      · have : x = 104 ∨ x = 106 ∨ x = 700 ∨ x = 701 ∨ x = 702 ∨ x = 703 ∨ x = 704 ∨ x = 705 ∨ x = 706 ∨ x = 707 := by omega
        rw [(qf x (by rcases this with rfl | rfl | rfl | rfl | rfl | rfl | rfl | rfl | rfl | rfl <;> decide)).1]
theorem NR.fst {S' : sT} (h : NR nd M S t nc ca hh lv jj G) (hI : cI sw nd rm M) (k : fst M N S S') : NR nd N S' t nc ca hh lv jj G := h.kp hI k.1 (by decide) (by decide) k.2.1 k.2.2 (by decide)
/-- a command changes -/
theorem NR.cm (h : NR nd M S t nc ca hh lv jj G) (hc : c < nc) (h1 : ∀ k a', (k ∉ [6, 9, 10, 12, 13] ∨ a' ≠ ca c) → h_fi N k a' = h_fi M k a') (h2 : h_fl N = h_fl M ∧ h_fr N = h_fr M ∧ h_ai N = h_ai M ∧ h_ar N = h_ar M ∧ h_tg N = h_tg M ∧ h_ln N = h_ln M) (h3 : ∀ a', a' ≠ ca c + 1 → h_al N a' = h_al M a') (g1 : ∀ k c', (k ∉ [55, 56, 57, 59, 60] ∨ c' ≠ c) → T.1 k c' = S.1 k c') (g2 : ∀ k i, (k ≠ 54 ∨ i < 4 * c ∨ 4 * c + 4 ≤ i) → T.2 k i = S.2 k i) (hcm : cmR nd N T t (ca c) c (hh c) (lv (hh c))) (he : T.1 59 c = -1 → S.1 59 c = -1) : NR nd N T t nc ca hh lv jj G := by
  obtain ⟨e1, e2, e3, e4, e5, e6⟩ := h2
  obtain ⟨⟨⟨b1, b2, b3⟩, b4, b5, b6⟩, b7, b8, b9⟩ := h
  refine ⟨⟨⟨by rw [h1 1107 1 (Or.inl (by decide))]; exact b1, by rw [g1 47 0 (Or.inl (by decide))]; exact b2, b3⟩, fun c' hc' => ?_, b5, fun c' k' y1 y2 y3 => by rw [g2 _ _ (Or.inr (Or.inr (by omega)))]; exact b6 c' k' y1 y2 y3⟩, fun n hn => ?_, fun n hn => ?_, b9⟩
  · obtain ⟨a1, a4⟩ := b4 c' hc'
    refine ⟨by rw [e4]; exact a1, ?_⟩
    by_cases z : c' = c
    · subst z; exact hcm
    · have hne : ca c' ≠ ca c := fun q => z (b5 c' c hc' hc (Or.inl q))
      have hne2 : ca c' + 1 ≠ ca c + 1 := fun q => hne (by omega)
      refine a4.cg (fun k hk => h1 k _ (Or.inr hne)) (by rw [e1]) (by rw [e2]) ⟨by rw [e5], by rw [e5], by rw [e6]⟩ (h3 _ hne2) (fun k y1 y2 => g1 k c' (Or.inr z)) (fun k hk => g2 _ _ (Or.inr (by omega)))
  · rw [h1 503 _ (Or.inl (by decide)), g1 35 n (Or.inl (by decide))]; exact b7 n hn
  · have q := b8 n hn
    cases hG : G n with
    | inl R =>
      rw [hG] at q
      obtain ⟨q1, q2, q3, ⟨q4, q5, q6, q7, q8, q9⟩, q10⟩ := q
      refine ⟨?_, ?_, fun d hd => ?_, ⟨?_, q5, fun i hi => ?_, q7, q8, fun c' y1 y2 y3 => ?_⟩, ?_⟩
      · rw [e2, g1 33 n (Or.inl (by decide))]; exact q1
      · rw [h1 402 _ (Or.inl (by decide)), g1 34 n (Or.inl (by decide))]; exact q2
      · rw [e3, g1 39 _ (Or.inl (by decide))]; exact q3 d hd
      · rw [h1 405 _ (Or.inl (by decide))]; exact q4
      · rw [e4]; exact q6 i hi
      · by_cases z : c' = c
        · subst z; exact q9 _ y1 y2 (he y3)
        · rw [g1 59 c' (Or.inr z)] at y3; exact q9 c' y1 y2 y3
      · rw [g1 41 n (Or.inl (by decide)), g1 46 n (Or.inl (by decide)), g1 43 n (Or.inl (by decide))]
        exact ⟨q10.1, q10.2.1, q10.2.2.1, fun i hi => by rw [g2 _ _ (Or.inl (by decide))]; exact q10.2.2.2 i hi⟩
    | inr w =>
      rw [hG] at q
      obtain ⟨q1, q2, q3⟩ := q
      have dj := q3 c hc
      refine ⟨q1.cg (fun a _ => ⟨by rw [e5], by rw [e6]⟩) (fun x _ => by rw [e2]) ⟨by rw [e2], by rw [e2]⟩ (fun x a hx _ _ => h1 x a (Or.inl (by simp; omega))) (h3 _ (by omega)) (by rw [e3]) (by rw [e4]) (fun i hi => h3 _ (by omega)) ⟨g1 33 n (Or.inl (by decide)), g1 41 n (Or.inl (by decide)), g1 43 n (Or.inl (by decide)), g1 46 n (Or.inl (by decide))⟩ (fun i _ => g2 _ _ (Or.inl (by decide))) (fun i _ => g1 40 _ (Or.inl (by decide))) (fun i _ => g1 44 _ (Or.inl (by decide))) (fun i _ => g2 _ _ (Or.inl (by decide))), q2, q3⟩
/-- a host's logins change -/
theorem NR.lg (h : NR nd M S t nc ca hh lv jj G) (hn : n < nd) (hG : G n = .inl R) (h1 : h_fi N = h_fi M ∧ h_fl N = h_fl M ∧ h_fr N = h_fr M ∧ h_al N = h_al M ∧ h_ar N = h_ar M ∧ h_tg N = h_tg M ∧ h_ln N = h_ln M) (h2 : ∀ a, a ≠ 160 + n → h_ai N a = h_ai M a) (g1 : ∀ k i, (k ≠ 39 ∨ i < 8 * n ∨ 8 * n + 8 ≤ i) → T.1 k i = S.1 k i) (g2 : T.2 = S.2) (hl : ∀ d, d < nd → h_ai N (160 + n) d = T.1 39 (8 * n + d)) (h8 : nd ≤ 8) : NR nd N T t nc ca hh lv jj G := by
  obtain ⟨e0, e1, e2, e3, e4, e5, e6⟩ := h1
  obtain ⟨⟨⟨b1, b2, b3⟩, b4, b5, b6⟩, b7, b8, b9⟩ := h
  refine ⟨⟨⟨by rw [e0]; exact b1, by rw [g1 47 0 (Or.inl (by decide))]; exact b2, b3⟩, fun c' hc' => ?_, b5, fun c' k' y1 y2 y3 => by rw [g2]; exact b6 c' k' y1 y2 y3⟩, fun n hn => ?_, fun n' hn' => ?_, b9⟩
  · obtain ⟨a1, a4⟩ := b4 c' hc'
    refine ⟨by rw [e4]; exact a1, ?_⟩
    exact a4.cg (fun k hk => by rw [e0]) (by rw [e1]) (by rw [e2]) ⟨by rw [e5], by rw [e5], by rw [e6]⟩ (by rw [e3]) (fun k y1 y2 => g1 k c' (Or.inl (by omega))) (fun k hk => by rw [g2])
  · rw [e0, g1 35 n (Or.inl (by decide))]; exact b7 n hn
  · have q := b8 n' hn'
    cases hG' : G n' with
    | inl R =>
      rw [hG'] at q
      obtain ⟨q1, q2, q3, ⟨q4, q5, q6, q7, q8, q9⟩, q10⟩ := q
      refine ⟨?_, ?_, fun d hd => ?_, ⟨?_, q5, fun i hi => ?_, q7, q8, fun c' y1 y2 y3 => ?_⟩, ?_⟩
      · rw [e2, g1 33 n' (Or.inl (by decide))]; exact q1
      · rw [e0, g1 34 n' (Or.inl (by decide))]; exact q2
      · by_cases z : n' = n
        · subst z; exact hl d hd
        · rw [h2 _ (by omega), g1 39 _ (Or.inr (by omega))]; exact q3 d hd
      · rw [e0]; exact q4
      · rw [e4]; exact q6 i hi
      · rw [g1 59 c' (Or.inl (by decide))] at y3; exact q9 c' y1 y2 y3
      · rw [g1 41 n' (Or.inl (by decide)), g1 46 n' (Or.inl (by decide)), g1 43 n' (Or.inl (by decide)), g2]; exact q10
    | inr w =>
      rw [hG'] at q
      obtain ⟨q1, q2, q3⟩ := q
      have d1 := q1.2.1.1
      exact ⟨q1.cg (fun a _ => ⟨by rw [e5], by rw [e6]⟩) (fun x _ => by rw [e2]) ⟨by rw [e2], by rw [e2]⟩ (fun x a hx _ _ => by rw [e0]) (by rw [e3]) (h2 _ (by omega)) (by rw [e4]) (fun i hi => by rw [e3]) ⟨g1 33 n' (Or.inl (by decide)), g1 41 n' (Or.inl (by decide)), g1 43 n' (Or.inl (by decide)), g1 46 n' (Or.inl (by decide))⟩ (fun i _ => by rw [g2]) (fun i _ => g1 40 _ (Or.inl (by decide))) (fun i _ => g1 44 _ (Or.inl (by decide))) (fun i _ => by rw [g2]), q2, q3⟩
/-- a node's address changes -/
theorem NR.ad {v : Int32} (h : NR nd M S t nc ca hh lv jj G) (hI : cI sw nd rm M) (hb : bk M) (hn : n < nd) : NR nd (h_pi M 503 (140 + n) v) (s_u S 35 n v) t nc ca hh lv jj G := by
  have e0 : ∀ k, k ≠ 503 → h_fi (h_pi M 503 (140 + n) v) k = h_fi M k := fun k q => fi_ne q
  have g1 : ∀ k i, k ≠ 35 → (s_u S 35 n v).1 k i = S.1 k i := fun k i q => by rw [su_ne q]
  obtain ⟨⟨⟨b1, b2, b3⟩, b4, b5, b6⟩, b7, b8, b9⟩ := h
  refine ⟨⟨⟨by rw [e0 _ (by decide)]; exact b1, by rw [g1 47 0 (by decide)]; exact b2, b3⟩, fun c' hc' => ?_, b5, b6⟩, fun n' hn' => ?_, fun n' hn' => ?_, b9⟩
  · obtain ⟨a1, a4⟩ := b4 c' hc'
    exact ⟨a1, a4.cg (fun k hk => by rw [e0 k (by omega)]) rfl rfl ⟨rfl, rfl, rfl⟩ rfl (fun k y1 y2 => g1 k c' (by omega)) (fun k hk => rfl)⟩
  · rw [fi_eq, su_eq]
    by_cases z : n' = n
    · subst z; rw [u1_eq, u1_eq]
    · rw [u1_ne (by omega), u1_ne z]; exact b7 n' hn'
  · have q := b8 n' hn'
    cases hG' : G n' with
    | inl R =>
      rw [hG'] at q
      obtain ⟨q1, q2, q3, ⟨q4, q5, q6, q7, q8, q9⟩, q10⟩ := q
      refine ⟨?_, ?_, fun d hd => ?_, ⟨?_, q5, fun i hi => q6 i hi, q7, q8, fun c' y1 y2 y3 => ?_⟩, ?_⟩
      · rw [g1 33 n' (by decide)]; exact q1
      · rw [e0 _ (by decide), g1 34 n' (by decide)]; exact q2
      · rw [g1 39 _ (by decide)]; exact q3 d hd
      · rw [e0 _ (by decide)]; exact q4
      · rw [g1 59 c' (by decide)] at y3; exact q9 c' y1 y2 y3
      · rw [g1 41 n' (by decide), g1 46 n' (by decide), g1 43 n' (by decide)]; exact q10
    | inr w =>
      rw [hG'] at q
      obtain ⟨q1, q2, q3⟩ := q
      exact ⟨q1.cg (fun a _ => ⟨rfl, rfl⟩) (fun x _ => rfl) ⟨rfl, rfl⟩ (fun x a hx _ _ => by rw [e0 x (by omega)]) rfl rfl rfl (fun i hi => rfl) ⟨g1 33 n' (by decide), g1 41 n' (by decide), g1 43 n' (by decide), g1 46 n' (by decide)⟩ (fun i _ => rfl) (fun i _ => g1 40 _ (by decide)) (fun i _ => g1 44 _ (by decide)) (fun i _ => rfl), q2, q3⟩
end NL
