/-! ===== what never had a wire is as it was made (by program: gend0.py) ===== -/
def QZ (pe : Nat → Option Nat) (nd : Nat) (S : sT) : Prop :=
  (S.1 1 0 = nI nd ∧ nd ≤ 8) ∧ (∀ x, x < 48 → pe x = none → S.1 17 x = 0 ∧ S.1 21 x = 0) ∧ ∀ n, n < 8 → pe (40 + n) = none → S.1 35 n = 0 ∧ (∀ d, d < 8 → S.1 39 (8 * n + d) = 0) ∧ S.1 41 n = 0 ∧ S.1 46 n = 0
section QZs
variable {pe : Nat → Option Nat} {nd : Nat} {S T : sT} {F : List Nat}
theorem QZ.ks (h : QZ pe nd S) (l : ks F S T) (hF : [1, 17, 21, 35, 39, 41, 46].all (fun x => ! F.contains x) = true) : QZ pe nd T := by
  have q : ∀ x, x ∈ [1, 17, 21, 35, 39, 41, 46] → T.1 x = S.1 x := fun x hx => l.i (by have := List.all_eq_true.mp hF x hx; simpa using this)
  obtain ⟨⟨a1, a2⟩, a3, a4⟩ := h
  refine ⟨⟨by rw [q 1 (by decide)]; exact a1, a2⟩, fun x hx hp => ?_, fun n hn hp => ?_⟩
  · rw [q 17 (by decide), q 21 (by decide)]; exact a3 x hx hp
  · rw [q 35 (by decide), q 39 (by decide), q 41 (by decide), q 46 (by decide)]; exact a4 n hn hp
theorem QZ.su {k i : Nat} {u : Int32} (h : QZ pe nd S) (h1 : k ≠ 1) (hx : u = 0 ∨ (((k = 17 ∨ k = 21) → pe i ≠ none) ∧ ((k = 35 ∨ k = 41 ∨ k = 46) → pe (40 + i) ≠ none) ∧ (k = 39 → pe (40 + i / 8) ≠ none))) : QZ pe nd (s_u S k i u) := by
  obtain ⟨⟨a1, a2⟩, a3, a4⟩ := h
  have ev : ∀ j y, S.1 j y = 0 → (u = 0 ∨ ¬ (j = k ∧ y = i)) → (s_u S k i u).1 j y = 0 := fun j y q z => by
    show (if j = k ∧ y = i then u else S.1 j y) = 0
    by_cases c : j = k ∧ y = i
    · rw [if_pos c]; exact z.resolve_right (fun z => z c)
    · rw [if_neg c]; exact q
  refine ⟨⟨?_, a2⟩, fun x hx8 hp => ?_, fun n hn hp => ?_⟩
  · show (if 1 = k ∧ 0 = i then u else S.1 1 0) = nI nd
    rw [if_neg (fun c => h1 c.1.symm)]; exact a1
  · obtain ⟨b1, b2⟩ := a3 x hx8 hp
    refine ⟨ev _ _ b1 (hx.imp id (fun z c => ?_)), ev _ _ b2 (hx.imp id (fun z c => ?_))⟩
    · exact z.1 (Or.inl c.1.symm) (by rw [← c.2]; exact hp)
    · exact z.1 (Or.inr c.1.symm) (by rw [← c.2]; exact hp)
  · obtain ⟨b1, b2, b3, b4⟩ := a4 n hn hp
    refine ⟨ev _ _ b1 (hx.imp id fun z c => ?_), fun d hd => ev _ _ (b2 d hd) (hx.imp id fun z c => ?_), ev _ _ b3 (hx.imp id fun z c => ?_), ev _ _ b4 (hx.imp id fun z c => ?_)⟩
    · exact z.2.1 (Or.inl c.1.symm) (by rw [← c.2]; exact hp)
    · exact z.2.2 c.1.symm (by rw [← c.2, show (8 * n + d) / 8 = n by omega]; exact hp)
    · exact z.2.1 (Or.inr (Or.inl c.1.symm)) (by rw [← c.2]; exact hp)
    · exact z.2.1 (Or.inr (Or.inr c.1.symm)) (by rw [← c.2]; exact hp)
theorem q_s {k : Nat} {v u : Int32} (h : QZ pe nd S) (e : s_s S k v u = some T) (h1 : k ≠ 1) (hx : u = 0 ∨ (((k = 17 ∨ k = 21) → pe v.toNatClampNeg ≠ none) ∧ ((k = 35 ∨ k = 41 ∨ k = 46) → pe (40 + v.toNatClampNeg) ≠ none) ∧ (k = 39 → pe (40 + v.toNatClampNeg / 8) ≠ none))) : QZ pe nd T := by
  unfold s_s at e
  split at e
  · cases e; exact h.su h1 hx
  · cases e
/-- a node that has a wire -/
def wnd (pe : Nat → Option Nat) (v : Int32) : Prop := ∃ m, v = nI m ∧ m < 8 ∧ pe (40 + m) ≠ none
theorem wnd.w {v : Int32} (h : wnd pe v) : pe (40 + v.toNatClampNeg) ≠ none := by
  obtain ⟨m, rfl, h1, h2⟩ := h
  rw [nI_clamp (by omega)]; exact h2
theorem q39 {v x : Int32} (hv : wnd pe v) (h : QZ pe nd S) (h0 : ¬ x < 0) (h1 : x < s_g S 1) : pe (40 + (((8 : Int32) * v) + x).toNatClampNeg / 8) ≠ none := by
  obtain ⟨m, rfl, m1, m2⟩ := hv
  obtain ⟨j, j1, rfl⟩ := nI_of h0
  have e1 : s_g S 1 = nI nd := h.1.1
  have n8 := h.1.2
  rw [e1, nI_ltI j1 (by omega)] at h1
  have e : (8 : Int32) * nI m = nI (8 * m) := pk_mul 8 m
  rw [e, nI_add, nI_clamp (by omega), show (8 * m + j) / 8 = m by omega]
  exact m2
theorem qsd_go {ρ : Type} {f : ρ → sT} {blk : Nat → List aV → sT → Option (sRes ρ)} {A : Nat → List aV → Prop} (hs : ∀ h as S res, blk h as S = some res → QZ pe nd S → A h as → QZ pe nd (r_S f res) ∧ ∀ q, res = .inr q → A q.1 q.2.1) : ∀ n h as S r, sdrive blk n h as S = some r → QZ pe nd S → A h as → QZ pe nd (f r)
  | 0, _, _, _, _, hd, _, _ => by cases hd
  | n + 1, h, as, S, r, hd, q0, ha => by
    unfold sdrive at hd
    cases he : blk h as S with
    | none => rw [he] at hd; cases hd
    | some res =>
      rw [he] at hd
      obtain ⟨h1, h2⟩ := hs h as S res he q0 ha
      cases res with
      | inl q => cases hd; exact h1
      | inr q => exact qsd_go hs n q.1 q.2.1 q.2.2 r hd h1 (h2 q rfl)
theorem qsx_go {ρ : Type} {f : ρ → sT} {blk : Nat → List aV → sT → Option (sRes ρ)} {A : Nat → List aV → Prop} (hs : ∀ h as S res, blk h as S = some res → QZ pe nd S → A h as → QZ pe nd (r_S f res) ∧ ∀ q, res = .inr q → A q.1 q.2.1) {x : Option (sRes ρ)} {r : ρ} (h : s_go blk x = some r) (hx : ∀ res, x = some res → QZ pe nd (r_S f res) ∧ ∀ q, res = .inr q → A q.1 q.2.1) : QZ pe nd (f r) := by
  unfold s_go at h
  split at h
  · cases h
  · cases h; exact (hx _ rfl).1
  · rename_i q
    obtain ⟨h1, h2⟩ := hx _ rfl
    exact qsd_go hs _ _ _ _ _ h h1 (h2 q rfl)
/-- the first of a loop's values -/
def hdv (v : Int32) (as : List aV) : Prop := ∃ r, as = .inl v :: r
theorem qc185_0 {v1 : _} {S : sT} {rs : (sRes (Int32 × sT))} (h : c185_0 v1 S = some rs) (qz : QZ pe nd S) (hv : pe v1.toNatClampNeg ≠ none) : QZ pe nd (r_S Prod.snd rs) ∧ ∀ q, rs = .inr q → hdv v1 q.2.1 := by
  unfold c185_0 at h
  obtain ⟨v_1, -, h⟩ := bd h
  obtain ⟨v_3, -, h⟩ := bd h
  obtain ⟨S5, h3, h⟩ := bd h
  have qz := q_s qz h3 (by decide) (Or.inr ⟨fun _ => hv, fun q => absurd q (by decide), fun q => absurd q (by decide)⟩)
  cases h
  exact ⟨qz, fun q e => by cases e; exact ⟨_, rfl⟩⟩
theorem qc185_21 {v1 v2 v3 : _} {S : sT} {rs : (sRes (Int32 × sT))} (h : c185_21 v1 v2 v3 S = some rs) (qz : QZ pe nd S) (hv : pe v1.toNatClampNeg ≠ none) : QZ pe nd (r_S Prod.snd rs) ∧ ∀ q, rs = .inr q → hdv v1 q.2.1 := by
  unfold c185_21 at h
  obtain ⟨v_11, -, h⟩ := bd h
  rcases ite_some h with ⟨c2, h⟩ | ⟨c2, h⟩
  · obtain ⟨v_13, -, h⟩ := bd h
    obtain ⟨S15, h4, h⟩ := bd h
    have qz := qz.ks (k_s_s h4) (by decide)
    obtain ⟨S21, h5, h⟩ := bd h
    have qz := q_s qz h5 (by decide) (Or.inl rfl)
    cases h
    exact ⟨qz, fun q e => by cases e⟩
  · obtain ⟨v_27, -, h⟩ := bd h
    obtain ⟨S29, h7, h⟩ := bd h
    have qz := qz.ks (k_s_s h7) (by decide)
    cases h
    exact ⟨qz, fun q e => by cases e; exact ⟨_, rfl⟩⟩
theorem qe185 {v1 : _} {S : sT} {q : Int32 × sT} (h : e185 v1 S = some q) (qz : QZ pe nd S) (hv : pe v1.toNatClampNeg ≠ none) : QZ pe nd q.2 := by
  unfold e185 at h
  refine qsx_go (f := Prod.snd) (blk := kS185) (A := fun _ as => hdv v1 as) ?_ h (fun res hx => qc185_0 hx qz hv)
  intro h as S res hk qz ha
  unfold kS185 at hk
  split at hk
  · split at hk
    · obtain ⟨_, hr⟩ := ha
      cases hr
      exact qc185_21 hk qz hv
    · cases hk
  · skip
    cases hk
theorem qc226_138 {v1 : Int32} {S : sT} {rs : (sRes sT)} (h : c226_138  S = some rs) (qz : QZ pe nd S)  : QZ pe nd (r_S f_0 rs) ∧ ∀ q, rs = .inr q → hdv v1 q.2.1 := by
  unfold c226_138 at h
  cases h
  exact ⟨qz, fun q e => by cases e⟩
theorem qc226_139 {v2 : _} {v1 : Int32} {S : sT} {rs : (sRes sT)} (h : c226_139 v2 S = some rs) (qz : QZ pe nd S) (hv : pe v2.toNatClampNeg ≠ none) : QZ pe nd (r_S f_0 rs) ∧ ∀ q, rs = .inr q → hdv v1 q.2.1 := by
  unfold c226_139 at h
  obtain ⟨v_104, -, h⟩ := bd h
  obtain ⟨S106, h2, h⟩ := bd h
  have qz := q_s qz h2 (by decide) (Or.inr ⟨fun _ => hv, fun q => absurd q (by decide), fun q => absurd q (by decide)⟩)
  obtain ⟨v_112, -, h⟩ := bd h
  rcases ite_some h with ⟨c4, h⟩ | ⟨c4, h⟩
  · obtain ⟨v_114, -, h⟩ := bd h
    obtain ⟨S116, h6, h⟩ := bd h
    have qz := qz.ks (k_s_s h6) (by decide)
    obtain ⟨q_122, h7, h⟩ := bd h
    have qz := qe185 h7 qz hv
    obtain ⟨q_128, h8, h⟩ := bd h
    have qz := qz.ks (ke171 h8) (by decide)
    cases h
    exact ⟨qz, fun q e => by cases e⟩
  · cases h
    exact ⟨qz, fun q e => by cases e⟩
theorem qc226_0 {v1 v2 v3 v4 : _} {S : sT} {rs : (sRes sT)} (h : c226_0 v1 v2 v3 v4 S = some rs) (qz : QZ pe nd S) (hv : pe v2.toNatClampNeg ≠ none) : QZ pe nd (r_S f_0 rs) ∧ ∀ q, rs = .inr q → hdv v1 q.2.1 := by
  unfold c226_0 at h
  obtain ⟨q_1, h1, h⟩ := bd h
  have qz := qz.ks (ke225 h1) (by decide)
  rcases ite_some h with ⟨c2, h⟩ | ⟨c2, h⟩
  · obtain ⟨q_7, h3, h⟩ := bd h
    have qz := qz.ks (ke175 h3) (by decide)
    obtain ⟨v_13, -, h⟩ := bd h
    rcases ite_some h with ⟨c5, h⟩ | ⟨c5, h⟩
    · obtain ⟨q_15, h6, h⟩ := bd h
      have qz := qz.ks (ke181 h6) (by decide)
      rcases ite_some h with ⟨c7, h⟩ | ⟨c7, h⟩
      · exact qc226_139 h qz hv
      · obtain ⟨q_21, h8, h⟩ := bd h
        have qz := qe185 h8 qz hv
        obtain ⟨q_27, h9, h⟩ := bd h
        have qz := qz.ks (ke182 h9) (by decide)
        obtain ⟨v_33, -, h⟩ := bd h
        obtain ⟨S35, h11, h⟩ := bd h
        have qz := qz.ks (k_s_s h11) (by decide)
        obtain ⟨q_41, h12, h⟩ := bd h
        have qz := qz.ks (ke179 h12) (by decide)
        rcases ite_some h with ⟨c13, h⟩ | ⟨c13, h⟩
        · exact qc226_138 h qz
        · obtain ⟨q_47, h14, h⟩ := bd h
          have qz := qz.ks (ke166 h14) (by decide)
          obtain ⟨q_53, h15, h⟩ := bd h
          have qz := qz.ks (ke189 h15) (by decide)
          obtain ⟨q_59, h16, h⟩ := bd h
          have qz := qz.ks (ke179 h16) (by decide)
          obtain ⟨q_65, h17, h⟩ := bd h
          have qz := qz.ks (ke188 h17) (by decide)
          rcases ite_some h with ⟨c18, h⟩ | ⟨c18, h⟩
          · obtain ⟨v_71, -, h⟩ := bd h
            obtain ⟨S73, h20, h⟩ := bd h
            have qz := qz.ks (k_s_s h20) (by decide)
            exact qc226_138 h qz
          · exact qc226_138 h qz
    · exact qc226_139 h qz hv
  · obtain ⟨v_83, -, h⟩ := bd h
    obtain ⟨S85, h22, h⟩ := bd h
    have qz := qz.ks (k_s_s h22) (by decide)
    obtain ⟨q_91, h23, h⟩ := bd h
    have qz := qe185 h23 qz hv
    obtain ⟨q_97, h24, h⟩ := bd h
    have qz := qz.ks (ke171 h24) (by decide)
    cases h
    exact ⟨qz, fun q e => by cases e⟩
theorem qe226 {v1 v2 v3 v4 : _} {S : sT} {q : sT} (h : e226 v1 v2 v3 v4 S = some q) (qz : QZ pe nd S) (hv : pe v2.toNatClampNeg ≠ none) : QZ pe nd q := by
  unfold e226 at h
  exact (qc226_0 (s_out_ok h) qz hv).1
theorem qc203_0 {v1 v2 : _} {S : sT} {rs : (sRes sT)} (h : c203_0 v1 v2 S = some rs) (qz : QZ pe nd S) (hv : wnd pe v1) : QZ pe nd (r_S f_0 rs) ∧ ∀ q, rs = .inr q → hdv v1 q.2.1 := by
  unfold c203_0 at h
  obtain ⟨v_1, -, h⟩ := bd h
  obtain ⟨S3, h2, h⟩ := bd h
  have qz := q_s qz h2 (by decide) (Or.inr ⟨fun q => absurd q (by decide), fun _ => hv.w, fun q => absurd q (by decide)⟩)
  cases h
  exact ⟨qz, fun q e => by cases e; exact ⟨_, rfl⟩⟩
theorem qc203_12 {v1 v3 : _} {S : sT} {rs : (sRes sT)} (h : c203_12 v1 v3 S = some rs) (qz : QZ pe nd S) (hv : wnd pe v1) : QZ pe nd (r_S f_0 rs) ∧ ∀ q, rs = .inr q → hdv v1 q.2.1 := by
  unfold c203_12 at h
  obtain ⟨v_9, -, h⟩ := bd h
  rcases ite_some h with ⟨c2, h⟩ | ⟨c2, h⟩
  · cases h
    exact ⟨qz, fun q e => by cases e⟩
  · cases h
    exact ⟨qz, fun q e => by cases e; exact ⟨_, rfl⟩⟩
theorem qc203_25 {v1 v3 v4 : _} {S : sT} {rs : (sRes sT)} (h : c203_25 v1 v3 v4 S = some rs) (qz : QZ pe nd S) (hv : wnd pe v1) : QZ pe nd (r_S f_0 rs) ∧ ∀ q, rs = .inr q → hdv v1 q.2.1 := by
  unfold c203_25 at h
  rcases ite_some h with ⟨c1, h⟩ | ⟨c1, h⟩
  · cases h
    exact ⟨qz, fun q e => by cases e; exact ⟨_, rfl⟩⟩
  · obtain ⟨v_12, -, h⟩ := bd h
    obtain ⟨S14, h3, h⟩ := bd h
    have qz := qz.ks (k_s_s h3) (by decide)
    cases h
    exact ⟨qz, fun q e => by cases e; exact ⟨_, rfl⟩⟩
theorem qc203_78 {v1 v3 v4 : _} {S : sT} {rs : (sRes sT)} (h : c203_78 v1 v3 v4 S = some rs) (qz : QZ pe nd S) (hv : wnd pe v1) : QZ pe nd (r_S f_0 rs) ∧ ∀ q, rs = .inr q → hdv v1 q.2.1 := by
  unfold c203_78 at h
  rcases ite_some h with ⟨c1, h⟩ | ⟨c1, h⟩
  · cases h
    exact ⟨qz, fun q e => by cases e; exact ⟨_, rfl⟩⟩
  · obtain ⟨w_21, -, h⟩ := bd h
    obtain ⟨S23, h3, h⟩ := bd h
    have qz := qz.ks (k_s_sl h3) (by decide)
    cases h
    exact ⟨qz, fun q e => by cases e; exact ⟨_, rfl⟩⟩
theorem qe203 {v1 v2 : _} {S : sT} {q : sT} (h : e203 v1 v2 S = some q) (qz : QZ pe nd S) (hv : wnd pe v1) : QZ pe nd q := by
  unfold e203 at h
  refine qsx_go (f := f_0) (blk := kS203) (A := fun _ as => hdv v1 as) ?_ h (fun res hx => qc203_0 hx qz hv)
  intro h as S res hk qz ha
  unfold kS203 at hk
  split at hk
  · split at hk
    · obtain ⟨_, hr⟩ := ha
      cases hr
      exact qc203_12 hk qz hv
    · cases hk
  · skip
    split at hk
    · split at hk
      · obtain ⟨_, hr⟩ := ha
        cases hr
        exact qc203_25 hk qz hv
      · cases hk
    · skip
      split at hk
      · split at hk
        · obtain ⟨_, hr⟩ := ha
          cases hr
          exact qc203_78 hk qz hv
        · cases hk
      · skip
        cases hk
theorem qc217_67 {v1 v2 : _} {S : sT} {rs : (sRes sT)} (h : c217_67 v1 v2 S = some rs) (qz : QZ pe nd S) (hv : wnd pe v1) : QZ pe nd (r_S f_0 rs) ∧ ∀ q, rs = .inr q → hdv v1 q.2.1 := by
  unfold c217_67 at h
  obtain ⟨v_26, -, h⟩ := bd h
  obtain ⟨S28, h2, h⟩ := bd h
  have qz := qz.ks (k_s_s h2) (by decide)
  obtain ⟨v_34, -, h⟩ := bd h
  obtain ⟨S36, h4, h⟩ := bd h
  have qz := q_s qz h4 (by decide) (Or.inr ⟨fun q => absurd q (by decide), fun _ => hv.w, fun q => absurd q (by decide)⟩)
  cases h
  exact ⟨qz, fun q e => by cases e⟩
theorem qc217_0 {v1 v2 : _} {S : sT} {rs : (sRes sT)} (h : c217_0 v1 v2 S = some rs) (qz : QZ pe nd S) (hv : wnd pe v1) : QZ pe nd (r_S f_0 rs) ∧ ∀ q, rs = .inr q → hdv v1 q.2.1 := by
  unfold c217_0 at h
  obtain ⟨q_1, h1, h⟩ := bd h
  have qz := qz.ks (ke215 h1) (by decide)
  rcases ite_some h with ⟨c2, h⟩ | ⟨c2, h⟩
  · obtain ⟨v_7, -, h⟩ := bd h
    rcases ite_some h with ⟨c4, h⟩ | ⟨c4, h⟩
    · cases h
      exact ⟨qz, fun q e => by cases e; exact ⟨_, rfl⟩⟩
    · exact qc217_67 h qz hv
  · cases h
    exact ⟨qz, fun q e => by cases e⟩
theorem qc217_23 {v1 v2 v3 : _} {S : sT} {rs : (sRes sT)} (h : c217_23 v1 v2 v3 S = some rs) (qz : QZ pe nd S) (hv : wnd pe v1) : QZ pe nd (r_S f_0 rs) ∧ ∀ q, rs = .inr q → hdv v1 q.2.1 := by
  unfold c217_23 at h
  rcases ite_some h with ⟨c1, h⟩ | ⟨c1, h⟩
  · obtain ⟨S11, h2, h⟩ := bd h
    have qz := q_s qz h2 (by decide) (Or.inr ⟨fun q => absurd q (by decide), fun _ => hv.w, fun q => absurd q (by decide)⟩)
    exact qc217_67 h qz hv
  · obtain ⟨v_17, -, h⟩ := bd h
    obtain ⟨S19, h4, h⟩ := bd h
    have qz := qz.ks (k_s_s h4) (by decide)
    cases h
    exact ⟨qz, fun q e => by cases e; exact ⟨_, rfl⟩⟩
theorem qe217 {v1 v2 : _} {S : sT} {q : sT} (h : e217 v1 v2 S = some q) (qz : QZ pe nd S) (hv : wnd pe v1) : QZ pe nd q := by
  unfold e217 at h
  refine qsx_go (f := f_0) (blk := kS217) (A := fun _ as => hdv v1 as) ?_ h (fun res hx => qc217_0 hx qz hv)
  intro h as S res hk qz ha
  unfold kS217 at hk
  split at hk
  · split at hk
    · obtain ⟨_, hr⟩ := ha
      cases hr
      exact qc217_23 hk qz hv
    · cases hk
  · skip
    cases hk
theorem qc186_0 {v1 : _} {S : sT} {rs : (sRes sT)} (h : c186_0 v1 S = some rs) (qz : QZ pe nd S) (hv : wnd pe v1) : QZ pe nd (r_S f_0 rs) ∧ ∀ q, rs = .inr q → hdv v1 q.2.1 := by
  unfold c186_0 at h
  cases h
  exact ⟨qz, fun q e => by cases e; exact ⟨_, rfl⟩⟩
theorem qc186_2 {v1 v2 : _} {S : sT} {rs : (sRes sT)} (h : c186_2 v1 v2 S = some rs) (qz : QZ pe nd S) (hv : wnd pe v1) : QZ pe nd (r_S f_0 rs) ∧ ∀ q, rs = .inr q → hdv v1 q.2.1 := by
  unfold c186_2 at h
  rcases ite_some h with ⟨c1, h⟩ | ⟨c1, h⟩
  · obtain ⟨S1, h2, h⟩ := bd h
    have qz := q_s qz h2 (by decide) (Or.inl rfl)
    obtain ⟨S7, h3, h⟩ := bd h
    have qz := q_s qz h3 (by decide) (Or.inl rfl)
    cases h
    exact ⟨qz, fun q e => by cases e⟩
  · obtain ⟨S13, h4, h⟩ := bd h
    have qz := q_s qz h4 (by decide) (Or.inl rfl)
    cases h
    exact ⟨qz, fun q e => by cases e; exact ⟨_, rfl⟩⟩
theorem qe186 {v1 : _} {S : sT} {q : sT} (h : e186 v1 S = some q) (qz : QZ pe nd S) (hv : wnd pe v1) : QZ pe nd q := by
  unfold e186 at h
  refine qsx_go (f := f_0) (blk := kS186) (A := fun _ as => hdv v1 as) ?_ h (fun res hx => qc186_0 hx qz hv)
  intro h as S res hk qz ha
  unfold kS186 at hk
  split at hk
  · split at hk
    · obtain ⟨_, hr⟩ := ha
      cases hr
      exact qc186_2 hk qz hv
    · cases hk
  · skip
    cases hk
theorem qc220_24 {v1 v2 : _} {S : sT} {rs : (sRes sT)} (h : c220_24 v1 v2 S = some rs) (qz : QZ pe nd S) (hv : wnd pe v1) : QZ pe nd (r_S f_0 rs) ∧ ∀ q, rs = .inr q → hdv v1 q.2.1 := by
  unfold c220_24 at h
  obtain ⟨S13, h1, h⟩ := bd h
  have qz := q_s qz h1 (by decide) (Or.inr ⟨fun q => absurd q (by decide), fun _ => hv.w, fun q => absurd q (by decide)⟩)
  cases h
  exact ⟨qz, fun q e => by cases e⟩
theorem qc220_0 {v1 v2 : _} {S : sT} {rs : (sRes sT)} (h : c220_0 v1 v2 S = some rs) (qz : QZ pe nd S) (hv : wnd pe v1) : QZ pe nd (r_S f_0 rs) ∧ ∀ q, rs = .inr q → hdv v1 q.2.1 := by
  unfold c220_0 at h
  obtain ⟨v_1, -, h⟩ := bd h
  rcases ite_some h with ⟨c2, h⟩ | ⟨c2, h⟩
  · exact qc220_24 h qz hv
  · obtain ⟨v_3, -, h⟩ := bd h
    rcases ite_some h with ⟨c4, h⟩ | ⟨c4, h⟩
    · exact qc220_24 h qz hv
    · obtain ⟨q_5, h5, h⟩ := bd h
      have qz := qe186 h5 qz hv
      exact qc220_24 h qz hv
theorem qe220 {v1 v2 : _} {S : sT} {q : sT} (h : e220 v1 v2 S = some q) (qz : QZ pe nd S) (hv : wnd pe v1) : QZ pe nd q := by
  unfold e220 at h
  exact (qc220_0 (s_out_ok h) qz hv).1
theorem qc210_289 {v1 : Int32} {S : sT} {rs : (sRes sT)} (h : c210_289  S = some rs) (qz : QZ pe nd S)  : QZ pe nd (r_S f_0 rs) ∧ ∀ q, rs = .inr q → hdv v1 q.2.1 := by
  unfold c210_289 at h
  cases h
  exact ⟨qz, fun q e => by cases e⟩
theorem qc210_273 {v1 : _} {S : sT} {rs : (sRes sT)} (h : c210_273 v1 S = some rs) (qz : QZ pe nd S)  : QZ pe nd (r_S f_0 rs) ∧ ∀ q, rs = .inr q → hdv v1 q.2.1 := by
  unfold c210_273 at h
  obtain ⟨q_126, h1, h⟩ := bd h
  have qz := qz.ks (ke205 h1) (by decide)
  exact qc210_289 h qz
theorem qc210_196 {v1 v2 v3 : _} {S : sT} {rs : (sRes sT)} (h : c210_196 v1 v2 v3 S = some rs) (qz : QZ pe nd S)  : QZ pe nd (r_S f_0 rs) ∧ ∀ q, rs = .inr q → hdv v1 q.2.1 := by
  unfold c210_196 at h
  rcases ite_some h with ⟨c1, h⟩ | ⟨c1, h⟩
  · obtain ⟨q_88, h2, h⟩ := bd h
    have qz := qz.ks (ke165 h2) (by decide)
    rcases ite_some h with ⟨c3, h⟩ | ⟨c3, h⟩
    · obtain ⟨v_108, -, h⟩ := bd h
      obtain ⟨v_110, -, h⟩ := bd h
      obtain ⟨S112, h6, h⟩ := bd h
      have qz := q_s qz h6 (by decide) (Or.inl rfl)
      obtain ⟨q_118, h7, h⟩ := bd h
      have qz := qz.ks (ke205 h7) (by decide)
      exact qc210_289 h qz
    · obtain ⟨v_94, -, h⟩ := bd h
      rcases ite_some h with ⟨c9, h⟩ | ⟨c9, h⟩
      · obtain ⟨v_96, -, h⟩ := bd h
        obtain ⟨v_98, -, h⟩ := bd h
        rcases ite_some h with ⟨c12, h⟩ | ⟨c12, h⟩
        · exact qc210_273 h qz
        · obtain ⟨q_100, h13, h⟩ := bd h
          have qz := qz.ks (ke206 h13) (by decide)
          exact qc210_289 h qz
      · exact qc210_273 h qz
  · exact qc210_289 h qz
theorem qc210_138 {v1 v2 v3 v4 : _} {S : sT} {rs : (sRes sT)} (h : c210_138 v1 v2 v3 v4 S = some rs) (qz : QZ pe nd S)  : QZ pe nd (r_S f_0 rs) ∧ ∀ q, rs = .inr q → hdv v1 q.2.1 := by
  unfold c210_138 at h
  rcases ite_some h with ⟨c1, h⟩ | ⟨c1, h⟩
  · obtain ⟨v_61, -, h⟩ := bd h
    rcases ite_some h with ⟨c3, h⟩ | ⟨c3, h⟩
    · obtain ⟨v_63, -, h⟩ := bd h
      rcases ite_some h with ⟨c5, h⟩ | ⟨c5, h⟩
      · exact qc210_196 h qz
      · obtain ⟨q_65, h6, h⟩ := bd h
        have qz := qz.ks (ke209 h6) (by decide)
        obtain ⟨S71, h7, h⟩ := bd h
        have qz := qz.ks (k_s_sl h7) (by decide)
        obtain ⟨v_77, -, h⟩ := bd h
        obtain ⟨S79, h9, h⟩ := bd h
        have qz := qz.ks (k_s_s h9) (by decide)
        exact qc210_289 h qz
    · exact qc210_196 h qz
  · exact qc210_196 h qz
theorem qc210_0 {v1 v2 v3 : _} {S : sT} {rs : (sRes sT)} (h : c210_0 v1 v2 v3 S = some rs) (qz : QZ pe nd S)  : QZ pe nd (r_S f_0 rs) ∧ ∀ q, rs = .inr q → hdv v1 q.2.1 := by
  unfold c210_0 at h
  obtain ⟨q_1, h1, h⟩ := bd h
  have qz := qz.ks (ke165 h1) (by decide)
  obtain ⟨v_7, -, h⟩ := bd h
  obtain ⟨q_9, h3, h⟩ := bd h
  have qz := qz.ks (ke176 h3) (by decide)
  rcases ite_some h with ⟨c4, h⟩ | ⟨c4, h⟩
  · obtain ⟨q_19, h5, h⟩ := bd h
    have qz := qz.ks (ke205 h5) (by decide)
    exact qc210_289 h qz
  · rcases ite_some h with ⟨c6, h⟩ | ⟨c6, h⟩
    · obtain ⟨v_15, -, h⟩ := bd h
      rcases ite_some h with ⟨c8, h⟩ | ⟨c8, h⟩
      · exact qc210_138 h qz
      · cases h
        exact ⟨qz, fun q e => by cases e; exact ⟨_, rfl⟩⟩
    · exact qc210_138 h qz
theorem qc210_55 {v1 v2 v5 v6 : _} {S : sT} {rs : (sRes sT)} (h : c210_55 v1 v2 v5 v6 S = some rs) (qz : QZ pe nd S)  : QZ pe nd (r_S f_0 rs) ∧ ∀ q, rs = .inr q → hdv v1 q.2.1 := by
  unfold c210_55 at h
  obtain ⟨v_26, -, h⟩ := bd h
  rcases ite_some h with ⟨c2, h⟩ | ⟨c2, h⟩
  · exact qc210_289 h qz
  · obtain ⟨v_28, -, h⟩ := bd h
    obtain ⟨v_30, -, h⟩ := bd h
    obtain ⟨v_32, -, h⟩ := bd h
    obtain ⟨q_34, h6, h⟩ := bd h
    have qz := qz.ks (ke166 h6) (by decide)
    obtain ⟨q_40, h7, h⟩ := bd h
    have qz := qz.ks (ke168 h7) (by decide)
    obtain ⟨w_46, -, h⟩ := bd h
    obtain ⟨q_48, h9, h⟩ := bd h
    have qz := qz.ks (ke167 h9) (by decide)
    obtain ⟨q_54, h10, h⟩ := bd h
    have qz := qz.ks (ke183 h10) (by decide)
    cases h
    exact ⟨qz, fun q e => by cases e; exact ⟨_, rfl⟩⟩
theorem qe210 {v1 v2 v3 : _} {S : sT} {q : sT} (h : e210 v1 v2 v3 S = some q) (qz : QZ pe nd S)  : QZ pe nd q := by
  unfold e210 at h
  refine qsx_go (f := f_0) (blk := kS210) (A := fun _ as => hdv v1 as) ?_ h (fun res hx => qc210_0 hx qz)
  intro h as S res hk qz ha
  unfold kS210 at hk
  split at hk
  · split at hk
    · obtain ⟨_, hr⟩ := ha
      cases hr
      exact qc210_55 hk qz
    · cases hk
  · skip
    cases hk
theorem qc211_45 {v1 : Int32} {S : sT} {rs : (sRes sT)} (h : c211_45  S = some rs) (qz : QZ pe nd S)  : QZ pe nd (r_S f_0 rs) ∧ ∀ q, rs = .inr q → hdv v1 q.2.1 := by
  unfold c211_45 at h
  cases h
  exact ⟨qz, fun q e => by cases e⟩
theorem qc211_178 {v1 : Int32} {S : sT} {rs : (sRes sT)} (h : c211_178  S = some rs) (qz : QZ pe nd S)  : QZ pe nd (r_S f_0 rs) ∧ ∀ q, rs = .inr q → hdv v1 q.2.1 := by
  unfold c211_178 at h
  cases h
  exact ⟨qz, fun q e => by cases e⟩
theorem qc211_344 {v1 : Int32} {S : sT} {rs : (sRes sT)} (h : c211_344  S = some rs) (qz : QZ pe nd S)  : QZ pe nd (r_S f_0 rs) ∧ ∀ q, rs = .inr q → hdv v1 q.2.1 := by
  unfold c211_344 at h
  cases h
  exact ⟨qz, fun q e => by cases e⟩
theorem qc211_333 {v2 v3 v5 si0 si1 : _} {v1 : Int32} {S : sT} {rs : (sRes sT)} (h : c211_333 v2 v3 v5 si0 si1 S = some rs) (qz : QZ pe nd S)  : QZ pe nd (r_S f_0 rs) ∧ ∀ q, rs = .inr q → hdv v1 q.2.1 := by
  unfold c211_333 at h
  rcases ite_some h with ⟨c1, h⟩ | ⟨c1, h⟩
  · obtain ⟨q_105, h2, h⟩ := bd h
    have qz := qe210 h2 qz
    exact qc211_344 h qz
  · exact qc211_344 h qz
theorem qc211_273 {v1 v2 v3 v4 : _} {S : sT} {rs : (sRes sT)} (h : c211_273 v1 v2 v3 v4 S = some rs) (qz : QZ pe nd S) (hv : wnd pe v1) : QZ pe nd (r_S f_0 rs) ∧ ∀ q, rs = .inr q → hdv v1 q.2.1 := by
  unfold c211_273 at h
  obtain ⟨q_89, h1, h⟩ := bd h
  have qz := qz.ks (ke166 h1) (by decide)
  rcases ite_some h with ⟨c2, h⟩ | ⟨c2, h⟩
  · exact qc211_344 h qz
  · obtain ⟨v_95, -, h⟩ := bd h
    rcases ite_some h with ⟨c4, h⟩ | ⟨c4, h⟩
    · obtain ⟨v_97, -, h⟩ := bd h
      rcases ite_some h with ⟨c6, h⟩ | ⟨c6, h⟩
      · obtain ⟨v_99, -, h⟩ := bd h
        rcases ite_some h with ⟨c8, h⟩ | ⟨c8, h⟩
        · exact qc211_333 h qz
        · exact qc211_333 h qz
      · exact qc211_344 h qz
    · exact qc211_344 h qz
theorem qc211_267 {v1 v2 v3 v4 : _} {S : sT} {rs : (sRes sT)} (h : c211_267 v1 v2 v3 v4 S = some rs) (qz : QZ pe nd S) (hv : wnd pe v1) : QZ pe nd (r_S f_0 rs) ∧ ∀ q, rs = .inr q → hdv v1 q.2.1 := by
  unfold c211_267 at h
  rcases ite_some h with ⟨c1, h⟩ | ⟨c1, h⟩
  · exact qc211_273 h qz hv
  · exact qc211_344 h qz
theorem qc211_0 {v1 v2 : _} {S : sT} {rs : (sRes sT)} (h : c211_0 v1 v2 S = some rs) (qz : QZ pe nd S) (hv : wnd pe v1) : QZ pe nd (r_S f_0 rs) ∧ ∀ q, rs = .inr q → hdv v1 q.2.1 := by
  unfold c211_0 at h
  obtain ⟨q_1, h1, h⟩ := bd h
  have qz := qz.ks (ke165 h1) (by decide)
  obtain ⟨q_7, h2, h⟩ := bd h
  have qz := qz.ks (ke166 h2) (by decide)
  rcases ite_some h with ⟨c3, h⟩ | ⟨c3, h⟩
  · obtain ⟨q_30, h4, h⟩ := bd h
    have qz := qz.ks (ke166 h4) (by decide)
    rcases ite_some h with ⟨c5, h⟩ | ⟨c5, h⟩
    · rcases ite_some h with ⟨c6, h⟩ | ⟨c6, h⟩
      · exact qc211_45 h qz
      · cases h
        exact ⟨qz, fun q e => by cases e; exact ⟨_, rfl⟩⟩
    · exact qc211_45 h qz
  · rcases ite_some h with ⟨c7, h⟩ | ⟨c7, h⟩
    · obtain ⟨q_15, h8, h⟩ := bd h
      have qz := qz.ks (ke189 h8) (by decide)
      rcases ite_some h with ⟨c9, h⟩ | ⟨c9, h⟩
      · exact qc211_178 h qz
      · rcases ite_some h with ⟨c10, h⟩ | ⟨c10, h⟩
        · obtain ⟨S21, h11, h⟩ := bd h
          have qz := q_s qz h11 (by decide) (Or.inr ⟨fun q => absurd q (by decide), fun q => absurd q (by decide), fun _ => q39 hv qz c9 c10⟩)
          cases h
          exact ⟨qz, fun q e => by cases e; exact ⟨_, rfl⟩⟩
        · exact qc211_178 h qz
    · rcases ite_some h with ⟨c12, h⟩ | ⟨c12, h⟩
      · exact qc211_267 h qz hv
      · rcases ite_some h with ⟨c13, h⟩ | ⟨c13, h⟩
        · exact qc211_273 h qz hv
        · exact qc211_267 h qz hv
theorem qc211_141 {v1 v2 v5 v6 : _} {S : sT} {rs : (sRes sT)} (h : c211_141 v1 v2 v5 v6 S = some rs) (qz : QZ pe nd S) (hv : wnd pe v1) : QZ pe nd (r_S f_0 rs) ∧ ∀ q, rs = .inr q → hdv v1 q.2.1 := by
  unfold c211_141 at h
  cases h
  exact ⟨qz, fun q e => by cases e; exact ⟨_, rfl⟩⟩
theorem qc211_138 {v1 v2 v5 v6 si0 si1 : _} {S : sT} {rs : (sRes sT)} (h : c211_138 v1 v2 v5 v6 si0 si1 S = some rs) (qz : QZ pe nd S) (hv : wnd pe v1) : QZ pe nd (r_S f_0 rs) ∧ ∀ q, rs = .inr q → hdv v1 q.2.1 := by
  unfold c211_138 at h
  obtain ⟨q_66, h1, h⟩ := bd h
  have qz := qz.ks (ke206 h1) (by decide)
  exact qc211_141 h qz hv
theorem qc211_49 {v1 v2 v5 v6 : _} {S : sT} {rs : (sRes sT)} (h : c211_49 v1 v2 v5 v6 S = some rs) (qz : QZ pe nd S) (hv : wnd pe v1) : QZ pe nd (r_S f_0 rs) ∧ ∀ q, rs = .inr q → hdv v1 q.2.1 := by
  unfold c211_49 at h
  rcases ite_some h with ⟨c1, h⟩ | ⟨c1, h⟩
  · exact qc211_344 h qz
  · obtain ⟨v_39, -, h⟩ := bd h
    rcases ite_some h with ⟨c3, h⟩ | ⟨c3, h⟩
    · obtain ⟨v_41, -, h⟩ := bd h
      rcases ite_some h with ⟨c5, h⟩ | ⟨c5, h⟩
      · obtain ⟨v_43, -, h⟩ := bd h
        obtain ⟨q_45, h7, h⟩ := bd h
        have qz := qz.ks (ke165 h7) (by decide)
        rcases ite_some h with ⟨c8, h⟩ | ⟨c8, h⟩
        · obtain ⟨S51, h9, h⟩ := bd h
          have qz := qz.ks (k_s_s h9) (by decide)
          obtain ⟨v_57, -, h⟩ := bd h
          obtain ⟨v_59, -, h⟩ := bd h
          rcases ite_some h with ⟨c12, h⟩ | ⟨c12, h⟩
          · exact qc211_138 h qz hv
          · exact qc211_138 h qz hv
        · exact qc211_141 h qz hv
      · exact qc211_141 h qz hv
    · exact qc211_141 h qz hv
theorem qc211_246 {v1 v4 v6 : _} {S : sT} {rs : (sRes sT)} (h : c211_246 v1 v4 v6 S = some rs) (qz : QZ pe nd S) (hv : wnd pe v1) : QZ pe nd (r_S f_0 rs) ∧ ∀ q, rs = .inr q → hdv v1 q.2.1 := by
  unfold c211_246 at h
  cases h
  exact ⟨qz, fun q e => by cases e; exact ⟨_, rfl⟩⟩
theorem qc211_196 {v1 v4 v6 : _} {S : sT} {rs : (sRes sT)} (h : c211_196 v1 v4 v6 S = some rs) (qz : QZ pe nd S) (hv : wnd pe v1) : QZ pe nd (r_S f_0 rs) ∧ ∀ q, rs = .inr q → hdv v1 q.2.1 := by
  unfold c211_196 at h
  rcases ite_some h with ⟨c1, h⟩ | ⟨c1, h⟩
  · exact qc211_344 h qz
  · obtain ⟨v_72, -, h⟩ := bd h
    rcases ite_some h with ⟨c3, h⟩ | ⟨c3, h⟩
    · obtain ⟨v_74, -, h⟩ := bd h
      rcases ite_some h with ⟨c5, h⟩ | ⟨c5, h⟩
      · obtain ⟨v_76, -, h⟩ := bd h
        rcases ite_some h with ⟨c7, h⟩ | ⟨c7, h⟩
        · obtain ⟨q_78, h8, h⟩ := bd h
          have qz := qz.ks (ke206 h8) (by decide)
          exact qc211_246 h qz hv
        · exact qc211_246 h qz hv
      · exact qc211_246 h qz hv
    · exact qc211_246 h qz hv
theorem qe211 {v1 v2 : _} {S : sT} {q : sT} (h : e211 v1 v2 S = some q) (qz : QZ pe nd S) (hv : wnd pe v1) : QZ pe nd q := by
  unfold e211 at h
  refine qsx_go (f := f_0) (blk := kS211) (A := fun _ as => hdv v1 as) ?_ h (fun res hx => qc211_0 hx qz hv)
  intro h as S res hk qz ha
  unfold kS211 at hk
  split at hk
  · split at hk
    · obtain ⟨_, hr⟩ := ha
      cases hr
      exact qc211_49 hk qz hv
    · cases hk
  · skip
    split at hk
    · split at hk
      · obtain ⟨_, hr⟩ := ha
        cases hr
        exact qc211_196 hk qz hv
      · cases hk
    · skip
      cases hk
theorem qc214_0 {v1 v2 v3 : _} {S : sT} {rs : (sRes sT)} (h : c214_0 v1 v2 v3 S = some rs) (qz : QZ pe nd S) (hv : wnd pe v1) : QZ pe nd (r_S f_0 rs) ∧ ∀ q, rs = .inr q → hdv v1 q.2.1 := by
  unfold c214_0 at h
  obtain ⟨q_1, h1, h⟩ := bd h
  have qz := qz.ks (ke165 h1) (by decide)
  cases h
  exact ⟨qz, fun q e => by cases e; exact ⟨_, rfl⟩⟩
theorem qc214_269 {v1 v2 v3 v4 v5 : _} {S : sT} {rs : (sRes sT)} (h : c214_269 v1 v2 v3 v4 v5 S = some rs) (qz : QZ pe nd S) (hv : wnd pe v1) : QZ pe nd (r_S f_0 rs) ∧ ∀ q, rs = .inr q → hdv v1 q.2.1 := by
  unfold c214_269 at h
  cases h
  exact ⟨qz, fun q e => by cases e; exact ⟨_, rfl⟩⟩
theorem qc214_12 {v1 v2 v3 v4 v5 : _} {S : sT} {rs : (sRes sT)} (h : c214_12 v1 v2 v3 v4 v5 S = some rs) (qz : QZ pe nd S) (hv : wnd pe v1) : QZ pe nd (r_S f_0 rs) ∧ ∀ q, rs = .inr q → hdv v1 q.2.1 := by
  unfold c214_12 at h
  obtain ⟨v_7, -, h⟩ := bd h
  rcases ite_some h with ⟨c2, h⟩ | ⟨c2, h⟩
  · cases h
    exact ⟨qz, fun q e => by cases e⟩
  · obtain ⟨v_9, -, h⟩ := bd h
    rcases ite_some h with ⟨c4, h⟩ | ⟨c4, h⟩
    · obtain ⟨v_11, -, h⟩ := bd h
      obtain ⟨q_13, h6, h⟩ := bd h
      have qz := qz.ks (ke166 h6) (by decide)
      rcases ite_some h with ⟨c7, h⟩ | ⟨c7, h⟩
      · obtain ⟨v_19, -, h⟩ := bd h
        obtain ⟨q_21, h9, h⟩ := bd h
        have qz := qz.ks (ke166 h9) (by decide)
        rcases ite_some h with ⟨c10, h⟩ | ⟨c10, h⟩
        · obtain ⟨v_27, -, h⟩ := bd h
          rcases ite_some h with ⟨c12, h⟩ | ⟨c12, h⟩
          · obtain ⟨q_29, h13, h⟩ := bd h
            have qz := qz.ks (ke209 h13) (by decide)
            obtain ⟨S35, h14, h⟩ := bd h
            have qz := qz.ks (k_s_sl h14) (by decide)
            obtain ⟨v_41, -, h⟩ := bd h
            obtain ⟨S43, h16, h⟩ := bd h
            have qz := qz.ks (k_s_s h16) (by decide)
            obtain ⟨v_49, -, h⟩ := bd h
            obtain ⟨v_51, -, h⟩ := bd h
            rcases ite_some h with ⟨c19, h⟩ | ⟨c19, h⟩
            · cases h
              exact ⟨qz, fun q e => by cases e; exact ⟨_, rfl⟩⟩
            · cases h
              exact ⟨qz, fun q e => by cases e⟩
          · cases h
            exact ⟨qz, fun q e => by cases e⟩
        · exact qc214_269 h qz hv
      · exact qc214_269 h qz hv
    · exact qc214_269 h qz hv
theorem qc214_173 {v1 v2 v5 v6 v7 : _} {S : sT} {rs : (sRes sT)} (h : c214_173 v1 v2 v5 v6 v7 S = some rs) (qz : QZ pe nd S) (hv : wnd pe v1) : QZ pe nd (r_S f_0 rs) ∧ ∀ q, rs = .inr q → hdv v1 q.2.1 := by
  unfold c214_173 at h
  obtain ⟨v_59, -, h⟩ := bd h
  rcases ite_some h with ⟨c2, h⟩ | ⟨c2, h⟩
  · obtain ⟨v_61, -, h⟩ := bd h
    obtain ⟨q_63, h4, h⟩ := bd h
    have qz := qz.ks (ke213 h4) (by decide)
    obtain ⟨q_69, h5, h⟩ := bd h
    have qz := qe203 h5 qz hv
    cases h
    exact ⟨qz, fun q e => by cases e⟩
  · obtain ⟨v_75, -, h⟩ := bd h
    obtain ⟨v_77, -, h⟩ := bd h
    obtain ⟨w_79, -, h⟩ := bd h
    obtain ⟨S81, h9, h⟩ := bd h
    have qz := qz.ks (k_s_sl h9) (by decide)
    cases h
    exact ⟨qz, fun q e => by cases e; exact ⟨_, rfl⟩⟩
theorem qe214 {v1 v2 v3 : _} {S : sT} {q : sT} (h : e214 v1 v2 v3 S = some q) (qz : QZ pe nd S) (hv : wnd pe v1) : QZ pe nd q := by
  unfold e214 at h
  refine qsx_go (f := f_0) (blk := kS214) (A := fun _ as => hdv v1 as) ?_ h (fun res hx => qc214_0 hx qz hv)
  intro h as S res hk qz ha
  unfold kS214 at hk
  split at hk
  · split at hk
    · obtain ⟨_, hr⟩ := ha
      cases hr
      exact qc214_12 hk qz hv
    · cases hk
  · skip
    split at hk
    · split at hk
      · obtain ⟨_, hr⟩ := ha
        cases hr
        exact qc214_173 hk qz hv
      · cases hk
    · skip
      cases hk
theorem qc216_374 {v1 : Int32} {S : sT} {rs : (sRes sT)} (h : c216_374  S = some rs) (qz : QZ pe nd S)  : QZ pe nd (r_S f_0 rs) ∧ ∀ q, rs = .inr q → hdv v1 q.2.1 := by
  unfold c216_374 at h
  cases h
  exact ⟨qz, fun q e => by cases e⟩
theorem qc216_98 {v1 v2 : _} {S : sT} {rs : (sRes sT)} (h : c216_98 v1 v2 S = some rs) (qz : QZ pe nd S) (hv : wnd pe v1) : QZ pe nd (r_S f_0 rs) ∧ ∀ q, rs = .inr q → hdv v1 q.2.1 := by
  unfold c216_98 at h
  obtain ⟨q_41, h1, h⟩ := bd h
  have qz := qz.ks (ke213 h1) (by decide)
  exact qc216_374 h qz
theorem qc216_109 {v1 v2 v3 v4 v5 v6 v7 : _} {S : sT} {rs : (sRes sT)} (h : c216_109 v1 v2 v3 v4 v5 v6 v7 S = some rs) (qz : QZ pe nd S) (hv : wnd pe v1) : QZ pe nd (r_S f_0 rs) ∧ ∀ q, rs = .inr q → hdv v1 q.2.1 := by
  unfold c216_109 at h
  rcases ite_some h with ⟨c1, h⟩ | ⟨c1, h⟩
  · cases h
    exact ⟨qz, fun q e => by cases e; exact ⟨_, rfl⟩⟩
  · obtain ⟨v_47, -, h⟩ := bd h
    obtain ⟨S49, h3, h⟩ := bd h
    have qz := qz.ks (k_s_s h3) (by decide)
    obtain ⟨v_55, -, h⟩ := bd h
    obtain ⟨S57, h5, h⟩ := bd h
    have qz := qz.ks (k_s_s h5) (by decide)
    obtain ⟨q_63, h6, h⟩ := bd h
    have qz := qz.ks (ke166 h6) (by decide)
    obtain ⟨S69, h7, h⟩ := bd h
    have qz := qz.ks (k_s_s h7) (by decide)
    obtain ⟨v_75, -, h⟩ := bd h
    obtain ⟨S77, h9, h⟩ := bd h
    have qz := qz.ks (k_s_s h9) (by decide)
    obtain ⟨S83, h10, h⟩ := bd h
    have qz := qz.ks (k_s_s h10) (by decide)
    obtain ⟨S89, h11, h⟩ := bd h
    have qz := qz.ks (k_s_s h11) (by decide)
    obtain ⟨S95, h12, h⟩ := bd h
    have qz := qz.ks (k_s_s h12) (by decide)
    obtain ⟨S101, h13, h⟩ := bd h
    have qz := qz.ks (k_s_s h13) (by decide)
    obtain ⟨S107, h14, h⟩ := bd h
    have qz := qz.ks (k_s_s h14) (by decide)
    obtain ⟨v_113, -, h⟩ := bd h
    obtain ⟨S115, h16, h⟩ := bd h
    have qz := q_s qz h16 (by decide) (Or.inr ⟨fun q => absurd q (by decide), fun _ => hv.w, fun q => absurd q (by decide)⟩)
    obtain ⟨v_121, -, h⟩ := bd h
    obtain ⟨q_123, h18, h⟩ := bd h
    have qz := qz.ks (ke212 h18) (by decide)
    obtain ⟨q_129, h19, h⟩ := bd h
    have qz := qz.ks (ke167 h19) (by decide)
    obtain ⟨q_135, h20, h⟩ := bd h
    have qz := qz.ks (ke176 h20) (by decide)
    obtain ⟨q_141, h21, h⟩ := bd h
    have qz := qz.ks (ke183 h21) (by decide)
    exact qc216_374 h qz
theorem qc216_25 {v1 v2 v3 v4 si0 : _} {S : sT} {rs : (sRes sT)} (h : c216_25 v1 v2 v3 v4 si0 S = some rs) (qz : QZ pe nd S) (hv : wnd pe v1) : QZ pe nd (r_S f_0 rs) ∧ ∀ q, rs = .inr q → hdv v1 q.2.1 := by
  unfold c216_25 at h
  obtain ⟨q_14, h1, h⟩ := bd h
  have qz := qz.ks (ke165 h1) (by decide)
  obtain ⟨q_20, h2, h⟩ := bd h
  have qz := qz.ks (ke165 h2) (by decide)
  obtain ⟨q_26, h3, h⟩ := bd h
  have qz := qz.ks (ke215 h3) (by decide)
  rcases ite_some h with ⟨c4, h⟩ | ⟨c4, h⟩
  · exact qc216_98 h qz hv
  · rcases ite_some h with ⟨c5, h⟩ | ⟨c5, h⟩
    · exact qc216_98 h qz hv
    · rcases ite_some h with ⟨c6, h⟩ | ⟨c6, h⟩
      · exact qc216_98 h qz hv
      · rcases ite_some h with ⟨c7, h⟩ | ⟨c7, h⟩
        · exact qc216_98 h qz hv
        · rcases ite_some h with ⟨c8, h⟩ | ⟨c8, h⟩
          · exact qc216_98 h qz hv
          · rcases ite_some h with ⟨c9, h⟩ | ⟨c9, h⟩
            · exact qc216_109 h qz hv
            · obtain ⟨v_32, -, h⟩ := bd h
              rcases ite_some h with ⟨c11, h⟩ | ⟨c11, h⟩
              · exact qc216_98 h qz hv
              · exact qc216_109 h qz hv
theorem qc216_0 {v1 v2 v3 : _} {S : sT} {rs : (sRes sT)} (h : c216_0 v1 v2 v3 S = some rs) (qz : QZ pe nd S) (hv : wnd pe v1) : QZ pe nd (r_S f_0 rs) ∧ ∀ q, rs = .inr q → hdv v1 q.2.1 := by
  unfold c216_0 at h
  obtain ⟨q_1, h1, h⟩ := bd h
  have qz := qz.ks (ke165 h1) (by decide)
  obtain ⟨q_7, h2, h⟩ := bd h
  have qz := qz.ks (ke165 h2) (by decide)
  rcases ite_some h with ⟨c3, h⟩ | ⟨c3, h⟩
  · exact qc216_25 h qz hv
  · exact qc216_25 h qz hv
theorem qc216_117 {v1 v2 v4 v6 v7 v8 : _} {S : sT} {rs : (sRes sT)} (h : c216_117 v1 v2 v4 v6 v7 v8 S = some rs) (qz : QZ pe nd S) (hv : wnd pe v1) : QZ pe nd (r_S f_0 rs) ∧ ∀ q, rs = .inr q → hdv v1 q.2.1 := by
  unfold c216_117 at h
  rcases ite_some h with ⟨c1, h⟩ | ⟨c1, h⟩
  · obtain ⟨q_148, h2, h⟩ := bd h
    have qz := qz.ks (ke213 h2) (by decide)
    exact qc216_374 h qz
  · obtain ⟨q_154, h3, h⟩ := bd h
    have qz := qz.ks (ke212 h3) (by decide)
    obtain ⟨w_160, -, h⟩ := bd h
    obtain ⟨q_162, h5, h⟩ := bd h
    have qz := qz.ks (ke167 h5) (by decide)
    obtain ⟨q_168, h6, h⟩ := bd h
    have qz := qz.ks (ke176 h6) (by decide)
    obtain ⟨q_174, h7, h⟩ := bd h
    have qz := qz.ks (ke183 h7) (by decide)
    cases h
    exact ⟨qz, fun q e => by cases e; exact ⟨_, rfl⟩⟩
theorem qe216 {v1 v2 v3 : _} {S : sT} {q : sT} (h : e216 v1 v2 v3 S = some q) (qz : QZ pe nd S) (hv : wnd pe v1) : QZ pe nd q := by
  unfold e216 at h
  refine qsx_go (f := f_0) (blk := kS216) (A := fun _ as => hdv v1 as) ?_ h (fun res hx => qc216_0 hx qz hv)
  intro h as S res hk qz ha
  unfold kS216 at hk
  split at hk
  · split at hk
    · obtain ⟨_, hr⟩ := ha
      cases hr
      exact qc216_117 hk qz hv
    · cases hk
  · skip
    cases hk
theorem qc218_203 {v1 : Int32} {S : sT} {rs : (sRes sT)} (h : c218_203  S = some rs) (qz : QZ pe nd S)  : QZ pe nd (r_S f_0 rs) ∧ ∀ q, rs = .inr q → hdv v1 q.2.1 := by
  unfold c218_203 at h
  cases h
  exact ⟨qz, fun q e => by cases e⟩
theorem qc218_0 {v1 v2 : _} {S : sT} {rs : (sRes sT)} (h : c218_0 v1 v2 S = some rs) (qz : QZ pe nd S) (hv : wnd pe v1) : QZ pe nd (r_S f_0 rs) ∧ ∀ q, rs = .inr q → hdv v1 q.2.1 := by
  unfold c218_0 at h
  obtain ⟨q_1, h1, h⟩ := bd h
  have qz := qz.ks (ke166 h1) (by decide)
  obtain ⟨q_7, h2, h⟩ := bd h
  have qz := qz.ks (ke165 h2) (by decide)
  rcases ite_some h with ⟨c3, h⟩ | ⟨c3, h⟩
  · obtain ⟨q_13, h4, h⟩ := bd h
    have qz := qe217 h4 qz hv
    obtain ⟨q_19, h5, h⟩ := bd h
    have qz := qz.ks (ke176 h5) (by decide)
    obtain ⟨q_25, h6, h⟩ := bd h
    have qz := qz.ks (ke212 h6) (by decide)
    obtain ⟨q_31, h7, h⟩ := bd h
    have qz := qz.ks (ke183 h7) (by decide)
    exact qc218_203 h qz
  · rcases ite_some h with ⟨c8, h⟩ | ⟨c8, h⟩
    · exact qc218_203 h qz
    · rcases ite_some h with ⟨c9, h⟩ | ⟨c9, h⟩
      · obtain ⟨q_37, h10, h⟩ := bd h
        have qz := qe216 h10 qz hv
        exact qc218_203 h qz
      · rcases ite_some h with ⟨c11, h⟩ | ⟨c11, h⟩
        · exact qc218_203 h qz
        · rcases ite_some h with ⟨c12, h⟩ | ⟨c12, h⟩
          · obtain ⟨q_43, h13, h⟩ := bd h
            have qz := qe214 h13 qz hv
            exact qc218_203 h qz
          · rcases ite_some h with ⟨c14, h⟩ | ⟨c14, h⟩
            · exact qc218_203 h qz
            · rcases ite_some h with ⟨c15, h⟩ | ⟨c15, h⟩
              · cases h
                exact ⟨qz, fun q e => by cases e; exact ⟨_, rfl⟩⟩
              · exact qc218_203 h qz
theorem qc218_175 {v1 v2 v3 v4 : _} {S : sT} {rs : (sRes sT)} (h : c218_175 v1 v2 v3 v4 S = some rs) (qz : QZ pe nd S) (hv : wnd pe v1) : QZ pe nd (r_S f_0 rs) ∧ ∀ q, rs = .inr q → hdv v1 q.2.1 := by
  unfold c218_175 at h
  cases h
  exact ⟨qz, fun q e => by cases e; exact ⟨_, rfl⟩⟩
theorem qc218_107 {v1 v2 v3 v4 : _} {S : sT} {rs : (sRes sT)} (h : c218_107 v1 v2 v3 v4 S = some rs) (qz : QZ pe nd S) (hv : wnd pe v1) : QZ pe nd (r_S f_0 rs) ∧ ∀ q, rs = .inr q → hdv v1 q.2.1 := by
  unfold c218_107 at h
  obtain ⟨v_56, -, h⟩ := bd h
  rcases ite_some h with ⟨c2, h⟩ | ⟨c2, h⟩
  · obtain ⟨q_58, h3, h⟩ := bd h
    have qz := qz.ks (ke176 h3) (by decide)
    obtain ⟨q_64, h4, h⟩ := bd h
    have qz := qz.ks (ke212 h4) (by decide)
    obtain ⟨q_70, h5, h⟩ := bd h
    have qz := qz.ks (ke183 h5) (by decide)
    exact qc218_203 h qz
  · obtain ⟨v_76, -, h⟩ := bd h
    rcases ite_some h with ⟨c7, h⟩ | ⟨c7, h⟩
    · obtain ⟨v_78, -, h⟩ := bd h
      obtain ⟨q_80, h9, h⟩ := bd h
      have qz := qz.ks (ke166 h9) (by decide)
      rcases ite_some h with ⟨c10, h⟩ | ⟨c10, h⟩
      · obtain ⟨q_86, h11, h⟩ := bd h
        have qz := qe203 h11 qz hv
        cases h
        exact ⟨qz, fun q e => by cases e; exact ⟨_, rfl⟩⟩
      · exact qc218_175 h qz hv
    · exact qc218_175 h qz hv
theorem qe218 {v1 v2 : _} {S : sT} {q : sT} (h : e218 v1 v2 S = some q) (qz : QZ pe nd S) (hv : wnd pe v1) : QZ pe nd q := by
  unfold e218 at h
  refine qsx_go (f := f_0) (blk := kS218) (A := fun _ as => hdv v1 as) ?_ h (fun res hx => qc218_0 hx qz hv)
  intro h as S res hk qz ha
  unfold kS218 at hk
  split at hk
  · split at hk
    · obtain ⟨_, hr⟩ := ha
      cases hr
      exact qc218_107 hk qz hv
    · cases hk
  · skip
    cases hk
theorem qc219_24 {v1 : Int32} {S : sT} {rs : (sRes sT)} (h : c219_24  S = some rs) (qz : QZ pe nd S)  : QZ pe nd (r_S f_0 rs) ∧ ∀ q, rs = .inr q → hdv v1 q.2.1 := by
  unfold c219_24 at h
  cases h
  exact ⟨qz, fun q e => by cases e⟩
theorem qc219_0 {v1 v2 : _} {S : sT} {rs : (sRes sT)} (h : c219_0 v1 v2 S = some rs) (qz : QZ pe nd S) (hv : wnd pe v1) : QZ pe nd (r_S f_0 rs) ∧ ∀ q, rs = .inr q → hdv v1 q.2.1 := by
  unfold c219_0 at h
  obtain ⟨v_1, -, h⟩ := bd h
  rcases ite_some h with ⟨c2, h⟩ | ⟨c2, h⟩
  · obtain ⟨q_3, h3, h⟩ := bd h
    have qz := qe211 h3 qz hv
    exact qc219_24 h qz
  · obtain ⟨q_9, h4, h⟩ := bd h
    have qz := qe218 h4 qz hv
    exact qc219_24 h qz
theorem qe219 {v1 v2 : _} {S : sT} {q : sT} (h : e219 v1 v2 S = some q) (qz : QZ pe nd S) (hv : wnd pe v1) : QZ pe nd q := by
  unfold e219 at h
  exact (qc219_0 (s_out_ok h) qz hv).1
theorem nz17 {v u : Int32} (qz : QZ pe nd S) (e : s_a S 17 v = some u) (hu : ¬ u = 0) : pe v.toNatClampNeg ≠ none := fun q => by
  unfold s_a at e
  split at e
  · rename_i c
    cases e
    exact hu (qz.2.1 _ c.2 q).1
  · cases e
theorem qe229 {v1 v2 : Int32} {S : sT} {q : sT} (h : e229 v1 v2 S = some q) (qz : QZ pe nd S) : QZ pe nd q := by
  unfold e229 at h
  have h := s_out_ok h
  unfold c229_0 at h
  obtain ⟨v_1, h1, h⟩ := bd h
  rcases ite_some h with ⟨c1, h⟩ | ⟨c1, h⟩
  · cases h; exact qz
  have hv := nz17 qz h1 c1
  obtain ⟨v_3, -, h⟩ := bd h
  obtain ⟨q_5, h5, h⟩ := bd h
  have qz := qz.ks (ke166 h5) (by decide)
  obtain ⟨q_11, h11, h⟩ := bd h
  have qz := qz.ks (ke174 h11) (by decide)
  have last : ∀ w v3 v4 T, c229_97 w v2 v3 v4 T = some (.inl q) → QZ pe nd T → QZ pe nd q := fun w v3 v4 T h qz => by
    unfold c229_97 at h
    obtain ⟨q_59, h59, h⟩ := bd h
    cases h
    exact qe226 h59 qz hv
  rcases ite_some h with ⟨c2, h⟩ | ⟨c2, h⟩
  · obtain ⟨v_37, -, h⟩ := bd h
    obtain ⟨S39, h39, h⟩ := bd h
    have qz := qz.ks (k_s_s h39) (by decide)
    obtain ⟨q_45, h45, h⟩ := bd h
    have qz := qe185 h45 qz hv
    obtain ⟨q_51, h51, h⟩ := bd h
    have qz := qz.ks (ke171 h51) (by decide)
    cases h
    exact qz
  · rcases ite_some h with ⟨c3, h⟩ | ⟨c3, h⟩
    · exact last _ _ _ _ h qz
    · rcases ite_some h with ⟨c4, h⟩ | ⟨c4, h⟩
      · exact last _ _ _ _ h qz
      · obtain ⟨q_17, h17, h⟩ := bd h
        have qz := qe185 h17 qz hv
        obtain ⟨q_23, h23, h⟩ := bd h
        have qz := qz.ks (ke228 h23) (by decide)
        obtain ⟨q_29, h29, h⟩ := bd h
        have qz := qz.ks (ke171 h29) (by decide)
        cases h
        exact qz
theorem qe230 {v1 : Int32} {S : sT} {q : sT} (h : e230 v1 S = some q) (qz : QZ pe nd S) : QZ pe nd q := by
  unfold e230 at h
  refine qsx_go (f := f_0) (blk := kS230) (A := fun _ _ => True) ?_ h (fun res hx => ?_)
  · intro h as S res hk qz _
    unfold kS230 at hk
    split at hk
    · split at hk
      · unfold c230_7 at hk
        rcases ite_some hk with ⟨c, hk⟩ | ⟨c, hk⟩
        · cases hk; exact ⟨qz, fun _ _ => trivial⟩
        · obtain ⟨v_7, -, hk⟩ := bd hk
          obtain ⟨q_9, h9, hk⟩ := bd hk
          have qz := qz.ks (ke175 h9) (by decide)
          obtain ⟨q_15, h15, hk⟩ := bd hk
          have qz := qz.ks (ke184 h15) (by decide)
          cases hk; exact ⟨qz, fun _ _ => trivial⟩
      · cases hk
    · split at hk
      · split at hk
        · unfold c230_39 at hk
          rcases ite_some hk with ⟨c, hk⟩ | ⟨c, hk⟩
          · cases hk; exact ⟨qz, fun _ _ => trivial⟩
          · obtain ⟨v_7, -, hk⟩ := bd hk
            obtain ⟨q_9, h9, hk⟩ := bd hk
            have qz := qz.ks (ke175 h9) (by decide)
            obtain ⟨q_15, h15, hk⟩ := bd hk
            have qz := qe229 h15 qz
            cases hk; exact ⟨qz, fun _ _ => trivial⟩
        · cases hk
      · cases hk
  · unfold c230_0 at hx
    obtain ⟨q_1, h1, hx⟩ := bd hx
    have qz := qz.ks (ke224 h1) (by decide)
    cases hx
    exact ⟨qz, fun _ _ => trivial⟩
def A8 (pe : Nat → Option Nat) (m : Nat) (h : Nat) (as : List aV) : Prop := ∃ k : Int32, as = [.inl (nI m), .inl k] ∧ (h = 129 → pe (40 + m) ≠ none ∨ k = 0)
theorem qe208 {m : Nat} {S : sT} {q : sT} (h : e208 (nI m) S = some q) (hm : m < 8) (qz : QZ pe nd S) : QZ pe nd q := by
  unfold e208 at h
  refine qsx_go (f := f_0) (blk := kS208) (A := A8 pe m) ?_ h (fun res hx => ?_)
  · intro h as S res hk qz ha
    unfold kS208 at hk
    split at hk
    · split at hk
      · obtain ⟨k, hr, -⟩ := ha
        injection hr with e1 e2
        injection e1 with e1
        injection e2 with e3 e4
        injection e3 with e3
        rw [e1, e3] at hk
        have j : ∀ T, QZ pe nd T → ∀ res, c208_121 (nI m) k T = some res → QZ pe nd (r_S f_0 res) ∧ ∀ q, res = .inr q → A8 pe m q.1 q.2.1 := fun T qT res e => by
          unfold c208_121 at e
          cases e
          exact ⟨qT, fun q e => by cases e; exact ⟨_, rfl, fun z => absurd (show 88 = 129 from z) (by decide)⟩⟩
        unfold c208_88 at hk
        rcases ite_some hk with ⟨c, hk⟩ | ⟨c, hk⟩
        · cases hk
          exact ⟨qz, fun q e => by cases e; exact ⟨_, rfl, fun _ => Or.inr rfl⟩⟩
        · obtain ⟨v1, -, hk⟩ := bd hk
          rcases ite_some hk with ⟨c, hk⟩ | ⟨c, hk⟩
          · obtain ⟨v2, -, hk⟩ := bd hk
            rcases ite_some hk with ⟨c, hk⟩ | ⟨c, hk⟩
            · obtain ⟨q5, h5, hk⟩ := bd hk
              exact j _ (qz.ks (ke207 h5) (by decide)) _ hk
            · exact j _ qz _ hk
          · exact j _ qz _ hk
      · cases hk
    · split at hk
      · rename_i e129
        split at hk
        · obtain ⟨k, hr, hw⟩ := ha
          injection hr with e1 e2
          injection e1 with e1
          injection e2 with e3 e4
          injection e3 with e3
          rw [e1, e3] at hk
          have hw := hw e129
          unfold c208_129 at hk
          obtain ⟨v1, h1, hk⟩ := bd hk
          rcases ite_some hk with ⟨c, hk⟩ | ⟨c, hk⟩
          · cases hk
            exact ⟨qz, fun q e => by cases e⟩
          have hv : pe (40 + m) ≠ none := fun y => by
            have k0 : k = 0 := hw.resolve_left (fun z => z y)
            have e46 := (qz.2.2 m hm y).2.2.2
            unfold s_a at h1
            rw [nI_clamp (by omega)] at h1
            split at h1
            · cases h1
              rw [e46, k0] at c
              exact c (by decide)
            · cases h1
          obtain ⟨v2, -, hk⟩ := bd hk
          rcases ite_some hk with ⟨c, hk⟩ | ⟨c, hk⟩
          · cases hk
            exact ⟨qz, fun q e => by cases e; exact ⟨_, rfl, fun _ => Or.inl hv⟩⟩
          · obtain ⟨q5, h5, hk⟩ := bd hk
            have qz := qe203 h5 qz ⟨m, rfl, hm, hv⟩
            cases hk
            exact ⟨qz, fun q e => by cases e; exact ⟨_, rfl, fun _ => Or.inl hv⟩⟩
        · cases hk
      · cases hk
  · have j86 : ∀ T, QZ pe nd T → ∀ res, c208_86 (nI m) T = some res → QZ pe nd (r_S f_0 res) ∧ ∀ q, res = .inr q → A8 pe m q.1 q.2.1 := fun T qT res e => by
      unfold c208_86 at e
      cases e
      exact ⟨qT, fun q e => by cases e; exact ⟨_, rfl, fun z => absurd (show 88 = 129 from z) (by decide)⟩⟩
    have j41 : ∀ v2 s0 s1 T, QZ pe nd T → ∀ res, c208_41 (nI m) v2 s0 s1 T = some res → QZ pe nd (r_S f_0 res) ∧ ∀ q, res = .inr q → A8 pe m q.1 q.2.1 := fun v2 s0 s1 T qz res hk => by
      unfold c208_41 at hk
      rcases ite_some hk with ⟨c, hk⟩ | ⟨c, hk⟩
      · exact j86 _ qz _ hk
      · obtain ⟨S19, h1, hk⟩ := bd hk
        have qz := qz.ks (k_s_s h1) (by decide)
        obtain ⟨v_25, -, hk⟩ := bd hk
        obtain ⟨q_27, h2, hk⟩ := bd hk
        have qz := qz.ks (ke168 h2) (by decide)
        obtain ⟨q_33, h3, hk⟩ := bd hk
        have qz := qz.ks (ke167 h3) (by decide)
        obtain ⟨q_39, h4, hk⟩ := bd hk
        have qz := qz.ks (ke183 h4) (by decide)
        exact j86 _ qz _ hk
    unfold c208_0 at hx
    obtain ⟨q_1, h1, hx⟩ := bd hx
    have qz := qz.ks (ke176 h1) (by decide)
    obtain ⟨q_7, h7, hx⟩ := bd hx
    have qz := qz.ks (ke177 h7) (by decide)
    rcases ite_some hx with ⟨c, hx⟩ | ⟨c, hx⟩
    · exact j86 _ qz _ hx
    · obtain ⟨v_13, -, hx⟩ := bd hx
      obtain ⟨v_15, -, hx⟩ := bd hx
      rcases ite_some hx with ⟨c, hx⟩ | ⟨c, hx⟩
      · exact j41 _ _ _ _ qz _ hx
      · exact j41 _ _ _ _ qz _ hx
theorem qe221 {m : Nat} {S : sT} {q : sT} (h : e221 (nI m) S = some q) (hm : m < 8) (qz : QZ pe nd S) : QZ pe nd q := by
  unfold e221 at h
  refine qsx_go (f := f_0) (blk := kS221) (A := fun _ as => as = [.inl (nI m), .inl (nI (40 + m))]) ?_ h (fun res hx => ?_)
  · intro h as S res hk qz ha
    unfold kS221 at hk
    split at hk
    · split at hk
      · injection ha with e1 e2
        injection e1 with e1
        injection e2 with e3 e4
        injection e3 with e3
        rw [e1, e3] at hk
        have j110 : ∀ v3 T, QZ pe nd T → ∀ res, c221_110 (nI m) (nI (40 + m)) v3 T = some res → QZ pe nd (r_S f_0 res) ∧ ∀ q, res = .inr q → q.2.1 = [.inl (nI m), .inl (nI (40 + m))] := fun v3 T qz res hk => by
          unfold c221_110 at hk
          obtain ⟨q_81, h1, hk⟩ := bd hk
          have qz := qz.ks (ke171 h1) (by decide)
          cases hk
          exact ⟨qz, fun q e => by cases e; rfl⟩
        have j84 : wnd pe (nI m) → ∀ v3 v4 T, QZ pe nd T → ∀ res, c221_84 (nI m) (nI (40 + m)) v3 v4 T = some res → QZ pe nd (r_S f_0 res) ∧ ∀ q, res = .inr q → q.2.1 = [.inl (nI m), .inl (nI (40 + m))] := fun hv v3 v4 T qz res hk => by
          unfold c221_84 at hk
          obtain ⟨v_69, -, hk⟩ := bd hk
          rcases ite_some hk with ⟨c, hk⟩ | ⟨c, hk⟩
          · exact j110 _ _ qz _ hk
          · obtain ⟨v_71, -, hk⟩ := bd hk
            rcases ite_some hk with ⟨c, hk⟩ | ⟨c, hk⟩
            · obtain ⟨q_73, h1, hk⟩ := bd hk
              exact j110 _ _ (qe219 h1 qz hv) _ hk
            · exact j110 _ _ qz _ hk
        unfold c221_6 at hk
        obtain ⟨v_7, h7, hk⟩ := bd hk
        rcases ite_some hk with ⟨c, hk⟩ | ⟨c, hk⟩
        · obtain ⟨q_9, h9, hk⟩ := bd hk
          have qz := qe208 h9 hm qz
          obtain ⟨q_15, h15, hk⟩ := bd hk
          have qz := qz.ks (ke184 h15) (by decide)
          cases hk
          exact ⟨qz, fun q e => by cases e⟩
        · have hw := nz17 qz h7 (fun z => c (by rw [z]; decide))
          have hv : wnd pe (nI m) := ⟨m, rfl, hm, by rw [nI_clamp (by omega)] at hw; exact hw⟩
          obtain ⟨q_21, h21, hk⟩ := bd hk
          have qz := qe185 h21 qz hw
          obtain ⟨q_27, h27, hk⟩ := bd hk
          have qz := qz.ks (ke166 h27) (by decide)
          obtain ⟨q_33, h33, hk⟩ := bd hk
          have qz := qz.ks (ke174 h33) (by decide)
          rcases ite_some hk with ⟨c, hk⟩ | ⟨c, hk⟩
          · obtain ⟨v_59, -, hk⟩ := bd hk
            obtain ⟨S61, h61, hk⟩ := bd hk
            have qz := qz.ks (k_s_s h61) (by decide)
            exact j110 _ _ qz _ hk
          · obtain ⟨q_39, h39, hk⟩ := bd hk
            have qz := qz.ks (ke165 h39) (by decide)
            rcases ite_some hk with ⟨c, hk⟩ | ⟨c, hk⟩
            · obtain ⟨q_45, h45, hk⟩ := bd hk
              have qz := qz.ks (ke166 h45) (by decide)
              rcases ite_some hk with ⟨c, hk⟩ | ⟨c, hk⟩
              · obtain ⟨q_51, h51, hk⟩ := bd hk
                exact j110 _ _ (qe220 h51 qz hv) _ hk
              · exact j84 hv _ _ _ qz _ hk
            · exact j84 hv _ _ _ qz _ hk
      · cases hk
    · cases hk
  · unfold c221_0 at hx
    rw [bd_s e176_v] at hx
    cases hx
    exact ⟨qz, fun q e => by cases e; rfl⟩
/-- the rest of a tick, behind the arrivals -/
theorem q231 {v u : Int32} {n : Nat} {S : sT} {r : Int32 × sT} (h : sdrive kS231 n 152 [.inl v, .inl u] S = some r) (qz : QZ pe nd S) : QZ pe nd r.2 := by
  refine qsd_go (f := Prod.snd) (blk := kS231) (A := fun h as => (h = 152 ∧ ∃ w u : Int32, as = [.inl w, .inl u]) ∨ (h = 173 ∧ ∃ (w : Int32) (n : Nat), n ≤ 8 ∧ as = [.inl w, .inl (nI n)])) ?_ n 152 [.inl v, .inl u] S r h qz (Or.inl ⟨rfl, _, _, rfl⟩)
  intro h as S res hk qz ha
  rcases ha with ⟨rfl, w, u, rfl⟩ | ⟨rfl, w, n, hn, rfl⟩
  · have hk : c231_152 w u S = some res := hk
    unfold c231_152 at hk
    rcases ite_some hk with ⟨c, hk⟩ | ⟨c, hk⟩
    · cases hk
      exact ⟨qz, fun q e => by cases e; exact Or.inr ⟨rfl, _, 0, by omega, rfl⟩⟩
    · obtain ⟨q_73, h1, hk⟩ := bd hk
      have qz := qe230 h1 qz
      cases hk
      exact ⟨qz, fun q e => by cases e; exact Or.inl ⟨rfl, _, _, rfl⟩⟩
  · have hk : c231_173 w (nI n) S = some res := hk
    unfold c231_173 at hk
    rcases ite_some hk with ⟨c, hk⟩ | ⟨c, hk⟩
    · cases hk
      exact ⟨qz, fun q e => by cases e⟩
    · have n8 := qz.1.2
      have e1 : s_g S 1 = nI nd := qz.1.1
      have hlt : n < nd := by
        rw [e1, nI_leI (by omega) (by omega)] at c
        omega
      obtain ⟨q_73, h1, hk⟩ := bd hk
      have qz := qe221 h1 (by omega) qz
      cases hk
      exact ⟨qz, fun q e => by cases e; exact Or.inr ⟨rfl, _, n + 1, by omega, by rw [nI_1]⟩⟩
end QZs
