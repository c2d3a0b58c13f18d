/-! ===== the reference without a heap: its fields and arrays by number ===== -/
abbrev sT : Type := (Nat → Nat → Int32) × (Nat → Nat → Int64)
/-- what the fields of the reference are: 0 an int, 3 a boolean, else the tag of an array -/
def mT : List Nat := [0, 0, 0, 0, 20, 20, 21, 20, 20, 0, 20, 20, 22, 0, 20, 20, 20, 20, 20, 20, 20, 20, 22, 20, 20, 20, 20, 22, 20, 20, 20, 20, 20, 22, 22, 20, 20, 20, 3, 20, 20, 20, 23, 20, 20, 23, 20, 0, 20, 20, 22, 20, 20, 20, 23, 20, 20, 20, 20, 20, 20]
/-- how long the arrays are -/
def mL : List Nat := [1, 1, 1, 1, 11, 3, 144000, 1800, 1800, 1, 32, 16, 16, 1, 48, 48, 192, 48, 1536, 48, 48, 48, 48, 48, 48, 48, 5, 25, 25, 1600, 25, 64, 25, 8, 8, 8, 8, 8, 1, 64, 64, 8, 256, 8, 384, 192, 8, 1, 300, 300, 300, 300, 300, 300, 1200, 300, 300, 300, 300, 300, 300]
def s_g (S : sT) (k : Nat) : Int32 := S.1 k 0
def s_a (S : sT) (k : Nat) (i : Int32) : Option Int32 := if ¬ i < 0 ∧ i.toNatClampNeg < mL.getD k 0 then some (S.1 k i.toNatClampNeg) else none
def s_al (S : sT) (k : Nat) (i : Int32) : Option Int64 := if ¬ i < 0 ∧ i.toNatClampNeg < mL.getD k 0 then some (S.2 k i.toNatClampNeg) else none
def s_u (S : sT) (k i : Nat) (v : Int32) : sT := (u2 S.1 k i v, S.2)
def s_ul (S : sT) (k i : Nat) (v : Int64) : sT := (S.1, u2 S.2 k i v)
def s_p (S : sT) (k : Nat) (v : Int32) : Option sT := some (s_u S k 0 v)
def s_pz (S : sT) (k : Nat) (v : Int32) : Option sT := if v = 0 ∨ v = 1 then some (s_u S k 0 v) else none
def s_s (S : sT) (k : Nat) (i v : Int32) : Option sT := if ¬ i < 0 ∧ i.toNatClampNeg < mL.getD k 0 then some (s_u S k i.toNatClampNeg v) else none
def s_sb (S : sT) (k : Nat) (i v : Int32) : Option sT := if ¬ i < 0 ∧ i.toNatClampNeg < mL.getD k 0 then some (s_u S k i.toNatClampNeg v.toInt8.toInt32) else none
def s_sz (S : sT) (k : Nat) (i v : Int32) : Option sT := if (v = 0 ∨ v = 1) ∧ ¬ i < 0 ∧ i.toNatClampNeg < mL.getD k 0 then some (s_u S k i.toNatClampNeg v) else none
def s_sl (S : sT) (k : Nat) (i : Int32) (v : Int64) : Option sT := if ¬ i < 0 ∧ i.toNatClampNeg < mL.getD k 0 then some (s_ul S k i.toNatClampNeg v) else none
/-- the heap holds the reference at m, its arrays at ad, as S -/
def rR (m : Nat) (ad : Nat → Nat) (M : hM) (S : sT) : Prop := h_tg M m = 13 ∧ (∀ k, k < 61 → mT.getD k 0 < 20 → h_fi M (1200 + k) m = S.1 k 0) ∧ (∀ k, k < 61 → 20 ≤ mT.getD k 0 → h_fr M (1200 + k) m = some (ad k) ∧ h_tg M (ad k) = mT.getD k 0 ∧ h_ln M (ad k) = mL.getD k 0 ∧ (mT.getD k 0 < 23 → ∀ i, i < mL.getD k 0 → h_ai M (ad k) i = S.1 k i) ∧ (mT.getD k 0 = 23 → ∀ i, i < mL.getD k 0 → h_al M (ad k) i = S.2 k i)) ∧ ∀ j k, j < 61 → k < 61 → 20 ≤ mT.getD j 0 → 20 ≤ mT.getD k 0 → ad j = ad k → j = k
/-- nothing but the reference's own ints and longs has changed -/
def sm (m : Nat) (ad : Nat → Nat) (M M' : hM) : Prop := (h_fl M' = h_fl M ∧ h_fr M' = h_fr M ∧ h_ar M' = h_ar M ∧ h_ln M' = h_ln M ∧ h_tg M' = h_tg M ∧ h_sz M' = h_sz M ∧ h_sl M' = h_sl M) ∧ (∀ f a, a ≠ m → h_fi M' f a = h_fi M f a) ∧ (∀ a i, (∀ k, k < 61 → 20 ≤ mT.getD k 0 → a ≠ ad k) → h_ai M' a i = h_ai M a i ∧ h_al M' a i = h_al M a i)
theorem sm.rf {m : Nat} {ad : Nat → Nat} {M : hM} : sm m ad M M := ⟨⟨rfl, rfl, rfl, rfl, rfl, rfl, rfl⟩, fun _ _ _ => rfl, fun _ _ _ => ⟨rfl, rfl⟩⟩
theorem sm.tr {m : Nat} {ad : Nat → Nat} {M M1 M2 : hM} (h : sm m ad M M1) (g : sm m ad M1 M2) : sm m ad M M2 := by
  obtain ⟨⟨a1, a2, a3, a4, a5, a6, a7⟩, a8, a9⟩ := h
  obtain ⟨⟨b1, b2, b3, b4, b5, b6, b7⟩, b8, b9⟩ := g
  exact ⟨⟨b1.trans a1, b2.trans a2, b3.trans a3, b4.trans a4, b5.trans a5, b6.trans a6, b7.trans a7⟩, fun f a q => (b8 f a q).trans (a8 f a q), fun a i q => ⟨(b9 a i q).1.trans (a9 a i q).1, (b9 a i q).2.trans (a9 a i q).2⟩⟩
section RR
variable {m : Nat} {ad : Nat → Nat} {M : hM} {S S1 : sT}
theorem rR_go (h : rR m ad M S) : g_o M 12 (some m) = some m := if_pos h.1
theorem rR_gi (h : rR m ad M S) (k : Nat) (hk : k < 61 ∧ mT.getD k 0 < 20 := by decide) : g_i M 12 k (some m) = some (s_g S k) := by
  unfold g_i
  rw [rR_go h]
  exact congrArg some (h.2.1 k hk.1 hk.2)
theorem rR_gr (h : rR m ad M S) (k : Nat) (hk : k < 61 ∧ 20 ≤ mT.getD k 0 := by decide) : g_r M 12 k (some m) = some (some (ad k)) := by
  unfold g_r
  rw [rR_go h]
  exact congrArg some (h.2.2.1 k hk.1 hk.2).1
theorem rR_ga (h : rR m ad M S) {k t : Nat} (hk : k < 61 ∧ mT.getD k 0 = t ∧ 20 ≤ t) {i : Int32} (hi : ¬ i < 0 ∧ i.toNatClampNeg < mL.getD k 0) : g_a M t (some (ad k)) i = some (ad k) := by
  obtain ⟨-, h2, h3, -⟩ := h.2.2.1 k hk.1 (by omega)
  exact if_pos ⟨by rw [h2, hk.2.1], hi.1, by rw [h3]; exact hi.2⟩
theorem rR_al (h : rR m ad M S) {k t : Nat} {i v : Int32} (hs : s_a S k i = some v) (hk : k < 61 ∧ mT.getD k 0 = t ∧ 20 ≤ t ∧ t < 23 := by decide) : al_i M t (some (ad k)) i = some v := by
  unfold s_a at hs
  split at hs
  · rename_i hi
    cases hs
    unfold al_i
    rw [rR_ga h ⟨hk.1, hk.2.1, hk.2.2.1⟩ hi]
    exact congrArg some ((h.2.2.1 k hk.1 (by omega)).2.2.2.1 (by omega) _ hi.2)
  · cases hs
theorem rR_all (h : rR m ad M S) {k : Nat} {i : Int32} {v : Int64} (hs : s_al S k i = some v) (hk : k < 61 ∧ mT.getD k 0 = 23 := by decide) : al_l M 23 (some (ad k)) i = some v := by
  unfold s_al at hs
  split at hs
  · rename_i hi
    cases hs
    unfold al_l
    rw [rR_ga h ⟨hk.1, hk.2, by omega⟩ hi]
    exact congrArg some ((h.2.2.1 k hk.1 (by omega)).2.2.2.2 hk.2 _ hi.2)
  · cases hs
theorem rR_pu (h : rR m ad M S) {k : Nat} {v : Int32} (hk : k < 61 ∧ mT.getD k 0 < 20) : rR m ad (h_pi M (1200 + k) m v) (s_u S k 0 v) ∧ sm m ad M (h_pi M (1200 + k) m v) := by
  refine ⟨⟨h.1, fun j hj hjt => ?_, fun j hj hjt => ?_, h.2.2.2⟩, ⟨rfl, rfl, rfl, rfl, rfl, rfl, rfl⟩, fun f a q => u2_ne q, fun _ _ _ => ⟨rfl, rfl⟩⟩
  · show u2 (h_fi M) (1200 + k) m v (1200 + j) m = u2 S.1 k 0 v j 0
    by_cases e : j = k
    · subst e
      rw [u2_eq, u2_eq]
    · rw [u2_nk (by omega), u2_nk e]
      exact h.2.1 j hj hjt
  · obtain ⟨h1, h2, h3, h4, h5⟩ := h.2.2.1 j hj hjt
    have e : j ≠ k := fun e => by subst e; omega
    refine ⟨h1, h2, h3, fun q i hi => ?_, h5⟩
    show h_ai M (ad j) i = u2 S.1 k 0 v j i
    rw [u2_nk e]
    exact h4 q i hi
theorem rR_pi (h : rR m ad M S) {k : Nat} {v : Int32} (hs : s_p S k v = some S1) (hk : k < 61 ∧ mT.getD k 0 < 20 := by decide) : ∃ M1, p_i M 12 k (some m) v = some M1 ∧ rR m ad M1 S1 ∧ sm m ad M M1 := by
  cases hs
  refine ⟨h_pi M (1200 + k) m v, ?_, rR_pu h hk⟩
  unfold p_i
  rw [rR_go h]
  rfl
theorem rR_pz (h : rR m ad M S) {k : Nat} {v : Int32} (hs : s_pz S k v = some S1) (hk : k < 61 ∧ mT.getD k 0 < 20 := by decide) : ∃ M1, p_z M 12 k (some m) v = some M1 ∧ rR m ad M1 S1 ∧ sm m ad M M1 := by
  unfold s_pz at hs
  split at hs
  · rename_i q
    cases hs
    refine ⟨h_pi M (1200 + k) m v, ?_, rR_pu h hk⟩
    unfold p_z
    rw [if_pos q, rR_go h]
    rfl
  · cases hs
theorem rR_su (h : rR m ad M S) {k i : Nat} {v : Int32} (hk : k < 61 ∧ 20 ≤ mT.getD k 0 ∧ mT.getD k 0 < 23) : rR m ad (h_qi M (ad k) i v) (s_u S k i v) ∧ sm m ad M (h_qi M (ad k) i v) := by
  refine ⟨⟨h.1, fun j hj hjt => ?_, fun j hj hjt => ?_, h.2.2.2⟩, ⟨rfl, rfl, rfl, rfl, rfl, rfl, rfl⟩, fun _ _ _ => rfl, fun a y q => ⟨u2_nk (q k hk.1 hk.2.1), rfl⟩⟩
  · have e : j ≠ k := fun e => by subst e; omega
    show h_fi M (1200 + j) m = u2 S.1 k i v j 0
    rw [u2_nk e]
    exact h.2.1 j hj hjt
  · obtain ⟨h1, h2, h3, h4, h5⟩ := h.2.2.1 j hj hjt
    refine ⟨h1, h2, h3, fun q y hy => ?_, h5⟩
    show u2 (h_ai M) (ad k) i v (ad j) y = u2 S.1 k i v j y
    by_cases e : j = k
    · subst e
      by_cases e2 : y = i
      · subst e2
        rw [u2_eq, u2_eq]
      · rw [u2_ne e2, u2_ne e2]
        exact h4 q y hy
    · rw [u2_nk (fun z => e (h.2.2.2 j k hj hk.1 hjt hk.2.1 z)), u2_nk e]
      exact h4 q y hy
theorem rR_sul (h : rR m ad M S) {k i : Nat} {v : Int64} (hk : k < 61 ∧ mT.getD k 0 = 23) : rR m ad (h_ql M (ad k) i v) (s_ul S k i v) ∧ sm m ad M (h_ql M (ad k) i v) := by
  refine ⟨⟨h.1, h.2.1, fun j hj hjt => ?_, h.2.2.2⟩, ⟨rfl, rfl, rfl, rfl, rfl, rfl, rfl⟩, fun _ _ _ => rfl, fun a y q => ⟨rfl, u2_nk (q k hk.1 (by omega))⟩⟩
  obtain ⟨h1, h2, h3, h4, h5⟩ := h.2.2.1 j hj hjt
  refine ⟨h1, h2, h3, h4, fun q y hy => ?_⟩
  show u2 (h_al M) (ad k) i v (ad j) y = u2 S.2 k i v j y
  by_cases e : j = k
  · subst e
    by_cases e2 : y = i
    · subst e2
      rw [u2_eq, u2_eq]
    · rw [u2_ne e2, u2_ne e2]
      exact h5 q y hy
  · rw [u2_nk (fun z => e (h.2.2.2 j k hj hk.1 hjt (by omega) z)), u2_nk e]
    exact h5 q y hy
theorem rR_si (h : rR m ad M S) {k : Nat} {i v : Int32} (hs : s_s S k i v = some S1) (hk : k < 61 ∧ mT.getD k 0 = 20 := by decide) : ∃ M1, as_i M 20 (some (ad k)) i v = some M1 ∧ rR m ad M1 S1 ∧ sm m ad M M1 := by
  unfold s_s at hs
  split at hs
  · rename_i hi
    cases hs
    refine ⟨_, ?_, rR_su (i := i.toNatClampNeg) (v := v) h ⟨hk.1, by omega, by omega⟩⟩
    unfold as_i
    rw [rR_ga h ⟨hk.1, hk.2, by omega⟩ hi]
    rfl
  · cases hs
theorem rR_sb (h : rR m ad M S) {k : Nat} {i v : Int32} (hs : s_sb S k i v = some S1) (hk : k < 61 ∧ mT.getD k 0 = 21 := by decide) : ∃ M1, as_b M 21 (some (ad k)) i v = some M1 ∧ rR m ad M1 S1 ∧ sm m ad M M1 := by
  unfold s_sb at hs
  split at hs
  · rename_i hi
    cases hs
    refine ⟨_, ?_, rR_su (i := i.toNatClampNeg) (v := v.toInt8.toInt32) h ⟨hk.1, by omega, by omega⟩⟩
    unfold as_b
    rw [rR_ga h ⟨hk.1, hk.2, by omega⟩ hi]
    rfl
  · cases hs
theorem rR_sz (h : rR m ad M S) {k : Nat} {i v : Int32} (hs : s_sz S k i v = some S1) (hk : k < 61 ∧ mT.getD k 0 = 22 := by decide) : ∃ M1, as_z M 22 (some (ad k)) i v = some M1 ∧ rR m ad M1 S1 ∧ sm m ad M M1 := by
  unfold s_sz at hs
  split at hs
  · rename_i hi
    cases hs
    refine ⟨_, ?_, rR_su (i := i.toNatClampNeg) (v := v) h ⟨hk.1, by omega, by omega⟩⟩
    unfold as_z
    rw [if_pos hi.1, rR_ga h ⟨hk.1, hk.2, by omega⟩ hi.2]
    rfl
  · cases hs
theorem rR_sl (h : rR m ad M S) {k : Nat} {i : Int32} {v : Int64} (hs : s_sl S k i v = some S1) (hk : k < 61 ∧ mT.getD k 0 = 23 := by decide) : ∃ M1, as_l M 23 (some (ad k)) i v = some M1 ∧ rR m ad M1 S1 ∧ sm m ad M M1 := by
  unfold s_sl at hs
  split at hs
  · rename_i hi
    cases hs
    refine ⟨_, ?_, rR_sul (i := i.toNatClampNeg) (v := v) h hk⟩
    unfold as_l
    rw [rR_ga h ⟨hk.1, hk.2, by omega⟩ hi]
    rfl
  · cases hs
end RR
/-! loops, ends -/
abbrev sRes (ρ : Type) : Type := ρ ⊕ (Nat × List aV × sT)
def s_out {ρ : Type} (x : Option (sRes ρ)) : Option ρ := match x with
  | some (.inl r) => some r
  | _ => none
def sdrive {ρ : Type} (blk : Nat → List aV → sT → Option (sRes ρ)) : Nat → Nat → List aV → sT → Option ρ
  | 0, _, _, _ => none
  | n + 1, h, as, S => match blk h as S with
    | none => none
    | some (.inl r) => some r
    | some (.inr q) => sdrive blk n q.1 q.2.1 q.2.2
def s_go {ρ : Type} (blk : Nat → List aV → sT → Option (sRes ρ)) (x : Option (sRes ρ)) : Option ρ := match x with
  | none => none
  | some (.inl r) => some r
  | some (.inr q) => sdrive blk xF q.1 q.2.1 q.2.2
theorem s_out_ok {ρ : Type} {x : Option (sRes ρ)} {r : ρ} (h : s_out x = some r) : x = some (.inl r) := by
  unfold s_out at h
  split at h
  · cases h; rfl
  · cases h
def simR {ρ : Type} (o : ρ → Option aV) (f : ρ → sT) (J : Nat → List aV → List aV) (m : Nat) (ad : Nat → Nat) (M0 : hM) (rs : sRes ρ) (res : xRes) : Prop := match rs with
  | .inl q => ∃ M1, res = .inl (o q, M1) ∧ rR m ad M1 (f q) ∧ sm m ad M0 M1
  | .inr q => ∃ M1, res = .inr (q.1, J q.1 q.2.1, M1) ∧ rR m ad M1 q.2.2 ∧ sm m ad M0 M1
theorem simR.tr {ρ : Type} {o : ρ → Option aV} {f : ρ → sT} {J : Nat → List aV → List aV} {m : Nat} {ad : Nat → Nat} {M0 M : hM} {rs : sRes ρ} {res : xRes} (hs : sm m ad M0 M) (h : simR o f J m ad M rs res) : simR o f J m ad M0 rs res := by
  cases rs with
  | inl q =>
    obtain ⟨M1, h1, h2, h3⟩ := h
    exact ⟨M1, h1, h2, hs.tr h3⟩
  | inr q =>
    obtain ⟨M1, h1, h2, h3⟩ := h
    exact ⟨M1, h1, h2, hs.tr h3⟩
theorem simT {ρ : Type} {o : ρ → Option aV} {f : ρ → sT} {J : Nat → List aV → List aV} {m : Nat} {ad : Nat → Nat} {M0 M : hM} {rs : sRes ρ} {x : Option xRes} (hs : sm m ad M0 M) (h : ∃ res, x = some res ∧ simR o f J m ad M rs res) : ∃ res, x = some res ∧ simR o f J m ad M0 rs res := by
  obtain ⟨res, h1, h2⟩ := h
  exact ⟨res, h1, h2.tr hs⟩
theorem exb {α β : Type} {x : Option α} {f : α → Option β} {P : β → Prop} {a : α} (hx : x = some a) (h : ∃ r, f a = some r ∧ P r) : ∃ r, x.bind f = some r ∧ P r := by
  subst hx
  exact h
theorem c_I_of {x : xO} {v : Int32} {M : hM} (h : x = some (some (.inl v), M)) : c_I x = some (v, M) := by subst h; rfl
theorem c_L_of {x : xO} {v : Int64} {M : hM} (h : x = some (some (.inr (.inl v)), M)) : c_L x = some (v, M) := by subst h; rfl
theorem c_V_of {x : xO} {M : hM} (h : x = some (none, M)) : c_V x = some M := by subst h; rfl
theorem sdrive_ok {ρ : Type} {o : ρ → Option aV} {f : ρ → sT} {J : Nat → List aV → List aV} {m : Nat} {ad : Nat → Nat} {bs : Nat → List aV → sT → Option (sRes ρ)} {bk : Nat → List aV → hM → Option xRes}
    (hst : ∀ h as S M rs, rR m ad M S → bs h as S = some rs → ∃ res, bk h (J h as) M = some res ∧ simR o f J m ad M rs res) : ∀ n h as S M q, rR m ad M S → sdrive bs n h as S = some q → ∃ M1, drive bk n h (J h as) M = some (o q, M1) ∧ rR m ad M1 (f q) ∧ sm m ad M M1
  | 0, _, _, _, _, _, _, hd => by cases hd
  | n + 1, h, as, S, M, q, hR, hd => by
    unfold sdrive at hd
    cases hb : bs h as S with
    | none => rw [hb] at hd; cases hd
    | some rs =>
      rw [hb] at hd
      obtain ⟨res, h1, h2⟩ := hst h as S M rs hR hb
      unfold drive
      rw [h1]
      cases rs with
      | inl r =>
        cases hd
        obtain ⟨M1, rfl, h3, h4⟩ := h2
        exact ⟨M1, rfl, h3, h4⟩
      | inr r =>
        obtain ⟨M1, rfl, h3, h4⟩ := h2
        obtain ⟨M2, g1, g2, g3⟩ := sdrive_ok hst n r.1 r.2.1 r.2.2 M1 q h3 hd
        exact ⟨M2, g1, g2, h4.tr g3⟩
theorem s_go_ok {ρ : Type} {o : ρ → Option aV} {f : ρ → sT} {J : Nat → List aV → List aV} {m : Nat} {ad : Nat → Nat} {bs : Nat → List aV → sT → Option (sRes ρ)} {bk : Nat → List aV → hM → Option xRes} {xs : Option (sRes ρ)} {x : Option xRes} {M : hM} {q : ρ}
    (hst : ∀ h as S M rs, rR m ad M S → bs h as S = some rs → ∃ res, bk h (J h as) M = some res ∧ simR o f J m ad M rs res) (hx : ∀ rs, xs = some rs → ∃ res, x = some res ∧ simR o f J m ad M rs res) (h : s_go bs xs = some q) : ∃ M1, x_go bk x = some (o q, M1) ∧ rR m ad M1 (f q) ∧ sm m ad M M1 := by
  unfold s_go at h
  split at h
  · cases h
  · rename_i r
    cases h
    obtain ⟨res, rfl, M1, rfl, h3, h4⟩ := hx _ rfl
    exact ⟨M1, rfl, h3, h4⟩
  · rename_i r
    obtain ⟨res, rfl, M1, rfl, h3, h4⟩ := hx _ rfl
    obtain ⟨M2, g1, g2, g3⟩ := sdrive_ok hst xF _ _ _ M1 q h3 h
    exact ⟨M2, g1, g2, h4.tr g3⟩
theorem s_out_sim {ρ : Type} {o : ρ → Option aV} {f : ρ → sT} {J : Nat → List aV → List aV} {m : Nat} {ad : Nat → Nat} {xs : Option (sRes ρ)} {x : Option xRes} {M : hM} {q : ρ} (hx : ∀ rs, xs = some rs → ∃ res, x = some res ∧ simR o f J m ad M rs res) (h : s_out xs = some q) : ∃ M1, x_out x = some (o q, M1) ∧ rR m ad M1 (f q) ∧ sm m ad M M1 := by
  obtain ⟨res, rfl, M1, rfl, h3, h4⟩ := hx _ (s_out_ok h)
  exact ⟨M1, rfl, h3, h4⟩
def o_I (q : Int32 × sT) : Option aV := some (.inl q.1)
def o_L (q : Int64 × sT) : Option aV := some (.inr (.inl q.1))
def o_V (_ : sT) : Option aV := none
def f_2 {α : Type} (q : α × sT) : sT := q.2
def f_1 (q : sT) : sT := q
