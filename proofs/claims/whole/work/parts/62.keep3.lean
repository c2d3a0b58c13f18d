/-! ===== what a method of the reference leaves as it was ===== -/
def ks (F : List Nat) (S S' : sT) : Prop := ∀ k, k ∉ F → S'.1 k = S.1 k ∧ S'.2 k = S.2 k
theorem ks.rf {F : List Nat} {S : sT} : ks F S S := fun _ _ => ⟨rfl, rfl⟩
theorem ks.tt {F F1 : List Nat} {S S1 S2 : sT} (h : ks F S S1) (g : ks F1 S1 S2) (hF : ∀ x, x ∈ F1 → x ∈ F) : ks F S S2 := fun k hk => ⟨(g k (fun q => hk (hF k q))).1.trans (h k hk).1, (g k (fun q => hk (hF k q))).2.trans (h k hk).2⟩
theorem ks.tr {F F1 : List Nat} {S S1 S2 : sT} (h : ks F S S1) (g : ks F1 S1 S2) (hF : F1.all (fun x => F.contains x) = true) : ks F S S2 := h.tt g (all_in hF)
theorem k_su {S : sT} {k i : Nat} {v : Int32} : ks [k] S (s_u S k i v) := fun j hj => ⟨funext fun y => u2_nk (fun q => hj (by rw [q]; exact List.mem_singleton.mpr rfl)), rfl⟩
theorem k_sul {S : sT} {k i : Nat} {v : Int64} : ks [k] S (s_ul S k i v) := fun j hj => ⟨rfl, funext fun y => u2_nk (fun q => hj (by rw [q]; exact List.mem_singleton.mpr rfl))⟩
section KS
variable {S S1 : sT} {k : Nat} {i v : Int32}
theorem k_s_p (e : s_p S k v = some S1) : ks [k] S S1 := by cases e; exact k_su
theorem k_s_pz (e : s_pz S k v = some S1) : ks [k] S S1 := by
  unfold s_pz at e
  split at e
  · cases e; exact k_su
  · cases e
theorem k_s_s (e : s_s S k i v = some S1) : ks [k] S S1 := by
  unfold s_s at e
  split at e
  · cases e; exact k_su
  · cases e
theorem k_s_sb (e : s_sb S k i v = some S1) : ks [k] S S1 := by
  unfold s_sb at e
  split at e
  · cases e; exact k_su
  · cases e
theorem k_s_sz (e : s_sz S k i v = some S1) : ks [k] S S1 := by
  unfold s_sz at e
  split at e
  · cases e; exact k_su
  · cases e
theorem k_s_sl {w : Int64} (e : s_sl S k i w = some S1) : ks [k] S S1 := by
  unfold s_sl at e
  split at e
  · cases e; exact k_sul
  · cases e
end KS
def r_S {ρ : Type} (f : ρ → sT) (res : sRes ρ) : sT := match res with
  | .inl q => f q
  | .inr q => q.2.2
def f_0 (S : sT) : sT := S
theorem ksd_go {ρ : Type} {f : ρ → sT} {F : List Nat} {blk : Nat → List aV → sT → Option (sRes ρ)} (hs : ∀ h as S res, blk h as S = some res → ks F S (r_S f res)) : ∀ n h as S r, sdrive blk n h as S = some r → ks F S (f r)
  | 0, _, _, _, _, hd => by cases hd
  | n + 1, h, as, S, r, hd => by
    unfold sdrive at hd
    cases he : blk h as S with
    | none => rw [he] at hd; cases hd
    | some res =>
      rw [he] at hd
      have h1 := hs h as S res he
      cases res with
      | inl q => cases hd; exact h1
      | inr q => exact h1.tt (ksd_go hs n q.1 q.2.1 q.2.2 r hd) (fun _ q => q)
theorem ksx_go {ρ : Type} {f : ρ → sT} {F : List Nat} {blk : Nat → List aV → sT → Option (sRes ρ)} (hs : ∀ h as S res, blk h as S = some res → ks F S (r_S f res)) {x : Option (sRes ρ)} {S : sT} {r : ρ} (h : s_go blk x = some r) (hx : ∀ res, x = some res → ks F S (r_S f res)) : ks F S (f r) := by
  unfold s_go at h
  split at h
  · cases h
  · cases h; exact hx _ rfl
  · exact (hx _ rfl).tt (ksd_go hs _ _ _ _ _ h) (fun _ q => q)
theorem ksx_out {ρ : Type} {f : ρ → sT} {F : List Nat} {x : Option (sRes ρ)} {S : sT} {r : ρ} (h : s_out x = some r) (hx : ∀ res, x = some res → ks F S (r_S f res)) : ks F S (f r) := hx _ (s_out_ok h)
theorem kc165_0 {v1 v2 : _} {S : sT} {rs : (sRes (Int32 × sT))} (h : c165_0 v1 v2 S = some rs) : ks [] S (r_S Prod.snd rs) := by
  have kc : ks [] S S := ks.rf
  unfold c165_0 at h
  obtain ⟨v_1, -, h⟩ := bd h
  cases h
  exact kc
theorem ke165 {v1 v2 : _} {S : sT} {q : Int32 × sT} (h : e165 v1 v2 S = some q) : ks [] S q.2 := by
  unfold e165 at h
  exact ksx_out (f := Prod.snd) h (fun res hx => kc165_0 hx)
theorem kc166_0 {v1 v2 v3 : _} {S : sT} {rs : (sRes (Int32 × sT))} (h : c166_0 v1 v2 v3 S = some rs) : ks [] S (r_S Prod.snd rs) := by
  have kc : ks [] S S := ks.rf
  unfold c166_0 at h
  cases h
  exact kc
theorem kc166_6 {v1 v2 v3 v4 v5 : _} {S : sT} {rs : (sRes (Int32 × sT))} (h : c166_6 v1 v2 v3 v4 v5 S = some rs) : ks [] S (r_S Prod.snd rs) := by
  have kc : ks [] S S := ks.rf
  unfold c166_6 at h
  rcases ite_some h with ⟨-, h⟩ | ⟨-, h⟩
  · cases h
    exact kc
  · obtain ⟨q_1, h1, h⟩ := bd h
    have kc := kc.tr (ke165 h1) rfl
    cases h
    exact kc
theorem ke166 {v1 v2 v3 : _} {S : sT} {q : Int32 × sT} (h : e166 v1 v2 v3 S = some q) : ks [] S q.2 := by
  unfold e166 at h
  refine ksx_go (f := Prod.snd) (blk := kS166) ?_ h (fun res hx => kc166_0 hx)
  intro h as S res hk
  unfold kS166 at hk
  split at hk
  · split at hk
    · exact kc166_6 hk
    · cases hk
  · skip
    cases hk
theorem kc167_0 {v1 w2 v4 : _} {S : sT} {rs : (sRes sT)} (h : c167_0 v1 w2 v4 S = some rs) : ks [6, 7] S (r_S f_0 rs) := by
  have kc : ks [6, 7] S S := ks.rf
  unfold c167_0 at h
  cases h
  exact kc
theorem kc167_6 {v1 w2 v5 : _} {S : sT} {rs : (sRes sT)} (h : c167_6 v1 w2 v5 S = some rs) : ks [6, 7] S (r_S f_0 rs) := by
  have kc : ks [6, 7] S S := ks.rf
  unfold c167_6 at h
  rcases ite_some h with ⟨-, h⟩ | ⟨-, h⟩
  · cases h
    exact kc
  · obtain ⟨v_1, -, h⟩ := bd h
    obtain ⟨S3, h2, h⟩ := bd h
    have kc := kc.tr (k_s_sb h2) rfl
    obtain ⟨v_9, -, h⟩ := bd h
    obtain ⟨S11, h4, h⟩ := bd h
    have kc := kc.tr (k_s_s h4) rfl
    cases h
    exact kc
theorem ke167 {v1 w2 v4 : _} {S : sT} {q : sT} (h : e167 v1 w2 v4 S = some q) : ks [6, 7] S q := by
  unfold e167 at h
  refine ksx_go (f := f_0) (blk := kS167) ?_ h (fun res hx => kc167_0 hx)
  intro h as S res hk
  unfold kS167 at hk
  split at hk
  · split at hk
    · exact kc167_6 hk
    · cases hk
  · skip
    cases hk
theorem kc168_0 {v1 v2 v3 v4 v5 v6 : _} {S : sT} {rs : (sRes (Int32 × sT))} (h : c168_0 v1 v2 v3 v4 v5 v6 S = some rs) : ks [6, 7, 9] S (r_S Prod.snd rs) := by
  have kc : ks [6, 7, 9] S S := ks.rf
  unfold c168_0 at h
  obtain ⟨S1, h1, h⟩ := bd h
  have kc := kc.tr (k_s_p h1) rfl
  obtain ⟨v_7, -, h⟩ := bd h
  obtain ⟨S9, h3, h⟩ := bd h
  have kc := kc.tr (k_s_s h3) rfl
  obtain ⟨q_15, h4, h⟩ := bd h
  have kc := kc.tr (ke167 h4) rfl
  obtain ⟨q_21, h5, h⟩ := bd h
  have kc := kc.tr (ke167 h5) rfl
  obtain ⟨q_27, h6, h⟩ := bd h
  have kc := kc.tr (ke167 h6) rfl
  obtain ⟨q_33, h7, h⟩ := bd h
  have kc := kc.tr (ke167 h7) rfl
  obtain ⟨q_39, h8, h⟩ := bd h
  have kc := kc.tr (ke167 h8) rfl
  obtain ⟨q_45, h9, h⟩ := bd h
  have kc := kc.tr (ke167 h9) rfl
  obtain ⟨q_51, h10, h⟩ := bd h
  have kc := kc.tr (ke167 h10) rfl
  cases h
  exact kc
theorem ke168 {v1 v2 v3 v4 v5 v6 : _} {S : sT} {q : Int32 × sT} (h : e168 v1 v2 v3 v4 v5 v6 S = some q) : ks [6, 7, 9] S q.2 := by
  unfold e168 at h
  exact ksx_out (f := Prod.snd) h (fun res hx => kc168_0 hx)
theorem kc169_0 {v1 v2 : _} {S : sT} {rs : (sRes (Int32 × sT))} (h : c169_0 v1 v2 S = some rs) : ks [] S (r_S Prod.snd rs) := by
  have kc : ks [] S S := ks.rf
  unfold c169_0 at h
  cases h
  exact kc
theorem kc169_5 {v1 v2 v3 v4 : _} {S : sT} {rs : (sRes (Int32 × sT))} (h : c169_5 v1 v2 v3 v4 S = some rs) : ks [] S (r_S Prod.snd rs) := by
  have kc : ks [] S S := ks.rf
  unfold c169_5 at h
  rcases ite_some h with ⟨-, h⟩ | ⟨-, h⟩
  · cases h
    exact kc
  · obtain ⟨q_1, h1, h⟩ := bd h
    have kc := kc.tr (ke165 h1) rfl
    cases h
    exact kc
theorem kc169_51 {v1 v2 v3 v4 v5 : _} {S : sT} {rs : (sRes (Int32 × sT))} (h : c169_51 v1 v2 v3 v4 v5 S = some rs) : ks [] S (r_S Prod.snd rs) := by
  have kc : ks [] S S := ks.rf
  unfold c169_51 at h
  cases h
  exact kc
theorem kc169_24 {v1 v2 v3 v4 v5 : _} {S : sT} {rs : (sRes (Int32 × sT))} (h : c169_24 v1 v2 v3 v4 v5 S = some rs) : ks [] S (r_S Prod.snd rs) := by
  have kc : ks [] S S := ks.rf
  unfold c169_24 at h
  rcases ite_some h with ⟨-, h⟩ | ⟨-, h⟩
  · cases h
    exact kc
  · rcases ite_some h with ⟨-, h⟩ | ⟨-, h⟩
    · exact kc.tt (kc169_51 h) (fun _ q => q)
    · exact kc.tt (kc169_51 h) (fun _ q => q)
theorem ke169 {v1 v2 : _} {S : sT} {q : Int32 × sT} (h : e169 v1 v2 S = some q) : ks [] S q.2 := by
  unfold e169 at h
  refine ksx_go (f := Prod.snd) (blk := kS169) ?_ h (fun res hx => kc169_0 hx)
  intro h as S res hk
  unfold kS169 at hk
  split at hk
  · split at hk
    · exact kc169_5 hk
    · cases hk
  · skip
    split at hk
    · split at hk
      · exact kc169_24 hk
      · cases hk
    · skip
      cases hk
theorem kc170_0 {v1 : _} {S : sT} {rs : (sRes sT)} (h : c170_0 v1 S = some rs) : ks [6, 7] S (r_S f_0 rs) := by
  have kc : ks [6, 7] S S := ks.rf
  unfold c170_0 at h
  obtain ⟨v_1, -, h⟩ := bd h
  obtain ⟨S3, h2, h⟩ := bd h
  have kc := kc.tr (k_s_sb h2) rfl
  obtain ⟨v_9, -, h⟩ := bd h
  obtain ⟨q_11, h4, h⟩ := bd h
  have kc := kc.tr (ke169 h4) rfl
  obtain ⟨q_17, h5, h⟩ := bd h
  have kc := kc.tr (ke167 h5) rfl
  cases h
  exact kc
theorem ke170 {v1 : _} {S : sT} {q : sT} (h : e170 v1 S = some q) : ks [6, 7] S q := by
  unfold e170 at h
  exact ksx_out (f := f_0) h (fun res hx => kc170_0 hx)
theorem kc171_0 {v1 : _} {S : sT} {rs : (sRes sT)} (h : c171_0 v1 S = some rs) : ks [8, 9] S (r_S f_0 rs) := by
  have kc : ks [8, 9] S S := ks.rf
  unfold c171_0 at h
  obtain ⟨S1, h1, h⟩ := bd h
  have kc := kc.tr (k_s_s h1) rfl
  obtain ⟨S7, h2, h⟩ := bd h
  have kc := kc.tr (k_s_p h2) rfl
  cases h
  exact kc
theorem ke171 {v1 : _} {S : sT} {q : sT} (h : e171 v1 S = some q) : ks [8, 9] S q := by
  unfold e171 at h
  exact ksx_out (f := f_0) h (fun res hx => kc171_0 hx)
theorem kc172_99 {v1 v3 v4 si0 : _} {S : sT} {rs : (sRes (Int32 × sT))} (h : c172_99 v1 v3 v4 si0 S = some rs) : ks [] S (r_S Prod.snd rs) := by
  have kc : ks [] S S := ks.rf
  unfold c172_99 at h
  cases h
  exact kc
theorem kc172_98 {v1 v3 v4 : _} {S : sT} {rs : (sRes (Int32 × sT))} (h : c172_98 v1 v3 v4 S = some rs) : ks [] S (r_S Prod.snd rs) := by
  have kc : ks [] S S := ks.rf
  unfold c172_98 at h
  exact kc.tt (kc172_99 h) (fun _ q => q)
theorem kc172_0 {v1 v2 : _} {S : sT} {rs : (sRes (Int32 × sT))} (h : c172_0 v1 v2 S = some rs) : ks [] S (r_S Prod.snd rs) := by
  have kc : ks [] S S := ks.rf
  unfold c172_0 at h
  rcases ite_some h with ⟨-, h⟩ | ⟨-, h⟩
  · obtain ⟨q_1, h1, h⟩ := bd h
    have kc := kc.tr (ke165 h1) rfl
    rcases ite_some h with ⟨-, h⟩ | ⟨-, h⟩
    · obtain ⟨q_7, h2, h⟩ := bd h
      have kc := kc.tr (ke165 h2) rfl
      rcases ite_some h with ⟨-, h⟩ | ⟨-, h⟩
      · obtain ⟨q_13, h3, h⟩ := bd h
        have kc := kc.tr (ke165 h3) rfl
        obtain ⟨q_19, h4, h⟩ := bd h
        have kc := kc.tr (ke165 h4) rfl
        rcases ite_some h with ⟨-, h⟩ | ⟨-, h⟩
        · exact kc.tt (kc172_98 h) (fun _ q => q)
        · rcases ite_some h with ⟨-, h⟩ | ⟨-, h⟩
          · exact kc.tt (kc172_98 h) (fun _ q => q)
          · rcases ite_some h with ⟨-, h⟩ | ⟨-, h⟩
            · exact kc.tt (kc172_98 h) (fun _ q => q)
            · exact kc.tt (kc172_99 h) (fun _ q => q)
      · cases h
        exact kc
    · cases h
      exact kc
  · cases h
    exact kc
theorem kc172_199 {v1 v3 v4 v8 v9 si0 : _} {S : sT} {rs : (sRes (Int32 × sT))} (h : c172_199 v1 v3 v4 v8 v9 si0 S = some rs) : ks [] S (r_S Prod.snd rs) := by
  have kc : ks [] S S := ks.rf
  unfold c172_199 at h
  obtain ⟨q_68, h1, h⟩ := bd h
  have kc := kc.tr (ke165 h1) rfl
  cases h
  exact kc
theorem kc172_198 {v1 v3 v4 v8 v9 : _} {S : sT} {rs : (sRes (Int32 × sT))} (h : c172_198 v1 v3 v4 v8 v9 S = some rs) : ks [] S (r_S Prod.snd rs) := by
  have kc : ks [] S S := ks.rf
  unfold c172_198 at h
  exact kc.tt (kc172_199 h) (fun _ q => q)
theorem kc172_107 {v1 v3 v4 v6 v7 v8 : _} {S : sT} {rs : (sRes (Int32 × sT))} (h : c172_107 v1 v3 v4 v6 v7 v8 S = some rs) : ks [] S (r_S Prod.snd rs) := by
  have kc : ks [] S S := ks.rf
  unfold c172_107 at h
  rcases ite_some h with ⟨-, h⟩ | ⟨-, h⟩
  · cases h
    exact kc
  · rcases ite_some h with ⟨-, h⟩ | ⟨-, h⟩
    · exact kc.tt (kc172_198 h) (fun _ q => q)
    · obtain ⟨q_31, h1, h⟩ := bd h
      have kc := kc.tr (ke165 h1) rfl
      rcases ite_some h with ⟨-, h⟩ | ⟨-, h⟩
      · exact kc.tt (kc172_198 h) (fun _ q => q)
      · obtain ⟨q_37, h2, h⟩ := bd h
        have kc := kc.tr (ke165 h2) rfl
        rcases ite_some h with ⟨-, h⟩ | ⟨-, h⟩
        · exact kc.tt (kc172_198 h) (fun _ q => q)
        · obtain ⟨q_43, h3, h⟩ := bd h
          have kc := kc.tr (ke165 h3) rfl
          rcases ite_some h with ⟨-, h⟩ | ⟨-, h⟩
          · exact kc.tt (kc172_198 h) (fun _ q => q)
          · obtain ⟨q_49, h4, h⟩ := bd h
            have kc := kc.tr (ke165 h4) rfl
            rcases ite_some h with ⟨-, h⟩ | ⟨-, h⟩
            · exact kc.tt (kc172_198 h) (fun _ q => q)
            · obtain ⟨q_55, h5, h⟩ := bd h
              have kc := kc.tr (ke165 h5) rfl
              rcases ite_some h with ⟨-, h⟩ | ⟨-, h⟩
              · exact kc.tt (kc172_198 h) (fun _ q => q)
              · exact kc.tt (kc172_199 h) (fun _ q => q)
theorem kc172_333 {v1 v3 v4 v6 v8 v9 v10 : _} {S : sT} {rs : (sRes (Int32 × sT))} (h : c172_333 v1 v3 v4 v6 v8 v9 v10 S = some rs) : ks [] S (r_S Prod.snd rs) := by
  have kc : ks [] S S := ks.rf
  unfold c172_333 at h
  obtain ⟨q_112, h1, h⟩ := bd h
  have kc := kc.tr (ke165 h1) rfl
  cases h
  exact kc
theorem kc172_312 {v1 v3 v4 v8 v9 v10 si0 : _} {S : sT} {rs : (sRes (Int32 × sT))} (h : c172_312 v1 v3 v4 v8 v9 v10 si0 S = some rs) : ks [] S (r_S Prod.snd rs) := by
  have kc : ks [] S S := ks.rf
  unfold c172_312 at h
  rcases ite_some h with ⟨-, h⟩ | ⟨-, h⟩
  · exact kc.tt (kc172_333 h) (fun _ q => q)
  · obtain ⟨q_105, h1, h⟩ := bd h
    have kc := kc.tr (ke165 h1) rfl
    exact kc.tt (kc172_333 h) (fun _ q => q)
theorem kc172_311 {v1 v3 v4 v8 v9 v10 : _} {S : sT} {rs : (sRes (Int32 × sT))} (h : c172_311 v1 v3 v4 v8 v9 v10 S = some rs) : ks [] S (r_S Prod.snd rs) := by
  have kc : ks [] S S := ks.rf
  unfold c172_311 at h
  exact kc.tt (kc172_312 h) (fun _ q => q)
theorem kc172_225 {v1 v3 v4 v6 v7 v8 v9 : _} {S : sT} {rs : (sRes (Int32 × sT))} (h : c172_225 v1 v3 v4 v6 v7 v8 v9 S = some rs) : ks [] S (r_S Prod.snd rs) := by
  have kc : ks [] S S := ks.rf
  unfold c172_225 at h
  rcases ite_some h with ⟨-, h⟩ | ⟨-, h⟩
  · rcases ite_some h with ⟨-, h⟩ | ⟨-, h⟩
    · cases h
      exact kc
    · cases h
  · rcases ite_some h with ⟨-, h⟩ | ⟨-, h⟩
    · exact kc.tt (kc172_311 h) (fun _ q => q)
    · obtain ⟨q_75, h1, h⟩ := bd h
      have kc := kc.tr (ke165 h1) rfl
      rcases ite_some h with ⟨-, h⟩ | ⟨-, h⟩
      · exact kc.tt (kc172_311 h) (fun _ q => q)
      · obtain ⟨q_81, h2, h⟩ := bd h
        have kc := kc.tr (ke165 h2) rfl
        rcases ite_some h with ⟨-, h⟩ | ⟨-, h⟩
        · obtain ⟨q_87, h3, h⟩ := bd h
          have kc := kc.tr (ke165 h3) rfl
          rcases ite_some h with ⟨-, h⟩ | ⟨-, h⟩
          · exact kc.tt (kc172_311 h) (fun _ q => q)
          · obtain ⟨q_93, h4, h⟩ := bd h
            have kc := kc.tr (ke165 h4) rfl
            rcases ite_some h with ⟨-, h⟩ | ⟨-, h⟩
            · exact kc.tt (kc172_311 h) (fun _ q => q)
            · exact kc.tt (kc172_312 h) (fun _ q => q)
        · exact kc.tt (kc172_311 h) (fun _ q => q)
theorem ke172 {v1 v2 : _} {S : sT} {q : Int32 × sT} (h : e172 v1 v2 S = some q) : ks [] S q.2 := by
  unfold e172 at h
  refine ksx_go (f := Prod.snd) (blk := kS172) ?_ h (fun res hx => kc172_0 hx)
  intro h as S res hk
  unfold kS172 at hk
  split at hk
  · split at hk
    · exact kc172_107 hk
    · cases hk
  · skip
    split at hk
    · split at hk
      · exact kc172_225 hk
      · cases hk
    · skip
      cases hk
theorem kc173_94 {si0 : _} {S : sT} {rs : (sRes (Int32 × sT))} (h : c173_94 si0 S = some rs) : ks [] S (r_S Prod.snd rs) := by
  have kc : ks [] S S := ks.rf
  unfold c173_94 at h
  rcases ite_some h with ⟨-, h⟩ | ⟨-, h⟩
  · cases h
    exact kc
  · cases h
theorem kc173_93 {S : sT} {rs : (sRes (Int32 × sT))} (h : c173_93  S = some rs) : ks [] S (r_S Prod.snd rs) := by
  have kc : ks [] S S := ks.rf
  unfold c173_93 at h
  exact kc.tt (kc173_94 h) (fun _ q => q)
theorem kc173_120 {si0 : _} {S : sT} {rs : (sRes (Int32 × sT))} (h : c173_120 si0 S = some rs) : ks [] S (r_S Prod.snd rs) := by
  have kc : ks [] S S := ks.rf
  unfold c173_120 at h
  rcases ite_some h with ⟨-, h⟩ | ⟨-, h⟩
  · cases h
    exact kc
  · cases h
theorem kc173_119 {S : sT} {rs : (sRes (Int32 × sT))} (h : c173_119  S = some rs) : ks [] S (r_S Prod.snd rs) := by
  have kc : ks [] S S := ks.rf
  unfold c173_119 at h
  exact kc.tt (kc173_120 h) (fun _ q => q)
theorem kc173_163 {si0 : _} {S : sT} {rs : (sRes (Int32 × sT))} (h : c173_163 si0 S = some rs) : ks [] S (r_S Prod.snd rs) := by
  have kc : ks [] S S := ks.rf
  unfold c173_163 at h
  rcases ite_some h with ⟨-, h⟩ | ⟨-, h⟩
  · cases h
    exact kc
  · cases h
theorem kc173_158 {S : sT} {rs : (sRes (Int32 × sT))} (h : c173_158  S = some rs) : ks [] S (r_S Prod.snd rs) := by
  have kc : ks [] S S := ks.rf
  unfold c173_158 at h
  exact kc.tt (kc173_163 h) (fun _ q => q)
theorem kc173_162 {S : sT} {rs : (sRes (Int32 × sT))} (h : c173_162  S = some rs) : ks [] S (r_S Prod.snd rs) := by
  have kc : ks [] S S := ks.rf
  unfold c173_162 at h
  exact kc.tt (kc173_163 h) (fun _ q => q)
theorem kc173_185 {si0 : _} {S : sT} {rs : (sRes (Int32 × sT))} (h : c173_185 si0 S = some rs) : ks [] S (r_S Prod.snd rs) := by
  have kc : ks [] S S := ks.rf
  unfold c173_185 at h
  rcases ite_some h with ⟨-, h⟩ | ⟨-, h⟩
  · cases h
    exact kc
  · cases h
theorem kc173_184 {S : sT} {rs : (sRes (Int32 × sT))} (h : c173_184  S = some rs) : ks [] S (r_S Prod.snd rs) := by
  have kc : ks [] S S := ks.rf
  unfold c173_184 at h
  exact kc.tt (kc173_185 h) (fun _ q => q)
theorem kc173_196 {si0 : _} {S : sT} {rs : (sRes (Int32 × sT))} (h : c173_196 si0 S = some rs) : ks [] S (r_S Prod.snd rs) := by
  have kc : ks [] S S := ks.rf
  unfold c173_196 at h
  rcases ite_some h with ⟨-, h⟩ | ⟨-, h⟩
  · cases h
    exact kc
  · cases h
theorem kc173_208 {si0 : _} {S : sT} {rs : (sRes (Int32 × sT))} (h : c173_208 si0 S = some rs) : ks [] S (r_S Prod.snd rs) := by
  have kc : ks [] S S := ks.rf
  unfold c173_208 at h
  rcases ite_some h with ⟨-, h⟩ | ⟨-, h⟩
  · cases h
    exact kc
  · cases h
theorem kc173_224 {si0 : _} {S : sT} {rs : (sRes (Int32 × sT))} (h : c173_224 si0 S = some rs) : ks [] S (r_S Prod.snd rs) := by
  have kc : ks [] S S := ks.rf
  unfold c173_224 at h
  rcases ite_some h with ⟨-, h⟩ | ⟨-, h⟩
  · cases h
    exact kc
  · cases h
theorem kc173_223 {S : sT} {rs : (sRes (Int32 × sT))} (h : c173_223  S = some rs) : ks [] S (r_S Prod.snd rs) := by
  have kc : ks [] S S := ks.rf
  unfold c173_223 at h
  exact kc.tt (kc173_224 h) (fun _ q => q)
theorem kc173_0 {v1 v2 : _} {S : sT} {rs : (sRes (Int32 × sT))} (h : c173_0 v1 v2 S = some rs) : ks [] S (r_S Prod.snd rs) := by
  have kc : ks [] S S := ks.rf
  unfold c173_0 at h
  obtain ⟨q_1, h1, h⟩ := bd h
  have kc := kc.tr (ke165 h1) rfl
  obtain ⟨q_7, h2, h⟩ := bd h
  have kc := kc.tr (ke165 h2) rfl
  rcases ite_some h with ⟨-, h⟩ | ⟨-, h⟩
  · rcases ite_some h with ⟨-, h⟩ | ⟨-, h⟩
    · rcases ite_some h with ⟨-, h⟩ | ⟨-, h⟩
      · exact kc.tt (kc173_93 h) (fun _ q => q)
      · exact kc.tt (kc173_94 h) (fun _ q => q)
    · exact kc.tt (kc173_93 h) (fun _ q => q)
  · rcases ite_some h with ⟨-, h⟩ | ⟨-, h⟩
    · obtain ⟨q_15, h3, h⟩ := bd h
      have kc := kc.tr (ke172 h3) rfl
      rcases ite_some h with ⟨-, h⟩ | ⟨-, h⟩
      · cases h
        exact kc
      · cases h
    · rcases ite_some h with ⟨-, h⟩ | ⟨-, h⟩
      · rcases ite_some h with ⟨-, h⟩ | ⟨-, h⟩
        · rcases ite_some h with ⟨-, h⟩ | ⟨-, h⟩
          · exact kc.tt (kc173_119 h) (fun _ q => q)
          · exact kc.tt (kc173_120 h) (fun _ q => q)
        · exact kc.tt (kc173_119 h) (fun _ q => q)
      · rcases ite_some h with ⟨-, h⟩ | ⟨-, h⟩
        · cases h
          exact kc
        · rcases ite_some h with ⟨-, h⟩ | ⟨-, h⟩
          · rcases ite_some h with ⟨-, h⟩ | ⟨-, h⟩
            · rcases ite_some h with ⟨-, h⟩ | ⟨-, h⟩
              · exact kc.tt (kc173_119 h) (fun _ q => q)
              · exact kc.tt (kc173_120 h) (fun _ q => q)
            · exact kc.tt (kc173_119 h) (fun _ q => q)
          · rcases ite_some h with ⟨-, h⟩ | ⟨-, h⟩
            · rcases ite_some h with ⟨-, h⟩ | ⟨-, h⟩
              · rcases ite_some h with ⟨-, h⟩ | ⟨-, h⟩
                · exact kc.tt (kc173_162 h) (fun _ q => q)
                · obtain ⟨q_26, h4, h⟩ := bd h
                  have kc := kc.tr (ke166 h4) rfl
                  rcases ite_some h with ⟨-, h⟩ | ⟨-, h⟩
                  · exact kc.tt (kc173_158 h) (fun _ q => q)
                  · obtain ⟨q_32, h5, h⟩ := bd h
                    have kc := kc.tr (ke165 h5) rfl
                    rcases ite_some h with ⟨-, h⟩ | ⟨-, h⟩
                    · exact kc.tt (kc173_158 h) (fun _ q => q)
                    · exact kc.tt (kc173_162 h) (fun _ q => q)
              · exact kc.tt (kc173_162 h) (fun _ q => q)
            · rcases ite_some h with ⟨-, h⟩ | ⟨-, h⟩
              · rcases ite_some h with ⟨-, h⟩ | ⟨-, h⟩
                · rcases ite_some h with ⟨-, h⟩ | ⟨-, h⟩
                  · exact kc.tt (kc173_119 h) (fun _ q => q)
                  · exact kc.tt (kc173_120 h) (fun _ q => q)
                · exact kc.tt (kc173_119 h) (fun _ q => q)
              · rcases ite_some h with ⟨-, h⟩ | ⟨-, h⟩
                · cases h
                  exact kc
                · rcases ite_some h with ⟨-, h⟩ | ⟨-, h⟩
                  · rcases ite_some h with ⟨-, h⟩ | ⟨-, h⟩
                    · obtain ⟨q_44, h6, h⟩ := bd h
                      have kc := kc.tr (ke165 h6) rfl
                      rcases ite_some h with ⟨-, h⟩ | ⟨-, h⟩
                      · exact kc.tt (kc173_184 h) (fun _ q => q)
                      · exact kc.tt (kc173_185 h) (fun _ q => q)
                    · exact kc.tt (kc173_184 h) (fun _ q => q)
                  · rcases ite_some h with ⟨-, h⟩ | ⟨-, h⟩
                    · rcases ite_some h with ⟨-, h⟩ | ⟨-, h⟩
                      · exact kc.tt (kc173_196 h) (fun _ q => q)
                      · exact kc.tt (kc173_196 h) (fun _ q => q)
                    · rcases ite_some h with ⟨-, h⟩ | ⟨-, h⟩
                      · rcases ite_some h with ⟨-, h⟩ | ⟨-, h⟩
                        · exact kc.tt (kc173_208 h) (fun _ q => q)
                        · exact kc.tt (kc173_208 h) (fun _ q => q)
                      · rcases ite_some h with ⟨-, h⟩ | ⟨-, h⟩
                        · rcases ite_some h with ⟨-, h⟩ | ⟨-, h⟩
                          · rcases ite_some h with ⟨-, h⟩ | ⟨-, h⟩
                            · exact kc.tt (kc173_223 h) (fun _ q => q)
                            · exact kc.tt (kc173_224 h) (fun _ q => q)
                          · exact kc.tt (kc173_223 h) (fun _ q => q)
                        · cases h
                          exact kc
theorem ke173 {v1 v2 : _} {S : sT} {q : Int32 × sT} (h : e173 v1 v2 S = some q) : ks [] S q.2 := by
  unfold e173 at h
  exact ksx_out (f := Prod.snd) h (fun res hx => kc173_0 hx)
theorem kc174_65 {si0 : _} {S : sT} {rs : (sRes (Int32 × sT))} (h : c174_65 si0 S = some rs) : ks [] S (r_S Prod.snd rs) := by
  have kc : ks [] S S := ks.rf
  unfold c174_65 at h
  rcases ite_some h with ⟨-, h⟩ | ⟨-, h⟩
  · cases h
    exact kc
  · cases h
theorem kc174_64 {S : sT} {rs : (sRes (Int32 × sT))} (h : c174_64  S = some rs) : ks [] S (r_S Prod.snd rs) := by
  have kc : ks [] S S := ks.rf
  unfold c174_64 at h
  exact kc.tt (kc174_65 h) (fun _ q => q)
theorem kc174_0 {v1 : _} {S : sT} {rs : (sRes (Int32 × sT))} (h : c174_0 v1 S = some rs) : ks [] S (r_S Prod.snd rs) := by
  have kc : ks [] S S := ks.rf
  unfold c174_0 at h
  obtain ⟨v_1, -, h⟩ := bd h
  obtain ⟨v_3, -, h⟩ := bd h
  obtain ⟨q_5, h3, h⟩ := bd h
  have kc := kc.tr (ke166 h3) rfl
  obtain ⟨v_11, -, h⟩ := bd h
  obtain ⟨q_13, h5, h⟩ := bd h
  have kc := kc.tr (ke169 h5) rfl
  rcases ite_some h with ⟨-, h⟩ | ⟨-, h⟩
  · obtain ⟨q_19, h6, h⟩ := bd h
    have kc := kc.tr (ke165 h6) rfl
    rcases ite_some h with ⟨-, h⟩ | ⟨-, h⟩
    · obtain ⟨q_25, h7, h⟩ := bd h
      have kc := kc.tr (ke173 h7) rfl
      rcases ite_some h with ⟨-, h⟩ | ⟨-, h⟩
      · exact kc.tt (kc174_64 h) (fun _ q => q)
      · exact kc.tt (kc174_65 h) (fun _ q => q)
    · exact kc.tt (kc174_64 h) (fun _ q => q)
  · exact kc.tt (kc174_64 h) (fun _ q => q)
theorem ke174 {v1 : _} {S : sT} {q : Int32 × sT} (h : e174 v1 S = some q) : ks [] S q.2 := by
  unfold e174 at h
  exact ksx_out (f := Prod.snd) h (fun res hx => kc174_0 hx)
theorem kc175_0 {v1 v2 : _} {S : sT} {rs : (sRes (Int32 × sT))} (h : c175_0 v1 v2 S = some rs) : ks [] S (r_S Prod.snd rs) := by
  have kc : ks [] S S := ks.rf
  unfold c175_0 at h
  cases h
  exact kc
theorem ke175 {v1 v2 : _} {S : sT} {q : Int32 × sT} (h : e175 v1 v2 S = some q) : ks [] S q.2 := by
  unfold e175 at h
  exact ksx_out (f := Prod.snd) h (fun res hx => kc175_0 hx)
theorem kc176_0 {v1 : _} {S : sT} {rs : (sRes (Int32 × sT))} (h : c176_0 v1 S = some rs) : ks [] S (r_S Prod.snd rs) := by
  have kc : ks [] S S := ks.rf
  unfold c176_0 at h
  cases h
  exact kc
theorem ke176 {v1 : _} {S : sT} {q : Int32 × sT} (h : e176 v1 S = some q) : ks [] S q.2 := by
  unfold e176 at h
  exact ksx_out (f := Prod.snd) h (fun res hx => kc176_0 hx)
theorem kc177_29 {si0 : _} {S : sT} {rs : (sRes (Int32 × sT))} (h : c177_29 si0 S = some rs) : ks [] S (r_S Prod.snd rs) := by
  have kc : ks [] S S := ks.rf
  unfold c177_29 at h
  rcases ite_some h with ⟨-, h⟩ | ⟨-, h⟩
  · cases h
    exact kc
  · cases h
theorem kc177_28 {S : sT} {rs : (sRes (Int32 × sT))} (h : c177_28  S = some rs) : ks [] S (r_S Prod.snd rs) := by
  have kc : ks [] S S := ks.rf
  unfold c177_28 at h
  exact kc.tt (kc177_29 h) (fun _ q => q)
theorem kc177_0 {v1 : _} {S : sT} {rs : (sRes (Int32 × sT))} (h : c177_0 v1 S = some rs) : ks [] S (r_S Prod.snd rs) := by
  have kc : ks [] S S := ks.rf
  unfold c177_0 at h
  obtain ⟨v_1, -, h⟩ := bd h
  rcases ite_some h with ⟨-, h⟩ | ⟨-, h⟩
  · exact kc.tt (kc177_28 h) (fun _ q => q)
  · obtain ⟨v_3, -, h⟩ := bd h
    obtain ⟨v_5, -, h⟩ := bd h
    rcases ite_some h with ⟨-, h⟩ | ⟨-, h⟩
    · exact kc.tt (kc177_28 h) (fun _ q => q)
    · exact kc.tt (kc177_29 h) (fun _ q => q)
theorem ke177 {v1 : _} {S : sT} {q : Int32 × sT} (h : e177 v1 S = some q) : ks [] S q.2 := by
  unfold e177 at h
  exact ksx_out (f := Prod.snd) h (fun res hx => kc177_0 hx)
theorem kc178_40 {si0 : _} {S : sT} {rs : (sRes (Int32 × sT))} (h : c178_40 si0 S = some rs) : ks [] S (r_S Prod.snd rs) := by
  have kc : ks [] S S := ks.rf
  unfold c178_40 at h
  cases h
  exact kc
theorem kc178_0 {v1 : _} {S : sT} {rs : (sRes (Int32 × sT))} (h : c178_0 v1 S = some rs) : ks [] S (r_S Prod.snd rs) := by
  have kc : ks [] S S := ks.rf
  unfold c178_0 at h
  obtain ⟨v_1, -, h⟩ := bd h
  obtain ⟨v_3, -, h⟩ := bd h
  rcases ite_some h with ⟨-, h⟩ | ⟨-, h⟩
  · obtain ⟨v_7, -, h⟩ := bd h
    exact kc.tt (kc178_40 h) (fun _ q => q)
  · obtain ⟨v_5, -, h⟩ := bd h
    exact kc.tt (kc178_40 h) (fun _ q => q)
theorem ke178 {v1 : _} {S : sT} {q : Int32 × sT} (h : e178 v1 S = some q) : ks [] S q.2 := by
  unfold e178 at h
  exact ksx_out (f := Prod.snd) h (fun res hx => kc178_0 hx)
theorem kc179_32 {si0 : _} {S : sT} {rs : (sRes (Int32 × sT))} (h : c179_32 si0 S = some rs) : ks [] S (r_S Prod.snd rs) := by
  have kc : ks [] S S := ks.rf
  unfold c179_32 at h
  cases h
  exact kc
theorem kc179_31 {S : sT} {rs : (sRes (Int32 × sT))} (h : c179_31  S = some rs) : ks [] S (r_S Prod.snd rs) := by
  have kc : ks [] S S := ks.rf
  unfold c179_31 at h
  exact kc.tt (kc179_32 h) (fun _ q => q)
theorem kc179_0 {v1 : _} {S : sT} {rs : (sRes (Int32 × sT))} (h : c179_0 v1 S = some rs) : ks [] S (r_S Prod.snd rs) := by
  have kc : ks [] S S := ks.rf
  unfold c179_0 at h
  obtain ⟨v_1, -, h⟩ := bd h
  rcases ite_some h with ⟨-, h⟩ | ⟨-, h⟩
  · exact kc.tt (kc179_31 h) (fun _ q => q)
  · obtain ⟨q_3, h2, h⟩ := bd h
    have kc := kc.tr (ke178 h2) rfl
    rcases ite_some h with ⟨-, h⟩ | ⟨-, h⟩
    · exact kc.tt (kc179_31 h) (fun _ q => q)
    · obtain ⟨q_9, h3, h⟩ := bd h
      have kc := kc.tr (ke178 h3) rfl
      exact kc.tt (kc179_32 h) (fun _ q => q)
theorem ke179 {v1 : _} {S : sT} {q : Int32 × sT} (h : e179 v1 S = some q) : ks [] S q.2 := by
  unfold e179 at h
  exact ksx_out (f := Prod.snd) h (fun res hx => kc179_0 hx)
theorem kc180_35 {v2 si0 si1 : _} {S : sT} {rs : (sRes (Int32 × sT))} (h : c180_35 v2 si0 si1 S = some rs) : ks [] S (r_S Prod.snd rs) := by
  have kc : ks [] S S := ks.rf
  unfold c180_35 at h
  obtain ⟨v_17, -, h⟩ := bd h
  obtain ⟨v_19, -, h⟩ := bd h
  cases h
  exact kc
theorem kc180_0 {v1 : _} {S : sT} {rs : (sRes (Int32 × sT))} (h : c180_0 v1 S = some rs) : ks [] S (r_S Prod.snd rs) := by
  have kc : ks [] S S := ks.rf
  unfold c180_0 at h
  obtain ⟨q_1, h1, h⟩ := bd h
  have kc := kc.tr (ke177 h1) rfl
  rcases ite_some h with ⟨-, h⟩ | ⟨-, h⟩
  · cases h
    exact kc
  · obtain ⟨q_7, h2, h⟩ := bd h
    have kc := kc.tr (ke178 h2) rfl
    obtain ⟨v_13, -, h⟩ := bd h
    rcases ite_some h with ⟨-, h⟩ | ⟨-, h⟩
    · exact kc.tt (kc180_35 h) (fun _ q => q)
    · exact kc.tt (kc180_35 h) (fun _ q => q)
theorem ke180 {v1 : _} {S : sT} {q : Int32 × sT} (h : e180 v1 S = some q) : ks [] S q.2 := by
  unfold e180 at h
  exact ksx_out (f := Prod.snd) h (fun res hx => kc180_0 hx)
theorem kc181_30 {si0 : _} {S : sT} {rs : (sRes (Int32 × sT))} (h : c181_30 si0 S = some rs) : ks [] S (r_S Prod.snd rs) := by
  have kc : ks [] S S := ks.rf
  unfold c181_30 at h
  rcases ite_some h with ⟨-, h⟩ | ⟨-, h⟩
  · cases h
    exact kc
  · cases h
theorem kc181_29 {S : sT} {rs : (sRes (Int32 × sT))} (h : c181_29  S = some rs) : ks [] S (r_S Prod.snd rs) := by
  have kc : ks [] S S := ks.rf
  unfold c181_29 at h
  exact kc.tt (kc181_30 h) (fun _ q => q)
theorem kc181_0 {v1 : _} {S : sT} {rs : (sRes (Int32 × sT))} (h : c181_0 v1 S = some rs) : ks [] S (r_S Prod.snd rs) := by
  have kc : ks [] S S := ks.rf
  unfold c181_0 at h
  obtain ⟨q_1, h1, h⟩ := bd h
  have kc := kc.tr (ke177 h1) rfl
  rcases ite_some h with ⟨-, h⟩ | ⟨-, h⟩
  · exact kc.tt (kc181_29 h) (fun _ q => q)
  · obtain ⟨v_7, -, h⟩ := bd h
    rcases ite_some h with ⟨-, h⟩ | ⟨-, h⟩
    · obtain ⟨q_9, h3, h⟩ := bd h
      have kc := kc.tr (ke180 h3) rfl
      rcases ite_some h with ⟨-, h⟩ | ⟨-, h⟩
      · exact kc.tt (kc181_29 h) (fun _ q => q)
      · exact kc.tt (kc181_30 h) (fun _ q => q)
    · exact kc.tt (kc181_29 h) (fun _ q => q)
theorem ke181 {v1 : _} {S : sT} {q : Int32 × sT} (h : e181 v1 S = some q) : ks [] S q.2 := by
  unfold e181 at h
  exact ksx_out (f := Prod.snd) h (fun res hx => kc181_0 hx)
theorem kc182_19 {v1 v2 : _} {S : sT} {rs : (sRes sT)} (h : c182_19 v1 v2 S = some rs) : ks [4, 5, 15, 22] S (r_S f_0 rs) := by
  have kc : ks [4, 5, 15, 22] S S := ks.rf
  unfold c182_19 at h
  obtain ⟨S16, h1, h⟩ := bd h
  have kc := kc.tr (k_s_s h1) rfl
  obtain ⟨S22, h2, h⟩ := bd h
  have kc := kc.tr (k_s_sz h2) rfl
  obtain ⟨v_28, -, h⟩ := bd h
  obtain ⟨S30, h4, h⟩ := bd h
  have kc := kc.tr (k_s_s h4) rfl
  cases h
  exact kc
theorem kc182_0 {v1 v2 : _} {S : sT} {rs : (sRes sT)} (h : c182_0 v1 v2 S = some rs) : ks [4, 5, 15, 22] S (r_S f_0 rs) := by
  have kc : ks [4, 5, 15, 22] S S := ks.rf
  unfold c182_0 at h
  obtain ⟨q_1, h1, h⟩ := bd h
  have kc := kc.tr (ke180 h1) rfl
  rcases ite_some h with ⟨-, h⟩ | ⟨-, h⟩
  · exact kc.tt (kc182_19 h) (fun _ q => q)
  · obtain ⟨v_7, -, h⟩ := bd h
    obtain ⟨S9, h3, h⟩ := bd h
    have kc := kc.tr (k_s_s h3) rfl
    exact kc.tt (kc182_19 h) (fun _ q => q)
theorem ke182 {v1 v2 : _} {S : sT} {q : sT} (h : e182 v1 v2 S = some q) : ks [4, 5, 15, 22] S q := by
  unfold e182 at h
  exact ksx_out (f := f_0) h (fun res hx => kc182_0 hx)
theorem kc183_77 {S : sT} {rs : (sRes sT)} (h : c183_77  S = some rs) : ks [4, 6, 7, 8, 9, 18, 19] S (r_S f_0 rs) := by
  have kc : ks [4, 6, 7, 8, 9, 18, 19] S S := ks.rf
  unfold c183_77 at h
  cases h
  exact kc
theorem kc183_0 {v1 v2 : _} {S : sT} {rs : (sRes sT)} (h : c183_0 v1 v2 S = some rs) : ks [4, 6, 7, 8, 9, 18, 19] S (r_S f_0 rs) := by
  have kc : ks [4, 6, 7, 8, 9, 18, 19] S S := ks.rf
  unfold c183_0 at h
  obtain ⟨q_1, h1, h⟩ := bd h
  have kc := kc.tr (ke170 h1) rfl
  obtain ⟨q_7, h2, h⟩ := bd h
  have kc := kc.tr (ke177 h2) rfl
  rcases ite_some h with ⟨-, h⟩ | ⟨-, h⟩
  · obtain ⟨q_46, h3, h⟩ := bd h
    have kc := kc.tr (ke171 h3) rfl
    exact kc.tt (kc183_77 h) (fun _ q => q)
  · obtain ⟨v_13, -, h⟩ := bd h
    rcases ite_some h with ⟨-, h⟩ | ⟨-, h⟩
    · obtain ⟨v_31, -, h⟩ := bd h
      obtain ⟨S33, h6, h⟩ := bd h
      have kc := kc.tr (k_s_s h6) rfl
      obtain ⟨q_39, h7, h⟩ := bd h
      have kc := kc.tr (ke171 h7) rfl
      exact kc.tt (kc183_77 h) (fun _ q => q)
    · obtain ⟨v_15, -, h⟩ := bd h
      obtain ⟨S17, h9, h⟩ := bd h
      have kc := kc.tr (k_s_s h9) rfl
      obtain ⟨v_23, -, h⟩ := bd h
      obtain ⟨S25, h11, h⟩ := bd h
      have kc := kc.tr (k_s_s h11) rfl
      exact kc.tt (kc183_77 h) (fun _ q => q)
theorem ke183 {v1 v2 : _} {S : sT} {q : sT} (h : e183 v1 v2 S = some q) : ks [4, 6, 7, 8, 9, 18, 19] S q := by
  unfold e183 at h
  exact ksx_out (f := f_0) h (fun res hx => kc183_0 hx)
theorem kc184_17 {S : sT} {rs : (sRes sT)} (h : c184_17  S = some rs) : ks [4, 5, 15, 18, 19, 22] S (r_S f_0 rs) := by
  have kc : ks [4, 5, 15, 18, 19, 22] S S := ks.rf
  unfold c184_17 at h
  cases h
  exact kc
theorem kc184_0 {v1 : _} {S : sT} {rs : (sRes sT)} (h : c184_0 v1 S = some rs) : ks [4, 5, 15, 18, 19, 22] S (r_S f_0 rs) := by
  have kc : ks [4, 5, 15, 18, 19, 22] S S := ks.rf
  unfold c184_0 at h
  obtain ⟨v_1, -, h⟩ := bd h
  rcases ite_some h with ⟨-, h⟩ | ⟨-, h⟩
  · exact kc.tt (kc184_17 h) (fun _ q => q)
  · obtain ⟨q_3, h2, h⟩ := bd h
    have kc := kc.tr (ke181 h2) rfl
    rcases ite_some h with ⟨-, h⟩ | ⟨-, h⟩
    · exact kc.tt (kc184_17 h) (fun _ q => q)
    · obtain ⟨v_9, -, h⟩ := bd h
      obtain ⟨q_11, h4, h⟩ := bd h
      have kc := kc.tr (ke182 h4) rfl
      obtain ⟨v_17, -, h⟩ := bd h
      obtain ⟨S19, h6, h⟩ := bd h
      have kc := kc.tr (k_s_s h6) rfl
      cases h
      exact kc
theorem kc184_44 {v1 v2 : _} {S : sT} {rs : (sRes sT)} (h : c184_44 v1 v2 S = some rs) : ks [4, 5, 15, 18, 19, 22] S (r_S f_0 rs) := by
  have kc : ks [4, 5, 15, 18, 19, 22] S S := ks.rf
  unfold c184_44 at h
  obtain ⟨v_27, -, h⟩ := bd h
  rcases ite_some h with ⟨-, h⟩ | ⟨-, h⟩
  · cases h
    exact kc
  · obtain ⟨v_29, -, h⟩ := bd h
    obtain ⟨S31, h3, h⟩ := bd h
    have kc := kc.tr (k_s_s h3) rfl
    cases h
    exact kc
theorem ke184 {v1 : _} {S : sT} {q : sT} (h : e184 v1 S = some q) : ks [4, 5, 15, 18, 19, 22] S q := by
  unfold e184 at h
  refine ksx_go (f := f_0) (blk := kS184) ?_ h (fun res hx => kc184_0 hx)
  intro h as S res hk
  unfold kS184 at hk
  split at hk
  · split at hk
    · exact kc184_44 hk
    · cases hk
  · skip
    cases hk
theorem kc185_0 {v1 : _} {S : sT} {rs : (sRes (Int32 × sT))} (h : c185_0 v1 S = some rs) : ks [16, 17, 20, 21] S (r_S Prod.snd rs) := by
  have kc : ks [16, 17, 20, 21] S S := ks.rf
  unfold c185_0 at h
  obtain ⟨v_1, -, h⟩ := bd h
  obtain ⟨v_3, -, h⟩ := bd h
  obtain ⟨S5, h3, h⟩ := bd h
  have kc := kc.tr (k_s_s h3) rfl
  cases h
  exact kc
theorem kc185_21 {v1 v2 v3 : _} {S : sT} {rs : (sRes (Int32 × sT))} (h : c185_21 v1 v2 v3 S = some rs) : ks [16, 17, 20, 21] S (r_S Prod.snd rs) := by
  have kc : ks [16, 17, 20, 21] S S := ks.rf
  unfold c185_21 at h
  obtain ⟨v_11, -, h⟩ := bd h
  rcases ite_some h with ⟨-, h⟩ | ⟨-, h⟩
  · obtain ⟨v_13, -, h⟩ := bd h
    obtain ⟨S15, h3, h⟩ := bd h
    have kc := kc.tr (k_s_s h3) rfl
    obtain ⟨S21, h4, h⟩ := bd h
    have kc := kc.tr (k_s_s h4) rfl
    cases h
    exact kc
  · obtain ⟨v_27, -, h⟩ := bd h
    obtain ⟨S29, h6, h⟩ := bd h
    have kc := kc.tr (k_s_s h6) rfl
    cases h
    exact kc
theorem ke185 {v1 : _} {S : sT} {q : Int32 × sT} (h : e185 v1 S = some q) : ks [16, 17, 20, 21] S q.2 := by
  unfold e185 at h
  refine ksx_go (f := Prod.snd) (blk := kS185) ?_ h (fun res hx => kc185_0 hx)
  intro h as S res hk
  unfold kS185 at hk
  split at hk
  · split at hk
    · exact kc185_21 hk
    · cases hk
  · skip
    cases hk
theorem kc186_0 {v1 : _} {S : sT} {rs : (sRes sT)} (h : c186_0 v1 S = some rs) : ks [39, 41, 46] S (r_S f_0 rs) := by
  have kc : ks [39, 41, 46] S S := ks.rf
  unfold c186_0 at h
  cases h
  exact kc
theorem kc186_2 {v1 v2 : _} {S : sT} {rs : (sRes sT)} (h : c186_2 v1 v2 S = some rs) : ks [39, 41, 46] S (r_S f_0 rs) := by
  have kc : ks [39, 41, 46] S S := ks.rf
  unfold c186_2 at h
  rcases ite_some h with ⟨-, h⟩ | ⟨-, h⟩
  · obtain ⟨S1, h1, h⟩ := bd h
    have kc := kc.tr (k_s_s h1) rfl
    obtain ⟨S7, h2, h⟩ := bd h
    have kc := kc.tr (k_s_s h2) rfl
    cases h
    exact kc
  · obtain ⟨S13, h3, h⟩ := bd h
    have kc := kc.tr (k_s_s h3) rfl
    cases h
    exact kc
theorem ke186 {v1 : _} {S : sT} {q : sT} (h : e186 v1 S = some q) : ks [39, 41, 46] S q := by
  unfold e186 at h
  refine ksx_go (f := f_0) (blk := kS186) ?_ h (fun res hx => kc186_0 hx)
  intro h as S res hk
  unfold kS186 at hk
  split at hk
  · split at hk
    · exact kc186_2 hk
    · cases hk
  · skip
    cases hk
theorem kc187_20 {v1 : _} {S : sT} {rs : (sRes sT)} (h : c187_20 v1 S = some rs) : ks [8, 9, 15, 17, 19, 20, 21, 23, 24, 25, 35, 36, 39, 41, 46] S (r_S f_0 rs) := by
  have kc : ks [8, 9, 15, 17, 19, 20, 21, 23, 24, 25, 35, 36, 39, 41, 46] S S := ks.rf
  unfold c187_20 at h
  obtain ⟨S12, h1, h⟩ := bd h
  have kc := kc.tr (k_s_s h1) rfl
  cases h
  exact kc
theorem kc187_0 {v1 : _} {S : sT} {rs : (sRes sT)} (h : c187_0 v1 S = some rs) : ks [8, 9, 15, 17, 19, 20, 21, 23, 24, 25, 35, 36, 39, 41, 46] S (r_S f_0 rs) := by
  have kc : ks [8, 9, 15, 17, 19, 20, 21, 23, 24, 25, 35, 36, 39, 41, 46] S S := ks.rf
  unfold c187_0 at h
  obtain ⟨v_1, -, h⟩ := bd h
  rcases ite_some h with ⟨-, h⟩ | ⟨-, h⟩
  · exact kc.tt (kc187_20 h) (fun _ q => q)
  · obtain ⟨v_3, -, h⟩ := bd h
    obtain ⟨q_5, h3, h⟩ := bd h
    have kc := kc.tr (ke171 h3) rfl
    exact kc.tt (kc187_20 h) (fun _ q => q)
theorem kc187_29 {v1 v2 : _} {S : sT} {rs : (sRes sT)} (h : c187_29 v1 v2 S = some rs) : ks [8, 9, 15, 17, 19, 20, 21, 23, 24, 25, 35, 36, 39, 41, 46] S (r_S f_0 rs) := by
  have kc : ks [8, 9, 15, 17, 19, 20, 21, 23, 24, 25, 35, 36, 39, 41, 46] S S := ks.rf
  unfold c187_29 at h
  obtain ⟨v_18, -, h⟩ := bd h
  rcases ite_some h with ⟨-, h⟩ | ⟨-, h⟩
  · cases h
    exact kc
  · obtain ⟨v_20, -, h⟩ := bd h
    obtain ⟨q_22, h3, h⟩ := bd h
    have kc := kc.tr (ke171 h3) rfl
    cases h
    exact kc
theorem kc187_61 {v1 v2 : _} {S : sT} {rs : (sRes sT)} (h : c187_61 v1 v2 S = some rs) : ks [8, 9, 15, 17, 19, 20, 21, 23, 24, 25, 35, 36, 39, 41, 46] S (r_S f_0 rs) := by
  have kc : ks [8, 9, 15, 17, 19, 20, 21, 23, 24, 25, 35, 36, 39, 41, 46] S S := ks.rf
  unfold c187_61 at h
  obtain ⟨v_29, -, h⟩ := bd h
  rcases ite_some h with ⟨-, h⟩ | ⟨-, h⟩
  · obtain ⟨S31, h2, h⟩ := bd h
    have kc := kc.tr (k_s_s h2) rfl
    obtain ⟨S37, h3, h⟩ := bd h
    have kc := kc.tr (k_s_s h3) rfl
    obtain ⟨S43, h4, h⟩ := bd h
    have kc := kc.tr (k_s_s h4) rfl
    obtain ⟨S49, h5, h⟩ := bd h
    have kc := kc.tr (k_s_s h5) rfl
    obtain ⟨S55, h6, h⟩ := bd h
    have kc := kc.tr (k_s_s h6) rfl
    obtain ⟨S61, h7, h⟩ := bd h
    have kc := kc.tr (k_s_s h7) rfl
    obtain ⟨S67, h8, h⟩ := bd h
    have kc := kc.tr (k_s_s h8) rfl
    rcases ite_some h with ⟨-, h⟩ | ⟨-, h⟩
    · obtain ⟨S73, h9, h⟩ := bd h
      have kc := kc.tr (k_s_s h9) rfl
      obtain ⟨S79, h10, h⟩ := bd h
      have kc := kc.tr (k_s_s h10) rfl
      obtain ⟨q_85, h11, h⟩ := bd h
      have kc := kc.tr (ke186 h11) rfl
      cases h
      exact kc
    · cases h
      exact kc
  · obtain ⟨v_92, -, h⟩ := bd h
    obtain ⟨q_94, h13, h⟩ := bd h
    have kc := kc.tr (ke171 h13) rfl
    cases h
    exact kc
theorem ke187 {v1 : _} {S : sT} {q : sT} (h : e187 v1 S = some q) : ks [8, 9, 15, 17, 19, 20, 21, 23, 24, 25, 35, 36, 39, 41, 46] S q := by
  unfold e187 at h
  refine ksx_go (f := f_0) (blk := kS187) ?_ h (fun res hx => kc187_0 hx)
  intro h as S res hk
  unfold kS187 at hk
  split at hk
  · split at hk
    · exact kc187_29 hk
    · cases hk
  · skip
    split at hk
    · split at hk
      · exact kc187_61 hk
      · cases hk
    · skip
      cases hk
theorem kc188_24 {S : sT} {rs : (sRes (Int32 × sT))} (h : c188_24  S = some rs) : ks [] S (r_S Prod.snd rs) := by
  have kc : ks [] S S := ks.rf
  unfold c188_24 at h
  cases h
  exact kc
theorem kc188_0 {v1 v2 : _} {S : sT} {rs : (sRes (Int32 × sT))} (h : c188_0 v1 v2 S = some rs) : ks [] S (r_S Prod.snd rs) := by
  have kc : ks [] S S := ks.rf
  unfold c188_0 at h
  rcases ite_some h with ⟨-, h⟩ | ⟨-, h⟩
  · exact kc.tt (kc188_24 h) (fun _ q => q)
  · rcases ite_some h with ⟨-, h⟩ | ⟨-, h⟩
    · exact kc.tt (kc188_24 h) (fun _ q => q)
    · rcases ite_some h with ⟨-, h⟩ | ⟨-, h⟩
      · exact kc.tt (kc188_24 h) (fun _ q => q)
      · rcases ite_some h with ⟨-, h⟩ | ⟨-, h⟩
        · rcases ite_some h with ⟨-, h⟩ | ⟨-, h⟩
          · cases h
            exact kc
          · cases h
            exact kc
        · exact kc.tt (kc188_24 h) (fun _ q => q)
theorem kc188_37 {v1 v2 v3 : _} {S : sT} {rs : (sRes (Int32 × sT))} (h : c188_37 v1 v2 v3 S = some rs) : ks [] S (r_S Prod.snd rs) := by
  have kc : ks [] S S := ks.rf
  unfold c188_37 at h
  rcases ite_some h with ⟨-, h⟩ | ⟨-, h⟩
  · cases h
    exact kc
  · obtain ⟨v_6, -, h⟩ := bd h
    obtain ⟨v_8, -, h⟩ := bd h
    rcases ite_some h with ⟨-, h⟩ | ⟨-, h⟩
    · cases h
      exact kc
    · cases h
      exact kc
theorem ke188 {v1 v2 : _} {S : sT} {q : Int32 × sT} (h : e188 v1 v2 S = some q) : ks [] S q.2 := by
  unfold e188 at h
  refine ksx_go (f := Prod.snd) (blk := kS188) ?_ h (fun res hx => kc188_0 hx)
  intro h as S res hk
  unfold kS188 at hk
  split at hk
  · split at hk
    · exact kc188_37 hk
    · cases hk
  · skip
    cases hk
theorem kc189_0 {v1 : _} {S : sT} {rs : (sRes (Int32 × sT))} (h : c189_0 v1 S = some rs) : ks [] S (r_S Prod.snd rs) := by
  have kc : ks [] S S := ks.rf
  unfold c189_0 at h
  cases h
  exact kc
theorem ke189 {v1 : _} {S : sT} {q : Int32 × sT} (h : e189 v1 S = some q) : ks [] S q.2 := by
  unfold e189 at h
  exact ksx_out (f := Prod.snd) h (fun res hx => kc189_0 hx)
theorem kc190_0 {v1 v2 v3 : _} {S : sT} {rs : (sRes (Int32 × sT))} (h : c190_0 v1 v2 v3 S = some rs) : ks [] S (r_S Prod.snd rs) := by
  have kc : ks [] S S := ks.rf
  unfold c190_0 at h
  obtain ⟨v_1, -, h⟩ := bd h
  cases h
  exact kc
theorem ke190 {v1 v2 v3 : _} {S : sT} {q : Int32 × sT} (h : e190 v1 v2 v3 S = some q) : ks [] S q.2 := by
  unfold e190 at h
  exact ksx_out (f := Prod.snd) h (fun res hx => kc190_0 hx)
theorem kc191_0 {v1 v2 : _} {S : sT} {rs : (sRes (Int32 × sT))} (h : c191_0 v1 v2 S = some rs) : ks [] S (r_S Prod.snd rs) := by
  have kc : ks [] S S := ks.rf
  unfold c191_0 at h
  obtain ⟨q_1, h1, h⟩ := bd h
  have kc := kc.tr (ke190 h1) rfl
  obtain ⟨q_7, h2, h⟩ := bd h
  have kc := kc.tr (ke190 h2) rfl
  obtain ⟨q_13, h3, h⟩ := bd h
  have kc := kc.tr (ke190 h3) rfl
  cases h
  exact kc
theorem ke191 {v1 v2 : _} {S : sT} {q : Int32 × sT} (h : e191 v1 v2 S = some q) : ks [] S q.2 := by
  unfold e191 at h
  exact ksx_out (f := Prod.snd) h (fun res hx => kc191_0 hx)
theorem kc192_0 {v1 v2 : _} {S : sT} {rs : (sRes (Int32 × sT))} (h : c192_0 v1 v2 S = some rs) : ks [] S (r_S Prod.snd rs) := by
  have kc : ks [] S S := ks.rf
  unfold c192_0 at h
  obtain ⟨q_1, h1, h⟩ := bd h
  have kc := kc.tr (ke190 h1) rfl
  cases h
  exact kc
theorem ke192 {v1 v2 : _} {S : sT} {q : Int32 × sT} (h : e192 v1 v2 S = some q) : ks [] S q.2 := by
  unfold e192 at h
  exact ksx_out (f := Prod.snd) h (fun res hx => kc192_0 hx)
theorem kc193_0 {v1 v2 v3 : _} {S : sT} {rs : (sRes (Int32 × sT))} (h : c193_0 v1 v2 v3 S = some rs) : ks [] S (r_S Prod.snd rs) := by
  have kc : ks [] S S := ks.rf
  unfold c193_0 at h
  obtain ⟨v_1, -, h⟩ := bd h
  rcases ite_some h with ⟨-, h⟩ | ⟨-, h⟩
  · cases h
    exact kc
  · cases h
    exact kc
theorem kc193_85 {v1 v2 v3 v4 v5 : _} {S : sT} {rs : (sRes (Int32 × sT))} (h : c193_85 v1 v2 v3 v4 v5 S = some rs) : ks [] S (r_S Prod.snd rs) := by
  have kc : ks [] S S := ks.rf
  unfold c193_85 at h
  cases h
  exact kc
theorem kc193_23 {v1 v2 v3 v4 v5 : _} {S : sT} {rs : (sRes (Int32 × sT))} (h : c193_23 v1 v2 v3 v4 v5 S = some rs) : ks [] S (r_S Prod.snd rs) := by
  have kc : ks [] S S := ks.rf
  unfold c193_23 at h
  obtain ⟨q_4, h1, h⟩ := bd h
  have kc := kc.tr (ke190 h1) rfl
  rcases ite_some h with ⟨-, h⟩ | ⟨-, h⟩
  · cases h
    exact kc
  · obtain ⟨q_10, h2, h⟩ := bd h
    have kc := kc.tr (ke190 h2) rfl
    rcases ite_some h with ⟨-, h⟩ | ⟨-, h⟩
    · obtain ⟨q_16, h3, h⟩ := bd h
      have kc := kc.tr (ke190 h3) rfl
      rcases ite_some h with ⟨-, h⟩ | ⟨-, h⟩
      · exact kc.tt (kc193_85 h) (fun _ q => q)
      · obtain ⟨q_22, h4, h⟩ := bd h
        have kc := kc.tr (ke190 h4) rfl
        exact kc.tt (kc193_85 h) (fun _ q => q)
    · exact kc.tt (kc193_85 h) (fun _ q => q)
theorem ke193 {v1 v2 v3 : _} {S : sT} {q : Int32 × sT} (h : e193 v1 v2 v3 S = some q) : ks [] S q.2 := by
  unfold e193 at h
  refine ksx_go (f := Prod.snd) (blk := kS193) ?_ h (fun res hx => kc193_0 hx)
  intro h as S res hk
  unfold kS193 at hk
  split at hk
  · split at hk
    · exact kc193_23 hk
    · cases hk
  · skip
    cases hk
theorem kc194_29 {si0 : _} {S : sT} {rs : (sRes (Int32 × sT))} (h : c194_29 si0 S = some rs) : ks [] S (r_S Prod.snd rs) := by
  have kc : ks [] S S := ks.rf
  unfold c194_29 at h
  rcases ite_some h with ⟨-, h⟩ | ⟨-, h⟩
  · cases h
    exact kc
  · cases h
theorem kc194_28 {S : sT} {rs : (sRes (Int32 × sT))} (h : c194_28  S = some rs) : ks [] S (r_S Prod.snd rs) := by
  have kc : ks [] S S := ks.rf
  unfold c194_28 at h
  exact kc.tt (kc194_29 h) (fun _ q => q)
theorem kc194_0 {v1 v2 v3 : _} {S : sT} {rs : (sRes (Int32 × sT))} (h : c194_0 v1 v2 v3 S = some rs) : ks [] S (r_S Prod.snd rs) := by
  have kc : ks [] S S := ks.rf
  unfold c194_0 at h
  obtain ⟨q_1, h1, h⟩ := bd h
  have kc := kc.tr (ke193 h1) rfl
  rcases ite_some h with ⟨-, h⟩ | ⟨-, h⟩
  · exact kc.tt (kc194_28 h) (fun _ q => q)
  · obtain ⟨q_7, h2, h⟩ := bd h
    have kc := kc.tr (ke193 h2) rfl
    rcases ite_some h with ⟨-, h⟩ | ⟨-, h⟩
    · exact kc.tt (kc194_28 h) (fun _ q => q)
    · exact kc.tt (kc194_29 h) (fun _ q => q)
theorem ke194 {v1 v2 v3 : _} {S : sT} {q : Int32 × sT} (h : e194 v1 v2 v3 S = some q) : ks [] S q.2 := by
  unfold e194 at h
  exact ksx_out (f := Prod.snd) h (fun res hx => kc194_0 hx)
theorem kc195_0 {v1 : _} {S : sT} {rs : (sRes sT)} (h : c195_0 v1 S = some rs) : ks [32] S (r_S f_0 rs) := by
  have kc : ks [32] S S := ks.rf
  unfold c195_0 at h
  cases h
  exact kc
theorem kc195_2 {v1 v2 : _} {S : sT} {rs : (sRes sT)} (h : c195_2 v1 v2 S = some rs) : ks [32] S (r_S f_0 rs) := by
  have kc : ks [32] S S := ks.rf
  unfold c195_2 at h
  rcases ite_some h with ⟨-, h⟩ | ⟨-, h⟩
  · cases h
    exact kc
  · cases h
    exact kc
theorem kc195_54 {v1 v2 v3 si0 si1 : _} {S : sT} {rs : (sRes sT)} (h : c195_54 v1 v2 v3 si0 si1 S = some rs) : ks [32] S (r_S f_0 rs) := by
  have kc : ks [32] S S := ks.rf
  unfold c195_54 at h
  obtain ⟨S17, h1, h⟩ := bd h
  have kc := kc.tr (k_s_s h1) rfl
  cases h
  exact kc
theorem kc195_9 {v1 v2 v3 : _} {S : sT} {rs : (sRes sT)} (h : c195_9 v1 v2 v3 S = some rs) : ks [32] S (r_S f_0 rs) := by
  have kc : ks [32] S S := ks.rf
  unfold c195_9 at h
  rcases ite_some h with ⟨-, h⟩ | ⟨-, h⟩
  · cases h
    exact kc
  · rcases ite_some h with ⟨-, h⟩ | ⟨-, h⟩
    · exact kc.tt (kc195_54 h) (fun _ q => q)
    · obtain ⟨q_2, h1, h⟩ := bd h
      have kc := kc.tr (ke194 h1) rfl
      rcases ite_some h with ⟨-, h⟩ | ⟨-, h⟩
      · exact kc.tt (kc195_54 h) (fun _ q => q)
      · obtain ⟨q_8, h2, h⟩ := bd h
        have kc := kc.tr (ke193 h2) rfl
        exact kc.tt (kc195_54 h) (fun _ q => q)
theorem kc195_69 {v2 : _} {S : sT} {rs : (sRes sT)} (h : c195_69 v2 S = some rs) : ks [32] S (r_S f_0 rs) := by
  have kc : ks [32] S S := ks.rf
  unfold c195_69 at h
  rcases ite_some h with ⟨-, h⟩ | ⟨-, h⟩
  · cases h
    exact kc
  · cases h
    exact kc
theorem kc195_76 {v2 v3 : _} {S : sT} {rs : (sRes sT)} (h : c195_76 v2 v3 S = some rs) : ks [32] S (r_S f_0 rs) := by
  have kc : ks [32] S S := ks.rf
  unfold c195_76 at h
  rcases ite_some h with ⟨-, h⟩ | ⟨-, h⟩
  · cases h
    exact kc
  · cases h
    exact kc
theorem kc195_84 {v2 v3 v4 : _} {S : sT} {rs : (sRes sT)} (h : c195_84 v2 v3 v4 S = some rs) : ks [32] S (r_S f_0 rs) := by
  have kc : ks [32] S S := ks.rf
  unfold c195_84 at h
  rcases ite_some h with ⟨-, h⟩ | ⟨-, h⟩
  · cases h
    exact kc
  · obtain ⟨v_25, -, h⟩ := bd h
    obtain ⟨v_27, -, h⟩ := bd h
    obtain ⟨v_29, -, h⟩ := bd h
    obtain ⟨S31, h4, h⟩ := bd h
    have kc := kc.tr (k_s_s h4) rfl
    cases h
    exact kc
theorem ke195 {v1 : _} {S : sT} {q : sT} (h : e195 v1 S = some q) : ks [32] S q := by
  unfold e195 at h
  refine ksx_go (f := f_0) (blk := kS195) ?_ h (fun res hx => kc195_0 hx)
  intro h as S res hk
  unfold kS195 at hk
  split at hk
  · split at hk
    · exact kc195_2 hk
    · cases hk
  · skip
    split at hk
    · split at hk
      · exact kc195_9 hk
      · cases hk
    · skip
      split at hk
      · split at hk
        · exact kc195_69 hk
        · cases hk
      · skip
        split at hk
        · split at hk
          · exact kc195_76 hk
          · cases hk
        · skip
          split at hk
          · split at hk
            · exact kc195_84 hk
            · cases hk
          · skip
            cases hk
theorem kc196_0 {v1 v2 : _} {S : sT} {rs : (sRes (Int32 × sT))} (h : c196_0 v1 v2 S = some rs) : ks [] S (r_S Prod.snd rs) := by
  have kc : ks [] S S := ks.rf
  unfold c196_0 at h
  obtain ⟨v_1, -, h⟩ := bd h
  rcases ite_some h with ⟨-, h⟩ | ⟨-, h⟩
  · cases h
    exact kc
  · cases h
    exact kc
theorem kc196_123 {v1 v2 v3 v4 v5 : _} {S : sT} {rs : (sRes (Int32 × sT))} (h : c196_123 v1 v2 v3 v4 v5 S = some rs) : ks [] S (r_S Prod.snd rs) := by
  have kc : ks [] S S := ks.rf
  unfold c196_123 at h
  cases h
  exact kc
theorem kc196_25 {v1 v2 v3 v4 v5 : _} {S : sT} {rs : (sRes (Int32 × sT))} (h : c196_25 v1 v2 v3 v4 v5 S = some rs) : ks [] S (r_S Prod.snd rs) := by
  have kc : ks [] S S := ks.rf
  unfold c196_25 at h
  obtain ⟨q_4, h1, h⟩ := bd h
  have kc := kc.tr (ke190 h1) rfl
  rcases ite_some h with ⟨-, h⟩ | ⟨-, h⟩
  · cases h
    exact kc
  · obtain ⟨q_10, h2, h⟩ := bd h
    have kc := kc.tr (ke190 h2) rfl
    rcases ite_some h with ⟨-, h⟩ | ⟨-, h⟩
    · exact kc.tt (kc196_123 h) (fun _ q => q)
    · obtain ⟨q_16, h3, h⟩ := bd h
      have kc := kc.tr (ke194 h3) rfl
      rcases ite_some h with ⟨-, h⟩ | ⟨-, h⟩
      · exact kc.tt (kc196_123 h) (fun _ q => q)
      · obtain ⟨q_22, h4, h⟩ := bd h
        have kc := kc.tr (ke190 h4) rfl
        obtain ⟨v_28, -, h⟩ := bd h
        rcases ite_some h with ⟨-, h⟩ | ⟨-, h⟩
        · exact kc.tt (kc196_123 h) (fun _ q => q)
        · obtain ⟨q_30, h6, h⟩ := bd h
          have kc := kc.tr (ke190 h6) rfl
          exact kc.tt (kc196_123 h) (fun _ q => q)
theorem ke196 {v1 v2 : _} {S : sT} {q : Int32 × sT} (h : e196 v1 v2 S = some q) : ks [] S q.2 := by
  unfold e196 at h
  refine ksx_go (f := Prod.snd) (blk := kS196) ?_ h (fun res hx => kc196_0 hx)
  intro h as S res hk
  unfold kS196 at hk
  split at hk
  · split at hk
    · exact kc196_25 hk
    · cases hk
  · skip
    cases hk
theorem kc197_20 {si0 : _} {S : sT} {rs : (sRes (Int32 × sT))} (h : c197_20 si0 S = some rs) : ks [] S (r_S Prod.snd rs) := by
  have kc : ks [] S S := ks.rf
  unfold c197_20 at h
  rcases ite_some h with ⟨-, h⟩ | ⟨-, h⟩
  · cases h
    exact kc
  · cases h
theorem kc197_15 {S : sT} {rs : (sRes (Int32 × sT))} (h : c197_15  S = some rs) : ks [] S (r_S Prod.snd rs) := by
  have kc : ks [] S S := ks.rf
  unfold c197_15 at h
  exact kc.tt (kc197_20 h) (fun _ q => q)
theorem kc197_0 {v1 v2 : _} {S : sT} {rs : (sRes (Int32 × sT))} (h : c197_0 v1 v2 S = some rs) : ks [] S (r_S Prod.snd rs) := by
  have kc : ks [] S S := ks.rf
  unfold c197_0 at h
  rcases ite_some h with ⟨-, h⟩ | ⟨-, h⟩
  · exact kc.tt (kc197_15 h) (fun _ q => q)
  · obtain ⟨q_1, h1, h⟩ := bd h
    have kc := kc.tr (ke196 h1) rfl
    rcases ite_some h with ⟨-, h⟩ | ⟨-, h⟩
    · exact kc.tt (kc197_20 h) (fun _ q => q)
    · exact kc.tt (kc197_15 h) (fun _ q => q)
theorem ke197 {v1 v2 : _} {S : sT} {q : Int32 × sT} (h : e197 v1 v2 S = some q) : ks [] S q.2 := by
  unfold e197 at h
  exact ksx_out (f := Prod.snd) h (fun res hx => kc197_0 hx)
theorem kc198_24 {si0 : _} {S : sT} {rs : (sRes (Int32 × sT))} (h : c198_24 si0 S = some rs) : ks [] S (r_S Prod.snd rs) := by
  have kc : ks [] S S := ks.rf
  unfold c198_24 at h
  cases h
  exact kc
theorem kc198_0 {v1 v2 : _} {S : sT} {rs : (sRes (Int32 × sT))} (h : c198_0 v1 v2 S = some rs) : ks [] S (r_S Prod.snd rs) := by
  have kc : ks [] S S := ks.rf
  unfold c198_0 at h
  obtain ⟨v_1, -, h⟩ := bd h
  rcases ite_some h with ⟨-, h⟩ | ⟨-, h⟩
  · exact kc.tt (kc198_24 h) (fun _ q => q)
  · obtain ⟨q_3, h2, h⟩ := bd h
    have kc := kc.tr (ke190 h2) rfl
    exact kc.tt (kc198_24 h) (fun _ q => q)
theorem ke198 {v1 v2 : _} {S : sT} {q : Int32 × sT} (h : e198 v1 v2 S = some q) : ks [] S q.2 := by
  unfold e198 at h
  exact ksx_out (f := Prod.snd) h (fun res hx => kc198_0 hx)
theorem kc199_0 {v1 v2 : _} {S : sT} {rs : (sRes (Int32 × sT))} (h : c199_0 v1 v2 S = some rs) : ks [] S (r_S Prod.snd rs) := by
  have kc : ks [] S S := ks.rf
  unfold c199_0 at h
  cases h
  exact kc
theorem kc199_57 {v1 v2 v4 si0 : _} {S : sT} {rs : (sRes (Int32 × sT))} (h : c199_57 v1 v2 v4 si0 S = some rs) : ks [] S (r_S Prod.snd rs) := by
  have kc : ks [] S S := ks.rf
  unfold c199_57 at h
  cases h
  exact kc
theorem kc199_52 {v1 v2 v4 : _} {S : sT} {rs : (sRes (Int32 × sT))} (h : c199_52 v1 v2 v4 S = some rs) : ks [] S (r_S Prod.snd rs) := by
  have kc : ks [] S S := ks.rf
  unfold c199_52 at h
  exact kc.tt (kc199_57 h) (fun _ q => q)
theorem kc199_56 {v1 v2 v4 : _} {S : sT} {rs : (sRes (Int32 × sT))} (h : c199_56 v1 v2 v4 S = some rs) : ks [] S (r_S Prod.snd rs) := by
  have kc : ks [] S S := ks.rf
  unfold c199_56 at h
  exact kc.tt (kc199_57 h) (fun _ q => q)
theorem kc199_5 {v1 v2 v3 v4 : _} {S : sT} {rs : (sRes (Int32 × sT))} (h : c199_5 v1 v2 v3 v4 S = some rs) : ks [] S (r_S Prod.snd rs) := by
  have kc : ks [] S S := ks.rf
  unfold c199_5 at h
  rcases ite_some h with ⟨-, h⟩ | ⟨-, h⟩
  · rcases ite_some h with ⟨-, h⟩ | ⟨-, h⟩
    · cases h
      exact kc
    · cases h
  · rcases ite_some h with ⟨-, h⟩ | ⟨-, h⟩
    · obtain ⟨q_2, h1, h⟩ := bd h
      have kc := kc.tr (ke198 h1) rfl
      rcases ite_some h with ⟨-, h⟩ | ⟨-, h⟩
      · exact kc.tt (kc199_56 h) (fun _ q => q)
      · obtain ⟨q_8, h2, h⟩ := bd h
        have kc := kc.tr (ke198 h2) rfl
        obtain ⟨q_14, h3, h⟩ := bd h
        have kc := kc.tr (ke198 h3) rfl
        rcases ite_some h with ⟨-, h⟩ | ⟨-, h⟩
        · obtain ⟨q_20, h4, h⟩ := bd h
          have kc := kc.tr (ke197 h4) rfl
          rcases ite_some h with ⟨-, h⟩ | ⟨-, h⟩
          · exact kc.tt (kc199_56 h) (fun _ q => q)
          · exact kc.tt (kc199_52 h) (fun _ q => q)
        · exact kc.tt (kc199_56 h) (fun _ q => q)
    · exact kc.tt (kc199_52 h) (fun _ q => q)
theorem ke199 {v1 v2 : _} {S : sT} {q : Int32 × sT} (h : e199 v1 v2 S = some q) : ks [] S q.2 := by
  unfold e199 at h
  refine ksx_go (f := Prod.snd) (blk := kS199) ?_ h (fun res hx => kc199_0 hx)
  intro h as S res hk
  unfold kS199 at hk
  split at hk
  · split at hk
    · exact kc199_5 hk
    · cases hk
  · skip
    cases hk
theorem kc200_0 {v1 : _} {S : sT} {rs : (sRes (Int32 × sT))} (h : c200_0 v1 S = some rs) : ks [32] S (r_S Prod.snd rs) := by
  have kc : ks [32] S S := ks.rf
  unfold c200_0 at h
  obtain ⟨q_1, h1, h⟩ := bd h
  have kc := kc.tr (ke195 h1) rfl
  obtain ⟨q_7, h2, h⟩ := bd h
  have kc := kc.tr (ke199 h2) rfl
  rcases ite_some h with ⟨-, h⟩ | ⟨-, h⟩
  · cases h
    exact kc
  · cases h
theorem ke200 {v1 : _} {S : sT} {q : Int32 × sT} (h : e200 v1 S = some q) : ks [32] S q.2 := by
  unfold e200 at h
  exact ksx_out (f := Prod.snd) h (fun res hx => kc200_0 hx)
theorem kc201_0 {v1 v2 : _} {S : sT} {rs : (sRes (Int32 × sT))} (h : c201_0 v1 v2 S = some rs) : ks [32] S (r_S Prod.snd rs) := by
  have kc : ks [32] S S := ks.rf
  unfold c201_0 at h
  obtain ⟨q_1, h1, h⟩ := bd h
  have kc := kc.tr (ke195 h1) rfl
  cases h
  exact kc
theorem kc201_58 {si0 : _} {S : sT} {rs : (sRes (Int32 × sT))} (h : c201_58 si0 S = some rs) : ks [32] S (r_S Prod.snd rs) := by
  have kc : ks [32] S S := ks.rf
  unfold c201_58 at h
  cases h
  exact kc
theorem kc201_59 {v1 v2 v3 : _} {S : sT} {rs : (sRes (Int32 × sT))} (h : c201_59 v1 v2 v3 S = some rs) : ks [32] S (r_S Prod.snd rs) := by
  have kc : ks [32] S S := ks.rf
  unfold c201_59 at h
  cases h
  exact kc
theorem kc201_7 {v1 v2 v3 : _} {S : sT} {rs : (sRes (Int32 × sT))} (h : c201_7 v1 v2 v3 S = some rs) : ks [32] S (r_S Prod.snd rs) := by
  have kc : ks [32] S S := ks.rf
  unfold c201_7 at h
  rcases ite_some h with ⟨-, h⟩ | ⟨-, h⟩
  · cases h
    exact kc
  · obtain ⟨q_7, h1, h⟩ := bd h
    have kc := kc.tr (ke198 h1) rfl
    rcases ite_some h with ⟨-, h⟩ | ⟨-, h⟩
    · obtain ⟨q_13, h2, h⟩ := bd h
      have kc := kc.tr (ke197 h2) rfl
      rcases ite_some h with ⟨-, h⟩ | ⟨-, h⟩
      · exact kc.tt (kc201_59 h) (fun _ q => q)
      · obtain ⟨q_19, h3, h⟩ := bd h
        have kc := kc.tr (ke199 h3) rfl
        rcases ite_some h with ⟨-, h⟩ | ⟨-, h⟩
        · rcases ite_some h with ⟨-, h⟩ | ⟨-, h⟩
          · exact kc.tt (kc201_58 h) (fun _ q => q)
          · obtain ⟨q_25, h4, h⟩ := bd h
            have kc := kc.tr (ke196 h4) rfl
            exact kc.tt (kc201_58 h) (fun _ q => q)
        · exact kc.tt (kc201_59 h) (fun _ q => q)
    · exact kc.tt (kc201_59 h) (fun _ q => q)
theorem ke201 {v1 v2 : _} {S : sT} {q : Int32 × sT} (h : e201 v1 v2 S = some q) : ks [32] S q.2 := by
  unfold e201 at h
  refine ksx_go (f := Prod.snd) (blk := kS201) ?_ h (fun res hx => kc201_0 hx)
  intro h as S res hk
  unfold kS201 at hk
  split at hk
  · split at hk
    · exact kc201_7 hk
    · cases hk
  · skip
    cases hk
theorem kc202_0 {v1 v2 : _} {S : sT} {rs : (sRes (Int32 × sT))} (h : c202_0 v1 v2 S = some rs) : ks [6, 7, 9] S (r_S Prod.snd rs) := by
  have kc : ks [6, 7, 9] S S := ks.rf
  unfold c202_0 at h
  obtain ⟨q_1, h1, h⟩ := bd h
  have kc := kc.tr (ke168 h1) rfl
  cases h
  exact kc
theorem kc202_18 {v1 v2 v3 v4 : _} {S : sT} {rs : (sRes (Int32 × sT))} (h : c202_18 v1 v2 v3 v4 S = some rs) : ks [6, 7, 9] S (r_S Prod.snd rs) := by
  have kc : ks [6, 7, 9] S S := ks.rf
  unfold c202_18 at h
  obtain ⟨v_7, -, h⟩ := bd h
  rcases ite_some h with ⟨-, h⟩ | ⟨-, h⟩
  · cases h
    exact kc
  · obtain ⟨q_9, h2, h⟩ := bd h
    have kc := kc.tr (ke190 h2) rfl
    obtain ⟨q_15, h3, h⟩ := bd h
    have kc := kc.tr (ke167 h3) rfl
    cases h
    exact kc
theorem ke202 {v1 v2 : _} {S : sT} {q : Int32 × sT} (h : e202 v1 v2 S = some q) : ks [6, 7, 9] S q.2 := by
  unfold e202 at h
  refine ksx_go (f := Prod.snd) (blk := kS202) ?_ h (fun res hx => kc202_0 hx)
  intro h as S res hk
  unfold kS202 at hk
  split at hk
  · split at hk
    · exact kc202_18 hk
    · cases hk
  · skip
    cases hk
theorem kc203_0 {v1 v2 : _} {S : sT} {rs : (sRes sT)} (h : c203_0 v1 v2 S = some rs) : ks [44, 45, 46] S (r_S f_0 rs) := by
  have kc : ks [44, 45, 46] S S := ks.rf
  unfold c203_0 at h
  obtain ⟨v_1, -, h⟩ := bd h
  obtain ⟨S3, h2, h⟩ := bd h
  have kc := kc.tr (k_s_s h2) rfl
  cases h
  exact kc
theorem kc203_12 {v1 v3 : _} {S : sT} {rs : (sRes sT)} (h : c203_12 v1 v3 S = some rs) : ks [44, 45, 46] S (r_S f_0 rs) := by
  have kc : ks [44, 45, 46] S S := ks.rf
  unfold c203_12 at h
  obtain ⟨v_9, -, h⟩ := bd h
  rcases ite_some h with ⟨-, h⟩ | ⟨-, h⟩
  · cases h
    exact kc
  · cases h
    exact kc
theorem kc203_25 {v1 v3 v4 : _} {S : sT} {rs : (sRes sT)} (h : c203_25 v1 v3 v4 S = some rs) : ks [44, 45, 46] S (r_S f_0 rs) := by
  have kc : ks [44, 45, 46] S S := ks.rf
  unfold c203_25 at h
  rcases ite_some h with ⟨-, h⟩ | ⟨-, h⟩
  · cases h
    exact kc
  · obtain ⟨v_12, -, h⟩ := bd h
    obtain ⟨S14, h2, h⟩ := bd h
    have kc := kc.tr (k_s_s h2) rfl
    cases h
    exact kc
theorem kc203_78 {v1 v3 v4 : _} {S : sT} {rs : (sRes sT)} (h : c203_78 v1 v3 v4 S = some rs) : ks [44, 45, 46] S (r_S f_0 rs) := by
  have kc : ks [44, 45, 46] S S := ks.rf
  unfold c203_78 at h
  rcases ite_some h with ⟨-, h⟩ | ⟨-, h⟩
  · cases h
    exact kc
  · obtain ⟨w_21, -, h⟩ := bd h
    obtain ⟨S23, h2, h⟩ := bd h
    have kc := kc.tr (k_s_sl h2) rfl
    cases h
    exact kc
theorem ke203 {v1 v2 : _} {S : sT} {q : sT} (h : e203 v1 v2 S = some q) : ks [44, 45, 46] S q := by
  unfold e203 at h
  refine ksx_go (f := f_0) (blk := kS203) ?_ h (fun res hx => kc203_0 hx)
  intro h as S res hk
  unfold kS203 at hk
  split at hk
  · split at hk
    · exact kc203_12 hk
    · cases hk
  · skip
    split at hk
    · split at hk
      · exact kc203_25 hk
      · cases hk
    · skip
      split at hk
      · split at hk
        · exact kc203_78 hk
        · cases hk
      · skip
        cases hk
theorem kc204_189 {v2 v5 : _} {S : sT} {rs : (sRes sT)} (h : c204_189 v2 v5 S = some rs) : ks [4, 6, 7, 8, 9, 18, 19] S (r_S f_0 rs) := by
  have kc : ks [4, 6, 7, 8, 9, 18, 19] S S := ks.rf
  unfold c204_189 at h
  obtain ⟨q_72, h1, h⟩ := bd h
  have kc := kc.tr (ke176 h1) rfl
  obtain ⟨q_78, h2, h⟩ := bd h
  have kc := kc.tr (ke183 h2) rfl
  cases h
  exact kc
theorem kc204_157 {v1 v2 v5 sl0 si1 : _} {S : sT} {rs : (sRes sT)} (h : c204_157 v1 v2 v5 sl0 si1 S = some rs) : ks [4, 6, 7, 8, 9, 18, 19] S (r_S f_0 rs) := by
  have kc : ks [4, 6, 7, 8, 9, 18, 19] S S := ks.rf
  unfold c204_157 at h
  obtain ⟨q_50, h1, h⟩ := bd h
  have kc := kc.tr (ke167 h1) rfl
  obtain ⟨v_56, -, h⟩ := bd h
  obtain ⟨q_58, h3, h⟩ := bd h
  have kc := kc.tr (ke167 h3) rfl
  obtain ⟨v_64, -, h⟩ := bd h
  obtain ⟨q_66, h5, h⟩ := bd h
  have kc := kc.tr (ke167 h5) rfl
  exact kc.tt (kc204_189 h) (fun _ q => q)
theorem kc204_121 {v1 v2 v3 v5 : _} {S : sT} {rs : (sRes sT)} (h : c204_121 v1 v2 v3 v5 S = some rs) : ks [4, 6, 7, 8, 9, 18, 19] S (r_S f_0 rs) := by
  have kc : ks [4, 6, 7, 8, 9, 18, 19] S S := ks.rf
  unfold c204_121 at h
  rcases ite_some h with ⟨-, h⟩ | ⟨-, h⟩
  · obtain ⟨v_38, -, h⟩ := bd h
    obtain ⟨q_40, h2, h⟩ := bd h
    have kc := kc.tr (ke167 h2) rfl
    obtain ⟨v_46, -, h⟩ := bd h
    rcases ite_some h with ⟨-, h⟩ | ⟨-, h⟩
    · exact kc.tt (kc204_157 h) (fun _ q => q)
    · exact kc.tt (kc204_157 h) (fun _ q => q)
  · exact kc.tt (kc204_189 h) (fun _ q => q)
theorem kc204_107 {v1 v2 v3 v5 : _} {S : sT} {rs : (sRes sT)} (h : c204_107 v1 v2 v3 v5 S = some rs) : ks [4, 6, 7, 8, 9, 18, 19] S (r_S f_0 rs) := by
  have kc : ks [4, 6, 7, 8, 9, 18, 19] S S := ks.rf
  unfold c204_107 at h
  rcases ite_some h with ⟨-, h⟩ | ⟨-, h⟩
  · obtain ⟨q_31, h1, h⟩ := bd h
    have kc := kc.tr (ke167 h1) rfl
    exact kc.tt (kc204_121 h) (fun _ q => q)
  · exact kc.tt (kc204_121 h) (fun _ q => q)
theorem kc204_75 {v1 v2 v3 si0 si1 : _} {S : sT} {rs : (sRes sT)} (h : c204_75 v1 v2 v3 si0 si1 S = some rs) : ks [4, 6, 7, 8, 9, 18, 19] S (r_S f_0 rs) := by
  have kc : ks [4, 6, 7, 8, 9, 18, 19] S S := ks.rf
  unfold c204_75 at h
  obtain ⟨v_14, -, h⟩ := bd h
  obtain ⟨q_16, h2, h⟩ := bd h
  have kc := kc.tr (ke168 h2) rfl
  rcases ite_some h with ⟨-, h⟩ | ⟨-, h⟩
  · obtain ⟨v_22, -, h⟩ := bd h
    obtain ⟨q_24, h4, h⟩ := bd h
    have kc := kc.tr (ke167 h4) rfl
    exact kc.tt (kc204_107 h) (fun _ q => q)
  · exact kc.tt (kc204_107 h) (fun _ q => q)
theorem kc204_54 {v1 v2 v3 si0 : _} {S : sT} {rs : (sRes sT)} (h : c204_54 v1 v2 v3 si0 S = some rs) : ks [4, 6, 7, 8, 9, 18, 19] S (r_S f_0 rs) := by
  have kc : ks [4, 6, 7, 8, 9, 18, 19] S S := ks.rf
  unfold c204_54 at h
  rcases ite_some h with ⟨-, h⟩ | ⟨-, h⟩
  · exact kc.tt (kc204_75 h) (fun _ q => q)
  · obtain ⟨v_11, -, h⟩ := bd h
    exact kc.tt (kc204_75 h) (fun _ q => q)
theorem kc204_0 {v1 : _} {S : sT} {rs : (sRes sT)} (h : c204_0 v1 S = some rs) : ks [4, 6, 7, 8, 9, 18, 19] S (r_S f_0 rs) := by
  have kc : ks [4, 6, 7, 8, 9, 18, 19] S S := ks.rf
  unfold c204_0 at h
  obtain ⟨v_1, -, h⟩ := bd h
  obtain ⟨v_3, -, h⟩ := bd h
  rcases ite_some h with ⟨-, h⟩ | ⟨-, h⟩
  · cases h
    exact kc
  · obtain ⟨v_5, -, h⟩ := bd h
    rcases ite_some h with ⟨-, h⟩ | ⟨-, h⟩
    · exact kc.tt (kc204_54 h) (fun _ q => q)
    · rcases ite_some h with ⟨-, h⟩ | ⟨-, h⟩
      · exact kc.tt (kc204_54 h) (fun _ q => q)
      · rcases ite_some h with ⟨-, h⟩ | ⟨-, h⟩
        · exact kc.tt (kc204_54 h) (fun _ q => q)
        · exact kc.tt (kc204_54 h) (fun _ q => q)
theorem ke204 {v1 : _} {S : sT} {q : sT} (h : e204 v1 S = some q) : ks [4, 6, 7, 8, 9, 18, 19] S q := by
  unfold e204 at h
  exact ksx_out (f := f_0) h (fun res hx => kc204_0 hx)
theorem kc205_0 {v1 v2 : _} {S : sT} {rs : (sRes sT)} (h : c205_0 v1 v2 S = some rs) : ks [56, 59] S (r_S f_0 rs) := by
  have kc : ks [56, 59] S S := ks.rf
  unfold c205_0 at h
  obtain ⟨S1, h1, h⟩ := bd h
  have kc := kc.tr (k_s_s h1) rfl
  obtain ⟨S7, h2, h⟩ := bd h
  have kc := kc.tr (k_s_s h2) rfl
  cases h
  exact kc
theorem ke205 {v1 v2 : _} {S : sT} {q : sT} (h : e205 v1 v2 S = some q) : ks [56, 59] S q := by
  unfold e205 at h
  exact ksx_out (f := f_0) h (fun res hx => kc205_0 hx)
theorem kc206_0 {v1 v2 : _} {S : sT} {rs : (sRes sT)} (h : c206_0 v1 v2 S = some rs) : ks [4, 6, 7, 8, 9, 18, 19, 56, 57] S (r_S f_0 rs) := by
  have kc : ks [4, 6, 7, 8, 9, 18, 19, 56, 57] S S := ks.rf
  unfold c206_0 at h
  obtain ⟨S1, h1, h⟩ := bd h
  have kc := kc.tr (k_s_s h1) rfl
  obtain ⟨S7, h2, h⟩ := bd h
  have kc := kc.tr (k_s_s h2) rfl
  obtain ⟨q_13, h3, h⟩ := bd h
  have kc := kc.tr (ke204 h3) rfl
  cases h
  exact kc
theorem ke206 {v1 v2 : _} {S : sT} {q : sT} (h : e206 v1 v2 S = some q) : ks [4, 6, 7, 8, 9, 18, 19, 56, 57] S q := by
  unfold e206 at h
  exact ksx_out (f := f_0) h (fun res hx => kc206_0 hx)
theorem kc207_152 {S : sT} {rs : (sRes sT)} (h : c207_152  S = some rs) : ks [4, 6, 7, 8, 9, 18, 19, 56, 57, 59] S (r_S f_0 rs) := by
  have kc : ks [4, 6, 7, 8, 9, 18, 19, 56, 57, 59] S S := ks.rf
  unfold c207_152 at h
  cases h
  exact kc
theorem kc207_107 {v1 : _} {S : sT} {rs : (sRes sT)} (h : c207_107 v1 S = some rs) : ks [4, 6, 7, 8, 9, 18, 19, 56, 57, 59] S (r_S f_0 rs) := by
  have kc : ks [4, 6, 7, 8, 9, 18, 19, 56, 57, 59] S S := ks.rf
  unfold c207_107 at h
  obtain ⟨v_37, -, h⟩ := bd h
  rcases ite_some h with ⟨-, h⟩ | ⟨-, h⟩
  · exact kc.tt (kc207_152 h) (fun _ q => q)
  · obtain ⟨v_39, -, h⟩ := bd h
    rcases ite_some h with ⟨-, h⟩ | ⟨-, h⟩
    · exact kc.tt (kc207_152 h) (fun _ q => q)
    · obtain ⟨v_41, -, h⟩ := bd h
      obtain ⟨v_43, -, h⟩ := bd h
      rcases ite_some h with ⟨-, h⟩ | ⟨-, h⟩
      · obtain ⟨q_45, h5, h⟩ := bd h
        have kc := kc.tr (ke204 h5) rfl
        exact kc.tt (kc207_152 h) (fun _ q => q)
      · exact kc.tt (kc207_152 h) (fun _ q => q)
theorem kc207_71 {v1 : _} {S : sT} {rs : (sRes sT)} (h : c207_71 v1 S = some rs) : ks [4, 6, 7, 8, 9, 18, 19, 56, 57, 59] S (r_S f_0 rs) := by
  have kc : ks [4, 6, 7, 8, 9, 18, 19, 56, 57, 59] S S := ks.rf
  unfold c207_71 at h
  obtain ⟨v_25, -, h⟩ := bd h
  rcases ite_some h with ⟨-, h⟩ | ⟨-, h⟩
  · obtain ⟨v_27, -, h⟩ := bd h
    rcases ite_some h with ⟨-, h⟩ | ⟨-, h⟩
    · exact kc.tt (kc207_107 h) (fun _ q => q)
    · obtain ⟨q_29, h3, h⟩ := bd h
      have kc := kc.tr (ke205 h3) rfl
      exact kc.tt (kc207_152 h) (fun _ q => q)
  · exact kc.tt (kc207_107 h) (fun _ q => q)
theorem kc207_36 {v1 : _} {S : sT} {rs : (sRes sT)} (h : c207_36 v1 S = some rs) : ks [4, 6, 7, 8, 9, 18, 19, 56, 57, 59] S (r_S f_0 rs) := by
  have kc : ks [4, 6, 7, 8, 9, 18, 19, 56, 57, 59] S S := ks.rf
  unfold c207_36 at h
  obtain ⟨v_13, -, h⟩ := bd h
  rcases ite_some h with ⟨-, h⟩ | ⟨-, h⟩
  · obtain ⟨v_15, -, h⟩ := bd h
    rcases ite_some h with ⟨-, h⟩ | ⟨-, h⟩
    · exact kc.tt (kc207_71 h) (fun _ q => q)
    · obtain ⟨q_17, h3, h⟩ := bd h
      have kc := kc.tr (ke206 h3) rfl
      exact kc.tt (kc207_152 h) (fun _ q => q)
  · exact kc.tt (kc207_71 h) (fun _ q => q)
theorem kc207_0 {v1 : _} {S : sT} {rs : (sRes sT)} (h : c207_0 v1 S = some rs) : ks [4, 6, 7, 8, 9, 18, 19, 56, 57, 59] S (r_S f_0 rs) := by
  have kc : ks [4, 6, 7, 8, 9, 18, 19, 56, 57, 59] S S := ks.rf
  unfold c207_0 at h
  obtain ⟨v_1, -, h⟩ := bd h
  rcases ite_some h with ⟨-, h⟩ | ⟨-, h⟩
  · exact kc.tt (kc207_36 h) (fun _ q => q)
  · obtain ⟨v_3, -, h⟩ := bd h
    rcases ite_some h with ⟨-, h⟩ | ⟨-, h⟩
    · exact kc.tt (kc207_36 h) (fun _ q => q)
    · obtain ⟨q_5, h3, h⟩ := bd h
      have kc := kc.tr (ke205 h3) rfl
      exact kc.tt (kc207_152 h) (fun _ q => q)
theorem ke207 {v1 : _} {S : sT} {q : sT} (h : e207 v1 S = some q) : ks [4, 6, 7, 8, 9, 18, 19, 56, 57, 59] S q := by
  unfold e207 at h
  exact ksx_out (f := f_0) h (fun res hx => kc207_0 hx)
theorem kc208_86 {v1 : _} {S : sT} {rs : (sRes sT)} (h : c208_86 v1 S = some rs) : ks [4, 6, 7, 8, 9, 18, 19, 36, 44, 45, 46, 56, 57, 59] S (r_S f_0 rs) := by
  have kc : ks [4, 6, 7, 8, 9, 18, 19, 36, 44, 45, 46, 56, 57, 59] S S := ks.rf
  unfold c208_86 at h
  cases h
  exact kc
theorem kc208_41 {v1 v2 si0 si1 : _} {S : sT} {rs : (sRes sT)} (h : c208_41 v1 v2 si0 si1 S = some rs) : ks [4, 6, 7, 8, 9, 18, 19, 36, 44, 45, 46, 56, 57, 59] S (r_S f_0 rs) := by
  have kc : ks [4, 6, 7, 8, 9, 18, 19, 36, 44, 45, 46, 56, 57, 59] S S := ks.rf
  unfold c208_41 at h
  rcases ite_some h with ⟨-, h⟩ | ⟨-, h⟩
  · exact kc.tt (kc208_86 h) (fun _ q => q)
  · obtain ⟨S19, h1, h⟩ := bd h
    have kc := kc.tr (k_s_s h1) rfl
    obtain ⟨v_25, -, h⟩ := bd h
    obtain ⟨q_27, h3, h⟩ := bd h
    have kc := kc.tr (ke168 h3) rfl
    obtain ⟨q_33, h4, h⟩ := bd h
    have kc := kc.tr (ke167 h4) rfl
    obtain ⟨q_39, h5, h⟩ := bd h
    have kc := kc.tr (ke183 h5) rfl
    exact kc.tt (kc208_86 h) (fun _ q => q)
theorem kc208_0 {v1 : _} {S : sT} {rs : (sRes sT)} (h : c208_0 v1 S = some rs) : ks [4, 6, 7, 8, 9, 18, 19, 36, 44, 45, 46, 56, 57, 59] S (r_S f_0 rs) := by
  have kc : ks [4, 6, 7, 8, 9, 18, 19, 36, 44, 45, 46, 56, 57, 59] S S := ks.rf
  unfold c208_0 at h
  obtain ⟨q_1, h1, h⟩ := bd h
  have kc := kc.tr (ke176 h1) rfl
  obtain ⟨q_7, h2, h⟩ := bd h
  have kc := kc.tr (ke177 h2) rfl
  rcases ite_some h with ⟨-, h⟩ | ⟨-, h⟩
  · exact kc.tt (kc208_86 h) (fun _ q => q)
  · obtain ⟨v_13, -, h⟩ := bd h
    obtain ⟨v_15, -, h⟩ := bd h
    rcases ite_some h with ⟨-, h⟩ | ⟨-, h⟩
    · exact kc.tt (kc208_41 h) (fun _ q => q)
    · exact kc.tt (kc208_41 h) (fun _ q => q)
theorem kc208_121 {v1 v3 : _} {S : sT} {rs : (sRes sT)} (h : c208_121 v1 v3 S = some rs) : ks [4, 6, 7, 8, 9, 18, 19, 36, 44, 45, 46, 56, 57, 59] S (r_S f_0 rs) := by
  have kc : ks [4, 6, 7, 8, 9, 18, 19, 36, 44, 45, 46, 56, 57, 59] S S := ks.rf
  unfold c208_121 at h
  cases h
  exact kc
theorem kc208_88 {v1 v3 : _} {S : sT} {rs : (sRes sT)} (h : c208_88 v1 v3 S = some rs) : ks [4, 6, 7, 8, 9, 18, 19, 36, 44, 45, 46, 56, 57, 59] S (r_S f_0 rs) := by
  have kc : ks [4, 6, 7, 8, 9, 18, 19, 36, 44, 45, 46, 56, 57, 59] S S := ks.rf
  unfold c208_88 at h
  rcases ite_some h with ⟨-, h⟩ | ⟨-, h⟩
  · cases h
    exact kc
  · obtain ⟨v_46, -, h⟩ := bd h
    rcases ite_some h with ⟨-, h⟩ | ⟨-, h⟩
    · obtain ⟨v_48, -, h⟩ := bd h
      rcases ite_some h with ⟨-, h⟩ | ⟨-, h⟩
      · obtain ⟨q_50, h3, h⟩ := bd h
        have kc := kc.tr (ke207 h3) rfl
        exact kc.tt (kc208_121 h) (fun _ q => q)
      · exact kc.tt (kc208_121 h) (fun _ q => q)
    · exact kc.tt (kc208_121 h) (fun _ q => q)
theorem kc208_129 {v1 v3 : _} {S : sT} {rs : (sRes sT)} (h : c208_129 v1 v3 S = some rs) : ks [4, 6, 7, 8, 9, 18, 19, 36, 44, 45, 46, 56, 57, 59] S (r_S f_0 rs) := by
  have kc : ks [4, 6, 7, 8, 9, 18, 19, 36, 44, 45, 46, 56, 57, 59] S S := ks.rf
  unfold c208_129 at h
  obtain ⟨v_59, -, h⟩ := bd h
  rcases ite_some h with ⟨-, h⟩ | ⟨-, h⟩
  · cases h
    exact kc
  · obtain ⟨v_61, -, h⟩ := bd h
    rcases ite_some h with ⟨-, h⟩ | ⟨-, h⟩
    · cases h
      exact kc
    · obtain ⟨q_63, h3, h⟩ := bd h
      have kc := kc.tr (ke203 h3) rfl
      cases h
      exact kc
theorem ke208 {v1 : _} {S : sT} {q : sT} (h : e208 v1 S = some q) : ks [4, 6, 7, 8, 9, 18, 19, 36, 44, 45, 46, 56, 57, 59] S q := by
  unfold e208 at h
  refine ksx_go (f := f_0) (blk := kS208) ?_ h (fun res hx => kc208_0 hx)
  intro h as S res hk
  unfold kS208 at hk
  split at hk
  · split at hk
    · exact kc208_88 hk
    · cases hk
  · skip
    split at hk
    · split at hk
      · exact kc208_129 hk
      · cases hk
    · skip
      cases hk
theorem kc209_0 {v1 : _} {S : sT} {rs : (sRes (Int64 × sT))} (h : c209_0 v1 S = some rs) : ks [] S (r_S Prod.snd rs) := by
  have kc : ks [] S S := ks.rf
  unfold c209_0 at h
  cases h
  exact kc
theorem kc209_5 {v1 w2 v4 : _} {S : sT} {rs : (sRes (Int64 × sT))} (h : c209_5 v1 w2 v4 S = some rs) : ks [] S (r_S Prod.snd rs) := by
  have kc : ks [] S S := ks.rf
  unfold c209_5 at h
  rcases ite_some h with ⟨-, h⟩ | ⟨-, h⟩
  · cases h
    exact kc
  · obtain ⟨q_1, h1, h⟩ := bd h
    have kc := kc.tr (ke165 h1) rfl
    cases h
    exact kc
theorem ke209 {v1 : _} {S : sT} {q : Int64 × sT} (h : e209 v1 S = some q) : ks [] S q.2 := by
  unfold e209 at h
  refine ksx_go (f := Prod.snd) (blk := kS209) ?_ h (fun res hx => kc209_0 hx)
  intro h as S res hk
  unfold kS209 at hk
  split at hk
  · split at hk
    · exact kc209_5 hk
    · cases hk
  · skip
    cases hk
theorem kc210_289 {S : sT} {rs : (sRes sT)} (h : c210_289  S = some rs) : ks [4, 6, 7, 8, 9, 18, 19, 39, 54, 55, 56, 57, 59] S (r_S f_0 rs) := by
  have kc : ks [4, 6, 7, 8, 9, 18, 19, 39, 54, 55, 56, 57, 59] S S := ks.rf
  unfold c210_289 at h
  cases h
  exact kc
theorem kc210_273 {v1 : _} {S : sT} {rs : (sRes sT)} (h : c210_273 v1 S = some rs) : ks [4, 6, 7, 8, 9, 18, 19, 39, 54, 55, 56, 57, 59] S (r_S f_0 rs) := by
  have kc : ks [4, 6, 7, 8, 9, 18, 19, 39, 54, 55, 56, 57, 59] S S := ks.rf
  unfold c210_273 at h
  obtain ⟨q_126, h1, h⟩ := bd h
  have kc := kc.tr (ke205 h1) rfl
  exact kc.tt (kc210_289 h) (fun _ q => q)
theorem kc210_196 {v1 v2 v3 : _} {S : sT} {rs : (sRes sT)} (h : c210_196 v1 v2 v3 S = some rs) : ks [4, 6, 7, 8, 9, 18, 19, 39, 54, 55, 56, 57, 59] S (r_S f_0 rs) := by
  have kc : ks [4, 6, 7, 8, 9, 18, 19, 39, 54, 55, 56, 57, 59] S S := ks.rf
  unfold c210_196 at h
  rcases ite_some h with ⟨-, h⟩ | ⟨-, h⟩
  · obtain ⟨q_88, h1, h⟩ := bd h
    have kc := kc.tr (ke165 h1) rfl
    rcases ite_some h with ⟨-, h⟩ | ⟨-, h⟩
    · obtain ⟨v_108, -, h⟩ := bd h
      obtain ⟨v_110, -, h⟩ := bd h
      obtain ⟨S112, h4, h⟩ := bd h
      have kc := kc.tr (k_s_s h4) rfl
      obtain ⟨q_118, h5, h⟩ := bd h
      have kc := kc.tr (ke205 h5) rfl
      exact kc.tt (kc210_289 h) (fun _ q => q)
    · obtain ⟨v_94, -, h⟩ := bd h
      rcases ite_some h with ⟨-, h⟩ | ⟨-, h⟩
      · obtain ⟨v_96, -, h⟩ := bd h
        obtain ⟨v_98, -, h⟩ := bd h
        rcases ite_some h with ⟨-, h⟩ | ⟨-, h⟩
        · exact kc.tt (kc210_273 h) (fun _ q => q)
        · obtain ⟨q_100, h9, h⟩ := bd h
          have kc := kc.tr (ke206 h9) rfl
          exact kc.tt (kc210_289 h) (fun _ q => q)
      · exact kc.tt (kc210_273 h) (fun _ q => q)
  · exact kc.tt (kc210_289 h) (fun _ q => q)
theorem kc210_138 {v1 v2 v3 v4 : _} {S : sT} {rs : (sRes sT)} (h : c210_138 v1 v2 v3 v4 S = some rs) : ks [4, 6, 7, 8, 9, 18, 19, 39, 54, 55, 56, 57, 59] S (r_S f_0 rs) := by
  have kc : ks [4, 6, 7, 8, 9, 18, 19, 39, 54, 55, 56, 57, 59] S S := ks.rf
  unfold c210_138 at h
  rcases ite_some h with ⟨-, h⟩ | ⟨-, h⟩
  · obtain ⟨v_61, -, h⟩ := bd h
    rcases ite_some h with ⟨-, h⟩ | ⟨-, h⟩
    · obtain ⟨v_63, -, h⟩ := bd h
      rcases ite_some h with ⟨-, h⟩ | ⟨-, h⟩
      · exact kc.tt (kc210_196 h) (fun _ q => q)
      · obtain ⟨q_65, h3, h⟩ := bd h
        have kc := kc.tr (ke209 h3) rfl
        obtain ⟨S71, h4, h⟩ := bd h
        have kc := kc.tr (k_s_sl h4) rfl
        obtain ⟨v_77, -, h⟩ := bd h
        obtain ⟨S79, h6, h⟩ := bd h
        have kc := kc.tr (k_s_s h6) rfl
        exact kc.tt (kc210_289 h) (fun _ q => q)
    · exact kc.tt (kc210_196 h) (fun _ q => q)
  · exact kc.tt (kc210_196 h) (fun _ q => q)
theorem kc210_0 {v1 v2 v3 : _} {S : sT} {rs : (sRes sT)} (h : c210_0 v1 v2 v3 S = some rs) : ks [4, 6, 7, 8, 9, 18, 19, 39, 54, 55, 56, 57, 59] S (r_S f_0 rs) := by
  have kc : ks [4, 6, 7, 8, 9, 18, 19, 39, 54, 55, 56, 57, 59] S S := ks.rf
  unfold c210_0 at h
  obtain ⟨q_1, h1, h⟩ := bd h
  have kc := kc.tr (ke165 h1) rfl
  obtain ⟨v_7, -, h⟩ := bd h
  obtain ⟨q_9, h3, h⟩ := bd h
  have kc := kc.tr (ke176 h3) rfl
  rcases ite_some h with ⟨-, h⟩ | ⟨-, h⟩
  · obtain ⟨q_19, h4, h⟩ := bd h
    have kc := kc.tr (ke205 h4) rfl
    exact kc.tt (kc210_289 h) (fun _ q => q)
  · rcases ite_some h with ⟨-, h⟩ | ⟨-, h⟩
    · obtain ⟨v_15, -, h⟩ := bd h
      rcases ite_some h with ⟨-, h⟩ | ⟨-, h⟩
      · exact kc.tt (kc210_138 h) (fun _ q => q)
      · cases h
        exact kc
    · exact kc.tt (kc210_138 h) (fun _ q => q)
theorem kc210_55 {v1 v2 v5 v6 : _} {S : sT} {rs : (sRes sT)} (h : c210_55 v1 v2 v5 v6 S = some rs) : ks [4, 6, 7, 8, 9, 18, 19, 39, 54, 55, 56, 57, 59] S (r_S f_0 rs) := by
  have kc : ks [4, 6, 7, 8, 9, 18, 19, 39, 54, 55, 56, 57, 59] S S := ks.rf
  unfold c210_55 at h
  obtain ⟨v_26, -, h⟩ := bd h
  rcases ite_some h with ⟨-, h⟩ | ⟨-, h⟩
  · exact kc.tt (kc210_289 h) (fun _ q => q)
  · obtain ⟨v_28, -, h⟩ := bd h
    obtain ⟨v_30, -, h⟩ := bd h
    obtain ⟨v_32, -, h⟩ := bd h
    obtain ⟨q_34, h5, h⟩ := bd h
    have kc := kc.tr (ke166 h5) rfl
    obtain ⟨q_40, h6, h⟩ := bd h
    have kc := kc.tr (ke168 h6) rfl
    obtain ⟨w_46, -, h⟩ := bd h
    obtain ⟨q_48, h8, h⟩ := bd h
    have kc := kc.tr (ke167 h8) rfl
    obtain ⟨q_54, h9, h⟩ := bd h
    have kc := kc.tr (ke183 h9) rfl
    cases h
    exact kc
theorem ke210 {v1 v2 v3 : _} {S : sT} {q : sT} (h : e210 v1 v2 v3 S = some q) : ks [4, 6, 7, 8, 9, 18, 19, 39, 54, 55, 56, 57, 59] S q := by
  unfold e210 at h
  refine ksx_go (f := f_0) (blk := kS210) ?_ h (fun res hx => kc210_0 hx)
  intro h as S res hk
  unfold kS210 at hk
  split at hk
  · split at hk
    · exact kc210_55 hk
    · cases hk
  · skip
    cases hk
theorem kc211_45 {S : sT} {rs : (sRes sT)} (h : c211_45  S = some rs) : ks [4, 6, 7, 8, 9, 18, 19, 39, 54, 55, 56, 57, 59, 60] S (r_S f_0 rs) := by
  have kc : ks [4, 6, 7, 8, 9, 18, 19, 39, 54, 55, 56, 57, 59, 60] S S := ks.rf
  unfold c211_45 at h
  cases h
  exact kc
theorem kc211_178 {S : sT} {rs : (sRes sT)} (h : c211_178  S = some rs) : ks [4, 6, 7, 8, 9, 18, 19, 39, 54, 55, 56, 57, 59, 60] S (r_S f_0 rs) := by
  have kc : ks [4, 6, 7, 8, 9, 18, 19, 39, 54, 55, 56, 57, 59, 60] S S := ks.rf
  unfold c211_178 at h
  cases h
  exact kc
theorem kc211_344 {S : sT} {rs : (sRes sT)} (h : c211_344  S = some rs) : ks [4, 6, 7, 8, 9, 18, 19, 39, 54, 55, 56, 57, 59, 60] S (r_S f_0 rs) := by
  have kc : ks [4, 6, 7, 8, 9, 18, 19, 39, 54, 55, 56, 57, 59, 60] S S := ks.rf
  unfold c211_344 at h
  cases h
  exact kc
theorem kc211_333 {v2 v3 v5 si0 si1 : _} {S : sT} {rs : (sRes sT)} (h : c211_333 v2 v3 v5 si0 si1 S = some rs) : ks [4, 6, 7, 8, 9, 18, 19, 39, 54, 55, 56, 57, 59, 60] S (r_S f_0 rs) := by
  have kc : ks [4, 6, 7, 8, 9, 18, 19, 39, 54, 55, 56, 57, 59, 60] S S := ks.rf
  unfold c211_333 at h
  rcases ite_some h with ⟨-, h⟩ | ⟨-, h⟩
  · obtain ⟨q_105, h1, h⟩ := bd h
    have kc := kc.tr (ke210 h1) rfl
    exact kc.tt (kc211_344 h) (fun _ q => q)
  · exact kc.tt (kc211_344 h) (fun _ q => q)
theorem kc211_273 {v1 v2 v3 v4 : _} {S : sT} {rs : (sRes sT)} (h : c211_273 v1 v2 v3 v4 S = some rs) : ks [4, 6, 7, 8, 9, 18, 19, 39, 54, 55, 56, 57, 59, 60] S (r_S f_0 rs) := by
  have kc : ks [4, 6, 7, 8, 9, 18, 19, 39, 54, 55, 56, 57, 59, 60] S S := ks.rf
  unfold c211_273 at h
  obtain ⟨q_89, h1, h⟩ := bd h
  have kc := kc.tr (ke166 h1) rfl
  rcases ite_some h with ⟨-, h⟩ | ⟨-, h⟩
  · exact kc.tt (kc211_344 h) (fun _ q => q)
  · obtain ⟨v_95, -, h⟩ := bd h
    rcases ite_some h with ⟨-, h⟩ | ⟨-, h⟩
    · obtain ⟨v_97, -, h⟩ := bd h
      rcases ite_some h with ⟨-, h⟩ | ⟨-, h⟩
      · obtain ⟨v_99, -, h⟩ := bd h
        rcases ite_some h with ⟨-, h⟩ | ⟨-, h⟩
        · exact kc.tt (kc211_333 h) (fun _ q => q)
        · exact kc.tt (kc211_333 h) (fun _ q => q)
      · exact kc.tt (kc211_344 h) (fun _ q => q)
    · exact kc.tt (kc211_344 h) (fun _ q => q)
theorem kc211_267 {v1 v2 v3 v4 : _} {S : sT} {rs : (sRes sT)} (h : c211_267 v1 v2 v3 v4 S = some rs) : ks [4, 6, 7, 8, 9, 18, 19, 39, 54, 55, 56, 57, 59, 60] S (r_S f_0 rs) := by
  have kc : ks [4, 6, 7, 8, 9, 18, 19, 39, 54, 55, 56, 57, 59, 60] S S := ks.rf
  unfold c211_267 at h
  rcases ite_some h with ⟨-, h⟩ | ⟨-, h⟩
  · exact kc.tt (kc211_273 h) (fun _ q => q)
  · exact kc.tt (kc211_344 h) (fun _ q => q)
theorem kc211_0 {v1 v2 : _} {S : sT} {rs : (sRes sT)} (h : c211_0 v1 v2 S = some rs) : ks [4, 6, 7, 8, 9, 18, 19, 39, 54, 55, 56, 57, 59, 60] S (r_S f_0 rs) := by
  have kc : ks [4, 6, 7, 8, 9, 18, 19, 39, 54, 55, 56, 57, 59, 60] S S := ks.rf
  unfold c211_0 at h
  obtain ⟨q_1, h1, h⟩ := bd h
  have kc := kc.tr (ke165 h1) rfl
  obtain ⟨q_7, h2, h⟩ := bd h
  have kc := kc.tr (ke166 h2) rfl
  rcases ite_some h with ⟨-, h⟩ | ⟨-, h⟩
  · obtain ⟨q_30, h3, h⟩ := bd h
    have kc := kc.tr (ke166 h3) rfl
    rcases ite_some h with ⟨-, h⟩ | ⟨-, h⟩
    · rcases ite_some h with ⟨-, h⟩ | ⟨-, h⟩
      · exact kc.tt (kc211_45 h) (fun _ q => q)
      · cases h
        exact kc
    · exact kc.tt (kc211_45 h) (fun _ q => q)
  · rcases ite_some h with ⟨-, h⟩ | ⟨-, h⟩
    · obtain ⟨q_15, h4, h⟩ := bd h
      have kc := kc.tr (ke189 h4) rfl
      rcases ite_some h with ⟨-, h⟩ | ⟨-, h⟩
      · exact kc.tt (kc211_178 h) (fun _ q => q)
      · rcases ite_some h with ⟨-, h⟩ | ⟨-, h⟩
        · obtain ⟨S21, h5, h⟩ := bd h
          have kc := kc.tr (k_s_s h5) rfl
          cases h
          exact kc
        · exact kc.tt (kc211_178 h) (fun _ q => q)
    · rcases ite_some h with ⟨-, h⟩ | ⟨-, h⟩
      · exact kc.tt (kc211_267 h) (fun _ q => q)
      · rcases ite_some h with ⟨-, h⟩ | ⟨-, h⟩
        · exact kc.tt (kc211_273 h) (fun _ q => q)
        · exact kc.tt (kc211_267 h) (fun _ q => q)
theorem kc211_141 {v1 v2 v5 v6 : _} {S : sT} {rs : (sRes sT)} (h : c211_141 v1 v2 v5 v6 S = some rs) : ks [4, 6, 7, 8, 9, 18, 19, 39, 54, 55, 56, 57, 59, 60] S (r_S f_0 rs) := by
  have kc : ks [4, 6, 7, 8, 9, 18, 19, 39, 54, 55, 56, 57, 59, 60] S S := ks.rf
  unfold c211_141 at h
  cases h
  exact kc
theorem kc211_138 {v1 v2 v5 v6 si0 si1 : _} {S : sT} {rs : (sRes sT)} (h : c211_138 v1 v2 v5 v6 si0 si1 S = some rs) : ks [4, 6, 7, 8, 9, 18, 19, 39, 54, 55, 56, 57, 59, 60] S (r_S f_0 rs) := by
  have kc : ks [4, 6, 7, 8, 9, 18, 19, 39, 54, 55, 56, 57, 59, 60] S S := ks.rf
  unfold c211_138 at h
  obtain ⟨q_66, h1, h⟩ := bd h
  have kc := kc.tr (ke206 h1) rfl
  exact kc.tt (kc211_141 h) (fun _ q => q)
theorem kc211_49 {v1 v2 v5 v6 : _} {S : sT} {rs : (sRes sT)} (h : c211_49 v1 v2 v5 v6 S = some rs) : ks [4, 6, 7, 8, 9, 18, 19, 39, 54, 55, 56, 57, 59, 60] S (r_S f_0 rs) := by
  have kc : ks [4, 6, 7, 8, 9, 18, 19, 39, 54, 55, 56, 57, 59, 60] S S := ks.rf
  unfold c211_49 at h
  rcases ite_some h with ⟨-, h⟩ | ⟨-, h⟩
  · exact kc.tt (kc211_344 h) (fun _ q => q)
  · obtain ⟨v_39, -, h⟩ := bd h
    rcases ite_some h with ⟨-, h⟩ | ⟨-, h⟩
    · obtain ⟨v_41, -, h⟩ := bd h
      rcases ite_some h with ⟨-, h⟩ | ⟨-, h⟩
      · obtain ⟨v_43, -, h⟩ := bd h
        obtain ⟨q_45, h4, h⟩ := bd h
        have kc := kc.tr (ke165 h4) rfl
        rcases ite_some h with ⟨-, h⟩ | ⟨-, h⟩
        · obtain ⟨S51, h5, h⟩ := bd h
          have kc := kc.tr (k_s_s h5) rfl
          obtain ⟨v_57, -, h⟩ := bd h
          obtain ⟨v_59, -, h⟩ := bd h
          rcases ite_some h with ⟨-, h⟩ | ⟨-, h⟩
          · exact kc.tt (kc211_138 h) (fun _ q => q)
          · exact kc.tt (kc211_138 h) (fun _ q => q)
        · exact kc.tt (kc211_141 h) (fun _ q => q)
      · exact kc.tt (kc211_141 h) (fun _ q => q)
    · exact kc.tt (kc211_141 h) (fun _ q => q)
theorem kc211_246 {v1 v4 v6 : _} {S : sT} {rs : (sRes sT)} (h : c211_246 v1 v4 v6 S = some rs) : ks [4, 6, 7, 8, 9, 18, 19, 39, 54, 55, 56, 57, 59, 60] S (r_S f_0 rs) := by
  have kc : ks [4, 6, 7, 8, 9, 18, 19, 39, 54, 55, 56, 57, 59, 60] S S := ks.rf
  unfold c211_246 at h
  cases h
  exact kc
theorem kc211_196 {v1 v4 v6 : _} {S : sT} {rs : (sRes sT)} (h : c211_196 v1 v4 v6 S = some rs) : ks [4, 6, 7, 8, 9, 18, 19, 39, 54, 55, 56, 57, 59, 60] S (r_S f_0 rs) := by
  have kc : ks [4, 6, 7, 8, 9, 18, 19, 39, 54, 55, 56, 57, 59, 60] S S := ks.rf
  unfold c211_196 at h
  rcases ite_some h with ⟨-, h⟩ | ⟨-, h⟩
  · exact kc.tt (kc211_344 h) (fun _ q => q)
  · obtain ⟨v_72, -, h⟩ := bd h
    rcases ite_some h with ⟨-, h⟩ | ⟨-, h⟩
    · obtain ⟨v_74, -, h⟩ := bd h
      rcases ite_some h with ⟨-, h⟩ | ⟨-, h⟩
      · obtain ⟨v_76, -, h⟩ := bd h
        rcases ite_some h with ⟨-, h⟩ | ⟨-, h⟩
        · obtain ⟨q_78, h4, h⟩ := bd h
          have kc := kc.tr (ke206 h4) rfl
          exact kc.tt (kc211_246 h) (fun _ q => q)
        · exact kc.tt (kc211_246 h) (fun _ q => q)
      · exact kc.tt (kc211_246 h) (fun _ q => q)
    · exact kc.tt (kc211_246 h) (fun _ q => q)
theorem ke211 {v1 v2 : _} {S : sT} {q : sT} (h : e211 v1 v2 S = some q) : ks [4, 6, 7, 8, 9, 18, 19, 39, 54, 55, 56, 57, 59, 60] S q := by
  unfold e211 at h
  refine ksx_go (f := f_0) (blk := kS211) ?_ h (fun res hx => kc211_0 hx)
  intro h as S res hk
  unfold kS211 at hk
  split at hk
  · split at hk
    · exact kc211_49 hk
    · cases hk
  · skip
    split at hk
    · split at hk
      · exact kc211_196 hk
      · cases hk
    · skip
      cases hk
theorem kc212_0 {v1 v2 v3 v4 v5 : _} {S : sT} {rs : (sRes (Int32 × sT))} (h : c212_0 v1 v2 v3 v4 v5 S = some rs) : ks [6, 7, 9] S (r_S Prod.snd rs) := by
  have kc : ks [6, 7, 9] S S := ks.rf
  unfold c212_0 at h
  obtain ⟨q_1, h1, h⟩ := bd h
  have kc := kc.tr (ke166 h1) rfl
  obtain ⟨v_7, -, h⟩ := bd h
  obtain ⟨q_9, h3, h⟩ := bd h
  have kc := kc.tr (ke166 h3) rfl
  obtain ⟨q_15, h4, h⟩ := bd h
  have kc := kc.tr (ke168 h4) rfl
  cases h
  exact kc
theorem ke212 {v1 v2 v3 v4 v5 : _} {S : sT} {q : Int32 × sT} (h : e212 v1 v2 v3 v4 v5 S = some q) : ks [6, 7, 9] S q.2 := by
  unfold e212 at h
  exact ksx_out (f := Prod.snd) h (fun res hx => kc212_0 hx)
theorem kc213_0 {v1 v2 v3 v4 : _} {S : sT} {rs : (sRes sT)} (h : c213_0 v1 v2 v3 v4 S = some rs) : ks [4, 6, 7, 8, 9, 18, 19] S (r_S f_0 rs) := by
  have kc : ks [4, 6, 7, 8, 9, 18, 19] S S := ks.rf
  unfold c213_0 at h
  obtain ⟨q_1, h1, h⟩ := bd h
  have kc := kc.tr (ke212 h1) rfl
  obtain ⟨q_7, h2, h⟩ := bd h
  have kc := kc.tr (ke167 h2) rfl
  obtain ⟨q_13, h3, h⟩ := bd h
  have kc := kc.tr (ke176 h3) rfl
  obtain ⟨q_19, h4, h⟩ := bd h
  have kc := kc.tr (ke183 h4) rfl
  cases h
  exact kc
theorem ke213 {v1 v2 v3 v4 : _} {S : sT} {q : sT} (h : e213 v1 v2 v3 v4 S = some q) : ks [4, 6, 7, 8, 9, 18, 19] S q := by
  unfold e213 at h
  exact ksx_out (f := f_0) h (fun res hx => kc213_0 hx)
theorem kc214_0 {v1 v2 v3 : _} {S : sT} {rs : (sRes sT)} (h : c214_0 v1 v2 v3 S = some rs) : ks [4, 6, 7, 8, 9, 18, 19, 42, 44, 45, 46] S (r_S f_0 rs) := by
  have kc : ks [4, 6, 7, 8, 9, 18, 19, 42, 44, 45, 46] S S := ks.rf
  unfold c214_0 at h
  obtain ⟨q_1, h1, h⟩ := bd h
  have kc := kc.tr (ke165 h1) rfl
  cases h
  exact kc
theorem kc214_269 {v1 v2 v3 v4 v5 : _} {S : sT} {rs : (sRes sT)} (h : c214_269 v1 v2 v3 v4 v5 S = some rs) : ks [4, 6, 7, 8, 9, 18, 19, 42, 44, 45, 46] S (r_S f_0 rs) := by
  have kc : ks [4, 6, 7, 8, 9, 18, 19, 42, 44, 45, 46] S S := ks.rf
  unfold c214_269 at h
  cases h
  exact kc
theorem kc214_12 {v1 v2 v3 v4 v5 : _} {S : sT} {rs : (sRes sT)} (h : c214_12 v1 v2 v3 v4 v5 S = some rs) : ks [4, 6, 7, 8, 9, 18, 19, 42, 44, 45, 46] S (r_S f_0 rs) := by
  have kc : ks [4, 6, 7, 8, 9, 18, 19, 42, 44, 45, 46] S S := ks.rf
  unfold c214_12 at h
  obtain ⟨v_7, -, h⟩ := bd h
  rcases ite_some h with ⟨-, h⟩ | ⟨-, h⟩
  · cases h
    exact kc
  · obtain ⟨v_9, -, h⟩ := bd h
    rcases ite_some h with ⟨-, h⟩ | ⟨-, h⟩
    · obtain ⟨v_11, -, h⟩ := bd h
      obtain ⟨q_13, h4, h⟩ := bd h
      have kc := kc.tr (ke166 h4) rfl
      rcases ite_some h with ⟨-, h⟩ | ⟨-, h⟩
      · obtain ⟨v_19, -, h⟩ := bd h
        obtain ⟨q_21, h6, h⟩ := bd h
        have kc := kc.tr (ke166 h6) rfl
        rcases ite_some h with ⟨-, h⟩ | ⟨-, h⟩
        · obtain ⟨v_27, -, h⟩ := bd h
          rcases ite_some h with ⟨-, h⟩ | ⟨-, h⟩
          · obtain ⟨q_29, h8, h⟩ := bd h
            have kc := kc.tr (ke209 h8) rfl
            obtain ⟨S35, h9, h⟩ := bd h
            have kc := kc.tr (k_s_sl h9) rfl
            obtain ⟨v_41, -, h⟩ := bd h
            obtain ⟨S43, h11, h⟩ := bd h
            have kc := kc.tr (k_s_s h11) rfl
            obtain ⟨v_49, -, h⟩ := bd h
            obtain ⟨v_51, -, h⟩ := bd h
            rcases ite_some h with ⟨-, h⟩ | ⟨-, h⟩
            · cases h
              exact kc
            · cases h
              exact kc
          · cases h
            exact kc
        · exact kc.tt (kc214_269 h) (fun _ q => q)
      · exact kc.tt (kc214_269 h) (fun _ q => q)
    · exact kc.tt (kc214_269 h) (fun _ q => q)
theorem kc214_173 {v1 v2 v5 v6 v7 : _} {S : sT} {rs : (sRes sT)} (h : c214_173 v1 v2 v5 v6 v7 S = some rs) : ks [4, 6, 7, 8, 9, 18, 19, 42, 44, 45, 46] S (r_S f_0 rs) := by
  have kc : ks [4, 6, 7, 8, 9, 18, 19, 42, 44, 45, 46] S S := ks.rf
  unfold c214_173 at h
  obtain ⟨v_59, -, h⟩ := bd h
  rcases ite_some h with ⟨-, h⟩ | ⟨-, h⟩
  · obtain ⟨v_61, -, h⟩ := bd h
    obtain ⟨q_63, h3, h⟩ := bd h
    have kc := kc.tr (ke213 h3) rfl
    obtain ⟨q_69, h4, h⟩ := bd h
    have kc := kc.tr (ke203 h4) rfl
    cases h
    exact kc
  · obtain ⟨v_75, -, h⟩ := bd h
    obtain ⟨v_77, -, h⟩ := bd h
    obtain ⟨w_79, -, h⟩ := bd h
    obtain ⟨S81, h8, h⟩ := bd h
    have kc := kc.tr (k_s_sl h8) rfl
    cases h
    exact kc
theorem ke214 {v1 v2 v3 : _} {S : sT} {q : sT} (h : e214 v1 v2 v3 S = some q) : ks [4, 6, 7, 8, 9, 18, 19, 42, 44, 45, 46] S q := by
  unfold e214 at h
  refine ksx_go (f := f_0) (blk := kS214) ?_ h (fun res hx => kc214_0 hx)
  intro h as S res hk
  unfold kS214 at hk
  split at hk
  · split at hk
    · exact kc214_12 hk
    · cases hk
  · skip
    split at hk
    · split at hk
      · exact kc214_173 hk
      · cases hk
    · skip
      cases hk
theorem kc215_0 {v1 v2 : _} {S : sT} {rs : (sRes (Int32 × sT))} (h : c215_0 v1 v2 S = some rs) : ks [] S (r_S Prod.snd rs) := by
  have kc : ks [] S S := ks.rf
  unfold c215_0 at h
  cases h
  exact kc
theorem kc215_41 {v1 v2 v4 si0 : _} {S : sT} {rs : (sRes (Int32 × sT))} (h : c215_41 v1 v2 v4 si0 S = some rs) : ks [] S (r_S Prod.snd rs) := by
  have kc : ks [] S S := ks.rf
  unfold c215_41 at h
  cases h
  exact kc
theorem kc215_36 {v1 v2 v4 : _} {S : sT} {rs : (sRes (Int32 × sT))} (h : c215_36 v1 v2 v4 S = some rs) : ks [] S (r_S Prod.snd rs) := by
  have kc : ks [] S S := ks.rf
  unfold c215_36 at h
  exact kc.tt (kc215_41 h) (fun _ q => q)
theorem kc215_5 {v1 v2 v3 v4 : _} {S : sT} {rs : (sRes (Int32 × sT))} (h : c215_5 v1 v2 v3 v4 S = some rs) : ks [] S (r_S Prod.snd rs) := by
  have kc : ks [] S S := ks.rf
  unfold c215_5 at h
  obtain ⟨v_1, -, h⟩ := bd h
  rcases ite_some h with ⟨-, h⟩ | ⟨-, h⟩
  · rcases ite_some h with ⟨-, h⟩ | ⟨-, h⟩
    · cases h
      exact kc
    · cases h
  · rcases ite_some h with ⟨-, h⟩ | ⟨-, h⟩
    · obtain ⟨v_4, -, h⟩ := bd h
      rcases ite_some h with ⟨-, h⟩ | ⟨-, h⟩
      · exact kc.tt (kc215_36 h) (fun _ q => q)
      · exact kc.tt (kc215_41 h) (fun _ q => q)
    · exact kc.tt (kc215_36 h) (fun _ q => q)
theorem ke215 {v1 v2 : _} {S : sT} {q : Int32 × sT} (h : e215 v1 v2 S = some q) : ks [] S q.2 := by
  unfold e215 at h
  refine ksx_go (f := Prod.snd) (blk := kS215) ?_ h (fun res hx => kc215_0 hx)
  intro h as S res hk
  unfold kS215 at hk
  split at hk
  · split at hk
    · exact kc215_5 hk
    · cases hk
  · skip
    cases hk
theorem kc216_374 {S : sT} {rs : (sRes sT)} (h : c216_374  S = some rs) : ks [4, 6, 7, 8, 9, 18, 19, 43, 44, 46] S (r_S f_0 rs) := by
  have kc : ks [4, 6, 7, 8, 9, 18, 19, 43, 44, 46] S S := ks.rf
  unfold c216_374 at h
  cases h
  exact kc
theorem kc216_98 {v1 v2 : _} {S : sT} {rs : (sRes sT)} (h : c216_98 v1 v2 S = some rs) : ks [4, 6, 7, 8, 9, 18, 19, 43, 44, 46] S (r_S f_0 rs) := by
  have kc : ks [4, 6, 7, 8, 9, 18, 19, 43, 44, 46] S S := ks.rf
  unfold c216_98 at h
  obtain ⟨q_41, h1, h⟩ := bd h
  have kc := kc.tr (ke213 h1) rfl
  exact kc.tt (kc216_374 h) (fun _ q => q)
theorem kc216_109 {v1 v2 v3 v4 v5 v6 v7 : _} {S : sT} {rs : (sRes sT)} (h : c216_109 v1 v2 v3 v4 v5 v6 v7 S = some rs) : ks [4, 6, 7, 8, 9, 18, 19, 43, 44, 46] S (r_S f_0 rs) := by
  have kc : ks [4, 6, 7, 8, 9, 18, 19, 43, 44, 46] S S := ks.rf
  unfold c216_109 at h
  rcases ite_some h with ⟨-, h⟩ | ⟨-, h⟩
  · cases h
    exact kc
  · obtain ⟨v_47, -, h⟩ := bd h
    obtain ⟨S49, h2, h⟩ := bd h
    have kc := kc.tr (k_s_s h2) rfl
    obtain ⟨v_55, -, h⟩ := bd h
    obtain ⟨S57, h4, h⟩ := bd h
    have kc := kc.tr (k_s_s h4) rfl
    obtain ⟨q_63, h5, h⟩ := bd h
    have kc := kc.tr (ke166 h5) rfl
    obtain ⟨S69, h6, h⟩ := bd h
    have kc := kc.tr (k_s_s h6) rfl
    obtain ⟨v_75, -, h⟩ := bd h
    obtain ⟨S77, h8, h⟩ := bd h
    have kc := kc.tr (k_s_s h8) rfl
    obtain ⟨S83, h9, h⟩ := bd h
    have kc := kc.tr (k_s_s h9) rfl
    obtain ⟨S89, h10, h⟩ := bd h
    have kc := kc.tr (k_s_s h10) rfl
    obtain ⟨S95, h11, h⟩ := bd h
    have kc := kc.tr (k_s_s h11) rfl
    obtain ⟨S101, h12, h⟩ := bd h
    have kc := kc.tr (k_s_s h12) rfl
    obtain ⟨S107, h13, h⟩ := bd h
    have kc := kc.tr (k_s_s h13) rfl
    obtain ⟨v_113, -, h⟩ := bd h
    obtain ⟨S115, h15, h⟩ := bd h
    have kc := kc.tr (k_s_s h15) rfl
    obtain ⟨v_121, -, h⟩ := bd h
    obtain ⟨q_123, h17, h⟩ := bd h
    have kc := kc.tr (ke212 h17) rfl
    obtain ⟨q_129, h18, h⟩ := bd h
    have kc := kc.tr (ke167 h18) rfl
    obtain ⟨q_135, h19, h⟩ := bd h
    have kc := kc.tr (ke176 h19) rfl
    obtain ⟨q_141, h20, h⟩ := bd h
    have kc := kc.tr (ke183 h20) rfl
    exact kc.tt (kc216_374 h) (fun _ q => q)
theorem kc216_25 {v1 v2 v3 v4 si0 : _} {S : sT} {rs : (sRes sT)} (h : c216_25 v1 v2 v3 v4 si0 S = some rs) : ks [4, 6, 7, 8, 9, 18, 19, 43, 44, 46] S (r_S f_0 rs) := by
  have kc : ks [4, 6, 7, 8, 9, 18, 19, 43, 44, 46] S S := ks.rf
  unfold c216_25 at h
  obtain ⟨q_14, h1, h⟩ := bd h
  have kc := kc.tr (ke165 h1) rfl
  obtain ⟨q_20, h2, h⟩ := bd h
  have kc := kc.tr (ke165 h2) rfl
  obtain ⟨q_26, h3, h⟩ := bd h
  have kc := kc.tr (ke215 h3) rfl
  rcases ite_some h with ⟨-, h⟩ | ⟨-, h⟩
  · exact kc.tt (kc216_98 h) (fun _ q => q)
  · rcases ite_some h with ⟨-, h⟩ | ⟨-, h⟩
    · exact kc.tt (kc216_98 h) (fun _ q => q)
    · rcases ite_some h with ⟨-, h⟩ | ⟨-, h⟩
      · exact kc.tt (kc216_98 h) (fun _ q => q)
      · rcases ite_some h with ⟨-, h⟩ | ⟨-, h⟩
        · exact kc.tt (kc216_98 h) (fun _ q => q)
        · rcases ite_some h with ⟨-, h⟩ | ⟨-, h⟩
          · exact kc.tt (kc216_98 h) (fun _ q => q)
          · rcases ite_some h with ⟨-, h⟩ | ⟨-, h⟩
            · exact kc.tt (kc216_109 h) (fun _ q => q)
            · obtain ⟨v_32, -, h⟩ := bd h
              rcases ite_some h with ⟨-, h⟩ | ⟨-, h⟩
              · exact kc.tt (kc216_98 h) (fun _ q => q)
              · exact kc.tt (kc216_109 h) (fun _ q => q)
theorem kc216_0 {v1 v2 v3 : _} {S : sT} {rs : (sRes sT)} (h : c216_0 v1 v2 v3 S = some rs) : ks [4, 6, 7, 8, 9, 18, 19, 43, 44, 46] S (r_S f_0 rs) := by
  have kc : ks [4, 6, 7, 8, 9, 18, 19, 43, 44, 46] S S := ks.rf
  unfold c216_0 at h
  obtain ⟨q_1, h1, h⟩ := bd h
  have kc := kc.tr (ke165 h1) rfl
  obtain ⟨q_7, h2, h⟩ := bd h
  have kc := kc.tr (ke165 h2) rfl
  rcases ite_some h with ⟨-, h⟩ | ⟨-, h⟩
  · exact kc.tt (kc216_25 h) (fun _ q => q)
  · exact kc.tt (kc216_25 h) (fun _ q => q)
theorem kc216_117 {v1 v2 v4 v6 v7 v8 : _} {S : sT} {rs : (sRes sT)} (h : c216_117 v1 v2 v4 v6 v7 v8 S = some rs) : ks [4, 6, 7, 8, 9, 18, 19, 43, 44, 46] S (r_S f_0 rs) := by
  have kc : ks [4, 6, 7, 8, 9, 18, 19, 43, 44, 46] S S := ks.rf
  unfold c216_117 at h
  rcases ite_some h with ⟨-, h⟩ | ⟨-, h⟩
  · obtain ⟨q_148, h1, h⟩ := bd h
    have kc := kc.tr (ke213 h1) rfl
    exact kc.tt (kc216_374 h) (fun _ q => q)
  · obtain ⟨q_154, h2, h⟩ := bd h
    have kc := kc.tr (ke212 h2) rfl
    obtain ⟨w_160, -, h⟩ := bd h
    obtain ⟨q_162, h4, h⟩ := bd h
    have kc := kc.tr (ke167 h4) rfl
    obtain ⟨q_168, h5, h⟩ := bd h
    have kc := kc.tr (ke176 h5) rfl
    obtain ⟨q_174, h6, h⟩ := bd h
    have kc := kc.tr (ke183 h6) rfl
    cases h
    exact kc
theorem ke216 {v1 v2 v3 : _} {S : sT} {q : sT} (h : e216 v1 v2 v3 S = some q) : ks [4, 6, 7, 8, 9, 18, 19, 43, 44, 46] S q := by
  unfold e216 at h
  refine ksx_go (f := f_0) (blk := kS216) ?_ h (fun res hx => kc216_0 hx)
  intro h as S res hk
  unfold kS216 at hk
  split at hk
  · split at hk
    · exact kc216_117 hk
    · cases hk
  · skip
    cases hk
theorem kc217_67 {v1 v2 : _} {S : sT} {rs : (sRes sT)} (h : c217_67 v1 v2 S = some rs) : ks [40, 41] S (r_S f_0 rs) := by
  have kc : ks [40, 41] S S := ks.rf
  unfold c217_67 at h
  obtain ⟨v_26, -, h⟩ := bd h
  obtain ⟨S28, h2, h⟩ := bd h
  have kc := kc.tr (k_s_s h2) rfl
  obtain ⟨v_34, -, h⟩ := bd h
  obtain ⟨S36, h4, h⟩ := bd h
  have kc := kc.tr (k_s_s h4) rfl
  cases h
  exact kc
theorem kc217_0 {v1 v2 : _} {S : sT} {rs : (sRes sT)} (h : c217_0 v1 v2 S = some rs) : ks [40, 41] S (r_S f_0 rs) := by
  have kc : ks [40, 41] S S := ks.rf
  unfold c217_0 at h
  obtain ⟨q_1, h1, h⟩ := bd h
  have kc := kc.tr (ke215 h1) rfl
  rcases ite_some h with ⟨-, h⟩ | ⟨-, h⟩
  · obtain ⟨v_7, -, h⟩ := bd h
    rcases ite_some h with ⟨-, h⟩ | ⟨-, h⟩
    · cases h
      exact kc
    · exact kc.tt (kc217_67 h) (fun _ q => q)
  · cases h
    exact kc
theorem kc217_23 {v1 v2 v3 : _} {S : sT} {rs : (sRes sT)} (h : c217_23 v1 v2 v3 S = some rs) : ks [40, 41] S (r_S f_0 rs) := by
  have kc : ks [40, 41] S S := ks.rf
  unfold c217_23 at h
  rcases ite_some h with ⟨-, h⟩ | ⟨-, h⟩
  · obtain ⟨S11, h1, h⟩ := bd h
    have kc := kc.tr (k_s_s h1) rfl
    exact kc.tt (kc217_67 h) (fun _ q => q)
  · obtain ⟨v_17, -, h⟩ := bd h
    obtain ⟨S19, h3, h⟩ := bd h
    have kc := kc.tr (k_s_s h3) rfl
    cases h
    exact kc
theorem ke217 {v1 v2 : _} {S : sT} {q : sT} (h : e217 v1 v2 S = some q) : ks [40, 41] S q := by
  unfold e217 at h
  refine ksx_go (f := f_0) (blk := kS217) ?_ h (fun res hx => kc217_0 hx)
  intro h as S res hk
  unfold kS217 at hk
  split at hk
  · split at hk
    · exact kc217_23 hk
    · cases hk
  · skip
    cases hk
theorem kc218_203 {S : sT} {rs : (sRes sT)} (h : c218_203  S = some rs) : ks [4, 6, 7, 8, 9, 18, 19, 40, 41, 42, 43, 44, 45, 46] S (r_S f_0 rs) := by
  have kc : ks [4, 6, 7, 8, 9, 18, 19, 40, 41, 42, 43, 44, 45, 46] S S := ks.rf
  unfold c218_203 at h
  cases h
  exact kc
theorem kc218_0 {v1 v2 : _} {S : sT} {rs : (sRes sT)} (h : c218_0 v1 v2 S = some rs) : ks [4, 6, 7, 8, 9, 18, 19, 40, 41, 42, 43, 44, 45, 46] S (r_S f_0 rs) := by
  have kc : ks [4, 6, 7, 8, 9, 18, 19, 40, 41, 42, 43, 44, 45, 46] S S := ks.rf
  unfold c218_0 at h
  obtain ⟨q_1, h1, h⟩ := bd h
  have kc := kc.tr (ke166 h1) rfl
  obtain ⟨q_7, h2, h⟩ := bd h
  have kc := kc.tr (ke165 h2) rfl
  rcases ite_some h with ⟨-, h⟩ | ⟨-, h⟩
  · obtain ⟨q_13, h3, h⟩ := bd h
    have kc := kc.tr (ke217 h3) rfl
    obtain ⟨q_19, h4, h⟩ := bd h
    have kc := kc.tr (ke176 h4) rfl
    obtain ⟨q_25, h5, h⟩ := bd h
    have kc := kc.tr (ke212 h5) rfl
    obtain ⟨q_31, h6, h⟩ := bd h
    have kc := kc.tr (ke183 h6) rfl
    exact kc.tt (kc218_203 h) (fun _ q => q)
  · rcases ite_some h with ⟨-, h⟩ | ⟨-, h⟩
    · exact kc.tt (kc218_203 h) (fun _ q => q)
    · rcases ite_some h with ⟨-, h⟩ | ⟨-, h⟩
      · obtain ⟨q_37, h7, h⟩ := bd h
        have kc := kc.tr (ke216 h7) rfl
        exact kc.tt (kc218_203 h) (fun _ q => q)
      · rcases ite_some h with ⟨-, h⟩ | ⟨-, h⟩
        · exact kc.tt (kc218_203 h) (fun _ q => q)
        · rcases ite_some h with ⟨-, h⟩ | ⟨-, h⟩
          · obtain ⟨q_43, h8, h⟩ := bd h
            have kc := kc.tr (ke214 h8) rfl
            exact kc.tt (kc218_203 h) (fun _ q => q)
          · rcases ite_some h with ⟨-, h⟩ | ⟨-, h⟩
            · exact kc.tt (kc218_203 h) (fun _ q => q)
            · rcases ite_some h with ⟨-, h⟩ | ⟨-, h⟩
              · cases h
                exact kc
              · exact kc.tt (kc218_203 h) (fun _ q => q)
theorem kc218_175 {v1 v2 v3 v4 : _} {S : sT} {rs : (sRes sT)} (h : c218_175 v1 v2 v3 v4 S = some rs) : ks [4, 6, 7, 8, 9, 18, 19, 40, 41, 42, 43, 44, 45, 46] S (r_S f_0 rs) := by
  have kc : ks [4, 6, 7, 8, 9, 18, 19, 40, 41, 42, 43, 44, 45, 46] S S := ks.rf
  unfold c218_175 at h
  cases h
  exact kc
theorem kc218_107 {v1 v2 v3 v4 : _} {S : sT} {rs : (sRes sT)} (h : c218_107 v1 v2 v3 v4 S = some rs) : ks [4, 6, 7, 8, 9, 18, 19, 40, 41, 42, 43, 44, 45, 46] S (r_S f_0 rs) := by
  have kc : ks [4, 6, 7, 8, 9, 18, 19, 40, 41, 42, 43, 44, 45, 46] S S := ks.rf
  unfold c218_107 at h
  obtain ⟨v_56, -, h⟩ := bd h
  rcases ite_some h with ⟨-, h⟩ | ⟨-, h⟩
  · obtain ⟨q_58, h2, h⟩ := bd h
    have kc := kc.tr (ke176 h2) rfl
    obtain ⟨q_64, h3, h⟩ := bd h
    have kc := kc.tr (ke212 h3) rfl
    obtain ⟨q_70, h4, h⟩ := bd h
    have kc := kc.tr (ke183 h4) rfl
    exact kc.tt (kc218_203 h) (fun _ q => q)
  · obtain ⟨v_76, -, h⟩ := bd h
    rcases ite_some h with ⟨-, h⟩ | ⟨-, h⟩
    · obtain ⟨v_78, -, h⟩ := bd h
      obtain ⟨q_80, h7, h⟩ := bd h
      have kc := kc.tr (ke166 h7) rfl
      rcases ite_some h with ⟨-, h⟩ | ⟨-, h⟩
      · obtain ⟨q_86, h8, h⟩ := bd h
        have kc := kc.tr (ke203 h8) rfl
        cases h
        exact kc
      · exact kc.tt (kc218_175 h) (fun _ q => q)
    · exact kc.tt (kc218_175 h) (fun _ q => q)
theorem ke218 {v1 v2 : _} {S : sT} {q : sT} (h : e218 v1 v2 S = some q) : ks [4, 6, 7, 8, 9, 18, 19, 40, 41, 42, 43, 44, 45, 46] S q := by
  unfold e218 at h
  refine ksx_go (f := f_0) (blk := kS218) ?_ h (fun res hx => kc218_0 hx)
  intro h as S res hk
  unfold kS218 at hk
  split at hk
  · split at hk
    · exact kc218_107 hk
    · cases hk
  · skip
    cases hk
theorem kc219_24 {S : sT} {rs : (sRes sT)} (h : c219_24  S = some rs) : ks [4, 6, 7, 8, 9, 18, 19, 39, 40, 41, 42, 43, 44, 45, 46, 54, 55, 56, 57, 59, 60] S (r_S f_0 rs) := by
  have kc : ks [4, 6, 7, 8, 9, 18, 19, 39, 40, 41, 42, 43, 44, 45, 46, 54, 55, 56, 57, 59, 60] S S := ks.rf
  unfold c219_24 at h
  cases h
  exact kc
theorem kc219_0 {v1 v2 : _} {S : sT} {rs : (sRes sT)} (h : c219_0 v1 v2 S = some rs) : ks [4, 6, 7, 8, 9, 18, 19, 39, 40, 41, 42, 43, 44, 45, 46, 54, 55, 56, 57, 59, 60] S (r_S f_0 rs) := by
  have kc : ks [4, 6, 7, 8, 9, 18, 19, 39, 40, 41, 42, 43, 44, 45, 46, 54, 55, 56, 57, 59, 60] S S := ks.rf
  unfold c219_0 at h
  obtain ⟨v_1, -, h⟩ := bd h
  rcases ite_some h with ⟨-, h⟩ | ⟨-, h⟩
  · obtain ⟨q_3, h2, h⟩ := bd h
    have kc := kc.tr (ke211 h2) rfl
    exact kc.tt (kc219_24 h) (fun _ q => q)
  · obtain ⟨q_9, h3, h⟩ := bd h
    have kc := kc.tr (ke218 h3) rfl
    exact kc.tt (kc219_24 h) (fun _ q => q)
theorem ke219 {v1 v2 : _} {S : sT} {q : sT} (h : e219 v1 v2 S = some q) : ks [4, 6, 7, 8, 9, 18, 19, 39, 40, 41, 42, 43, 44, 45, 46, 54, 55, 56, 57, 59, 60] S q := by
  unfold e219 at h
  exact ksx_out (f := f_0) h (fun res hx => kc219_0 hx)
theorem kc220_24 {v1 v2 : _} {S : sT} {rs : (sRes sT)} (h : c220_24 v1 v2 S = some rs) : ks [35, 39, 41, 46] S (r_S f_0 rs) := by
  have kc : ks [35, 39, 41, 46] S S := ks.rf
  unfold c220_24 at h
  obtain ⟨S13, h1, h⟩ := bd h
  have kc := kc.tr (k_s_s h1) rfl
  cases h
  exact kc
theorem kc220_0 {v1 v2 : _} {S : sT} {rs : (sRes sT)} (h : c220_0 v1 v2 S = some rs) : ks [35, 39, 41, 46] S (r_S f_0 rs) := by
  have kc : ks [35, 39, 41, 46] S S := ks.rf
  unfold c220_0 at h
  obtain ⟨v_1, -, h⟩ := bd h
  rcases ite_some h with ⟨-, h⟩ | ⟨-, h⟩
  · exact kc.tt (kc220_24 h) (fun _ q => q)
  · obtain ⟨v_3, -, h⟩ := bd h
    rcases ite_some h with ⟨-, h⟩ | ⟨-, h⟩
    · exact kc.tt (kc220_24 h) (fun _ q => q)
    · obtain ⟨q_5, h3, h⟩ := bd h
      have kc := kc.tr (ke186 h3) rfl
      exact kc.tt (kc220_24 h) (fun _ q => q)
theorem ke220 {v1 v2 : _} {S : sT} {q : sT} (h : e220 v1 v2 S = some q) : ks [35, 39, 41, 46] S q := by
  unfold e220 at h
  exact ksx_out (f := f_0) h (fun res hx => kc220_0 hx)
theorem kc221_0 {v1 : _} {S : sT} {rs : (sRes sT)} (h : c221_0 v1 S = some rs) : ks [4, 5, 6, 7, 8, 9, 15, 16, 17, 18, 19, 20, 21, 22, 35, 36, 39, 40, 41, 42, 43, 44, 45, 46, 54, 55, 56, 57, 59, 60] S (r_S f_0 rs) := by
  have kc : ks [4, 5, 6, 7, 8, 9, 15, 16, 17, 18, 19, 20, 21, 22, 35, 36, 39, 40, 41, 42, 43, 44, 45, 46, 54, 55, 56, 57, 59, 60] S S := ks.rf
  unfold c221_0 at h
  obtain ⟨q_1, h1, h⟩ := bd h
  have kc := kc.tr (ke176 h1) rfl
  cases h
  exact kc
theorem kc221_110 {v1 v2 v3 : _} {S : sT} {rs : (sRes sT)} (h : c221_110 v1 v2 v3 S = some rs) : ks [4, 5, 6, 7, 8, 9, 15, 16, 17, 18, 19, 20, 21, 22, 35, 36, 39, 40, 41, 42, 43, 44, 45, 46, 54, 55, 56, 57, 59, 60] S (r_S f_0 rs) := by
  have kc : ks [4, 5, 6, 7, 8, 9, 15, 16, 17, 18, 19, 20, 21, 22, 35, 36, 39, 40, 41, 42, 43, 44, 45, 46, 54, 55, 56, 57, 59, 60] S S := ks.rf
  unfold c221_110 at h
  obtain ⟨q_81, h1, h⟩ := bd h
  have kc := kc.tr (ke171 h1) rfl
  cases h
  exact kc
theorem kc221_84 {v1 v2 v3 v4 : _} {S : sT} {rs : (sRes sT)} (h : c221_84 v1 v2 v3 v4 S = some rs) : ks [4, 5, 6, 7, 8, 9, 15, 16, 17, 18, 19, 20, 21, 22, 35, 36, 39, 40, 41, 42, 43, 44, 45, 46, 54, 55, 56, 57, 59, 60] S (r_S f_0 rs) := by
  have kc : ks [4, 5, 6, 7, 8, 9, 15, 16, 17, 18, 19, 20, 21, 22, 35, 36, 39, 40, 41, 42, 43, 44, 45, 46, 54, 55, 56, 57, 59, 60] S S := ks.rf
  unfold c221_84 at h
  obtain ⟨v_69, -, h⟩ := bd h
  rcases ite_some h with ⟨-, h⟩ | ⟨-, h⟩
  · exact kc.tt (kc221_110 h) (fun _ q => q)
  · obtain ⟨v_71, -, h⟩ := bd h
    rcases ite_some h with ⟨-, h⟩ | ⟨-, h⟩
    · obtain ⟨q_73, h3, h⟩ := bd h
      have kc := kc.tr (ke219 h3) rfl
      exact kc.tt (kc221_110 h) (fun _ q => q)
    · exact kc.tt (kc221_110 h) (fun _ q => q)
theorem kc221_6 {v1 v2 : _} {S : sT} {rs : (sRes sT)} (h : c221_6 v1 v2 S = some rs) : ks [4, 5, 6, 7, 8, 9, 15, 16, 17, 18, 19, 20, 21, 22, 35, 36, 39, 40, 41, 42, 43, 44, 45, 46, 54, 55, 56, 57, 59, 60] S (r_S f_0 rs) := by
  have kc : ks [4, 5, 6, 7, 8, 9, 15, 16, 17, 18, 19, 20, 21, 22, 35, 36, 39, 40, 41, 42, 43, 44, 45, 46, 54, 55, 56, 57, 59, 60] S S := ks.rf
  unfold c221_6 at h
  obtain ⟨v_7, -, h⟩ := bd h
  rcases ite_some h with ⟨-, h⟩ | ⟨-, h⟩
  · obtain ⟨q_9, h2, h⟩ := bd h
    have kc := kc.tr (ke208 h2) rfl
    obtain ⟨q_15, h3, h⟩ := bd h
    have kc := kc.tr (ke184 h3) rfl
    cases h
    exact kc
  · obtain ⟨q_21, h4, h⟩ := bd h
    have kc := kc.tr (ke185 h4) rfl
    obtain ⟨q_27, h5, h⟩ := bd h
    have kc := kc.tr (ke166 h5) rfl
    obtain ⟨q_33, h6, h⟩ := bd h
    have kc := kc.tr (ke174 h6) rfl
    rcases ite_some h with ⟨-, h⟩ | ⟨-, h⟩
    · obtain ⟨v_59, -, h⟩ := bd h
      obtain ⟨S61, h8, h⟩ := bd h
      have kc := kc.tr (k_s_s h8) rfl
      exact kc.tt (kc221_110 h) (fun _ q => q)
    · obtain ⟨q_39, h9, h⟩ := bd h
      have kc := kc.tr (ke165 h9) rfl
      rcases ite_some h with ⟨-, h⟩ | ⟨-, h⟩
      · obtain ⟨q_45, h10, h⟩ := bd h
        have kc := kc.tr (ke166 h10) rfl
        rcases ite_some h with ⟨-, h⟩ | ⟨-, h⟩
        · obtain ⟨q_51, h11, h⟩ := bd h
          have kc := kc.tr (ke220 h11) rfl
          exact kc.tt (kc221_110 h) (fun _ q => q)
        · exact kc.tt (kc221_84 h) (fun _ q => q)
      · exact kc.tt (kc221_84 h) (fun _ q => q)
theorem ke221 {v1 : _} {S : sT} {q : sT} (h : e221 v1 S = some q) : ks [4, 5, 6, 7, 8, 9, 15, 16, 17, 18, 19, 20, 21, 22, 35, 36, 39, 40, 41, 42, 43, 44, 45, 46, 54, 55, 56, 57, 59, 60] S q := by
  unfold e221 at h
  refine ksx_go (f := f_0) (blk := kS221) ?_ h (fun res hx => kc221_0 hx)
  intro h as S res hk
  unfold kS221 at hk
  split at hk
  · split at hk
    · exact kc221_6 hk
    · cases hk
  · skip
    cases hk
theorem kc222_0 {v1 v2 v3 : _} {S : sT} {rs : (sRes sT)} (h : c222_0 v1 v2 v3 S = some rs) : ks [4, 6, 7, 8, 9, 18, 19] S (r_S f_0 rs) := by
  have kc : ks [4, 6, 7, 8, 9, 18, 19] S S := ks.rf
  unfold c222_0 at h
  cases h
  exact kc
theorem kc222_48 {v1 v2 v3 v4 : _} {S : sT} {rs : (sRes sT)} (h : c222_48 v1 v2 v3 v4 S = some rs) : ks [4, 6, 7, 8, 9, 18, 19] S (r_S f_0 rs) := by
  have kc : ks [4, 6, 7, 8, 9, 18, 19] S S := ks.rf
  unfold c222_48 at h
  cases h
  exact kc
theorem kc222_3 {v1 v2 v3 v4 : _} {S : sT} {rs : (sRes sT)} (h : c222_3 v1 v2 v3 v4 S = some rs) : ks [4, 6, 7, 8, 9, 18, 19] S (r_S f_0 rs) := by
  have kc : ks [4, 6, 7, 8, 9, 18, 19] S S := ks.rf
  unfold c222_3 at h
  rcases ite_some h with ⟨-, h⟩ | ⟨-, h⟩
  · cases h
    exact kc
  · obtain ⟨q_1, h1, h⟩ := bd h
    have kc := kc.tr (ke175 h1) rfl
    obtain ⟨v_7, -, h⟩ := bd h
    rcases ite_some h with ⟨-, h⟩ | ⟨-, h⟩
    · exact kc.tt (kc222_48 h) (fun _ q => q)
    · rcases ite_some h with ⟨-, h⟩ | ⟨-, h⟩
      · exact kc.tt (kc222_48 h) (fun _ q => q)
      · obtain ⟨q_9, h3, h⟩ := bd h
        have kc := kc.tr (ke202 h3) rfl
        obtain ⟨q_15, h4, h⟩ := bd h
        have kc := kc.tr (ke183 h4) rfl
        exact kc.tt (kc222_48 h) (fun _ q => q)
theorem ke222 {v1 v2 v3 : _} {S : sT} {q : sT} (h : e222 v1 v2 v3 S = some q) : ks [4, 6, 7, 8, 9, 18, 19] S q := by
  unfold e222 at h
  refine ksx_go (f := f_0) (blk := kS222) ?_ h (fun res hx => kc222_0 hx)
  intro h as S res hk
  unfold kS222 at hk
  split at hk
  · split at hk
    · exact kc222_3 hk
    · cases hk
  · skip
    cases hk
theorem kc223_0 {v1 : _} {S : sT} {rs : (sRes sT)} (h : c223_0 v1 S = some rs) : ks [4, 6, 7, 8, 9, 18, 19, 27, 28, 29, 30, 31] S (r_S f_0 rs) := by
  have kc : ks [4, 6, 7, 8, 9, 18, 19, 27, 28, 29, 30, 31] S S := ks.rf
  unfold c223_0 at h
  obtain ⟨S1, h1, h⟩ := bd h
  have kc := kc.tr (k_s_s h1) rfl
  obtain ⟨v_7, -, h⟩ := bd h
  obtain ⟨S9, h3, h⟩ := bd h
  have kc := kc.tr (k_s_s h3) rfl
  cases h
  exact kc
theorem kc223_108 {v1 v2 v3 v4 : _} {S : sT} {rs : (sRes sT)} (h : c223_108 v1 v2 v3 v4 S = some rs) : ks [4, 6, 7, 8, 9, 18, 19, 27, 28, 29, 30, 31] S (r_S f_0 rs) := by
  have kc : ks [4, 6, 7, 8, 9, 18, 19, 27, 28, 29, 30, 31] S S := ks.rf
  unfold c223_108 at h
  cases h
  exact kc
theorem kc223_29 {v1 v2 v3 v4 : _} {S : sT} {rs : (sRes sT)} (h : c223_29 v1 v2 v3 v4 S = some rs) : ks [4, 6, 7, 8, 9, 18, 19, 27, 28, 29, 30, 31] S (r_S f_0 rs) := by
  have kc : ks [4, 6, 7, 8, 9, 18, 19, 27, 28, 29, 30, 31] S S := ks.rf
  unfold c223_29 at h
  rcases ite_some h with ⟨-, h⟩ | ⟨-, h⟩
  · obtain ⟨S15, h1, h⟩ := bd h
    have kc := kc.tr (k_s_s h1) rfl
    cases h
    exact kc
  · obtain ⟨q_21, h2, h⟩ := bd h
    have kc := kc.tr (ke175 h2) rfl
    obtain ⟨v_27, -, h⟩ := bd h
    rcases ite_some h with ⟨-, h⟩ | ⟨-, h⟩
    · exact kc.tt (kc223_108 h) (fun _ q => q)
    · obtain ⟨S29, h4, h⟩ := bd h
      have kc := kc.tr (k_s_s h4) rfl
      obtain ⟨v_35, -, h⟩ := bd h
      obtain ⟨S37, h6, h⟩ := bd h
      have kc := kc.tr (k_s_s h6) rfl
      obtain ⟨v_43, -, h⟩ := bd h
      obtain ⟨v_45, -, h⟩ := bd h
      obtain ⟨S47, h9, h⟩ := bd h
      have kc := kc.tr (k_s_s h9) rfl
      exact kc.tt (kc223_108 h) (fun _ q => q)
theorem kc223_195 {v1 v2 v3 v4 v5 : _} {S : sT} {rs : (sRes sT)} (h : c223_195 v1 v2 v3 v4 v5 S = some rs) : ks [4, 6, 7, 8, 9, 18, 19, 27, 28, 29, 30, 31] S (r_S f_0 rs) := by
  have kc : ks [4, 6, 7, 8, 9, 18, 19, 27, 28, 29, 30, 31] S S := ks.rf
  unfold c223_195 at h
  cases h
  exact kc
theorem kc223_259 {v1 v2 v5 si0 : _} {S : sT} {rs : (sRes sT)} (h : c223_259 v1 v2 v5 si0 S = some rs) : ks [4, 6, 7, 8, 9, 18, 19, 27, 28, 29, 30, 31] S (r_S f_0 rs) := by
  have kc : ks [4, 6, 7, 8, 9, 18, 19, 27, 28, 29, 30, 31] S S := ks.rf
  unfold c223_259 at h
  cases h
  exact kc
theorem kc223_258 {v1 v2 v5 : _} {S : sT} {rs : (sRes sT)} (h : c223_258 v1 v2 v5 S = some rs) : ks [4, 6, 7, 8, 9, 18, 19, 27, 28, 29, 30, 31] S (r_S f_0 rs) := by
  have kc : ks [4, 6, 7, 8, 9, 18, 19, 27, 28, 29, 30, 31] S S := ks.rf
  unfold c223_258 at h
  exact kc.tt (kc223_259 h) (fun _ q => q)
theorem kc223_132 {v1 v2 v3 v4 v5 : _} {S : sT} {rs : (sRes sT)} (h : c223_132 v1 v2 v3 v4 v5 S = some rs) : ks [4, 6, 7, 8, 9, 18, 19, 27, 28, 29, 30, 31] S (r_S f_0 rs) := by
  have kc : ks [4, 6, 7, 8, 9, 18, 19, 27, 28, 29, 30, 31] S S := ks.rf
  unfold c223_132 at h
  rcases ite_some h with ⟨-, h⟩ | ⟨-, h⟩
  · obtain ⟨S55, h1, h⟩ := bd h
    have kc := kc.tr (k_s_s h1) rfl
    obtain ⟨v_61, -, h⟩ := bd h
    rcases ite_some h with ⟨-, h⟩ | ⟨-, h⟩
    · exact kc.tt (kc223_258 h) (fun _ q => q)
    · obtain ⟨v_63, -, h⟩ := bd h
      rcases ite_some h with ⟨-, h⟩ | ⟨-, h⟩
      · obtain ⟨v_65, -, h⟩ := bd h
        rcases ite_some h with ⟨-, h⟩ | ⟨-, h⟩
        · exact kc.tt (kc223_258 h) (fun _ q => q)
        · exact kc.tt (kc223_259 h) (fun _ q => q)
      · exact kc.tt (kc223_258 h) (fun _ q => q)
  · obtain ⟨q_70, h5, h⟩ := bd h
    have kc := kc.tr (ke175 h5) rfl
    obtain ⟨v_76, -, h⟩ := bd h
    rcases ite_some h with ⟨-, h⟩ | ⟨-, h⟩
    · exact kc.tt (kc223_195 h) (fun _ q => q)
    · obtain ⟨q_78, h7, h⟩ := bd h
      have kc := kc.tr (ke175 h7) rfl
      obtain ⟨v_84, -, h⟩ := bd h
      obtain ⟨q_86, h9, h⟩ := bd h
      have kc := kc.tr (ke189 h9) rfl
      obtain ⟨S92, h10, h⟩ := bd h
      have kc := kc.tr (k_s_s h10) rfl
      obtain ⟨S98, h11, h⟩ := bd h
      have kc := kc.tr (k_s_s h11) rfl
      exact kc.tt (kc223_195 h) (fun _ q => q)
theorem kc223_303 {v1 v2 v5 v7 si0 : _} {S : sT} {rs : (sRes sT)} (h : c223_303 v1 v2 v5 v7 si0 S = some rs) : ks [4, 6, 7, 8, 9, 18, 19, 27, 28, 29, 30, 31] S (r_S f_0 rs) := by
  have kc : ks [4, 6, 7, 8, 9, 18, 19, 27, 28, 29, 30, 31] S S := ks.rf
  unfold c223_303 at h
  cases h
  exact kc
theorem kc223_339 {v1 v2 v5 si0 : _} {S : sT} {rs : (sRes sT)} (h : c223_339 v1 v2 v5 si0 S = some rs) : ks [4, 6, 7, 8, 9, 18, 19, 27, 28, 29, 30, 31] S (r_S f_0 rs) := by
  have kc : ks [4, 6, 7, 8, 9, 18, 19, 27, 28, 29, 30, 31] S S := ks.rf
  unfold c223_339 at h
  obtain ⟨S123, h1, h⟩ := bd h
  have kc := kc.tr (k_s_s h1) rfl
  obtain ⟨S129, h2, h⟩ := bd h
  have kc := kc.tr (k_s_s h2) rfl
  obtain ⟨S135, h3, h⟩ := bd h
  have kc := kc.tr (k_s_s h3) rfl
  cases h
  exact kc
theorem kc223_311 {v1 v2 v5 v6 : _} {S : sT} {rs : (sRes sT)} (h : c223_311 v1 v2 v5 v6 S = some rs) : ks [4, 6, 7, 8, 9, 18, 19, 27, 28, 29, 30, 31] S (r_S f_0 rs) := by
  have kc : ks [4, 6, 7, 8, 9, 18, 19, 27, 28, 29, 30, 31] S S := ks.rf
  unfold c223_311 at h
  rcases ite_some h with ⟨-, h⟩ | ⟨-, h⟩
  · obtain ⟨v_113, -, h⟩ := bd h
    rcases ite_some h with ⟨-, h⟩ | ⟨-, h⟩
    · exact kc.tt (kc223_339 h) (fun _ q => q)
    · obtain ⟨q_115, h2, h⟩ := bd h
      have kc := kc.tr (ke191 h2) rfl
      exact kc.tt (kc223_339 h) (fun _ q => q)
  · cases h
    exact kc
theorem kc223_264 {v1 v2 v5 v6 v7 : _} {S : sT} {rs : (sRes sT)} (h : c223_264 v1 v2 v5 v6 v7 S = some rs) : ks [4, 6, 7, 8, 9, 18, 19, 27, 28, 29, 30, 31] S (r_S f_0 rs) := by
  have kc : ks [4, 6, 7, 8, 9, 18, 19, 27, 28, 29, 30, 31] S S := ks.rf
  unfold c223_264 at h
  rcases ite_some h with ⟨-, h⟩ | ⟨-, h⟩
  · exact kc.tt (kc223_311 h) (fun _ q => q)
  · rcases ite_some h with ⟨-, h⟩ | ⟨-, h⟩
    · exact kc.tt (kc223_311 h) (fun _ q => q)
    · obtain ⟨v_106, -, h⟩ := bd h
      obtain ⟨v_108, -, h⟩ := bd h
      rcases ite_some h with ⟨-, h⟩ | ⟨-, h⟩
      · exact kc.tt (kc223_303 h) (fun _ q => q)
      · exact kc.tt (kc223_303 h) (fun _ q => q)
theorem kc223_386 {v1 v2 v5 v8 : _} {S : sT} {rs : (sRes sT)} (h : c223_386 v1 v2 v5 v8 S = some rs) : ks [4, 6, 7, 8, 9, 18, 19, 27, 28, 29, 30, 31] S (r_S f_0 rs) := by
  have kc : ks [4, 6, 7, 8, 9, 18, 19, 27, 28, 29, 30, 31] S S := ks.rf
  unfold c223_386 at h
  rcases ite_some h with ⟨-, h⟩ | ⟨-, h⟩
  · obtain ⟨S141, h1, h⟩ := bd h
    have kc := kc.tr (k_s_s h1) rfl
    obtain ⟨S147, h2, h⟩ := bd h
    have kc := kc.tr (k_s_sz h2) rfl
    obtain ⟨S153, h3, h⟩ := bd h
    have kc := kc.tr (k_s_s h3) rfl
    obtain ⟨v_159, -, h⟩ := bd h
    obtain ⟨S161, h5, h⟩ := bd h
    have kc := kc.tr (k_s_s h5) rfl
    obtain ⟨q_167, h6, h⟩ := bd h
    have kc := kc.tr (ke222 h6) rfl
    cases h
    exact kc
  · obtain ⟨v_173, -, h⟩ := bd h
    obtain ⟨S175, h8, h⟩ := bd h
    have kc := kc.tr (k_s_s h8) rfl
    cases h
    exact kc
theorem ke223 {v1 : _} {S : sT} {q : sT} (h : e223 v1 S = some q) : ks [4, 6, 7, 8, 9, 18, 19, 27, 28, 29, 30, 31] S q := by
  unfold e223 at h
  refine ksx_go (f := f_0) (blk := kS223) ?_ h (fun res hx => kc223_0 hx)
  intro h as S res hk
  unfold kS223 at hk
  split at hk
  · split at hk
    · exact kc223_29 hk
    · cases hk
  · skip
    split at hk
    · split at hk
      · exact kc223_132 hk
      · cases hk
    · skip
      split at hk
      · split at hk
        · exact kc223_264 hk
        · cases hk
      · skip
        split at hk
        · split at hk
          · exact kc223_386 hk
          · cases hk
        · skip
          cases hk
theorem kc224_0 {v1 : _} {S : sT} {rs : (sRes sT)} (h : c224_0 v1 S = some rs) : ks [4, 6, 7, 8, 9, 18, 19, 24, 25, 27, 28, 29, 30, 31, 32] S (r_S f_0 rs) := by
  have kc : ks [4, 6, 7, 8, 9, 18, 19, 24, 25, 27, 28, 29, 30, 31, 32] S S := ks.rf
  unfold c224_0 at h
  cases h
  exact kc
theorem kc224_77 {v1 v2 : _} {S : sT} {rs : (sRes sT)} (h : c224_77 v1 v2 S = some rs) : ks [4, 6, 7, 8, 9, 18, 19, 24, 25, 27, 28, 29, 30, 31, 32] S (r_S f_0 rs) := by
  have kc : ks [4, 6, 7, 8, 9, 18, 19, 24, 25, 27, 28, 29, 30, 31, 32] S S := ks.rf
  unfold c224_77 at h
  cases h
  exact kc
theorem kc224_53 {v1 v2 v3 : _} {S : sT} {rs : (sRes sT)} (h : c224_53 v1 v2 v3 S = some rs) : ks [4, 6, 7, 8, 9, 18, 19, 24, 25, 27, 28, 29, 30, 31, 32] S (r_S f_0 rs) := by
  have kc : ks [4, 6, 7, 8, 9, 18, 19, 24, 25, 27, 28, 29, 30, 31, 32] S S := ks.rf
  unfold c224_53 at h
  obtain ⟨S23, h1, h⟩ := bd h
  have kc := kc.tr (k_s_s h1) rfl
  obtain ⟨q_29, h2, h⟩ := bd h
  have kc := kc.tr (ke168 h2) rfl
  obtain ⟨q_35, h3, h⟩ := bd h
  have kc := kc.tr (ke183 h3) rfl
  exact kc.tt (kc224_77 h) (fun _ q => q)
theorem kc224_2 {v1 v2 : _} {S : sT} {rs : (sRes sT)} (h : c224_2 v1 v2 S = some rs) : ks [4, 6, 7, 8, 9, 18, 19, 24, 25, 27, 28, 29, 30, 31, 32] S (r_S f_0 rs) := by
  have kc : ks [4, 6, 7, 8, 9, 18, 19, 24, 25, 27, 28, 29, 30, 31, 32] S S := ks.rf
  unfold c224_2 at h
  rcases ite_some h with ⟨-, h⟩ | ⟨-, h⟩
  · cases h
    exact kc
  · obtain ⟨q_1, h1, h⟩ := bd h
    have kc := kc.tr (ke175 h1) rfl
    obtain ⟨v_7, -, h⟩ := bd h
    rcases ite_some h with ⟨-, h⟩ | ⟨-, h⟩
    · exact kc.tt (kc224_77 h) (fun _ q => q)
    · obtain ⟨v_9, -, h⟩ := bd h
      obtain ⟨v_11, -, h⟩ := bd h
      rcases ite_some h with ⟨-, h⟩ | ⟨-, h⟩
      · obtain ⟨q_13, h5, h⟩ := bd h
        have kc := kc.tr (ke200 h5) rfl
        rcases ite_some h with ⟨-, h⟩ | ⟨-, h⟩
        · exact kc.tt (kc224_77 h) (fun _ q => q)
        · exact kc.tt (kc224_53 h) (fun _ q => q)
      · exact kc.tt (kc224_53 h) (fun _ q => q)
theorem kc224_143 {v1 v2 : _} {S : sT} {rs : (sRes sT)} (h : c224_143 v1 v2 S = some rs) : ks [4, 6, 7, 8, 9, 18, 19, 24, 25, 27, 28, 29, 30, 31, 32] S (r_S f_0 rs) := by
  have kc : ks [4, 6, 7, 8, 9, 18, 19, 24, 25, 27, 28, 29, 30, 31, 32] S S := ks.rf
  unfold c224_143 at h
  cases h
  exact kc
theorem kc224_85 {v1 v2 : _} {S : sT} {rs : (sRes sT)} (h : c224_85 v1 v2 S = some rs) : ks [4, 6, 7, 8, 9, 18, 19, 24, 25, 27, 28, 29, 30, 31, 32] S (r_S f_0 rs) := by
  have kc : ks [4, 6, 7, 8, 9, 18, 19, 24, 25, 27, 28, 29, 30, 31, 32] S S := ks.rf
  unfold c224_85 at h
  rcases ite_some h with ⟨-, h⟩ | ⟨-, h⟩
  · cases h
    exact kc
  · rcases ite_some h with ⟨-, h⟩ | ⟨-, h⟩
    · exact kc.tt (kc224_143 h) (fun _ q => q)
    · obtain ⟨v_41, -, h⟩ := bd h
      rcases ite_some h with ⟨-, h⟩ | ⟨-, h⟩
      · exact kc.tt (kc224_143 h) (fun _ q => q)
      · obtain ⟨v_43, -, h⟩ := bd h
        rcases ite_some h with ⟨-, h⟩ | ⟨-, h⟩
        · exact kc.tt (kc224_143 h) (fun _ q => q)
        · obtain ⟨S45, h3, h⟩ := bd h
          have kc := kc.tr (k_s_sz h3) rfl
          exact kc.tt (kc224_143 h) (fun _ q => q)
theorem kc224_252 {v1 v2 : _} {S : sT} {rs : (sRes sT)} (h : c224_252 v1 v2 S = some rs) : ks [4, 6, 7, 8, 9, 18, 19, 24, 25, 27, 28, 29, 30, 31, 32] S (r_S f_0 rs) := by
  have kc : ks [4, 6, 7, 8, 9, 18, 19, 24, 25, 27, 28, 29, 30, 31, 32] S S := ks.rf
  unfold c224_252 at h
  cases h
  exact kc
theorem kc224_151 {v1 v2 : _} {S : sT} {rs : (sRes sT)} (h : c224_151 v1 v2 S = some rs) : ks [4, 6, 7, 8, 9, 18, 19, 24, 25, 27, 28, 29, 30, 31, 32] S (r_S f_0 rs) := by
  have kc : ks [4, 6, 7, 8, 9, 18, 19, 24, 25, 27, 28, 29, 30, 31, 32] S S := ks.rf
  unfold c224_151 at h
  rcases ite_some h with ⟨-, h⟩ | ⟨-, h⟩
  · obtain ⟨q_55, h1, h⟩ := bd h
    have kc := kc.tr (ke223 h1) rfl
    cases h
    exact kc
  · obtain ⟨q_61, h2, h⟩ := bd h
    have kc := kc.tr (ke175 h2) rfl
    obtain ⟨q_67, h3, h⟩ := bd h
    have kc := kc.tr (ke177 h3) rfl
    rcases ite_some h with ⟨-, h⟩ | ⟨-, h⟩
    · exact kc.tt (kc224_252 h) (fun _ q => q)
    · obtain ⟨q_73, h4, h⟩ := bd h
      have kc := kc.tr (ke179 h4) rfl
      rcases ite_some h with ⟨-, h⟩ | ⟨-, h⟩
      · obtain ⟨v_79, -, h⟩ := bd h
        rcases ite_some h with ⟨-, h⟩ | ⟨-, h⟩
        · obtain ⟨v_81, -, h⟩ := bd h
          rcases ite_some h with ⟨-, h⟩ | ⟨-, h⟩
          · obtain ⟨S83, h7, h⟩ := bd h
            have kc := kc.tr (k_s_s h7) rfl
            obtain ⟨q_89, h8, h⟩ := bd h
            have kc := kc.tr (ke168 h8) rfl
            obtain ⟨q_95, h9, h⟩ := bd h
            have kc := kc.tr (ke167 h9) rfl
            obtain ⟨q_101, h10, h⟩ := bd h
            have kc := kc.tr (ke183 h10) rfl
            exact kc.tt (kc224_252 h) (fun _ q => q)
          · exact kc.tt (kc224_252 h) (fun _ q => q)
        · exact kc.tt (kc224_252 h) (fun _ q => q)
      · exact kc.tt (kc224_252 h) (fun _ q => q)
theorem ke224 {v1 : _} {S : sT} {q : sT} (h : e224 v1 S = some q) : ks [4, 6, 7, 8, 9, 18, 19, 24, 25, 27, 28, 29, 30, 31, 32] S q := by
  unfold e224 at h
  refine ksx_go (f := f_0) (blk := kS224) ?_ h (fun res hx => kc224_0 hx)
  intro h as S res hk
  unfold kS224 at hk
  split at hk
  · split at hk
    · exact kc224_2 hk
    · cases hk
  · skip
    split at hk
    · split at hk
      · exact kc224_85 hk
      · cases hk
    · skip
      split at hk
      · split at hk
        · exact kc224_151 hk
        · cases hk
      · skip
        cases hk
theorem kc225_57 {S : sT} {rs : (sRes (Int32 × sT))} (h : c225_57  S = some rs) : ks [32] S (r_S Prod.snd rs) := by
  have kc : ks [32] S S := ks.rf
  unfold c225_57 at h
  cases h
  exact kc
theorem kc225_152 {S : sT} {rs : (sRes (Int32 × sT))} (h : c225_152  S = some rs) : ks [32] S (r_S Prod.snd rs) := by
  have kc : ks [32] S S := ks.rf
  unfold c225_152 at h
  cases h
  exact kc
theorem kc225_182 {si0 : _} {S : sT} {rs : (sRes (Int32 × sT))} (h : c225_182 si0 S = some rs) : ks [32] S (r_S Prod.snd rs) := by
  have kc : ks [32] S S := ks.rf
  unfold c225_182 at h
  cases h
  exact kc
theorem kc225_207 {si0 : _} {S : sT} {rs : (sRes (Int32 × sT))} (h : c225_207 si0 S = some rs) : ks [32] S (r_S Prod.snd rs) := by
  have kc : ks [32] S S := ks.rf
  unfold c225_207 at h
  cases h
  exact kc
theorem kc225_183 {v1 v7 : _} {S : sT} {rs : (sRes (Int32 × sT))} (h : c225_183 v1 v7 S = some rs) : ks [32] S (r_S Prod.snd rs) := by
  have kc : ks [32] S S := ks.rf
  unfold c225_183 at h
  obtain ⟨q_108, h1, h⟩ := bd h
  have kc := kc.tr (ke201 h1) rfl
  rcases ite_some h with ⟨-, h⟩ | ⟨-, h⟩
  · exact kc.tt (kc225_207 h) (fun _ q => q)
  · exact kc.tt (kc225_207 h) (fun _ q => q)
theorem kc225_59 {v1 v4 v5 : _} {S : sT} {rs : (sRes (Int32 × sT))} (h : c225_59 v1 v4 v5 S = some rs) : ks [32] S (r_S Prod.snd rs) := by
  have kc : ks [32] S S := ks.rf
  unfold c225_59 at h
  obtain ⟨v_33, -, h⟩ := bd h
  rcases ite_some h with ⟨-, h⟩ | ⟨-, h⟩
  · obtain ⟨q_35, h2, h⟩ := bd h
    have kc := kc.tr (ke200 h2) rfl
    rcases ite_some h with ⟨-, h⟩ | ⟨-, h⟩
    · rcases ite_some h with ⟨-, h⟩ | ⟨-, h⟩
      · exact kc.tt (kc225_152 h) (fun _ q => q)
      · obtain ⟨q_41, h3, h⟩ := bd h
        have kc := kc.tr (ke175 h3) rfl
        obtain ⟨q_47, h4, h⟩ := bd h
        have kc := kc.tr (ke177 h4) rfl
        rcases ite_some h with ⟨-, h⟩ | ⟨-, h⟩
        · exact kc.tt (kc225_152 h) (fun _ q => q)
        · obtain ⟨q_53, h5, h⟩ := bd h
          have kc := kc.tr (ke175 h5) rfl
          obtain ⟨q_59, h6, h⟩ := bd h
          have kc := kc.tr (ke179 h6) rfl
          rcases ite_some h with ⟨-, h⟩ | ⟨-, h⟩
          · exact kc.tt (kc225_152 h) (fun _ q => q)
          · obtain ⟨q_65, h7, h⟩ := bd h
            have kc := kc.tr (ke175 h7) rfl
            obtain ⟨q_71, h8, h⟩ := bd h
            have kc := kc.tr (ke179 h8) rfl
            obtain ⟨q_77, h9, h⟩ := bd h
            have kc := kc.tr (ke189 h9) rfl
            rcases ite_some h with ⟨-, h⟩ | ⟨-, h⟩
            · obtain ⟨q_83, h10, h⟩ := bd h
              have kc := kc.tr (ke189 h10) rfl
              obtain ⟨q_89, h11, h⟩ := bd h
              have kc := kc.tr (ke189 h11) rfl
              obtain ⟨q_95, h12, h⟩ := bd h
              have kc := kc.tr (ke188 h12) rfl
              rcases ite_some h with ⟨-, h⟩ | ⟨-, h⟩
              · exact kc.tt (kc225_182 h) (fun _ q => q)
              · exact kc.tt (kc225_182 h) (fun _ q => q)
            · exact kc.tt (kc225_152 h) (fun _ q => q)
    · exact kc.tt (kc225_183 h) (fun _ q => q)
  · exact kc.tt (kc225_183 h) (fun _ q => q)
theorem kc225_0 {v1 v2 v3 v4 : _} {S : sT} {rs : (sRes (Int32 × sT))} (h : c225_0 v1 v2 v3 v4 S = some rs) : ks [32] S (r_S Prod.snd rs) := by
  have kc : ks [32] S S := ks.rf
  unfold c225_0 at h
  obtain ⟨q_1, h1, h⟩ := bd h
  have kc := kc.tr (ke166 h1) rfl
  obtain ⟨q_7, h2, h⟩ := bd h
  have kc := kc.tr (ke179 h2) rfl
  rcases ite_some h with ⟨-, h⟩ | ⟨-, h⟩
  · exact kc.tt (kc225_59 h) (fun _ q => q)
  · obtain ⟨v_13, -, h⟩ := bd h
    rcases ite_some h with ⟨-, h⟩ | ⟨-, h⟩
    · exact kc.tt (kc225_57 h) (fun _ q => q)
    · obtain ⟨v_15, -, h⟩ := bd h
      rcases ite_some h with ⟨-, h⟩ | ⟨-, h⟩
      · obtain ⟨q_17, h5, h⟩ := bd h
        have kc := kc.tr (ke189 h5) rfl
        obtain ⟨q_23, h6, h⟩ := bd h
        have kc := kc.tr (ke188 h6) rfl
        rcases ite_some h with ⟨-, h⟩ | ⟨-, h⟩
        · exact kc.tt (kc225_57 h) (fun _ q => q)
        · exact kc.tt (kc225_59 h) (fun _ q => q)
      · exact kc.tt (kc225_57 h) (fun _ q => q)
theorem ke225 {v1 v2 v3 v4 : _} {S : sT} {q : Int32 × sT} (h : e225 v1 v2 v3 v4 S = some q) : ks [32] S q.2 := by
  unfold e225 at h
  exact ksx_out (f := Prod.snd) h (fun res hx => kc225_0 hx)
theorem kc226_138 {S : sT} {rs : (sRes sT)} (h : c226_138  S = some rs) : ks [4, 5, 8, 9, 15, 16, 17, 20, 21, 22, 32] S (r_S f_0 rs) := by
  have kc : ks [4, 5, 8, 9, 15, 16, 17, 20, 21, 22, 32] S S := ks.rf
  unfold c226_138 at h
  cases h
  exact kc
theorem kc226_139 {v2 : _} {S : sT} {rs : (sRes sT)} (h : c226_139 v2 S = some rs) : ks [4, 5, 8, 9, 15, 16, 17, 20, 21, 22, 32] S (r_S f_0 rs) := by
  have kc : ks [4, 5, 8, 9, 15, 16, 17, 20, 21, 22, 32] S S := ks.rf
  unfold c226_139 at h
  obtain ⟨v_104, -, h⟩ := bd h
  obtain ⟨S106, h2, h⟩ := bd h
  have kc := kc.tr (k_s_s h2) rfl
  obtain ⟨v_112, -, h⟩ := bd h
  rcases ite_some h with ⟨-, h⟩ | ⟨-, h⟩
  · obtain ⟨v_114, -, h⟩ := bd h
    obtain ⟨S116, h5, h⟩ := bd h
    have kc := kc.tr (k_s_s h5) rfl
    obtain ⟨q_122, h6, h⟩ := bd h
    have kc := kc.tr (ke185 h6) rfl
    obtain ⟨q_128, h7, h⟩ := bd h
    have kc := kc.tr (ke171 h7) rfl
    cases h
    exact kc
  · cases h
    exact kc
theorem kc226_0 {v1 v2 v3 v4 : _} {S : sT} {rs : (sRes sT)} (h : c226_0 v1 v2 v3 v4 S = some rs) : ks [4, 5, 8, 9, 15, 16, 17, 20, 21, 22, 32] S (r_S f_0 rs) := by
  have kc : ks [4, 5, 8, 9, 15, 16, 17, 20, 21, 22, 32] S S := ks.rf
  unfold c226_0 at h
  obtain ⟨q_1, h1, h⟩ := bd h
  have kc := kc.tr (ke225 h1) rfl
  rcases ite_some h with ⟨-, h⟩ | ⟨-, h⟩
  · obtain ⟨q_7, h2, h⟩ := bd h
    have kc := kc.tr (ke175 h2) rfl
    obtain ⟨v_13, -, h⟩ := bd h
    rcases ite_some h with ⟨-, h⟩ | ⟨-, h⟩
    · obtain ⟨q_15, h4, h⟩ := bd h
      have kc := kc.tr (ke181 h4) rfl
      rcases ite_some h with ⟨-, h⟩ | ⟨-, h⟩
      · exact kc.tt (kc226_139 h) (fun _ q => q)
      · obtain ⟨q_21, h5, h⟩ := bd h
        have kc := kc.tr (ke185 h5) rfl
        obtain ⟨q_27, h6, h⟩ := bd h
        have kc := kc.tr (ke182 h6) rfl
        obtain ⟨v_33, -, h⟩ := bd h
        obtain ⟨S35, h8, h⟩ := bd h
        have kc := kc.tr (k_s_s h8) rfl
        obtain ⟨q_41, h9, h⟩ := bd h
        have kc := kc.tr (ke179 h9) rfl
        rcases ite_some h with ⟨-, h⟩ | ⟨-, h⟩
        · exact kc.tt (kc226_138 h) (fun _ q => q)
        · obtain ⟨q_47, h10, h⟩ := bd h
          have kc := kc.tr (ke166 h10) rfl
          obtain ⟨q_53, h11, h⟩ := bd h
          have kc := kc.tr (ke189 h11) rfl
          obtain ⟨q_59, h12, h⟩ := bd h
          have kc := kc.tr (ke179 h12) rfl
          obtain ⟨q_65, h13, h⟩ := bd h
          have kc := kc.tr (ke188 h13) rfl
          rcases ite_some h with ⟨-, h⟩ | ⟨-, h⟩
          · obtain ⟨v_71, -, h⟩ := bd h
            obtain ⟨S73, h15, h⟩ := bd h
            have kc := kc.tr (k_s_s h15) rfl
            exact kc.tt (kc226_138 h) (fun _ q => q)
          · exact kc.tt (kc226_138 h) (fun _ q => q)
    · exact kc.tt (kc226_139 h) (fun _ q => q)
  · obtain ⟨v_83, -, h⟩ := bd h
    obtain ⟨S85, h17, h⟩ := bd h
    have kc := kc.tr (k_s_s h17) rfl
    obtain ⟨q_91, h18, h⟩ := bd h
    have kc := kc.tr (ke185 h18) rfl
    obtain ⟨q_97, h19, h⟩ := bd h
    have kc := kc.tr (ke171 h19) rfl
    cases h
    exact kc
theorem ke226 {v1 v2 v3 v4 : _} {S : sT} {q : sT} (h : e226 v1 v2 v3 v4 S = some q) : ks [4, 5, 8, 9, 15, 16, 17, 20, 21, 22, 32] S q := by
  unfold e226 at h
  exact ksx_out (f := f_0) h (fun res hx => kc226_0 hx)
theorem kc227_0 {v1 v2 : _} {S : sT} {rs : (sRes (Int32 × sT))} (h : c227_0 v1 v2 S = some rs) : ks [32] S (r_S Prod.snd rs) := by
  have kc : ks [32] S S := ks.rf
  unfold c227_0 at h
  obtain ⟨q_1, h1, h⟩ := bd h
  have kc := kc.tr (ke195 h1) rfl
  cases h
  exact kc
theorem kc227_132 {v1 v2 v3 : _} {S : sT} {rs : (sRes (Int32 × sT))} (h : c227_132 v1 v2 v3 S = some rs) : ks [32] S (r_S Prod.snd rs) := by
  have kc : ks [32] S S := ks.rf
  unfold c227_132 at h
  cases h
  exact kc
theorem kc227_7 {v1 v2 v3 : _} {S : sT} {rs : (sRes (Int32 × sT))} (h : c227_7 v1 v2 v3 S = some rs) : ks [32] S (r_S Prod.snd rs) := by
  have kc : ks [32] S S := ks.rf
  unfold c227_7 at h
  rcases ite_some h with ⟨-, h⟩ | ⟨-, h⟩
  · cases h
    exact kc
  · obtain ⟨v_7, -, h⟩ := bd h
    rcases ite_some h with ⟨-, h⟩ | ⟨-, h⟩
    · exact kc.tt (kc227_132 h) (fun _ q => q)
    · obtain ⟨q_9, h2, h⟩ := bd h
      have kc := kc.tr (ke197 h2) rfl
      rcases ite_some h with ⟨-, h⟩ | ⟨-, h⟩
      · exact kc.tt (kc227_132 h) (fun _ q => q)
      · obtain ⟨q_15, h3, h⟩ := bd h
        have kc := kc.tr (ke199 h3) rfl
        rcases ite_some h with ⟨-, h⟩ | ⟨-, h⟩
        · obtain ⟨q_21, h4, h⟩ := bd h
          have kc := kc.tr (ke192 h4) rfl
          cases h
          exact kc
        · exact kc.tt (kc227_132 h) (fun _ q => q)
theorem kc227_60 {v1 v2 v3 v4 v5 : _} {S : sT} {rs : (sRes (Int32 × sT))} (h : c227_60 v1 v2 v3 v4 v5 S = some rs) : ks [32] S (r_S Prod.snd rs) := by
  have kc : ks [32] S S := ks.rf
  unfold c227_60 at h
  obtain ⟨q_31, h1, h⟩ := bd h
  have kc := kc.tr (ke190 h1) rfl
  rcases ite_some h with ⟨-, h⟩ | ⟨-, h⟩
  · exact kc.tt (kc227_132 h) (fun _ q => q)
  · obtain ⟨q_37, h2, h⟩ := bd h
    have kc := kc.tr (ke190 h2) rfl
    rcases ite_some h with ⟨-, h⟩ | ⟨-, h⟩
    · obtain ⟨q_43, h3, h⟩ := bd h
      have kc := kc.tr (ke190 h3) rfl
      obtain ⟨q_49, h4, h⟩ := bd h
      have kc := kc.tr (ke190 h4) rfl
      cases h
      exact kc
    · cases h
      exact kc
theorem ke227 {v1 v2 : _} {S : sT} {q : Int32 × sT} (h : e227 v1 v2 S = some q) : ks [32] S q.2 := by
  unfold e227 at h
  refine ksx_go (f := Prod.snd) (blk := kS227) ?_ h (fun res hx => kc227_0 hx)
  intro h as S res hk
  unfold kS227 at hk
  split at hk
  · split at hk
    · exact kc227_7 hk
    · cases hk
  · skip
    split at hk
    · split at hk
      · exact kc227_60 hk
      · cases hk
    · skip
      cases hk
theorem kc228_167 {S : sT} {rs : (sRes sT)} (h : c228_167  S = some rs) : ks [4, 6, 7, 8, 9, 18, 19, 23, 25, 27, 28, 29, 30, 32] S (r_S f_0 rs) := by
  have kc : ks [4, 6, 7, 8, 9, 18, 19, 23, 25, 27, 28, 29, 30, 32] S S := ks.rf
  unfold c228_167 at h
  cases h
  exact kc
theorem kc228_164 {v1 v2 v3 v7 si0 si1 : _} {S : sT} {rs : (sRes sT)} (h : c228_164 v1 v2 v3 v7 si0 si1 S = some rs) : ks [4, 6, 7, 8, 9, 18, 19, 23, 25, 27, 28, 29, 30, 32] S (r_S f_0 rs) := by
  have kc : ks [4, 6, 7, 8, 9, 18, 19, 23, 25, 27, 28, 29, 30, 32] S S := ks.rf
  unfold c228_164 at h
  rcases ite_some h with ⟨-, h⟩ | ⟨-, h⟩
  · obtain ⟨S64, h1, h⟩ := bd h
    have kc := kc.tr (k_s_sz h1) rfl
    obtain ⟨S70, h2, h⟩ := bd h
    have kc := kc.tr (k_s_s h2) rfl
    obtain ⟨v_76, -, h⟩ := bd h
    obtain ⟨S78, h4, h⟩ := bd h
    have kc := kc.tr (k_s_s h4) rfl
    cases h
    exact kc
  · exact kc.tt (kc228_167 h) (fun _ q => q)
theorem kc228_405 {S : sT} {rs : (sRes sT)} (h : c228_405  S = some rs) : ks [4, 6, 7, 8, 9, 18, 19, 23, 25, 27, 28, 29, 30, 32] S (r_S f_0 rs) := by
  have kc : ks [4, 6, 7, 8, 9, 18, 19, 23, 25, 27, 28, 29, 30, 32] S S := ks.rf
  unfold c228_405 at h
  obtain ⟨v_180, -, h⟩ := bd h
  obtain ⟨S182, h2, h⟩ := bd h
  have kc := kc.tr (k_s_s h2) rfl
  cases h
  exact kc
theorem kc228_483 {S : sT} {rs : (sRes sT)} (h : c228_483  S = some rs) : ks [4, 6, 7, 8, 9, 18, 19, 23, 25, 27, 28, 29, 30, 32] S (r_S f_0 rs) := by
  have kc : ks [4, 6, 7, 8, 9, 18, 19, 23, 25, 27, 28, 29, 30, 32] S S := ks.rf
  unfold c228_483 at h
  cases h
  exact kc
theorem kc228_472 {v2 v8 sl0 si1 : _} {S : sT} {rs : (sRes sT)} (h : c228_472 v2 v8 sl0 si1 S = some rs) : ks [4, 6, 7, 8, 9, 18, 19, 23, 25, 27, 28, 29, 30, 32] S (r_S f_0 rs) := by
  have kc : ks [4, 6, 7, 8, 9, 18, 19, 23, 25, 27, 28, 29, 30, 32] S S := ks.rf
  unfold c228_472 at h
  obtain ⟨q_188, h1, h⟩ := bd h
  have kc := kc.tr (ke167 h1) rfl
  obtain ⟨q_194, h2, h⟩ := bd h
  have kc := kc.tr (ke183 h2) rfl
  exact kc.tt (kc228_483 h) (fun _ q => q)
theorem kc228_360 {v1 v2 v3 v4 v5 v6 v7 : _} {S : sT} {rs : (sRes sT)} (h : c228_360 v1 v2 v3 v4 v5 v6 v7 S = some rs) : ks [4, 6, 7, 8, 9, 18, 19, 23, 25, 27, 28, 29, 30, 32] S (r_S f_0 rs) := by
  have kc : ks [4, 6, 7, 8, 9, 18, 19, 23, 25, 27, 28, 29, 30, 32] S S := ks.rf
  unfold c228_360 at h
  rcases ite_some h with ⟨-, h⟩ | ⟨-, h⟩
  · rcases ite_some h with ⟨-, h⟩ | ⟨-, h⟩
    · rcases ite_some h with ⟨-, h⟩ | ⟨-, h⟩
      · exact kc.tt (kc228_483 h) (fun _ q => q)
      · obtain ⟨v_138, -, h⟩ := bd h
        rcases ite_some h with ⟨-, h⟩ | ⟨-, h⟩
        · exact kc.tt (kc228_405 h) (fun _ q => q)
        · obtain ⟨q_140, h2, h⟩ := bd h
          have kc := kc.tr (ke166 h2) rfl
          obtain ⟨v_146, -, h⟩ := bd h
          rcases ite_some h with ⟨-, h⟩ | ⟨-, h⟩
          · obtain ⟨v_148, -, h⟩ := bd h
            obtain ⟨q_150, h5, h⟩ := bd h
            have kc := kc.tr (ke168 h5) rfl
            obtain ⟨q_156, h6, h⟩ := bd h
            have kc := kc.tr (ke167 h6) rfl
            obtain ⟨q_162, h7, h⟩ := bd h
            have kc := kc.tr (ke188 h7) rfl
            rcases ite_some h with ⟨-, h⟩ | ⟨-, h⟩
            · exact kc.tt (kc228_472 h) (fun _ q => q)
            · obtain ⟨q_168, h8, h⟩ := bd h
              have kc := kc.tr (ke227 h8) rfl
              exact kc.tt (kc228_472 h) (fun _ q => q)
          · exact kc.tt (kc228_405 h) (fun _ q => q)
    · exact kc.tt (kc228_483 h) (fun _ q => q)
  · exact kc.tt (kc228_483 h) (fun _ q => q)
theorem kc228_276 {v1 v2 v3 v4 v5 v6 v7 : _} {S : sT} {rs : (sRes sT)} (h : c228_276 v1 v2 v3 v4 v5 v6 v7 S = some rs) : ks [4, 6, 7, 8, 9, 18, 19, 23, 25, 27, 28, 29, 30, 32] S (r_S f_0 rs) := by
  have kc : ks [4, 6, 7, 8, 9, 18, 19, 23, 25, 27, 28, 29, 30, 32] S S := ks.rf
  unfold c228_276 at h
  rcases ite_some h with ⟨-, h⟩ | ⟨-, h⟩
  · rcases ite_some h with ⟨-, h⟩ | ⟨-, h⟩
    · rcases ite_some h with ⟨-, h⟩ | ⟨-, h⟩
      · exact kc.tt (kc228_360 h) (fun _ q => q)
      · obtain ⟨q_106, h1, h⟩ := bd h
        have kc := kc.tr (ke200 h1) rfl
        rcases ite_some h with ⟨-, h⟩ | ⟨-, h⟩
        · obtain ⟨v_112, -, h⟩ := bd h
          obtain ⟨S114, h3, h⟩ := bd h
          have kc := kc.tr (k_s_s h3) rfl
          obtain ⟨v_120, -, h⟩ := bd h
          obtain ⟨q_122, h5, h⟩ := bd h
          have kc := kc.tr (ke168 h5) rfl
          obtain ⟨q_128, h6, h⟩ := bd h
          have kc := kc.tr (ke183 h6) rfl
          exact kc.tt (kc228_483 h) (fun _ q => q)
        · cases h
          exact kc
    · exact kc.tt (kc228_360 h) (fun _ q => q)
  · exact kc.tt (kc228_360 h) (fun _ q => q)
theorem kc228_105 {v1 v2 v3 v4 v5 v6 v7 : _} {S : sT} {rs : (sRes sT)} (h : c228_105 v1 v2 v3 v4 v5 v6 v7 S = some rs) : ks [4, 6, 7, 8, 9, 18, 19, 23, 25, 27, 28, 29, 30, 32] S (r_S f_0 rs) := by
  have kc : ks [4, 6, 7, 8, 9, 18, 19, 23, 25, 27, 28, 29, 30, 32] S S := ks.rf
  unfold c228_105 at h
  rcases ite_some h with ⟨-, h⟩ | ⟨-, h⟩
  · rcases ite_some h with ⟨-, h⟩ | ⟨-, h⟩
    · rcases ite_some h with ⟨-, h⟩ | ⟨-, h⟩
      · rcases ite_some h with ⟨-, h⟩ | ⟨-, h⟩
        · exact kc.tt (kc228_167 h) (fun _ q => q)
        · obtain ⟨q_45, h1, h⟩ := bd h
          have kc := kc.tr (ke166 h1) rfl
          obtain ⟨v_51, -, h⟩ := bd h
          rcases ite_some h with ⟨-, h⟩ | ⟨-, h⟩
          · exact kc.tt (kc228_164 h) (fun _ q => q)
          · obtain ⟨q_53, h3, h⟩ := bd h
            have kc := kc.tr (ke191 h3) rfl
            exact kc.tt (kc228_164 h) (fun _ q => q)
      · exact kc.tt (kc228_276 h) (fun _ q => q)
    · exact kc.tt (kc228_276 h) (fun _ q => q)
  · exact kc.tt (kc228_276 h) (fun _ q => q)
theorem kc228_0 {v1 v2 v3 v4 : _} {S : sT} {rs : (sRes sT)} (h : c228_0 v1 v2 v3 v4 S = some rs) : ks [4, 6, 7, 8, 9, 18, 19, 23, 25, 27, 28, 29, 30, 32] S (r_S f_0 rs) := by
  have kc : ks [4, 6, 7, 8, 9, 18, 19, 23, 25, 27, 28, 29, 30, 32] S S := ks.rf
  unfold c228_0 at h
  obtain ⟨q_1, h1, h⟩ := bd h
  have kc := kc.tr (ke165 h1) rfl
  obtain ⟨q_7, h2, h⟩ := bd h
  have kc := kc.tr (ke179 h2) rfl
  obtain ⟨q_13, h3, h⟩ := bd h
  have kc := kc.tr (ke165 h3) rfl
  rcases ite_some h with ⟨-, h⟩ | ⟨-, h⟩
  · rcases ite_some h with ⟨-, h⟩ | ⟨-, h⟩
    · rcases ite_some h with ⟨-, h⟩ | ⟨-, h⟩
      · obtain ⟨S19, h4, h⟩ := bd h
        have kc := kc.tr (k_s_s h4) rfl
        cases h
        exact kc
      · exact kc.tt (kc228_105 h) (fun _ q => q)
    · exact kc.tt (kc228_105 h) (fun _ q => q)
  · exact kc.tt (kc228_105 h) (fun _ q => q)
theorem kc228_96 {v1 v2 v8 : _} {S : sT} {rs : (sRes sT)} (h : c228_96 v1 v2 v8 S = some rs) : ks [4, 6, 7, 8, 9, 18, 19, 23, 25, 27, 28, 29, 30, 32] S (r_S f_0 rs) := by
  have kc : ks [4, 6, 7, 8, 9, 18, 19, 23, 25, 27, 28, 29, 30, 32] S S := ks.rf
  unfold c228_96 at h
  cases h
  exact kc
theorem kc228_55 {v1 v2 v8 : _} {S : sT} {rs : (sRes sT)} (h : c228_55 v1 v2 v8 S = some rs) : ks [4, 6, 7, 8, 9, 18, 19, 23, 25, 27, 28, 29, 30, 32] S (r_S f_0 rs) := by
  have kc : ks [4, 6, 7, 8, 9, 18, 19, 23, 25, 27, 28, 29, 30, 32] S S := ks.rf
  unfold c228_55 at h
  rcases ite_some h with ⟨-, h⟩ | ⟨-, h⟩
  · exact kc.tt (kc228_483 h) (fun _ q => q)
  · rcases ite_some h with ⟨-, h⟩ | ⟨-, h⟩
    · exact kc.tt (kc228_96 h) (fun _ q => q)
    · obtain ⟨v_28, -, h⟩ := bd h
      rcases ite_some h with ⟨-, h⟩ | ⟨-, h⟩
      · exact kc.tt (kc228_96 h) (fun _ q => q)
      · obtain ⟨q_30, h2, h⟩ := bd h
        have kc := kc.tr (ke202 h2) rfl
        obtain ⟨q_36, h3, h⟩ := bd h
        have kc := kc.tr (ke183 h3) rfl
        exact kc.tt (kc228_96 h) (fun _ q => q)
theorem kc228_218 {v1 v2 v3 v7 v8 : _} {S : sT} {rs : (sRes sT)} (h : c228_218 v1 v2 v3 v7 v8 S = some rs) : ks [4, 6, 7, 8, 9, 18, 19, 23, 25, 27, 28, 29, 30, 32] S (r_S f_0 rs) := by
  have kc : ks [4, 6, 7, 8, 9, 18, 19, 23, 25, 27, 28, 29, 30, 32] S S := ks.rf
  unfold c228_218 at h
  obtain ⟨v_85, -, h⟩ := bd h
  rcases ite_some h with ⟨-, h⟩ | ⟨-, h⟩
  · obtain ⟨q_87, h2, h⟩ := bd h
    have kc := kc.tr (ke222 h2) rfl
    exact kc.tt (kc228_483 h) (fun _ q => q)
  · obtain ⟨q_93, h3, h⟩ := bd h
    have kc := kc.tr (ke165 h3) rfl
    obtain ⟨S99, h4, h⟩ := bd h
    have kc := kc.tr (k_s_s h4) rfl
    cases h
    exact kc
theorem ke228 {v1 v2 v3 v4 : _} {S : sT} {q : sT} (h : e228 v1 v2 v3 v4 S = some q) : ks [4, 6, 7, 8, 9, 18, 19, 23, 25, 27, 28, 29, 30, 32] S q := by
  unfold e228 at h
  refine ksx_go (f := f_0) (blk := kS228) ?_ h (fun res hx => kc228_0 hx)
  intro h as S res hk
  unfold kS228 at hk
  split at hk
  · split at hk
    · exact kc228_55 hk
    · cases hk
  · skip
    split at hk
    · split at hk
      · exact kc228_218 hk
      · cases hk
    · skip
      cases hk
theorem kc229_106 {S : sT} {rs : (sRes sT)} (h : c229_106  S = some rs) : ks [4, 5, 6, 7, 8, 9, 15, 16, 17, 18, 19, 20, 21, 22, 23, 25, 27, 28, 29, 30, 32] S (r_S f_0 rs) := by
  have kc : ks [4, 5, 6, 7, 8, 9, 15, 16, 17, 18, 19, 20, 21, 22, 23, 25, 27, 28, 29, 30, 32] S S := ks.rf
  unfold c229_106 at h
  cases h
  exact kc
theorem kc229_97 {v1 v2 v3 v4 : _} {S : sT} {rs : (sRes sT)} (h : c229_97 v1 v2 v3 v4 S = some rs) : ks [4, 5, 6, 7, 8, 9, 15, 16, 17, 18, 19, 20, 21, 22, 23, 25, 27, 28, 29, 30, 32] S (r_S f_0 rs) := by
  have kc : ks [4, 5, 6, 7, 8, 9, 15, 16, 17, 18, 19, 20, 21, 22, 23, 25, 27, 28, 29, 30, 32] S S := ks.rf
  unfold c229_97 at h
  obtain ⟨q_59, h1, h⟩ := bd h
  have kc := kc.tr (ke226 h1) rfl
  exact kc.tt (kc229_106 h) (fun _ q => q)
theorem kc229_0 {v1 v2 : _} {S : sT} {rs : (sRes sT)} (h : c229_0 v1 v2 S = some rs) : ks [4, 5, 6, 7, 8, 9, 15, 16, 17, 18, 19, 20, 21, 22, 23, 25, 27, 28, 29, 30, 32] S (r_S f_0 rs) := by
  have kc : ks [4, 5, 6, 7, 8, 9, 15, 16, 17, 18, 19, 20, 21, 22, 23, 25, 27, 28, 29, 30, 32] S S := ks.rf
  unfold c229_0 at h
  obtain ⟨v_1, -, h⟩ := bd h
  rcases ite_some h with ⟨-, h⟩ | ⟨-, h⟩
  · cases h
    exact kc
  · obtain ⟨v_3, -, h⟩ := bd h
    obtain ⟨q_5, h3, h⟩ := bd h
    have kc := kc.tr (ke166 h3) rfl
    obtain ⟨q_11, h4, h⟩ := bd h
    have kc := kc.tr (ke174 h4) rfl
    rcases ite_some h with ⟨-, h⟩ | ⟨-, h⟩
    · obtain ⟨v_37, -, h⟩ := bd h
      obtain ⟨S39, h6, h⟩ := bd h
      have kc := kc.tr (k_s_s h6) rfl
      obtain ⟨q_45, h7, h⟩ := bd h
      have kc := kc.tr (ke185 h7) rfl
      obtain ⟨q_51, h8, h⟩ := bd h
      have kc := kc.tr (ke171 h8) rfl
      exact kc.tt (kc229_106 h) (fun _ q => q)
    · rcases ite_some h with ⟨-, h⟩ | ⟨-, h⟩
      · exact kc.tt (kc229_97 h) (fun _ q => q)
      · rcases ite_some h with ⟨-, h⟩ | ⟨-, h⟩
        · exact kc.tt (kc229_97 h) (fun _ q => q)
        · obtain ⟨q_17, h9, h⟩ := bd h
          have kc := kc.tr (ke185 h9) rfl
          obtain ⟨q_23, h10, h⟩ := bd h
          have kc := kc.tr (ke228 h10) rfl
          obtain ⟨q_29, h11, h⟩ := bd h
          have kc := kc.tr (ke171 h11) rfl
          exact kc.tt (kc229_106 h) (fun _ q => q)
theorem ke229 {v1 v2 : _} {S : sT} {q : sT} (h : e229 v1 v2 S = some q) : ks [4, 5, 6, 7, 8, 9, 15, 16, 17, 18, 19, 20, 21, 22, 23, 25, 27, 28, 29, 30, 32] S q := by
  unfold e229 at h
  exact ksx_out (f := f_0) h (fun res hx => kc229_0 hx)
theorem kc230_0 {v1 : _} {S : sT} {rs : (sRes sT)} (h : c230_0 v1 S = some rs) : ks [4, 5, 6, 7, 8, 9, 15, 16, 17, 18, 19, 20, 21, 22, 23, 24, 25, 27, 28, 29, 30, 31, 32] S (r_S f_0 rs) := by
  have kc : ks [4, 5, 6, 7, 8, 9, 15, 16, 17, 18, 19, 20, 21, 22, 23, 24, 25, 27, 28, 29, 30, 31, 32] S S := ks.rf
  unfold c230_0 at h
  obtain ⟨q_1, h1, h⟩ := bd h
  have kc := kc.tr (ke224 h1) rfl
  cases h
  exact kc
theorem kc230_7 {v1 v2 : _} {S : sT} {rs : (sRes sT)} (h : c230_7 v1 v2 S = some rs) : ks [4, 5, 6, 7, 8, 9, 15, 16, 17, 18, 19, 20, 21, 22, 23, 24, 25, 27, 28, 29, 30, 31, 32] S (r_S f_0 rs) := by
  have kc : ks [4, 5, 6, 7, 8, 9, 15, 16, 17, 18, 19, 20, 21, 22, 23, 24, 25, 27, 28, 29, 30, 31, 32] S S := ks.rf
  unfold c230_7 at h
  rcases ite_some h with ⟨-, h⟩ | ⟨-, h⟩
  · cases h
    exact kc
  · obtain ⟨v_7, -, h⟩ := bd h
    obtain ⟨q_9, h2, h⟩ := bd h
    have kc := kc.tr (ke175 h2) rfl
    obtain ⟨q_15, h3, h⟩ := bd h
    have kc := kc.tr (ke184 h3) rfl
    cases h
    exact kc
theorem kc230_39 {v1 v2 : _} {S : sT} {rs : (sRes sT)} (h : c230_39 v1 v2 S = some rs) : ks [4, 5, 6, 7, 8, 9, 15, 16, 17, 18, 19, 20, 21, 22, 23, 24, 25, 27, 28, 29, 30, 31, 32] S (r_S f_0 rs) := by
  have kc : ks [4, 5, 6, 7, 8, 9, 15, 16, 17, 18, 19, 20, 21, 22, 23, 24, 25, 27, 28, 29, 30, 31, 32] S S := ks.rf
  unfold c230_39 at h
  rcases ite_some h with ⟨-, h⟩ | ⟨-, h⟩
  · cases h
    exact kc
  · obtain ⟨v_22, -, h⟩ := bd h
    obtain ⟨q_24, h2, h⟩ := bd h
    have kc := kc.tr (ke175 h2) rfl
    obtain ⟨q_30, h3, h⟩ := bd h
    have kc := kc.tr (ke229 h3) rfl
    cases h
    exact kc
theorem ke230 {v1 : _} {S : sT} {q : sT} (h : e230 v1 S = some q) : ks [4, 5, 6, 7, 8, 9, 15, 16, 17, 18, 19, 20, 21, 22, 23, 24, 25, 27, 28, 29, 30, 31, 32] S q := by
  unfold e230 at h
  refine ksx_go (f := f_0) (blk := kS230) ?_ h (fun res hx => kc230_0 hx)
  intro h as S res hk
  unfold kS230 at hk
  split at hk
  · split at hk
    · exact kc230_7 hk
    · cases hk
  · skip
    split at hk
    · split at hk
      · exact kc230_39 hk
      · cases hk
    · skip
      cases hk
theorem kc231_0 {S : sT} {rs : (sRes (Int32 × sT))} (h : c231_0  S = some rs) : ks [3, 4, 5, 6, 7, 8, 9, 15, 16, 17, 18, 19, 20, 21, 22, 23, 24, 25, 27, 28, 29, 30, 31, 32, 35, 36, 39, 40, 41, 42, 43, 44, 45, 46, 54, 55, 56, 57, 59, 60] S (r_S Prod.snd rs) := by
  have kc : ks [3, 4, 5, 6, 7, 8, 9, 15, 16, 17, 18, 19, 20, 21, 22, 23, 24, 25, 27, 28, 29, 30, 31, 32, 35, 36, 39, 40, 41, 42, 43, 44, 45, 46, 54, 55, 56, 57, 59, 60] S S := ks.rf
  unfold c231_0 at h
  obtain ⟨S1, h1, h⟩ := bd h
  have kc := kc.tr (k_s_p h1) rfl
  cases h
  exact kc
theorem kc231_14 {v1 v2 : _} {S : sT} {rs : (sRes (Int32 × sT))} (h : c231_14 v1 v2 S = some rs) : ks [3, 4, 5, 6, 7, 8, 9, 15, 16, 17, 18, 19, 20, 21, 22, 23, 24, 25, 27, 28, 29, 30, 31, 32, 35, 36, 39, 40, 41, 42, 43, 44, 45, 46, 54, 55, 56, 57, 59, 60] S (r_S Prod.snd rs) := by
  have kc : ks [3, 4, 5, 6, 7, 8, 9, 15, 16, 17, 18, 19, 20, 21, 22, 23, 24, 25, 27, 28, 29, 30, 31, 32, 35, 36, 39, 40, 41, 42, 43, 44, 45, 46, 54, 55, 56, 57, 59, 60] S S := ks.rf
  unfold c231_14 at h
  rcases ite_some h with ⟨-, h⟩ | ⟨-, h⟩
  · cases h
    exact kc
  · obtain ⟨S7, h1, h⟩ := bd h
    have kc := kc.tr (k_s_s h1) rfl
    cases h
    exact kc
theorem kc231_144 {v1 v2 : _} {S : sT} {rs : (sRes (Int32 × sT))} (h : c231_144 v1 v2 S = some rs) : ks [3, 4, 5, 6, 7, 8, 9, 15, 16, 17, 18, 19, 20, 21, 22, 23, 24, 25, 27, 28, 29, 30, 31, 32, 35, 36, 39, 40, 41, 42, 43, 44, 45, 46, 54, 55, 56, 57, 59, 60] S (r_S Prod.snd rs) := by
  have kc : ks [3, 4, 5, 6, 7, 8, 9, 15, 16, 17, 18, 19, 20, 21, 22, 23, 24, 25, 27, 28, 29, 30, 31, 32, 35, 36, 39, 40, 41, 42, 43, 44, 45, 46, 54, 55, 56, 57, 59, 60] S S := ks.rf
  unfold c231_144 at h
  cases h
  exact kc
theorem kc231_134 {v1 v2 : _} {S : sT} {rs : (sRes (Int32 × sT))} (h : c231_134 v1 v2 S = some rs) : ks [3, 4, 5, 6, 7, 8, 9, 15, 16, 17, 18, 19, 20, 21, 22, 23, 24, 25, 27, 28, 29, 30, 31, 32, 35, 36, 39, 40, 41, 42, 43, 44, 45, 46, 54, 55, 56, 57, 59, 60] S (r_S Prod.snd rs) := by
  have kc : ks [3, 4, 5, 6, 7, 8, 9, 15, 16, 17, 18, 19, 20, 21, 22, 23, 24, 25, 27, 28, 29, 30, 31, 32, 35, 36, 39, 40, 41, 42, 43, 44, 45, 46, 54, 55, 56, 57, 59, 60] S S := ks.rf
  unfold c231_134 at h
  obtain ⟨S67, h1, h⟩ := bd h
  have kc := kc.tr (k_s_s h1) rfl
  exact kc.tt (kc231_144 h) (fun _ q => q)
theorem kc231_35 {v1 v2 : _} {S : sT} {rs : (sRes (Int32 × sT))} (h : c231_35 v1 v2 S = some rs) : ks [3, 4, 5, 6, 7, 8, 9, 15, 16, 17, 18, 19, 20, 21, 22, 23, 24, 25, 27, 28, 29, 30, 31, 32, 35, 36, 39, 40, 41, 42, 43, 44, 45, 46, 54, 55, 56, 57, 59, 60] S (r_S Prod.snd rs) := by
  have kc : ks [3, 4, 5, 6, 7, 8, 9, 15, 16, 17, 18, 19, 20, 21, 22, 23, 24, 25, 27, 28, 29, 30, 31, 32, 35, 36, 39, 40, 41, 42, 43, 44, 45, 46, 54, 55, 56, 57, 59, 60] S S := ks.rf
  unfold c231_35 at h
  rcases ite_some h with ⟨-, h⟩ | ⟨-, h⟩
  · cases h
    exact kc
  · obtain ⟨S14, h1, h⟩ := bd h
    have kc := kc.tr (k_s_sz h1) rfl
    obtain ⟨v_20, -, h⟩ := bd h
    rcases ite_some h with ⟨-, h⟩ | ⟨-, h⟩
    · exact kc.tt (kc231_144 h) (fun _ q => q)
    · obtain ⟨q_22, h3, h⟩ := bd h
      have kc := kc.tr (ke178 h3) rfl
      obtain ⟨v_28, -, h⟩ := bd h
      rcases ite_some h with ⟨-, h⟩ | ⟨-, h⟩
      · obtain ⟨v_48, -, h⟩ := bd h
        obtain ⟨S50, h6, h⟩ := bd h
        have kc := kc.tr (k_s_s h6) rfl
        obtain ⟨v_56, -, h⟩ := bd h
        obtain ⟨q_58, h8, h⟩ := bd h
        have kc := kc.tr (ke171 h8) rfl
        exact kc.tt (kc231_134 h) (fun _ q => q)
      · obtain ⟨v_30, -, h⟩ := bd h
        obtain ⟨v_32, -, h⟩ := bd h
        obtain ⟨S34, h11, h⟩ := bd h
        have kc := kc.tr (k_s_s h11) rfl
        obtain ⟨v_40, -, h⟩ := bd h
        obtain ⟨S42, h13, h⟩ := bd h
        have kc := kc.tr (k_s_s h13) rfl
        exact kc.tt (kc231_134 h) (fun _ q => q)
theorem kc231_152 {v1 v2 : _} {S : sT} {rs : (sRes (Int32 × sT))} (h : c231_152 v1 v2 S = some rs) : ks [3, 4, 5, 6, 7, 8, 9, 15, 16, 17, 18, 19, 20, 21, 22, 23, 24, 25, 27, 28, 29, 30, 31, 32, 35, 36, 39, 40, 41, 42, 43, 44, 45, 46, 54, 55, 56, 57, 59, 60] S (r_S Prod.snd rs) := by
  have kc : ks [3, 4, 5, 6, 7, 8, 9, 15, 16, 17, 18, 19, 20, 21, 22, 23, 24, 25, 27, 28, 29, 30, 31, 32, 35, 36, 39, 40, 41, 42, 43, 44, 45, 46, 54, 55, 56, 57, 59, 60] S S := ks.rf
  unfold c231_152 at h
  rcases ite_some h with ⟨-, h⟩ | ⟨-, h⟩
  · cases h
    exact kc
  · obtain ⟨q_73, h1, h⟩ := bd h
    have kc := kc.tr (ke230 h1) rfl
    cases h
    exact kc
theorem kc231_173 {v1 v2 : _} {S : sT} {rs : (sRes (Int32 × sT))} (h : c231_173 v1 v2 S = some rs) : ks [3, 4, 5, 6, 7, 8, 9, 15, 16, 17, 18, 19, 20, 21, 22, 23, 24, 25, 27, 28, 29, 30, 31, 32, 35, 36, 39, 40, 41, 42, 43, 44, 45, 46, 54, 55, 56, 57, 59, 60] S (r_S Prod.snd rs) := by
  have kc : ks [3, 4, 5, 6, 7, 8, 9, 15, 16, 17, 18, 19, 20, 21, 22, 23, 24, 25, 27, 28, 29, 30, 31, 32, 35, 36, 39, 40, 41, 42, 43, 44, 45, 46, 54, 55, 56, 57, 59, 60] S S := ks.rf
  unfold c231_173 at h
  rcases ite_some h with ⟨-, h⟩ | ⟨-, h⟩
  · cases h
    exact kc
  · obtain ⟨q_80, h1, h⟩ := bd h
    have kc := kc.tr (ke221 h1) rfl
    cases h
    exact kc
theorem ke231 {S : sT} {q : Int32 × sT} (h : e231  S = some q) : ks [3, 4, 5, 6, 7, 8, 9, 15, 16, 17, 18, 19, 20, 21, 22, 23, 24, 25, 27, 28, 29, 30, 31, 32, 35, 36, 39, 40, 41, 42, 43, 44, 45, 46, 54, 55, 56, 57, 59, 60] S q.2 := by
  unfold e231 at h
  refine ksx_go (f := Prod.snd) (blk := kS231) ?_ h (fun res hx => kc231_0 hx)
  intro h as S res hk
  unfold kS231 at hk
  split at hk
  · split at hk
    · exact kc231_14 hk
    · cases hk
  · skip
    split at hk
    · split at hk
      · exact kc231_35 hk
      · cases hk
    · skip
      split at hk
      · split at hk
        · exact kc231_152 hk
        · cases hk
      · skip
        split at hk
        · split at hk
          · exact kc231_173 hk
          · cases hk
        · skip
          cases hk
theorem kc232_44 {S : sT} {rs : (sRes (Int32 × sT))} (h : c232_44  S = some rs) : ks [33] S (r_S Prod.snd rs) := by
  have kc : ks [33] S S := ks.rf
  unfold c232_44 at h
  cases h
  exact kc
theorem kc232_0 {v1 : _} {S : sT} {rs : (sRes (Int32 × sT))} (h : c232_0 v1 S = some rs) : ks [33] S (r_S Prod.snd rs) := by
  have kc : ks [33] S S := ks.rf
  unfold c232_0 at h
  rcases ite_some h with ⟨-, h⟩ | ⟨-, h⟩
  · exact kc.tt (kc232_44 h) (fun _ q => q)
  · rcases ite_some h with ⟨-, h⟩ | ⟨-, h⟩
    · exact kc.tt (kc232_44 h) (fun _ q => q)
    · obtain ⟨v_1, -, h⟩ := bd h
      rcases ite_some h with ⟨-, h⟩ | ⟨-, h⟩
      · obtain ⟨q_3, h2, h⟩ := bd h
        have kc := kc.tr (ke176 h2) rfl
        obtain ⟨v_9, -, h⟩ := bd h
        rcases ite_some h with ⟨-, h⟩ | ⟨-, h⟩
        · obtain ⟨v_11, -, h⟩ := bd h
          rcases ite_some h with ⟨-, h⟩ | ⟨-, h⟩
          · obtain ⟨S13, h5, h⟩ := bd h
            have kc := kc.tr (k_s_sz h5) rfl
            cases h
            exact kc
          · exact kc.tt (kc232_44 h) (fun _ q => q)
        · exact kc.tt (kc232_44 h) (fun _ q => q)
      · exact kc.tt (kc232_44 h) (fun _ q => q)
theorem ke232 {v1 : _} {S : sT} {q : Int32 × sT} (h : e232 v1 S = some q) : ks [33] S q.2 := by
  unfold e232 at h
  exact ksx_out (f := Prod.snd) h (fun res hx => kc232_0 hx)
theorem kc233_44 {S : sT} {rs : (sRes (Int32 × sT))} (h : c233_44  S = some rs) : ks [8, 9, 10, 11, 12, 13, 14, 15, 17, 19, 20, 21, 23, 24, 25, 35, 36, 39, 41, 46] S (r_S Prod.snd rs) := by
  have kc : ks [8, 9, 10, 11, 12, 13, 14, 15, 17, 19, 20, 21, 23, 24, 25, 35, 36, 39, 41, 46] S S := ks.rf
  unfold c233_44 at h
  cases h
  exact kc
theorem kc233_112 {S : sT} {rs : (sRes (Int32 × sT))} (h : c233_112  S = some rs) : ks [8, 9, 10, 11, 12, 13, 14, 15, 17, 19, 20, 21, 23, 24, 25, 35, 36, 39, 41, 46] S (r_S Prod.snd rs) := by
  have kc : ks [8, 9, 10, 11, 12, 13, 14, 15, 17, 19, 20, 21, 23, 24, 25, 35, 36, 39, 41, 46] S S := ks.rf
  unfold c233_112 at h
  cases h
  exact kc
theorem kc233_169 {S : sT} {rs : (sRes (Int32 × sT))} (h : c233_169  S = some rs) : ks [8, 9, 10, 11, 12, 13, 14, 15, 17, 19, 20, 21, 23, 24, 25, 35, 36, 39, 41, 46] S (r_S Prod.snd rs) := by
  have kc : ks [8, 9, 10, 11, 12, 13, 14, 15, 17, 19, 20, 21, 23, 24, 25, 35, 36, 39, 41, 46] S S := ks.rf
  unfold c233_169 at h
  cases h
  exact kc
theorem kc233_145 {v5 v7 si0 : _} {S : sT} {rs : (sRes (Int32 × sT))} (h : c233_145 v5 v7 si0 S = some rs) : ks [8, 9, 10, 11, 12, 13, 14, 15, 17, 19, 20, 21, 23, 24, 25, 35, 36, 39, 41, 46] S (r_S Prod.snd rs) := by
  have kc : ks [8, 9, 10, 11, 12, 13, 14, 15, 17, 19, 20, 21, 23, 24, 25, 35, 36, 39, 41, 46] S S := ks.rf
  unfold c233_145 at h
  obtain ⟨v_36, -, h⟩ := bd h
  rcases ite_some h with ⟨-, h⟩ | ⟨-, h⟩
  · obtain ⟨v_38, -, h⟩ := bd h
    rcases ite_some h with ⟨-, h⟩ | ⟨-, h⟩
    · obtain ⟨S40, h3, h⟩ := bd h
      have kc := kc.tr (k_s_s h3) rfl
      obtain ⟨S46, h4, h⟩ := bd h
      have kc := kc.tr (k_s_s h4) rfl
      obtain ⟨S52, h5, h⟩ := bd h
      have kc := kc.tr (k_s_s h5) rfl
      obtain ⟨S58, h6, h⟩ := bd h
      have kc := kc.tr (k_s_sz h6) rfl
      obtain ⟨S64, h7, h⟩ := bd h
      have kc := kc.tr (k_s_s h7) rfl
      obtain ⟨S70, h8, h⟩ := bd h
      have kc := kc.tr (k_s_s h8) rfl
      obtain ⟨q_76, h9, h⟩ := bd h
      have kc := kc.tr (ke187 h9) rfl
      obtain ⟨q_82, h10, h⟩ := bd h
      have kc := kc.tr (ke187 h10) rfl
      obtain ⟨S88, h11, h⟩ := bd h
      have kc := kc.tr (k_s_p h11) rfl
      cases h
      exact kc
    · exact kc.tt (kc233_169 h) (fun _ q => q)
  · exact kc.tt (kc233_169 h) (fun _ q => q)
theorem kc233_114 {v1 v2 v3 v4 v5 v6 : _} {S : sT} {rs : (sRes (Int32 × sT))} (h : c233_114 v1 v2 v3 v4 v5 v6 S = some rs) : ks [8, 9, 10, 11, 12, 13, 14, 15, 17, 19, 20, 21, 23, 24, 25, 35, 36, 39, 41, 46] S (r_S Prod.snd rs) := by
  have kc : ks [8, 9, 10, 11, 12, 13, 14, 15, 17, 19, 20, 21, 23, 24, 25, 35, 36, 39, 41, 46] S S := ks.rf
  unfold c233_114 at h
  obtain ⟨q_17, h1, h⟩ := bd h
  have kc := kc.tr (ke175 h1) rfl
  rcases ite_some h with ⟨-, h⟩ | ⟨-, h⟩
  · obtain ⟨q_23, h2, h⟩ := bd h
    have kc := kc.tr (ke175 h2) rfl
    exact kc.tt (kc233_145 h) (fun _ q => q)
  · obtain ⟨q_29, h3, h⟩ := bd h
    have kc := kc.tr (ke176 h3) rfl
    exact kc.tt (kc233_145 h) (fun _ q => q)
theorem kc233_57 {v1 v2 v3 v4 v5 si0 : _} {S : sT} {rs : (sRes (Int32 × sT))} (h : c233_57 v1 v2 v3 v4 v5 si0 S = some rs) : ks [8, 9, 10, 11, 12, 13, 14, 15, 17, 19, 20, 21, 23, 24, 25, 35, 36, 39, 41, 46] S (r_S Prod.snd rs) := by
  have kc : ks [8, 9, 10, 11, 12, 13, 14, 15, 17, 19, 20, 21, 23, 24, 25, 35, 36, 39, 41, 46] S S := ks.rf
  unfold c233_57 at h
  rcases ite_some h with ⟨-, h⟩ | ⟨-, h⟩
  · rcases ite_some h with ⟨-, h⟩ | ⟨-, h⟩
    · exact kc.tt (kc233_112 h) (fun _ q => q)
    · rcases ite_some h with ⟨-, h⟩ | ⟨-, h⟩
      · exact kc.tt (kc233_112 h) (fun _ q => q)
      · rcases ite_some h with ⟨-, h⟩ | ⟨-, h⟩
        · exact kc.tt (kc233_112 h) (fun _ q => q)
        · rcases ite_some h with ⟨-, h⟩ | ⟨-, h⟩
          · exact kc.tt (kc233_112 h) (fun _ q => q)
          · rcases ite_some h with ⟨-, h⟩ | ⟨-, h⟩
            · exact kc.tt (kc233_114 h) (fun _ q => q)
            · exact kc.tt (kc233_112 h) (fun _ q => q)
  · rcases ite_some h with ⟨-, h⟩ | ⟨-, h⟩
    · exact kc.tt (kc233_112 h) (fun _ q => q)
    · rcases ite_some h with ⟨-, h⟩ | ⟨-, h⟩
      · exact kc.tt (kc233_114 h) (fun _ q => q)
      · exact kc.tt (kc233_112 h) (fun _ q => q)
theorem kc233_0 {v1 v2 v3 v4 v5 : _} {S : sT} {rs : (sRes (Int32 × sT))} (h : c233_0 v1 v2 v3 v4 v5 S = some rs) : ks [8, 9, 10, 11, 12, 13, 14, 15, 17, 19, 20, 21, 23, 24, 25, 35, 36, 39, 41, 46] S (r_S Prod.snd rs) := by
  have kc : ks [8, 9, 10, 11, 12, 13, 14, 15, 17, 19, 20, 21, 23, 24, 25, 35, 36, 39, 41, 46] S S := ks.rf
  unfold c233_0 at h
  rcases ite_some h with ⟨-, h⟩ | ⟨-, h⟩
  · exact kc.tt (kc233_44 h) (fun _ q => q)
  · rcases ite_some h with ⟨-, h⟩ | ⟨-, h⟩
    · exact kc.tt (kc233_44 h) (fun _ q => q)
    · rcases ite_some h with ⟨-, h⟩ | ⟨-, h⟩
      · exact kc.tt (kc233_44 h) (fun _ q => q)
      · rcases ite_some h with ⟨-, h⟩ | ⟨-, h⟩
        · exact kc.tt (kc233_44 h) (fun _ q => q)
        · rcases ite_some h with ⟨-, h⟩ | ⟨-, h⟩
          · exact kc.tt (kc233_44 h) (fun _ q => q)
          · rcases ite_some h with ⟨-, h⟩ | ⟨-, h⟩
            · exact kc.tt (kc233_44 h) (fun _ q => q)
            · rcases ite_some h with ⟨-, h⟩ | ⟨-, h⟩
              · exact kc.tt (kc233_44 h) (fun _ q => q)
              · rcases ite_some h with ⟨-, h⟩ | ⟨-, h⟩
                · exact kc.tt (kc233_57 h) (fun _ q => q)
                · exact kc.tt (kc233_57 h) (fun _ q => q)
theorem ke233 {v1 v2 v3 v4 v5 : _} {S : sT} {q : Int32 × sT} (h : e233 v1 v2 v3 v4 v5 S = some q) : ks [8, 9, 10, 11, 12, 13, 14, 15, 17, 19, 20, 21, 23, 24, 25, 35, 36, 39, 41, 46] S q.2 := by
  unfold e233 at h
  exact ksx_out (f := Prod.snd) h (fun res hx => kc233_0 hx)
theorem kc234_17 {si0 : _} {S : sT} {rs : (sRes (Int32 × sT))} (h : c234_17 si0 S = some rs) : ks [] S (r_S Prod.snd rs) := by
  have kc : ks [] S S := ks.rf
  unfold c234_17 at h
  rcases ite_some h with ⟨-, h⟩ | ⟨-, h⟩
  · cases h
    exact kc
  · cases h
theorem kc234_16 {S : sT} {rs : (sRes (Int32 × sT))} (h : c234_16  S = some rs) : ks [] S (r_S Prod.snd rs) := by
  have kc : ks [] S S := ks.rf
  unfold c234_16 at h
  exact kc.tt (kc234_17 h) (fun _ q => q)
theorem kc234_0 {v1 : _} {S : sT} {rs : (sRes (Int32 × sT))} (h : c234_0 v1 S = some rs) : ks [] S (r_S Prod.snd rs) := by
  have kc : ks [] S S := ks.rf
  unfold c234_0 at h
  rcases ite_some h with ⟨-, h⟩ | ⟨-, h⟩
  · exact kc.tt (kc234_16 h) (fun _ q => q)
  · rcases ite_some h with ⟨-, h⟩ | ⟨-, h⟩
    · exact kc.tt (kc234_16 h) (fun _ q => q)
    · exact kc.tt (kc234_17 h) (fun _ q => q)
theorem ke234 {v1 : _} {S : sT} {q : Int32 × sT} (h : e234 v1 S = some q) : ks [] S q.2 := by
  unfold e234 at h
  exact ksx_out (f := Prod.snd) h (fun res hx => kc234_0 hx)
theorem kc235_17 {S : sT} {rs : (sRes (Int32 × sT))} (h : c235_17  S = some rs) : ks [8, 9, 12, 15, 17, 19, 20, 21, 23, 24, 25, 35, 36, 39, 41, 46] S (r_S Prod.snd rs) := by
  have kc : ks [8, 9, 12, 15, 17, 19, 20, 21, 23, 24, 25, 35, 36, 39, 41, 46] S S := ks.rf
  unfold c235_17 at h
  cases h
  exact kc
theorem kc235_0 {v1 : _} {S : sT} {rs : (sRes (Int32 × sT))} (h : c235_0 v1 S = some rs) : ks [8, 9, 12, 15, 17, 19, 20, 21, 23, 24, 25, 35, 36, 39, 41, 46] S (r_S Prod.snd rs) := by
  have kc : ks [8, 9, 12, 15, 17, 19, 20, 21, 23, 24, 25, 35, 36, 39, 41, 46] S S := ks.rf
  unfold c235_0 at h
  obtain ⟨q_1, h1, h⟩ := bd h
  have kc := kc.tr (ke234 h1) rfl
  rcases ite_some h with ⟨-, h⟩ | ⟨-, h⟩
  · exact kc.tt (kc235_17 h) (fun _ q => q)
  · obtain ⟨v_7, -, h⟩ := bd h
    rcases ite_some h with ⟨-, h⟩ | ⟨-, h⟩
    · exact kc.tt (kc235_17 h) (fun _ q => q)
    · obtain ⟨S9, h3, h⟩ := bd h
      have kc := kc.tr (k_s_sz h3) rfl
      obtain ⟨v_15, -, h⟩ := bd h
      obtain ⟨q_17, h5, h⟩ := bd h
      have kc := kc.tr (ke187 h5) rfl
      obtain ⟨v_23, -, h⟩ := bd h
      obtain ⟨q_25, h7, h⟩ := bd h
      have kc := kc.tr (ke187 h7) rfl
      cases h
      exact kc
theorem ke235 {v1 : _} {S : sT} {q : Int32 × sT} (h : e235 v1 S = some q) : ks [8, 9, 12, 15, 17, 19, 20, 21, 23, 24, 25, 35, 36, 39, 41, 46] S q.2 := by
  unfold e235 at h
  exact ksx_out (f := Prod.snd) h (fun res hx => kc235_0 hx)
theorem kc236_17 {S : sT} {rs : (sRes (Int32 × sT))} (h : c236_17  S = some rs) : ks [12] S (r_S Prod.snd rs) := by
  have kc : ks [12] S S := ks.rf
  unfold c236_17 at h
  cases h
  exact kc
theorem kc236_0 {v1 : _} {S : sT} {rs : (sRes (Int32 × sT))} (h : c236_0 v1 S = some rs) : ks [12] S (r_S Prod.snd rs) := by
  have kc : ks [12] S S := ks.rf
  unfold c236_0 at h
  obtain ⟨q_1, h1, h⟩ := bd h
  have kc := kc.tr (ke234 h1) rfl
  rcases ite_some h with ⟨-, h⟩ | ⟨-, h⟩
  · exact kc.tt (kc236_17 h) (fun _ q => q)
  · obtain ⟨v_7, -, h⟩ := bd h
    rcases ite_some h with ⟨-, h⟩ | ⟨-, h⟩
    · obtain ⟨S9, h3, h⟩ := bd h
      have kc := kc.tr (k_s_sz h3) rfl
      cases h
      exact kc
    · exact kc.tt (kc236_17 h) (fun _ q => q)
theorem ke236 {v1 : _} {S : sT} {q : Int32 × sT} (h : e236 v1 S = some q) : ks [12] S q.2 := by
  unfold e236 at h
  exact ksx_out (f := Prod.snd) h (fun res hx => kc236_0 hx)
theorem kc237_22 {S : sT} {rs : (sRes (Int32 × sT))} (h : c237_22  S = some rs) : ks [37] S (r_S Prod.snd rs) := by
  have kc : ks [37] S S := ks.rf
  unfold c237_22 at h
  cases h
  exact kc
theorem kc237_58 {si0 si1 : _} {S : sT} {rs : (sRes (Int32 × sT))} (h : c237_58 si0 si1 S = some rs) : ks [37] S (r_S Prod.snd rs) := by
  have kc : ks [37] S S := ks.rf
  unfold c237_58 at h
  obtain ⟨S10, h1, h⟩ := bd h
  have kc := kc.tr (k_s_s h1) rfl
  cases h
  exact kc
theorem kc237_0 {v1 v2 v3 : _} {S : sT} {rs : (sRes (Int32 × sT))} (h : c237_0 v1 v2 v3 S = some rs) : ks [37] S (r_S Prod.snd rs) := by
  have kc : ks [37] S S := ks.rf
  unfold c237_0 at h
  rcases ite_some h with ⟨-, h⟩ | ⟨-, h⟩
  · exact kc.tt (kc237_22 h) (fun _ q => q)
  · rcases ite_some h with ⟨-, h⟩ | ⟨-, h⟩
    · exact kc.tt (kc237_22 h) (fun _ q => q)
    · rcases ite_some h with ⟨-, h⟩ | ⟨-, h⟩
      · exact kc.tt (kc237_22 h) (fun _ q => q)
      · rcases ite_some h with ⟨-, h⟩ | ⟨-, h⟩
        · rcases ite_some h with ⟨-, h⟩ | ⟨-, h⟩
          · obtain ⟨v_1, -, h⟩ := bd h
            exact kc.tt (kc237_58 h) (fun _ q => q)
          · obtain ⟨v_3, -, h⟩ := bd h
            exact kc.tt (kc237_58 h) (fun _ q => q)
        · exact kc.tt (kc237_22 h) (fun _ q => q)
theorem ke237 {v1 v2 v3 : _} {S : sT} {q : Int32 × sT} (h : e237 v1 v2 v3 S = some q) : ks [37] S q.2 := by
  unfold e237 at h
  exact ksx_out (f := Prod.snd) h (fun res hx => kc237_0 hx)
theorem kc238_0 {v1 : _} {S : sT} {rs : (sRes sT)} (h : c238_0 v1 S = some rs) : ks [38] S (r_S f_0 rs) := by
  have kc : ks [38] S S := ks.rf
  unfold c238_0 at h
  obtain ⟨S1, h1, h⟩ := bd h
  have kc := kc.tr (k_s_pz h1) rfl
  cases h
  exact kc
theorem ke238 {v1 : _} {S : sT} {q : sT} (h : e238 v1 S = some q) : ks [38] S q := by
  unfold e238 at h
  exact ksx_out (f := f_0) h (fun res hx => kc238_0 hx)
theorem kc239_33 {S : sT} {rs : (sRes (Int32 × sT))} (h : c239_33  S = some rs) : ks [26] S (r_S Prod.snd rs) := by
  have kc : ks [26] S S := ks.rf
  unfold c239_33 at h
  cases h
  exact kc
theorem kc239_0 {v1 v2 : _} {S : sT} {rs : (sRes (Int32 × sT))} (h : c239_0 v1 v2 S = some rs) : ks [26] S (r_S Prod.snd rs) := by
  have kc : ks [26] S S := ks.rf
  unfold c239_0 at h
  rcases ite_some h with ⟨-, h⟩ | ⟨-, h⟩
  · exact kc.tt (kc239_33 h) (fun _ q => q)
  · rcases ite_some h with ⟨-, h⟩ | ⟨-, h⟩
    · exact kc.tt (kc239_33 h) (fun _ q => q)
    · rcases ite_some h with ⟨-, h⟩ | ⟨-, h⟩
      · exact kc.tt (kc239_33 h) (fun _ q => q)
      · rcases ite_some h with ⟨-, h⟩ | ⟨-, h⟩
        · exact kc.tt (kc239_33 h) (fun _ q => q)
        · obtain ⟨v_1, -, h⟩ := bd h
          rcases ite_some h with ⟨-, h⟩ | ⟨-, h⟩
          · exact kc.tt (kc239_33 h) (fun _ q => q)
          · obtain ⟨S3, h2, h⟩ := bd h
            have kc := kc.tr (k_s_s h2) rfl
            cases h
            exact kc
theorem ke239 {v1 v2 : _} {S : sT} {q : Int32 × sT} (h : e239 v1 v2 S = some q) : ks [26] S q.2 := by
  unfold e239 at h
  exact ksx_out (f := Prod.snd) h (fun res hx => kc239_0 hx)
theorem kc240_36 {si0 : _} {S : sT} {rs : (sRes (Int32 × sT))} (h : c240_36 si0 S = some rs) : ks [] S (r_S Prod.snd rs) := by
  have kc : ks [] S S := ks.rf
  unfold c240_36 at h
  cases h
  exact kc
theorem kc240_17 {v1 v2 : _} {S : sT} {rs : (sRes (Int32 × sT))} (h : c240_17 v1 v2 S = some rs) : ks [] S (r_S Prod.snd rs) := by
  have kc : ks [] S S := ks.rf
  unfold c240_17 at h
  obtain ⟨v_10, -, h⟩ := bd h
  obtain ⟨v_12, -, h⟩ := bd h
  exact kc.tt (kc240_36 h) (fun _ q => q)
theorem kc240_35 {S : sT} {rs : (sRes (Int32 × sT))} (h : c240_35  S = some rs) : ks [] S (r_S Prod.snd rs) := by
  have kc : ks [] S S := ks.rf
  unfold c240_35 at h
  exact kc.tt (kc240_36 h) (fun _ q => q)
theorem kc240_0 {v1 v2 : _} {S : sT} {rs : (sRes (Int32 × sT))} (h : c240_0 v1 v2 S = some rs) : ks [] S (r_S Prod.snd rs) := by
  have kc : ks [] S S := ks.rf
  unfold c240_0 at h
  obtain ⟨q_1, h1, h⟩ := bd h
  have kc := kc.tr (ke234 h1) rfl
  rcases ite_some h with ⟨-, h⟩ | ⟨-, h⟩
  · exact kc.tt (kc240_35 h) (fun _ q => q)
  · rcases ite_some h with ⟨-, h⟩ | ⟨-, h⟩
    · exact kc.tt (kc240_17 h) (fun _ q => q)
    · rcases ite_some h with ⟨-, h⟩ | ⟨-, h⟩
      · exact kc.tt (kc240_17 h) (fun _ q => q)
      · exact kc.tt (kc240_35 h) (fun _ q => q)
theorem ke240 {v1 v2 : _} {S : sT} {q : Int32 × sT} (h : e240 v1 v2 S = some q) : ks [] S q.2 := by
  unfold e240 at h
  exact ksx_out (f := Prod.snd) h (fun res hx => kc240_0 hx)
theorem kc241_32 {S : sT} {rs : (sRes (Int32 × sT))} (h : c241_32  S = some rs) : ks [6] S (r_S Prod.snd rs) := by
  have kc : ks [6] S S := ks.rf
  unfold c241_32 at h
  cases h
  exact kc
theorem kc241_0 {v1 v2 v3 : _} {S : sT} {rs : (sRes (Int32 × sT))} (h : c241_0 v1 v2 v3 S = some rs) : ks [6] S (r_S Prod.snd rs) := by
  have kc : ks [6] S S := ks.rf
  unfold c241_0 at h
  obtain ⟨q_1, h1, h⟩ := bd h
  have kc := kc.tr (ke240 h1) rfl
  rcases ite_some h with ⟨-, h⟩ | ⟨-, h⟩
  · exact kc.tt (kc241_32 h) (fun _ q => q)
  · rcases ite_some h with ⟨-, h⟩ | ⟨-, h⟩
    · exact kc.tt (kc241_32 h) (fun _ q => q)
    · obtain ⟨v_7, -, h⟩ := bd h
      rcases ite_some h with ⟨-, h⟩ | ⟨-, h⟩
      · obtain ⟨v_9, -, h⟩ := bd h
        obtain ⟨v_11, -, h⟩ := bd h
        obtain ⟨v_13, -, h⟩ := bd h
        obtain ⟨S15, h6, h⟩ := bd h
        have kc := kc.tr (k_s_sb h6) rfl
        cases h
        exact kc
      · exact kc.tt (kc241_32 h) (fun _ q => q)
theorem ke241 {v1 v2 v3 : _} {S : sT} {q : Int32 × sT} (h : e241 v1 v2 v3 S = some q) : ks [6] S q.2 := by
  unfold e241 at h
  exact ksx_out (f := Prod.snd) h (fun res hx => kc241_0 hx)
theorem kc242_11 {S : sT} {rs : (sRes (Int32 × sT))} (h : c242_11  S = some rs) : ks [3, 4, 5, 6, 7, 8, 9, 15, 16, 17, 18, 19, 20, 21, 22, 23, 24, 25, 27, 28, 29, 30, 31, 32, 35, 36, 39, 40, 41, 42, 43, 44, 45, 46, 54, 55, 56, 57, 59, 60] S (r_S Prod.snd rs) := by
  have kc : ks [3, 4, 5, 6, 7, 8, 9, 15, 16, 17, 18, 19, 20, 21, 22, 23, 24, 25, 27, 28, 29, 30, 31, 32, 35, 36, 39, 40, 41, 42, 43, 44, 45, 46, 54, 55, 56, 57, 59, 60] S S := ks.rf
  unfold c242_11 at h
  cases h
  exact kc
theorem kc242_0 {v1 : _} {S : sT} {rs : (sRes (Int32 × sT))} (h : c242_0 v1 S = some rs) : ks [3, 4, 5, 6, 7, 8, 9, 15, 16, 17, 18, 19, 20, 21, 22, 23, 24, 25, 27, 28, 29, 30, 31, 32, 35, 36, 39, 40, 41, 42, 43, 44, 45, 46, 54, 55, 56, 57, 59, 60] S (r_S Prod.snd rs) := by
  have kc : ks [3, 4, 5, 6, 7, 8, 9, 15, 16, 17, 18, 19, 20, 21, 22, 23, 24, 25, 27, 28, 29, 30, 31, 32, 35, 36, 39, 40, 41, 42, 43, 44, 45, 46, 54, 55, 56, 57, 59, 60] S S := ks.rf
  unfold c242_0 at h
  rcases ite_some h with ⟨-, h⟩ | ⟨-, h⟩
  · exact kc.tt (kc242_11 h) (fun _ q => q)
  · rcases ite_some h with ⟨-, h⟩ | ⟨-, h⟩
    · cases h
      exact kc
    · exact kc.tt (kc242_11 h) (fun _ q => q)
theorem kc242_17 {v1 v2 v3 : _} {S : sT} {rs : (sRes (Int32 × sT))} (h : c242_17 v1 v2 v3 S = some rs) : ks [3, 4, 5, 6, 7, 8, 9, 15, 16, 17, 18, 19, 20, 21, 22, 23, 24, 25, 27, 28, 29, 30, 31, 32, 35, 36, 39, 40, 41, 42, 43, 44, 45, 46, 54, 55, 56, 57, 59, 60] S (r_S Prod.snd rs) := by
  have kc : ks [3, 4, 5, 6, 7, 8, 9, 15, 16, 17, 18, 19, 20, 21, 22, 23, 24, 25, 27, 28, 29, 30, 31, 32, 35, 36, 39, 40, 41, 42, 43, 44, 45, 46, 54, 55, 56, 57, 59, 60] S S := ks.rf
  unfold c242_17 at h
  rcases ite_some h with ⟨-, h⟩ | ⟨-, h⟩
  · cases h
    exact kc
  · obtain ⟨q_3, h1, h⟩ := bd h
    have kc := kc.tr (ke231 h1) rfl
    cases h
    exact kc
theorem ke242 {v1 : _} {S : sT} {q : Int32 × sT} (h : e242 v1 S = some q) : ks [3, 4, 5, 6, 7, 8, 9, 15, 16, 17, 18, 19, 20, 21, 22, 23, 24, 25, 27, 28, 29, 30, 31, 32, 35, 36, 39, 40, 41, 42, 43, 44, 45, 46, 54, 55, 56, 57, 59, 60] S q.2 := by
  unfold e242 at h
  refine ksx_go (f := Prod.snd) (blk := kS242) ?_ h (fun res hx => kc242_0 hx)
  intro h as S res hk
  unfold kS242 at hk
  split at hk
  · split at hk
    · exact kc242_17 hk
    · cases hk
  · skip
    cases hk
theorem kc243_95 {S : sT} {rs : (sRes (Int32 × sT))} (h : c243_95  S = some rs) : ks [34, 47, 48, 49, 50, 51, 52, 53, 55, 58, 59, 60] S (r_S Prod.snd rs) := by
  have kc : ks [34, 47, 48, 49, 50, 51, 52, 53, 55, 58, 59, 60] S S := ks.rf
  unfold c243_95 at h
  cases h
  exact kc
theorem kc243_0 {v1 v2 v3 v4 v5 v6 : _} {S : sT} {rs : (sRes (Int32 × sT))} (h : c243_0 v1 v2 v3 v4 v5 v6 S = some rs) : ks [34, 47, 48, 49, 50, 51, 52, 53, 55, 58, 59, 60] S (r_S Prod.snd rs) := by
  have kc : ks [34, 47, 48, 49, 50, 51, 52, 53, 55, 58, 59, 60] S S := ks.rf
  unfold c243_0 at h
  rcases ite_some h with ⟨-, h⟩ | ⟨-, h⟩
  · exact kc.tt (kc243_95 h) (fun _ q => q)
  · rcases ite_some h with ⟨-, h⟩ | ⟨-, h⟩
    · exact kc.tt (kc243_95 h) (fun _ q => q)
    · rcases ite_some h with ⟨-, h⟩ | ⟨-, h⟩
      · exact kc.tt (kc243_95 h) (fun _ q => q)
      · rcases ite_some h with ⟨-, h⟩ | ⟨-, h⟩
        · exact kc.tt (kc243_95 h) (fun _ q => q)
        · obtain ⟨v_1, -, h⟩ := bd h
          rcases ite_some h with ⟨-, h⟩ | ⟨-, h⟩
          · obtain ⟨v_3, -, h⟩ := bd h
            rcases ite_some h with ⟨-, h⟩ | ⟨-, h⟩
            · exact kc.tt (kc243_95 h) (fun _ q => q)
            · rcases ite_some h with ⟨-, h⟩ | ⟨-, h⟩
              · exact kc.tt (kc243_95 h) (fun _ q => q)
              · rcases ite_some h with ⟨-, h⟩ | ⟨-, h⟩
                · exact kc.tt (kc243_95 h) (fun _ q => q)
                · rcases ite_some h with ⟨-, h⟩ | ⟨-, h⟩
                  · exact kc.tt (kc243_95 h) (fun _ q => q)
                  · rcases ite_some h with ⟨-, h⟩ | ⟨-, h⟩
                    · exact kc.tt (kc243_95 h) (fun _ q => q)
                    · rcases ite_some h with ⟨-, h⟩ | ⟨-, h⟩
                      · exact kc.tt (kc243_95 h) (fun _ q => q)
                      · rcases ite_some h with ⟨-, h⟩ | ⟨-, h⟩
                        · exact kc.tt (kc243_95 h) (fun _ q => q)
                        · rcases ite_some h with ⟨-, h⟩ | ⟨-, h⟩
                          · exact kc.tt (kc243_95 h) (fun _ q => q)
                          · rcases ite_some h with ⟨-, h⟩ | ⟨-, h⟩
                            · exact kc.tt (kc243_95 h) (fun _ q => q)
                            · cases h
                              exact kc
          · exact kc.tt (kc243_95 h) (fun _ q => q)
theorem kc243_137 {v1 v2 v3 v4 v5 v6 v7 v8 : _} {S : sT} {rs : (sRes (Int32 × sT))} (h : c243_137 v1 v2 v3 v4 v5 v6 v7 v8 S = some rs) : ks [34, 47, 48, 49, 50, 51, 52, 53, 55, 58, 59, 60] S (r_S Prod.snd rs) := by
  have kc : ks [34, 47, 48, 49, 50, 51, 52, 53, 55, 58, 59, 60] S S := ks.rf
  unfold c243_137 at h
  cases h
  exact kc
theorem kc243_103 {v1 v2 v3 v4 v5 v6 v7 v8 : _} {S : sT} {rs : (sRes (Int32 × sT))} (h : c243_103 v1 v2 v3 v4 v5 v6 v7 v8 S = some rs) : ks [34, 47, 48, 49, 50, 51, 52, 53, 55, 58, 59, 60] S (r_S Prod.snd rs) := by
  have kc : ks [34, 47, 48, 49, 50, 51, 52, 53, 55, 58, 59, 60] S S := ks.rf
  unfold c243_103 at h
  rcases ite_some h with ⟨-, h⟩ | ⟨-, h⟩
  · rcases ite_some h with ⟨-, h⟩ | ⟨-, h⟩
    · cases h
      exact kc
    · obtain ⟨S19, h1, h⟩ := bd h
      have kc := kc.tr (k_s_p h1) rfl
      obtain ⟨S25, h2, h⟩ := bd h
      have kc := kc.tr (k_s_sz h2) rfl
      obtain ⟨S31, h3, h⟩ := bd h
      have kc := kc.tr (k_s_s h3) rfl
      obtain ⟨S37, h4, h⟩ := bd h
      have kc := kc.tr (k_s_s h4) rfl
      obtain ⟨S43, h5, h⟩ := bd h
      have kc := kc.tr (k_s_sz h5) rfl
      obtain ⟨S49, h6, h⟩ := bd h
      have kc := kc.tr (k_s_s h6) rfl
      obtain ⟨S55, h7, h⟩ := bd h
      have kc := kc.tr (k_s_s h7) rfl
      obtain ⟨S61, h8, h⟩ := bd h
      have kc := kc.tr (k_s_s h8) rfl
      obtain ⟨S67, h9, h⟩ := bd h
      have kc := kc.tr (k_s_s h9) rfl
      obtain ⟨S73, h10, h⟩ := bd h
      have kc := kc.tr (k_s_s h10) rfl
      obtain ⟨S79, h11, h⟩ := bd h
      have kc := kc.tr (k_s_s h11) rfl
      obtain ⟨S85, h12, h⟩ := bd h
      have kc := kc.tr (k_s_s h12) rfl
      cases h
      exact kc
  · obtain ⟨v_92, -, h⟩ := bd h
    rcases ite_some h with ⟨-, h⟩ | ⟨-, h⟩
    · obtain ⟨v_94, -, h⟩ := bd h
      rcases ite_some h with ⟨-, h⟩ | ⟨-, h⟩
      · exact kc.tt (kc243_137 h) (fun _ q => q)
      · exact kc.tt (kc243_137 h) (fun _ q => q)
    · exact kc.tt (kc243_137 h) (fun _ q => q)
theorem ke243 {v1 v2 v3 v4 v5 v6 : _} {S : sT} {q : Int32 × sT} (h : e243 v1 v2 v3 v4 v5 v6 S = some q) : ks [34, 47, 48, 49, 50, 51, 52, 53, 55, 58, 59, 60] S q.2 := by
  unfold e243 at h
  refine ksx_go (f := Prod.snd) (blk := kS243) ?_ h (fun res hx => kc243_0 hx)
  intro h as S res hk
  unfold kS243 at hk
  split at hk
  · split at hk
    · exact kc243_103 hk
    · cases hk
  · skip
    cases hk
theorem kc244_27 {v6 : _} {S : sT} {rs : (sRes (Int32 × sT))} (h : c244_27 v6 S = some rs) : ks [4, 6, 7, 8, 9, 18, 19, 34, 47, 48, 49, 50, 51, 52, 53, 55, 56, 57, 58, 59, 60] S (r_S Prod.snd rs) := by
  have kc : ks [4, 6, 7, 8, 9, 18, 19, 34, 47, 48, 49, 50, 51, 52, 53, 55, 56, 57, 58, 59, 60] S S := ks.rf
  unfold c244_27 at h
  cases h
  exact kc
theorem kc244_0 {v1 v2 v3 v4 v5 : _} {S : sT} {rs : (sRes (Int32 × sT))} (h : c244_0 v1 v2 v3 v4 v5 S = some rs) : ks [4, 6, 7, 8, 9, 18, 19, 34, 47, 48, 49, 50, 51, 52, 53, 55, 56, 57, 58, 59, 60] S (r_S Prod.snd rs) := by
  have kc : ks [4, 6, 7, 8, 9, 18, 19, 34, 47, 48, 49, 50, 51, 52, 53, 55, 56, 57, 58, 59, 60] S S := ks.rf
  unfold c244_0 at h
  obtain ⟨q_1, h1, h⟩ := bd h
  have kc := kc.tr (ke243 h1) rfl
  rcases ite_some h with ⟨-, h⟩ | ⟨-, h⟩
  · exact kc.tt (kc244_27 h) (fun _ q => q)
  · obtain ⟨q_7, h2, h⟩ := bd h
    have kc := kc.tr (ke206 h2) rfl
    exact kc.tt (kc244_27 h) (fun _ q => q)
theorem ke244 {v1 v2 v3 v4 v5 : _} {S : sT} {q : Int32 × sT} (h : e244 v1 v2 v3 v4 v5 S = some q) : ks [4, 6, 7, 8, 9, 18, 19, 34, 47, 48, 49, 50, 51, 52, 53, 55, 56, 57, 58, 59, 60] S q.2 := by
  unfold e244 at h
  exact ksx_out (f := Prod.snd) h (fun res hx => kc244_0 hx)
theorem kc245_0 {v1 v2 v3 v4 v5 w6 : _} {S : sT} {rs : (sRes (Int32 × sT))} (h : c245_0 v1 v2 v3 v4 v5 w6 S = some rs) : ks [4, 6, 7, 8, 9, 18, 19, 34, 47, 48, 49, 50, 51, 52, 53, 54, 55, 56, 57, 58, 59, 60] S (r_S Prod.snd rs) := by
  have kc : ks [4, 6, 7, 8, 9, 18, 19, 34, 47, 48, 49, 50, 51, 52, 53, 54, 55, 56, 57, 58, 59, 60] S S := ks.rf
  unfold c245_0 at h
  obtain ⟨q_1, h1, h⟩ := bd h
  have kc := kc.tr (ke243 h1) rfl
  rcases ite_some h with ⟨-, h⟩ | ⟨-, h⟩
  · cases h
    exact kc
  · cases h
    exact kc
theorem kc245_26 {v5 w6 v8 v9 : _} {S : sT} {rs : (sRes (Int32 × sT))} (h : c245_26 v5 w6 v8 v9 S = some rs) : ks [4, 6, 7, 8, 9, 18, 19, 34, 47, 48, 49, 50, 51, 52, 53, 54, 55, 56, 57, 58, 59, 60] S (r_S Prod.snd rs) := by
  have kc : ks [4, 6, 7, 8, 9, 18, 19, 34, 47, 48, 49, 50, 51, 52, 53, 54, 55, 56, 57, 58, 59, 60] S S := ks.rf
  unfold c245_26 at h
  rcases ite_some h with ⟨-, h⟩ | ⟨-, h⟩
  · obtain ⟨q_8, h1, h⟩ := bd h
    have kc := kc.tr (ke206 h1) rfl
    cases h
    exact kc
  · obtain ⟨S14, h2, h⟩ := bd h
    have kc := kc.tr (k_s_sl h2) rfl
    cases h
    exact kc
theorem ke245 {v1 v2 v3 v4 v5 w6 : _} {S : sT} {q : Int32 × sT} (h : e245 v1 v2 v3 v4 v5 w6 S = some q) : ks [4, 6, 7, 8, 9, 18, 19, 34, 47, 48, 49, 50, 51, 52, 53, 54, 55, 56, 57, 58, 59, 60] S q.2 := by
  unfold e245 at h
  refine ksx_go (f := Prod.snd) (blk := kS245) ?_ h (fun res hx => kc245_0 hx)
  intro h as S res hk
  unfold kS245 at hk
  split at hk
  · split at hk
    · exact kc245_26 hk
    · cases hk
  · skip
    cases hk
theorem kc246_17 {si0 : _} {S : sT} {rs : (sRes (Int32 × sT))} (h : c246_17 si0 S = some rs) : ks [] S (r_S Prod.snd rs) := by
  have kc : ks [] S S := ks.rf
  unfold c246_17 at h
  rcases ite_some h with ⟨-, h⟩ | ⟨-, h⟩
  · cases h
    exact kc
  · cases h
theorem kc246_16 {S : sT} {rs : (sRes (Int32 × sT))} (h : c246_16  S = some rs) : ks [] S (r_S Prod.snd rs) := by
  have kc : ks [] S S := ks.rf
  unfold c246_16 at h
  exact kc.tt (kc246_17 h) (fun _ q => q)
theorem kc246_0 {v1 : _} {S : sT} {rs : (sRes (Int32 × sT))} (h : c246_0 v1 S = some rs) : ks [] S (r_S Prod.snd rs) := by
  have kc : ks [] S S := ks.rf
  unfold c246_0 at h
  rcases ite_some h with ⟨-, h⟩ | ⟨-, h⟩
  · exact kc.tt (kc246_16 h) (fun _ q => q)
  · rcases ite_some h with ⟨-, h⟩ | ⟨-, h⟩
    · exact kc.tt (kc246_16 h) (fun _ q => q)
    · exact kc.tt (kc246_17 h) (fun _ q => q)
theorem ke246 {v1 : _} {S : sT} {q : Int32 × sT} (h : e246 v1 S = some q) : ks [] S q.2 := by
  unfold e246 at h
  exact ksx_out (f := Prod.snd) h (fun res hx => kc246_0 hx)
theorem kc247_18 {si0 : _} {S : sT} {rs : (sRes (Int32 × sT))} (h : c247_18 si0 S = some rs) : ks [] S (r_S Prod.snd rs) := by
  have kc : ks [] S S := ks.rf
  unfold c247_18 at h
  cases h
  exact kc
theorem kc247_0 {v1 : _} {S : sT} {rs : (sRes (Int32 × sT))} (h : c247_0 v1 S = some rs) : ks [] S (r_S Prod.snd rs) := by
  have kc : ks [] S S := ks.rf
  unfold c247_0 at h
  obtain ⟨q_1, h1, h⟩ := bd h
  have kc := kc.tr (ke246 h1) rfl
  rcases ite_some h with ⟨-, h⟩ | ⟨-, h⟩
  · exact kc.tt (kc247_18 h) (fun _ q => q)
  · obtain ⟨v_7, -, h⟩ := bd h
    exact kc.tt (kc247_18 h) (fun _ q => q)
theorem ke247 {v1 : _} {S : sT} {q : Int32 × sT} (h : e247 v1 S = some q) : ks [] S q.2 := by
  unfold e247 at h
  exact ksx_out (f := Prod.snd) h (fun res hx => kc247_0 hx)
theorem kc248_40 {sl0 : _} {S : sT} {rs : (sRes (Int64 × sT))} (h : c248_40 sl0 S = some rs) : ks [] S (r_S Prod.snd rs) := by
  have kc : ks [] S S := ks.rf
  unfold c248_40 at h
  cases h
  exact kc
theorem kc248_39 {S : sT} {rs : (sRes (Int64 × sT))} (h : c248_39  S = some rs) : ks [] S (r_S Prod.snd rs) := by
  have kc : ks [] S S := ks.rf
  unfold c248_39 at h
  exact kc.tt (kc248_40 h) (fun _ q => q)
theorem kc248_0 {v1 v2 : _} {S : sT} {rs : (sRes (Int64 × sT))} (h : c248_0 v1 v2 S = some rs) : ks [] S (r_S Prod.snd rs) := by
  have kc : ks [] S S := ks.rf
  unfold c248_0 at h
  obtain ⟨q_1, h1, h⟩ := bd h
  have kc := kc.tr (ke246 h1) rfl
  rcases ite_some h with ⟨-, h⟩ | ⟨-, h⟩
  · exact kc.tt (kc248_39 h) (fun _ q => q)
  · obtain ⟨v_7, -, h⟩ := bd h
    rcases ite_some h with ⟨-, h⟩ | ⟨-, h⟩
    · rcases ite_some h with ⟨-, h⟩ | ⟨-, h⟩
      · exact kc.tt (kc248_39 h) (fun _ q => q)
      · rcases ite_some h with ⟨-, h⟩ | ⟨-, h⟩
        · exact kc.tt (kc248_39 h) (fun _ q => q)
        · obtain ⟨w_9, -, h⟩ := bd h
          exact kc.tt (kc248_40 h) (fun _ q => q)
    · exact kc.tt (kc248_39 h) (fun _ q => q)
theorem ke248 {v1 v2 : _} {S : sT} {q : Int64 × sT} (h : e248 v1 v2 S = some q) : ks [] S q.2 := by
  unfold e248 at h
  exact ksx_out (f := Prod.snd) h (fun res hx => kc248_0 hx)
theorem kc249_52 {si0 : _} {S : sT} {rs : (sRes (Int32 × sT))} (h : c249_52 si0 S = some rs) : ks [] S (r_S Prod.snd rs) := by
  have kc : ks [] S S := ks.rf
  unfold c249_52 at h
  cases h
  exact kc
theorem kc249_0 {v1 v2 : _} {S : sT} {rs : (sRes (Int32 × sT))} (h : c249_0 v1 v2 S = some rs) : ks [] S (r_S Prod.snd rs) := by
  have kc : ks [] S S := ks.rf
  unfold c249_0 at h
  obtain ⟨q_1, h1, h⟩ := bd h
  have kc := kc.tr (ke246 h1) rfl
  rcases ite_some h with ⟨-, h⟩ | ⟨-, h⟩
  · cases h
    exact kc
  · rcases ite_some h with ⟨-, h⟩ | ⟨-, h⟩
    · obtain ⟨v_13, -, h⟩ := bd h
      exact kc.tt (kc249_52 h) (fun _ q => q)
    · rcases ite_some h with ⟨-, h⟩ | ⟨-, h⟩
      · obtain ⟨v_10, -, h⟩ := bd h
        exact kc.tt (kc249_52 h) (fun _ q => q)
      · rcases ite_some h with ⟨-, h⟩ | ⟨-, h⟩
        · obtain ⟨v_7, -, h⟩ := bd h
          exact kc.tt (kc249_52 h) (fun _ q => q)
        · exact kc.tt (kc249_52 h) (fun _ q => q)
theorem ke249 {v1 v2 : _} {S : sT} {q : Int32 × sT} (h : e249 v1 v2 S = some q) : ks [] S q.2 := by
  unfold e249 at h
  exact ksx_out (f := Prod.snd) h (fun res hx => kc249_0 hx)
theorem kc250_40 {S : sT} {rs : (sRes (Int64 × sT))} (h : c250_40  S = some rs) : ks [] S (r_S Prod.snd rs) := by
  have kc : ks [] S S := ks.rf
  unfold c250_40 at h
  cases h
  exact kc
theorem kc250_0 {v1 v2 v3 : _} {S : sT} {rs : (sRes (Int64 × sT))} (h : c250_0 v1 v2 v3 S = some rs) : ks [] S (r_S Prod.snd rs) := by
  have kc : ks [] S S := ks.rf
  unfold c250_0 at h
  rcases ite_some h with ⟨-, h⟩ | ⟨-, h⟩
  · exact kc.tt (kc250_40 h) (fun _ q => q)
  · rcases ite_some h with ⟨-, h⟩ | ⟨-, h⟩
    · exact kc.tt (kc250_40 h) (fun _ q => q)
    · obtain ⟨v_1, -, h⟩ := bd h
      rcases ite_some h with ⟨-, h⟩ | ⟨-, h⟩
      · exact kc.tt (kc250_40 h) (fun _ q => q)
      · rcases ite_some h with ⟨-, h⟩ | ⟨-, h⟩
        · exact kc.tt (kc250_40 h) (fun _ q => q)
        · rcases ite_some h with ⟨-, h⟩ | ⟨-, h⟩
          · exact kc.tt (kc250_40 h) (fun _ q => q)
          · rcases ite_some h with ⟨-, h⟩ | ⟨-, h⟩
            · exact kc.tt (kc250_40 h) (fun _ q => q)
            · rcases ite_some h with ⟨-, h⟩ | ⟨-, h⟩
              · obtain ⟨w_3, -, h⟩ := bd h
                cases h
                exact kc
              · exact kc.tt (kc250_40 h) (fun _ q => q)
theorem ke250 {v1 v2 v3 : _} {S : sT} {q : Int64 × sT} (h : e250 v1 v2 v3 S = some q) : ks [] S q.2 := by
  unfold e250 at h
  exact ksx_out (f := Prod.snd) h (fun res hx => kc250_0 hx)
theorem kc251_23 {S : sT} {rs : (sRes (Int32 × sT))} (h : c251_23  S = some rs) : ks [32] S (r_S Prod.snd rs) := by
  have kc : ks [32] S S := ks.rf
  unfold c251_23 at h
  cases h
  exact kc
theorem kc251_54 {si0 : _} {S : sT} {rs : (sRes (Int32 × sT))} (h : c251_54 si0 S = some rs) : ks [32] S (r_S Prod.snd rs) := by
  have kc : ks [32] S S := ks.rf
  unfold c251_54 at h
  cases h
  exact kc
theorem kc251_48 {v1 v2 : _} {S : sT} {rs : (sRes (Int32 × sT))} (h : c251_48 v1 v2 S = some rs) : ks [32] S (r_S Prod.snd rs) := by
  have kc : ks [32] S S := ks.rf
  unfold c251_48 at h
  obtain ⟨q_15, h1, h⟩ := bd h
  have kc := kc.tr (ke201 h1) rfl
  exact kc.tt (kc251_54 h) (fun _ q => q)
theorem kc251_0 {v1 v2 : _} {S : sT} {rs : (sRes (Int32 × sT))} (h : c251_0 v1 v2 S = some rs) : ks [32] S (r_S Prod.snd rs) := by
  have kc : ks [32] S S := ks.rf
  unfold c251_0 at h
  rcases ite_some h with ⟨-, h⟩ | ⟨-, h⟩
  · exact kc.tt (kc251_23 h) (fun _ q => q)
  · rcases ite_some h with ⟨-, h⟩ | ⟨-, h⟩
    · exact kc.tt (kc251_23 h) (fun _ q => q)
    · rcases ite_some h with ⟨-, h⟩ | ⟨-, h⟩
      · exact kc.tt (kc251_23 h) (fun _ q => q)
      · rcases ite_some h with ⟨-, h⟩ | ⟨-, h⟩
        · obtain ⟨v_1, -, h⟩ := bd h
          rcases ite_some h with ⟨-, h⟩ | ⟨-, h⟩
          · obtain ⟨q_3, h2, h⟩ := bd h
            have kc := kc.tr (ke200 h2) rfl
            rcases ite_some h with ⟨-, h⟩ | ⟨-, h⟩
            · exact kc.tt (kc251_54 h) (fun _ q => q)
            · exact kc.tt (kc251_48 h) (fun _ q => q)
          · exact kc.tt (kc251_48 h) (fun _ q => q)
        · exact kc.tt (kc251_23 h) (fun _ q => q)
theorem ke251 {v1 v2 : _} {S : sT} {q : Int32 × sT} (h : e251 v1 v2 S = some q) : ks [32] S q.2 := by
  unfold e251 at h
  exact ksx_out (f := Prod.snd) h (fun res hx => kc251_0 hx)
theorem kc252_37 {S : sT} {rs : (sRes (Int32 × sT))} (h : c252_37  S = some rs) : ks [] S (r_S Prod.snd rs) := by
  have kc : ks [] S S := ks.rf
  unfold c252_37 at h
  cases h
  exact kc
theorem kc252_0 {v1 v2 v3 : _} {S : sT} {rs : (sRes (Int32 × sT))} (h : c252_0 v1 v2 v3 S = some rs) : ks [] S (r_S Prod.snd rs) := by
  have kc : ks [] S S := ks.rf
  unfold c252_0 at h
  rcases ite_some h with ⟨-, h⟩ | ⟨-, h⟩
  · exact kc.tt (kc252_37 h) (fun _ q => q)
  · rcases ite_some h with ⟨-, h⟩ | ⟨-, h⟩
    · exact kc.tt (kc252_37 h) (fun _ q => q)
    · rcases ite_some h with ⟨-, h⟩ | ⟨-, h⟩
      · exact kc.tt (kc252_37 h) (fun _ q => q)
      · rcases ite_some h with ⟨-, h⟩ | ⟨-, h⟩
        · exact kc.tt (kc252_37 h) (fun _ q => q)
        · obtain ⟨v_1, -, h⟩ := bd h
          rcases ite_some h with ⟨-, h⟩ | ⟨-, h⟩
          · exact kc.tt (kc252_37 h) (fun _ q => q)
          · rcases ite_some h with ⟨-, h⟩ | ⟨-, h⟩
            · obtain ⟨q_3, h2, h⟩ := bd h
              have kc := kc.tr (ke191 h2) rfl
              cases h
              exact kc
            · rcases ite_some h with ⟨-, h⟩ | ⟨-, h⟩
              · obtain ⟨q_9, h3, h⟩ := bd h
                have kc := kc.tr (ke190 h3) rfl
                cases h
                exact kc
              · rcases ite_some h with ⟨-, h⟩ | ⟨-, h⟩
                · obtain ⟨q_15, h4, h⟩ := bd h
                  have kc := kc.tr (ke190 h4) rfl
                  cases h
                  exact kc
                · rcases ite_some h with ⟨-, h⟩ | ⟨-, h⟩
                  · obtain ⟨q_21, h5, h⟩ := bd h
                    have kc := kc.tr (ke192 h5) rfl
                    obtain ⟨q_27, h6, h⟩ := bd h
                    have kc := kc.tr (ke190 h6) rfl
                    cases h
                    exact kc
                  · rcases ite_some h with ⟨-, h⟩ | ⟨-, h⟩
                    · obtain ⟨v_33, -, h⟩ := bd h
                      cases h
                      exact kc
                    · cases h
                      exact kc
theorem ke252 {v1 v2 v3 : _} {S : sT} {q : Int32 × sT} (h : e252 v1 v2 v3 S = some q) : ks [] S q.2 := by
  unfold e252 at h
  exact ksx_out (f := Prod.snd) h (fun res hx => kc252_0 hx)
theorem kc253_58 {S : sT} {rs : (sRes (Int32 × sT))} (h : c253_58  S = some rs) : ks [] S (r_S Prod.snd rs) := by
  have kc : ks [] S S := ks.rf
  unfold c253_58 at h
  cases h
  exact kc
theorem kc253_198 {si0 : _} {S : sT} {rs : (sRes (Int32 × sT))} (h : c253_198 si0 S = some rs) : ks [] S (r_S Prod.snd rs) := by
  have kc : ks [] S S := ks.rf
  unfold c253_198 at h
  cases h
  exact kc
theorem kc253_213 {si0 : _} {S : sT} {rs : (sRes (Int32 × sT))} (h : c253_213 si0 S = some rs) : ks [] S (r_S Prod.snd rs) := by
  have kc : ks [] S S := ks.rf
  unfold c253_213 at h
  cases h
  exact kc
theorem kc253_82 {v3 v4 si0 : _} {S : sT} {rs : (sRes (Int32 × sT))} (h : c253_82 v3 v4 si0 S = some rs) : ks [] S (r_S Prod.snd rs) := by
  have kc : ks [] S S := ks.rf
  unfold c253_82 at h
  obtain ⟨v_22, -, h⟩ := bd h
  rcases ite_some h with ⟨-, h⟩ | ⟨-, h⟩
  · cases h
    exact kc
  · rcases ite_some h with ⟨-, h⟩ | ⟨-, h⟩
    · obtain ⟨q_24, h2, h⟩ := bd h
      have kc := kc.tr (ke180 h2) rfl
      cases h
      exact kc
    · rcases ite_some h with ⟨-, h⟩ | ⟨-, h⟩
      · obtain ⟨v_30, -, h⟩ := bd h
        cases h
        exact kc
      · rcases ite_some h with ⟨-, h⟩ | ⟨-, h⟩
        · obtain ⟨v_32, -, h⟩ := bd h
          cases h
          exact kc
        · rcases ite_some h with ⟨-, h⟩ | ⟨-, h⟩
          · rcases ite_some h with ⟨-, h⟩ | ⟨-, h⟩
            · obtain ⟨q_34, h5, h⟩ := bd h
              have kc := kc.tr (ke179 h5) rfl
              rcases ite_some h with ⟨-, h⟩ | ⟨-, h⟩
              · obtain ⟨v_40, -, h⟩ := bd h
                exact kc.tt (kc253_198 h) (fun _ q => q)
              · obtain ⟨q_42, h7, h⟩ := bd h
                have kc := kc.tr (ke179 h7) rfl
                exact kc.tt (kc253_198 h) (fun _ q => q)
            · obtain ⟨q_49, h8, h⟩ := bd h
              have kc := kc.tr (ke178 h8) rfl
              obtain ⟨v_55, -, h⟩ := bd h
              exact kc.tt (kc253_198 h) (fun _ q => q)
          · rcases ite_some h with ⟨-, h⟩ | ⟨-, h⟩
            · obtain ⟨q_58, h10, h⟩ := bd h
              have kc := kc.tr (ke177 h10) rfl
              rcases ite_some h with ⟨-, h⟩ | ⟨-, h⟩
              · exact kc.tt (kc253_213 h) (fun _ q => q)
              · exact kc.tt (kc253_213 h) (fun _ q => q)
            · cases h
              exact kc
theorem kc253_60 {v1 v2 v3 v4 : _} {S : sT} {rs : (sRes (Int32 × sT))} (h : c253_60 v1 v2 v3 v4 S = some rs) : ks [] S (r_S Prod.snd rs) := by
  have kc : ks [] S S := ks.rf
  unfold c253_60 at h
  rcases ite_some h with ⟨-, h⟩ | ⟨-, h⟩
  · obtain ⟨q_9, h1, h⟩ := bd h
    have kc := kc.tr (ke175 h1) rfl
    exact kc.tt (kc253_82 h) (fun _ q => q)
  · obtain ⟨q_15, h2, h⟩ := bd h
    have kc := kc.tr (ke176 h2) rfl
    exact kc.tt (kc253_82 h) (fun _ q => q)
theorem kc253_11 {v1 v2 v3 si0 : _} {S : sT} {rs : (sRes (Int32 × sT))} (h : c253_11 v1 v2 v3 si0 S = some rs) : ks [] S (r_S Prod.snd rs) := by
  have kc : ks [] S S := ks.rf
  unfold c253_11 at h
  rcases ite_some h with ⟨-, h⟩ | ⟨-, h⟩
  · rcases ite_some h with ⟨-, h⟩ | ⟨-, h⟩
    · exact kc.tt (kc253_58 h) (fun _ q => q)
    · rcases ite_some h with ⟨-, h⟩ | ⟨-, h⟩
      · exact kc.tt (kc253_58 h) (fun _ q => q)
      · rcases ite_some h with ⟨-, h⟩ | ⟨-, h⟩
        · exact kc.tt (kc253_58 h) (fun _ q => q)
        · rcases ite_some h with ⟨-, h⟩ | ⟨-, h⟩
          · exact kc.tt (kc253_60 h) (fun _ q => q)
          · exact kc.tt (kc253_58 h) (fun _ q => q)
  · rcases ite_some h with ⟨-, h⟩ | ⟨-, h⟩
    · exact kc.tt (kc253_58 h) (fun _ q => q)
    · rcases ite_some h with ⟨-, h⟩ | ⟨-, h⟩
      · exact kc.tt (kc253_60 h) (fun _ q => q)
      · exact kc.tt (kc253_58 h) (fun _ q => q)
theorem kc253_0 {v1 v2 v3 : _} {S : sT} {rs : (sRes (Int32 × sT))} (h : c253_0 v1 v2 v3 S = some rs) : ks [] S (r_S Prod.snd rs) := by
  have kc : ks [] S S := ks.rf
  unfold c253_0 at h
  rcases ite_some h with ⟨-, h⟩ | ⟨-, h⟩
  · exact kc.tt (kc253_11 h) (fun _ q => q)
  · exact kc.tt (kc253_11 h) (fun _ q => q)
theorem ke253 {v1 v2 v3 : _} {S : sT} {q : Int32 × sT} (h : e253 v1 v2 v3 S = some q) : ks [] S q.2 := by
  unfold e253 at h
  exact ksx_out (f := Prod.snd) h (fun res hx => kc253_0 hx)
theorem kc254_22 {si0 : _} {S : sT} {rs : (sRes (Int32 × sT))} (h : c254_22 si0 S = some rs) : ks [] S (r_S Prod.snd rs) := by
  have kc : ks [] S S := ks.rf
  unfold c254_22 at h
  cases h
  exact kc
theorem kc254_12 {S : sT} {rs : (sRes (Int32 × sT))} (h : c254_12  S = some rs) : ks [] S (r_S Prod.snd rs) := by
  have kc : ks [] S S := ks.rf
  unfold c254_12 at h
  exact kc.tt (kc254_22 h) (fun _ q => q)
theorem kc254_0 {v1 : _} {S : sT} {rs : (sRes (Int32 × sT))} (h : c254_0 v1 S = some rs) : ks [] S (r_S Prod.snd rs) := by
  have kc : ks [] S S := ks.rf
  unfold c254_0 at h
  rcases ite_some h with ⟨-, h⟩ | ⟨-, h⟩
  · exact kc.tt (kc254_12 h) (fun _ q => q)
  · rcases ite_some h with ⟨-, h⟩ | ⟨-, h⟩
    · obtain ⟨v_1, -, h⟩ := bd h
      exact kc.tt (kc254_22 h) (fun _ q => q)
    · exact kc.tt (kc254_12 h) (fun _ q => q)
theorem ke254 {v1 : _} {S : sT} {q : Int32 × sT} (h : e254 v1 S = some q) : ks [] S q.2 := by
  unfold e254 at h
  exact ksx_out (f := Prod.snd) h (fun res hx => kc254_0 hx)
theorem kc255_29 {S : sT} {rs : (sRes (Int64 × sT))} (h : c255_29  S = some rs) : ks [] S (r_S Prod.snd rs) := by
  have kc : ks [] S S := ks.rf
  unfold c255_29 at h
  cases h
  exact kc
theorem kc255_0 {v1 v2 v3 : _} {S : sT} {rs : (sRes (Int64 × sT))} (h : c255_0 v1 v2 v3 S = some rs) : ks [] S (r_S Prod.snd rs) := by
  have kc : ks [] S S := ks.rf
  unfold c255_0 at h
  obtain ⟨q_1, h1, h⟩ := bd h
  have kc := kc.tr (ke240 h1) rfl
  rcases ite_some h with ⟨-, h⟩ | ⟨-, h⟩
  · exact kc.tt (kc255_29 h) (fun _ q => q)
  · rcases ite_some h with ⟨-, h⟩ | ⟨-, h⟩
    · exact kc.tt (kc255_29 h) (fun _ q => q)
    · obtain ⟨v_7, -, h⟩ := bd h
      rcases ite_some h with ⟨-, h⟩ | ⟨-, h⟩
      · cases h
        exact kc
      · exact kc.tt (kc255_29 h) (fun _ q => q)
theorem kc255_77 {v3 v4 v7 si0 sl1 : _} {S : sT} {rs : (sRes (Int64 × sT))} (h : c255_77 v3 v4 v7 si0 sl1 S = some rs) : ks [] S (r_S Prod.snd rs) := by
  have kc : ks [] S S := ks.rf
  unfold c255_77 at h
  cases h
  exact kc
theorem kc255_37 {v3 v4 w5 v7 : _} {S : sT} {rs : (sRes (Int64 × sT))} (h : c255_37 v3 v4 w5 v7 S = some rs) : ks [] S (r_S Prod.snd rs) := by
  have kc : ks [] S S := ks.rf
  unfold c255_37 at h
  rcases ite_some h with ⟨-, h⟩ | ⟨-, h⟩
  · cases h
    exact kc
  · obtain ⟨v_12, -, h⟩ := bd h
    rcases ite_some h with ⟨-, h⟩ | ⟨-, h⟩
    · exact kc.tt (kc255_77 h) (fun _ q => q)
    · obtain ⟨q_14, h2, h⟩ := bd h
      have kc := kc.tr (ke165 h2) rfl
      exact kc.tt (kc255_77 h) (fun _ q => q)
theorem ke255 {v1 v2 v3 : _} {S : sT} {q : Int64 × sT} (h : e255 v1 v2 v3 S = some q) : ks [] S q.2 := by
  unfold e255 at h
  refine ksx_go (f := Prod.snd) (blk := kS255) ?_ h (fun res hx => kc255_0 hx)
  intro h as S res hk
  unfold kS255 at hk
  split at hk
  · split at hk
    · exact kc255_37 hk
    · cases hk
  · skip
    cases hk
theorem kc256_71 {si0 : _} {S : sT} {rs : (sRes (Int32 × sT))} (h : c256_71 si0 S = some rs) : ks [] S (r_S Prod.snd rs) := by
  have kc : ks [] S S := ks.rf
  unfold c256_71 at h
  cases h
  exact kc
theorem kc256_70 {S : sT} {rs : (sRes (Int32 × sT))} (h : c256_70  S = some rs) : ks [] S (r_S Prod.snd rs) := by
  have kc : ks [] S S := ks.rf
  unfold c256_70 at h
  exact kc.tt (kc256_71 h) (fun _ q => q)
theorem kc256_0 {v1 : _} {S : sT} {rs : (sRes (Int32 × sT))} (h : c256_0 v1 S = some rs) : ks [] S (r_S Prod.snd rs) := by
  have kc : ks [] S S := ks.rf
  unfold c256_0 at h
  rcases ite_some h with ⟨-, h⟩ | ⟨-, h⟩
  · cases h
    exact kc
  · rcases ite_some h with ⟨-, h⟩ | ⟨-, h⟩
    · cases h
      exact kc
    · rcases ite_some h with ⟨-, h⟩ | ⟨-, h⟩
      · cases h
        exact kc
      · rcases ite_some h with ⟨-, h⟩ | ⟨-, h⟩
        · exact kc.tt (kc256_70 h) (fun _ q => q)
        · rcases ite_some h with ⟨-, h⟩ | ⟨-, h⟩
          · exact kc.tt (kc256_70 h) (fun _ q => q)
          · obtain ⟨v_1, -, h⟩ := bd h
            exact kc.tt (kc256_71 h) (fun _ q => q)
theorem ke256 {v1 : _} {S : sT} {q : Int32 × sT} (h : e256 v1 S = some q) : ks [] S q.2 := by
  unfold e256 at h
  exact ksx_out (f := Prod.snd) h (fun res hx => kc256_0 hx)
theorem kc257_24 {si0 : _} {S : sT} {rs : (sRes (Int32 × sT))} (h : c257_24 si0 S = some rs) : ks [] S (r_S Prod.snd rs) := by
  have kc : ks [] S S := ks.rf
  unfold c257_24 at h
  cases h
  exact kc
theorem kc257_14 {v1 : _} {S : sT} {rs : (sRes (Int32 × sT))} (h : c257_14 v1 S = some rs) : ks [] S (r_S Prod.snd rs) := by
  have kc : ks [] S S := ks.rf
  unfold c257_14 at h
  obtain ⟨v_4, -, h⟩ := bd h
  exact kc.tt (kc257_24 h) (fun _ q => q)
theorem kc257_0 {v1 : _} {S : sT} {rs : (sRes (Int32 × sT))} (h : c257_0 v1 S = some rs) : ks [] S (r_S Prod.snd rs) := by
  have kc : ks [] S S := ks.rf
  unfold c257_0 at h
  rcases ite_some h with ⟨-, h⟩ | ⟨-, h⟩
  · cases h
    exact kc
  · rcases ite_some h with ⟨-, h⟩ | ⟨-, h⟩
    · exact kc.tt (kc257_14 h) (fun _ q => q)
    · rcases ite_some h with ⟨-, h⟩ | ⟨-, h⟩
      · exact kc.tt (kc257_14 h) (fun _ q => q)
      · exact kc.tt (kc257_24 h) (fun _ q => q)
theorem kc257_67 {v2 v3 : _} {S : sT} {rs : (sRes (Int32 × sT))} (h : c257_67 v2 v3 S = some rs) : ks [] S (r_S Prod.snd rs) := by
  have kc : ks [] S S := ks.rf
  unfold c257_67 at h
  cases h
  exact kc
theorem kc257_29 {v2 v3 : _} {S : sT} {rs : (sRes (Int32 × sT))} (h : c257_29 v2 v3 S = some rs) : ks [] S (r_S Prod.snd rs) := by
  have kc : ks [] S S := ks.rf
  unfold c257_29 at h
  rcases ite_some h with ⟨-, h⟩ | ⟨-, h⟩
  · cases h
    exact kc
  · obtain ⟨v_6, -, h⟩ := bd h
    rcases ite_some h with ⟨-, h⟩ | ⟨-, h⟩
    · obtain ⟨v_8, -, h⟩ := bd h
      rcases ite_some h with ⟨-, h⟩ | ⟨-, h⟩
      · exact kc.tt (kc257_67 h) (fun _ q => q)
      · exact kc.tt (kc257_67 h) (fun _ q => q)
    · exact kc.tt (kc257_67 h) (fun _ q => q)
theorem ke257 {v1 : _} {S : sT} {q : Int32 × sT} (h : e257 v1 S = some q) : ks [] S q.2 := by
  unfold e257 at h
  refine ksx_go (f := Prod.snd) (blk := kS257) ?_ h (fun res hx => kc257_0 hx)
  intro h as S res hk
  unfold kS257 at hk
  split at hk
  · split at hk
    · exact kc257_29 hk
    · cases hk
  · skip
    cases hk
