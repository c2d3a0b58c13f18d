/-! ===== what a method leaves as it was (by program: gen60.py) ===== -/
/-- nothing lies behind the heap's end -/
def bk (M : hM) : Prop := ∀ a, h_sz M ≤ a → h_tg M a = 0 ∧ h_ln M a = 0 ∧ (∀ k, h_fi M k a = 0 ∧ h_fl M k a = 0 ∧ h_fr M k a = none) ∧ ∀ i, h_ai M a i = 0 ∧ h_al M a i = 0 ∧ h_ar M a i = none
/-- only fields of F and arrays of the tags A (0: new things are made) differ -/
def kp (F A : List Nat) (M M' : hM) : Prop := bk M' ∧ (∀ a, h_tg M a ≠ 0 → h_tg M' a = h_tg M a ∧ h_ln M' a = h_ln M a) ∧ (∀ k, k ∉ F → h_fi M' k = h_fi M k ∧ h_fl M' k = h_fl M k ∧ h_fr M' k = h_fr M k) ∧ (∀ a, h_tg M a ∉ A → h_ai M' a = h_ai M a ∧ h_al M' a = h_al M a ∧ h_ar M' a = h_ar M a) ∧ (0 ∉ A → h_sz M' = h_sz M ∧ h_sl M' = h_sl M ∧ h_tg M' = h_tg M ∧ h_ln M' = h_ln M)
theorem kp.rf {F A : List Nat} {M : hM} (h : bk M) : kp F A M M := ⟨h, fun _ _ => ⟨rfl, rfl⟩, fun _ _ => ⟨rfl, rfl, rfl⟩, fun _ _ => ⟨rfl, rfl, rfl⟩, fun _ => ⟨rfl, rfl, rfl, rfl⟩⟩
theorem all_in {F G : List Nat} (h : F.all (fun x => G.contains x) = true) : ∀ x, x ∈ F → x ∈ G := fun x hx => List.contains_iff_mem.mp (List.all_eq_true.mp h x hx)
theorem kp.tt {F A F1 A1 : List Nat} {M M1 M2 : hM} (h : kp F A M M1) (g : kp F1 A1 M1 M2) (hF : ∀ x, x ∈ F1 → x ∈ F) (hA : ∀ x, x ∈ A1 → x ∈ A) : kp F A M M2 := by
  obtain ⟨a1, a2, a3, a4, a5⟩ := h
  obtain ⟨b1, b2, b3, b4, b5⟩ := g
  refine ⟨b1, fun a ha => ?_, fun k hk => ?_, fun a ha => ?_, fun h0 => ?_⟩
  · obtain ⟨c1, c2⟩ := a2 a ha
    obtain ⟨d1, d2⟩ := b2 a (by rw [c1]; exact ha)
    exact ⟨d1.trans c1, d2.trans c2⟩
  · obtain ⟨c1, c2, c3⟩ := a3 k hk
    obtain ⟨d1, d2, d3⟩ := b3 k (fun q => hk (hF k q))
    exact ⟨d1.trans c1, d2.trans c2, d3.trans c3⟩
  · obtain ⟨c1, c2, c3⟩ := a4 a ha
    have et : h_tg M1 a = h_tg M a := by
      by_cases hz : h_tg M a = 0
      · rw [hz] at ha
        exact congrFun (a5 ha).2.2.1 a
      · exact (a2 a hz).1
    obtain ⟨d1, d2, d3⟩ := b4 a (by rw [et]; exact fun q => ha (hA _ q))
    exact ⟨d1.trans c1, d2.trans c2, d3.trans c3⟩
  · obtain ⟨c1, c2, c3, c4⟩ := a5 h0
    obtain ⟨d1, d2, d3, d4⟩ := b5 (fun q => h0 (hA _ q))
    exact ⟨d1.trans c1, d2.trans c2, d3.trans c3, d4.trans c4⟩
theorem kp.tr {F A F1 A1 : List Nat} {M M1 M2 : hM} (h : kp F A M M1) (g : kp F1 A1 M1 M2) (hF : F1.all (fun x => F.contains x) = true) (hA : A1.all (fun x => A.contains x) = true) : kp F A M M2 := h.tt g (all_in hF) (all_in hA)
theorem bk.lt {M : hM} {a : Nat} (h : bk M) (ht : h_tg M a ≠ 0) : a < h_sz M := by
  by_cases q : a < h_sz M
  · exact q
  · exact absurd (h a (by omega)).1 ht
theorem hne {M : hM} {a b : Nat} (hb : bk M) (hbz : h_sz M ≤ b) (ht : h_tg M a ≠ 0) : b ≠ a := by
  intro q
  subst q
  exact ht (hb b hbz).1
theorem ite_some {α : Type} {c : Prop} [Decidable c] {x y : Option α} {r : α} (h : (if c then x else y) = some r) : (c ∧ x = some r) ∨ (¬ c ∧ y = some r) := by
  by_cases q : c
  · rw [if_pos q] at h; exact Or.inl ⟨q, h⟩
  · rw [if_neg q] at h; exact Or.inr ⟨q, h⟩
section KP
variable {M M1 : hM} {ci k t : Nat} {o : Option Nat}
theorem k_hpi {f a : Nat} {v : Int32} (hb : bk M) (ht : h_tg M a ≠ 0) : kp [f] [] M (h_pi M f a v) := by
  refine ⟨fun b hbz => ?_, fun _ _ => ⟨rfl, rfl⟩, fun j hj => ⟨funext fun y => u2_nk (fun q => hj (by rw [q]; exact List.mem_singleton.mpr rfl)), rfl, rfl⟩, fun _ _ => ⟨rfl, rfl, rfl⟩, fun _ => ⟨rfl, rfl, rfl, rfl⟩⟩
  obtain ⟨c1, c2, c3, c4⟩ := hb b hbz
  refine ⟨c1, c2, fun j => ⟨?_, (c3 j).2.1, (c3 j).2.2⟩, c4⟩
  exact (u2_ne (hne hb hbz ht)).trans (c3 j).1
theorem k_hpl {f a : Nat} {v : Int64} (hb : bk M) (ht : h_tg M a ≠ 0) : kp [f] [] M (h_pl M f a v) := by
  refine ⟨fun b hbz => ?_, fun _ _ => ⟨rfl, rfl⟩, fun j hj => ⟨rfl, funext fun y => u2_nk (fun q => hj (by rw [q]; exact List.mem_singleton.mpr rfl)), rfl⟩, fun _ _ => ⟨rfl, rfl, rfl⟩, fun _ => ⟨rfl, rfl, rfl, rfl⟩⟩
  obtain ⟨c1, c2, c3, c4⟩ := hb b hbz
  refine ⟨c1, c2, fun j => ⟨(c3 j).1, ?_, (c3 j).2.2⟩, c4⟩
  exact (u2_ne (hne hb hbz ht)).trans (c3 j).2.1
theorem k_hpr {f a : Nat} {v : Option Nat} (hb : bk M) (ht : h_tg M a ≠ 0) : kp [f] [] M (h_pr M f a v) := by
  refine ⟨fun b hbz => ?_, fun _ _ => ⟨rfl, rfl⟩, fun j hj => ⟨rfl, rfl, funext fun y => u2_nk (fun q => hj (by rw [q]; exact List.mem_singleton.mpr rfl))⟩, fun _ _ => ⟨rfl, rfl, rfl⟩, fun _ => ⟨rfl, rfl, rfl, rfl⟩⟩
  obtain ⟨c1, c2, c3, c4⟩ := hb b hbz
  refine ⟨c1, c2, fun j => ⟨(c3 j).1, (c3 j).2.1, ?_⟩, c4⟩
  exact (u2_ne (hne hb hbz ht)).trans (c3 j).2.2
theorem k_hqi {a i : Nat} {v : Int32} (hb : bk M) (ht : h_tg M a = t) (h0 : t ≠ 0) : kp [] [t] M (h_qi M a i v) := by
  refine ⟨fun b hbz => ?_, fun _ _ => ⟨rfl, rfl⟩, fun j hj => ⟨rfl, rfl, rfl⟩, fun b hbt => ⟨funext fun y => u2_nk (fun q => hbt (by rw [q, ht]; exact List.mem_singleton.mpr rfl)), rfl, rfl⟩, fun _ => ⟨rfl, rfl, rfl, rfl⟩⟩
  obtain ⟨c1, c2, c3, c4⟩ := hb b hbz
  refine ⟨c1, c2, c3, fun j => ⟨?_, (c4 j).2.1, (c4 j).2.2⟩⟩
  exact (u2_nk (hne hb hbz (ht.symm ▸ h0))).trans (c4 j).1
theorem k_hql {a i : Nat} {v : Int64} (hb : bk M) (ht : h_tg M a = t) (h0 : t ≠ 0) : kp [] [t] M (h_ql M a i v) := by
  refine ⟨fun b hbz => ?_, fun _ _ => ⟨rfl, rfl⟩, fun j hj => ⟨rfl, rfl, rfl⟩, fun b hbt => ⟨rfl, funext fun y => u2_nk (fun q => hbt (by rw [q, ht]; exact List.mem_singleton.mpr rfl)), rfl⟩, fun _ => ⟨rfl, rfl, rfl, rfl⟩⟩
  obtain ⟨c1, c2, c3, c4⟩ := hb b hbz
  refine ⟨c1, c2, c3, fun j => ⟨(c4 j).1, ?_, (c4 j).2.2⟩⟩
  exact (u2_nk (hne hb hbz (ht.symm ▸ h0))).trans (c4 j).2.1
theorem k_hqr {a i : Nat} {v : Option Nat} (hb : bk M) (ht : h_tg M a = t) (h0 : t ≠ 0) : kp [] [t] M (h_qr M a i v) := by
  refine ⟨fun b hbz => ?_, fun _ _ => ⟨rfl, rfl⟩, fun j hj => ⟨rfl, rfl, rfl⟩, fun b hbt => ⟨rfl, rfl, funext fun y => u2_nk (fun q => hbt (by rw [q, ht]; exact List.mem_singleton.mpr rfl))⟩, fun _ => ⟨rfl, rfl, rfl, rfl⟩⟩
  obtain ⟨c1, c2, c3, c4⟩ := hb b hbz
  refine ⟨c1, c2, c3, fun j => ⟨(c4 j).1, (c4 j).2.1, ?_⟩⟩
  exact (u2_nk (hne hb hbz (ht.symm ▸ h0))).trans (c4 j).2.2
theorem k_hca {a : Nat} {g : Nat → Int32} (hb : bk M) (ht : h_tg M a = t) (h0 : t ≠ 0) : kp [] [t] M (h_ca M a g) := by
  refine ⟨fun b hbz => ?_, fun _ _ => ⟨rfl, rfl⟩, fun j hj => ⟨rfl, rfl, rfl⟩, fun b hbt => ⟨funext fun y => if_neg (fun q => hbt (by rw [q, ht]; exact List.mem_singleton.mpr rfl)), rfl, rfl⟩, fun _ => ⟨rfl, rfl, rfl, rfl⟩⟩
  obtain ⟨c1, c2, c3, c4⟩ := hb b hbz
  refine ⟨c1, c2, c3, fun j => ⟨?_, (c4 j).2.1, (c4 j).2.2⟩⟩
  exact (if_neg (hne hb hbz (ht.symm ▸ h0))).trans (c4 j).1
theorem k_pi {v : Int32} (e : p_i M ci k o v = some M1) (hb : bk M) : kp [100 * ci + k] [] M M1 := by
  obtain ⟨a, h1, h2⟩ := bd e
  obtain ⟨rfl, ht⟩ := g_o_some h1
  cases h2
  exact k_hpi hb (by omega)
theorem k_pz {v : Int32} (e : p_z M ci k o v = some M1) (hb : bk M) : kp [100 * ci + k] [] M M1 := by
  unfold p_z at e
  split at e
  · obtain ⟨a, h1, h2⟩ := bd e
    obtain ⟨rfl, ht⟩ := g_o_some h1
    cases h2
    exact k_hpi hb (by omega)
  · cases e
theorem k_pl {v : Int64} (e : p_l M ci k o v = some M1) (hb : bk M) : kp [100 * ci + k] [] M M1 := by
  obtain ⟨a, h1, h2⟩ := bd e
  obtain ⟨rfl, ht⟩ := g_o_some h1
  cases h2
  exact k_hpl hb (by omega)
theorem k_pr {v : Option Nat} (e : p_r M ci k o v = some M1) (hb : bk M) : kp [100 * ci + k] [] M M1 := by
  obtain ⟨a, h1, h2⟩ := bd e
  obtain ⟨rfl, ht⟩ := g_o_some h1
  cases h2
  exact k_hpr hb (by omega)
theorem k_as_i {i v : Int32} (e : as_i M t o i v = some M1) (hb : bk M) (h0 : t ≠ 0) : kp [] [t] M M1 := by
  obtain ⟨a, h1, h2⟩ := bd e
  obtain ⟨rfl, ht, -⟩ := g_a_some h1
  cases h2
  exact k_hqi hb ht h0
theorem k_as_b {i v : Int32} (e : as_b M t o i v = some M1) (hb : bk M) (h0 : t ≠ 0) : kp [] [t] M M1 := by
  obtain ⟨a, h1, h2⟩ := bd e
  obtain ⟨rfl, ht, -⟩ := g_a_some h1
  cases h2
  exact k_hqi hb ht h0
theorem k_as_l {i : Int32} {v : Int64} (e : as_l M t o i v = some M1) (hb : bk M) (h0 : t ≠ 0) : kp [] [t] M M1 := by
  obtain ⟨a, h1, h2⟩ := bd e
  obtain ⟨rfl, ht, -⟩ := g_a_some h1
  cases h2
  exact k_hql hb ht h0
theorem k_as_r {i : Int32} {v : Option Nat} (e : as_r M ci o i v = some M1) (hb : bk M) : kp [] [30 + ci] M M1 := by
  obtain ⟨a, h1, h2⟩ := bd e
  obtain ⟨b, h3, h4⟩ := bd h2
  obtain ⟨rfl, ht, -⟩ := g_a_some h1
  cases h4
  exact k_hqr hb ht (by omega)
theorem k_n_o {n : Nat} (e : n_o M ci n = some M1) (hb : bk M) : kp [] [0] M M1 := by
  cases e
  obtain ⟨d1, d2, d3, d4⟩ := hb (h_sz M) (Nat.le_refl _)
  have e1 : ∀ j, h_fi (h_no M ci n) j = h_fi M j := fun j => funext fun y => by
    show (if y = h_sz M then 0 else h_fi M j y) = _
    split
    · rename_i q; rw [q, (d3 j).1]
    · rfl
  have e2 : ∀ j, h_fl (h_no M ci n) j = h_fl M j := fun j => funext fun y => by
    show (if y = h_sz M then 0 else h_fl M j y) = _
    split
    · rename_i q; rw [q, (d3 j).2.1]
    · rfl
  have e3 : ∀ j, h_fr (h_no M ci n) j = h_fr M j := fun j => funext fun y => by
    show (if y = h_sz M then none else h_fr M j y) = _
    split
    · rename_i q; rw [q, (d3 j).2.2]
    · rfl
  refine ⟨fun b hbz => ?_, fun a ha => ⟨?_, rfl⟩, fun j hj => ⟨e1 j, e2 j, e3 j⟩, fun _ _ => ⟨rfl, rfl, rfl⟩, fun h => absurd (List.mem_singleton.mpr rfl) h⟩
  · have hbz : h_sz M + 1 ≤ b := hbz
    obtain ⟨c1, c2, c3, c4⟩ := hb b (by omega)
    refine ⟨(if_neg (by omega)).trans c1, c2, fun j => ?_, c4⟩
    rw [e1, e2, e3]
    exact c3 j
  · exact if_neg (fun q => ha (by rw [q]; exact d1))
theorem k_n_a {n : Int32} (e : n_a M t n = some M1) (hb : bk M) : kp [] [0] M M1 := by
  unfold n_a at e
  split at e
  · cases e
    obtain ⟨d1, d2, d3, d4⟩ := hb (h_sz M) (Nat.le_refl _)
    refine ⟨fun b hbz => ?_, fun a ha => ⟨?_, ?_⟩, fun j hj => ⟨rfl, rfl, rfl⟩, fun a ha => ?_, fun h => absurd (List.mem_singleton.mpr rfl) h⟩
    · have hbz : h_sz M + 1 ≤ b := hbz
      obtain ⟨c1, c2, c3, c4⟩ := hb b (by omega)
      exact ⟨(if_neg (by omega)).trans c1, (if_neg (by omega)).trans c2, c3, fun i => ⟨(if_neg (by omega)).trans (c4 i).1, (if_neg (by omega)).trans (c4 i).2.1, (if_neg (by omega)).trans (c4 i).2.2⟩⟩
    · exact if_neg (fun q => ha (by rw [q]; exact d1))
    · exact if_neg (fun q => ha (by rw [q]; exact d1))
    · have hne : a ≠ h_sz M := fun q => ha (by rw [q, d1]; exact List.mem_singleton.mpr rfl)
      exact ⟨funext fun i => if_neg hne, funext fun i => if_neg hne, funext fun i => if_neg hne⟩
  · cases e
theorem k_n_c {o0 : Option Nat} {sp dp n : Int32} (e : n_c M o0 sp o dp n = some M1) (hb : bk M) : kp [] [20] M M1 := by
  cases o0 with
  | none => cases e
  | some x =>
    cases o with
    | none => cases e
    | some y =>
      unfold n_c at e
      dsimp only at e
      split at e
      · rename_i q
        cases e
        exact k_hca hb q.1.2 (by decide)
      · cases e
end KP
def r_M (res : xRes) : hM := match res with
  | .inl q => q.2
  | .inr q => q.2.2
theorem kd_go {F A : List Nat} {blk : Nat → List aV → hM → Option xRes} (hs : ∀ h as M res, blk h as M = some res → bk M → kp F A M (r_M res)) : ∀ n h as M r M', drive blk n h as M = some (r, M') → bk M → kp F A M M'
  | 0, _, _, _, _, _, hd, _ => by cases hd
  | n + 1, h, as, M, r, M', hd, hb => by
    unfold drive at hd
    cases he : blk h as M with
    | none => rw [he] at hd; cases hd
    | some res =>
      rw [he] at hd
      have h1 := hs h as M res he hb
      cases res with
      | inl q => cases hd; exact h1
      | inr q => exact h1.tt (kd_go hs n q.1 q.2.1 q.2.2 r M' hd h1.1) (fun _ q => q) (fun _ q => q)
theorem kx_go {F A : List Nat} {blk : Nat → List aV → hM → Option xRes} (hs : ∀ h as M res, blk h as M = some res → bk M → kp F A M (r_M res)) {x : Option xRes} {M M' : hM} {r : Option aV} (h : x_go blk x = some (r, M')) (hx : ∀ res, x = some res → kp F A M (r_M res)) : kp F A M M' := by
  unfold x_go at h
  split at h
  · cases h
  · cases h; exact hx _ rfl
  · have h1 := hx _ rfl
    exact h1.tt (kd_go hs _ _ _ _ _ _ h h1.1) (fun _ q => q) (fun _ q => q)
theorem kx_out {F A : List Nat} {x : Option xRes} {M M' : hM} {r : Option aV} (h : x_out x = some (r, M')) (hx : ∀ res, x = some res → kp F A M (r_M res)) : kp F A M M' := hx _ (x_out_ok h)
theorem kb0_0 {a0 v1 v2 v3 : _} {M : hM} {res : xRes} (h : b0_0 a0 v1 v2 v3 M = some res) (hb : bk M) : kp [900, 901, 902, 904, 905] [0] M (r_M res) := by
  have kc : kp [900, 901, 902, 904, 905] [0] M M := kp.rf hb
  unfold b0_0 at h
  obtain ⟨M1, h1, h⟩ := bd h
  have kc := kc.tr (k_n_a h1 kc.1) rfl rfl
  obtain ⟨M3, h2, h⟩ := bd h
  have kc := kc.tr (k_pr h2 kc.1) rfl rfl
  obtain ⟨M5, h3, h⟩ := bd h
  have kc := kc.tr (k_n_a h3 kc.1) rfl rfl
  obtain ⟨M7, h4, h⟩ := bd h
  have kc := kc.tr (k_pr h4 kc.1) rfl rfl
  obtain ⟨M9, h5, h⟩ := bd h
  have kc := kc.tr (k_pi h5 kc.1) rfl rfl
  obtain ⟨M11, h6, h⟩ := bd h
  have kc := kc.tr (k_pi h6 kc.1) rfl rfl
  obtain ⟨M13, h7, h⟩ := bd h
  have kc := kc.tr (k_pi h7 kc.1) rfl rfl
  cases h
  exact kc
theorem kf0 {as : List aV} {M M' : hM} {r : Option aV} (h : f0 as M = some (r, M')) (hb : bk M) : kp [900, 901, 902, 904, 905] [0] M M' := by
  unfold f0 at h
  split at h
  · exact kx_out h (fun res hx => kb0_0 hx hb)
  · cases h
theorem kb1_0 {a0 : _} {M : hM} {res : xRes} (h : b1_0 a0 M = some res) (hb : bk M) : kp [] [] M (r_M res) := by
  have kc : kp [] [] M M := kp.rf hb
  unfold b1_0 at h
  cases h
  exact kc
theorem kf1 {as : List aV} {M M' : hM} {r : Option aV} (h : f1 as M = some (r, M')) (hb : bk M) : kp [] [] M M' := by
  unfold f1 at h
  split at h
  · exact kx_out h (fun res hx => kb1_0 hx hb)
  · cases h
theorem kb2_0 {a0 o1 v2 v3 : _} {M : hM} {res : xRes} (h : b2_0 a0 o1 v2 v3 M = some res) (hb : bk M) : kp [800, 801, 802, 809, 810, 811, 814] [0] M (r_M res) := by
  have kc : kp [800, 801, 802, 809, 810, 811, 814] [0] M M := kp.rf hb
  unfold b2_0 at h
  obtain ⟨M1, h1, h⟩ := bd h
  have kc := kc.tr (k_n_o h1 kc.1) rfl rfl
  obtain ⟨q_3, h2, h⟩ := bd h
  have kc := kc.tr (kf1 (c_V_some h2) kc.1) rfl rfl
  obtain ⟨M5, h3, h⟩ := bd h
  have kc := kc.tr (k_pr h3 kc.1) rfl rfl
  obtain ⟨M7, h4, h⟩ := bd h
  have kc := kc.tr (k_n_o h4 kc.1) rfl rfl
  obtain ⟨q_9, h5, h⟩ := bd h
  have kc := kc.tr (kf1 (c_V_some h5) kc.1) rfl rfl
  obtain ⟨M11, h6, h⟩ := bd h
  have kc := kc.tr (k_pr h6 kc.1) rfl rfl
  obtain ⟨M13, h7, h⟩ := bd h
  have kc := kc.tr (k_pi h7 kc.1) rfl rfl
  obtain ⟨M15, h8, h⟩ := bd h
  have kc := kc.tr (k_pi h8 kc.1) rfl rfl
  obtain ⟨M17, h9, h⟩ := bd h
  have kc := kc.tr (k_pr h9 kc.1) rfl rfl
  obtain ⟨M19, h10, h⟩ := bd h
  have kc := kc.tr (k_pi h10 kc.1) rfl rfl
  obtain ⟨M21, h11, h⟩ := bd h
  have kc := kc.tr (k_pi h11 kc.1) rfl rfl
  cases h
  exact kc
theorem kf2 {as : List aV} {M M' : hM} {r : Option aV} (h : f2 as M = some (r, M')) (hb : bk M) : kp [800, 801, 802, 809, 810, 811, 814] [0] M M' := by
  unfold f2 at h
  split at h
  · exact kx_out h (fun res hx => kb2_0 hx hb)
  · cases h
theorem kb3_0 {a0 o1 v2 : _} {M : hM} {res : xRes} (h : b3_0 a0 o1 v2 M = some res) (hb : bk M) : kp [500, 501, 502, 800, 801, 802, 809, 810, 811, 814] [0] M (r_M res) := by
  have kc : kp [500, 501, 502, 800, 801, 802, 809, 810, 811, 814] [0] M M := kp.rf hb
  unfold b3_0 at h
  obtain ⟨M1, h1, h⟩ := bd h
  have kc := kc.tr (k_pr h1 kc.1) rfl rfl
  obtain ⟨M3, h2, h⟩ := bd h
  have kc := kc.tr (k_pi h2 kc.1) rfl rfl
  obtain ⟨M5, h3, h⟩ := bd h
  have kc := kc.tr (k_n_o h3 kc.1) rfl rfl
  obtain ⟨q_7, h4, h⟩ := bd h
  have kc := kc.tr (kf2 (c_V_some h4) kc.1) rfl rfl
  obtain ⟨M9, h5, h⟩ := bd h
  have kc := kc.tr (k_pr h5 kc.1) rfl rfl
  cases h
  exact kc
theorem kf3 {as : List aV} {M M' : hM} {r : Option aV} (h : f3 as M = some (r, M')) (hb : bk M) : kp [500, 501, 502, 800, 801, 802, 809, 810, 811, 814] [0] M M' := by
  unfold f3 at h
  split at h
  · exact kx_out h (fun res hx => kb3_0 hx hb)
  · cases h
theorem kb4_0 {a0 o1 o2 : _} {M : hM} {res : xRes} (h : b4_0 a0 o1 o2 M = some res) (hb : bk M) : kp [400, 401, 403, 404] [0] M (r_M res) := by
  have kc : kp [400, 401, 403, 404] [0] M M := kp.rf hb
  unfold b4_0 at h
  obtain ⟨M1, h1, h⟩ := bd h
  have kc := kc.tr (k_n_a h1 kc.1) rfl rfl
  obtain ⟨M3, h2, h⟩ := bd h
  have kc := kc.tr (k_pr h2 kc.1) rfl rfl
  obtain ⟨M5, h3, h⟩ := bd h
  have kc := kc.tr (k_pr h3 kc.1) rfl rfl
  obtain ⟨M7, h4, h⟩ := bd h
  have kc := kc.tr (k_pr h4 kc.1) rfl rfl
  obtain ⟨v_9, -, h⟩ := bd h
  obtain ⟨M11, h6, h⟩ := bd h
  have kc := kc.tr (k_n_a h6 kc.1) rfl rfl
  obtain ⟨M13, h7, h⟩ := bd h
  have kc := kc.tr (k_pr h7 kc.1) rfl rfl
  cases h
  exact kc
theorem kf4 {as : List aV} {M M' : hM} {r : Option aV} (h : f4 as M = some (r, M')) (hb : bk M) : kp [400, 401, 403, 404] [0] M M' := by
  unfold f4 at h
  split at h
  · exact kx_out h (fun res hx => kb4_0 hx hb)
  · cases h
theorem kb5_0 {a0 : _} {M : hM} {res : xRes} (h : b5_0 a0 M = some res) (hb : bk M) : kp [600] [0] M (r_M res) := by
  have kc : kp [600] [0] M M := kp.rf hb
  unfold b5_0 at h
  obtain ⟨M1, h1, h⟩ := bd h
  have kc := kc.tr (k_n_a h1 kc.1) rfl rfl
  obtain ⟨M3, h2, h⟩ := bd h
  have kc := kc.tr (k_pr h2 kc.1) rfl rfl
  cases h
  exact kc
theorem kf5 {as : List aV} {M M' : hM} {r : Option aV} (h : f5 as M = some (r, M')) (hb : bk M) : kp [600] [0] M M' := by
  unfold f5 at h
  split at h
  · exact kx_out h (fun res hx => kb5_0 hx hb)
  · cases h
theorem kb8_17 {si0 : _} {M : hM} {res : xRes} (h : b8_17 si0 M = some res) (hb : bk M) : kp [] [] M (r_M res) := by
  have kc : kp [] [] M M := kp.rf hb
  unfold b8_17 at h
  rcases ite_some h with ⟨-, h⟩ | ⟨-, h⟩
  · cases h
    exact kc
  · cases h
theorem kb8_16 {M : hM} {res : xRes} (h : b8_16 M = some res) (hb : bk M) : kp [] [] M (r_M res) := by
  have kc : kp [] [] M M := kp.rf hb
  unfold b8_16 at h
  exact kc.tt (kb8_17 h kc.1) (fun _ q => q) (fun _ q => q)
theorem kb8_0 {a0 v1 : _} {M : hM} {res : xRes} (h : b8_0 a0 v1 M = some res) (hb : bk M) : kp [] [] M (r_M res) := by
  have kc : kp [] [] M M := kp.rf hb
  unfold b8_0 at h
  rcases ite_some h with ⟨-, h⟩ | ⟨-, h⟩
  · exact kc.tt (kb8_16 h kc.1) (fun _ q => q) (fun _ q => q)
  · obtain ⟨v_1, -, h⟩ := bd h
    rcases ite_some h with ⟨-, h⟩ | ⟨-, h⟩
    · exact kc.tt (kb8_16 h kc.1) (fun _ q => q) (fun _ q => q)
    · exact kc.tt (kb8_17 h kc.1) (fun _ q => q) (fun _ q => q)
theorem kf8 {as : List aV} {M M' : hM} {r : Option aV} (h : f8 as M = some (r, M')) (hb : bk M) : kp [] [] M M' := by
  unfold f8 at h
  split at h
  · exact kx_out h (fun res hx => kb8_0 hx hb)
  · cases h
theorem kb9_0 {a0 : _} {M : hM} {res : xRes} (h : b9_0 a0 M = some res) (hb : bk M) : kp [708] [0] M (r_M res) := by
  have kc : kp [708] [0] M M := kp.rf hb
  unfold b9_0 at h
  obtain ⟨M1, h1, h⟩ := bd h
  have kc := kc.tr (k_n_a h1 kc.1) rfl rfl
  obtain ⟨M3, h2, h⟩ := bd h
  have kc := kc.tr (k_pr h2 kc.1) rfl rfl
  cases h
  exact kc
theorem kf9 {as : List aV} {M M' : hM} {r : Option aV} (h : f9 as M = some (r, M')) (hb : bk M) : kp [708] [0] M M' := by
  unfold f9 at h
  split at h
  · exact kx_out h (fun res hx => kb9_0 hx hb)
  · cases h
theorem kb10_0 {a0 o1 o2 : _} {M : hM} {res : xRes} (h : b10_0 a0 o1 o2 M = some res) (hb : bk M) : kp [100, 101, 102, 103, 105, 708] [0, 37] M (r_M res) := by
  have kc : kp [100, 101, 102, 103, 105, 708] [0, 37] M M := kp.rf hb
  unfold b10_0 at h
  obtain ⟨M1, h1, h⟩ := bd h
  have kc := kc.tr (k_n_a h1 kc.1) rfl rfl
  obtain ⟨M3, h2, h⟩ := bd h
  have kc := kc.tr (k_pr h2 kc.1) rfl rfl
  obtain ⟨M5, h3, h⟩ := bd h
  have kc := kc.tr (k_n_a h3 kc.1) rfl rfl
  obtain ⟨M7, h4, h⟩ := bd h
  have kc := kc.tr (k_pr h4 kc.1) rfl rfl
  obtain ⟨M9, h5, h⟩ := bd h
  have kc := kc.tr (k_n_a h5 kc.1) rfl rfl
  obtain ⟨M11, h6, h⟩ := bd h
  have kc := kc.tr (k_pr h6 kc.1) rfl rfl
  obtain ⟨M13, h7, h⟩ := bd h
  have kc := kc.tr (k_pr h7 kc.1) rfl rfl
  obtain ⟨M15, h8, h⟩ := bd h
  have kc := kc.tr (k_pr h8 kc.1) rfl rfl
  cases h
  exact kc
theorem kb10_41 {a0 v3 : _} {M : hM} {res : xRes} (h : b10_41 a0 v3 M = some res) (hb : bk M) : kp [100, 101, 102, 103, 105, 708] [0, 37] M (r_M res) := by
  have kc : kp [100, 101, 102, 103, 105, 708] [0, 37] M M := kp.rf hb
  unfold b10_41 at h
  rcases ite_some h with ⟨-, h⟩ | ⟨-, h⟩
  · cases h
    exact kc
  · obtain ⟨o_17, -, h⟩ := bd h
    obtain ⟨M19, h2, h⟩ := bd h
    have kc := kc.tr (k_n_o h2 kc.1) rfl rfl
    obtain ⟨q_21, h3, h⟩ := bd h
    have kc := kc.tr (kf9 (c_V_some h3) kc.1) rfl rfl
    obtain ⟨M23, h4, h⟩ := bd h
    have kc := kc.tr (k_as_r h4 kc.1) rfl rfl
    cases h
    exact kc
theorem kf10 {as : List aV} {M M' : hM} {r : Option aV} (h : f10 as M = some (r, M')) (hb : bk M) : kp [100, 101, 102, 103, 105, 708] [0, 37] M M' := by
  unfold f10 at h
  split at h
  · refine kx_go (blk := k10) ?_ h (fun res hx => kb10_0 hx hb)
    intro h as M res hk hb
    unfold k10 at hk
    split at hk
    · split at hk
      · exact kb10_41 hk hb
      · cases hk
    · skip
      cases hk
  · cases h
theorem kb11_47 {M : hM} {res : xRes} (h : b11_47 M = some res) (hb : bk M) : kp [100, 101, 102, 103, 105, 504, 505, 708] [0, 37] M (r_M res) := by
  have kc : kp [100, 101, 102, 103, 105, 504, 505, 708] [0, 37] M M := kp.rf hb
  unfold b11_47 at h
  cases h
  exact kc
theorem kb11_0 {a0 v1 : _} {M : hM} {res : xRes} (h : b11_0 a0 v1 M = some res) (hb : bk M) : kp [100, 101, 102, 103, 105, 504, 505, 708] [0, 37] M (r_M res) := by
  have kc : kp [100, 101, 102, 103, 105, 504, 505, 708] [0, 37] M M := kp.rf hb
  unfold b11_0 at h
  obtain ⟨o_1, -, h⟩ := bd h
  obtain ⟨b_5, -, h⟩ := bd h
  obtain ⟨q_3, h3, h⟩ := bd h
  have kc := kc.tr (kf8 (c_I_some h3) kc.1) rfl rfl
  rcases ite_some h with ⟨-, h⟩ | ⟨-, h⟩
  · cases h
    exact kc
  · obtain ⟨o_7, -, h⟩ := bd h
    obtain ⟨o_9, -, h⟩ := bd h
    obtain ⟨o_11, -, h⟩ := bd h
    rcases ite_some h with ⟨-, h⟩ | ⟨-, h⟩
    · exact kc.tt (kb11_47 h kc.1) (fun _ q => q) (fun _ q => q)
    · obtain ⟨o_13, -, h⟩ := bd h
      obtain ⟨v_15, -, h⟩ := bd h
      rcases ite_some h with ⟨-, h⟩ | ⟨-, h⟩
      · obtain ⟨o_17, -, h⟩ := bd h
        obtain ⟨o_19, -, h⟩ := bd h
        rcases ite_some h with ⟨-, h⟩ | ⟨-, h⟩
        · obtain ⟨M21, h11, h⟩ := bd h
          have kc := kc.tr (k_pr h11 kc.1) rfl rfl
          obtain ⟨M23, h12, h⟩ := bd h
          have kc := kc.tr (k_n_o h12 kc.1) rfl rfl
          obtain ⟨o_25, -, h⟩ := bd h
          obtain ⟨q_27, h14, h⟩ := bd h
          have kc := kc.tr (kf10 (c_V_some h14) kc.1) rfl rfl
          obtain ⟨M29, h15, h⟩ := bd h
          have kc := kc.tr (k_pr h15 kc.1) rfl rfl
          cases h
          exact kc
        · exact kc.tt (kb11_47 h kc.1) (fun _ q => q) (fun _ q => q)
      · exact kc.tt (kb11_47 h kc.1) (fun _ q => q) (fun _ q => q)
theorem kf11 {as : List aV} {M M' : hM} {r : Option aV} (h : f11 as M = some (r, M')) (hb : bk M) : kp [100, 101, 102, 103, 105, 504, 505, 708] [0, 37] M M' := by
  unfold f11 at h
  split at h
  · exact kx_out h (fun res hx => kb11_0 hx hb)
  · cases h
theorem kb12_18 {si0 : _} {M : hM} {res : xRes} (h : b12_18 si0 M = some res) (hb : bk M) : kp [] [] M (r_M res) := by
  have kc : kp [] [] M M := kp.rf hb
  unfold b12_18 at h
  rcases ite_some h with ⟨-, h⟩ | ⟨-, h⟩
  · cases h
    exact kc
  · cases h
theorem kb12_17 {M : hM} {res : xRes} (h : b12_17 M = some res) (hb : bk M) : kp [] [] M (r_M res) := by
  have kc : kp [] [] M M := kp.rf hb
  unfold b12_17 at h
  exact kc.tt (kb12_18 h kc.1) (fun _ q => q) (fun _ q => q)
theorem kb12_0 {a0 v1 : _} {M : hM} {res : xRes} (h : b12_0 a0 v1 M = some res) (hb : bk M) : kp [] [] M (r_M res) := by
  have kc : kp [] [] M M := kp.rf hb
  unfold b12_0 at h
  rcases ite_some h with ⟨-, h⟩ | ⟨-, h⟩
  · exact kc.tt (kb12_17 h kc.1) (fun _ q => q) (fun _ q => q)
  · obtain ⟨o_1, -, h⟩ := bd h
    obtain ⟨v_3, -, h⟩ := bd h
    rcases ite_some h with ⟨-, h⟩ | ⟨-, h⟩
    · exact kc.tt (kb12_17 h kc.1) (fun _ q => q) (fun _ q => q)
    · exact kc.tt (kb12_18 h kc.1) (fun _ q => q) (fun _ q => q)
theorem kf12 {as : List aV} {M M' : hM} {r : Option aV} (h : f12 as M = some (r, M')) (hb : bk M) : kp [] [] M M' := by
  unfold f12 at h
  split at h
  · exact kx_out h (fun res hx => kb12_0 hx hb)
  · cases h
theorem kb13_33 {sr0 : _} {M : hM} {res : xRes} (h : b13_33 sr0 M = some res) (hb : bk M) : kp [] [] M (r_M res) := by
  have kc : kp [] [] M M := kp.rf hb
  unfold b13_33 at h
  cases h
  exact kc
theorem kb13_32 {M : hM} {res : xRes} (h : b13_32 M = some res) (hb : bk M) : kp [] [] M (r_M res) := by
  have kc : kp [] [] M M := kp.rf hb
  unfold b13_32 at h
  exact kc.tt (kb13_33 h kc.1) (fun _ q => q) (fun _ q => q)
theorem kb13_71 {M : hM} {res : xRes} (h : b13_71 M = some res) (hb : bk M) : kp [] [] M (r_M res) := by
  have kc : kp [] [] M M := kp.rf hb
  unfold b13_71 at h
  cases h
  exact kc
theorem kb13_0 {a0 v1 v2 : _} {M : hM} {res : xRes} (h : b13_0 a0 v1 v2 M = some res) (hb : bk M) : kp [] [] M (r_M res) := by
  have kc : kp [] [] M M := kp.rf hb
  unfold b13_0 at h
  obtain ⟨b_3, -, h⟩ := bd h
  obtain ⟨q_1, h2, h⟩ := bd h
  have kc := kc.tr (kf12 (c_I_some h2) kc.1) rfl rfl
  rcases ite_some h with ⟨-, h⟩ | ⟨-, h⟩
  · rcases ite_some h with ⟨-, h⟩ | ⟨-, h⟩
    · exact kc.tt (kb13_71 h kc.1) (fun _ q => q) (fun _ q => q)
    · rcases ite_some h with ⟨-, h⟩ | ⟨-, h⟩
      · obtain ⟨o_5, -, h⟩ := bd h
        obtain ⟨b_9, -, h⟩ := bd h
        obtain ⟨q_7, h5, h⟩ := bd h
        have kc := kc.tr (kf8 (c_I_some h5) kc.1) rfl rfl
        rcases ite_some h with ⟨-, h⟩ | ⟨-, h⟩
        · exact kc.tt (kb13_71 h kc.1) (fun _ q => q) (fun _ q => q)
        · obtain ⟨o_11, -, h⟩ := bd h
          obtain ⟨o_13, -, h⟩ := bd h
          obtain ⟨o_15, -, h⟩ := bd h
          cases h
          exact kc
      · exact kc.tt (kb13_71 h kc.1) (fun _ q => q) (fun _ q => q)
  · rcases ite_some h with ⟨-, h⟩ | ⟨-, h⟩
    · exact kc.tt (kb13_32 h kc.1) (fun _ q => q) (fun _ q => q)
    · rcases ite_some h with ⟨-, h⟩ | ⟨-, h⟩
      · exact kc.tt (kb13_32 h kc.1) (fun _ q => q) (fun _ q => q)
      · obtain ⟨o_20, -, h⟩ := bd h
        obtain ⟨o_22, -, h⟩ := bd h
        obtain ⟨o_24, -, h⟩ := bd h
        obtain ⟨o_26, -, h⟩ := bd h
        exact kc.tt (kb13_33 h kc.1) (fun _ q => q) (fun _ q => q)
theorem kf13 {as : List aV} {M M' : hM} {r : Option aV} (h : f13 as M = some (r, M')) (hb : bk M) : kp [] [] M M' := by
  unfold f13 at h
  split at h
  · exact kx_out h (fun res hx => kb13_0 hx hb)
  · cases h
theorem kb14_0 {a0 : _} {M : hM} {res : xRes} (h : b14_0 a0 M = some res) (hb : bk M) : kp [805, 806, 814] [] M (r_M res) := by
  have kc : kp [805, 806, 814] [] M M := kp.rf hb
  unfold b14_0 at h
  obtain ⟨M1, h1, h⟩ := bd h
  have kc := kc.tr (k_pz h1 kc.1) rfl rfl
  obtain ⟨o_3, -, h⟩ := bd h
  obtain ⟨v_5, -, h⟩ := bd h
  obtain ⟨M7, h4, h⟩ := bd h
  have kc := kc.tr (k_pi h4 kc.1) rfl rfl
  obtain ⟨M9, h5, h⟩ := bd h
  have kc := kc.tr (k_pi h5 kc.1) rfl rfl
  cases h
  exact kc
theorem kf14 {as : List aV} {M M' : hM} {r : Option aV} (h : f14 as M = some (r, M')) (hb : bk M) : kp [805, 806, 814] [] M M' := by
  unfold f14 at h
  split at h
  · exact kx_out h (fun res hx => kb14_0 hx hb)
  · cases h
theorem kb15_35 {M : hM} {res : xRes} (h : b15_35 M = some res) (hb : bk M) : kp [803, 804, 805, 806, 814, 1105] [38] M (r_M res) := by
  have kc : kp [803, 804, 805, 806, 814, 1105] [38] M M := kp.rf hb
  unfold b15_35 at h
  cases h
  exact kc
theorem kb15_80 {M : hM} {res : xRes} (h : b15_80 M = some res) (hb : bk M) : kp [803, 804, 805, 806, 814, 1105] [38] M (r_M res) := by
  have kc : kp [803, 804, 805, 806, 814, 1105] [38] M M := kp.rf hb
  unfold b15_80 at h
  cases h
  exact kc
theorem kb15_0 {a0 v1 v2 v3 v4 v5 : _} {M : hM} {res : xRes} (h : b15_0 a0 v1 v2 v3 v4 v5 M = some res) (hb : bk M) : kp [803, 804, 805, 806, 814, 1105] [38] M (r_M res) := by
  have kc : kp [803, 804, 805, 806, 814, 1105] [38] M M := kp.rf hb
  unfold b15_0 at h
  obtain ⟨v_1, -, h⟩ := bd h
  rcases ite_some h with ⟨-, h⟩ | ⟨-, h⟩
  · exact kc.tt (kb15_35 h kc.1) (fun _ q => q) (fun _ q => q)
  · obtain ⟨b_5, -, h⟩ := bd h
    obtain ⟨q_3, h3, h⟩ := bd h
    have kc := kc.tr (kf12 (c_I_some h3) kc.1) rfl rfl
    rcases ite_some h with ⟨-, h⟩ | ⟨-, h⟩
    · exact kc.tt (kb15_35 h kc.1) (fun _ q => q) (fun _ q => q)
    · rcases ite_some h with ⟨-, h⟩ | ⟨-, h⟩
      · exact kc.tt (kb15_35 h kc.1) (fun _ q => q) (fun _ q => q)
      · rcases ite_some h with ⟨-, h⟩ | ⟨-, h⟩
        · exact kc.tt (kb15_35 h kc.1) (fun _ q => q) (fun _ q => q)
        · rcases ite_some h with ⟨-, h⟩ | ⟨-, h⟩
          · obtain ⟨b_9, -, h⟩ := bd h
            obtain ⟨q_7, h5, h⟩ := bd h
            have kc := kc.tr (kf13 (c_R_some h5) kc.1) rfl rfl
            obtain ⟨b_13, -, h⟩ := bd h
            obtain ⟨q_11, h7, h⟩ := bd h
            have kc := kc.tr (kf13 (c_R_some h7) kc.1) rfl rfl
            rcases ite_some h with ⟨-, h⟩ | ⟨-, h⟩
            · exact kc.tt (kb15_80 h kc.1) (fun _ q => q) (fun _ q => q)
            · rcases ite_some h with ⟨-, h⟩ | ⟨-, h⟩
              · exact kc.tt (kb15_80 h kc.1) (fun _ q => q) (fun _ q => q)
              · obtain ⟨o_15, -, h⟩ := bd h
                rcases ite_some h with ⟨-, h⟩ | ⟨-, h⟩
                · obtain ⟨o_17, -, h⟩ := bd h
                  rcases ite_some h with ⟨-, h⟩ | ⟨-, h⟩
                  · obtain ⟨M19, h10, h⟩ := bd h
                    have kc := kc.tr (k_pr h10 kc.1) rfl rfl
                    obtain ⟨M21, h11, h⟩ := bd h
                    have kc := kc.tr (k_pr h11 kc.1) rfl rfl
                    obtain ⟨M23, h12, h⟩ := bd h
                    have kc := kc.tr (k_pi h12 kc.1) rfl rfl
                    obtain ⟨M25, h13, h⟩ := bd h
                    have kc := kc.tr (k_pi h13 kc.1) rfl rfl
                    obtain ⟨b_29, -, h⟩ := bd h
                    obtain ⟨q_27, h15, h⟩ := bd h
                    have kc := kc.tr (kf14 (c_V_some h15) kc.1) rfl rfl
                    obtain ⟨b_33, -, h⟩ := bd h
                    obtain ⟨q_31, h17, h⟩ := bd h
                    have kc := kc.tr (kf14 (c_V_some h17) kc.1) rfl rfl
                    obtain ⟨o_35, -, h⟩ := bd h
                    obtain ⟨v_37, -, h⟩ := bd h
                    obtain ⟨M39, h20, h⟩ := bd h
                    have kc := kc.tr (k_as_r h20 kc.1) rfl rfl
                    obtain ⟨o_41, -, h⟩ := bd h
                    obtain ⟨v_43, -, h⟩ := bd h
                    obtain ⟨M45, h23, h⟩ := bd h
                    have kc := kc.tr (k_as_r h23 kc.1) rfl rfl
                    obtain ⟨v_47, -, h⟩ := bd h
                    obtain ⟨M49, h25, h⟩ := bd h
                    have kc := kc.tr (k_pi h25 kc.1) rfl rfl
                    obtain ⟨v_51, -, h⟩ := bd h
                    cases h
                    exact kc
                  · exact kc.tt (kb15_80 h kc.1) (fun _ q => q) (fun _ q => q)
                · exact kc.tt (kb15_80 h kc.1) (fun _ q => q) (fun _ q => q)
          · exact kc.tt (kb15_35 h kc.1) (fun _ q => q) (fun _ q => q)
theorem kf15 {as : List aV} {M M' : hM} {r : Option aV} (h : f15 as M = some (r, M')) (hb : bk M) : kp [803, 804, 805, 806, 814, 1105] [38] M M' := by
  unfold f15 at h
  split at h
  · exact kx_out h (fun res hx => kb15_0 hx hb)
  · cases h
theorem kb16_17 {si0 : _} {M : hM} {res : xRes} (h : b16_17 si0 M = some res) (hb : bk M) : kp [] [] M (r_M res) := by
  have kc : kp [] [] M M := kp.rf hb
  unfold b16_17 at h
  rcases ite_some h with ⟨-, h⟩ | ⟨-, h⟩
  · cases h
    exact kc
  · cases h
theorem kb16_16 {M : hM} {res : xRes} (h : b16_16 M = some res) (hb : bk M) : kp [] [] M (r_M res) := by
  have kc : kp [] [] M M := kp.rf hb
  unfold b16_16 at h
  exact kc.tt (kb16_17 h kc.1) (fun _ q => q) (fun _ q => q)
theorem kb16_0 {a0 v1 : _} {M : hM} {res : xRes} (h : b16_0 a0 v1 M = some res) (hb : bk M) : kp [] [] M (r_M res) := by
  have kc : kp [] [] M M := kp.rf hb
  unfold b16_0 at h
  rcases ite_some h with ⟨-, h⟩ | ⟨-, h⟩
  · exact kc.tt (kb16_16 h kc.1) (fun _ q => q) (fun _ q => q)
  · obtain ⟨v_1, -, h⟩ := bd h
    rcases ite_some h with ⟨-, h⟩ | ⟨-, h⟩
    · exact kc.tt (kb16_16 h kc.1) (fun _ q => q) (fun _ q => q)
    · exact kc.tt (kb16_17 h kc.1) (fun _ q => q) (fun _ q => q)
theorem kf16 {as : List aV} {M M' : hM} {r : Option aV} (h : f16 as M = some (r, M')) (hb : bk M) : kp [] [] M M' := by
  unfold f16 at h
  split at h
  · exact kx_out h (fun res hx => kb16_0 hx hb)
  · cases h
theorem kb17_17 {M : hM} {res : xRes} (h : b17_17 M = some res) (hb : bk M) : kp [203, 907] [] M (r_M res) := by
  have kc : kp [203, 907] [] M M := kp.rf hb
  unfold b17_17 at h
  cases h
  exact kc
theorem kb17_0 {a0 o1 : _} {M : hM} {res : xRes} (h : b17_0 a0 o1 M = some res) (hb : bk M) : kp [203, 907] [] M (r_M res) := by
  have kc : kp [203, 907] [] M M := kp.rf hb
  unfold b17_0 at h
  rcases ite_some h with ⟨-, h⟩ | ⟨-, h⟩
  · exact kc.tt (kb17_17 h kc.1) (fun _ q => q) (fun _ q => q)
  · obtain ⟨o_1, -, h⟩ := bd h
    obtain ⟨M3, h2, h⟩ := bd h
    have kc := kc.tr (k_pr h2 kc.1) rfl rfl
    obtain ⟨M5, h3, h⟩ := bd h
    have kc := kc.tr (k_pr h3 kc.1) rfl rfl
    exact kc.tt (kb17_17 h kc.1) (fun _ q => q) (fun _ q => q)
theorem kf17 {as : List aV} {M M' : hM} {r : Option aV} (h : f17 as M = some (r, M')) (hb : bk M) : kp [203, 907] [] M M' := by
  unfold f17 at h
  split at h
  · exact kx_out h (fun res hx => kb17_0 hx hb)
  · cases h
theorem kb18_44 {o1 : _} {M : hM} {res : xRes} (h : b18_44 o1 M = some res) (hb : bk M) : kp [203, 300, 301, 302] [] M (r_M res) := by
  have kc : kp [203, 300, 301, 302] [] M M := kp.rf hb
  unfold b18_44 at h
  cases h
  exact kc
theorem kb18_29 {a0 o1 : _} {M : hM} {res : xRes} (h : b18_29 a0 o1 M = some res) (hb : bk M) : kp [203, 300, 301, 302] [] M (r_M res) := by
  have kc : kp [203, 300, 301, 302] [] M M := kp.rf hb
  unfold b18_29 at h
  obtain ⟨M13, h1, h⟩ := bd h
  have kc := kc.tr (k_pr h1 kc.1) rfl rfl
  obtain ⟨v_15, -, h⟩ := bd h
  obtain ⟨M17, h3, h⟩ := bd h
  have kc := kc.tr (k_pi h3 kc.1) rfl rfl
  exact kc.tt (kb18_44 h kc.1) (fun _ q => q) (fun _ q => q)
theorem kb18_0 {a0 : _} {M : hM} {res : xRes} (h : b18_0 a0 M = some res) (hb : bk M) : kp [203, 300, 301, 302] [] M (r_M res) := by
  have kc : kp [203, 300, 301, 302] [] M M := kp.rf hb
  unfold b18_0 at h
  obtain ⟨o_1, -, h⟩ := bd h
  rcases ite_some h with ⟨-, h⟩ | ⟨-, h⟩
  · exact kc.tt (kb18_44 h kc.1) (fun _ q => q) (fun _ q => q)
  · obtain ⟨o_3, -, h⟩ := bd h
    obtain ⟨M5, h3, h⟩ := bd h
    have kc := kc.tr (k_pr h3 kc.1) rfl rfl
    obtain ⟨o_7, -, h⟩ := bd h
    rcases ite_some h with ⟨-, h⟩ | ⟨-, h⟩
    · obtain ⟨M9, h5, h⟩ := bd h
      have kc := kc.tr (k_pr h5 kc.1) rfl rfl
      exact kc.tt (kb18_29 h kc.1) (fun _ q => q) (fun _ q => q)
    · exact kc.tt (kb18_29 h kc.1) (fun _ q => q) (fun _ q => q)
theorem kf18 {as : List aV} {M M' : hM} {r : Option aV} (h : f18 as M = some (r, M')) (hb : bk M) : kp [203, 300, 301, 302] [] M M' := by
  unfold f18 at h
  split at h
  · exact kx_out h (fun res hx => kb18_0 hx hb)
  · cases h
theorem kb19_0 {a0 : _} {M : hM} {res : xRes} (h : b19_0 a0 M = some res) (hb : bk M) : kp [203, 300, 301, 302, 805, 806, 807, 808, 811, 812, 813, 907] [] M (r_M res) := by
  have kc : kp [203, 300, 301, 302, 805, 806, 807, 808, 811, 812, 813, 907] [] M M := kp.rf hb
  unfold b19_0 at h
  obtain ⟨M1, h1, h⟩ := bd h
  have kc := kc.tr (k_pz h1 kc.1) rfl rfl
  obtain ⟨M3, h2, h⟩ := bd h
  have kc := kc.tr (k_pi h2 kc.1) rfl rfl
  obtain ⟨M5, h3, h⟩ := bd h
  have kc := kc.tr (k_pi h3 kc.1) rfl rfl
  obtain ⟨M7, h4, h⟩ := bd h
  have kc := kc.tr (k_pi h4 kc.1) rfl rfl
  obtain ⟨M9, h5, h⟩ := bd h
  have kc := kc.tr (k_pi h5 kc.1) rfl rfl
  obtain ⟨M11, h6, h⟩ := bd h
  have kc := kc.tr (k_pi h6 kc.1) rfl rfl
  obtain ⟨o_13, -, h⟩ := bd h
  obtain ⟨o_15, -, h⟩ := bd h
  obtain ⟨b_19, -, h⟩ := bd h
  obtain ⟨q_17, h10, h⟩ := bd h
  have kc := kc.tr (kf17 (c_V_some h10) kc.1) rfl rfl
  obtain ⟨M21, h11, h⟩ := bd h
  have kc := kc.tr (k_pr h11 kc.1) rfl rfl
  obtain ⟨o_23, -, h⟩ := bd h
  obtain ⟨v_25, -, h⟩ := bd h
  cases h
  exact kc
theorem kb19_54 {a0 v1 : _} {M : hM} {res : xRes} (h : b19_54 a0 v1 M = some res) (hb : bk M) : kp [203, 300, 301, 302, 805, 806, 807, 808, 811, 812, 813, 907] [] M (r_M res) := by
  have kc : kp [203, 300, 301, 302, 805, 806, 807, 808, 811, 812, 813, 907] [] M M := kp.rf hb
  unfold b19_54 at h
  rcases ite_some h with ⟨-, h⟩ | ⟨-, h⟩
  · obtain ⟨o_27, -, h⟩ := bd h
    obtain ⟨v_29, -, h⟩ := bd h
    cases h
    exact kc
  · obtain ⟨o_31, -, h⟩ := bd h
    obtain ⟨o_33, -, h⟩ := bd h
    obtain ⟨b_37, -, h⟩ := bd h
    obtain ⟨q_35, h6, h⟩ := bd h
    have kc := kc.tr (kf18 (c_R_some h6) kc.1) rfl rfl
    obtain ⟨b_41, -, h⟩ := bd h
    obtain ⟨q_39, h8, h⟩ := bd h
    have kc := kc.tr (kf17 (c_V_some h8) kc.1) rfl rfl
    cases h
    exact kc
theorem kb19_86 {a0 v1 : _} {M : hM} {res : xRes} (h : b19_86 a0 v1 M = some res) (hb : bk M) : kp [203, 300, 301, 302, 805, 806, 807, 808, 811, 812, 813, 907] [] M (r_M res) := by
  have kc : kp [203, 300, 301, 302, 805, 806, 807, 808, 811, 812, 813, 907] [] M M := kp.rf hb
  unfold b19_86 at h
  rcases ite_some h with ⟨-, h⟩ | ⟨-, h⟩
  · cases h
    exact kc
  · obtain ⟨o_44, -, h⟩ := bd h
    obtain ⟨o_46, -, h⟩ := bd h
    obtain ⟨b_50, -, h⟩ := bd h
    obtain ⟨q_48, h4, h⟩ := bd h
    have kc := kc.tr (kf18 (c_R_some h4) kc.1) rfl rfl
    obtain ⟨b_54, -, h⟩ := bd h
    obtain ⟨q_52, h6, h⟩ := bd h
    have kc := kc.tr (kf17 (c_V_some h6) kc.1) rfl rfl
    cases h
    exact kc
theorem kf19 {as : List aV} {M M' : hM} {r : Option aV} (h : f19 as M = some (r, M')) (hb : bk M) : kp [203, 300, 301, 302, 805, 806, 807, 808, 811, 812, 813, 907] [] M M' := by
  unfold f19 at h
  split at h
  · refine kx_go (blk := k19) ?_ h (fun res hx => kb19_0 hx hb)
    intro h as M res hk hb
    unfold k19 at hk
    split at hk
    · split at hk
      · exact kb19_54 hk hb
      · cases hk
    · skip
      split at hk
      · split at hk
        · exact kb19_86 hk hb
        · cases hk
      · skip
        cases hk
  · cases h
theorem kb20_0 {a0 : _} {M : hM} {res : xRes} (h : b20_0 a0 M = some res) (hb : bk M) : kp [104, 700] [] M (r_M res) := by
  have kc : kp [104, 700] [] M M := kp.rf hb
  unfold b20_0 at h
  obtain ⟨M1, h1, h⟩ := bd h
  have kc := kc.tr (k_pi h1 kc.1) rfl rfl
  cases h
  exact kc
theorem kb20_7 {a0 v1 : _} {M : hM} {res : xRes} (h : b20_7 a0 v1 M = some res) (hb : bk M) : kp [104, 700] [] M (r_M res) := by
  have kc : kp [104, 700] [] M M := kp.rf hb
  unfold b20_7 at h
  rcases ite_some h with ⟨-, h⟩ | ⟨-, h⟩
  · cases h
    exact kc
  · obtain ⟨o_3, -, h⟩ := bd h
    obtain ⟨o_5, -, h⟩ := bd h
    obtain ⟨M7, h3, h⟩ := bd h
    have kc := kc.tr (k_pz h3 kc.1) rfl rfl
    cases h
    exact kc
theorem kf20 {as : List aV} {M M' : hM} {r : Option aV} (h : f20 as M = some (r, M')) (hb : bk M) : kp [104, 700] [] M M' := by
  unfold f20 at h
  split at h
  · refine kx_go (blk := k20) ?_ h (fun res hx => kb20_0 hx hb)
    intro h as M res hk hb
    unfold k20 at hk
    split at hk
    · split at hk
      · exact kb20_7 hk hb
      · cases hk
    · skip
      cases hk
  · cases h
theorem kb21_0 {a0 : _} {M : hM} {res : xRes} (h : b21_0 a0 M = some res) (hb : bk M) : kp [] [20] M (r_M res) := by
  have kc : kp [] [20] M M := kp.rf hb
  unfold b21_0 at h
  cases h
  exact kc
theorem kb21_2 {a0 v1 : _} {M : hM} {res : xRes} (h : b21_2 a0 v1 M = some res) (hb : bk M) : kp [] [20] M (r_M res) := by
  have kc : kp [] [20] M M := kp.rf hb
  unfold b21_2 at h
  obtain ⟨o_1, -, h⟩ := bd h
  obtain ⟨v_3, -, h⟩ := bd h
  rcases ite_some h with ⟨-, h⟩ | ⟨-, h⟩
  · cases h
    exact kc
  · obtain ⟨o_5, -, h⟩ := bd h
    obtain ⟨M7, h4, h⟩ := bd h
    have kc := kc.tr (k_as_i h4 kc.1 (by decide)) rfl rfl
    cases h
    exact kc
theorem kf21 {as : List aV} {M M' : hM} {r : Option aV} (h : f21 as M = some (r, M')) (hb : bk M) : kp [] [20] M M' := by
  unfold f21 at h
  split at h
  · refine kx_go (blk := k21) ?_ h (fun res hx => kb21_0 hx hb)
    intro h as M res hk hb
    unfold k21 at hk
    split at hk
    · split at hk
      · exact kb21_2 hk hb
      · cases hk
    · skip
      cases hk
  · cases h
theorem kb22_28 {M : hM} {res : xRes} (h : b22_28 M = some res) (hb : bk M) : kp [104, 700] [20] M (r_M res) := by
  have kc : kp [104, 700] [20] M M := kp.rf hb
  unfold b22_28 at h
  cases h
  exact kc
theorem kb22_14 {a0 : _} {M : hM} {res : xRes} (h : b22_14 a0 M = some res) (hb : bk M) : kp [104, 700] [20] M (r_M res) := by
  have kc : kp [104, 700] [20] M M := kp.rf hb
  unfold b22_14 at h
  obtain ⟨o_10, -, h⟩ := bd h
  rcases ite_some h with ⟨-, h⟩ | ⟨-, h⟩
  · exact kc.tt (kb22_28 h kc.1) (fun _ q => q) (fun _ q => q)
  · obtain ⟨o_12, -, h⟩ := bd h
    obtain ⟨b_16, -, h⟩ := bd h
    obtain ⟨q_14, h4, h⟩ := bd h
    have kc := kc.tr (kf20 (c_V_some h4) kc.1) rfl rfl
    exact kc.tt (kb22_28 h kc.1) (fun _ q => q) (fun _ q => q)
theorem kb22_0 {a0 : _} {M : hM} {res : xRes} (h : b22_0 a0 M = some res) (hb : bk M) : kp [104, 700] [20] M (r_M res) := by
  have kc : kp [104, 700] [20] M M := kp.rf hb
  unfold b22_0 at h
  obtain ⟨o_1, -, h⟩ := bd h
  rcases ite_some h with ⟨-, h⟩ | ⟨-, h⟩
  · exact kc.tt (kb22_14 h kc.1) (fun _ q => q) (fun _ q => q)
  · obtain ⟨o_3, -, h⟩ := bd h
    obtain ⟨b_7, -, h⟩ := bd h
    obtain ⟨q_5, h4, h⟩ := bd h
    have kc := kc.tr (kf21 (c_V_some h4) kc.1) rfl rfl
    exact kc.tt (kb22_14 h kc.1) (fun _ q => q) (fun _ q => q)
theorem kf22 {as : List aV} {M M' : hM} {r : Option aV} (h : f22 as M = some (r, M')) (hb : bk M) : kp [104, 700] [20] M M' := by
  unfold f22 at h
  split at h
  · exact kx_out h (fun res hx => kb22_0 hx hb)
  · cases h
theorem kb23_0 {a0 : _} {M : hM} {res : xRes} (h : b23_0 a0 M = some res) (hb : bk M) : kp [104, 503, 700] [20] M (r_M res) := by
  have kc : kp [104, 503, 700] [20] M M := kp.rf hb
  unfold b23_0 at h
  obtain ⟨M1, h1, h⟩ := bd h
  have kc := kc.tr (k_pi h1 kc.1) rfl rfl
  obtain ⟨b_5, -, h⟩ := bd h
  obtain ⟨q_3, h3, h⟩ := bd h
  have kc := kc.tr (kf22 (c_V_some h3) kc.1) rfl rfl
  cases h
  exact kc
theorem kf23 {as : List aV} {M M' : hM} {r : Option aV} (h : f23 as M = some (r, M')) (hb : bk M) : kp [104, 503, 700] [20] M M' := by
  unfold f23 at h
  split at h
  · exact kx_out h (fun res hx => kb23_0 hx hb)
  · cases h
theorem kb24_20 {M : hM} {res : xRes} (h : b24_20 M = some res) (hb : bk M) : kp [104, 203, 300, 301, 302, 503, 700, 805, 806, 807, 808, 811, 812, 813, 907] [20] M (r_M res) := by
  have kc : kp [104, 203, 300, 301, 302, 503, 700, 805, 806, 807, 808, 811, 812, 813, 907] [20] M M := kp.rf hb
  unfold b24_20 at h
  cases h
  exact kc
theorem kb24_73 {M : hM} {res : xRes} (h : b24_73 M = some res) (hb : bk M) : kp [104, 203, 300, 301, 302, 503, 700, 805, 806, 807, 808, 811, 812, 813, 907] [20] M (r_M res) := by
  have kc : kp [104, 203, 300, 301, 302, 503, 700, 805, 806, 807, 808, 811, 812, 813, 907] [20] M M := kp.rf hb
  unfold b24_73 at h
  cases h
  exact kc
theorem kb24_0 {a0 v1 : _} {M : hM} {res : xRes} (h : b24_0 a0 v1 M = some res) (hb : bk M) : kp [104, 203, 300, 301, 302, 503, 700, 805, 806, 807, 808, 811, 812, 813, 907] [20] M (r_M res) := by
  have kc : kp [104, 203, 300, 301, 302, 503, 700, 805, 806, 807, 808, 811, 812, 813, 907] [20] M M := kp.rf hb
  unfold b24_0 at h
  obtain ⟨b_3, -, h⟩ := bd h
  obtain ⟨q_1, h2, h⟩ := bd h
  have kc := kc.tr (kf16 (c_I_some h2) kc.1) rfl rfl
  rcases ite_some h with ⟨-, h⟩ | ⟨-, h⟩
  · exact kc.tt (kb24_20 h kc.1) (fun _ q => q) (fun _ q => q)
  · obtain ⟨o_5, -, h⟩ := bd h
    obtain ⟨o_7, -, h⟩ := bd h
    obtain ⟨v_9, -, h⟩ := bd h
    rcases ite_some h with ⟨-, h⟩ | ⟨-, h⟩
    · exact kc.tt (kb24_20 h kc.1) (fun _ q => q) (fun _ q => q)
    · obtain ⟨o_11, -, h⟩ := bd h
      obtain ⟨o_13, -, h⟩ := bd h
      obtain ⟨b_17, -, h⟩ := bd h
      obtain ⟨q_15, h9, h⟩ := bd h
      have kc := kc.tr (kf19 (c_V_some h9) kc.1) rfl rfl
      obtain ⟨o_19, -, h⟩ := bd h
      obtain ⟨o_21, -, h⟩ := bd h
      obtain ⟨b_25, -, h⟩ := bd h
      obtain ⟨q_23, h13, h⟩ := bd h
      have kc := kc.tr (kf19 (c_V_some h13) kc.1) rfl rfl
      obtain ⟨o_27, -, h⟩ := bd h
      obtain ⟨o_29, -, h⟩ := bd h
      obtain ⟨v_31, -, h⟩ := bd h
      obtain ⟨o_33, -, h⟩ := bd h
      obtain ⟨b_37, -, h⟩ := bd h
      obtain ⟨q_35, h19, h⟩ := bd h
      have kc := kc.tr (kf8 (c_I_some h19) kc.1) rfl rfl
      rcases ite_some h with ⟨-, h⟩ | ⟨-, h⟩
      · exact kc.tt (kb24_73 h kc.1) (fun _ q => q) (fun _ q => q)
      · obtain ⟨o_39, -, h⟩ := bd h
        obtain ⟨o_41, -, h⟩ := bd h
        obtain ⟨b_45, -, h⟩ := bd h
        obtain ⟨q_43, h23, h⟩ := bd h
        have kc := kc.tr (kf23 (c_V_some h23) kc.1) rfl rfl
        exact kc.tt (kb24_73 h kc.1) (fun _ q => q) (fun _ q => q)
theorem kf24 {as : List aV} {M M' : hM} {r : Option aV} (h : f24 as M = some (r, M')) (hb : bk M) : kp [104, 203, 300, 301, 302, 503, 700, 805, 806, 807, 808, 811, 812, 813, 907] [20] M M' := by
  unfold f24 at h
  split at h
  · exact kx_out h (fun res hx => kb24_0 hx hb)
  · cases h
theorem kb25_20 {M : hM} {res : xRes} (h : b25_20 M = some res) (hb : bk M) : kp [805, 806, 814] [] M (r_M res) := by
  have kc : kp [805, 806, 814] [] M M := kp.rf hb
  unfold b25_20 at h
  cases h
  exact kc
theorem kb25_0 {a0 v1 : _} {M : hM} {res : xRes} (h : b25_0 a0 v1 M = some res) (hb : bk M) : kp [805, 806, 814] [] M (r_M res) := by
  have kc : kp [805, 806, 814] [] M M := kp.rf hb
  unfold b25_0 at h
  obtain ⟨b_3, -, h⟩ := bd h
  obtain ⟨q_1, h2, h⟩ := bd h
  have kc := kc.tr (kf16 (c_I_some h2) kc.1) rfl rfl
  rcases ite_some h with ⟨-, h⟩ | ⟨-, h⟩
  · exact kc.tt (kb25_20 h kc.1) (fun _ q => q) (fun _ q => q)
  · obtain ⟨o_5, -, h⟩ := bd h
    obtain ⟨o_7, -, h⟩ := bd h
    obtain ⟨v_9, -, h⟩ := bd h
    rcases ite_some h with ⟨-, h⟩ | ⟨-, h⟩
    · obtain ⟨o_11, -, h⟩ := bd h
      obtain ⟨o_13, -, h⟩ := bd h
      obtain ⟨b_17, -, h⟩ := bd h
      obtain ⟨q_15, h9, h⟩ := bd h
      have kc := kc.tr (kf14 (c_V_some h9) kc.1) rfl rfl
      obtain ⟨o_19, -, h⟩ := bd h
      obtain ⟨o_21, -, h⟩ := bd h
      obtain ⟨b_25, -, h⟩ := bd h
      obtain ⟨q_23, h13, h⟩ := bd h
      have kc := kc.tr (kf14 (c_V_some h13) kc.1) rfl rfl
      cases h
      exact kc
    · exact kc.tt (kb25_20 h kc.1) (fun _ q => q) (fun _ q => q)
theorem kf25 {as : List aV} {M M' : hM} {r : Option aV} (h : f25 as M = some (r, M')) (hb : bk M) : kp [805, 806, 814] [] M M' := by
  unfold f25 at h
  split at h
  · exact kx_out h (fun res hx => kb25_0 hx hb)
  · cases h
theorem kb26_21 {M : hM} {res : xRes} (h : b26_21 M = some res) (hb : bk M) : kp [] [20] M (r_M res) := by
  have kc : kp [] [20] M M := kp.rf hb
  unfold b26_21 at h
  cases h
  exact kc
theorem kb26_69 {si0 si1 sr2 : _} {M : hM} {res : xRes} (h : b26_69 si0 si1 sr2 M = some res) (hb : bk M) : kp [] [20] M (r_M res) := by
  have kc : kp [] [20] M M := kp.rf hb
  unfold b26_69 at h
  obtain ⟨M27, h1, h⟩ := bd h
  have kc := kc.tr (k_as_i h1 kc.1 (by decide)) rfl rfl
  cases h
  exact kc
theorem kb26_0 {a0 v1 v2 v3 : _} {M : hM} {res : xRes} (h : b26_0 a0 v1 v2 v3 M = some res) (hb : bk M) : kp [] [20] M (r_M res) := by
  have kc : kp [] [20] M M := kp.rf hb
  unfold b26_0 at h
  rcases ite_some h with ⟨-, h⟩ | ⟨-, h⟩
  · exact kc.tt (kb26_21 h kc.1) (fun _ q => q) (fun _ q => q)
  · rcases ite_some h with ⟨-, h⟩ | ⟨-, h⟩
    · exact kc.tt (kb26_21 h kc.1) (fun _ q => q) (fun _ q => q)
    · obtain ⟨o_1, -, h⟩ := bd h
      obtain ⟨b_5, -, h⟩ := bd h
      obtain ⟨q_3, h3, h⟩ := bd h
      have kc := kc.tr (kf8 (c_I_some h3) kc.1) rfl rfl
      rcases ite_some h with ⟨-, h⟩ | ⟨-, h⟩
      · exact kc.tt (kb26_21 h kc.1) (fun _ q => q) (fun _ q => q)
      · obtain ⟨o_7, -, h⟩ := bd h
        obtain ⟨o_9, -, h⟩ := bd h
        rcases ite_some h with ⟨-, h⟩ | ⟨-, h⟩
        · obtain ⟨o_11, -, h⟩ := bd h
          obtain ⟨o_13, -, h⟩ := bd h
          obtain ⟨v_15, -, h⟩ := bd h
          exact kc.tt (kb26_69 h kc.1) (fun _ q => q) (fun _ q => q)
        · obtain ⟨o_17, -, h⟩ := bd h
          obtain ⟨o_19, -, h⟩ := bd h
          obtain ⟨v_21, -, h⟩ := bd h
          exact kc.tt (kb26_69 h kc.1) (fun _ q => q) (fun _ q => q)
theorem kf26 {as : List aV} {M M' : hM} {r : Option aV} (h : f26 as M = some (r, M')) (hb : bk M) : kp [] [20] M M' := by
  unfold f26 at h
  split at h
  · exact kx_out h (fun res hx => kb26_0 hx hb)
  · cases h
theorem kb27_0 {a0 v1 : _} {M : hM} {res : xRes} (h : b27_0 a0 v1 M = some res) (hb : bk M) : kp [906] [] M (r_M res) := by
  have kc : kp [906] [] M M := kp.rf hb
  unfold b27_0 at h
  obtain ⟨o_1, -, h⟩ := bd h
  obtain ⟨M3, h2, h⟩ := bd h
  have kc := kc.tr (k_pz h2 kc.1) rfl rfl
  cases h
  exact kc
theorem kf27 {as : List aV} {M M' : hM} {r : Option aV} (h : f27 as M = some (r, M')) (hb : bk M) : kp [906] [] M M' := by
  unfold f27 at h
  split at h
  · exact kx_out h (fun res hx => kb27_0 hx hb)
  · cases h
theorem kb28_32 {M : hM} {res : xRes} (h : b28_32 M = some res) (hb : bk M) : kp [1003] [] M (r_M res) := by
  have kc : kp [1003] [] M M := kp.rf hb
  unfold b28_32 at h
  cases h
  exact kc
theorem kb28_0 {a0 v1 v2 : _} {M : hM} {res : xRes} (h : b28_0 a0 v1 v2 M = some res) (hb : bk M) : kp [1003] [] M (r_M res) := by
  have kc : kp [1003] [] M M := kp.rf hb
  unfold b28_0 at h
  obtain ⟨b_3, -, h⟩ := bd h
  obtain ⟨q_1, h2, h⟩ := bd h
  have kc := kc.tr (kf12 (c_I_some h2) kc.1) rfl rfl
  rcases ite_some h with ⟨-, h⟩ | ⟨-, h⟩
  · exact kc.tt (kb28_32 h kc.1) (fun _ q => q) (fun _ q => q)
  · rcases ite_some h with ⟨-, h⟩ | ⟨-, h⟩
    · exact kc.tt (kb28_32 h kc.1) (fun _ q => q) (fun _ q => q)
    · rcases ite_some h with ⟨-, h⟩ | ⟨-, h⟩
      · exact kc.tt (kb28_32 h kc.1) (fun _ q => q) (fun _ q => q)
      · obtain ⟨o_5, -, h⟩ := bd h
        obtain ⟨o_7, -, h⟩ := bd h
        obtain ⟨v_9, -, h⟩ := bd h
        rcases ite_some h with ⟨-, h⟩ | ⟨-, h⟩
        · exact kc.tt (kb28_32 h kc.1) (fun _ q => q) (fun _ q => q)
        · obtain ⟨o_11, -, h⟩ := bd h
          obtain ⟨o_13, -, h⟩ := bd h
          obtain ⟨M15, h8, h⟩ := bd h
          have kc := kc.tr (k_pi h8 kc.1) rfl rfl
          cases h
          exact kc
theorem kf28 {as : List aV} {M M' : hM} {r : Option aV} (h : f28 as M = some (r, M')) (hb : bk M) : kp [1003] [] M M' := by
  unfold f28 at h
  split at h
  · exact kx_out h (fun res hx => kb28_0 hx hb)
  · cases h
theorem kb29_17 {M : hM} {res : xRes} (h : b29_17 M = some res) (hb : bk M) : kp [] [] M (r_M res) := by
  have kc : kp [] [] M M := kp.rf hb
  unfold b29_17 at h
  cases h
  exact kc
theorem kb29_44 {sr0 : _} {M : hM} {res : xRes} (h : b29_44 sr0 M = some res) (hb : bk M) : kp [] [] M (r_M res) := by
  have kc : kp [] [] M M := kp.rf hb
  unfold b29_44 at h
  cases h
  exact kc
theorem kb29_0 {a0 v1 v2 : _} {M : hM} {res : xRes} (h : b29_0 a0 v1 v2 M = some res) (hb : bk M) : kp [] [] M (r_M res) := by
  have kc : kp [] [] M M := kp.rf hb
  unfold b29_0 at h
  obtain ⟨b_3, -, h⟩ := bd h
  obtain ⟨q_1, h2, h⟩ := bd h
  have kc := kc.tr (kf16 (c_I_some h2) kc.1) rfl rfl
  rcases ite_some h with ⟨-, h⟩ | ⟨-, h⟩
  · exact kc.tt (kb29_17 h kc.1) (fun _ q => q) (fun _ q => q)
  · rcases ite_some h with ⟨-, h⟩ | ⟨-, h⟩
    · exact kc.tt (kb29_17 h kc.1) (fun _ q => q) (fun _ q => q)
    · rcases ite_some h with ⟨-, h⟩ | ⟨-, h⟩
      · rcases ite_some h with ⟨-, h⟩ | ⟨-, h⟩
        · obtain ⟨o_11, -, h⟩ := bd h
          obtain ⟨o_13, -, h⟩ := bd h
          obtain ⟨o_15, -, h⟩ := bd h
          exact kc.tt (kb29_44 h kc.1) (fun _ q => q) (fun _ q => q)
        · obtain ⟨o_5, -, h⟩ := bd h
          obtain ⟨o_7, -, h⟩ := bd h
          obtain ⟨o_9, -, h⟩ := bd h
          exact kc.tt (kb29_44 h kc.1) (fun _ q => q) (fun _ q => q)
      · exact kc.tt (kb29_17 h kc.1) (fun _ q => q) (fun _ q => q)
theorem kf29 {as : List aV} {M M' : hM} {r : Option aV} (h : f29 as M = some (r, M')) (hb : bk M) : kp [] [] M M' := by
  unfold f29 at h
  split at h
  · exact kx_out h (fun res hx => kb29_0 hx hb)
  · cases h
theorem kb30_40 {M : hM} {res : xRes} (h : b30_40 M = some res) (hb : bk M) : kp [202] [21] M (r_M res) := by
  have kc : kp [202] [21] M M := kp.rf hb
  unfold b30_40 at h
  cases h
  exact kc
theorem kb30_0 {a0 v1 : _} {M : hM} {res : xRes} (h : b30_0 a0 v1 M = some res) (hb : bk M) : kp [202] [21] M (r_M res) := by
  have kc : kp [202] [21] M M := kp.rf hb
  unfold b30_0 at h
  obtain ⟨v_1, -, h⟩ := bd h
  rcases ite_some h with ⟨-, h⟩ | ⟨-, h⟩
  · exact kc.tt (kb30_40 h kc.1) (fun _ q => q) (fun _ q => q)
  · obtain ⟨o_3, -, h⟩ := bd h
    obtain ⟨v_5, -, h⟩ := bd h
    rcases ite_some h with ⟨-, h⟩ | ⟨-, h⟩
    · exact kc.tt (kb30_40 h kc.1) (fun _ q => q) (fun _ q => q)
    · obtain ⟨o_7, -, h⟩ := bd h
      obtain ⟨v_9, -, h⟩ := bd h
      obtain ⟨v_11, -, h⟩ := bd h
      obtain ⟨M13, h7, h⟩ := bd h
      have kc := kc.tr (k_as_b h7 kc.1 (by decide)) rfl rfl
      obtain ⟨M15, h8, h⟩ := bd h
      have kc := kc.tr (k_pz h8 kc.1) rfl rfl
      exact kc.tt (kb30_40 h kc.1) (fun _ q => q) (fun _ q => q)
theorem kf30 {as : List aV} {M M' : hM} {r : Option aV} (h : f30 as M = some (r, M')) (hb : bk M) : kp [202] [21] M M' := by
  unfold f30 at h
  split at h
  · exact kx_out h (fun res hx => kb30_0 hx hb)
  · cases h
theorem kb31_29 {M : hM} {res : xRes} (h : b31_29 M = some res) (hb : bk M) : kp [202] [21] M (r_M res) := by
  have kc : kp [202] [21] M M := kp.rf hb
  unfold b31_29 at h
  cases h
  exact kc
theorem kb31_0 {a0 v1 v2 v3 : _} {M : hM} {res : xRes} (h : b31_0 a0 v1 v2 v3 M = some res) (hb : bk M) : kp [202] [21] M (r_M res) := by
  have kc : kp [202] [21] M M := kp.rf hb
  unfold b31_0 at h
  obtain ⟨b_3, -, h⟩ := bd h
  obtain ⟨q_1, h2, h⟩ := bd h
  have kc := kc.tr (kf29 (c_R_some h2) kc.1) rfl rfl
  rcases ite_some h with ⟨-, h⟩ | ⟨-, h⟩
  · exact kc.tt (kb31_29 h kc.1) (fun _ q => q) (fun _ q => q)
  · rcases ite_some h with ⟨-, h⟩ | ⟨-, h⟩
    · exact kc.tt (kb31_29 h kc.1) (fun _ q => q) (fun _ q => q)
    · obtain ⟨v_5, -, h⟩ := bd h
      rcases ite_some h with ⟨-, h⟩ | ⟨-, h⟩
      · obtain ⟨b_9, -, h⟩ := bd h
        obtain ⟨q_7, h5, h⟩ := bd h
        have kc := kc.tr (kf30 (c_V_some h5) kc.1) rfl rfl
        cases h
        exact kc
      · exact kc.tt (kb31_29 h kc.1) (fun _ q => q) (fun _ q => q)
theorem kf31 {as : List aV} {M M' : hM} {r : Option aV} (h : f31 as M = some (r, M')) (hb : bk M) : kp [202] [21] M M' := by
  unfold f31 at h
  split at h
  · exact kx_out h (fun res hx => kb31_0 hx hb)
  · cases h
theorem kb32_0 {a0 v1 v2 v3 v4 : _} {M : hM} {res : xRes} (h : b32_0 a0 v1 v2 v3 v4 M = some res) (hb : bk M) : kp [201, 202] [21] M (r_M res) := by
  have kc : kp [201, 202] [21] M M := kp.rf hb
  unfold b32_0 at h
  obtain ⟨M1, h1, h⟩ := bd h
  have kc := kc.tr (k_pi h1 kc.1) rfl rfl
  obtain ⟨M3, h2, h⟩ := bd h
  have kc := kc.tr (k_pz h2 kc.1) rfl rfl
  obtain ⟨o_5, -, h⟩ := bd h
  obtain ⟨M7, h4, h⟩ := bd h
  have kc := kc.tr (k_as_b h4 kc.1 (by decide)) rfl rfl
  cases h
  exact kc
theorem kb32_22 {a0 v2 v3 v4 v5 : _} {M : hM} {res : xRes} (h : b32_22 a0 v2 v3 v4 v5 M = some res) (hb : bk M) : kp [201, 202] [21] M (r_M res) := by
  have kc : kp [201, 202] [21] M M := kp.rf hb
  unfold b32_22 at h
  rcases ite_some h with ⟨-, h⟩ | ⟨-, h⟩
  · obtain ⟨o_9, -, h⟩ := bd h
    obtain ⟨M11, h2, h⟩ := bd h
    have kc := kc.tr (k_as_b h2 kc.1 (by decide)) rfl rfl
    obtain ⟨o_13, -, h⟩ := bd h
    obtain ⟨M15, h4, h⟩ := bd h
    have kc := kc.tr (k_as_b h4 kc.1 (by decide)) rfl rfl
    cases h
    exact kc
  · obtain ⟨o_17, -, h⟩ := bd h
    obtain ⟨M19, h6, h⟩ := bd h
    have kc := kc.tr (k_as_b h6 kc.1 (by decide)) rfl rfl
    obtain ⟨o_21, -, h⟩ := bd h
    obtain ⟨M23, h8, h⟩ := bd h
    have kc := kc.tr (k_as_b h8 kc.1 (by decide)) rfl rfl
    cases h
    exact kc
theorem kb32_101 {a0 v5 : _} {M : hM} {res : xRes} (h : b32_101 a0 v5 M = some res) (hb : bk M) : kp [201, 202] [21] M (r_M res) := by
  have kc : kp [201, 202] [21] M M := kp.rf hb
  unfold b32_101 at h
  rcases ite_some h with ⟨-, h⟩ | ⟨-, h⟩
  · cases h
    exact kc
  · obtain ⟨o_26, -, h⟩ := bd h
    obtain ⟨M28, h2, h⟩ := bd h
    have kc := kc.tr (k_as_b h2 kc.1 (by decide)) rfl rfl
    cases h
    exact kc
theorem kf32 {as : List aV} {M M' : hM} {r : Option aV} (h : f32 as M = some (r, M')) (hb : bk M) : kp [201, 202] [21] M M' := by
  unfold f32 at h
  split at h
  · refine kx_go (blk := k32) ?_ h (fun res hx => kb32_0 hx hb)
    intro h as M res hk hb
    unfold k32 at hk
    split at hk
    · split at hk
      · exact kb32_22 hk hb
      · cases hk
    · skip
      split at hk
      · split at hk
        · exact kb32_101 hk hb
        · cases hk
      · skip
        cases hk
  · cases h
theorem kb33_0 {a0 : _} {M : hM} {res : xRes} (h : b33_0 a0 M = some res) (hb : bk M) : kp [200] [0] M (r_M res) := by
  have kc : kp [200] [0] M M := kp.rf hb
  unfold b33_0 at h
  obtain ⟨M1, h1, h⟩ := bd h
  have kc := kc.tr (k_n_a h1 kc.1) rfl rfl
  obtain ⟨M3, h2, h⟩ := bd h
  have kc := kc.tr (k_pr h2 kc.1) rfl rfl
  cases h
  exact kc
theorem kf33 {as : List aV} {M M' : hM} {r : Option aV} (h : f33 as M = some (r, M')) (hb : bk M) : kp [200] [0] M M' := by
  unfold f33 at h
  split at h
  · exact kx_out h (fun res hx => kb33_0 hx hb)
  · cases h
theorem kb34_32 {v1 v2 v3 v4 o5 : _} {M : hM} {res : xRes} (h : b34_32 v1 v2 v3 v4 o5 M = some res) (hb : bk M) : kp [200, 201, 202, 203, 907] [0, 21] M (r_M res) := by
  have kc : kp [200, 201, 202, 203, 907] [0, 21] M M := kp.rf hb
  unfold b34_32 at h
  obtain ⟨M12, h1, h⟩ := bd h
  have kc := kc.tr (k_pr h1 kc.1) rfl rfl
  obtain ⟨b_16, -, h⟩ := bd h
  obtain ⟨q_14, h3, h⟩ := bd h
  have kc := kc.tr (kf32 (c_V_some h3) kc.1) rfl rfl
  cases h
  exact kc
theorem kb34_0 {a0 v1 v2 v3 v4 : _} {M : hM} {res : xRes} (h : b34_0 a0 v1 v2 v3 v4 M = some res) (hb : bk M) : kp [200, 201, 202, 203, 907] [0, 21] M (r_M res) := by
  have kc : kp [200, 201, 202, 203, 907] [0, 21] M M := kp.rf hb
  unfold b34_0 at h
  obtain ⟨o_1, -, h⟩ := bd h
  rcases ite_some h with ⟨-, h⟩ | ⟨-, h⟩
  · obtain ⟨M7, h2, h⟩ := bd h
    have kc := kc.tr (k_n_o h2 kc.1) rfl rfl
    obtain ⟨q_9, h3, h⟩ := bd h
    have kc := kc.tr (kf33 (c_V_some h3) kc.1) rfl rfl
    exact kc.tt (kb34_32 h kc.1) (fun _ q => q) (fun _ q => q)
  · obtain ⟨o_3, -, h⟩ := bd h
    obtain ⟨M5, h5, h⟩ := bd h
    have kc := kc.tr (k_pr h5 kc.1) rfl rfl
    exact kc.tt (kb34_32 h kc.1) (fun _ q => q) (fun _ q => q)
theorem kf34 {as : List aV} {M M' : hM} {r : Option aV} (h : f34 as M = some (r, M')) (hb : bk M) : kp [200, 201, 202, 203, 907] [0, 21] M M' := by
  unfold f34 at h
  split at h
  · exact kx_out h (fun res hx => kb34_0 hx hb)
  · cases h
theorem kb35_0 {a0 v1 v2 w3 : _} {M : hM} {res : xRes} (h : b35_0 a0 v1 v2 w3 M = some res) (hb : bk M) : kp [] [21] M (r_M res) := by
  have kc : kp [] [21] M M := kp.rf hb
  unfold b35_0 at h
  cases h
  exact kc
theorem kb35_50 {a0 v1 v2 w3 v5 : _} {M : hM} {res : xRes} (h : b35_50 a0 v1 v2 w3 v5 M = some res) (hb : bk M) : kp [] [21] M (r_M res) := by
  have kc : kp [] [21] M M := kp.rf hb
  unfold b35_50 at h
  cases h
  exact kc
theorem kb35_3 {a0 v1 v2 w3 v5 : _} {M : hM} {res : xRes} (h : b35_3 a0 v1 v2 w3 v5 M = some res) (hb : bk M) : kp [] [21] M (r_M res) := by
  have kc : kp [] [21] M M := kp.rf hb
  unfold b35_3 at h
  rcases ite_some h with ⟨-, h⟩ | ⟨-, h⟩
  · cases h
    exact kc
  · rcases ite_some h with ⟨-, h⟩ | ⟨-, h⟩
    · exact kc.tt (kb35_50 h kc.1) (fun _ q => q) (fun _ q => q)
    · obtain ⟨o_1, -, h⟩ := bd h
      obtain ⟨v_3, -, h⟩ := bd h
      rcases ite_some h with ⟨-, h⟩ | ⟨-, h⟩
      · exact kc.tt (kb35_50 h kc.1) (fun _ q => q) (fun _ q => q)
      · obtain ⟨o_5, -, h⟩ := bd h
        obtain ⟨M7, h4, h⟩ := bd h
        have kc := kc.tr (k_as_b h4 kc.1 (by decide)) rfl rfl
        exact kc.tt (kb35_50 h kc.1) (fun _ q => q) (fun _ q => q)
theorem kf35 {as : List aV} {M M' : hM} {r : Option aV} (h : f35 as M = some (r, M')) (hb : bk M) : kp [] [21] M M' := by
  unfold f35 at h
  split at h
  · refine kx_go (blk := k35) ?_ h (fun res hx => kb35_0 hx hb)
    intro h as M res hk hb
    unfold k35 at hk
    split at hk
    · split at hk
      · exact kb35_3 hk hb
      · cases hk
    · skip
      cases hk
  · cases h
theorem kb36_0 {a0 v1 w2 : _} {M : hM} {res : xRes} (h : b36_0 a0 v1 w2 M = some res) (hb : bk M) : kp [201] [21] M (r_M res) := by
  have kc : kp [201] [21] M M := kp.rf hb
  unfold b36_0 at h
  obtain ⟨v_1, -, h⟩ := bd h
  obtain ⟨b_5, -, h⟩ := bd h
  obtain ⟨q_3, h3, h⟩ := bd h
  have kc := kc.tr (kf35 (c_V_some h3) kc.1) rfl rfl
  obtain ⟨v_7, -, h⟩ := bd h
  obtain ⟨M9, h5, h⟩ := bd h
  have kc := kc.tr (k_pi h5 kc.1) rfl rfl
  cases h
  exact kc
theorem kf36 {as : List aV} {M M' : hM} {r : Option aV} (h : f36 as M = some (r, M')) (hb : bk M) : kp [201] [21] M M' := by
  unfold f36 at h
  split at h
  · exact kx_out h (fun res hx => kb36_0 hx hb)
  · cases h
theorem kb37_20 {M : hM} {res : xRes} (h : b37_20 M = some res) (hb : bk M) : kp [] [20] M (r_M res) := by
  have kc : kp [] [20] M M := kp.rf hb
  unfold b37_20 at h
  cases h
  exact kc
theorem kb37_0 {a0 v1 : _} {M : hM} {res : xRes} (h : b37_0 a0 v1 M = some res) (hb : bk M) : kp [] [20] M (r_M res) := by
  have kc : kp [] [20] M M := kp.rf hb
  unfold b37_0 at h
  rcases ite_some h with ⟨-, h⟩ | ⟨-, h⟩
  · exact kc.tt (kb37_20 h kc.1) (fun _ q => q) (fun _ q => q)
  · rcases ite_some h with ⟨-, h⟩ | ⟨-, h⟩
    · exact kc.tt (kb37_20 h kc.1) (fun _ q => q) (fun _ q => q)
    · obtain ⟨o_1, -, h⟩ := bd h
      obtain ⟨v_3, -, h⟩ := bd h
      obtain ⟨M5, h3, h⟩ := bd h
      have kc := kc.tr (k_as_i h3 kc.1 (by decide)) rfl rfl
      exact kc.tt (kb37_20 h kc.1) (fun _ q => q) (fun _ q => q)
theorem kf37 {as : List aV} {M M' : hM} {r : Option aV} (h : f37 as M = some (r, M')) (hb : bk M) : kp [] [20] M M' := by
  unfold f37 at h
  split at h
  · exact kx_out h (fun res hx => kb37_0 hx hb)
  · cases h
theorem kb38_28 {a0 o1 : _} {M : hM} {res : xRes} (h : b38_28 a0 o1 M = some res) (hb : bk M) : kp [203, 300, 301, 302] [] M (r_M res) := by
  have kc : kp [203, 300, 301, 302] [] M M := kp.rf hb
  unfold b38_28 at h
  obtain ⟨M12, h1, h⟩ := bd h
  have kc := kc.tr (k_pr h1 kc.1) rfl rfl
  obtain ⟨v_14, -, h⟩ := bd h
  obtain ⟨M16, h3, h⟩ := bd h
  have kc := kc.tr (k_pi h3 kc.1) rfl rfl
  cases h
  exact kc
theorem kb38_0 {a0 o1 : _} {M : hM} {res : xRes} (h : b38_0 a0 o1 M = some res) (hb : bk M) : kp [203, 300, 301, 302] [] M (r_M res) := by
  have kc : kp [203, 300, 301, 302] [] M M := kp.rf hb
  unfold b38_0 at h
  obtain ⟨M1, h1, h⟩ := bd h
  have kc := kc.tr (k_pr h1 kc.1) rfl rfl
  obtain ⟨o_3, -, h⟩ := bd h
  rcases ite_some h with ⟨-, h⟩ | ⟨-, h⟩
  · obtain ⟨M9, h3, h⟩ := bd h
    have kc := kc.tr (k_pr h3 kc.1) rfl rfl
    exact kc.tt (kb38_28 h kc.1) (fun _ q => q) (fun _ q => q)
  · obtain ⟨o_5, -, h⟩ := bd h
    obtain ⟨M7, h5, h⟩ := bd h
    have kc := kc.tr (k_pr h5 kc.1) rfl rfl
    exact kc.tt (kb38_28 h kc.1) (fun _ q => q) (fun _ q => q)
theorem kf38 {as : List aV} {M M' : hM} {r : Option aV} (h : f38 as M = some (r, M')) (hb : bk M) : kp [203, 300, 301, 302] [] M M' := by
  unfold f38 at h
  split at h
  · exact kx_out h (fun res hx => kb38_0 hx hb)
  · cases h
theorem kb39_43 {a0 o1 : _} {M : hM} {res : xRes} (h : b39_43 a0 o1 M = some res) (hb : bk M) : kp [203, 300, 301, 302, 907] [20] M (r_M res) := by
  have kc : kp [203, 300, 301, 302, 907] [20] M M := kp.rf hb
  unfold b39_43 at h
  obtain ⟨o_24, -, h⟩ := bd h
  obtain ⟨b_28, -, h⟩ := bd h
  obtain ⟨q_26, h3, h⟩ := bd h
  have kc := kc.tr (kf17 (c_V_some h3) kc.1) rfl rfl
  cases h
  exact kc
theorem kb39_28 {a0 o1 : _} {M : hM} {res : xRes} (h : b39_28 a0 o1 M = some res) (hb : bk M) : kp [203, 300, 301, 302, 907] [20] M (r_M res) := by
  have kc : kp [203, 300, 301, 302, 907] [20] M M := kp.rf hb
  unfold b39_28 at h
  obtain ⟨v_15, -, h⟩ := bd h
  rcases ite_some h with ⟨-, h⟩ | ⟨-, h⟩
  · exact kc.tt (kb39_43 h kc.1) (fun _ q => q) (fun _ q => q)
  · obtain ⟨o_17, -, h⟩ := bd h
    obtain ⟨b_21, -, h⟩ := bd h
    obtain ⟨q_19, h4, h⟩ := bd h
    have kc := kc.tr (kf37 (c_V_some h4) kc.1) rfl rfl
    exact kc.tt (kb39_43 h kc.1) (fun _ q => q) (fun _ q => q)
theorem kb39_0 {a0 o1 : _} {M : hM} {res : xRes} (h : b39_0 a0 o1 M = some res) (hb : bk M) : kp [203, 300, 301, 302, 907] [20] M (r_M res) := by
  have kc : kp [203, 300, 301, 302, 907] [20] M M := kp.rf hb
  unfold b39_0 at h
  obtain ⟨v_1, -, h⟩ := bd h
  rcases ite_some h with ⟨-, h⟩ | ⟨-, h⟩
  · exact kc.tt (kb39_28 h kc.1) (fun _ q => q) (fun _ q => q)
  · obtain ⟨o_3, -, h⟩ := bd h
    obtain ⟨v_5, -, h⟩ := bd h
    rcases ite_some h with ⟨-, h⟩ | ⟨-, h⟩
    · exact kc.tt (kb39_28 h kc.1) (fun _ q => q) (fun _ q => q)
    · obtain ⟨o_7, -, h⟩ := bd h
      obtain ⟨b_11, -, h⟩ := bd h
      obtain ⟨q_9, h6, h⟩ := bd h
      have kc := kc.tr (kf38 (c_V_some h6) kc.1) rfl rfl
      cases h
      exact kc
theorem kf39 {as : List aV} {M M' : hM} {r : Option aV} (h : f39 as M = some (r, M')) (hb : bk M) : kp [203, 300, 301, 302, 907] [20] M M' := by
  unfold f39 at h
  split at h
  · exact kx_out h (fun res hx => kb39_0 hx hb)
  · cases h
theorem kb40_92 {M : hM} {res : xRes} (h : b40_92 M = some res) (hb : bk M) : kp [200, 201, 202, 203, 300, 301, 302, 814, 907] [0, 20, 21] M (r_M res) := by
  have kc : kp [200, 201, 202, 203, 300, 301, 302, 814, 907] [0, 20, 21] M M := kp.rf hb
  unfold b40_92 at h
  cases h
  exact kc
theorem kb40_14 {a0 si0 : _} {M : hM} {res : xRes} (h : b40_14 a0 si0 M = some res) (hb : bk M) : kp [200, 201, 202, 203, 300, 301, 302, 814, 907] [0, 20, 21] M (r_M res) := by
  have kc : kp [200, 201, 202, 203, 300, 301, 302, 814, 907] [0, 20, 21] M M := kp.rf hb
  unfold b40_14 at h
  obtain ⟨o_4, -, h⟩ := bd h
  obtain ⟨v_6, -, h⟩ := bd h
  rcases ite_some h with ⟨-, h⟩ | ⟨-, h⟩
  · exact kc.tt (kb40_92 h kc.1) (fun _ q => q) (fun _ q => q)
  · obtain ⟨o_8, -, h⟩ := bd h
    obtain ⟨v_10, -, h⟩ := bd h
    obtain ⟨o_12, -, h⟩ := bd h
    obtain ⟨v_14, -, h⟩ := bd h
    rcases ite_some h with ⟨-, h⟩ | ⟨-, h⟩
    · exact kc.tt (kb40_92 h kc.1) (fun _ q => q) (fun _ q => q)
    · obtain ⟨o_16, -, h⟩ := bd h
      obtain ⟨o_18, -, h⟩ := bd h
      obtain ⟨v_20, -, h⟩ := bd h
      obtain ⟨M22, h10, h⟩ := bd h
      have kc := kc.tr (k_pi h10 kc.1) rfl rfl
      obtain ⟨o_24, -, h⟩ := bd h
      obtain ⟨v_26, -, h⟩ := bd h
      obtain ⟨b_30, -, h⟩ := bd h
      obtain ⟨q_28, h14, h⟩ := bd h
      have kc := kc.tr (kf34 (c_R_some h14) kc.1) rfl rfl
      obtain ⟨v_32, -, h⟩ := bd h
      obtain ⟨b_36, -, h⟩ := bd h
      obtain ⟨q_34, h17, h⟩ := bd h
      have kc := kc.tr (kf36 (c_V_some h17) kc.1) rfl rfl
      obtain ⟨o_38, -, h⟩ := bd h
      obtain ⟨b_42, -, h⟩ := bd h
      obtain ⟨q_40, h20, h⟩ := bd h
      have kc := kc.tr (kf39 (c_V_some h20) kc.1) rfl rfl
      exact kc.tt (kb40_92 h kc.1) (fun _ q => q) (fun _ q => q)
theorem kb40_0 {a0 : _} {M : hM} {res : xRes} (h : b40_0 a0 M = some res) (hb : bk M) : kp [200, 201, 202, 203, 300, 301, 302, 814, 907] [0, 20, 21] M (r_M res) := by
  have kc : kp [200, 201, 202, 203, 300, 301, 302, 814, 907] [0, 20, 21] M M := kp.rf hb
  unfold b40_0 at h
  obtain ⟨v_1, -, h⟩ := bd h
  rcases ite_some h with ⟨-, h⟩ | ⟨-, h⟩
  · exact kc.tt (kb40_14 h kc.1) (fun _ q => q) (fun _ q => q)
  · exact kc.tt (kb40_14 h kc.1) (fun _ q => q) (fun _ q => q)
theorem kf40 {as : List aV} {M M' : hM} {r : Option aV} (h : f40 as M = some (r, M')) (hb : bk M) : kp [200, 201, 202, 203, 300, 301, 302, 814, 907] [0, 20, 21] M M' := by
  unfold f40 at h
  split at h
  · exact kx_out h (fun res hx => kb40_0 hx hb)
  · cases h
theorem kb41_26 {si0 : _} {M : hM} {res : xRes} (h : b41_26 si0 M = some res) (hb : bk M) : kp [] [] M (r_M res) := by
  have kc : kp [] [] M M := kp.rf hb
  unfold b41_26 at h
  rcases ite_some h with ⟨-, h⟩ | ⟨-, h⟩
  · cases h
    exact kc
  · cases h
theorem kb41_25 {M : hM} {res : xRes} (h : b41_25 M = some res) (hb : bk M) : kp [] [] M (r_M res) := by
  have kc : kp [] [] M M := kp.rf hb
  unfold b41_25 at h
  exact kc.tt (kb41_26 h kc.1) (fun _ q => q) (fun _ q => q)
theorem kb41_0 {a0 : _} {M : hM} {res : xRes} (h : b41_0 a0 M = some res) (hb : bk M) : kp [] [] M (r_M res) := by
  have kc : kp [] [] M M := kp.rf hb
  unfold b41_0 at h
  obtain ⟨v_1, -, h⟩ := bd h
  rcases ite_some h with ⟨-, h⟩ | ⟨-, h⟩
  · exact kc.tt (kb41_25 h kc.1) (fun _ q => q) (fun _ q => q)
  · obtain ⟨v_3, -, h⟩ := bd h
    rcases ite_some h with ⟨-, h⟩ | ⟨-, h⟩
    · exact kc.tt (kb41_25 h kc.1) (fun _ q => q) (fun _ q => q)
    · obtain ⟨o_5, -, h⟩ := bd h
      rcases ite_some h with ⟨-, h⟩ | ⟨-, h⟩
      · exact kc.tt (kb41_26 h kc.1) (fun _ q => q) (fun _ q => q)
      · exact kc.tt (kb41_25 h kc.1) (fun _ q => q) (fun _ q => q)
theorem kf41 {as : List aV} {M M' : hM} {r : Option aV} (h : f41 as M = some (r, M')) (hb : bk M) : kp [] [] M M' := by
  unfold f41 at h
  split at h
  · exact kx_out h (fun res hx => kb41_0 hx hb)
  · cases h
theorem kb42_0 {a0 v1 : _} {M : hM} {res : xRes} (h : b42_0 a0 v1 M = some res) (hb : bk M) : kp [] [] M (r_M res) := by
  have kc : kp [] [] M M := kp.rf hb
  unfold b42_0 at h
  cases h
  exact kc
theorem kb42_63 {v2 : _} {M : hM} {res : xRes} (h : b42_63 v2 M = some res) (hb : bk M) : kp [] [] M (r_M res) := by
  have kc : kp [] [] M M := kp.rf hb
  unfold b42_63 at h
  cases h
  exact kc
theorem kb42_4 {a0 v1 v2 v3 : _} {M : hM} {res : xRes} (h : b42_4 a0 v1 v2 v3 M = some res) (hb : bk M) : kp [] [] M (r_M res) := by
  have kc : kp [] [] M M := kp.rf hb
  unfold b42_4 at h
  rcases ite_some h with ⟨-, h⟩ | ⟨-, h⟩
  · exact kc.tt (kb42_63 h kc.1) (fun _ q => q) (fun _ q => q)
  · obtain ⟨o_1, -, h⟩ := bd h
    obtain ⟨v_3, -, h⟩ := bd h
    rcases ite_some h with ⟨-, h⟩ | ⟨-, h⟩
    · exact kc.tt (kb42_63 h kc.1) (fun _ q => q) (fun _ q => q)
    · obtain ⟨o_5, -, h⟩ := bd h
      obtain ⟨v_7, -, h⟩ := bd h
      obtain ⟨v_9, -, h⟩ := bd h
      obtain ⟨v_11, -, h⟩ := bd h
      cases h
      exact kc
theorem kf42 {as : List aV} {M M' : hM} {r : Option aV} (h : f42 as M = some (r, M')) (hb : bk M) : kp [] [] M M' := by
  unfold f42 at h
  split at h
  · refine kx_go (blk := k42) ?_ h (fun res hx => kb42_0 hx hb)
    intro h as M res hk hb
    unfold k42 at hk
    split at hk
    · split at hk
      · exact kb42_4 hk hb
      · cases hk
    · skip
      cases hk
  · cases h
theorem kb43_0 {a0 : _} {M : hM} {res : xRes} (h : b43_0 a0 M = some res) (hb : bk M) : kp [201] [21] M (r_M res) := by
  have kc : kp [201] [21] M M := kp.rf hb
  unfold b43_0 at h
  obtain ⟨v_1, -, h⟩ := bd h
  obtain ⟨b_5, -, h⟩ := bd h
  obtain ⟨q_3, h3, h⟩ := bd h
  have kc := kc.tr (kf35 (c_V_some h3) kc.1) rfl rfl
  obtain ⟨v_7, -, h⟩ := bd h
  obtain ⟨v_9, -, h⟩ := bd h
  obtain ⟨b_13, -, h⟩ := bd h
  obtain ⟨q_11, h7, h⟩ := bd h
  have kc := kc.tr (kf42 (c_I_some h7) kc.1) rfl rfl
  obtain ⟨b_17, -, h⟩ := bd h
  obtain ⟨q_15, h9, h⟩ := bd h
  have kc := kc.tr (kf35 (c_V_some h9) kc.1) rfl rfl
  obtain ⟨v_19, -, h⟩ := bd h
  obtain ⟨M21, h11, h⟩ := bd h
  have kc := kc.tr (k_pi h11 kc.1) rfl rfl
  cases h
  exact kc
theorem kf43 {as : List aV} {M M' : hM} {r : Option aV} (h : f43 as M = some (r, M')) (hb : bk M) : kp [201] [21] M M' := by
  unfold f43 at h
  split at h
  · exact kx_out h (fun res hx => kb43_0 hx hb)
  · cases h
theorem kb44_0 {a0 o1 : _} {M : hM} {res : xRes} (h : b44_0 a0 o1 M = some res) (hb : bk M) : kp [806, 808] [20] M (r_M res) := by
  have kc : kp [806, 808] [20] M M := kp.rf hb
  unfold b44_0 at h
  obtain ⟨M1, h1, h⟩ := bd h
  have kc := kc.tr (k_pr h1 kc.1) rfl rfl
  obtain ⟨v_3, -, h⟩ := bd h
  obtain ⟨M5, h3, h⟩ := bd h
  have kc := kc.tr (k_pi h3 kc.1) rfl rfl
  obtain ⟨o_7, -, h⟩ := bd h
  obtain ⟨b_11, -, h⟩ := bd h
  obtain ⟨q_9, h6, h⟩ := bd h
  have kc := kc.tr (kf37 (c_V_some h6) kc.1) rfl rfl
  cases h
  exact kc
theorem kf44 {as : List aV} {M M' : hM} {r : Option aV} (h : f44 as M = some (r, M')) (hb : bk M) : kp [806, 808] [20] M M' := by
  unfold f44 at h
  split at h
  · exact kx_out h (fun res hx => kb44_0 hx hb)
  · cases h
theorem kb45_38 {M : hM} {res : xRes} (h : b45_38 M = some res) (hb : bk M) : kp [201, 203, 300, 301, 302, 806, 808] [20, 21] M (r_M res) := by
  have kc : kp [201, 203, 300, 301, 302, 806, 808] [20, 21] M M := kp.rf hb
  unfold b45_38 at h
  cases h
  exact kc
theorem kb45_0 {a0 : _} {M : hM} {res : xRes} (h : b45_0 a0 M = some res) (hb : bk M) : kp [201, 203, 300, 301, 302, 806, 808] [20, 21] M (r_M res) := by
  have kc : kp [201, 203, 300, 301, 302, 806, 808] [20, 21] M M := kp.rf hb
  unfold b45_0 at h
  obtain ⟨o_1, -, h⟩ := bd h
  obtain ⟨o_3, -, h⟩ := bd h
  rcases ite_some h with ⟨-, h⟩ | ⟨-, h⟩
  · exact kc.tt (kb45_38 h kc.1) (fun _ q => q) (fun _ q => q)
  · obtain ⟨b_7, -, h⟩ := bd h
    obtain ⟨q_5, h4, h⟩ := bd h
    have kc := kc.tr (kf41 (c_I_some h4) kc.1) rfl rfl
    rcases ite_some h with ⟨-, h⟩ | ⟨-, h⟩
    · exact kc.tt (kb45_38 h kc.1) (fun _ q => q) (fun _ q => q)
    · obtain ⟨o_9, -, h⟩ := bd h
      obtain ⟨o_11, -, h⟩ := bd h
      obtain ⟨b_15, -, h⟩ := bd h
      obtain ⟨q_13, h8, h⟩ := bd h
      have kc := kc.tr (kf43 (c_V_some h8) kc.1) rfl rfl
      obtain ⟨o_17, -, h⟩ := bd h
      obtain ⟨b_21, -, h⟩ := bd h
      obtain ⟨q_19, h11, h⟩ := bd h
      have kc := kc.tr (kf18 (c_R_some h11) kc.1) rfl rfl
      obtain ⟨b_25, -, h⟩ := bd h
      obtain ⟨q_23, h13, h⟩ := bd h
      have kc := kc.tr (kf44 (c_V_some h13) kc.1) rfl rfl
      exact kc.tt (kb45_38 h kc.1) (fun _ q => q) (fun _ q => q)
theorem kf45 {as : List aV} {M M' : hM} {r : Option aV} (h : f45 as M = some (r, M')) (hb : bk M) : kp [201, 203, 300, 301, 302, 806, 808] [20, 21] M M' := by
  unfold f45 at h
  split at h
  · exact kx_out h (fun res hx => kb45_0 hx hb)
  · cases h
theorem kb46_0 {a0 : _} {M : hM} {res : xRes} (h : b46_0 a0 M = some res) (hb : bk M) : kp [700] [] M (r_M res) := by
  have kc : kp [700] [] M M := kp.rf hb
  unfold b46_0 at h
  cases h
  exact kc
theorem kb46_40 {a0 v1 : _} {M : hM} {res : xRes} (h : b46_40 a0 v1 M = some res) (hb : bk M) : kp [700] [] M (r_M res) := by
  have kc : kp [700] [] M M := kp.rf hb
  unfold b46_40 at h
  cases h
  exact kc
theorem kb46_2 {a0 v1 : _} {M : hM} {res : xRes} (h : b46_2 a0 v1 M = some res) (hb : bk M) : kp [700] [] M (r_M res) := by
  have kc : kp [700] [] M M := kp.rf hb
  unfold b46_2 at h
  rcases ite_some h with ⟨-, h⟩ | ⟨-, h⟩
  · cases h
    exact kc
  · obtain ⟨o_1, -, h⟩ := bd h
    obtain ⟨v_3, -, h⟩ := bd h
    obtain ⟨o_5, -, h⟩ := bd h
    obtain ⟨o_7, -, h⟩ := bd h
    obtain ⟨v_9, -, h⟩ := bd h
    rcases ite_some h with ⟨-, h⟩ | ⟨-, h⟩
    · exact kc.tt (kb46_40 h kc.1) (fun _ q => q) (fun _ q => q)
    · obtain ⟨o_11, -, h⟩ := bd h
      obtain ⟨o_13, -, h⟩ := bd h
      obtain ⟨M15, h8, h⟩ := bd h
      have kc := kc.tr (k_pz h8 kc.1) rfl rfl
      exact kc.tt (kb46_40 h kc.1) (fun _ q => q) (fun _ q => q)
theorem kf46 {as : List aV} {M M' : hM} {r : Option aV} (h : f46 as M = some (r, M')) (hb : bk M) : kp [700] [] M M' := by
  unfold f46 at h
  split at h
  · refine kx_go (blk := k46) ?_ h (fun res hx => kb46_0 hx hb)
    intro h as M res hk hb
    unfold k46 at hk
    split at hk
    · split at hk
      · exact kb46_2 hk hb
      · cases hk
    · skip
      cases hk
  · cases h
theorem kb47_13 {si0 : _} {M : hM} {res : xRes} (h : b47_13 si0 M = some res) (hb : bk M) : kp [] [] M (r_M res) := by
  have kc : kp [] [] M M := kp.rf hb
  unfold b47_13 at h
  rcases ite_some h with ⟨-, h⟩ | ⟨-, h⟩
  · cases h
    exact kc
  · cases h
theorem kb47_0 {a0 : _} {M : hM} {res : xRes} (h : b47_0 a0 M = some res) (hb : bk M) : kp [] [] M (r_M res) := by
  have kc : kp [] [] M M := kp.rf hb
  unfold b47_0 at h
  obtain ⟨v_1, -, h⟩ := bd h
  rcases ite_some h with ⟨-, h⟩ | ⟨-, h⟩
  · exact kc.tt (kb47_13 h kc.1) (fun _ q => q) (fun _ q => q)
  · exact kc.tt (kb47_13 h kc.1) (fun _ q => q) (fun _ q => q)
theorem kf47 {as : List aV} {M M' : hM} {r : Option aV} (h : f47 as M = some (r, M')) (hb : bk M) : kp [] [] M M' := by
  unfold f47 at h
  split at h
  · exact kx_out h (fun res hx => kb47_0 hx hb)
  · cases h
theorem kb48_20 {a0 sl0 sl1 : _} {M : hM} {res : xRes} (h : b48_20 a0 sl0 sl1 M = some res) (hb : bk M) : kp [] [] M (r_M res) := by
  have kc : kp [] [] M M := kp.rf hb
  unfold b48_20 at h
  obtain ⟨v_6, -, h⟩ := bd h
  obtain ⟨v_8, -, h⟩ := bd h
  cases h
  exact kc
theorem kb48_0 {a0 : _} {M : hM} {res : xRes} (h : b48_0 a0 M = some res) (hb : bk M) : kp [] [] M (r_M res) := by
  have kc : kp [] [] M M := kp.rf hb
  unfold b48_0 at h
  obtain ⟨v_1, -, h⟩ := bd h
  obtain ⟨v_3, -, h⟩ := bd h
  rcases ite_some h with ⟨-, h⟩ | ⟨-, h⟩
  · exact kc.tt (kb48_20 h kc.1) (fun _ q => q) (fun _ q => q)
  · exact kc.tt (kb48_20 h kc.1) (fun _ q => q) (fun _ q => q)
theorem kf48 {as : List aV} {M M' : hM} {r : Option aV} (h : f48 as M = some (r, M')) (hb : bk M) : kp [] [] M M' := by
  unfold f48 at h
  split at h
  · exact kx_out h (fun res hx => kb48_0 hx hb)
  · cases h
theorem kb49_17 {M : hM} {res : xRes} (h : b49_17 M = some res) (hb : bk M) : kp [200, 201, 202, 203, 300, 301, 302, 907] [0, 20, 21] M (r_M res) := by
  have kc : kp [200, 201, 202, 203, 300, 301, 302, 907] [0, 20, 21] M M := kp.rf hb
  unfold b49_17 at h
  cases h
  exact kc
theorem kb49_124 {a0 o3 : _} {M : hM} {res : xRes} (h : b49_124 a0 o3 M = some res) (hb : bk M) : kp [200, 201, 202, 203, 300, 301, 302, 907] [0, 20, 21] M (r_M res) := by
  have kc : kp [200, 201, 202, 203, 300, 301, 302, 907] [0, 20, 21] M M := kp.rf hb
  unfold b49_124 at h
  obtain ⟨o_63, -, h⟩ := bd h
  obtain ⟨o_65, -, h⟩ := bd h
  obtain ⟨b_69, -, h⟩ := bd h
  obtain ⟨q_67, h4, h⟩ := bd h
  have kc := kc.tr (kf39 (c_V_some h4) kc.1) rfl rfl
  cases h
  exact kc
theorem kb49_34 {a0 o1 si0 : _} {M : hM} {res : xRes} (h : b49_34 a0 o1 si0 M = some res) (hb : bk M) : kp [200, 201, 202, 203, 300, 301, 302, 907] [0, 20, 21] M (r_M res) := by
  have kc : kp [200, 201, 202, 203, 300, 301, 302, 907] [0, 20, 21] M M := kp.rf hb
  unfold b49_34 at h
  obtain ⟨o_16, -, h⟩ := bd h
  obtain ⟨v_18, -, h⟩ := bd h
  obtain ⟨v_20, -, h⟩ := bd h
  obtain ⟨o_22, -, h⟩ := bd h
  obtain ⟨v_24, -, h⟩ := bd h
  obtain ⟨v_26, -, h⟩ := bd h
  obtain ⟨b_30, -, h⟩ := bd h
  obtain ⟨q_28, h8, h⟩ := bd h
  have kc := kc.tr (kf34 (c_R_some h8) kc.1) rfl rfl
  obtain ⟨v_32, -, h⟩ := bd h
  rcases ite_some h with ⟨-, h⟩ | ⟨-, h⟩
  · obtain ⟨v_56, -, h⟩ := bd h
    obtain ⟨b_60, -, h⟩ := bd h
    obtain ⟨q_58, h12, h⟩ := bd h
    have kc := kc.tr (kf36 (c_V_some h12) kc.1) rfl rfl
    exact kc.tt (kb49_124 h kc.1) (fun _ q => q) (fun _ q => q)
  · obtain ⟨v_34, -, h⟩ := bd h
    rcases ite_some h with ⟨-, h⟩ | ⟨-, h⟩
    · obtain ⟨o_47, -, h⟩ := bd h
      obtain ⟨v_49, -, h⟩ := bd h
      obtain ⟨b_53, -, h⟩ := bd h
      obtain ⟨q_51, h17, h⟩ := bd h
      have kc := kc.tr (kf36 (c_V_some h17) kc.1) rfl rfl
      exact kc.tt (kb49_124 h kc.1) (fun _ q => q) (fun _ q => q)
    · obtain ⟨v_36, -, h⟩ := bd h
      rcases ite_some h with ⟨-, h⟩ | ⟨-, h⟩
      · obtain ⟨b_40, -, h⟩ := bd h
        obtain ⟨q_38, h20, h⟩ := bd h
        have kc := kc.tr (kf48 (c_L_some h20) kc.1) rfl rfl
        obtain ⟨b_44, -, h⟩ := bd h
        obtain ⟨q_42, h22, h⟩ := bd h
        have kc := kc.tr (kf36 (c_V_some h22) kc.1) rfl rfl
        exact kc.tt (kb49_124 h kc.1) (fun _ q => q) (fun _ q => q)
      · exact kc.tt (kb49_124 h kc.1) (fun _ q => q) (fun _ q => q)
theorem kb49_0 {a0 o1 : _} {M : hM} {res : xRes} (h : b49_0 a0 o1 M = some res) (hb : bk M) : kp [200, 201, 202, 203, 300, 301, 302, 907] [0, 20, 21] M (r_M res) := by
  have kc : kp [200, 201, 202, 203, 300, 301, 302, 907] [0, 20, 21] M M := kp.rf hb
  unfold b49_0 at h
  obtain ⟨o_1, -, h⟩ := bd h
  obtain ⟨v_3, -, h⟩ := bd h
  rcases ite_some h with ⟨-, h⟩ | ⟨-, h⟩
  · exact kc.tt (kb49_17 h kc.1) (fun _ q => q) (fun _ q => q)
  · obtain ⟨b_7, -, h⟩ := bd h
    obtain ⟨q_5, h4, h⟩ := bd h
    have kc := kc.tr (kf47 (c_I_some h4) kc.1) rfl rfl
    rcases ite_some h with ⟨-, h⟩ | ⟨-, h⟩
    · obtain ⟨v_9, -, h⟩ := bd h
      rcases ite_some h with ⟨-, h⟩ | ⟨-, h⟩
      · exact kc.tt (kb49_34 h kc.1) (fun _ q => q) (fun _ q => q)
      · obtain ⟨v_11, -, h⟩ := bd h
        exact kc.tt (kb49_34 h kc.1) (fun _ q => q) (fun _ q => q)
    · exact kc.tt (kb49_17 h kc.1) (fun _ q => q) (fun _ q => q)
theorem kf49 {as : List aV} {M M' : hM} {r : Option aV} (h : f49 as M = some (r, M')) (hb : bk M) : kp [200, 201, 202, 203, 300, 301, 302, 907] [0, 20, 21] M M' := by
  unfold f49 at h
  split at h
  · exact kx_out h (fun res hx => kb49_0 hx hb)
  · cases h
theorem kb50_0 {a0 v1 v2 : _} {M : hM} {res : xRes} (h : b50_0 a0 v1 v2 M = some res) (hb : bk M) : kp [10, 13] [] M (r_M res) := by
  have kc : kp [10, 13] [] M M := kp.rf hb
  unfold b50_0 at h
  obtain ⟨M1, h1, h⟩ := bd h
  have kc := kc.tr (k_pi h1 kc.1) rfl rfl
  obtain ⟨M3, h2, h⟩ := bd h
  have kc := kc.tr (k_pi h2 kc.1) rfl rfl
  cases h
  exact kc
theorem kf50 {as : List aV} {M M' : hM} {r : Option aV} (h : f50 as M = some (r, M')) (hb : bk M) : kp [10, 13] [] M M' := by
  unfold f50 at h
  split at h
  · exact kx_out h (fun res hx => kb50_0 hx hb)
  · cases h
theorem kb51_0 {a0 o1 v2 : _} {M : hM} {res : xRes} (h : b51_0 a0 o1 v2 M = some res) (hb : bk M) : kp [10, 12, 200, 201, 202, 203, 300, 301, 302, 907] [0, 20, 21] M (r_M res) := by
  have kc : kp [10, 12, 200, 201, 202, 203, 300, 301, 302, 907] [0, 20, 21] M M := kp.rf hb
  unfold b51_0 at h
  obtain ⟨M1, h1, h⟩ := bd h
  have kc := kc.tr (k_pi h1 kc.1) rfl rfl
  obtain ⟨o_3, -, h⟩ := bd h
  obtain ⟨v_5, -, h⟩ := bd h
  obtain ⟨M7, h4, h⟩ := bd h
  have kc := kc.tr (k_pi h4 kc.1) rfl rfl
  obtain ⟨b_11, -, h⟩ := bd h
  obtain ⟨q_9, h6, h⟩ := bd h
  have kc := kc.tr (kf49 (c_V_some h6) kc.1) rfl rfl
  cases h
  exact kc
theorem kf51 {as : List aV} {M M' : hM} {r : Option aV} (h : f51 as M = some (r, M')) (hb : bk M) : kp [10, 12, 200, 201, 202, 203, 300, 301, 302, 907] [0, 20, 21] M M' := by
  unfold f51 at h
  split at h
  · exact kx_out h (fun res hx => kb51_0 hx hb)
  · cases h
theorem kb52_131 {M : hM} {res : xRes} (h : b52_131 M = some res) (hb : bk M) : kp [10, 12, 13, 200, 201, 202, 203, 300, 301, 302, 907] [0, 20, 21] M (r_M res) := by
  have kc : kp [10, 12, 13, 200, 201, 202, 203, 300, 301, 302, 907] [0, 20, 21] M M := kp.rf hb
  unfold b52_131 at h
  cases h
  exact kc
theorem kb52_115 {a0 o1 v3 : _} {M : hM} {res : xRes} (h : b52_115 a0 o1 v3 M = some res) (hb : bk M) : kp [10, 12, 13, 200, 201, 202, 203, 300, 301, 302, 907] [0, 20, 21] M (r_M res) := by
  have kc : kp [10, 12, 13, 200, 201, 202, 203, 300, 301, 302, 907] [0, 20, 21] M M := kp.rf hb
  unfold b52_115 at h
  rcases ite_some h with ⟨-, h⟩ | ⟨-, h⟩
  · exact kc.tt (kb52_131 h kc.1) (fun _ q => q) (fun _ q => q)
  · obtain ⟨v_46, -, h⟩ := bd h
    rcases ite_some h with ⟨-, h⟩ | ⟨-, h⟩
    · obtain ⟨b_50, -, h⟩ := bd h
      obtain ⟨q_48, h3, h⟩ := bd h
      have kc := kc.tr (kf49 (c_V_some h3) kc.1) rfl rfl
      exact kc.tt (kb52_131 h kc.1) (fun _ q => q) (fun _ q => q)
    · exact kc.tt (kb52_131 h kc.1) (fun _ q => q) (fun _ q => q)
theorem kb52_64 {a0 o1 v2 v3 : _} {M : hM} {res : xRes} (h : b52_64 a0 o1 v2 v3 M = some res) (hb : bk M) : kp [10, 12, 13, 200, 201, 202, 203, 300, 301, 302, 907] [0, 20, 21] M (r_M res) := by
  have kc : kp [10, 12, 13, 200, 201, 202, 203, 300, 301, 302, 907] [0, 20, 21] M M := kp.rf hb
  unfold b52_64 at h
  obtain ⟨v_26, -, h⟩ := bd h
  rcases ite_some h with ⟨-, h⟩ | ⟨-, h⟩
  · rcases ite_some h with ⟨-, h⟩ | ⟨-, h⟩
    · exact kc.tt (kb52_131 h kc.1) (fun _ q => q) (fun _ q => q)
    · obtain ⟨b_42, -, h⟩ := bd h
      obtain ⟨q_40, h3, h⟩ := bd h
      have kc := kc.tr (kf51 (c_V_some h3) kc.1) rfl rfl
      exact kc.tt (kb52_131 h kc.1) (fun _ q => q) (fun _ q => q)
  · obtain ⟨v_28, -, h⟩ := bd h
    rcases ite_some h with ⟨-, h⟩ | ⟨-, h⟩
    · rcases ite_some h with ⟨-, h⟩ | ⟨-, h⟩
      · exact kc.tt (kb52_115 h kc.1) (fun _ q => q) (fun _ q => q)
      · obtain ⟨o_30, -, h⟩ := bd h
        obtain ⟨v_32, -, h⟩ := bd h
        obtain ⟨b_36, -, h⟩ := bd h
        obtain ⟨q_34, h8, h⟩ := bd h
        have kc := kc.tr (kf50 (c_V_some h8) kc.1) rfl rfl
        exact kc.tt (kb52_131 h kc.1) (fun _ q => q) (fun _ q => q)
    · exact kc.tt (kb52_115 h kc.1) (fun _ q => q) (fun _ q => q)
theorem kb52_22 {a0 o1 si0 : _} {M : hM} {res : xRes} (h : b52_22 a0 o1 si0 M = some res) (hb : bk M) : kp [10, 12, 13, 200, 201, 202, 203, 300, 301, 302, 907] [0, 20, 21] M (r_M res) := by
  have kc : kp [10, 12, 13, 200, 201, 202, 203, 300, 301, 302, 907] [0, 20, 21] M M := kp.rf hb
  unfold b52_22 at h
  obtain ⟨o_8, -, h⟩ := bd h
  obtain ⟨v_10, -, h⟩ := bd h
  obtain ⟨v_12, -, h⟩ := bd h
  obtain ⟨v_14, -, h⟩ := bd h
  rcases ite_some h with ⟨-, h⟩ | ⟨-, h⟩
  · exact kc.tt (kb52_64 h kc.1) (fun _ q => q) (fun _ q => q)
  · rcases ite_some h with ⟨-, h⟩ | ⟨-, h⟩
    · exact kc.tt (kb52_64 h kc.1) (fun _ q => q) (fun _ q => q)
    · obtain ⟨o_16, -, h⟩ := bd h
      obtain ⟨v_18, -, h⟩ := bd h
      obtain ⟨b_22, -, h⟩ := bd h
      obtain ⟨q_20, h8, h⟩ := bd h
      have kc := kc.tr (kf50 (c_V_some h8) kc.1) rfl rfl
      exact kc.tt (kb52_131 h kc.1) (fun _ q => q) (fun _ q => q)
theorem kb52_0 {a0 o1 : _} {M : hM} {res : xRes} (h : b52_0 a0 o1 M = some res) (hb : bk M) : kp [10, 12, 13, 200, 201, 202, 203, 300, 301, 302, 907] [0, 20, 21] M (r_M res) := by
  have kc : kp [10, 12, 13, 200, 201, 202, 203, 300, 301, 302, 907] [0, 20, 21] M M := kp.rf hb
  unfold b52_0 at h
  obtain ⟨o_1, -, h⟩ := bd h
  obtain ⟨v_3, -, h⟩ := bd h
  obtain ⟨v_5, -, h⟩ := bd h
  rcases ite_some h with ⟨-, h⟩ | ⟨-, h⟩
  · exact kc.tt (kb52_22 h kc.1) (fun _ q => q) (fun _ q => q)
  · exact kc.tt (kb52_22 h kc.1) (fun _ q => q) (fun _ q => q)
theorem kf52 {as : List aV} {M M' : hM} {r : Option aV} (h : f52 as M = some (r, M')) (hb : bk M) : kp [10, 12, 13, 200, 201, 202, 203, 300, 301, 302, 907] [0, 20, 21] M M' := by
  unfold f52 at h
  split at h
  · exact kx_out h (fun res hx => kb52_0 hx hb)
  · cases h
theorem kb53_0 {a0 : _} {M : hM} {res : xRes} (h : b53_0 a0 M = some res) (hb : bk M) : kp [10, 12, 13, 200, 201, 202, 203, 300, 301, 302, 907] [0, 20, 21] M (r_M res) := by
  have kc : kp [10, 12, 13, 200, 201, 202, 203, 300, 301, 302, 907] [0, 20, 21] M M := kp.rf hb
  unfold b53_0 at h
  cases h
  exact kc
theorem kb53_29 {a0 v1 : _} {M : hM} {res : xRes} (h : b53_29 a0 v1 M = some res) (hb : bk M) : kp [10, 12, 13, 200, 201, 202, 203, 300, 301, 302, 907] [0, 20, 21] M (r_M res) := by
  have kc : kp [10, 12, 13, 200, 201, 202, 203, 300, 301, 302, 907] [0, 20, 21] M M := kp.rf hb
  unfold b53_29 at h
  cases h
  exact kc
theorem kb53_2 {a0 v1 : _} {M : hM} {res : xRes} (h : b53_2 a0 v1 M = some res) (hb : bk M) : kp [10, 12, 13, 200, 201, 202, 203, 300, 301, 302, 907] [0, 20, 21] M (r_M res) := by
  have kc : kp [10, 12, 13, 200, 201, 202, 203, 300, 301, 302, 907] [0, 20, 21] M M := kp.rf hb
  unfold b53_2 at h
  obtain ⟨v_1, -, h⟩ := bd h
  rcases ite_some h with ⟨-, h⟩ | ⟨-, h⟩
  · cases h
    exact kc
  · obtain ⟨o_3, -, h⟩ := bd h
    obtain ⟨o_5, -, h⟩ := bd h
    obtain ⟨b_9, -, h⟩ := bd h
    obtain ⟨q_7, h5, h⟩ := bd h
    have kc := kc.tr (kf47 (c_I_some h5) kc.1) rfl rfl
    rcases ite_some h with ⟨-, h⟩ | ⟨-, h⟩
    · obtain ⟨b_13, -, h⟩ := bd h
      obtain ⟨q_11, h7, h⟩ := bd h
      have kc := kc.tr (kf52 (c_V_some h7) kc.1) rfl rfl
      exact kc.tt (kb53_29 h kc.1) (fun _ q => q) (fun _ q => q)
    · exact kc.tt (kb53_29 h kc.1) (fun _ q => q) (fun _ q => q)
theorem kf53 {as : List aV} {M M' : hM} {r : Option aV} (h : f53 as M = some (r, M')) (hb : bk M) : kp [10, 12, 13, 200, 201, 202, 203, 300, 301, 302, 907] [0, 20, 21] M M' := by
  unfold f53 at h
  split at h
  · refine kx_go (blk := k53) ?_ h (fun res hx => kb53_0 hx hb)
    intro h as M res hk hb
    unfold k53 at hk
    split at hk
    · split at hk
      · exact kb53_2 hk hb
      · cases hk
    · skip
      cases hk
  · cases h
theorem kb54_35 {a0 : _} {M : hM} {res : xRes} (h : b54_35 a0 M = some res) (hb : bk M) : kp [203, 300, 301, 302, 807, 813] [] M (r_M res) := by
  have kc : kp [203, 300, 301, 302, 807, 813] [] M M := kp.rf hb
  unfold b54_35 at h
  obtain ⟨o_17, -, h⟩ := bd h
  obtain ⟨b_21, -, h⟩ := bd h
  obtain ⟨q_19, h3, h⟩ := bd h
  have kc := kc.tr (kf18 (c_R_some h3) kc.1) rfl rfl
  cases h
  exact kc
theorem kb54_0 {a0 : _} {M : hM} {res : xRes} (h : b54_0 a0 M = some res) (hb : bk M) : kp [203, 300, 301, 302, 807, 813] [] M (r_M res) := by
  have kc : kp [203, 300, 301, 302, 807, 813] [] M M := kp.rf hb
  unfold b54_0 at h
  obtain ⟨M1, h1, h⟩ := bd h
  have kc := kc.tr (k_pi h1 kc.1) rfl rfl
  obtain ⟨o_3, -, h⟩ := bd h
  rcases ite_some h with ⟨-, h⟩ | ⟨-, h⟩
  · exact kc.tt (kb54_35 h kc.1) (fun _ q => q) (fun _ q => q)
  · obtain ⟨o_5, -, h⟩ := bd h
    obtain ⟨v_7, -, h⟩ := bd h
    rcases ite_some h with ⟨-, h⟩ | ⟨-, h⟩
    · exact kc.tt (kb54_35 h kc.1) (fun _ q => q) (fun _ q => q)
    · obtain ⟨o_9, -, h⟩ := bd h
      obtain ⟨v_11, -, h⟩ := bd h
      obtain ⟨M13, h7, h⟩ := bd h
      have kc := kc.tr (k_pi h7 kc.1) rfl rfl
      exact kc.tt (kb54_35 h kc.1) (fun _ q => q) (fun _ q => q)
theorem kf54 {as : List aV} {M M' : hM} {r : Option aV} (h : f54 as M = some (r, M')) (hb : bk M) : kp [203, 300, 301, 302, 807, 813] [] M M' := by
  unfold f54 at h
  split at h
  · exact kx_out h (fun res hx => kb54_0 hx hb)
  · cases h
theorem kb55_27 {si0 : _} {M : hM} {res : xRes} (h : b55_27 si0 M = some res) (hb : bk M) : kp [] [] M (r_M res) := by
  have kc : kp [] [] M M := kp.rf hb
  unfold b55_27 at h
  cases h
  exact kc
theorem kb55_26 {M : hM} {res : xRes} (h : b55_26 M = some res) (hb : bk M) : kp [] [] M (r_M res) := by
  have kc : kp [] [] M M := kp.rf hb
  unfold b55_26 at h
  exact kc.tt (kb55_27 h kc.1) (fun _ q => q) (fun _ q => q)
theorem kb55_0 {a0 v1 : _} {M : hM} {res : xRes} (h : b55_0 a0 v1 M = some res) (hb : bk M) : kp [] [] M (r_M res) := by
  have kc : kp [] [] M M := kp.rf hb
  unfold b55_0 at h
  rcases ite_some h with ⟨-, h⟩ | ⟨-, h⟩
  · exact kc.tt (kb55_26 h kc.1) (fun _ q => q) (fun _ q => q)
  · obtain ⟨o_1, -, h⟩ := bd h
    obtain ⟨v_3, -, h⟩ := bd h
    rcases ite_some h with ⟨-, h⟩ | ⟨-, h⟩
    · exact kc.tt (kb55_26 h kc.1) (fun _ q => q) (fun _ q => q)
    · obtain ⟨o_5, -, h⟩ := bd h
      obtain ⟨v_7, -, h⟩ := bd h
      exact kc.tt (kb55_27 h kc.1) (fun _ q => q) (fun _ q => q)
theorem kf55 {as : List aV} {M M' : hM} {r : Option aV} (h : f55 as M = some (r, M')) (hb : bk M) : kp [] [] M M' := by
  unfold f55 at h
  split at h
  · exact kx_out h (fun res hx => kb55_0 hx hb)
  · cases h
theorem kb56_0 {a0 v1 v2 : _} {M : hM} {res : xRes} (h : b56_0 a0 v1 v2 M = some res) (hb : bk M) : kp [] [] M (r_M res) := by
  have kc : kp [] [] M M := kp.rf hb
  unfold b56_0 at h
  cases h
  exact kc
theorem kb56_5 {a0 v1 v2 w3 v5 : _} {M : hM} {res : xRes} (h : b56_5 a0 v1 v2 w3 v5 M = some res) (hb : bk M) : kp [] [] M (r_M res) := by
  have kc : kp [] [] M M := kp.rf hb
  unfold b56_5 at h
  rcases ite_some h with ⟨-, h⟩ | ⟨-, h⟩
  · cases h
    exact kc
  · obtain ⟨b_3, -, h⟩ := bd h
    obtain ⟨q_1, h2, h⟩ := bd h
    have kc := kc.tr (kf55 (c_I_some h2) kc.1) rfl rfl
    cases h
    exact kc
theorem kf56 {as : List aV} {M M' : hM} {r : Option aV} (h : f56 as M = some (r, M')) (hb : bk M) : kp [] [] M M' := by
  unfold f56 at h
  split at h
  · refine kx_go (blk := k56) ?_ h (fun res hx => kb56_0 hx hb)
    intro h as M res hk hb
    unfold k56 at hk
    split at hk
    · split at hk
      · exact kb56_5 hk hb
      · cases hk
    · skip
      cases hk
  · cases h
theorem kb57_0 {a0 : _} {M : hM} {res : xRes} (h : b57_0 a0 M = some res) (hb : bk M) : kp [] [] M (r_M res) := by
  have kc : kp [] [] M M := kp.rf hb
  unfold b57_0 at h
  obtain ⟨b_3, -, h⟩ := bd h
  obtain ⟨q_1, h2, h⟩ := bd h
  have kc := kc.tr (kf55 (c_I_some h2) kc.1) rfl rfl
  cases h
  exact kc
theorem kf57 {as : List aV} {M M' : hM} {r : Option aV} (h : f57 as M = some (r, M')) (hb : bk M) : kp [] [] M M' := by
  unfold f57 at h
  split at h
  · exact kx_out h (fun res hx => kb57_0 hx hb)
  · cases h
theorem kb58_0 {a0 v1 : _} {M : hM} {res : xRes} (h : b58_0 a0 v1 M = some res) (hb : bk M) : kp [] [] M (r_M res) := by
  have kc : kp [] [] M M := kp.rf hb
  unfold b58_0 at h
  obtain ⟨b_3, -, h⟩ := bd h
  obtain ⟨q_1, h2, h⟩ := bd h
  have kc := kc.tr (kf55 (c_I_some h2) kc.1) rfl rfl
  cases h
  exact kc
theorem kf58 {as : List aV} {M M' : hM} {r : Option aV} (h : f58 as M = some (r, M')) (hb : bk M) : kp [] [] M M' := by
  unfold f58 at h
  split at h
  · exact kx_out h (fun res hx => kb58_0 hx hb)
  · cases h
theorem kb59_90 {si0 : _} {M : hM} {res : xRes} (h : b59_90 si0 M = some res) (hb : bk M) : kp [] [] M (r_M res) := by
  have kc : kp [] [] M M := kp.rf hb
  unfold b59_90 at h
  rcases ite_some h with ⟨-, h⟩ | ⟨-, h⟩
  · cases h
    exact kc
  · cases h
theorem kb59_89 {M : hM} {res : xRes} (h : b59_89 M = some res) (hb : bk M) : kp [] [] M (r_M res) := by
  have kc : kp [] [] M M := kp.rf hb
  unfold b59_89 at h
  exact kc.tt (kb59_90 h kc.1) (fun _ q => q) (fun _ q => q)
theorem kb59_113 {si0 : _} {M : hM} {res : xRes} (h : b59_113 si0 M = some res) (hb : bk M) : kp [] [] M (r_M res) := by
  have kc : kp [] [] M M := kp.rf hb
  unfold b59_113 at h
  rcases ite_some h with ⟨-, h⟩ | ⟨-, h⟩
  · cases h
    exact kc
  · cases h
theorem kb59_112 {M : hM} {res : xRes} (h : b59_112 M = some res) (hb : bk M) : kp [] [] M (r_M res) := by
  have kc : kp [] [] M M := kp.rf hb
  unfold b59_112 at h
  exact kc.tt (kb59_113 h kc.1) (fun _ q => q) (fun _ q => q)
theorem kb59_163 {si0 : _} {M : hM} {res : xRes} (h : b59_163 si0 M = some res) (hb : bk M) : kp [] [] M (r_M res) := by
  have kc : kp [] [] M M := kp.rf hb
  unfold b59_163 at h
  rcases ite_some h with ⟨-, h⟩ | ⟨-, h⟩
  · cases h
    exact kc
  · cases h
theorem kb59_158 {M : hM} {res : xRes} (h : b59_158 M = some res) (hb : bk M) : kp [] [] M (r_M res) := by
  have kc : kp [] [] M M := kp.rf hb
  unfold b59_158 at h
  exact kc.tt (kb59_163 h kc.1) (fun _ q => q) (fun _ q => q)
theorem kb59_162 {M : hM} {res : xRes} (h : b59_162 M = some res) (hb : bk M) : kp [] [] M (r_M res) := by
  have kc : kp [] [] M M := kp.rf hb
  unfold b59_162 at h
  exact kc.tt (kb59_163 h kc.1) (fun _ q => q) (fun _ q => q)
theorem kb59_183 {si0 : _} {M : hM} {res : xRes} (h : b59_183 si0 M = some res) (hb : bk M) : kp [] [] M (r_M res) := by
  have kc : kp [] [] M M := kp.rf hb
  unfold b59_183 at h
  rcases ite_some h with ⟨-, h⟩ | ⟨-, h⟩
  · cases h
    exact kc
  · cases h
theorem kb59_182 {M : hM} {res : xRes} (h : b59_182 M = some res) (hb : bk M) : kp [] [] M (r_M res) := by
  have kc : kp [] [] M M := kp.rf hb
  unfold b59_182 at h
  exact kc.tt (kb59_183 h kc.1) (fun _ q => q) (fun _ q => q)
theorem kb59_194 {si0 : _} {M : hM} {res : xRes} (h : b59_194 si0 M = some res) (hb : bk M) : kp [] [] M (r_M res) := by
  have kc : kp [] [] M M := kp.rf hb
  unfold b59_194 at h
  rcases ite_some h with ⟨-, h⟩ | ⟨-, h⟩
  · cases h
    exact kc
  · cases h
theorem kb59_206 {si0 : _} {M : hM} {res : xRes} (h : b59_206 si0 M = some res) (hb : bk M) : kp [] [] M (r_M res) := by
  have kc : kp [] [] M M := kp.rf hb
  unfold b59_206 at h
  rcases ite_some h with ⟨-, h⟩ | ⟨-, h⟩
  · cases h
    exact kc
  · cases h
theorem kb59_226 {si0 : _} {M : hM} {res : xRes} (h : b59_226 si0 M = some res) (hb : bk M) : kp [] [] M (r_M res) := by
  have kc : kp [] [] M M := kp.rf hb
  unfold b59_226 at h
  rcases ite_some h with ⟨-, h⟩ | ⟨-, h⟩
  · cases h
    exact kc
  · cases h
theorem kb59_225 {M : hM} {res : xRes} (h : b59_225 M = some res) (hb : bk M) : kp [] [] M (r_M res) := by
  have kc : kp [] [] M M := kp.rf hb
  unfold b59_225 at h
  exact kc.tt (kb59_226 h kc.1) (fun _ q => q) (fun _ q => q)
theorem kb59_0 {a0 v1 o2 : _} {M : hM} {res : xRes} (h : b59_0 a0 v1 o2 M = some res) (hb : bk M) : kp [] [] M (r_M res) := by
  have kc : kp [] [] M M := kp.rf hb
  unfold b59_0 at h
  obtain ⟨b_3, -, h⟩ := bd h
  obtain ⟨q_1, h2, h⟩ := bd h
  have kc := kc.tr (kf57 (c_I_some h2) kc.1) rfl rfl
  rcases ite_some h with ⟨-, h⟩ | ⟨-, h⟩
  · rcases ite_some h with ⟨-, h⟩ | ⟨-, h⟩
    · obtain ⟨b_8, -, h⟩ := bd h
      obtain ⟨q_6, h4, h⟩ := bd h
      have kc := kc.tr (kf58 (c_I_some h4) kc.1) rfl rfl
      obtain ⟨v_10, -, h⟩ := bd h
      rcases ite_some h with ⟨-, h⟩ | ⟨-, h⟩
      · exact kc.tt (kb59_89 h kc.1) (fun _ q => q) (fun _ q => q)
      · exact kc.tt (kb59_90 h kc.1) (fun _ q => q) (fun _ q => q)
    · exact kc.tt (kb59_89 h kc.1) (fun _ q => q) (fun _ q => q)
  · rcases ite_some h with ⟨-, h⟩ | ⟨-, h⟩
    · cases h
      exact kc
    · rcases ite_some h with ⟨-, h⟩ | ⟨-, h⟩
      · rcases ite_some h with ⟨-, h⟩ | ⟨-, h⟩
        · obtain ⟨b_18, -, h⟩ := bd h
          obtain ⟨q_16, h7, h⟩ := bd h
          have kc := kc.tr (kf58 (c_I_some h7) kc.1) rfl rfl
          obtain ⟨b_22, -, h⟩ := bd h
          obtain ⟨q_20, h9, h⟩ := bd h
          have kc := kc.tr (kf8 (c_I_some h9) kc.1) rfl rfl
          rcases ite_some h with ⟨-, h⟩ | ⟨-, h⟩
          · exact kc.tt (kb59_112 h kc.1) (fun _ q => q) (fun _ q => q)
          · exact kc.tt (kb59_113 h kc.1) (fun _ q => q) (fun _ q => q)
        · exact kc.tt (kb59_112 h kc.1) (fun _ q => q) (fun _ q => q)
      · rcases ite_some h with ⟨-, h⟩ | ⟨-, h⟩
        · cases h
          exact kc
        · rcases ite_some h with ⟨-, h⟩ | ⟨-, h⟩
          · rcases ite_some h with ⟨-, h⟩ | ⟨-, h⟩
            · obtain ⟨b_30, -, h⟩ := bd h
              obtain ⟨q_28, h11, h⟩ := bd h
              have kc := kc.tr (kf58 (c_I_some h11) kc.1) rfl rfl
              obtain ⟨b_34, -, h⟩ := bd h
              obtain ⟨q_32, h13, h⟩ := bd h
              have kc := kc.tr (kf8 (c_I_some h13) kc.1) rfl rfl
              rcases ite_some h with ⟨-, h⟩ | ⟨-, h⟩
              · exact kc.tt (kb59_112 h kc.1) (fun _ q => q) (fun _ q => q)
              · exact kc.tt (kb59_113 h kc.1) (fun _ q => q) (fun _ q => q)
            · exact kc.tt (kb59_112 h kc.1) (fun _ q => q) (fun _ q => q)
          · rcases ite_some h with ⟨-, h⟩ | ⟨-, h⟩
            · rcases ite_some h with ⟨-, h⟩ | ⟨-, h⟩
              · obtain ⟨b_41, -, h⟩ := bd h
                obtain ⟨q_39, h15, h⟩ := bd h
                have kc := kc.tr (kf58 (c_I_some h15) kc.1) rfl rfl
                obtain ⟨b_45, -, h⟩ := bd h
                obtain ⟨q_43, h17, h⟩ := bd h
                have kc := kc.tr (kf8 (c_I_some h17) kc.1) rfl rfl
                rcases ite_some h with ⟨-, h⟩ | ⟨-, h⟩
                · exact kc.tt (kb59_162 h kc.1) (fun _ q => q) (fun _ q => q)
                · obtain ⟨b_49, -, h⟩ := bd h
                  obtain ⟨q_47, h19, h⟩ := bd h
                  have kc := kc.tr (kf56 (c_L_some h19) kc.1) rfl rfl
                  rcases ite_some h with ⟨-, h⟩ | ⟨-, h⟩
                  · exact kc.tt (kb59_158 h kc.1) (fun _ q => q) (fun _ q => q)
                  · obtain ⟨b_53, -, h⟩ := bd h
                    obtain ⟨q_51, h21, h⟩ := bd h
                    have kc := kc.tr (kf58 (c_I_some h21) kc.1) rfl rfl
                    obtain ⟨b_57, -, h⟩ := bd h
                    obtain ⟨q_55, h23, h⟩ := bd h
                    have kc := kc.tr (kf58 (c_I_some h23) kc.1) rfl rfl
                    rcases ite_some h with ⟨-, h⟩ | ⟨-, h⟩
                    · exact kc.tt (kb59_158 h kc.1) (fun _ q => q) (fun _ q => q)
                    · exact kc.tt (kb59_162 h kc.1) (fun _ q => q) (fun _ q => q)
              · exact kc.tt (kb59_162 h kc.1) (fun _ q => q) (fun _ q => q)
            · rcases ite_some h with ⟨-, h⟩ | ⟨-, h⟩
              · rcases ite_some h with ⟨-, h⟩ | ⟨-, h⟩
                · obtain ⟨b_66, -, h⟩ := bd h
                  obtain ⟨q_64, h25, h⟩ := bd h
                  have kc := kc.tr (kf58 (c_I_some h25) kc.1) rfl rfl
                  obtain ⟨b_70, -, h⟩ := bd h
                  obtain ⟨q_68, h27, h⟩ := bd h
                  have kc := kc.tr (kf8 (c_I_some h27) kc.1) rfl rfl
                  rcases ite_some h with ⟨-, h⟩ | ⟨-, h⟩
                  · exact kc.tt (kb59_112 h kc.1) (fun _ q => q) (fun _ q => q)
                  · exact kc.tt (kb59_113 h kc.1) (fun _ q => q) (fun _ q => q)
                · exact kc.tt (kb59_112 h kc.1) (fun _ q => q) (fun _ q => q)
              · rcases ite_some h with ⟨-, h⟩ | ⟨-, h⟩
                · cases h
                  exact kc
                · rcases ite_some h with ⟨-, h⟩ | ⟨-, h⟩
                  · rcases ite_some h with ⟨-, h⟩ | ⟨-, h⟩
                    · obtain ⟨b_78, -, h⟩ := bd h
                      obtain ⟨q_76, h29, h⟩ := bd h
                      have kc := kc.tr (kf58 (c_I_some h29) kc.1) rfl rfl
                      rcases ite_some h with ⟨-, h⟩ | ⟨-, h⟩
                      · exact kc.tt (kb59_182 h kc.1) (fun _ q => q) (fun _ q => q)
                      · exact kc.tt (kb59_183 h kc.1) (fun _ q => q) (fun _ q => q)
                    · exact kc.tt (kb59_182 h kc.1) (fun _ q => q) (fun _ q => q)
                  · rcases ite_some h with ⟨-, h⟩ | ⟨-, h⟩
                    · rcases ite_some h with ⟨-, h⟩ | ⟨-, h⟩
                      · exact kc.tt (kb59_194 h kc.1) (fun _ q => q) (fun _ q => q)
                      · exact kc.tt (kb59_194 h kc.1) (fun _ q => q) (fun _ q => q)
                    · rcases ite_some h with ⟨-, h⟩ | ⟨-, h⟩
                      · rcases ite_some h with ⟨-, h⟩ | ⟨-, h⟩
                        · exact kc.tt (kb59_206 h kc.1) (fun _ q => q) (fun _ q => q)
                        · exact kc.tt (kb59_206 h kc.1) (fun _ q => q) (fun _ q => q)
                      · rcases ite_some h with ⟨-, h⟩ | ⟨-, h⟩
                        · rcases ite_some h with ⟨-, h⟩ | ⟨-, h⟩
                          · obtain ⟨b_89, -, h⟩ := bd h
                            obtain ⟨q_87, h31, h⟩ := bd h
                            have kc := kc.tr (kf58 (c_I_some h31) kc.1) rfl rfl
                            rcases ite_some h with ⟨-, h⟩ | ⟨-, h⟩
                            · exact kc.tt (kb59_225 h kc.1) (fun _ q => q) (fun _ q => q)
                            · exact kc.tt (kb59_226 h kc.1) (fun _ q => q) (fun _ q => q)
                          · exact kc.tt (kb59_225 h kc.1) (fun _ q => q) (fun _ q => q)
                        · cases h
                          exact kc
theorem kf59 {as : List aV} {M M' : hM} {r : Option aV} (h : f59 as M = some (r, M')) (hb : bk M) : kp [] [] M M' := by
  unfold f59 at h
  split at h
  · exact kx_out h (fun res hx => kb59_0 hx hb)
  · cases h
theorem kb60_0 {a0 v1 o2 : _} {M : hM} {res : xRes} (h : b60_0 a0 v1 o2 M = some res) (hb : bk M) : kp [] [] M (r_M res) := by
  have kc : kp [] [] M M := kp.rf hb
  unfold b60_0 at h
  cases h
  exact kc
theorem kb60_81 {M : hM} {res : xRes} (h : b60_81 M = some res) (hb : bk M) : kp [] [] M (r_M res) := by
  have kc : kp [] [] M M := kp.rf hb
  unfold b60_81 at h
  cases h
  exact kc
theorem kb60_5 {a0 v1 o2 v3 v4 : _} {M : hM} {res : xRes} (h : b60_5 a0 v1 o2 v3 v4 M = some res) (hb : bk M) : kp [] [] M (r_M res) := by
  have kc : kp [] [] M M := kp.rf hb
  unfold b60_5 at h
  rcases ite_some h with ⟨-, h⟩ | ⟨-, h⟩
  · cases h
    exact kc
  · obtain ⟨b_3, -, h⟩ := bd h
    obtain ⟨q_1, h2, h⟩ := bd h
    have kc := kc.tr (kf58 (c_I_some h2) kc.1) rfl rfl
    obtain ⟨b_7, -, h⟩ := bd h
    obtain ⟨q_5, h4, h⟩ := bd h
    have kc := kc.tr (kf58 (c_I_some h4) kc.1) rfl rfl
    rcases ite_some h with ⟨-, h⟩ | ⟨-, h⟩
    · exact kc.tt (kb60_81 h kc.1) (fun _ q => q) (fun _ q => q)
    · rcases ite_some h with ⟨-, h⟩ | ⟨-, h⟩
      · exact kc.tt (kb60_81 h kc.1) (fun _ q => q) (fun _ q => q)
      · obtain ⟨b_11, -, h⟩ := bd h
        obtain ⟨q_9, h6, h⟩ := bd h
        have kc := kc.tr (kf58 (c_I_some h6) kc.1) rfl rfl
        obtain ⟨v_13, -, h⟩ := bd h
        rcases ite_some h with ⟨-, h⟩ | ⟨-, h⟩
        · exact kc.tt (kb60_81 h kc.1) (fun _ q => q) (fun _ q => q)
        · rcases ite_some h with ⟨-, h⟩ | ⟨-, h⟩
          · exact kc.tt (kb60_81 h kc.1) (fun _ q => q) (fun _ q => q)
          · rcases ite_some h with ⟨-, h⟩ | ⟨-, h⟩
            · cases h
              exact kc
            · exact kc.tt (kb60_81 h kc.1) (fun _ q => q) (fun _ q => q)
theorem kf60 {as : List aV} {M M' : hM} {r : Option aV} (h : f60 as M = some (r, M')) (hb : bk M) : kp [] [] M M' := by
  unfold f60 at h
  split at h
  · refine kx_go (blk := k60) ?_ h (fun res hx => kb60_0 hx hb)
    intro h as M res hk hb
    unfold k60 at hk
    split at hk
    · split at hk
      · exact kb60_5 hk hb
      · cases hk
    · skip
      cases hk
  · cases h
theorem kb61_0 {a0 v1 o2 : _} {M : hM} {res : xRes} (h : b61_0 a0 v1 o2 M = some res) (hb : bk M) : kp [] [] M (r_M res) := by
  have kc : kp [] [] M M := kp.rf hb
  unfold b61_0 at h
  cases h
  exact kc
theorem kb61_79 {M : hM} {res : xRes} (h : b61_79 M = some res) (hb : bk M) : kp [] [] M (r_M res) := by
  have kc : kp [] [] M M := kp.rf hb
  unfold b61_79 at h
  cases h
  exact kc
theorem kb61_8 {a0 v1 o2 v3 v4 v5 : _} {M : hM} {res : xRes} (h : b61_8 a0 v1 o2 v3 v4 v5 M = some res) (hb : bk M) : kp [] [] M (r_M res) := by
  have kc : kp [] [] M M := kp.rf hb
  unfold b61_8 at h
  obtain ⟨b_3, -, h⟩ := bd h
  obtain ⟨q_1, h2, h⟩ := bd h
  have kc := kc.tr (kf58 (c_I_some h2) kc.1) rfl rfl
  rcases ite_some h with ⟨-, h⟩ | ⟨-, h⟩
  · cases h
    exact kc
  · obtain ⟨b_7, -, h⟩ := bd h
    obtain ⟨q_5, h4, h⟩ := bd h
    have kc := kc.tr (kf58 (c_I_some h4) kc.1) rfl rfl
    obtain ⟨b_11, -, h⟩ := bd h
    obtain ⟨q_9, h6, h⟩ := bd h
    have kc := kc.tr (kf58 (c_I_some h6) kc.1) rfl rfl
    rcases ite_some h with ⟨-, h⟩ | ⟨-, h⟩
    · exact kc.tt (kb61_79 h kc.1) (fun _ q => q) (fun _ q => q)
    · rcases ite_some h with ⟨-, h⟩ | ⟨-, h⟩
      · exact kc.tt (kb61_79 h kc.1) (fun _ q => q) (fun _ q => q)
      · obtain ⟨b_15, -, h⟩ := bd h
        obtain ⟨q_13, h8, h⟩ := bd h
        have kc := kc.tr (kf8 (c_I_some h8) kc.1) rfl rfl
        rcases ite_some h with ⟨-, h⟩ | ⟨-, h⟩
        · exact kc.tt (kb61_79 h kc.1) (fun _ q => q) (fun _ q => q)
        · rcases ite_some h with ⟨-, h⟩ | ⟨-, h⟩
          · exact kc.tt (kb61_79 h kc.1) (fun _ q => q) (fun _ q => q)
          · cases h
            exact kc
theorem kf61 {as : List aV} {M M' : hM} {r : Option aV} (h : f61 as M = some (r, M')) (hb : bk M) : kp [] [] M M' := by
  unfold f61 at h
  split at h
  · refine kx_go (blk := k61) ?_ h (fun res hx => kb61_0 hx hb)
    intro h as M res hk hb
    unfold k61 at hk
    split at hk
    · split at hk
      · exact kb61_8 hk hb
      · cases hk
    · skip
      cases hk
  · cases h
theorem kb62_37 {M : hM} {res : xRes} (h : b62_37 M = some res) (hb : bk M) : kp [] [] M (r_M res) := by
  have kc : kp [] [] M M := kp.rf hb
  unfold b62_37 at h
  cases h
  exact kc
theorem kb62_94 {si0 : _} {M : hM} {res : xRes} (h : b62_94 si0 M = some res) (hb : bk M) : kp [] [] M (r_M res) := by
  have kc : kp [] [] M M := kp.rf hb
  unfold b62_94 at h
  rcases ite_some h with ⟨-, h⟩ | ⟨-, h⟩
  · cases h
    exact kc
  · cases h
theorem kb62_93 {M : hM} {res : xRes} (h : b62_93 M = some res) (hb : bk M) : kp [] [] M (r_M res) := by
  have kc : kp [] [] M M := kp.rf hb
  unfold b62_93 at h
  exact kc.tt (kb62_94 h kc.1) (fun _ q => q) (fun _ q => q)
theorem kb62_0 {a0 v1 o2 : _} {M : hM} {res : xRes} (h : b62_0 a0 v1 o2 M = some res) (hb : bk M) : kp [] [] M (r_M res) := by
  have kc : kp [] [] M M := kp.rf hb
  unfold b62_0 at h
  obtain ⟨b_3, -, h⟩ := bd h
  obtain ⟨q_1, h2, h⟩ := bd h
  have kc := kc.tr (kf58 (c_I_some h2) kc.1) rfl rfl
  rcases ite_some h with ⟨-, h⟩ | ⟨-, h⟩
  · exact kc.tt (kb62_37 h kc.1) (fun _ q => q) (fun _ q => q)
  · obtain ⟨b_7, -, h⟩ := bd h
    obtain ⟨q_5, h4, h⟩ := bd h
    have kc := kc.tr (kf58 (c_I_some h4) kc.1) rfl rfl
    rcases ite_some h with ⟨-, h⟩ | ⟨-, h⟩
    · obtain ⟨b_11, -, h⟩ := bd h
      obtain ⟨q_9, h6, h⟩ := bd h
      have kc := kc.tr (kf58 (c_I_some h6) kc.1) rfl rfl
      obtain ⟨v_13, -, h⟩ := bd h
      rcases ite_some h with ⟨-, h⟩ | ⟨-, h⟩
      · exact kc.tt (kb62_93 h kc.1) (fun _ q => q) (fun _ q => q)
      · obtain ⟨b_17, -, h⟩ := bd h
        obtain ⟨q_15, h9, h⟩ := bd h
        have kc := kc.tr (kf58 (c_I_some h9) kc.1) rfl rfl
        rcases ite_some h with ⟨-, h⟩ | ⟨-, h⟩
        · exact kc.tt (kb62_93 h kc.1) (fun _ q => q) (fun _ q => q)
        · obtain ⟨b_21, -, h⟩ := bd h
          obtain ⟨q_19, h11, h⟩ := bd h
          have kc := kc.tr (kf58 (c_I_some h11) kc.1) rfl rfl
          rcases ite_some h with ⟨-, h⟩ | ⟨-, h⟩
          · exact kc.tt (kb62_93 h kc.1) (fun _ q => q) (fun _ q => q)
          · obtain ⟨b_25, -, h⟩ := bd h
            obtain ⟨q_23, h13, h⟩ := bd h
            have kc := kc.tr (kf60 (c_I_some h13) kc.1) rfl rfl
            rcases ite_some h with ⟨-, h⟩ | ⟨-, h⟩
            · exact kc.tt (kb62_93 h kc.1) (fun _ q => q) (fun _ q => q)
            · obtain ⟨b_29, -, h⟩ := bd h
              obtain ⟨q_27, h15, h⟩ := bd h
              have kc := kc.tr (kf61 (c_I_some h15) kc.1) rfl rfl
              rcases ite_some h with ⟨-, h⟩ | ⟨-, h⟩
              · exact kc.tt (kb62_93 h kc.1) (fun _ q => q) (fun _ q => q)
              · exact kc.tt (kb62_94 h kc.1) (fun _ q => q) (fun _ q => q)
    · exact kc.tt (kb62_37 h kc.1) (fun _ q => q) (fun _ q => q)
theorem kf62 {as : List aV} {M M' : hM} {r : Option aV} (h : f62 as M = some (r, M')) (hb : bk M) : kp [] [] M M' := by
  unfold f62 at h
  split at h
  · exact kx_out h (fun res hx => kb62_0 hx hb)
  · cases h
theorem kb63_88 {si0 : _} {M : hM} {res : xRes} (h : b63_88 si0 M = some res) (hb : bk M) : kp [] [] M (r_M res) := by
  have kc : kp [] [] M M := kp.rf hb
  unfold b63_88 at h
  rcases ite_some h with ⟨-, h⟩ | ⟨-, h⟩
  · cases h
    exact kc
  · cases h
theorem kb63_83 {M : hM} {res : xRes} (h : b63_83 M = some res) (hb : bk M) : kp [] [] M (r_M res) := by
  have kc : kp [] [] M M := kp.rf hb
  unfold b63_83 at h
  exact kc.tt (kb63_88 h kc.1) (fun _ q => q) (fun _ q => q)
theorem kb63_87 {M : hM} {res : xRes} (h : b63_87 M = some res) (hb : bk M) : kp [] [] M (r_M res) := by
  have kc : kp [] [] M M := kp.rf hb
  unfold b63_87 at h
  exact kc.tt (kb63_88 h kc.1) (fun _ q => q) (fun _ q => q)
theorem kb63_0 {a0 o1 : _} {M : hM} {res : xRes} (h : b63_0 a0 o1 M = some res) (hb : bk M) : kp [] [] M (r_M res) := by
  have kc : kp [] [] M M := kp.rf hb
  unfold b63_0 at h
  obtain ⟨v_1, -, h⟩ := bd h
  rcases ite_some h with ⟨-, h⟩ | ⟨-, h⟩
  · cases h
    exact kc
  · obtain ⟨v_3, -, h⟩ := bd h
    obtain ⟨b_7, -, h⟩ := bd h
    obtain ⟨q_5, h4, h⟩ := bd h
    have kc := kc.tr (kf55 (c_I_some h4) kc.1) rfl rfl
    rcases ite_some h with ⟨-, h⟩ | ⟨-, h⟩
    · obtain ⟨v_9, -, h⟩ := bd h
      obtain ⟨b_13, -, h⟩ := bd h
      obtain ⟨q_11, h7, h⟩ := bd h
      have kc := kc.tr (kf56 (c_L_some h7) kc.1) rfl rfl
      obtain ⟨v_15, -, h⟩ := bd h
      obtain ⟨b_19, -, h⟩ := bd h
      obtain ⟨q_17, h10, h⟩ := bd h
      have kc := kc.tr (kf42 (c_I_some h10) kc.1) rfl rfl
      rcases ite_some h with ⟨-, h⟩ | ⟨-, h⟩
      · obtain ⟨b_23, -, h⟩ := bd h
        obtain ⟨q_21, h12, h⟩ := bd h
        have kc := kc.tr (kf57 (c_I_some h12) kc.1) rfl rfl
        rcases ite_some h with ⟨-, h⟩ | ⟨-, h⟩
        · obtain ⟨b_32, -, h⟩ := bd h
          obtain ⟨q_30, h14, h⟩ := bd h
          have kc := kc.tr (kf62 (c_I_some h14) kc.1) rfl rfl
          rcases ite_some h with ⟨-, h⟩ | ⟨-, h⟩
          · exact kc.tt (kb63_87 h kc.1) (fun _ q => q) (fun _ q => q)
          · exact kc.tt (kb63_83 h kc.1) (fun _ q => q) (fun _ q => q)
        · obtain ⟨b_27, -, h⟩ := bd h
          obtain ⟨q_25, h16, h⟩ := bd h
          have kc := kc.tr (kf59 (c_I_some h16) kc.1) rfl rfl
          rcases ite_some h with ⟨-, h⟩ | ⟨-, h⟩
          · exact kc.tt (kb63_87 h kc.1) (fun _ q => q) (fun _ q => q)
          · exact kc.tt (kb63_83 h kc.1) (fun _ q => q) (fun _ q => q)
      · exact kc.tt (kb63_87 h kc.1) (fun _ q => q) (fun _ q => q)
    · exact kc.tt (kb63_87 h kc.1) (fun _ q => q) (fun _ q => q)
theorem kf63 {as : List aV} {M M' : hM} {r : Option aV} (h : f63 as M = some (r, M')) (hb : bk M) : kp [] [] M M' := by
  unfold f63 at h
  split at h
  · exact kx_out h (fun res hx => kb63_0 hx hb)
  · cases h
theorem kb64_0 {a0 : _} {M : hM} {res : xRes} (h : b64_0 a0 M = some res) (hb : bk M) : kp [] [] M (r_M res) := by
  have kc : kp [] [] M M := kp.rf hb
  unfold b64_0 at h
  obtain ⟨b_3, -, h⟩ := bd h
  obtain ⟨q_1, h2, h⟩ := bd h
  have kc := kc.tr (kf56 (c_L_some h2) kc.1) rfl rfl
  cases h
  exact kc
theorem kf64 {as : List aV} {M M' : hM} {r : Option aV} (h : f64 as M = some (r, M')) (hb : bk M) : kp [] [] M M' := by
  unfold f64 at h
  split at h
  · exact kx_out h (fun res hx => kb64_0 hx hb)
  · cases h
theorem kb65_0 {a0 : _} {M : hM} {res : xRes} (h : b65_0 a0 M = some res) (hb : bk M) : kp [] [] M (r_M res) := by
  have kc : kp [] [] M M := kp.rf hb
  unfold b65_0 at h
  obtain ⟨b_3, -, h⟩ := bd h
  obtain ⟨q_1, h2, h⟩ := bd h
  have kc := kc.tr (kf56 (c_L_some h2) kc.1) rfl rfl
  cases h
  exact kc
theorem kf65 {as : List aV} {M M' : hM} {r : Option aV} (h : f65 as M = some (r, M')) (hb : bk M) : kp [] [] M M' := by
  unfold f65 at h
  split at h
  · exact kx_out h (fun res hx => kb65_0 hx hb)
  · cases h
theorem kb66_0 {a0 : _} {M : hM} {res : xRes} (h : b66_0 a0 M = some res) (hb : bk M) : kp [] [] M (r_M res) := by
  have kc : kp [] [] M M := kp.rf hb
  unfold b66_0 at h
  obtain ⟨b_3, -, h⟩ := bd h
  obtain ⟨q_1, h2, h⟩ := bd h
  have kc := kc.tr (kf56 (c_L_some h2) kc.1) rfl rfl
  cases h
  exact kc
theorem kf66 {as : List aV} {M M' : hM} {r : Option aV} (h : f66 as M = some (r, M')) (hb : bk M) : kp [] [] M M' := by
  unfold f66 at h
  split at h
  · exact kx_out h (fun res hx => kb66_0 hx hb)
  · cases h
theorem kb67_0 {a0 v1 o2 v3 v4 w5 : _} {M : hM} {res : xRes} (h : b67_0 a0 v1 o2 v3 v4 w5 M = some res) (hb : bk M) : kp [200, 201, 202, 203, 300, 301, 302, 907] [0, 20, 21] M (r_M res) := by
  have kc : kp [200, 201, 202, 203, 300, 301, 302, 907] [0, 20, 21] M M := kp.rf hb
  unfold b67_0 at h
  obtain ⟨o_1, -, h⟩ := bd h
  obtain ⟨b_5, -, h⟩ := bd h
  obtain ⟨q_3, h3, h⟩ := bd h
  have kc := kc.tr (kf65 (c_I_some h3) kc.1) rfl rfl
  obtain ⟨o_7, -, h⟩ := bd h
  obtain ⟨v_9, -, h⟩ := bd h
  obtain ⟨b_13, -, h⟩ := bd h
  obtain ⟨q_11, h7, h⟩ := bd h
  have kc := kc.tr (kf66 (c_I_some h7) kc.1) rfl rfl
  obtain ⟨b_17, -, h⟩ := bd h
  obtain ⟨q_15, h9, h⟩ := bd h
  have kc := kc.tr (kf34 (c_R_some h9) kc.1) rfl rfl
  obtain ⟨b_21, -, h⟩ := bd h
  obtain ⟨q_19, h11, h⟩ := bd h
  have kc := kc.tr (kf35 (c_V_some h11) kc.1) rfl rfl
  obtain ⟨b_25, -, h⟩ := bd h
  obtain ⟨q_23, h13, h⟩ := bd h
  have kc := kc.tr (kf36 (c_V_some h13) kc.1) rfl rfl
  obtain ⟨o_27, -, h⟩ := bd h
  obtain ⟨o_29, -, h⟩ := bd h
  obtain ⟨b_33, -, h⟩ := bd h
  obtain ⟨q_31, h17, h⟩ := bd h
  have kc := kc.tr (kf39 (c_V_some h17) kc.1) rfl rfl
  cases h
  exact kc
theorem kf67 {as : List aV} {M M' : hM} {r : Option aV} (h : f67 as M = some (r, M')) (hb : bk M) : kp [200, 201, 202, 203, 300, 301, 302, 907] [0, 20, 21] M M' := by
  unfold f67 at h
  split at h
  · exact kx_out h (fun res hx => kb67_0 hx hb)
  · cases h
theorem kb68_34 {si0 : _} {M : hM} {res : xRes} (h : b68_34 si0 M = some res) (hb : bk M) : kp [] [] M (r_M res) := by
  have kc : kp [] [] M M := kp.rf hb
  unfold b68_34 at h
  rcases ite_some h with ⟨-, h⟩ | ⟨-, h⟩
  · cases h
    exact kc
  · cases h
theorem kb68_33 {M : hM} {res : xRes} (h : b68_33 M = some res) (hb : bk M) : kp [] [] M (r_M res) := by
  have kc : kp [] [] M M := kp.rf hb
  unfold b68_33 at h
  exact kc.tt (kb68_34 h kc.1) (fun _ q => q) (fun _ q => q)
theorem kb68_0 {a0 o1 : _} {M : hM} {res : xRes} (h : b68_0 a0 o1 M = some res) (hb : bk M) : kp [] [] M (r_M res) := by
  have kc : kp [] [] M M := kp.rf hb
  unfold b68_0 at h
  obtain ⟨v_1, -, h⟩ := bd h
  rcases ite_some h with ⟨-, h⟩ | ⟨-, h⟩
  · exact kc.tt (kb68_33 h kc.1) (fun _ q => q) (fun _ q => q)
  · obtain ⟨v_3, -, h⟩ := bd h
    obtain ⟨b_7, -, h⟩ := bd h
    obtain ⟨q_5, h4, h⟩ := bd h
    have kc := kc.tr (kf66 (c_I_some h4) kc.1) rfl rfl
    rcases ite_some h with ⟨-, h⟩ | ⟨-, h⟩
    · obtain ⟨v_9, -, h⟩ := bd h
      obtain ⟨b_13, -, h⟩ := bd h
      obtain ⟨q_11, h7, h⟩ := bd h
      have kc := kc.tr (kf65 (c_I_some h7) kc.1) rfl rfl
      rcases ite_some h with ⟨-, h⟩ | ⟨-, h⟩
      · exact kc.tt (kb68_34 h kc.1) (fun _ q => q) (fun _ q => q)
      · exact kc.tt (kb68_33 h kc.1) (fun _ q => q) (fun _ q => q)
    · exact kc.tt (kb68_33 h kc.1) (fun _ q => q) (fun _ q => q)
theorem kf68 {as : List aV} {M M' : hM} {r : Option aV} (h : f68 as M = some (r, M')) (hb : bk M) : kp [] [] M M' := by
  unfold f68 at h
  split at h
  · exact kx_out h (fun res hx => kb68_0 hx hb)
  · cases h
theorem kb69_0 {a0 o1 : _} {M : hM} {res : xRes} (h : b69_0 a0 o1 M = some res) (hb : bk M) : kp [200, 201, 202, 203, 300, 301, 302, 700, 907] [0, 20, 21] M (r_M res) := by
  have kc : kp [200, 201, 202, 203, 300, 301, 302, 700, 907] [0, 20, 21] M M := kp.rf hb
  unfold b69_0 at h
  cases h
  exact kc
theorem kb69_31 {a0 o1 v2 : _} {M : hM} {res : xRes} (h : b69_31 a0 o1 v2 M = some res) (hb : bk M) : kp [200, 201, 202, 203, 300, 301, 302, 700, 907] [0, 20, 21] M (r_M res) := by
  have kc : kp [200, 201, 202, 203, 300, 301, 302, 700, 907] [0, 20, 21] M M := kp.rf hb
  unfold b69_31 at h
  cases h
  exact kc
theorem kb69_2 {a0 o1 v2 : _} {M : hM} {res : xRes} (h : b69_2 a0 o1 v2 M = some res) (hb : bk M) : kp [200, 201, 202, 203, 300, 301, 302, 700, 907] [0, 20, 21] M (r_M res) := by
  have kc : kp [200, 201, 202, 203, 300, 301, 302, 700, 907] [0, 20, 21] M M := kp.rf hb
  unfold b69_2 at h
  rcases ite_some h with ⟨-, h⟩ | ⟨-, h⟩
  · obtain ⟨b_3, -, h⟩ := bd h
    obtain ⟨q_1, h2, h⟩ := bd h
    have kc := kc.tr (kf67 (c_V_some h2) kc.1) rfl rfl
    cases h
    exact kc
  · obtain ⟨o_5, -, h⟩ := bd h
    obtain ⟨o_7, -, h⟩ := bd h
    obtain ⟨b_11, -, h⟩ := bd h
    obtain ⟨q_9, h6, h⟩ := bd h
    have kc := kc.tr (kf68 (c_I_some h6) kc.1) rfl rfl
    rcases ite_some h with ⟨-, h⟩ | ⟨-, h⟩
    · exact kc.tt (kb69_31 h kc.1) (fun _ q => q) (fun _ q => q)
    · obtain ⟨o_13, -, h⟩ := bd h
      obtain ⟨o_15, -, h⟩ := bd h
      obtain ⟨M17, h9, h⟩ := bd h
      have kc := kc.tr (k_pz h9 kc.1) rfl rfl
      exact kc.tt (kb69_31 h kc.1) (fun _ q => q) (fun _ q => q)
theorem kf69 {as : List aV} {M M' : hM} {r : Option aV} (h : f69 as M = some (r, M')) (hb : bk M) : kp [200, 201, 202, 203, 300, 301, 302, 700, 907] [0, 20, 21] M M' := by
  unfold f69 at h
  split at h
  · refine kx_go (blk := k69) ?_ h (fun res hx => kb69_0 hx hb)
    intro h as M res hk hb
    unfold k69 at hk
    split at hk
    · split at hk
      · exact kb69_2 hk hb
      · cases hk
    · skip
      cases hk
  · cases h
theorem kb70_0 {a0 : _} {M : hM} {res : xRes} (h : b70_0 a0 M = some res) (hb : bk M) : kp [] [] M (r_M res) := by
  have kc : kp [] [] M M := kp.rf hb
  unfold b70_0 at h
  obtain ⟨b_3, -, h⟩ := bd h
  obtain ⟨q_1, h2, h⟩ := bd h
  have kc := kc.tr (kf56 (c_L_some h2) kc.1) rfl rfl
  cases h
  exact kc
theorem kf70 {as : List aV} {M M' : hM} {r : Option aV} (h : f70 as M = some (r, M')) (hb : bk M) : kp [] [] M M' := by
  unfold f70 at h
  split at h
  · exact kx_out h (fun res hx => kb70_0 hx hb)
  · cases h
theorem kb71_0 {a0 : _} {M : hM} {res : xRes} (h : b71_0 a0 M = some res) (hb : bk M) : kp [] [] M (r_M res) := by
  have kc : kp [] [] M M := kp.rf hb
  unfold b71_0 at h
  obtain ⟨b_3, -, h⟩ := bd h
  obtain ⟨q_1, h2, h⟩ := bd h
  have kc := kc.tr (kf55 (c_I_some h2) kc.1) rfl rfl
  cases h
  exact kc
theorem kf71 {as : List aV} {M M' : hM} {r : Option aV} (h : f71 as M = some (r, M')) (hb : bk M) : kp [] [] M M' := by
  unfold f71 at h
  split at h
  · exact kx_out h (fun res hx => kb71_0 hx hb)
  · cases h
theorem kb72_28 {M : hM} {res : xRes} (h : b72_28 M = some res) (hb : bk M) : kp [707] [23] M (r_M res) := by
  have kc : kp [707] [23] M M := kp.rf hb
  unfold b72_28 at h
  cases h
  exact kc
theorem kb72_0 {a0 v1 w2 : _} {M : hM} {res : xRes} (h : b72_0 a0 v1 w2 M = some res) (hb : bk M) : kp [707] [23] M (r_M res) := by
  have kc : kp [707] [23] M M := kp.rf hb
  unfold b72_0 at h
  rcases ite_some h with ⟨-, h⟩ | ⟨-, h⟩
  · exact kc.tt (kb72_28 h kc.1) (fun _ q => q) (fun _ q => q)
  · rcases ite_some h with ⟨-, h⟩ | ⟨-, h⟩
    · exact kc.tt (kb72_28 h kc.1) (fun _ q => q) (fun _ q => q)
    · obtain ⟨o_1, -, h⟩ := bd h
      obtain ⟨M3, h2, h⟩ := bd h
      have kc := kc.tr (k_as_l h2 kc.1 (by decide)) rfl rfl
      obtain ⟨v_5, -, h⟩ := bd h
      obtain ⟨M7, h4, h⟩ := bd h
      have kc := kc.tr (k_pi h4 kc.1) rfl rfl
      exact kc.tt (kb72_28 h kc.1) (fun _ q => q) (fun _ q => q)
theorem kf72 {as : List aV} {M M' : hM} {r : Option aV} (h : f72 as M = some (r, M')) (hb : bk M) : kp [707] [23] M M' := by
  unfold f72 at h
  split at h
  · exact kx_out h (fun res hx => kb72_0 hx hb)
  · cases h
theorem kb73_20 {si0 : _} {M : hM} {res : xRes} (h : b73_20 si0 M = some res) (hb : bk M) : kp [] [] M (r_M res) := by
  have kc : kp [] [] M M := kp.rf hb
  unfold b73_20 at h
  rcases ite_some h with ⟨-, h⟩ | ⟨-, h⟩
  · cases h
    exact kc
  · cases h
theorem kb73_0 {a0 : _} {M : hM} {res : xRes} (h : b73_0 a0 M = some res) (hb : bk M) : kp [] [] M (r_M res) := by
  have kc : kp [] [] M M := kp.rf hb
  unfold b73_0 at h
  obtain ⟨v_1, -, h⟩ := bd h
  obtain ⟨v_3, -, h⟩ := bd h
  rcases ite_some h with ⟨-, h⟩ | ⟨-, h⟩
  · exact kc.tt (kb73_20 h kc.1) (fun _ q => q) (fun _ q => q)
  · exact kc.tt (kb73_20 h kc.1) (fun _ q => q) (fun _ q => q)
theorem kf73 {as : List aV} {M M' : hM} {r : Option aV} (h : f73 as M = some (r, M')) (hb : bk M) : kp [] [] M M' := by
  unfold f73 at h
  split at h
  · exact kx_out h (fun res hx => kb73_0 hx hb)
  · cases h
theorem kb74_0 {a0 o1 : _} {M : hM} {res : xRes} (h : b74_0 a0 o1 M = some res) (hb : bk M) : kp [700] [23] M (r_M res) := by
  have kc : kp [700] [23] M M := kp.rf hb
  unfold b74_0 at h
  cases h
  exact kc
theorem kb74_47 {o1 : _} {M : hM} {res : xRes} (h : b74_47 o1 M = some res) (hb : bk M) : kp [700] [23] M (r_M res) := by
  have kc : kp [700] [23] M M := kp.rf hb
  unfold b74_47 at h
  obtain ⟨M21, h1, h⟩ := bd h
  have kc := kc.tr (k_pz h1 kc.1) rfl rfl
  cases h
  exact kc
theorem kb74_2 {a0 o1 v2 : _} {M : hM} {res : xRes} (h : b74_2 a0 o1 v2 M = some res) (hb : bk M) : kp [700] [23] M (r_M res) := by
  have kc : kp [700] [23] M M := kp.rf hb
  unfold b74_2 at h
  obtain ⟨v_1, -, h⟩ := bd h
  rcases ite_some h with ⟨-, h⟩ | ⟨-, h⟩
  · exact kc.tt (kb74_47 h kc.1) (fun _ q => q) (fun _ q => q)
  · obtain ⟨v_3, -, h⟩ := bd h
    obtain ⟨o_5, -, h⟩ := bd h
    obtain ⟨v_7, -, h⟩ := bd h
    rcases ite_some h with ⟨-, h⟩ | ⟨-, h⟩
    · exact kc.tt (kb74_47 h kc.1) (fun _ q => q) (fun _ q => q)
    · obtain ⟨o_9, -, h⟩ := bd h
      obtain ⟨v_11, -, h⟩ := bd h
      obtain ⟨o_13, -, h⟩ := bd h
      obtain ⟨w_15, -, h⟩ := bd h
      obtain ⟨M17, h9, h⟩ := bd h
      have kc := kc.tr (k_as_l h9 kc.1 (by decide)) rfl rfl
      cases h
      exact kc
theorem kf74 {as : List aV} {M M' : hM} {r : Option aV} (h : f74 as M = some (r, M')) (hb : bk M) : kp [700] [23] M M' := by
  unfold f74 at h
  split at h
  · refine kx_go (blk := k74) ?_ h (fun res hx => kb74_0 hx hb)
    intro h as M res hk hb
    unfold k74 at hk
    split at hk
    · split at hk
      · exact kb74_2 hk hb
      · cases hk
    · skip
      cases hk
  · cases h
theorem kb75_0 {a0 o1 : _} {M : hM} {res : xRes} (h : b75_0 a0 o1 M = some res) (hb : bk M) : kp [200, 201, 202, 203, 300, 301, 302, 700, 707, 907] [0, 20, 21, 23] M (r_M res) := by
  have kc : kp [200, 201, 202, 203, 300, 301, 302, 700, 707, 907] [0, 20, 21, 23] M M := kp.rf hb
  unfold b75_0 at h
  cases h
  exact kc
theorem kb75_86 {a0 o1 v2 : _} {M : hM} {res : xRes} (h : b75_86 a0 o1 v2 M = some res) (hb : bk M) : kp [200, 201, 202, 203, 300, 301, 302, 700, 707, 907] [0, 20, 21, 23] M (r_M res) := by
  have kc : kp [200, 201, 202, 203, 300, 301, 302, 700, 707, 907] [0, 20, 21, 23] M M := kp.rf hb
  unfold b75_86 at h
  cases h
  exact kc
theorem kb75_2 {a0 o1 v2 : _} {M : hM} {res : xRes} (h : b75_2 a0 o1 v2 M = some res) (hb : bk M) : kp [200, 201, 202, 203, 300, 301, 302, 700, 707, 907] [0, 20, 21, 23] M (r_M res) := by
  have kc : kp [200, 201, 202, 203, 300, 301, 302, 700, 707, 907] [0, 20, 21, 23] M M := kp.rf hb
  unfold b75_2 at h
  rcases ite_some h with ⟨-, h⟩ | ⟨-, h⟩
  · cases h
    exact kc
  · obtain ⟨o_1, -, h⟩ := bd h
    obtain ⟨o_3, -, h⟩ := bd h
    obtain ⟨b_7, -, h⟩ := bd h
    obtain ⟨q_5, h4, h⟩ := bd h
    have kc := kc.tr (kf68 (c_I_some h4) kc.1) rfl rfl
    rcases ite_some h with ⟨-, h⟩ | ⟨-, h⟩
    · exact kc.tt (kb75_86 h kc.1) (fun _ q => q) (fun _ q => q)
    · obtain ⟨v_9, -, h⟩ := bd h
      obtain ⟨b_13, -, h⟩ := bd h
      obtain ⟨q_11, h7, h⟩ := bd h
      have kc := kc.tr (kf70 (c_I_some h7) kc.1) rfl rfl
      rcases ite_some h with ⟨-, h⟩ | ⟨-, h⟩
      · obtain ⟨b_17, -, h⟩ := bd h
        obtain ⟨q_15, h9, h⟩ := bd h
        have kc := kc.tr (kf71 (c_I_some h9) kc.1) rfl rfl
        obtain ⟨v_19, -, h⟩ := bd h
        rcases ite_some h with ⟨-, h⟩ | ⟨-, h⟩
        · exact kc.tt (kb75_86 h kc.1) (fun _ q => q) (fun _ q => q)
        · obtain ⟨b_23, -, h⟩ := bd h
          obtain ⟨q_21, h12, h⟩ := bd h
          have kc := kc.tr (kf71 (c_I_some h12) kc.1) rfl rfl
          obtain ⟨b_27, -, h⟩ := bd h
          obtain ⟨q_25, h14, h⟩ := bd h
          have kc := kc.tr (kf56 (c_L_some h14) kc.1) rfl rfl
          obtain ⟨b_31, -, h⟩ := bd h
          obtain ⟨q_29, h16, h⟩ := bd h
          have kc := kc.tr (kf72 (c_V_some h16) kc.1) rfl rfl
          obtain ⟨b_35, -, h⟩ := bd h
          obtain ⟨q_33, h18, h⟩ := bd h
          have kc := kc.tr (kf73 (c_I_some h18) kc.1) rfl rfl
          rcases ite_some h with ⟨-, h⟩ | ⟨-, h⟩
          · exact kc.tt (kb75_86 h kc.1) (fun _ q => q) (fun _ q => q)
          · obtain ⟨b_39, -, h⟩ := bd h
            obtain ⟨q_37, h20, h⟩ := bd h
            have kc := kc.tr (kf74 (c_V_some h20) kc.1) rfl rfl
            obtain ⟨v_41, -, h⟩ := bd h
            obtain ⟨b_45, -, h⟩ := bd h
            obtain ⟨q_43, h23, h⟩ := bd h
            have kc := kc.tr (kf67 (c_V_some h23) kc.1) rfl rfl
            exact kc.tt (kb75_86 h kc.1) (fun _ q => q) (fun _ q => q)
      · exact kc.tt (kb75_86 h kc.1) (fun _ q => q) (fun _ q => q)
theorem kf75 {as : List aV} {M M' : hM} {r : Option aV} (h : f75 as M = some (r, M')) (hb : bk M) : kp [200, 201, 202, 203, 300, 301, 302, 700, 707, 907] [0, 20, 21, 23] M M' := by
  unfold f75 at h
  split at h
  · refine kx_go (blk := k75) ?_ h (fun res hx => kb75_0 hx hb)
    intro h as M res hk hb
    unfold k75 at hk
    split at hk
    · split at hk
      · exact kb75_2 hk hb
      · cases hk
    · skip
      cases hk
  · cases h
theorem kb76_0 {a0 : _} {M : hM} {res : xRes} (h : b76_0 a0 M = some res) (hb : bk M) : kp [] [] M (r_M res) := by
  have kc : kp [] [] M M := kp.rf hb
  unfold b76_0 at h
  cases h
  exact kc
theorem kb76_2 {a0 v1 : _} {M : hM} {res : xRes} (h : b76_2 a0 v1 M = some res) (hb : bk M) : kp [] [] M (r_M res) := by
  have kc : kp [] [] M M := kp.rf hb
  unfold b76_2 at h
  rcases ite_some h with ⟨-, h⟩ | ⟨-, h⟩
  · cases h
    exact kc
  · obtain ⟨o_1, -, h⟩ := bd h
    obtain ⟨o_3, -, h⟩ := bd h
    obtain ⟨v_5, -, h⟩ := bd h
    rcases ite_some h with ⟨-, h⟩ | ⟨-, h⟩
    · obtain ⟨o_7, -, h⟩ := bd h
      obtain ⟨o_9, -, h⟩ := bd h
      cases h
      exact kc
    · cases h
      exact kc
theorem kf76 {as : List aV} {M M' : hM} {r : Option aV} (h : f76 as M = some (r, M')) (hb : bk M) : kp [] [] M M' := by
  unfold f76 at h
  split at h
  · refine kx_go (blk := k76) ?_ h (fun res hx => kb76_0 hx hb)
    intro h as M res hk hb
    unfold k76 at hk
    split at hk
    · split at hk
      · exact kb76_2 hk hb
      · cases hk
    · skip
      cases hk
  · cases h
theorem kb77_0 {a0 v1 : _} {M : hM} {res : xRes} (h : b77_0 a0 v1 M = some res) (hb : bk M) : kp [] [] M (r_M res) := by
  have kc : kp [] [] M M := kp.rf hb
  unfold b77_0 at h
  cases h
  exact kc
theorem kb77_2 {a0 v1 v2 : _} {M : hM} {res : xRes} (h : b77_2 a0 v1 v2 M = some res) (hb : bk M) : kp [] [] M (r_M res) := by
  have kc : kp [] [] M M := kp.rf hb
  unfold b77_2 at h
  obtain ⟨v_1, -, h⟩ := bd h
  rcases ite_some h with ⟨-, h⟩ | ⟨-, h⟩
  · cases h
    exact kc
  · obtain ⟨o_3, -, h⟩ := bd h
    obtain ⟨v_5, -, h⟩ := bd h
    rcases ite_some h with ⟨-, h⟩ | ⟨-, h⟩
    · cases h
      exact kc
    · cases h
      exact kc
theorem kf77 {as : List aV} {M M' : hM} {r : Option aV} (h : f77 as M = some (r, M')) (hb : bk M) : kp [] [] M M' := by
  unfold f77 at h
  split at h
  · refine kx_go (blk := k77) ?_ h (fun res hx => kb77_0 hx hb)
    intro h as M res hk hb
    unfold k77 at hk
    split at hk
    · split at hk
      · exact kb77_2 hk hb
      · cases hk
    · skip
      cases hk
  · cases h
theorem kb78_0 {a0 o1 v2 v3 : _} {M : hM} {res : xRes} (h : b78_0 a0 o1 v2 v3 M = some res) (hb : bk M) : kp [200, 201, 202, 203, 300, 301, 302, 907] [0, 20, 21] M (r_M res) := by
  have kc : kp [200, 201, 202, 203, 300, 301, 302, 907] [0, 20, 21] M M := kp.rf hb
  unfold b78_0 at h
  cases h
  exact kc
theorem kb78_92 {M : hM} {res : xRes} (h : b78_92 M = some res) (hb : bk M) : kp [200, 201, 202, 203, 300, 301, 302, 907] [0, 20, 21] M (r_M res) := by
  have kc : kp [200, 201, 202, 203, 300, 301, 302, 907] [0, 20, 21] M M := kp.rf hb
  unfold b78_92 at h
  cases h
  exact kc
theorem kb78_3 {a0 o1 v2 v3 v4 : _} {M : hM} {res : xRes} (h : b78_3 a0 o1 v2 v3 v4 M = some res) (hb : bk M) : kp [200, 201, 202, 203, 300, 301, 302, 907] [0, 20, 21] M (r_M res) := by
  have kc : kp [200, 201, 202, 203, 300, 301, 302, 907] [0, 20, 21] M M := kp.rf hb
  unfold b78_3 at h
  rcases ite_some h with ⟨-, h⟩ | ⟨-, h⟩
  · exact kc.tt (kb78_92 h kc.1) (fun _ q => q) (fun _ q => q)
  · obtain ⟨o_1, -, h⟩ := bd h
    obtain ⟨v_3, -, h⟩ := bd h
    rcases ite_some h with ⟨-, h⟩ | ⟨-, h⟩
    · exact kc.tt (kb78_92 h kc.1) (fun _ q => q) (fun _ q => q)
    · obtain ⟨o_5, -, h⟩ := bd h
      obtain ⟨b_9, -, h⟩ := bd h
      obtain ⟨q_7, h5, h⟩ := bd h
      have kc := kc.tr (kf65 (c_I_some h5) kc.1) rfl rfl
      obtain ⟨o_11, -, h⟩ := bd h
      obtain ⟨v_13, -, h⟩ := bd h
      obtain ⟨b_17, -, h⟩ := bd h
      obtain ⟨q_15, h9, h⟩ := bd h
      have kc := kc.tr (kf66 (c_I_some h9) kc.1) rfl rfl
      obtain ⟨b_21, -, h⟩ := bd h
      obtain ⟨q_19, h11, h⟩ := bd h
      have kc := kc.tr (kf34 (c_R_some h11) kc.1) rfl rfl
      obtain ⟨b_25, -, h⟩ := bd h
      obtain ⟨q_23, h13, h⟩ := bd h
      have kc := kc.tr (kf35 (c_V_some h13) kc.1) rfl rfl
      obtain ⟨o_27, -, h⟩ := bd h
      obtain ⟨w_29, -, h⟩ := bd h
      obtain ⟨b_33, -, h⟩ := bd h
      obtain ⟨q_31, h17, h⟩ := bd h
      have kc := kc.tr (kf36 (c_V_some h17) kc.1) rfl rfl
      obtain ⟨o_35, -, h⟩ := bd h
      obtain ⟨o_37, -, h⟩ := bd h
      obtain ⟨b_41, -, h⟩ := bd h
      obtain ⟨q_39, h21, h⟩ := bd h
      have kc := kc.tr (kf39 (c_V_some h21) kc.1) rfl rfl
      cases h
      exact kc
theorem kf78 {as : List aV} {M M' : hM} {r : Option aV} (h : f78 as M = some (r, M')) (hb : bk M) : kp [200, 201, 202, 203, 300, 301, 302, 907] [0, 20, 21] M M' := by
  unfold f78 at h
  split at h
  · refine kx_go (blk := k78) ?_ h (fun res hx => kb78_0 hx hb)
    intro h as M res hk hb
    unfold k78 at hk
    split at hk
    · split at hk
      · exact kb78_3 hk hb
      · cases hk
    · skip
      cases hk
  · cases h
theorem kb79_0 {a0 o1 v2 v3 : _} {M : hM} {res : xRes} (h : b79_0 a0 o1 v2 v3 M = some res) (hb : bk M) : kp [700, 701, 702, 703, 704, 705, 706, 707] [] M (r_M res) := by
  have kc : kp [700, 701, 702, 703, 704, 705, 706, 707] [] M M := kp.rf hb
  unfold b79_0 at h
  obtain ⟨M1, h1, h⟩ := bd h
  have kc := kc.tr (k_pz h1 kc.1) rfl rfl
  obtain ⟨b_5, -, h⟩ := bd h
  obtain ⟨q_3, h3, h⟩ := bd h
  have kc := kc.tr (kf66 (c_I_some h3) kc.1) rfl rfl
  obtain ⟨M7, h4, h⟩ := bd h
  have kc := kc.tr (k_pi h4 kc.1) rfl rfl
  obtain ⟨b_11, -, h⟩ := bd h
  obtain ⟨q_9, h6, h⟩ := bd h
  have kc := kc.tr (kf65 (c_I_some h6) kc.1) rfl rfl
  obtain ⟨M13, h7, h⟩ := bd h
  have kc := kc.tr (k_pi h7 kc.1) rfl rfl
  obtain ⟨M15, h8, h⟩ := bd h
  have kc := kc.tr (k_pi h8 kc.1) rfl rfl
  obtain ⟨b_19, -, h⟩ := bd h
  obtain ⟨q_17, h10, h⟩ := bd h
  have kc := kc.tr (kf58 (c_I_some h10) kc.1) rfl rfl
  obtain ⟨b_23, -, h⟩ := bd h
  obtain ⟨q_21, h12, h⟩ := bd h
  have kc := kc.tr (kf58 (c_I_some h12) kc.1) rfl rfl
  obtain ⟨M25, h13, h⟩ := bd h
  have kc := kc.tr (k_pi h13 kc.1) rfl rfl
  obtain ⟨b_29, -, h⟩ := bd h
  obtain ⟨q_27, h15, h⟩ := bd h
  have kc := kc.tr (kf58 (c_I_some h15) kc.1) rfl rfl
  obtain ⟨M31, h16, h⟩ := bd h
  have kc := kc.tr (k_pi h16 kc.1) rfl rfl
  obtain ⟨M33, h17, h⟩ := bd h
  have kc := kc.tr (k_pi h17 kc.1) rfl rfl
  obtain ⟨M35, h18, h⟩ := bd h
  have kc := kc.tr (k_pi h18 kc.1) rfl rfl
  cases h
  exact kc
theorem kf79 {as : List aV} {M M' : hM} {r : Option aV} (h : f79 as M = some (r, M')) (hb : bk M) : kp [700, 701, 702, 703, 704, 705, 706, 707] [] M M' := by
  unfold f79 at h
  split at h
  · exact kx_out h (fun res hx => kb79_0 hx hb)
  · cases h
theorem kb80_177 {M : hM} {res : xRes} (h : b80_177 M = some res) (hb : bk M) : kp [106, 200, 201, 202, 203, 300, 301, 302, 700, 701, 702, 703, 704, 705, 706, 707, 907] [0, 20, 21] M (r_M res) := by
  have kc : kp [106, 200, 201, 202, 203, 300, 301, 302, 700, 701, 702, 703, 704, 705, 706, 707, 907] [0, 20, 21] M M := kp.rf hb
  unfold b80_177 at h
  cases h
  exact kc
theorem kb80_88 {a0 o1 : _} {M : hM} {res : xRes} (h : b80_88 a0 o1 M = some res) (hb : bk M) : kp [106, 200, 201, 202, 203, 300, 301, 302, 700, 701, 702, 703, 704, 705, 706, 707, 907] [0, 20, 21] M (r_M res) := by
  have kc : kp [106, 200, 201, 202, 203, 300, 301, 302, 700, 701, 702, 703, 704, 705, 706, 707, 907] [0, 20, 21] M M := kp.rf hb
  unfold b80_88 at h
  obtain ⟨b_39, -, h⟩ := bd h
  obtain ⟨q_37, h2, h⟩ := bd h
  have kc := kc.tr (kf67 (c_V_some h2) kc.1) rfl rfl
  exact kc.tt (kb80_177 h kc.1) (fun _ q => q) (fun _ q => q)
theorem kb80_101 {a0 o1 v2 v3 v4 v5 o6 : _} {M : hM} {res : xRes} (h : b80_101 a0 o1 v2 v3 v4 v5 o6 M = some res) (hb : bk M) : kp [106, 200, 201, 202, 203, 300, 301, 302, 700, 701, 702, 703, 704, 705, 706, 707, 907] [0, 20, 21] M (r_M res) := by
  have kc : kp [106, 200, 201, 202, 203, 300, 301, 302, 700, 701, 702, 703, 704, 705, 706, 707, 907] [0, 20, 21] M M := kp.rf hb
  unfold b80_101 at h
  rcases ite_some h with ⟨-, h⟩ | ⟨-, h⟩
  · obtain ⟨b_43, -, h⟩ := bd h
    obtain ⟨q_41, h2, h⟩ := bd h
    have kc := kc.tr (kf78 (c_V_some h2) kc.1) rfl rfl
    obtain ⟨b_47, -, h⟩ := bd h
    obtain ⟨q_45, h4, h⟩ := bd h
    have kc := kc.tr (kf67 (c_V_some h4) kc.1) rfl rfl
    exact kc.tt (kb80_177 h kc.1) (fun _ q => q) (fun _ q => q)
  · obtain ⟨v_49, -, h⟩ := bd h
    obtain ⟨M51, h6, h⟩ := bd h
    have kc := kc.tr (k_pi h6 kc.1) rfl rfl
    obtain ⟨v_53, -, h⟩ := bd h
    obtain ⟨o_55, -, h⟩ := bd h
    obtain ⟨v_57, -, h⟩ := bd h
    obtain ⟨b_61, -, h⟩ := bd h
    obtain ⟨q_59, h11, h⟩ := bd h
    have kc := kc.tr (kf79 (c_V_some h11) kc.1) rfl rfl
    obtain ⟨v_63, -, h⟩ := bd h
    obtain ⟨b_67, -, h⟩ := bd h
    obtain ⟨q_65, h14, h⟩ := bd h
    have kc := kc.tr (kf67 (c_V_some h14) kc.1) rfl rfl
    exact kc.tt (kb80_177 h kc.1) (fun _ q => q) (fun _ q => q)
theorem kb80_20 {a0 o1 v2 si0 : _} {M : hM} {res : xRes} (h : b80_20 a0 o1 v2 si0 M = some res) (hb : bk M) : kp [106, 200, 201, 202, 203, 300, 301, 302, 700, 701, 702, 703, 704, 705, 706, 707, 907] [0, 20, 21] M (r_M res) := by
  have kc : kp [106, 200, 201, 202, 203, 300, 301, 302, 700, 701, 702, 703, 704, 705, 706, 707, 907] [0, 20, 21] M M := kp.rf hb
  unfold b80_20 at h
  obtain ⟨b_12, -, h⟩ := bd h
  obtain ⟨q_10, h2, h⟩ := bd h
  have kc := kc.tr (kf58 (c_I_some h2) kc.1) rfl rfl
  obtain ⟨b_16, -, h⟩ := bd h
  obtain ⟨q_14, h4, h⟩ := bd h
  have kc := kc.tr (kf58 (c_I_some h4) kc.1) rfl rfl
  obtain ⟨b_20, -, h⟩ := bd h
  obtain ⟨q_18, h6, h⟩ := bd h
  have kc := kc.tr (kf76 (c_R_some h6) kc.1) rfl rfl
  obtain ⟨b_24, -, h⟩ := bd h
  obtain ⟨q_22, h8, h⟩ := bd h
  have kc := kc.tr (kf65 (c_I_some h8) kc.1) rfl rfl
  obtain ⟨b_28, -, h⟩ := bd h
  obtain ⟨q_26, h10, h⟩ := bd h
  have kc := kc.tr (kf77 (c_I_some h10) kc.1) rfl rfl
  rcases ite_some h with ⟨-, h⟩ | ⟨-, h⟩
  · exact kc.tt (kb80_88 h kc.1) (fun _ q => q) (fun _ q => q)
  · rcases ite_some h with ⟨-, h⟩ | ⟨-, h⟩
    · exact kc.tt (kb80_88 h kc.1) (fun _ q => q) (fun _ q => q)
    · rcases ite_some h with ⟨-, h⟩ | ⟨-, h⟩
      · exact kc.tt (kb80_88 h kc.1) (fun _ q => q) (fun _ q => q)
      · rcases ite_some h with ⟨-, h⟩ | ⟨-, h⟩
        · exact kc.tt (kb80_88 h kc.1) (fun _ q => q) (fun _ q => q)
        · rcases ite_some h with ⟨-, h⟩ | ⟨-, h⟩
          · exact kc.tt (kb80_88 h kc.1) (fun _ q => q) (fun _ q => q)
          · rcases ite_some h with ⟨-, h⟩ | ⟨-, h⟩
            · exact kc.tt (kb80_101 h kc.1) (fun _ q => q) (fun _ q => q)
            · rcases ite_some h with ⟨-, h⟩ | ⟨-, h⟩
              · exact kc.tt (kb80_88 h kc.1) (fun _ q => q) (fun _ q => q)
              · exact kc.tt (kb80_101 h kc.1) (fun _ q => q) (fun _ q => q)
theorem kb80_0 {a0 o1 : _} {M : hM} {res : xRes} (h : b80_0 a0 o1 M = some res) (hb : bk M) : kp [106, 200, 201, 202, 203, 300, 301, 302, 700, 701, 702, 703, 704, 705, 706, 707, 907] [0, 20, 21] M (r_M res) := by
  have kc : kp [106, 200, 201, 202, 203, 300, 301, 302, 700, 701, 702, 703, 704, 705, 706, 707, 907] [0, 20, 21] M M := kp.rf hb
  unfold b80_0 at h
  obtain ⟨b_3, -, h⟩ := bd h
  obtain ⟨q_1, h2, h⟩ := bd h
  have kc := kc.tr (kf58 (c_I_some h2) kc.1) rfl rfl
  obtain ⟨b_7, -, h⟩ := bd h
  obtain ⟨q_5, h4, h⟩ := bd h
  have kc := kc.tr (kf58 (c_I_some h4) kc.1) rfl rfl
  rcases ite_some h with ⟨-, h⟩ | ⟨-, h⟩
  · exact kc.tt (kb80_20 h kc.1) (fun _ q => q) (fun _ q => q)
  · exact kc.tt (kb80_20 h kc.1) (fun _ q => q) (fun _ q => q)
theorem kf80 {as : List aV} {M M' : hM} {r : Option aV} (h : f80 as M = some (r, M')) (hb : bk M) : kp [106, 200, 201, 202, 203, 300, 301, 302, 700, 701, 702, 703, 704, 705, 706, 707, 907] [0, 20, 21] M M' := by
  unfold f80 at h
  split at h
  · exact kx_out h (fun res hx => kb80_0 hx hb)
  · cases h
theorem kb81_43 {a0 v1 : _} {M : hM} {res : xRes} (h : b81_43 a0 v1 M = some res) (hb : bk M) : kp [104] [20] M (r_M res) := by
  have kc : kp [104] [20] M M := kp.rf hb
  unfold b81_43 at h
  obtain ⟨o_19, -, h⟩ := bd h
  obtain ⟨v_21, -, h⟩ := bd h
  obtain ⟨M23, h3, h⟩ := bd h
  have kc := kc.tr (k_as_i h3 kc.1 (by decide)) rfl rfl
  obtain ⟨v_25, -, h⟩ := bd h
  obtain ⟨M27, h5, h⟩ := bd h
  have kc := kc.tr (k_pi h5 kc.1) rfl rfl
  cases h
  exact kc
theorem kb81_0 {a0 v1 : _} {M : hM} {res : xRes} (h : b81_0 a0 v1 M = some res) (hb : bk M) : kp [104] [20] M (r_M res) := by
  have kc : kp [104] [20] M M := kp.rf hb
  unfold b81_0 at h
  obtain ⟨b_3, -, h⟩ := bd h
  obtain ⟨q_1, h2, h⟩ := bd h
  have kc := kc.tr (kf77 (c_I_some h2) kc.1) rfl rfl
  rcases ite_some h with ⟨-, h⟩ | ⟨-, h⟩
  · obtain ⟨v_5, -, h⟩ := bd h
    rcases ite_some h with ⟨-, h⟩ | ⟨-, h⟩
    · obtain ⟨o_7, -, h⟩ := bd h
      obtain ⟨o_9, -, h⟩ := bd h
      obtain ⟨M11, h6, h⟩ := bd h
      have kc := kc.tr (k_n_c h6 kc.1) rfl rfl
      obtain ⟨v_13, -, h⟩ := bd h
      obtain ⟨M15, h8, h⟩ := bd h
      have kc := kc.tr (k_pi h8 kc.1) rfl rfl
      exact kc.tt (kb81_43 h kc.1) (fun _ q => q) (fun _ q => q)
    · exact kc.tt (kb81_43 h kc.1) (fun _ q => q) (fun _ q => q)
  · cases h
    exact kc
theorem kf81 {as : List aV} {M M' : hM} {r : Option aV} (h : f81 as M = some (r, M')) (hb : bk M) : kp [104] [20] M M' := by
  unfold f81 at h
  split at h
  · exact kx_out h (fun res hx => kb81_0 hx hb)
  · cases h
theorem kb82_93 {M : hM} {res : xRes} (h : b82_93 M = some res) (hb : bk M) : kp [104, 106, 200, 201, 202, 203, 300, 301, 302, 700, 701, 702, 703, 704, 705, 706, 707, 907] [0, 20, 21, 23] M (r_M res) := by
  have kc : kp [104, 106, 200, 201, 202, 203, 300, 301, 302, 700, 701, 702, 703, 704, 705, 706, 707, 907] [0, 20, 21, 23] M M := kp.rf hb
  unfold b82_93 at h
  cases h
  exact kc
theorem kb82_0 {a0 o1 : _} {M : hM} {res : xRes} (h : b82_0 a0 o1 M = some res) (hb : bk M) : kp [104, 106, 200, 201, 202, 203, 300, 301, 302, 700, 701, 702, 703, 704, 705, 706, 707, 907] [0, 20, 21, 23] M (r_M res) := by
  have kc : kp [104, 106, 200, 201, 202, 203, 300, 301, 302, 700, 701, 702, 703, 704, 705, 706, 707, 907] [0, 20, 21, 23] M M := kp.rf hb
  unfold b82_0 at h
  obtain ⟨b_3, -, h⟩ := bd h
  obtain ⟨q_1, h2, h⟩ := bd h
  have kc := kc.tr (kf57 (c_I_some h2) kc.1) rfl rfl
  rcases ite_some h with ⟨-, h⟩ | ⟨-, h⟩
  · obtain ⟨b_8, -, h⟩ := bd h
    obtain ⟨q_6, h4, h⟩ := bd h
    have kc := kc.tr (kf65 (c_I_some h4) kc.1) rfl rfl
    obtain ⟨b_12, -, h⟩ := bd h
    obtain ⟨q_10, h6, h⟩ := bd h
    have kc := kc.tr (kf81 (c_V_some h6) kc.1) rfl rfl
    obtain ⟨b_16, -, h⟩ := bd h
    obtain ⟨q_14, h8, h⟩ := bd h
    have kc := kc.tr (kf67 (c_V_some h8) kc.1) rfl rfl
    exact kc.tt (kb82_93 h kc.1) (fun _ q => q) (fun _ q => q)
  · rcases ite_some h with ⟨-, h⟩ | ⟨-, h⟩
    · exact kc.tt (kb82_93 h kc.1) (fun _ q => q) (fun _ q => q)
    · rcases ite_some h with ⟨-, h⟩ | ⟨-, h⟩
      · obtain ⟨b_22, -, h⟩ := bd h
        obtain ⟨q_20, h10, h⟩ := bd h
        have kc := kc.tr (kf80 (c_V_some h10) kc.1) rfl rfl
        exact kc.tt (kb82_93 h kc.1) (fun _ q => q) (fun _ q => q)
      · rcases ite_some h with ⟨-, h⟩ | ⟨-, h⟩
        · exact kc.tt (kb82_93 h kc.1) (fun _ q => q) (fun _ q => q)
        · rcases ite_some h with ⟨-, h⟩ | ⟨-, h⟩
          · obtain ⟨b_28, -, h⟩ := bd h
            obtain ⟨q_26, h12, h⟩ := bd h
            have kc := kc.tr (kf75 (c_V_some h12) kc.1) rfl rfl
            exact kc.tt (kb82_93 h kc.1) (fun _ q => q) (fun _ q => q)
          · rcases ite_some h with ⟨-, h⟩ | ⟨-, h⟩
            · exact kc.tt (kb82_93 h kc.1) (fun _ q => q) (fun _ q => q)
            · rcases ite_some h with ⟨-, h⟩ | ⟨-, h⟩
              · obtain ⟨b_34, -, h⟩ := bd h
                obtain ⟨q_32, h14, h⟩ := bd h
                have kc := kc.tr (kf69 (c_V_some h14) kc.1) rfl rfl
                exact kc.tt (kb82_93 h kc.1) (fun _ q => q) (fun _ q => q)
              · exact kc.tt (kb82_93 h kc.1) (fun _ q => q) (fun _ q => q)
theorem kf82 {as : List aV} {M M' : hM} {r : Option aV} (h : f82 as M = some (r, M')) (hb : bk M) : kp [104, 106, 200, 201, 202, 203, 300, 301, 302, 700, 701, 702, 703, 704, 705, 706, 707, 907] [0, 20, 21, 23] M M' := by
  unfold f82 at h
  split at h
  · exact kx_out h (fun res hx => kb82_0 hx hb)
  · cases h
theorem kb83_0 {a0 o1 v2 : _} {M : hM} {res : xRes} (h : b83_0 a0 o1 v2 M = some res) (hb : bk M) : kp [] [] M (r_M res) := by
  have kc : kp [] [] M M := kp.rf hb
  unfold b83_0 at h
  cases h
  exact kc
theorem kb83_54 {a0 o1 v2 v3 : _} {M : hM} {res : xRes} (h : b83_54 a0 o1 v2 v3 M = some res) (hb : bk M) : kp [] [] M (r_M res) := by
  have kc : kp [] [] M M := kp.rf hb
  unfold b83_54 at h
  cases h
  exact kc
theorem kb83_2 {a0 o1 v2 v3 : _} {M : hM} {res : xRes} (h : b83_2 a0 o1 v2 v3 M = some res) (hb : bk M) : kp [] [] M (r_M res) := by
  have kc : kp [] [] M M := kp.rf hb
  unfold b83_2 at h
  obtain ⟨v_1, -, h⟩ := bd h
  rcases ite_some h with ⟨-, h⟩ | ⟨-, h⟩
  · cases h
    exact kc
  · obtain ⟨o_3, -, h⟩ := bd h
    obtain ⟨o_5, -, h⟩ := bd h
    obtain ⟨v_7, -, h⟩ := bd h
    rcases ite_some h with ⟨-, h⟩ | ⟨-, h⟩
    · obtain ⟨v_9, -, h⟩ := bd h
      obtain ⟨b_13, -, h⟩ := bd h
      obtain ⟨q_11, h7, h⟩ := bd h
      have kc := kc.tr (kf66 (c_I_some h7) kc.1) rfl rfl
      rcases ite_some h with ⟨-, h⟩ | ⟨-, h⟩
      · obtain ⟨v_15, -, h⟩ := bd h
        obtain ⟨b_19, -, h⟩ := bd h
        obtain ⟨q_17, h10, h⟩ := bd h
        have kc := kc.tr (kf65 (c_I_some h10) kc.1) rfl rfl
        rcases ite_some h with ⟨-, h⟩ | ⟨-, h⟩
        · cases h
          exact kc
        · exact kc.tt (kb83_54 h kc.1) (fun _ q => q) (fun _ q => q)
      · exact kc.tt (kb83_54 h kc.1) (fun _ q => q) (fun _ q => q)
    · exact kc.tt (kb83_54 h kc.1) (fun _ q => q) (fun _ q => q)
theorem kf83 {as : List aV} {M M' : hM} {r : Option aV} (h : f83 as M = some (r, M')) (hb : bk M) : kp [] [] M M' := by
  unfold f83 at h
  split at h
  · refine kx_go (blk := k83) ?_ h (fun res hx => kb83_0 hx hb)
    intro h as M res hk hb
    unfold k83 at hk
    split at hk
    · split at hk
      · exact kb83_2 hk hb
      · cases hk
    · skip
      cases hk
  · cases h
theorem kb84_24 {M : hM} {res : xRes} (h : b84_24 M = some res) (hb : bk M) : kp [10, 13] [] M (r_M res) := by
  have kc : kp [10, 13] [] M M := kp.rf hb
  unfold b84_24 at h
  cases h
  exact kc
theorem kb84_0 {a0 o1 : _} {M : hM} {res : xRes} (h : b84_0 a0 o1 M = some res) (hb : bk M) : kp [10, 13] [] M (r_M res) := by
  have kc : kp [10, 13] [] M M := kp.rf hb
  unfold b84_0 at h
  obtain ⟨b_3, -, h⟩ := bd h
  obtain ⟨q_1, h2, h⟩ := bd h
  have kc := kc.tr (kf83 (c_R_some h2) kc.1) rfl rfl
  rcases ite_some h with ⟨-, h⟩ | ⟨-, h⟩
  · exact kc.tt (kb84_24 h kc.1) (fun _ q => q) (fun _ q => q)
  · obtain ⟨o_5, -, h⟩ := bd h
    obtain ⟨v_7, -, h⟩ := bd h
    obtain ⟨b_11, -, h⟩ := bd h
    obtain ⟨q_9, h6, h⟩ := bd h
    have kc := kc.tr (kf50 (c_V_some h6) kc.1) rfl rfl
    exact kc.tt (kb84_24 h kc.1) (fun _ q => q) (fun _ q => q)
theorem kf84 {as : List aV} {M M' : hM} {r : Option aV} (h : f84 as M = some (r, M')) (hb : bk M) : kp [10, 13] [] M M' := by
  unfold f84 at h
  split at h
  · exact kx_out h (fun res hx => kb84_0 hx hb)
  · cases h
theorem kb85_20 {si0 : _} {M : hM} {res : xRes} (h : b85_20 si0 M = some res) (hb : bk M) : kp [] [] M (r_M res) := by
  have kc : kp [] [] M M := kp.rf hb
  unfold b85_20 at h
  rcases ite_some h with ⟨-, h⟩ | ⟨-, h⟩
  · cases h
    exact kc
  · cases h
theorem kb85_0 {a0 : _} {M : hM} {res : xRes} (h : b85_0 a0 M = some res) (hb : bk M) : kp [] [] M (r_M res) := by
  have kc : kp [] [] M M := kp.rf hb
  unfold b85_0 at h
  obtain ⟨v_1, -, h⟩ := bd h
  obtain ⟨v_3, -, h⟩ := bd h
  rcases ite_some h with ⟨-, h⟩ | ⟨-, h⟩
  · exact kc.tt (kb85_20 h kc.1) (fun _ q => q) (fun _ q => q)
  · exact kc.tt (kb85_20 h kc.1) (fun _ q => q) (fun _ q => q)
theorem kf85 {as : List aV} {M M' : hM} {r : Option aV} (h : f85 as M = some (r, M')) (hb : bk M) : kp [] [] M M' := by
  unfold f85 at h
  split at h
  · exact kx_out h (fun res hx => kb85_0 hx hb)
  · cases h
theorem kb86_94 {M : hM} {res : xRes} (h : b86_94 M = some res) (hb : bk M) : kp [10, 12, 13, 200, 201, 202, 203, 300, 301, 302, 907] [0, 20, 21] M (r_M res) := by
  have kc : kp [10, 12, 13, 200, 201, 202, 203, 300, 301, 302, 907] [0, 20, 21] M M := kp.rf hb
  unfold b86_94 at h
  cases h
  exact kc
theorem kb86_72 {a0 o2 : _} {M : hM} {res : xRes} (h : b86_72 a0 o2 M = some res) (hb : bk M) : kp [10, 12, 13, 200, 201, 202, 203, 300, 301, 302, 907] [0, 20, 21] M (r_M res) := by
  have kc : kp [10, 12, 13, 200, 201, 202, 203, 300, 301, 302, 907] [0, 20, 21] M M := kp.rf hb
  unfold b86_72 at h
  obtain ⟨o_44, -, h⟩ := bd h
  obtain ⟨v_46, -, h⟩ := bd h
  obtain ⟨b_50, -, h⟩ := bd h
  obtain ⟨q_48, h4, h⟩ := bd h
  have kc := kc.tr (kf50 (c_V_some h4) kc.1) rfl rfl
  exact kc.tt (kb86_94 h kc.1) (fun _ q => q) (fun _ q => q)
theorem kb86_0 {a0 o1 : _} {M : hM} {res : xRes} (h : b86_0 a0 o1 M = some res) (hb : bk M) : kp [10, 12, 13, 200, 201, 202, 203, 300, 301, 302, 907] [0, 20, 21] M (r_M res) := by
  have kc : kp [10, 12, 13, 200, 201, 202, 203, 300, 301, 302, 907] [0, 20, 21] M M := kp.rf hb
  unfold b86_0 at h
  obtain ⟨b_3, -, h⟩ := bd h
  obtain ⟨q_1, h2, h⟩ := bd h
  have kc := kc.tr (kf83 (c_R_some h2) kc.1) rfl rfl
  rcases ite_some h with ⟨-, h⟩ | ⟨-, h⟩
  · cases h
    exact kc
  · obtain ⟨b_7, -, h⟩ := bd h
    obtain ⟨q_5, h4, h⟩ := bd h
    have kc := kc.tr (kf58 (c_I_some h4) kc.1) rfl rfl
    rcases ite_some h with ⟨-, h⟩ | ⟨-, h⟩
    · obtain ⟨v_9, -, h⟩ := bd h
      rcases ite_some h with ⟨-, h⟩ | ⟨-, h⟩
      · obtain ⟨b_13, -, h⟩ := bd h
        obtain ⟨q_11, h7, h⟩ := bd h
        have kc := kc.tr (kf85 (c_I_some h7) kc.1) rfl rfl
        rcases ite_some h with ⟨-, h⟩ | ⟨-, h⟩
        · obtain ⟨b_17, -, h⟩ := bd h
          obtain ⟨q_15, h9, h⟩ := bd h
          have kc := kc.tr (kf51 (c_V_some h9) kc.1) rfl rfl
          exact kc.tt (kb86_94 h kc.1) (fun _ q => q) (fun _ q => q)
        · exact kc.tt (kb86_72 h kc.1) (fun _ q => q) (fun _ q => q)
      · exact kc.tt (kb86_72 h kc.1) (fun _ q => q) (fun _ q => q)
    · obtain ⟨o_21, -, h⟩ := bd h
      obtain ⟨v_23, -, h⟩ := bd h
      obtain ⟨b_27, -, h⟩ := bd h
      obtain ⟨q_25, h13, h⟩ := bd h
      have kc := kc.tr (kf50 (c_V_some h13) kc.1) rfl rfl
      obtain ⟨v_29, -, h⟩ := bd h
      obtain ⟨o_31, -, h⟩ := bd h
      obtain ⟨v_33, -, h⟩ := bd h
      rcases ite_some h with ⟨-, h⟩ | ⟨-, h⟩
      · exact kc.tt (kb86_94 h kc.1) (fun _ q => q) (fun _ q => q)
      · obtain ⟨o_35, -, h⟩ := bd h
        obtain ⟨v_37, -, h⟩ := bd h
        obtain ⟨M39, h19, h⟩ := bd h
        have kc := kc.tr (k_as_i h19 kc.1 (by decide)) rfl rfl
        exact kc.tt (kb86_94 h kc.1) (fun _ q => q) (fun _ q => q)
theorem kf86 {as : List aV} {M M' : hM} {r : Option aV} (h : f86 as M = some (r, M')) (hb : bk M) : kp [10, 12, 13, 200, 201, 202, 203, 300, 301, 302, 907] [0, 20, 21] M M' := by
  unfold f86 at h
  split at h
  · exact kx_out h (fun res hx => kb86_0 hx hb)
  · cases h
theorem kb87_28 {M : hM} {res : xRes} (h : b87_28 M = some res) (hb : bk M) : kp [6] [23] M (r_M res) := by
  have kc : kp [6] [23] M M := kp.rf hb
  unfold b87_28 at h
  cases h
  exact kc
theorem kb87_0 {a0 v1 w2 : _} {M : hM} {res : xRes} (h : b87_0 a0 v1 w2 M = some res) (hb : bk M) : kp [6] [23] M (r_M res) := by
  have kc : kp [6] [23] M M := kp.rf hb
  unfold b87_0 at h
  rcases ite_some h with ⟨-, h⟩ | ⟨-, h⟩
  · exact kc.tt (kb87_28 h kc.1) (fun _ q => q) (fun _ q => q)
  · rcases ite_some h with ⟨-, h⟩ | ⟨-, h⟩
    · exact kc.tt (kb87_28 h kc.1) (fun _ q => q) (fun _ q => q)
    · obtain ⟨o_1, -, h⟩ := bd h
      obtain ⟨M3, h2, h⟩ := bd h
      have kc := kc.tr (k_as_l h2 kc.1 (by decide)) rfl rfl
      obtain ⟨v_5, -, h⟩ := bd h
      obtain ⟨M7, h4, h⟩ := bd h
      have kc := kc.tr (k_pi h4 kc.1) rfl rfl
      exact kc.tt (kb87_28 h kc.1) (fun _ q => q) (fun _ q => q)
theorem kf87 {as : List aV} {M M' : hM} {r : Option aV} (h : f87 as M = some (r, M')) (hb : bk M) : kp [6] [23] M M' := by
  unfold f87 at h
  split at h
  · exact kx_out h (fun res hx => kb87_0 hx hb)
  · cases h
theorem kb88_45 {M : hM} {res : xRes} (h : b88_45 M = some res) (hb : bk M) : kp [6] [23] M (r_M res) := by
  have kc : kp [6] [23] M M := kp.rf hb
  unfold b88_45 at h
  cases h
  exact kc
theorem kb88_0 {a0 o1 : _} {M : hM} {res : xRes} (h : b88_0 a0 o1 M = some res) (hb : bk M) : kp [6] [23] M (r_M res) := by
  have kc : kp [6] [23] M M := kp.rf hb
  unfold b88_0 at h
  obtain ⟨b_3, -, h⟩ := bd h
  obtain ⟨q_1, h2, h⟩ := bd h
  have kc := kc.tr (kf83 (c_R_some h2) kc.1) rfl rfl
  rcases ite_some h with ⟨-, h⟩ | ⟨-, h⟩
  · exact kc.tt (kb88_45 h kc.1) (fun _ q => q) (fun _ q => q)
  · obtain ⟨v_5, -, h⟩ := bd h
    rcases ite_some h with ⟨-, h⟩ | ⟨-, h⟩
    · obtain ⟨b_9, -, h⟩ := bd h
      obtain ⟨q_7, h5, h⟩ := bd h
      have kc := kc.tr (kf71 (c_I_some h5) kc.1) rfl rfl
      obtain ⟨v_11, -, h⟩ := bd h
      rcases ite_some h with ⟨-, h⟩ | ⟨-, h⟩
      · exact kc.tt (kb88_45 h kc.1) (fun _ q => q) (fun _ q => q)
      · obtain ⟨b_15, -, h⟩ := bd h
        obtain ⟨q_13, h8, h⟩ := bd h
        have kc := kc.tr (kf71 (c_I_some h8) kc.1) rfl rfl
        obtain ⟨b_19, -, h⟩ := bd h
        obtain ⟨q_17, h10, h⟩ := bd h
        have kc := kc.tr (kf56 (c_L_some h10) kc.1) rfl rfl
        obtain ⟨b_23, -, h⟩ := bd h
        obtain ⟨q_21, h12, h⟩ := bd h
        have kc := kc.tr (kf87 (c_V_some h12) kc.1) rfl rfl
        exact kc.tt (kb88_45 h kc.1) (fun _ q => q) (fun _ q => q)
    · exact kc.tt (kb88_45 h kc.1) (fun _ q => q) (fun _ q => q)
theorem kf88 {as : List aV} {M M' : hM} {r : Option aV} (h : f88 as M = some (r, M')) (hb : bk M) : kp [6] [23] M M' := by
  unfold f88 at h
  split at h
  · exact kx_out h (fun res hx => kb88_0 hx hb)
  · cases h
theorem kb89_18 {M : hM} {res : xRes} (h : b89_18 M = some res) (hb : bk M) : kp [200, 201, 202, 203, 300, 301, 302, 907] [0, 20, 21] M (r_M res) := by
  have kc : kp [200, 201, 202, 203, 300, 301, 302, 907] [0, 20, 21] M M := kp.rf hb
  unfold b89_18 at h
  cases h
  exact kc
theorem kb89_0 {a0 o1 : _} {M : hM} {res : xRes} (h : b89_0 a0 o1 M = some res) (hb : bk M) : kp [200, 201, 202, 203, 300, 301, 302, 907] [0, 20, 21] M (r_M res) := by
  have kc : kp [200, 201, 202, 203, 300, 301, 302, 907] [0, 20, 21] M M := kp.rf hb
  unfold b89_0 at h
  obtain ⟨b_3, -, h⟩ := bd h
  obtain ⟨q_1, h2, h⟩ := bd h
  have kc := kc.tr (kf83 (c_R_some h2) kc.1) rfl rfl
  rcases ite_some h with ⟨-, h⟩ | ⟨-, h⟩
  · exact kc.tt (kb89_18 h kc.1) (fun _ q => q) (fun _ q => q)
  · obtain ⟨v_5, -, h⟩ := bd h
    rcases ite_some h with ⟨-, h⟩ | ⟨-, h⟩
    · exact kc.tt (kb89_18 h kc.1) (fun _ q => q) (fun _ q => q)
    · cases h
      exact kc
theorem kb89_21 {a0 o1 o2 v3 : _} {M : hM} {res : xRes} (h : b89_21 a0 o1 o2 v3 M = some res) (hb : bk M) : kp [200, 201, 202, 203, 300, 301, 302, 907] [0, 20, 21] M (r_M res) := by
  have kc : kp [200, 201, 202, 203, 300, 301, 302, 907] [0, 20, 21] M M := kp.rf hb
  unfold b89_21 at h
  obtain ⟨v_9, -, h⟩ := bd h
  rcases ite_some h with ⟨-, h⟩ | ⟨-, h⟩
  · cases h
    exact kc
  · obtain ⟨o_11, -, h⟩ := bd h
    obtain ⟨v_13, -, h⟩ := bd h
    obtain ⟨o_15, -, h⟩ := bd h
    obtain ⟨v_17, -, h⟩ := bd h
    obtain ⟨v_19, -, h⟩ := bd h
    obtain ⟨b_23, -, h⟩ := bd h
    obtain ⟨q_21, h8, h⟩ := bd h
    have kc := kc.tr (kf34 (c_R_some h8) kc.1) rfl rfl
    obtain ⟨b_27, -, h⟩ := bd h
    obtain ⟨q_25, h10, h⟩ := bd h
    have kc := kc.tr (kf70 (c_I_some h10) kc.1) rfl rfl
    obtain ⟨b_31, -, h⟩ := bd h
    obtain ⟨q_29, h12, h⟩ := bd h
    have kc := kc.tr (kf35 (c_V_some h12) kc.1) rfl rfl
    obtain ⟨b_35, -, h⟩ := bd h
    obtain ⟨q_33, h14, h⟩ := bd h
    have kc := kc.tr (kf35 (c_V_some h14) kc.1) rfl rfl
    obtain ⟨w_37, -, h⟩ := bd h
    obtain ⟨b_41, -, h⟩ := bd h
    obtain ⟨q_39, h17, h⟩ := bd h
    have kc := kc.tr (kf36 (c_V_some h17) kc.1) rfl rfl
    obtain ⟨o_43, -, h⟩ := bd h
    obtain ⟨o_45, -, h⟩ := bd h
    obtain ⟨b_49, -, h⟩ := bd h
    obtain ⟨q_47, h21, h⟩ := bd h
    have kc := kc.tr (kf39 (c_V_some h21) kc.1) rfl rfl
    cases h
    exact kc
theorem kf89 {as : List aV} {M M' : hM} {r : Option aV} (h : f89 as M = some (r, M')) (hb : bk M) : kp [200, 201, 202, 203, 300, 301, 302, 907] [0, 20, 21] M M' := by
  unfold f89 at h
  split at h
  · refine kx_go (blk := k89) ?_ h (fun res hx => kb89_0 hx hb)
    intro h as M res hk hb
    unfold k89 at hk
    split at hk
    · split at hk
      · exact kb89_21 hk hb
      · cases hk
    · skip
      cases hk
  · cases h
theorem kb90_21 {M : hM} {res : xRes} (h : b90_21 M = some res) (hb : bk M) : kp [10, 12, 200, 201, 202, 203, 300, 301, 302, 907] [0, 20, 21] M (r_M res) := by
  have kc : kp [10, 12, 200, 201, 202, 203, 300, 301, 302, 907] [0, 20, 21] M M := kp.rf hb
  unfold b90_21 at h
  cases h
  exact kc
theorem kb90_0 {a0 v1 : _} {M : hM} {res : xRes} (h : b90_0 a0 v1 M = some res) (hb : bk M) : kp [10, 12, 200, 201, 202, 203, 300, 301, 302, 907] [0, 20, 21] M (r_M res) := by
  have kc : kp [10, 12, 200, 201, 202, 203, 300, 301, 302, 907] [0, 20, 21] M M := kp.rf hb
  unfold b90_0 at h
  rcases ite_some h with ⟨-, h⟩ | ⟨-, h⟩
  · exact kc.tt (kb90_21 h kc.1) (fun _ q => q) (fun _ q => q)
  · obtain ⟨o_1, -, h⟩ := bd h
    obtain ⟨v_3, -, h⟩ := bd h
    rcases ite_some h with ⟨-, h⟩ | ⟨-, h⟩
    · obtain ⟨o_5, -, h⟩ := bd h
      obtain ⟨M7, h4, h⟩ := bd h
      have kc := kc.tr (k_as_i h4 kc.1 (by decide)) rfl rfl
      cases h
      exact kc
    · exact kc.tt (kb90_21 h kc.1) (fun _ q => q) (fun _ q => q)
theorem kb90_76 {a0 v1 v3 : _} {M : hM} {res : xRes} (h : b90_76 a0 v1 v3 M = some res) (hb : bk M) : kp [10, 12, 200, 201, 202, 203, 300, 301, 302, 907] [0, 20, 21] M (r_M res) := by
  have kc : kp [10, 12, 200, 201, 202, 203, 300, 301, 302, 907] [0, 20, 21] M M := kp.rf hb
  unfold b90_76 at h
  cases h
  exact kc
theorem kb90_31 {a0 v1 v3 : _} {M : hM} {res : xRes} (h : b90_31 a0 v1 v3 M = some res) (hb : bk M) : kp [10, 12, 200, 201, 202, 203, 300, 301, 302, 907] [0, 20, 21] M (r_M res) := by
  have kc : kp [10, 12, 200, 201, 202, 203, 300, 301, 302, 907] [0, 20, 21] M M := kp.rf hb
  unfold b90_31 at h
  obtain ⟨v_11, -, h⟩ := bd h
  rcases ite_some h with ⟨-, h⟩ | ⟨-, h⟩
  · cases h
    exact kc
  · obtain ⟨o_13, -, h⟩ := bd h
    obtain ⟨o_15, -, h⟩ := bd h
    obtain ⟨v_17, -, h⟩ := bd h
    rcases ite_some h with ⟨-, h⟩ | ⟨-, h⟩
    · obtain ⟨o_19, -, h⟩ := bd h
      obtain ⟨o_21, -, h⟩ := bd h
      obtain ⟨v_23, -, h⟩ := bd h
      rcases ite_some h with ⟨-, h⟩ | ⟨-, h⟩
      · obtain ⟨o_25, -, h⟩ := bd h
        obtain ⟨o_27, -, h⟩ := bd h
        obtain ⟨b_31, -, h⟩ := bd h
        obtain ⟨q_29, h11, h⟩ := bd h
        have kc := kc.tr (kf51 (c_V_some h11) kc.1) rfl rfl
        exact kc.tt (kb90_76 h kc.1) (fun _ q => q) (fun _ q => q)
      · exact kc.tt (kb90_76 h kc.1) (fun _ q => q) (fun _ q => q)
    · exact kc.tt (kb90_76 h kc.1) (fun _ q => q) (fun _ q => q)
theorem kf90 {as : List aV} {M M' : hM} {r : Option aV} (h : f90 as M = some (r, M')) (hb : bk M) : kp [10, 12, 200, 201, 202, 203, 300, 301, 302, 907] [0, 20, 21] M M' := by
  unfold f90 at h
  split at h
  · refine kx_go (blk := k90) ?_ h (fun res hx => kb90_0 hx hb)
    intro h as M res hk hb
    unfold k90 at hk
    split at hk
    · split at hk
      · exact kb90_31 hk hb
      · cases hk
    · skip
      cases hk
  · cases h
theorem kb91_37 {M : hM} {res : xRes} (h : b91_37 M = some res) (hb : bk M) : kp [9, 10, 12, 200, 201, 202, 203, 300, 301, 302, 907] [0, 20, 21] M (r_M res) := by
  have kc : kp [9, 10, 12, 200, 201, 202, 203, 300, 301, 302, 907] [0, 20, 21] M M := kp.rf hb
  unfold b91_37 at h
  cases h
  exact kc
theorem kb91_0 {a0 o1 : _} {M : hM} {res : xRes} (h : b91_0 a0 o1 M = some res) (hb : bk M) : kp [9, 10, 12, 200, 201, 202, 203, 300, 301, 302, 907] [0, 20, 21] M (r_M res) := by
  have kc : kp [9, 10, 12, 200, 201, 202, 203, 300, 301, 302, 907] [0, 20, 21] M M := kp.rf hb
  unfold b91_0 at h
  obtain ⟨b_3, -, h⟩ := bd h
  obtain ⟨q_1, h2, h⟩ := bd h
  have kc := kc.tr (kf58 (c_I_some h2) kc.1) rfl rfl
  obtain ⟨b_7, -, h⟩ := bd h
  obtain ⟨q_5, h4, h⟩ := bd h
  have kc := kc.tr (kf56 (c_L_some h4) kc.1) rfl rfl
  obtain ⟨b_11, -, h⟩ := bd h
  obtain ⟨q_9, h6, h⟩ := bd h
  have kc := kc.tr (kf65 (c_I_some h6) kc.1) rfl rfl
  rcases ite_some h with ⟨-, h⟩ | ⟨-, h⟩
  · rcases ite_some h with ⟨-, h⟩ | ⟨-, h⟩
    · exact kc.tt (kb91_37 h kc.1) (fun _ q => q) (fun _ q => q)
    · obtain ⟨o_13, -, h⟩ := bd h
      obtain ⟨v_15, -, h⟩ := bd h
      rcases ite_some h with ⟨-, h⟩ | ⟨-, h⟩
      · cases h
        exact kc
      · exact kc.tt (kb91_37 h kc.1) (fun _ q => q) (fun _ q => q)
  · exact kc.tt (kb91_37 h kc.1) (fun _ q => q) (fun _ q => q)
theorem kb91_114 {a0 v2 v3 v4 : _} {M : hM} {res : xRes} (h : b91_114 a0 v2 v3 v4 M = some res) (hb : bk M) : kp [9, 10, 12, 200, 201, 202, 203, 300, 301, 302, 907] [0, 20, 21] M (r_M res) := by
  have kc : kp [9, 10, 12, 200, 201, 202, 203, 300, 301, 302, 907] [0, 20, 21] M M := kp.rf hb
  unfold b91_114 at h
  cases h
  exact kc
theorem kb91_111 {a0 v2 v3 v4 si0 sr1 sr2 : _} {M : hM} {res : xRes} (h : b91_111 a0 v2 v3 v4 si0 sr1 sr2 M = some res) (hb : bk M) : kp [9, 10, 12, 200, 201, 202, 203, 300, 301, 302, 907] [0, 20, 21] M (r_M res) := by
  have kc : kp [9, 10, 12, 200, 201, 202, 203, 300, 301, 302, 907] [0, 20, 21] M M := kp.rf hb
  unfold b91_111 at h
  obtain ⟨b_54, -, h⟩ := bd h
  obtain ⟨q_52, h2, h⟩ := bd h
  have kc := kc.tr (kf51 (c_V_some h2) kc.1) rfl rfl
  exact kc.tt (kb91_114 h kc.1) (fun _ q => q) (fun _ q => q)
theorem kb91_41 {a0 v2 v3 v4 : _} {M : hM} {res : xRes} (h : b91_41 a0 v2 v3 v4 M = some res) (hb : bk M) : kp [9, 10, 12, 200, 201, 202, 203, 300, 301, 302, 907] [0, 20, 21] M (r_M res) := by
  have kc : kp [9, 10, 12, 200, 201, 202, 203, 300, 301, 302, 907] [0, 20, 21] M M := kp.rf hb
  unfold b91_41 at h
  obtain ⟨v_20, -, h⟩ := bd h
  rcases ite_some h with ⟨-, h⟩ | ⟨-, h⟩
  · cases h
    exact kc
  · obtain ⟨o_22, -, h⟩ := bd h
    obtain ⟨o_24, -, h⟩ := bd h
    obtain ⟨v_26, -, h⟩ := bd h
    rcases ite_some h with ⟨-, h⟩ | ⟨-, h⟩
    · obtain ⟨o_28, -, h⟩ := bd h
      obtain ⟨o_30, -, h⟩ := bd h
      obtain ⟨v_32, -, h⟩ := bd h
      rcases ite_some h with ⟨-, h⟩ | ⟨-, h⟩
      · obtain ⟨o_34, -, h⟩ := bd h
        obtain ⟨o_36, -, h⟩ := bd h
        obtain ⟨M38, h10, h⟩ := bd h
        have kc := kc.tr (k_pi h10 kc.1) rfl rfl
        obtain ⟨o_40, -, h⟩ := bd h
        obtain ⟨o_42, -, h⟩ := bd h
        obtain ⟨o_44, -, h⟩ := bd h
        obtain ⟨v_46, -, h⟩ := bd h
        rcases ite_some h with ⟨-, h⟩ | ⟨-, h⟩
        · exact kc.tt (kb91_111 h kc.1) (fun _ q => q) (fun _ q => q)
        · exact kc.tt (kb91_111 h kc.1) (fun _ q => q) (fun _ q => q)
      · exact kc.tt (kb91_114 h kc.1) (fun _ q => q) (fun _ q => q)
    · exact kc.tt (kb91_114 h kc.1) (fun _ q => q) (fun _ q => q)
theorem kf91 {as : List aV} {M M' : hM} {r : Option aV} (h : f91 as M = some (r, M')) (hb : bk M) : kp [9, 10, 12, 200, 201, 202, 203, 300, 301, 302, 907] [0, 20, 21] M M' := by
  unfold f91 at h
  split at h
  · refine kx_go (blk := k91) ?_ h (fun res hx => kb91_0 hx hb)
    intro h as M res hk hb
    unfold k91 at hk
    split at hk
    · split at hk
      · exact kb91_41 hk hb
      · cases hk
    · skip
      cases hk
  · cases h
theorem kb92_107 {M : hM} {res : xRes} (h : b92_107 M = some res) (hb : bk M) : kp [6, 9, 10, 12, 13, 200, 201, 202, 203, 300, 301, 302, 907] [0, 20, 21, 23] M (r_M res) := by
  have kc : kp [6, 9, 10, 12, 13, 200, 201, 202, 203, 300, 301, 302, 907] [0, 20, 21, 23] M M := kp.rf hb
  unfold b92_107 at h
  cases h
  exact kc
theorem kb92_0 {a0 o1 : _} {M : hM} {res : xRes} (h : b92_0 a0 o1 M = some res) (hb : bk M) : kp [6, 9, 10, 12, 13, 200, 201, 202, 203, 300, 301, 302, 907] [0, 20, 21, 23] M (r_M res) := by
  have kc : kp [6, 9, 10, 12, 13, 200, 201, 202, 203, 300, 301, 302, 907] [0, 20, 21, 23] M M := kp.rf hb
  unfold b92_0 at h
  obtain ⟨b_3, -, h⟩ := bd h
  obtain ⟨q_1, h2, h⟩ := bd h
  have kc := kc.tr (kf57 (c_I_some h2) kc.1) rfl rfl
  rcases ite_some h with ⟨-, h⟩ | ⟨-, h⟩
  · obtain ⟨b_8, -, h⟩ := bd h
    obtain ⟨q_6, h4, h⟩ := bd h
    have kc := kc.tr (kf91 (c_V_some h4) kc.1) rfl rfl
    exact kc.tt (kb92_107 h kc.1) (fun _ q => q) (fun _ q => q)
  · rcases ite_some h with ⟨-, h⟩ | ⟨-, h⟩
    · exact kc.tt (kb92_107 h kc.1) (fun _ q => q) (fun _ q => q)
    · rcases ite_some h with ⟨-, h⟩ | ⟨-, h⟩
      · obtain ⟨b_14, -, h⟩ := bd h
        obtain ⟨q_12, h6, h⟩ := bd h
        have kc := kc.tr (kf65 (c_I_some h6) kc.1) rfl rfl
        obtain ⟨b_18, -, h⟩ := bd h
        obtain ⟨q_16, h8, h⟩ := bd h
        have kc := kc.tr (kf90 (c_V_some h8) kc.1) rfl rfl
        exact kc.tt (kb92_107 h kc.1) (fun _ q => q) (fun _ q => q)
      · rcases ite_some h with ⟨-, h⟩ | ⟨-, h⟩
        · exact kc.tt (kb92_107 h kc.1) (fun _ q => q) (fun _ q => q)
        · rcases ite_some h with ⟨-, h⟩ | ⟨-, h⟩
          · obtain ⟨b_24, -, h⟩ := bd h
            obtain ⟨q_22, h10, h⟩ := bd h
            have kc := kc.tr (kf89 (c_V_some h10) kc.1) rfl rfl
            exact kc.tt (kb92_107 h kc.1) (fun _ q => q) (fun _ q => q)
          · rcases ite_some h with ⟨-, h⟩ | ⟨-, h⟩
            · obtain ⟨b_29, -, h⟩ := bd h
              obtain ⟨q_27, h12, h⟩ := bd h
              have kc := kc.tr (kf88 (c_V_some h12) kc.1) rfl rfl
              exact kc.tt (kb92_107 h kc.1) (fun _ q => q) (fun _ q => q)
            · rcases ite_some h with ⟨-, h⟩ | ⟨-, h⟩
              · obtain ⟨b_34, -, h⟩ := bd h
                obtain ⟨q_32, h14, h⟩ := bd h
                have kc := kc.tr (kf86 (c_V_some h14) kc.1) rfl rfl
                exact kc.tt (kb92_107 h kc.1) (fun _ q => q) (fun _ q => q)
              · rcases ite_some h with ⟨-, h⟩ | ⟨-, h⟩
                · exact kc.tt (kb92_107 h kc.1) (fun _ q => q) (fun _ q => q)
                · rcases ite_some h with ⟨-, h⟩ | ⟨-, h⟩
                  · obtain ⟨b_40, -, h⟩ := bd h
                    obtain ⟨q_38, h16, h⟩ := bd h
                    have kc := kc.tr (kf84 (c_V_some h16) kc.1) rfl rfl
                    exact kc.tt (kb92_107 h kc.1) (fun _ q => q) (fun _ q => q)
                  · exact kc.tt (kb92_107 h kc.1) (fun _ q => q) (fun _ q => q)
theorem kf92 {as : List aV} {M M' : hM} {r : Option aV} (h : f92 as M = some (r, M')) (hb : bk M) : kp [6, 9, 10, 12, 13, 200, 201, 202, 203, 300, 301, 302, 907] [0, 20, 21, 23] M M' := by
  unfold f92 at h
  split at h
  · exact kx_out h (fun res hx => kb92_0 hx hb)
  · cases h
theorem kb93_19 {a0 v1 : _} {M : hM} {res : xRes} (h : b93_19 a0 v1 M = some res) (hb : bk M) : kp [104, 503, 700] [20] M (r_M res) := by
  have kc : kp [104, 503, 700] [20] M M := kp.rf hb
  unfold b93_19 at h
  obtain ⟨M11, h1, h⟩ := bd h
  have kc := kc.tr (k_pi h1 kc.1) rfl rfl
  cases h
  exact kc
theorem kb93_0 {a0 v1 : _} {M : hM} {res : xRes} (h : b93_0 a0 v1 M = some res) (hb : bk M) : kp [104, 503, 700] [20] M (r_M res) := by
  have kc : kp [104, 503, 700] [20] M M := kp.rf hb
  unfold b93_0 at h
  obtain ⟨v_1, -, h⟩ := bd h
  rcases ite_some h with ⟨-, h⟩ | ⟨-, h⟩
  · exact kc.tt (kb93_19 h kc.1) (fun _ q => q) (fun _ q => q)
  · obtain ⟨v_3, -, h⟩ := bd h
    rcases ite_some h with ⟨-, h⟩ | ⟨-, h⟩
    · exact kc.tt (kb93_19 h kc.1) (fun _ q => q) (fun _ q => q)
    · obtain ⟨b_7, -, h⟩ := bd h
      obtain ⟨q_5, h4, h⟩ := bd h
      have kc := kc.tr (kf22 (c_V_some h4) kc.1) rfl rfl
      exact kc.tt (kb93_19 h kc.1) (fun _ q => q) (fun _ q => q)
theorem kf93 {as : List aV} {M M' : hM} {r : Option aV} (h : f93 as M = some (r, M')) (hb : bk M) : kp [104, 503, 700] [20] M M' := by
  unfold f93 at h
  split at h
  · exact kx_out h (fun res hx => kb93_0 hx hb)
  · cases h
theorem kb94_0 {a0 : _} {M : hM} {res : xRes} (h : b94_0 a0 M = some res) (hb : bk M) : kp [6, 9, 10, 12, 13, 104, 106, 200, 201, 202, 203, 300, 301, 302, 503, 700, 701, 702, 703, 704, 705, 706, 707, 806, 807, 808, 813, 814, 907] [0, 20, 21, 23] M (r_M res) := by
  have kc : kp [6, 9, 10, 12, 13, 104, 106, 200, 201, 202, 203, 300, 301, 302, 503, 700, 701, 702, 703, 704, 705, 706, 707, 806, 807, 808, 813, 814, 907] [0, 20, 21, 23] M M := kp.rf hb
  unfold b94_0 at h
  obtain ⟨o_1, -, h⟩ := bd h
  obtain ⟨o_3, -, h⟩ := bd h
  obtain ⟨v_5, -, h⟩ := bd h
  cases h
  exact kc
theorem kb94_131 {a0 v1 o2 : _} {M : hM} {res : xRes} (h : b94_131 a0 v1 o2 M = some res) (hb : bk M) : kp [6, 9, 10, 12, 13, 104, 106, 200, 201, 202, 203, 300, 301, 302, 503, 700, 701, 702, 703, 704, 705, 706, 707, 806, 807, 808, 813, 814, 907] [0, 20, 21, 23] M (r_M res) := by
  have kc : kp [6, 9, 10, 12, 13, 104, 106, 200, 201, 202, 203, 300, 301, 302, 503, 700, 701, 702, 703, 704, 705, 706, 707, 806, 807, 808, 813, 814, 907] [0, 20, 21, 23] M M := kp.rf hb
  unfold b94_131 at h
  obtain ⟨o_74, -, h⟩ := bd h
  obtain ⟨b_78, -, h⟩ := bd h
  obtain ⟨q_76, h3, h⟩ := bd h
  have kc := kc.tr (kf17 (c_V_some h3) kc.1) rfl rfl
  cases h
  exact kc
theorem kb94_80 {a0 v1 o2 : _} {M : hM} {res : xRes} (h : b94_80 a0 v1 o2 M = some res) (hb : bk M) : kp [6, 9, 10, 12, 13, 104, 106, 200, 201, 202, 203, 300, 301, 302, 503, 700, 701, 702, 703, 704, 705, 706, 707, 806, 807, 808, 813, 814, 907] [0, 20, 21, 23] M (r_M res) := by
  have kc : kp [6, 9, 10, 12, 13, 104, 106, 200, 201, 202, 203, 300, 301, 302, 503, 700, 701, 702, 703, 704, 705, 706, 707, 806, 807, 808, 813, 814, 907] [0, 20, 21, 23] M M := kp.rf hb
  unfold b94_80 at h
  obtain ⟨v_46, -, h⟩ := bd h
  rcases ite_some h with ⟨-, h⟩ | ⟨-, h⟩
  · exact kc.tt (kb94_131 h kc.1) (fun _ q => q) (fun _ q => q)
  · obtain ⟨b_50, -, h⟩ := bd h
    obtain ⟨q_48, h3, h⟩ := bd h
    have kc := kc.tr (kf64 (c_I_some h3) kc.1) rfl rfl
    obtain ⟨v_52, -, h⟩ := bd h
    rcases ite_some h with ⟨-, h⟩ | ⟨-, h⟩
    · obtain ⟨o_54, -, h⟩ := bd h
      rcases ite_some h with ⟨-, h⟩ | ⟨-, h⟩
      · obtain ⟨o_56, -, h⟩ := bd h
        rcases ite_some h with ⟨-, h⟩ | ⟨-, h⟩
        · exact kc.tt (kb94_131 h kc.1) (fun _ q => q) (fun _ q => q)
        · obtain ⟨o_58, -, h⟩ := bd h
          obtain ⟨b_62, -, h⟩ := bd h
          obtain ⟨q_60, h9, h⟩ := bd h
          have kc := kc.tr (kf82 (c_V_some h9) kc.1) rfl rfl
          exact kc.tt (kb94_131 h kc.1) (fun _ q => q) (fun _ q => q)
      · obtain ⟨o_65, -, h⟩ := bd h
        obtain ⟨b_69, -, h⟩ := bd h
        obtain ⟨q_67, h12, h⟩ := bd h
        have kc := kc.tr (kf92 (c_V_some h12) kc.1) rfl rfl
        exact kc.tt (kb94_131 h kc.1) (fun _ q => q) (fun _ q => q)
    · exact kc.tt (kb94_131 h kc.1) (fun _ q => q) (fun _ q => q)
theorem kb94_177 {a0 : _} {M : hM} {res : xRes} (h : b94_177 a0 M = some res) (hb : bk M) : kp [6, 9, 10, 12, 13, 104, 106, 200, 201, 202, 203, 300, 301, 302, 503, 700, 701, 702, 703, 704, 705, 706, 707, 806, 807, 808, 813, 814, 907] [0, 20, 21, 23] M (r_M res) := by
  have kc : kp [6, 9, 10, 12, 13, 104, 106, 200, 201, 202, 203, 300, 301, 302, 503, 700, 701, 702, 703, 704, 705, 706, 707, 806, 807, 808, 813, 814, 907] [0, 20, 21, 23] M M := kp.rf hb
  unfold b94_177 at h
  obtain ⟨o_102, -, h⟩ := bd h
  obtain ⟨b_106, -, h⟩ := bd h
  obtain ⟨q_104, h3, h⟩ := bd h
  have kc := kc.tr (kf45 (c_V_some h3) kc.1) rfl rfl
  cases h
  exact kc
theorem kb94_163 {a0 : _} {M : hM} {res : xRes} (h : b94_163 a0 M = some res) (hb : bk M) : kp [6, 9, 10, 12, 13, 104, 106, 200, 201, 202, 203, 300, 301, 302, 503, 700, 701, 702, 703, 704, 705, 706, 707, 806, 807, 808, 813, 814, 907] [0, 20, 21, 23] M (r_M res) := by
  have kc : kp [6, 9, 10, 12, 13, 104, 106, 200, 201, 202, 203, 300, 301, 302, 503, 700, 701, 702, 703, 704, 705, 706, 707, 806, 807, 808, 813, 814, 907] [0, 20, 21, 23] M M := kp.rf hb
  unfold b94_163 at h
  obtain ⟨o_93, -, h⟩ := bd h
  rcases ite_some h with ⟨-, h⟩ | ⟨-, h⟩
  · exact kc.tt (kb94_177 h kc.1) (fun _ q => q) (fun _ q => q)
  · obtain ⟨o_95, -, h⟩ := bd h
    obtain ⟨b_99, -, h⟩ := bd h
    obtain ⟨q_97, h4, h⟩ := bd h
    have kc := kc.tr (kf46 (c_V_some h4) kc.1) rfl rfl
    exact kc.tt (kb94_177 h kc.1) (fun _ q => q) (fun _ q => q)
theorem kb94_145 {a0 : _} {M : hM} {res : xRes} (h : b94_145 a0 M = some res) (hb : bk M) : kp [6, 9, 10, 12, 13, 104, 106, 200, 201, 202, 203, 300, 301, 302, 503, 700, 701, 702, 703, 704, 705, 706, 707, 806, 807, 808, 813, 814, 907] [0, 20, 21, 23] M (r_M res) := by
  have kc : kp [6, 9, 10, 12, 13, 104, 106, 200, 201, 202, 203, 300, 301, 302, 503, 700, 701, 702, 703, 704, 705, 706, 707, 806, 807, 808, 813, 814, 907] [0, 20, 21, 23] M M := kp.rf hb
  unfold b94_145 at h
  obtain ⟨b_82, -, h⟩ := bd h
  obtain ⟨q_80, h2, h⟩ := bd h
  have kc := kc.tr (kf40 (c_V_some h2) kc.1) rfl rfl
  obtain ⟨o_84, -, h⟩ := bd h
  rcases ite_some h with ⟨-, h⟩ | ⟨-, h⟩
  · exact kc.tt (kb94_163 h kc.1) (fun _ q => q) (fun _ q => q)
  · obtain ⟨o_86, -, h⟩ := bd h
    obtain ⟨b_90, -, h⟩ := bd h
    obtain ⟨q_88, h6, h⟩ := bd h
    have kc := kc.tr (kf53 (c_V_some h6) kc.1) rfl rfl
    exact kc.tt (kb94_163 h kc.1) (fun _ q => q) (fun _ q => q)
theorem kb94_11 {a0 v1 : _} {M : hM} {res : xRes} (h : b94_11 a0 v1 M = some res) (hb : bk M) : kp [6, 9, 10, 12, 13, 104, 106, 200, 201, 202, 203, 300, 301, 302, 503, 700, 701, 702, 703, 704, 705, 706, 707, 806, 807, 808, 813, 814, 907] [0, 20, 21, 23] M (r_M res) := by
  have kc : kp [6, 9, 10, 12, 13, 104, 106, 200, 201, 202, 203, 300, 301, 302, 503, 700, 701, 702, 703, 704, 705, 706, 707, 806, 807, 808, 813, 814, 907] [0, 20, 21, 23] M M := kp.rf hb
  unfold b94_11 at h
  rcases ite_some h with ⟨-, h⟩ | ⟨-, h⟩
  · exact kc.tt (kb94_145 h kc.1) (fun _ q => q) (fun _ q => q)
  · obtain ⟨o_7, -, h⟩ := bd h
    obtain ⟨b_11, -, h⟩ := bd h
    obtain ⟨q_9, h3, h⟩ := bd h
    have kc := kc.tr (kf54 (c_R_some h3) kc.1) rfl rfl
    rcases ite_some h with ⟨-, h⟩ | ⟨-, h⟩
    · exact kc.tt (kb94_145 h kc.1) (fun _ q => q) (fun _ q => q)
    · obtain ⟨o_13, -, h⟩ := bd h
      obtain ⟨b_17, -, h⟩ := bd h
      obtain ⟨q_15, h6, h⟩ := bd h
      have kc := kc.tr (kf63 (c_I_some h6) kc.1) rfl rfl
      rcases ite_some h with ⟨-, h⟩ | ⟨-, h⟩
      · obtain ⟨o_37, -, h⟩ := bd h
        obtain ⟨b_41, -, h⟩ := bd h
        obtain ⟨q_39, h9, h⟩ := bd h
        have kc := kc.tr (kf37 (c_V_some h9) kc.1) rfl rfl
        exact kc.tt (kb94_131 h kc.1) (fun _ q => q) (fun _ q => q)
      · obtain ⟨b_21, -, h⟩ := bd h
        obtain ⟨q_19, h11, h⟩ := bd h
        have kc := kc.tr (kf57 (c_I_some h11) kc.1) rfl rfl
        rcases ite_some h with ⟨-, h⟩ | ⟨-, h⟩
        · obtain ⟨b_25, -, h⟩ := bd h
          obtain ⟨q_23, h13, h⟩ := bd h
          have kc := kc.tr (kf65 (c_I_some h13) kc.1) rfl rfl
          rcases ite_some h with ⟨-, h⟩ | ⟨-, h⟩
          · obtain ⟨b_29, -, h⟩ := bd h
            obtain ⟨q_27, h15, h⟩ := bd h
            have kc := kc.tr (kf64 (c_I_some h15) kc.1) rfl rfl
            obtain ⟨b_33, -, h⟩ := bd h
            obtain ⟨q_31, h17, h⟩ := bd h
            have kc := kc.tr (kf93 (c_V_some h17) kc.1) rfl rfl
            exact kc.tt (kb94_131 h kc.1) (fun _ q => q) (fun _ q => q)
          · exact kc.tt (kb94_80 h kc.1) (fun _ q => q) (fun _ q => q)
        · exact kc.tt (kb94_80 h kc.1) (fun _ q => q) (fun _ q => q)
theorem kf94 {as : List aV} {M M' : hM} {r : Option aV} (h : f94 as M = some (r, M')) (hb : bk M) : kp [6, 9, 10, 12, 13, 104, 106, 200, 201, 202, 203, 300, 301, 302, 503, 700, 701, 702, 703, 704, 705, 706, 707, 806, 807, 808, 813, 814, 907] [0, 20, 21, 23] M M' := by
  unfold f94 at h
  split at h
  · refine kx_go (blk := k94) ?_ h (fun res hx => kb94_0 hx hb)
    intro h as M res hk hb
    unfold k94 at hk
    split at hk
    · split at hk
      · exact kb94_11 hk hb
      · cases hk
    · skip
      cases hk
  · cases h
