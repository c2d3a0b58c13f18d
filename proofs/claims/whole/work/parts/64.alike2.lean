theorem wb95_0 {a0 : Nat} {a0_x : Nat} {Y : Nat → Prop} {M0 : hM} {ρ : Nat → Nat} {M H : hM} {res : xRes} (h : b95_0 a0 M = some res) (g : rn Y M0 ρ M H) (r_a0 : vn ρ M a0 a0_x) : wq Y M0 ρ M res (b95_0 a0_x H) := by
  unfold b95_0 at h ⊢
  cases h
  exact ⟨_, _, rfl, (vs_g (vl_c (va_r r_a0.so) (vl_c va_i vl_n))), g, ex.rf⟩
theorem wb95_64 {a0 : Nat} {a0_x : Nat} {v1 : Int32} {Y : Nat → Prop} {M0 : hM} {ρ : Nat → Nat} {M H : hM} {res : xRes} (h : b95_64 a0 v1 M = some res) (g : rn Y M0 ρ M H) (r_a0 : vn ρ M a0 a0_x) : wq Y M0 ρ M res (b95_64 a0_x v1 H) := by
  unfold b95_64 at h ⊢
  cases h
  exact ⟨_, _, rfl, (vs_g (vl_c (va_r r_a0.so) (vl_c va_i vl_n))), g, ex.rf⟩
theorem wb95_43 {a0 : Nat} {a0_x : Nat} {v1 : Int32} {o2 : Option Nat} {o2_x : Option Nat} {Y : Nat → Prop} {M0 : hM} {ρ : Nat → Nat} {M H : hM} {res : xRes} (h : b95_43 a0 v1 o2 M = some res) (g : rn Y M0 ρ M H) (r_a0 : vn ρ M a0 a0_x) (r_o2 : vo ρ M o2 o2_x) : wq Y M0 ρ M res (b95_43 a0_x v1 o2_x H) := by
  unfold b95_43 at h ⊢
  obtain ⟨M17, h1, h⟩ := bd h
  obtain ⟨_, e, g, x⟩ := w_pi g r_o2 h1
  refine wq_bd e (wq_up x ?_)
  have r_o2 := r_o2.up x
  have r_a0 := r_a0.up x
  obtain ⟨o_19, h2, h⟩ := bd h
  obtain ⟨o_19_x, e, r_o_19⟩ := w_gr g r_a0.so h2
  refine wq_bd e ?_
  obtain ⟨b_23, h3, h⟩ := bd h
  obtain ⟨b_23_x, e, r_b_23⟩ := w_go g r_o_19 h3
  refine wq_bd e ?_
  obtain ⟨q_21, h4, h⟩ := bd h
  obtain ⟨_, _, _, e, g, x, r_q⟩ := wc_R (f := f34) h4 (fun e => w34 e g (vl_c (va_r r_b_23.so) (vl_c va_i (vl_c va_i (vl_c va_i (vl_c va_i vl_n))))))
  refine wq_bd e (wq_up x ?_)
  have r_o2 := r_o2.up x
  have r_a0 := r_a0.up x
  have r_q_21_1 := r_q
  obtain ⟨b_27, h5, h⟩ := bd h
  obtain ⟨b_27_x, e, r_b_27⟩ := w_go g r_o2 h5
  refine wq_bd e ?_
  obtain ⟨q_25, h6, h⟩ := bd h
  obtain ⟨_, _, e, g, x⟩ := wc_V (f := f39) h6 (fun e => w39 e g (vl_c (va_r r_b_27.so) (vl_c (va_r r_q_21_1) vl_n)))
  refine wq_bd e (wq_up x ?_)
  have r_a0 := r_a0.up x
  exact wb95_64 h g r_a0
theorem wb95_2 {a0 : Nat} {a0_x : Nat} {v1 : Int32} {Y : Nat → Prop} {M0 : hM} {ρ : Nat → Nat} {M H : hM} {res : xRes} (h : b95_2 a0 v1 M = some res) (g : rn Y M0 ρ M H) (r_a0 : vn ρ M a0 a0_x) : wq Y M0 ρ M res (b95_2 a0_x v1 H) := by
  unfold b95_2 at h ⊢
  rcases ite_some h with ⟨q, h⟩ | ⟨q, h⟩
  · refine wq_ip q ?_
    cases h
    exact ⟨_, _, rfl, vs_n, g, ex.rf⟩
  · refine wq_in q ?_
    obtain ⟨o_1, h1, h⟩ := bd h
    obtain ⟨o_1_x, e, r_o_1⟩ := w_gr g r_a0.so h1
    refine wq_bd e ?_
    obtain ⟨o_3, h2, h⟩ := bd h
    obtain ⟨o_3_x, e, r_o_3⟩ := w_alr g r_o_1 h2
    refine wq_bd e ?_
    obtain ⟨v_5, h3, h⟩ := bd h
    refine wq_bd (w_gi g r_o_3 h3) ?_
    rcases ite_some h with ⟨q, h⟩ | ⟨q, h⟩
    · refine wq_ip q ?_
      exact wb95_64 h g r_a0
    · refine wq_in q ?_
      obtain ⟨v_7, h4, h⟩ := bd h
      refine wq_bd (w_gi g r_a0.so h4) ?_
      rcases ite_some h with ⟨q, h⟩ | ⟨q, h⟩
      · refine wq_ip q ?_
        obtain ⟨v_9, h5, h⟩ := bd h
        refine wq_bd (w_gi g r_o_3 h5) ?_
        obtain ⟨v_11, h6, h⟩ := bd h
        refine wq_bd (w_gi g r_a0.so h6) ?_
        rcases ite_some h with ⟨q, h⟩ | ⟨q, h⟩
        · refine wq_ip q ?_
          exact wb95_64 h g r_a0
        · refine wq_in q ?_
          exact wb95_43 h g r_a0 r_o_3
      · refine wq_in q ?_
        exact wb95_43 h g r_a0 r_o_3
theorem w95 {Y : Nat → Prop} {M0 : hM} {ρ : Nat → Nat} {as as_x : List aV} {M H M' : hM} {r : Option aV} (h : f95 as M = some (r, M')) (g : rn Y M0 ρ M H) (ha : vl ρ M as as_x) : wr Y M0 ρ M r M' (f95 as_x H) := by
  unfold f95 at h
  split at h
  · rename_i a0
    obtain ⟨a0_x, _, rfl, r_a0, ha1⟩ := vl_is ha
    cases vl_in ha1
    show wr Y M0 ρ M r M' (x_go k95 (b95_0 a0_x H))
    refine wx_go (blk := k95) ?_ h (fun res hx => wb95_0 hx g r_a0)
    intro ρ h as as_x M H res hk g ha
    unfold k95 at hk
    split at hk
    · rename_i hh
      subst hh
      split at hk
      · rename_i a0 v1
        obtain ⟨a0_x, _, rfl, r_a0, ha1⟩ := vl_is ha
        obtain ⟨_, rfl, ha2⟩ := vl_ii ha1
        cases vl_in ha2
        exact wb95_2 hk g r_a0
      · cases hk
    · skip
      cases hk
  · cases h
theorem wb96_26 {si0 : Int32} {Y : Nat → Prop} {M0 : hM} {ρ : Nat → Nat} {M H : hM} {res : xRes} (h : b96_26 si0 M = some res) (g : rn Y M0 ρ M H)  : wq Y M0 ρ M res (b96_26 si0 H) := by
  unfold b96_26 at h ⊢
  cases h
  exact ⟨_, _, rfl, (vs_a va_i), g, ex.rf⟩
theorem wb96_25  {Y : Nat → Prop} {M0 : hM} {ρ : Nat → Nat} {M H : hM} {res : xRes} (h : b96_25  M = some res) (g : rn Y M0 ρ M H)  : wq Y M0 ρ M res (b96_25  H) := by
  unfold b96_25 at h ⊢
  exact wb96_26 h g 
theorem wb96_0 {a0 : Nat} {a0_x : Nat} {v1 : Int32} {Y : Nat → Prop} {M0 : hM} {ρ : Nat → Nat} {M H : hM} {res : xRes} (h : b96_0 a0 v1 M = some res) (g : rn Y M0 ρ M H) (r_a0 : vn ρ M a0 a0_x) : wq Y M0 ρ M res (b96_0 a0_x v1 H) := by
  unfold b96_0 at h ⊢
  rcases ite_some h with ⟨q, h⟩ | ⟨q, h⟩
  · refine wq_ip q ?_
    exact wb96_25 h g 
  · refine wq_in q ?_
    obtain ⟨v_1, h1, h⟩ := bd h
    refine wq_bd (w_gi g r_a0.so h1) ?_
    rcases ite_some h with ⟨q, h⟩ | ⟨q, h⟩
    · refine wq_ip q ?_
      exact wb96_25 h g 
    · refine wq_in q ?_
      obtain ⟨o_3, h2, h⟩ := bd h
      obtain ⟨o_3_x, e, r_o_3⟩ := w_gr g r_a0.so h2
      refine wq_bd e ?_
      obtain ⟨v_5, h3, h⟩ := bd h
      refine wq_bd (w_ali g r_o_3 h3) ?_
      exact wb96_26 h g 
theorem w96 {Y : Nat → Prop} {M0 : hM} {ρ : Nat → Nat} {as as_x : List aV} {M H M' : hM} {r : Option aV} (h : f96 as M = some (r, M')) (g : rn Y M0 ρ M H) (ha : vl ρ M as as_x) : wr Y M0 ρ M r M' (f96 as_x H) := by
  unfold f96 at h
  split at h
  · rename_i a0 v1
    obtain ⟨a0_x, _, rfl, r_a0, ha1⟩ := vl_is ha
    obtain ⟨_, rfl, ha2⟩ := vl_ii ha1
    cases vl_in ha2
    exact wx_out h (fun res hx => wb96_0 hx g r_a0)
  · cases h
theorem wb97_0 {a0 : Nat} {a0_x : Nat} {Y : Nat → Prop} {M0 : hM} {ρ : Nat → Nat} {M H : hM} {res : xRes} (h : b97_0 a0 M = some res) (g : rn Y M0 ρ M H) (r_a0 : vn ρ M a0 a0_x) : wq Y M0 ρ M res (b97_0 a0_x H) := by
  unfold b97_0 at h ⊢
  obtain ⟨b_3, h1, h⟩ := bd h
  obtain ⟨b_3_x, e, r_b_3⟩ := w_go g r_a0.so h1
  refine wq_bd e ?_
  obtain ⟨q_1, h2, h⟩ := bd h
  obtain ⟨_, _, e, g, x⟩ := wc_I (f := f96) h2 (fun e => w96 e g (vl_c (va_r r_b_3.so) (vl_c va_i vl_n)))
  refine wq_bd e (wq_up x ?_)
  cases h
  exact ⟨_, _, rfl, (vs_a va_i), g, ex.rf⟩
theorem w97 {Y : Nat → Prop} {M0 : hM} {ρ : Nat → Nat} {as as_x : List aV} {M H M' : hM} {r : Option aV} (h : f97 as M = some (r, M')) (g : rn Y M0 ρ M H) (ha : vl ρ M as as_x) : wr Y M0 ρ M r M' (f97 as_x H) := by
  unfold f97 at h
  split at h
  · rename_i a0
    obtain ⟨a0_x, _, rfl, r_a0, ha1⟩ := vl_is ha
    cases vl_in ha1
    exact wx_out h (fun res hx => wb97_0 hx g r_a0)
  · cases h
theorem wb98_0 {a0 : Nat} {a0_x : Nat} {v1 : Int32} {Y : Nat → Prop} {M0 : hM} {ρ : Nat → Nat} {M H : hM} {res : xRes} (h : b98_0 a0 v1 M = some res) (g : rn Y M0 ρ M H) (r_a0 : vn ρ M a0 a0_x) : wq Y M0 ρ M res (b98_0 a0_x v1 H) := by
  unfold b98_0 at h ⊢
  obtain ⟨b_3, h1, h⟩ := bd h
  obtain ⟨b_3_x, e, r_b_3⟩ := w_go g r_a0.so h1
  refine wq_bd e ?_
  obtain ⟨q_1, h2, h⟩ := bd h
  obtain ⟨_, _, e, g, x⟩ := wc_I (f := f96) h2 (fun e => w96 e g (vl_c (va_r r_b_3.so) (vl_c va_i vl_n)))
  refine wq_bd e (wq_up x ?_)
  cases h
  exact ⟨_, _, rfl, (vs_a va_i), g, ex.rf⟩
theorem w98 {Y : Nat → Prop} {M0 : hM} {ρ : Nat → Nat} {as as_x : List aV} {M H M' : hM} {r : Option aV} (h : f98 as M = some (r, M')) (g : rn Y M0 ρ M H) (ha : vl ρ M as as_x) : wr Y M0 ρ M r M' (f98 as_x H) := by
  unfold f98 at h
  split at h
  · rename_i a0 v1
    obtain ⟨a0_x, _, rfl, r_a0, ha1⟩ := vl_is ha
    obtain ⟨_, rfl, ha2⟩ := vl_ii ha1
    cases vl_in ha2
    exact wx_out h (fun res hx => wb98_0 hx g r_a0)
  · cases h
theorem wb99_0 {a0 : Nat} {a0_x : Nat} {v1 : Int32} {Y : Nat → Prop} {M0 : hM} {ρ : Nat → Nat} {M H : hM} {res : xRes} (h : b99_0 a0 v1 M = some res) (g : rn Y M0 ρ M H) (r_a0 : vn ρ M a0 a0_x) : wq Y M0 ρ M res (b99_0 a0_x v1 H) := by
  unfold b99_0 at h ⊢
  obtain ⟨b_3, h1, h⟩ := bd h
  obtain ⟨b_3_x, e, r_b_3⟩ := w_go g r_a0.so h1
  refine wq_bd e ?_
  obtain ⟨q_1, h2, h⟩ := bd h
  obtain ⟨_, _, e, g, x⟩ := wc_I (f := f96) h2 (fun e => w96 e g (vl_c (va_r r_b_3.so) (vl_c va_i vl_n)))
  refine wq_bd e (wq_up x ?_)
  cases h
  exact ⟨_, _, rfl, (vs_a va_i), g, ex.rf⟩
theorem w99 {Y : Nat → Prop} {M0 : hM} {ρ : Nat → Nat} {as as_x : List aV} {M H M' : hM} {r : Option aV} (h : f99 as M = some (r, M')) (g : rn Y M0 ρ M H) (ha : vl ρ M as as_x) : wr Y M0 ρ M r M' (f99 as_x H) := by
  unfold f99 at h
  split at h
  · rename_i a0 v1
    obtain ⟨a0_x, _, rfl, r_a0, ha1⟩ := vl_is ha
    obtain ⟨_, rfl, ha2⟩ := vl_ii ha1
    cases vl_in ha2
    exact wx_out h (fun res hx => wb99_0 hx g r_a0)
  · cases h
theorem wb100_0 {a0 : Nat} {a0_x : Nat} {Y : Nat → Prop} {M0 : hM} {ρ : Nat → Nat} {M H : hM} {res : xRes} (h : b100_0 a0 M = some res) (g : rn Y M0 ρ M H) (r_a0 : vn ρ M a0 a0_x) : wq Y M0 ρ M res (b100_0 a0_x H) := by
  unfold b100_0 at h ⊢
  cases h
  exact ⟨_, _, rfl, (vs_g (vl_c (va_r r_a0.so) (vl_c va_i vl_n))), g, ex.rf⟩
theorem wb100_2 {a0 : Nat} {a0_x : Nat} {v1 : Int32} {Y : Nat → Prop} {M0 : hM} {ρ : Nat → Nat} {M H : hM} {res : xRes} (h : b100_2 a0 v1 M = some res) (g : rn Y M0 ρ M H) (r_a0 : vn ρ M a0 a0_x) : wq Y M0 ρ M res (b100_2 a0_x v1 H) := by
  unfold b100_2 at h ⊢
  obtain ⟨o_1, h1, h⟩ := bd h
  obtain ⟨o_1_x, e, r_o_1⟩ := w_gr g r_a0.so h1
  refine wq_bd e ?_
  obtain ⟨v_3, h2, h⟩ := bd h
  refine wq_bd (w_aln g r_o_1 h2) ?_
  rcases ite_some h with ⟨q, h⟩ | ⟨q, h⟩
  · refine wq_ip q ?_
    cases h
    exact ⟨_, _, rfl, vs_n, g, ex.rf⟩
  · refine wq_in q ?_
    cases h
    exact ⟨_, _, rfl, (vs_g (vl_c (va_r r_a0.so) (vl_c va_i (vl_c va_i vl_n)))), g, ex.rf⟩
theorem wb100_13 {a0 : Nat} {a0_x : Nat} {v1 : Int32} {v2 : Int32} {Y : Nat → Prop} {M0 : hM} {ρ : Nat → Nat} {M H : hM} {res : xRes} (h : b100_13 a0 v1 v2 M = some res) (g : rn Y M0 ρ M H) (r_a0 : vn ρ M a0 a0_x) : wq Y M0 ρ M res (b100_13 a0_x v1 v2 H) := by
  unfold b100_13 at h ⊢
  obtain ⟨o_6, h1, h⟩ := bd h
  obtain ⟨o_6_x, e, r_o_6⟩ := w_gr g r_a0.so h1
  refine wq_bd e ?_
  obtain ⟨v_8, h2, h⟩ := bd h
  refine wq_bd (w_aln g r_o_6 h2) ?_
  rcases ite_some h with ⟨q, h⟩ | ⟨q, h⟩
  · refine wq_ip q ?_
    cases h
    exact ⟨_, _, rfl, (vs_g (vl_c (va_r r_a0.so) (vl_c va_i (vl_c va_i vl_n)))), g, ex.rf⟩
  · refine wq_in q ?_
    obtain ⟨o_10, h3, h⟩ := bd h
    obtain ⟨o_10_x, e, r_o_10⟩ := w_gr g r_a0.so h3
    refine wq_bd e ?_
    obtain ⟨o_12, h4, h⟩ := bd h
    obtain ⟨o_12_x, e, r_o_12⟩ := w_alr g r_o_10 h4
    refine wq_bd e ?_
    obtain ⟨M14, h5, h⟩ := bd h
    obtain ⟨_, e, g, x⟩ := w_asi g r_o_12 h5
    refine wq_bd e (wq_up x ?_)
    have r_a0 := r_a0.up x
    cases h
    exact ⟨_, _, rfl, (vs_g (vl_c (va_r r_a0.so) (vl_c va_i (vl_c va_i vl_n)))), g, ex.rf⟩
theorem wb100_103 {a0 : Nat} {a0_x : Nat} {v1 : Int32} {v2 : Int32} {Y : Nat → Prop} {M0 : hM} {ρ : Nat → Nat} {M H : hM} {res : xRes} (h : b100_103 a0 v1 v2 M = some res) (g : rn Y M0 ρ M H) (r_a0 : vn ρ M a0 a0_x) : wq Y M0 ρ M res (b100_103 a0_x v1 v2 H) := by
  unfold b100_103 at h ⊢
  cases h
  exact ⟨_, _, rfl, (vs_g (vl_c (va_r r_a0.so) (vl_c va_i (vl_c va_i vl_n)))), g, ex.rf⟩
theorem wb100_41 {a0 : Nat} {a0_x : Nat} {v1 : Int32} {v2 : Int32} {Y : Nat → Prop} {M0 : hM} {ρ : Nat → Nat} {M H : hM} {res : xRes} (h : b100_41 a0 v1 v2 M = some res) (g : rn Y M0 ρ M H) (r_a0 : vn ρ M a0 a0_x) : wq Y M0 ρ M res (b100_41 a0_x v1 v2 H) := by
  unfold b100_41 at h ⊢
  obtain ⟨o_17, h1, h⟩ := bd h
  obtain ⟨o_17_x, e, r_o_17⟩ := w_gr g r_a0.so h1
  refine wq_bd e ?_
  obtain ⟨o_19, h2, h⟩ := bd h
  obtain ⟨o_19_x, e, r_o_19⟩ := w_alr g r_o_17 h2
  refine wq_bd e ?_
  obtain ⟨b_23, h3, h⟩ := bd h
  obtain ⟨b_23_x, e, r_b_23⟩ := w_go g r_o_19 h3
  refine wq_bd e ?_
  obtain ⟨q_21, h4, h⟩ := bd h
  obtain ⟨_, _, e, g, x⟩ := wc_I (f := f97) h4 (fun e => w97 e g (vl_c (va_r r_b_23.so) vl_n))
  refine wq_bd e (wq_up x ?_)
  have r_a0 := r_a0.up x
  rcases ite_some h with ⟨q, h⟩ | ⟨q, h⟩
  · refine wq_ip q ?_
    cases h
    exact ⟨_, _, rfl, (vs_g (vl_c (va_r r_a0.so) (vl_c va_i vl_n))), g, ex.rf⟩
  · refine wq_in q ?_
    obtain ⟨o_25, h5, h⟩ := bd h
    obtain ⟨o_25_x, e, r_o_25⟩ := w_gr g r_a0.so h5
    refine wq_bd e ?_
    obtain ⟨o_27, h6, h⟩ := bd h
    obtain ⟨o_27_x, e, r_o_27⟩ := w_alr g r_o_25 h6
    refine wq_bd e ?_
    obtain ⟨b_31, h7, h⟩ := bd h
    obtain ⟨b_31_x, e, r_b_31⟩ := w_go g r_o_27 h7
    refine wq_bd e ?_
    obtain ⟨q_29, h8, h⟩ := bd h
    obtain ⟨_, _, e, g, x⟩ := wc_I (f := f98) h8 (fun e => w98 e g (vl_c (va_r r_b_31.so) (vl_c va_i vl_n)))
    refine wq_bd e (wq_up x ?_)
    have r_a0 := r_a0.up x
    obtain ⟨o_33, h9, h⟩ := bd h
    obtain ⟨o_33_x, e, r_o_33⟩ := w_gr g r_a0.so h9
    refine wq_bd e ?_
    obtain ⟨v_35, h10, h⟩ := bd h
    refine wq_bd (w_aln g r_o_33 h10) ?_
    rcases ite_some h with ⟨q, h⟩ | ⟨q, h⟩
    · refine wq_ip q ?_
      exact wb100_103 h g r_a0
    · refine wq_in q ?_
      obtain ⟨o_37, h11, h⟩ := bd h
      obtain ⟨o_37_x, e, r_o_37⟩ := w_gr g r_a0.so h11
      refine wq_bd e ?_
      obtain ⟨o_39, h12, h⟩ := bd h
      obtain ⟨o_39_x, e, r_o_39⟩ := w_alr g r_o_37 h12
      refine wq_bd e ?_
      obtain ⟨o_41, h13, h⟩ := bd h
      obtain ⟨o_41_x, e, r_o_41⟩ := w_gr g r_a0.so h13
      refine wq_bd e ?_
      obtain ⟨o_43, h14, h⟩ := bd h
      obtain ⟨o_43_x, e, r_o_43⟩ := w_alr g r_o_41 h14
      refine wq_bd e ?_
      obtain ⟨v_45, h15, h⟩ := bd h
      refine wq_bd (w_ali g r_o_43 h15) ?_
      obtain ⟨o_47, h16, h⟩ := bd h
      obtain ⟨o_47_x, e, r_o_47⟩ := w_gr g r_a0.so h16
      refine wq_bd e ?_
      obtain ⟨o_49, h17, h⟩ := bd h
      obtain ⟨o_49_x, e, r_o_49⟩ := w_alr g r_o_47 h17
      refine wq_bd e ?_
      obtain ⟨b_53, h18, h⟩ := bd h
      obtain ⟨b_53_x, e, r_b_53⟩ := w_go g r_o_49 h18
      refine wq_bd e ?_
      obtain ⟨q_51, h19, h⟩ := bd h
      obtain ⟨_, _, e, g, x⟩ := wc_I (f := f99) h19 (fun e => w99 e g (vl_c (va_r r_b_53.so) (vl_c va_i vl_n)))
      refine wq_bd e (wq_up x ?_)
      have r_a0 := r_a0.up x
      have r_o_39 := r_o_39.up x
      obtain ⟨M55, h20, h⟩ := bd h
      obtain ⟨_, e, g, x⟩ := w_asi g r_o_39 h20
      refine wq_bd e (wq_up x ?_)
      have r_a0 := r_a0.up x
      exact wb100_103 h g r_a0
theorem w100 {Y : Nat → Prop} {M0 : hM} {ρ : Nat → Nat} {as as_x : List aV} {M H M' : hM} {r : Option aV} (h : f100 as M = some (r, M')) (g : rn Y M0 ρ M H) (ha : vl ρ M as as_x) : wr Y M0 ρ M r M' (f100 as_x H) := by
  unfold f100 at h
  split at h
  · rename_i a0
    obtain ⟨a0_x, _, rfl, r_a0, ha1⟩ := vl_is ha
    cases vl_in ha1
    show wr Y M0 ρ M r M' (x_go k100 (b100_0 a0_x H))
    refine wx_go (blk := k100) ?_ h (fun res hx => wb100_0 hx g r_a0)
    intro ρ h as as_x M H res hk g ha
    unfold k100 at hk
    split at hk
    · rename_i hh
      subst hh
      split at hk
      · rename_i a0 v1
        obtain ⟨a0_x, _, rfl, r_a0, ha1⟩ := vl_is ha
        obtain ⟨_, rfl, ha2⟩ := vl_ii ha1
        cases vl_in ha2
        exact wb100_2 hk g r_a0
      · cases hk
    · skip
      split at hk
      · rename_i hh
        subst hh
        split at hk
        · rename_i a0 v1 v2
          obtain ⟨a0_x, _, rfl, r_a0, ha1⟩ := vl_is ha
          obtain ⟨_, rfl, ha2⟩ := vl_ii ha1
          obtain ⟨_, rfl, ha3⟩ := vl_ii ha2
          cases vl_in ha3
          exact wb100_13 hk g r_a0
        · cases hk
      · skip
        split at hk
        · rename_i hh
          subst hh
          split at hk
          · rename_i a0 v1 v2
            obtain ⟨a0_x, _, rfl, r_a0, ha1⟩ := vl_is ha
            obtain ⟨_, rfl, ha2⟩ := vl_ii ha1
            obtain ⟨_, rfl, ha3⟩ := vl_ii ha2
            cases vl_in ha3
            exact wb100_41 hk g r_a0
          · cases hk
        · skip
          cases hk
  · cases h
theorem wb101_33 {si0 : Int32} {Y : Nat → Prop} {M0 : hM} {ρ : Nat → Nat} {M H : hM} {res : xRes} (h : b101_33 si0 M = some res) (g : rn Y M0 ρ M H)  : wq Y M0 ρ M res (b101_33 si0 H) := by
  unfold b101_33 at h ⊢
  rcases ite_some h with ⟨q, h⟩ | ⟨q, h⟩
  · refine wq_ip q ?_
    cases h
    exact ⟨_, _, rfl, (vs_a va_i), g, ex.rf⟩
  · refine wq_in q ?_
    cases h
theorem wb101_32  {Y : Nat → Prop} {M0 : hM} {ρ : Nat → Nat} {M H : hM} {res : xRes} (h : b101_32  M = some res) (g : rn Y M0 ρ M H)  : wq Y M0 ρ M res (b101_32  H) := by
  unfold b101_32 at h ⊢
  exact wb101_33 h g 
theorem wb101_0 {a0 : Nat} {a0_x : Nat} {v1 : Int32} {v2 : Int32} {Y : Nat → Prop} {M0 : hM} {ρ : Nat → Nat} {M H : hM} {res : xRes} (h : b101_0 a0 v1 v2 M = some res) (g : rn Y M0 ρ M H) (r_a0 : vn ρ M a0 a0_x) : wq Y M0 ρ M res (b101_0 a0_x v1 v2 H) := by
  unfold b101_0 at h ⊢
  obtain ⟨o_1, h1, h⟩ := bd h
  obtain ⟨o_1_x, e, r_o_1⟩ := w_gr g r_a0.so h1
  refine wq_bd e ?_
  obtain ⟨o_3, h2, h⟩ := bd h
  obtain ⟨o_3_x, e, r_o_3⟩ := w_alr g r_o_1 h2
  refine wq_bd e ?_
  obtain ⟨v_5, h3, h⟩ := bd h
  refine wq_bd (w_ali g r_o_3 h3) ?_
  rcases ite_some h with ⟨q, h⟩ | ⟨q, h⟩
  · refine wq_ip q ?_
    exact wb101_32 h g 
  · refine wq_in q ?_
    obtain ⟨o_7, h4, h⟩ := bd h
    obtain ⟨o_7_x, e, r_o_7⟩ := w_gr g r_a0.so h4
    refine wq_bd e ?_
    obtain ⟨o_9, h5, h⟩ := bd h
    obtain ⟨o_9_x, e, r_o_9⟩ := w_alr g r_o_7 h5
    refine wq_bd e ?_
    obtain ⟨v_11, h6, h⟩ := bd h
    refine wq_bd (w_ali g r_o_9 h6) ?_
    rcases ite_some h with ⟨q, h⟩ | ⟨q, h⟩
    · refine wq_ip q ?_
      exact wb101_32 h g 
    · refine wq_in q ?_
      exact wb101_33 h g 
theorem w101 {Y : Nat → Prop} {M0 : hM} {ρ : Nat → Nat} {as as_x : List aV} {M H M' : hM} {r : Option aV} (h : f101 as M = some (r, M')) (g : rn Y M0 ρ M H) (ha : vl ρ M as as_x) : wr Y M0 ρ M r M' (f101 as_x H) := by
  unfold f101 at h
  split at h
  · rename_i a0 v1 v2
    obtain ⟨a0_x, _, rfl, r_a0, ha1⟩ := vl_is ha
    obtain ⟨_, rfl, ha2⟩ := vl_ii ha1
    obtain ⟨_, rfl, ha3⟩ := vl_ii ha2
    cases vl_in ha3
    exact wx_out h (fun res hx => wb101_0 hx g r_a0)
  · cases h
theorem wb102_0 {a0 : Nat} {a0_x : Nat} {Y : Nat → Prop} {M0 : hM} {ρ : Nat → Nat} {M H : hM} {res : xRes} (h : b102_0 a0 M = some res) (g : rn Y M0 ρ M H) (r_a0 : vn ρ M a0 a0_x) : wq Y M0 ρ M res (b102_0 a0_x H) := by
  unfold b102_0 at h ⊢
  cases h
  exact ⟨_, _, rfl, (vs_g (vl_c (va_r r_a0.so) (vl_c va_i vl_n))), g, ex.rf⟩
theorem wb102_2 {a0 : Nat} {a0_x : Nat} {v1 : Int32} {Y : Nat → Prop} {M0 : hM} {ρ : Nat → Nat} {M H : hM} {res : xRes} (h : b102_2 a0 v1 M = some res) (g : rn Y M0 ρ M H) (r_a0 : vn ρ M a0 a0_x) : wq Y M0 ρ M res (b102_2 a0_x v1 H) := by
  unfold b102_2 at h ⊢
  obtain ⟨o_1, h1, h⟩ := bd h
  obtain ⟨o_1_x, e, r_o_1⟩ := w_gr g r_a0.so h1
  refine wq_bd e ?_
  obtain ⟨v_3, h2, h⟩ := bd h
  refine wq_bd (w_aln g r_o_1 h2) ?_
  rcases ite_some h with ⟨q, h⟩ | ⟨q, h⟩
  · refine wq_ip q ?_
    cases h
    exact ⟨_, _, rfl, (vs_g (vl_c (va_r r_a0.so) (vl_c va_i vl_n))), g, ex.rf⟩
  · refine wq_in q ?_
    cases h
    exact ⟨_, _, rfl, (vs_g (vl_c (va_r r_a0.so) (vl_c va_i (vl_c va_i vl_n)))), g, ex.rf⟩
theorem wb102_61 {a0 : Nat} {a0_x : Nat} {v1 : Int32} {v2 : Int32} {si0 : Int32} {si1 : Int32} {sr2 : Option Nat} {sr2_x : Option Nat} {Y : Nat → Prop} {M0 : hM} {ρ : Nat → Nat} {M H : hM} {res : xRes} (h : b102_61 a0 v1 v2 si0 si1 sr2 M = some res) (g : rn Y M0 ρ M H) (r_a0 : vn ρ M a0 a0_x) (r_sr2 : vo ρ M sr2 sr2_x) : wq Y M0 ρ M res (b102_61 a0_x v1 v2 si0 si1 sr2_x H) := by
  unfold b102_61 at h ⊢
  obtain ⟨M27, h1, h⟩ := bd h
  obtain ⟨_, e, g, x⟩ := w_asi g r_sr2 h1
  refine wq_bd e (wq_up x ?_)
  have r_a0 := r_a0.up x
  cases h
  exact ⟨_, _, rfl, (vs_g (vl_c (va_r r_a0.so) (vl_c va_i (vl_c va_i vl_n)))), g, ex.rf⟩
theorem wb102_13 {a0 : Nat} {a0_x : Nat} {v1 : Int32} {v2 : Int32} {Y : Nat → Prop} {M0 : hM} {ρ : Nat → Nat} {M H : hM} {res : xRes} (h : b102_13 a0 v1 v2 M = some res) (g : rn Y M0 ρ M H) (r_a0 : vn ρ M a0 a0_x) : wq Y M0 ρ M res (b102_13 a0_x v1 v2 H) := by
  unfold b102_13 at h ⊢
  obtain ⟨o_6, h1, h⟩ := bd h
  obtain ⟨o_6_x, e, r_o_6⟩ := w_gr g r_a0.so h1
  refine wq_bd e ?_
  obtain ⟨v_8, h2, h⟩ := bd h
  refine wq_bd (w_aln g r_o_6 h2) ?_
  rcases ite_some h with ⟨q, h⟩ | ⟨q, h⟩
  · refine wq_ip q ?_
    cases h
    exact ⟨_, _, rfl, (vs_g (vl_c (va_r r_a0.so) (vl_c va_i vl_n))), g, ex.rf⟩
  · refine wq_in q ?_
    obtain ⟨o_10, h3, h⟩ := bd h
    obtain ⟨o_10_x, e, r_o_10⟩ := w_gr g r_a0.so h3
    refine wq_bd e ?_
    obtain ⟨o_12, h4, h⟩ := bd h
    obtain ⟨o_12_x, e, r_o_12⟩ := w_alr g r_o_10 h4
    refine wq_bd e ?_
    rcases ite_some h with ⟨q, h⟩ | ⟨q, h⟩
    · refine wq_ip q ?_
      exact wb102_61 h g r_a0 r_o_12
    · refine wq_in q ?_
      obtain ⟨b_16, h5, h⟩ := bd h
      obtain ⟨b_16_x, e, r_b_16⟩ := w_go g r_a0.so h5
      refine wq_bd e ?_
      obtain ⟨q_14, h6, h⟩ := bd h
      obtain ⟨_, _, e, g, x⟩ := wc_I (f := f101) h6 (fun e => w101 e g (vl_c (va_r r_b_16.so) (vl_c va_i (vl_c va_i vl_n))))
      refine wq_bd e (wq_up x ?_)
      have r_o_12 := r_o_12.up x
      have r_a0 := r_a0.up x
      rcases ite_some h with ⟨q, h⟩ | ⟨q, h⟩
      · refine wq_ip q ?_
        exact wb102_61 h g r_a0 r_o_12
      · refine wq_in q ?_
        obtain ⟨o_18, h7, h⟩ := bd h
        obtain ⟨o_18_x, e, r_o_18⟩ := w_gr g r_a0.so h7
        refine wq_bd e ?_
        obtain ⟨o_20, h8, h⟩ := bd h
        obtain ⟨o_20_x, e, r_o_20⟩ := w_alr g r_o_18 h8
        refine wq_bd e ?_
        obtain ⟨v_22, h9, h⟩ := bd h
        refine wq_bd (w_ali g r_o_20 h9) ?_
        exact wb102_61 h g r_a0 r_o_12
theorem wb102_76 {a0 : Nat} {a0_x : Nat} {v1 : Int32} {Y : Nat → Prop} {M0 : hM} {ρ : Nat → Nat} {M H : hM} {res : xRes} (h : b102_76 a0 v1 M = some res) (g : rn Y M0 ρ M H) (r_a0 : vn ρ M a0 a0_x) : wq Y M0 ρ M res (b102_76 a0_x v1 H) := by
  unfold b102_76 at h ⊢
  obtain ⟨o_29, h1, h⟩ := bd h
  obtain ⟨o_29_x, e, r_o_29⟩ := w_gr g r_a0.so h1
  refine wq_bd e ?_
  obtain ⟨v_31, h2, h⟩ := bd h
  refine wq_bd (w_aln g r_o_29 h2) ?_
  rcases ite_some h with ⟨q, h⟩ | ⟨q, h⟩
  · refine wq_ip q ?_
    cases h
    exact ⟨_, _, rfl, vs_n, g, ex.rf⟩
  · refine wq_in q ?_
    cases h
    exact ⟨_, _, rfl, (vs_g (vl_c (va_r r_a0.so) (vl_c va_i (vl_c va_i vl_n)))), g, ex.rf⟩
theorem wb102_87 {a0 : Nat} {a0_x : Nat} {v1 : Int32} {v2 : Int32} {Y : Nat → Prop} {M0 : hM} {ρ : Nat → Nat} {M H : hM} {res : xRes} (h : b102_87 a0 v1 v2 M = some res) (g : rn Y M0 ρ M H) (r_a0 : vn ρ M a0 a0_x) : wq Y M0 ρ M res (b102_87 a0_x v1 v2 H) := by
  unfold b102_87 at h ⊢
  obtain ⟨o_34, h1, h⟩ := bd h
  obtain ⟨o_34_x, e, r_o_34⟩ := w_gr g r_a0.so h1
  refine wq_bd e ?_
  obtain ⟨v_36, h2, h⟩ := bd h
  refine wq_bd (w_aln g r_o_34 h2) ?_
  rcases ite_some h with ⟨q, h⟩ | ⟨q, h⟩
  · refine wq_ip q ?_
    cases h
    exact ⟨_, _, rfl, (vs_g (vl_c (va_r r_a0.so) (vl_c va_i vl_n))), g, ex.rf⟩
  · refine wq_in q ?_
    cases h
    exact ⟨_, _, rfl, (vs_g (vl_c (va_r r_a0.so) (vl_c va_i (vl_c va_i (vl_c va_i vl_n))))), g, ex.rf⟩
theorem wb102_98 {a0 : Nat} {a0_x : Nat} {v1 : Int32} {v2 : Int32} {v3 : Int32} {Y : Nat → Prop} {M0 : hM} {ρ : Nat → Nat} {M H : hM} {res : xRes} (h : b102_98 a0 v1 v2 v3 M = some res) (g : rn Y M0 ρ M H) (r_a0 : vn ρ M a0 a0_x) : wq Y M0 ρ M res (b102_98 a0_x v1 v2 v3 H) := by
  unfold b102_98 at h ⊢
  obtain ⟨o_39, h1, h⟩ := bd h
  obtain ⟨o_39_x, e, r_o_39⟩ := w_gr g r_a0.so h1
  refine wq_bd e ?_
  obtain ⟨v_41, h2, h⟩ := bd h
  refine wq_bd (w_aln g r_o_39 h2) ?_
  rcases ite_some h with ⟨q, h⟩ | ⟨q, h⟩
  · refine wq_ip q ?_
    cases h
    exact ⟨_, _, rfl, (vs_g (vl_c (va_r r_a0.so) (vl_c va_i (vl_c va_i vl_n)))), g, ex.rf⟩
  · refine wq_in q ?_
    obtain ⟨o_43, h3, h⟩ := bd h
    obtain ⟨o_43_x, e, r_o_43⟩ := w_gr g r_a0.so h3
    refine wq_bd e ?_
    obtain ⟨o_45, h4, h⟩ := bd h
    obtain ⟨o_45_x, e, r_o_45⟩ := w_alr g r_o_43 h4
    refine wq_bd e ?_
    obtain ⟨o_47, h5, h⟩ := bd h
    obtain ⟨o_47_x, e, r_o_47⟩ := w_gr g r_a0.so h5
    refine wq_bd e ?_
    obtain ⟨o_49, h6, h⟩ := bd h
    obtain ⟨o_49_x, e, r_o_49⟩ := w_alr g r_o_47 h6
    refine wq_bd e ?_
    obtain ⟨v_51, h7, h⟩ := bd h
    refine wq_bd (w_ali g r_o_49 h7) ?_
    obtain ⟨o_53, h8, h⟩ := bd h
    obtain ⟨o_53_x, e, r_o_53⟩ := w_gr g r_a0.so h8
    refine wq_bd e ?_
    obtain ⟨o_55, h9, h⟩ := bd h
    obtain ⟨o_55_x, e, r_o_55⟩ := w_alr g r_o_53 h9
    refine wq_bd e ?_
    obtain ⟨v_57, h10, h⟩ := bd h
    refine wq_bd (w_ali g r_o_55 h10) ?_
    obtain ⟨o_59, h11, h⟩ := bd h
    obtain ⟨o_59_x, e, r_o_59⟩ := w_gr g r_a0.so h11
    refine wq_bd e ?_
    obtain ⟨o_61, h12, h⟩ := bd h
    obtain ⟨o_61_x, e, r_o_61⟩ := w_alr g r_o_59 h12
    refine wq_bd e ?_
    obtain ⟨v_63, h13, h⟩ := bd h
    refine wq_bd (w_ali g r_o_61 h13) ?_
    obtain ⟨M65, h14, h⟩ := bd h
    obtain ⟨_, e, g, x⟩ := w_asi g r_o_45 h14
    refine wq_bd e (wq_up x ?_)
    have r_a0 := r_a0.up x
    cases h
    exact ⟨_, _, rfl, (vs_g (vl_c (va_r r_a0.so) (vl_c va_i (vl_c va_i (vl_c va_i vl_n))))), g, ex.rf⟩
theorem w102 {Y : Nat → Prop} {M0 : hM} {ρ : Nat → Nat} {as as_x : List aV} {M H M' : hM} {r : Option aV} (h : f102 as M = some (r, M')) (g : rn Y M0 ρ M H) (ha : vl ρ M as as_x) : wr Y M0 ρ M r M' (f102 as_x H) := by
  unfold f102 at h
  split at h
  · rename_i a0
    obtain ⟨a0_x, _, rfl, r_a0, ha1⟩ := vl_is ha
    cases vl_in ha1
    show wr Y M0 ρ M r M' (x_go k102 (b102_0 a0_x H))
    refine wx_go (blk := k102) ?_ h (fun res hx => wb102_0 hx g r_a0)
    intro ρ h as as_x M H res hk g ha
    unfold k102 at hk
    split at hk
    · rename_i hh
      subst hh
      split at hk
      · rename_i a0 v1
        obtain ⟨a0_x, _, rfl, r_a0, ha1⟩ := vl_is ha
        obtain ⟨_, rfl, ha2⟩ := vl_ii ha1
        cases vl_in ha2
        exact wb102_2 hk g r_a0
      · cases hk
    · skip
      split at hk
      · rename_i hh
        subst hh
        split at hk
        · rename_i a0 v1 v2
          obtain ⟨a0_x, _, rfl, r_a0, ha1⟩ := vl_is ha
          obtain ⟨_, rfl, ha2⟩ := vl_ii ha1
          obtain ⟨_, rfl, ha3⟩ := vl_ii ha2
          cases vl_in ha3
          exact wb102_13 hk g r_a0
        · cases hk
      · skip
        split at hk
        · rename_i hh
          subst hh
          split at hk
          · rename_i a0 v1
            obtain ⟨a0_x, _, rfl, r_a0, ha1⟩ := vl_is ha
            obtain ⟨_, rfl, ha2⟩ := vl_ii ha1
            cases vl_in ha2
            exact wb102_76 hk g r_a0
          · cases hk
        · skip
          split at hk
          · rename_i hh
            subst hh
            split at hk
            · rename_i a0 v1 v2
              obtain ⟨a0_x, _, rfl, r_a0, ha1⟩ := vl_is ha
              obtain ⟨_, rfl, ha2⟩ := vl_ii ha1
              obtain ⟨_, rfl, ha3⟩ := vl_ii ha2
              cases vl_in ha3
              exact wb102_87 hk g r_a0
            · cases hk
          · skip
            split at hk
            · rename_i hh
              subst hh
              split at hk
              · rename_i a0 v1 v2 v3
                obtain ⟨a0_x, _, rfl, r_a0, ha1⟩ := vl_is ha
                obtain ⟨_, rfl, ha2⟩ := vl_ii ha1
                obtain ⟨_, rfl, ha3⟩ := vl_ii ha2
                obtain ⟨_, rfl, ha4⟩ := vl_ii ha3
                cases vl_in ha4
                exact wb102_98 hk g r_a0
              · cases hk
            · skip
              cases hk
  · cases h
theorem wb103_0 {a0 : Nat} {a0_x : Nat} {Y : Nat → Prop} {M0 : hM} {ρ : Nat → Nat} {M H : hM} {res : xRes} (h : b103_0 a0 M = some res) (g : rn Y M0 ρ M H) (r_a0 : vn ρ M a0 a0_x) : wq Y M0 ρ M res (b103_0 a0_x H) := by
  unfold b103_0 at h ⊢
  obtain ⟨b_3, h1, h⟩ := bd h
  obtain ⟨b_3_x, e, r_b_3⟩ := w_go g r_a0.so h1
  refine wq_bd e ?_
  obtain ⟨q_1, h2, h⟩ := bd h
  obtain ⟨_, _, e, g, x⟩ := wc_I (f := f96) h2 (fun e => w96 e g (vl_c (va_r r_b_3.so) (vl_c va_i vl_n)))
  refine wq_bd e (wq_up x ?_)
  cases h
  exact ⟨_, _, rfl, (vs_a va_i), g, ex.rf⟩
theorem w103 {Y : Nat → Prop} {M0 : hM} {ρ : Nat → Nat} {as as_x : List aV} {M H M' : hM} {r : Option aV} (h : f103 as M = some (r, M')) (g : rn Y M0 ρ M H) (ha : vl ρ M as as_x) : wr Y M0 ρ M r M' (f103 as_x H) := by
  unfold f103 at h
  split at h
  · rename_i a0
    obtain ⟨a0_x, _, rfl, r_a0, ha1⟩ := vl_is ha
    cases vl_in ha1
    exact wx_out h (fun res hx => wb103_0 hx g r_a0)
  · cases h
theorem wb104_0 {a0 : Nat} {a0_x : Nat} {Y : Nat → Prop} {M0 : hM} {ρ : Nat → Nat} {M H : hM} {res : xRes} (h : b104_0 a0 M = some res) (g : rn Y M0 ρ M H) (r_a0 : vn ρ M a0 a0_x) : wq Y M0 ρ M res (b104_0 a0_x H) := by
  unfold b104_0 at h ⊢
  cases h
  exact ⟨_, _, rfl, (vs_g (vl_c (va_r r_a0.so) (vl_c va_i vl_n))), g, ex.rf⟩
theorem wb104_2 {a0 : Nat} {a0_x : Nat} {v1 : Int32} {Y : Nat → Prop} {M0 : hM} {ρ : Nat → Nat} {M H : hM} {res : xRes} (h : b104_2 a0 v1 M = some res) (g : rn Y M0 ρ M H) (r_a0 : vn ρ M a0 a0_x) : wq Y M0 ρ M res (b104_2 a0_x v1 H) := by
  unfold b104_2 at h ⊢
  obtain ⟨o_1, h1, h⟩ := bd h
  obtain ⟨o_1_x, e, r_o_1⟩ := w_gr g r_a0.so h1
  refine wq_bd e ?_
  obtain ⟨v_3, h2, h⟩ := bd h
  refine wq_bd (w_aln g r_o_1 h2) ?_
  rcases ite_some h with ⟨q, h⟩ | ⟨q, h⟩
  · refine wq_ip q ?_
    cases h
    exact ⟨_, _, rfl, (vs_g (vl_c (va_r r_a0.so) (vl_c va_i vl_n))), g, ex.rf⟩
  · refine wq_in q ?_
    obtain ⟨o_5, h3, h⟩ := bd h
    obtain ⟨o_5_x, e, r_o_5⟩ := w_gr g r_a0.so h3
    refine wq_bd e ?_
    obtain ⟨M7, h4, h⟩ := bd h
    obtain ⟨_, e, g, x⟩ := w_asi g r_o_5 h4
    refine wq_bd e (wq_up x ?_)
    have r_a0 := r_a0.up x
    cases h
    exact ⟨_, _, rfl, (vs_g (vl_c (va_r r_a0.so) (vl_c va_i vl_n))), g, ex.rf⟩
theorem wb104_103 {a0 : Nat} {a0_x : Nat} {v1 : Int32} {Y : Nat → Prop} {M0 : hM} {ρ : Nat → Nat} {M H : hM} {res : xRes} (h : b104_103 a0 v1 M = some res) (g : rn Y M0 ρ M H) (r_a0 : vn ρ M a0 a0_x) : wq Y M0 ρ M res (b104_103 a0_x v1 H) := by
  unfold b104_103 at h ⊢
  cases h
  exact ⟨_, _, rfl, (vs_g (vl_c (va_r r_a0.so) (vl_c va_i vl_n))), g, ex.rf⟩
theorem wb104_58 {a0 : Nat} {a0_x : Nat} {v1 : Int32} {si0 : Int32} {Y : Nat → Prop} {M0 : hM} {ρ : Nat → Nat} {M H : hM} {res : xRes} (h : b104_58 a0 v1 si0 M = some res) (g : rn Y M0 ρ M H) (r_a0 : vn ρ M a0 a0_x) : wq Y M0 ρ M res (b104_58 a0_x v1 si0 H) := by
  unfold b104_58 at h ⊢
  obtain ⟨o_23, h1, h⟩ := bd h
  obtain ⟨o_23_x, e, r_o_23⟩ := w_gr g r_a0.so h1
  refine wq_bd e ?_
  obtain ⟨o_25, h2, h⟩ := bd h
  obtain ⟨o_25_x, e, r_o_25⟩ := w_alr g r_o_23 h2
  refine wq_bd e ?_
  obtain ⟨b_29, h3, h⟩ := bd h
  obtain ⟨b_29_x, e, r_b_29⟩ := w_go g r_o_25 h3
  refine wq_bd e ?_
  obtain ⟨q_27, h4, h⟩ := bd h
  obtain ⟨_, _, e, g, x⟩ := wc_I (f := f103) h4 (fun e => w103 e g (vl_c (va_r r_b_29.so) vl_n))
  refine wq_bd e (wq_up x ?_)
  have r_a0 := r_a0.up x
  rcases ite_some h with ⟨q, h⟩ | ⟨q, h⟩
  · refine wq_ip q ?_
    exact wb104_103 h g r_a0
  · refine wq_in q ?_
    rcases ite_some h with ⟨q, h⟩ | ⟨q, h⟩
    · refine wq_ip q ?_
      exact wb104_103 h g r_a0
    · refine wq_in q ?_
      obtain ⟨o_31, h5, h⟩ := bd h
      obtain ⟨o_31_x, e, r_o_31⟩ := w_gr g r_a0.so h5
      refine wq_bd e ?_
      obtain ⟨v_33, h6, h⟩ := bd h
      refine wq_bd (w_aln g r_o_31 h6) ?_
      rcases ite_some h with ⟨q, h⟩ | ⟨q, h⟩
      · refine wq_ip q ?_
        exact wb104_103 h g r_a0
      · refine wq_in q ?_
        obtain ⟨o_35, h7, h⟩ := bd h
        obtain ⟨o_35_x, e, r_o_35⟩ := w_gr g r_a0.so h7
        refine wq_bd e ?_
        obtain ⟨v_37, h8, h⟩ := bd h
        refine wq_bd (w_ali g r_o_35 h8) ?_
        rcases ite_some h with ⟨q, h⟩ | ⟨q, h⟩
        · refine wq_ip q ?_
          obtain ⟨o_39, h9, h⟩ := bd h
          obtain ⟨o_39_x, e, r_o_39⟩ := w_gr g r_a0.so h9
          refine wq_bd e ?_
          obtain ⟨M41, h10, h⟩ := bd h
          obtain ⟨_, e, g, x⟩ := w_asi g r_o_39 h10
          refine wq_bd e (wq_up x ?_)
          have r_a0 := r_a0.up x
          exact wb104_103 h g r_a0
        · refine wq_in q ?_
          exact wb104_103 h g r_a0
theorem wb104_53 {a0 : Nat} {a0_x : Nat} {v1 : Int32} {Y : Nat → Prop} {M0 : hM} {ρ : Nat → Nat} {M H : hM} {res : xRes} (h : b104_53 a0 v1 M = some res) (g : rn Y M0 ρ M H) (r_a0 : vn ρ M a0 a0_x) : wq Y M0 ρ M res (b104_53 a0_x v1 H) := by
  unfold b104_53 at h ⊢
  exact wb104_58 h g r_a0
theorem wb104_26 {a0 : Nat} {a0_x : Nat} {v1 : Int32} {Y : Nat → Prop} {M0 : hM} {ρ : Nat → Nat} {M H : hM} {res : xRes} (h : b104_26 a0 v1 M = some res) (g : rn Y M0 ρ M H) (r_a0 : vn ρ M a0 a0_x) : wq Y M0 ρ M res (b104_26 a0_x v1 H) := by
  unfold b104_26 at h ⊢
  obtain ⟨o_10, h1, h⟩ := bd h
  obtain ⟨o_10_x, e, r_o_10⟩ := w_gr g r_a0.so h1
  refine wq_bd e ?_
  obtain ⟨v_12, h2, h⟩ := bd h
  refine wq_bd (w_aln g r_o_10 h2) ?_
  rcases ite_some h with ⟨q, h⟩ | ⟨q, h⟩
  · refine wq_ip q ?_
    cases h
    exact ⟨_, _, rfl, vs_n, g, ex.rf⟩
  · refine wq_in q ?_
    obtain ⟨v_14, h3, h⟩ := bd h
    refine wq_bd (w_gi g r_a0.so h3) ?_
    rcases ite_some h with ⟨q, h⟩ | ⟨q, h⟩
    · refine wq_ip q ?_
      exact wb104_53 h g r_a0
    · refine wq_in q ?_
      obtain ⟨o_16, h4, h⟩ := bd h
      obtain ⟨o_16_x, e, r_o_16⟩ := w_gr g r_a0.so h4
      refine wq_bd e ?_
      obtain ⟨v_18, h5, h⟩ := bd h
      refine wq_bd (w_ali g r_o_16 h5) ?_
      rcases ite_some h with ⟨q, h⟩ | ⟨q, h⟩
      · refine wq_ip q ?_
        exact wb104_58 h g r_a0
      · refine wq_in q ?_
        exact wb104_53 h g r_a0
theorem w104 {Y : Nat → Prop} {M0 : hM} {ρ : Nat → Nat} {as as_x : List aV} {M H M' : hM} {r : Option aV} (h : f104 as M = some (r, M')) (g : rn Y M0 ρ M H) (ha : vl ρ M as as_x) : wr Y M0 ρ M r M' (f104 as_x H) := by
  unfold f104 at h
  split at h
  · rename_i a0
    obtain ⟨a0_x, _, rfl, r_a0, ha1⟩ := vl_is ha
    cases vl_in ha1
    show wr Y M0 ρ M r M' (x_go k104 (b104_0 a0_x H))
    refine wx_go (blk := k104) ?_ h (fun res hx => wb104_0 hx g r_a0)
    intro ρ h as as_x M H res hk g ha
    unfold k104 at hk
    split at hk
    · rename_i hh
      subst hh
      split at hk
      · rename_i a0 v1
        obtain ⟨a0_x, _, rfl, r_a0, ha1⟩ := vl_is ha
        obtain ⟨_, rfl, ha2⟩ := vl_ii ha1
        cases vl_in ha2
        exact wb104_2 hk g r_a0
      · cases hk
    · skip
      split at hk
      · rename_i hh
        subst hh
        split at hk
        · rename_i a0 v1
          obtain ⟨a0_x, _, rfl, r_a0, ha1⟩ := vl_is ha
          obtain ⟨_, rfl, ha2⟩ := vl_ii ha1
          cases vl_in ha2
          exact wb104_26 hk g r_a0
        · cases hk
      · skip
        cases hk
  · cases h
theorem wb105_12 {si0 : Int32} {Y : Nat → Prop} {M0 : hM} {ρ : Nat → Nat} {M H : hM} {res : xRes} (h : b105_12 si0 M = some res) (g : rn Y M0 ρ M H)  : wq Y M0 ρ M res (b105_12 si0 H) := by
  unfold b105_12 at h ⊢
  rcases ite_some h with ⟨q, h⟩ | ⟨q, h⟩
  · refine wq_ip q ?_
    cases h
    exact ⟨_, _, rfl, (vs_a va_i), g, ex.rf⟩
  · refine wq_in q ?_
    cases h
theorem wb105_0 {a0 : Nat} {a0_x : Nat} {Y : Nat → Prop} {M0 : hM} {ρ : Nat → Nat} {M H : hM} {res : xRes} (h : b105_0 a0 M = some res) (g : rn Y M0 ρ M H) (r_a0 : vn ρ M a0 a0_x) : wq Y M0 ρ M res (b105_0 a0_x H) := by
  unfold b105_0 at h ⊢
  obtain ⟨v_1, h1, h⟩ := bd h
  refine wq_bd (w_gi g r_a0.so h1) ?_
  rcases ite_some h with ⟨q, h⟩ | ⟨q, h⟩
  · refine wq_ip q ?_
    exact wb105_12 h g 
  · refine wq_in q ?_
    exact wb105_12 h g 
theorem w105 {Y : Nat → Prop} {M0 : hM} {ρ : Nat → Nat} {as as_x : List aV} {M H M' : hM} {r : Option aV} (h : f105 as M = some (r, M')) (g : rn Y M0 ρ M H) (ha : vl ρ M as as_x) : wr Y M0 ρ M r M' (f105 as_x H) := by
  unfold f105 at h
  split at h
  · rename_i a0
    obtain ⟨a0_x, _, rfl, r_a0, ha1⟩ := vl_is ha
    cases vl_in ha1
    exact wx_out h (fun res hx => wb105_0 hx g r_a0)
  · cases h
theorem wb106_34 {si0 : Int32} {Y : Nat → Prop} {M0 : hM} {ρ : Nat → Nat} {M H : hM} {res : xRes} (h : b106_34 si0 M = some res) (g : rn Y M0 ρ M H)  : wq Y M0 ρ M res (b106_34 si0 H) := by
  unfold b106_34 at h ⊢
  rcases ite_some h with ⟨q, h⟩ | ⟨q, h⟩
  · refine wq_ip q ?_
    cases h
    exact ⟨_, _, rfl, (vs_a va_i), g, ex.rf⟩
  · refine wq_in q ?_
    cases h
theorem wb106_33  {Y : Nat → Prop} {M0 : hM} {ρ : Nat → Nat} {M H : hM} {res : xRes} (h : b106_33  M = some res) (g : rn Y M0 ρ M H)  : wq Y M0 ρ M res (b106_33  H) := by
  unfold b106_33 at h ⊢
  exact wb106_34 h g 
theorem wb106_0 {a0 : Nat} {a0_x : Nat} {v1 : Int32} {Y : Nat → Prop} {M0 : hM} {ρ : Nat → Nat} {M H : hM} {res : xRes} (h : b106_0 a0 v1 M = some res) (g : rn Y M0 ρ M H) (r_a0 : vn ρ M a0 a0_x) : wq Y M0 ρ M res (b106_0 a0_x v1 H) := by
  unfold b106_0 at h ⊢
  obtain ⟨o_1, h1, h⟩ := bd h
  obtain ⟨o_1_x, e, r_o_1⟩ := w_gr g r_a0.so h1
  refine wq_bd e ?_
  obtain ⟨o_3, h2, h⟩ := bd h
  obtain ⟨o_3_x, e, r_o_3⟩ := w_alr g r_o_1 h2
  refine wq_bd e ?_
  obtain ⟨b_7, h3, h⟩ := bd h
  obtain ⟨b_7_x, e, r_b_7⟩ := w_go g r_o_3 h3
  refine wq_bd e ?_
  obtain ⟨q_5, h4, h⟩ := bd h
  obtain ⟨_, _, e, g, x⟩ := wc_I (f := f103) h4 (fun e => w103 e g (vl_c (va_r r_b_7.so) vl_n))
  refine wq_bd e (wq_up x ?_)
  have r_a0 := r_a0.up x
  obtain ⟨o_9, h5, h⟩ := bd h
  obtain ⟨o_9_x, e, r_o_9⟩ := w_gr g r_a0.so h5
  refine wq_bd e ?_
  obtain ⟨v_11, h6, h⟩ := bd h
  refine wq_bd (w_aln g r_o_9 h6) ?_
  rcases ite_some h with ⟨q, h⟩ | ⟨q, h⟩
  · refine wq_ip q ?_
    exact wb106_33 h g 
  · refine wq_in q ?_
    obtain ⟨o_13, h7, h⟩ := bd h
    obtain ⟨o_13_x, e, r_o_13⟩ := w_gr g r_a0.so h7
    refine wq_bd e ?_
    obtain ⟨v_15, h8, h⟩ := bd h
    refine wq_bd (w_ali g r_o_13 h8) ?_
    rcases ite_some h with ⟨q, h⟩ | ⟨q, h⟩
    · refine wq_ip q ?_
      exact wb106_34 h g 
    · refine wq_in q ?_
      exact wb106_33 h g 
theorem w106 {Y : Nat → Prop} {M0 : hM} {ρ : Nat → Nat} {as as_x : List aV} {M H M' : hM} {r : Option aV} (h : f106 as M = some (r, M')) (g : rn Y M0 ρ M H) (ha : vl ρ M as as_x) : wr Y M0 ρ M r M' (f106 as_x H) := by
  unfold f106 at h
  split at h
  · rename_i a0 v1
    obtain ⟨a0_x, _, rfl, r_a0, ha1⟩ := vl_is ha
    obtain ⟨_, rfl, ha2⟩ := vl_ii ha1
    cases vl_in ha2
    exact wx_out h (fun res hx => wb106_0 hx g r_a0)
  · cases h
theorem wb107_0 {a0 : Nat} {a0_x : Nat} {v1 : Int32} {Y : Nat → Prop} {M0 : hM} {ρ : Nat → Nat} {M H : hM} {res : xRes} (h : b107_0 a0 v1 M = some res) (g : rn Y M0 ρ M H) (r_a0 : vn ρ M a0 a0_x) : wq Y M0 ρ M res (b107_0 a0_x v1 H) := by
  unfold b107_0 at h ⊢
  obtain ⟨b_3, h1, h⟩ := bd h
  obtain ⟨b_3_x, e, r_b_3⟩ := w_go g r_a0.so h1
  refine wq_bd e ?_
  obtain ⟨q_1, h2, h⟩ := bd h
  obtain ⟨_, _, e, g, x⟩ := wc_I (f := f96) h2 (fun e => w96 e g (vl_c (va_r r_b_3.so) (vl_c va_i vl_n)))
  refine wq_bd e (wq_up x ?_)
  cases h
  exact ⟨_, _, rfl, (vs_a va_i), g, ex.rf⟩
theorem w107 {Y : Nat → Prop} {M0 : hM} {ρ : Nat → Nat} {as as_x : List aV} {M H M' : hM} {r : Option aV} (h : f107 as M = some (r, M')) (g : rn Y M0 ρ M H) (ha : vl ρ M as as_x) : wr Y M0 ρ M r M' (f107 as_x H) := by
  unfold f107 at h
  split at h
  · rename_i a0 v1
    obtain ⟨a0_x, _, rfl, r_a0, ha1⟩ := vl_is ha
    obtain ⟨_, rfl, ha2⟩ := vl_ii ha1
    cases vl_in ha2
    exact wx_out h (fun res hx => wb107_0 hx g r_a0)
  · cases h
theorem wb108_0 {a0 : Nat} {a0_x : Nat} {v1 : Int32} {o2 : Option Nat} {o2_x : Option Nat} {Y : Nat → Prop} {M0 : hM} {ρ : Nat → Nat} {M H : hM} {res : xRes} (h : b108_0 a0 v1 o2 M = some res) (g : rn Y M0 ρ M H) (r_a0 : vn ρ M a0 a0_x) (r_o2 : vo ρ M o2 o2_x) : wq Y M0 ρ M res (b108_0 a0_x v1 o2_x H) := by
  unfold b108_0 at h ⊢
  obtain ⟨o_1, h1, h⟩ := bd h
  obtain ⟨o_1_x, e, r_o_1⟩ := w_gr g r_a0.so h1
  refine wq_bd e ?_
  obtain ⟨v_3, h2, h⟩ := bd h
  refine wq_bd (w_gi g r_a0.so h2) ?_
  obtain ⟨o_5, h3, h⟩ := bd h
  obtain ⟨o_5_x, e, r_o_5⟩ := w_alr g r_o_1 h3
  refine wq_bd e ?_
  obtain ⟨v_7, h4, h⟩ := bd h
  refine wq_bd (w_ali g r_o_5 h4) ?_
  rcases ite_some h with ⟨q, h⟩ | ⟨q, h⟩
  · refine wq_ip q ?_
    cases h
    exact ⟨_, _, rfl, (vs_g (vl_c (va_r r_a0.so) (vl_c va_i (vl_c (va_r r_o2) (vl_c va_i vl_n))))), g, ex.rf⟩
  · refine wq_in q ?_
    cases h
    exact ⟨_, _, rfl, (vs_a va_i), g, ex.rf⟩
theorem wb108_94 {a0 : Nat} {a0_x : Nat} {v1 : Int32} {o2 : Option Nat} {o2_x : Option Nat} {v3 : Int32} {Y : Nat → Prop} {M0 : hM} {ρ : Nat → Nat} {M H : hM} {res : xRes} (h : b108_94 a0 v1 o2 v3 M = some res) (g : rn Y M0 ρ M H) (r_a0 : vn ρ M a0 a0_x) (r_o2 : vo ρ M o2 o2_x) : wq Y M0 ρ M res (b108_94 a0_x v1 o2_x v3 H) := by
  unfold b108_94 at h ⊢
  cases h
  exact ⟨_, _, rfl, (vs_g (vl_c (va_r r_a0.so) (vl_c va_i (vl_c (va_r r_o2) (vl_c va_i vl_n))))), g, ex.rf⟩
theorem wb108_21 {a0 : Nat} {a0_x : Nat} {v1 : Int32} {o2 : Option Nat} {o2_x : Option Nat} {v3 : Int32} {Y : Nat → Prop} {M0 : hM} {ρ : Nat → Nat} {M H : hM} {res : xRes} (h : b108_21 a0 v1 o2 v3 M = some res) (g : rn Y M0 ρ M H) (r_a0 : vn ρ M a0 a0_x) (r_o2 : vo ρ M o2 o2_x) : wq Y M0 ρ M res (b108_21 a0_x v1 o2_x v3 H) := by
  unfold b108_21 at h ⊢
  obtain ⟨b_12, h1, h⟩ := bd h
  obtain ⟨b_12_x, e, r_b_12⟩ := w_go g r_o2 h1
  refine wq_bd e ?_
  obtain ⟨q_10, h2, h⟩ := bd h
  obtain ⟨_, _, e, g, x⟩ := wc_I (f := f97) h2 (fun e => w97 e g (vl_c (va_r r_b_12.so) vl_n))
  refine wq_bd e (wq_up x ?_)
  have r_o2 := r_o2.up x
  have r_a0 := r_a0.up x
  rcases ite_some h with ⟨q, h⟩ | ⟨q, h⟩
  · refine wq_ip q ?_
    cases h
    exact ⟨_, _, rfl, (vs_a va_i), g, ex.rf⟩
  · refine wq_in q ?_
    obtain ⟨b_16, h3, h⟩ := bd h
    obtain ⟨b_16_x, e, r_b_16⟩ := w_go g r_o2 h3
    refine wq_bd e ?_
    obtain ⟨q_14, h4, h⟩ := bd h
    obtain ⟨_, _, e, g, x⟩ := wc_I (f := f98) h4 (fun e => w98 e g (vl_c (va_r r_b_16.so) (vl_c va_i vl_n)))
    refine wq_bd e (wq_up x ?_)
    have r_o2 := r_o2.up x
    have r_a0 := r_a0.up x
    obtain ⟨o_18, h5, h⟩ := bd h
    obtain ⟨o_18_x, e, r_o_18⟩ := w_gr g r_a0.so h5
    refine wq_bd e ?_
    obtain ⟨v_20, h6, h⟩ := bd h
    refine wq_bd (w_aln g r_o_18 h6) ?_
    rcases ite_some h with ⟨q, h⟩ | ⟨q, h⟩
    · refine wq_ip q ?_
      exact wb108_94 h g r_a0 r_o2
    · refine wq_in q ?_
      obtain ⟨v_22, h7, h⟩ := bd h
      refine wq_bd (w_gi g r_a0.so h7) ?_
      obtain ⟨b_26, h8, h⟩ := bd h
      obtain ⟨b_26_x, e, r_b_26⟩ := w_go g r_a0.so h8
      refine wq_bd e ?_
      obtain ⟨q_24, h9, h⟩ := bd h
      obtain ⟨_, _, e, g, x⟩ := wc_I (f := f101) h9 (fun e => w101 e g (vl_c (va_r r_b_26.so) (vl_c va_i (vl_c va_i vl_n))))
      refine wq_bd e (wq_up x ?_)
      have r_o2 := r_o2.up x
      have r_a0 := r_a0.up x
      rcases ite_some h with ⟨q, h⟩ | ⟨q, h⟩
      · refine wq_ip q ?_
        exact wb108_94 h g r_a0 r_o2
      · refine wq_in q ?_
        obtain ⟨b_30, h10, h⟩ := bd h
        obtain ⟨b_30_x, e, r_b_30⟩ := w_go g r_o2 h10
        refine wq_bd e ?_
        obtain ⟨q_28, h11, h⟩ := bd h
        obtain ⟨_, _, e, g, x⟩ := wc_I (f := f99) h11 (fun e => w99 e g (vl_c (va_r r_b_30.so) (vl_c va_i vl_n)))
        refine wq_bd e (wq_up x ?_)
        have r_o2 := r_o2.up x
        have r_a0 := r_a0.up x
        obtain ⟨o_32, h12, h⟩ := bd h
        obtain ⟨o_32_x, e, r_o_32⟩ := w_gr g r_a0.so h12
        refine wq_bd e ?_
        obtain ⟨o_34, h13, h⟩ := bd h
        obtain ⟨o_34_x, e, r_o_34⟩ := w_alr g r_o_32 h13
        refine wq_bd e ?_
        obtain ⟨v_36, h14, h⟩ := bd h
        refine wq_bd (w_ali g r_o_34 h14) ?_
        obtain ⟨o_38, h15, h⟩ := bd h
        obtain ⟨o_38_x, e, r_o_38⟩ := w_gr g r_a0.so h15
        refine wq_bd e ?_
        obtain ⟨v_40, h16, h⟩ := bd h
        refine wq_bd (w_gi g r_a0.so h16) ?_
        obtain ⟨o_42, h17, h⟩ := bd h
        obtain ⟨o_42_x, e, r_o_42⟩ := w_alr g r_o_38 h17
        refine wq_bd e ?_
        obtain ⟨v_44, h18, h⟩ := bd h
        refine wq_bd (w_ali g r_o_42 h18) ?_
        rcases ite_some h with ⟨q, h⟩ | ⟨q, h⟩
        · refine wq_ip q ?_
          obtain ⟨b_48, h19, h⟩ := bd h
          obtain ⟨b_48_x, e, r_b_48⟩ := w_go g r_o2 h19
          refine wq_bd e ?_
          obtain ⟨q_46, h20, h⟩ := bd h
          obtain ⟨_, _, e, g, x⟩ := wc_I (f := f107) h20 (fun e => w107 e g (vl_c (va_r r_b_48.so) (vl_c va_i vl_n)))
          refine wq_bd e (wq_up x ?_)
          cases h
          exact ⟨_, _, rfl, (vs_a va_i), g, ex.rf⟩
        · refine wq_in q ?_
          exact wb108_94 h g r_a0 r_o2
theorem w108 {Y : Nat → Prop} {M0 : hM} {ρ : Nat → Nat} {as as_x : List aV} {M H M' : hM} {r : Option aV} (h : f108 as M = some (r, M')) (g : rn Y M0 ρ M H) (ha : vl ρ M as as_x) : wr Y M0 ρ M r M' (f108 as_x H) := by
  unfold f108 at h
  split at h
  · rename_i a0 v1 o2
    obtain ⟨a0_x, _, rfl, r_a0, ha1⟩ := vl_is ha
    obtain ⟨_, rfl, ha2⟩ := vl_ii ha1
    obtain ⟨o2_x, _, rfl, r_o2, ha3⟩ := vl_ir ha2
    cases vl_in ha3
    show wr Y M0 ρ M r M' (x_go k108 (b108_0 a0_x v1 o2_x H))
    refine wx_go (blk := k108) ?_ h (fun res hx => wb108_0 hx g r_a0 r_o2)
    intro ρ h as as_x M H res hk g ha
    unfold k108 at hk
    split at hk
    · rename_i hh
      subst hh
      split at hk
      · rename_i a0 v1 o2 v3
        obtain ⟨a0_x, _, rfl, r_a0, ha1⟩ := vl_is ha
        obtain ⟨_, rfl, ha2⟩ := vl_ii ha1
        obtain ⟨o2_x, _, rfl, r_o2, ha3⟩ := vl_ir ha2
        obtain ⟨_, rfl, ha4⟩ := vl_ii ha3
        cases vl_in ha4
        exact wb108_21 hk g r_a0 r_o2
      · cases hk
    · skip
      cases hk
  · cases h
theorem wb109_0 {a0 : Nat} {a0_x : Nat} {Y : Nat → Prop} {M0 : hM} {ρ : Nat → Nat} {M H : hM} {res : xRes} (h : b109_0 a0 M = some res) (g : rn Y M0 ρ M H) (r_a0 : vn ρ M a0 a0_x) : wq Y M0 ρ M res (b109_0 a0_x H) := by
  unfold b109_0 at h ⊢
  obtain ⟨b_3, h1, h⟩ := bd h
  obtain ⟨b_3_x, e, r_b_3⟩ := w_go g r_a0.so h1
  refine wq_bd e ?_
  obtain ⟨q_1, h2, h⟩ := bd h
  obtain ⟨_, _, e, g, x⟩ := wc_V (f := f100) h2 (fun e => w100 e g (vl_c (va_r r_b_3.so) vl_n))
  refine wq_bd e (wq_up x ?_)
  have r_a0 := r_a0.up x
  obtain ⟨b_7, h3, h⟩ := bd h
  obtain ⟨b_7_x, e, r_b_7⟩ := w_go g r_a0.so h3
  refine wq_bd e ?_
  obtain ⟨q_5, h4, h⟩ := bd h
  obtain ⟨_, _, e, g, x⟩ := wc_V (f := f102) h4 (fun e => w102 e g (vl_c (va_r r_b_7.so) vl_n))
  refine wq_bd e (wq_up x ?_)
  have r_a0 := r_a0.up x
  obtain ⟨o_9, h5, h⟩ := bd h
  obtain ⟨o_9_x, e, r_o_9⟩ := w_gr g r_a0.so h5
  refine wq_bd e ?_
  obtain ⟨v_11, h6, h⟩ := bd h
  refine wq_bd (w_gi g r_a0.so h6) ?_
  obtain ⟨o_13, h7, h⟩ := bd h
  obtain ⟨o_13_x, e, r_o_13⟩ := w_alr g r_o_9 h7
  refine wq_bd e ?_
  cases h
  exact ⟨_, _, rfl, (vs_g (vl_c (va_r r_a0.so) (vl_c (va_r r_o_13) (vl_c va_i vl_n)))), g, ex.rf⟩
theorem wb109_52 {a0 : Nat} {a0_x : Nat} {o1 : Option Nat} {o1_x : Option Nat} {v2 : Int32} {si0 : Int32} {si1 : Int32} {sr2 : Option Nat} {sr2_x : Option Nat} {Y : Nat → Prop} {M0 : hM} {ρ : Nat → Nat} {M H : hM} {res : xRes} (h : b109_52 a0 o1 v2 si0 si1 sr2 M = some res) (g : rn Y M0 ρ M H) (r_a0 : vn ρ M a0 a0_x) (r_o1 : vo ρ M o1 o1_x) (r_sr2 : vo ρ M sr2 sr2_x) : wq Y M0 ρ M res (b109_52 a0_x o1_x v2 si0 si1 sr2_x H) := by
  unfold b109_52 at h ⊢
  obtain ⟨M45, h1, h⟩ := bd h
  obtain ⟨_, e, g, x⟩ := w_asi g r_sr2 h1
  refine wq_bd e (wq_up x ?_)
  have r_o1 := r_o1.up x
  have r_a0 := r_a0.up x
  cases h
  exact ⟨_, _, rfl, (vs_g (vl_c (va_r r_a0.so) (vl_c (va_r r_o1) (vl_c va_i vl_n)))), g, ex.rf⟩
theorem wb109_87 {si0 : Int32} {sr1 : Option Nat} {sr1_x : Option Nat} {Y : Nat → Prop} {M0 : hM} {ρ : Nat → Nat} {M H : hM} {res : xRes} (h : b109_87 si0 sr1 M = some res) (g : rn Y M0 ρ M H) (r_sr1 : vo ρ M sr1 sr1_x) : wq Y M0 ρ M res (b109_87 si0 sr1_x H) := by
  unfold b109_87 at h ⊢
  obtain ⟨M47, h1, h⟩ := bd h
  obtain ⟨_, e, g, x⟩ := w_pz g r_sr1 h1
  refine wq_bd e (wq_up x ?_)
  cases h
  exact ⟨_, _, rfl, vs_n, g, ex.rf⟩
theorem wb109_86 {sr0 : Option Nat} {sr0_x : Option Nat} {Y : Nat → Prop} {M0 : hM} {ρ : Nat → Nat} {M H : hM} {res : xRes} (h : b109_86 sr0 M = some res) (g : rn Y M0 ρ M H) (r_sr0 : vo ρ M sr0 sr0_x) : wq Y M0 ρ M res (b109_86 sr0_x H) := by
  unfold b109_86 at h ⊢
  exact wb109_87 h g r_sr0
theorem wb109_20 {a0 : Nat} {a0_x : Nat} {o1 : Option Nat} {o1_x : Option Nat} {v2 : Int32} {Y : Nat → Prop} {M0 : hM} {ρ : Nat → Nat} {M H : hM} {res : xRes} (h : b109_20 a0 o1 v2 M = some res) (g : rn Y M0 ρ M H) (r_a0 : vn ρ M a0 a0_x) (r_o1 : vo ρ M o1 o1_x) : wq Y M0 ρ M res (b109_20 a0_x o1_x v2 H) := by
  unfold b109_20 at h ⊢
  obtain ⟨o_15, h1, h⟩ := bd h
  obtain ⟨o_15_x, e, r_o_15⟩ := w_gr g r_a0.so h1
  refine wq_bd e ?_
  obtain ⟨v_17, h2, h⟩ := bd h
  refine wq_bd (w_aln g r_o_15 h2) ?_
  rcases ite_some h with ⟨q, h⟩ | ⟨q, h⟩
  · refine wq_ip q ?_
    obtain ⟨b_21, h3, h⟩ := bd h
    obtain ⟨b_21_x, e, r_b_21⟩ := w_go g r_a0.so h3
    refine wq_bd e ?_
    obtain ⟨q_19, h4, h⟩ := bd h
    obtain ⟨_, _, e, g, x⟩ := wc_V (f := f104) h4 (fun e => w104 e g (vl_c (va_r r_b_21.so) vl_n))
    refine wq_bd e (wq_up x ?_)
    have r_o1 := r_o1.up x
    have r_a0 := r_a0.up x
    obtain ⟨b_25, h5, h⟩ := bd h
    obtain ⟨b_25_x, e, r_b_25⟩ := w_go g r_o1 h5
    refine wq_bd e ?_
    obtain ⟨q_23, h6, h⟩ := bd h
    obtain ⟨_, _, e, g, x⟩ := wc_I (f := f105) h6 (fun e => w105 e g (vl_c (va_r r_b_25.so) vl_n))
    refine wq_bd e (wq_up x ?_)
    have r_a0 := r_a0.up x
    rcases ite_some h with ⟨q, h⟩ | ⟨q, h⟩
    · refine wq_ip q ?_
      exact wb109_86 h g r_a0.so
    · refine wq_in q ?_
      obtain ⟨v_27, h7, h⟩ := bd h
      refine wq_bd (w_gi g r_a0.so h7) ?_
      obtain ⟨b_31, h8, h⟩ := bd h
      obtain ⟨b_31_x, e, r_b_31⟩ := w_go g r_a0.so h8
      refine wq_bd e ?_
      obtain ⟨q_29, h9, h⟩ := bd h
      obtain ⟨_, _, e, g, x⟩ := wc_I (f := f106) h9 (fun e => w106 e g (vl_c (va_r r_b_31.so) (vl_c va_i vl_n)))
      refine wq_bd e (wq_up x ?_)
      have r_a0 := r_a0.up x
      rcases ite_some h with ⟨q, h⟩ | ⟨q, h⟩
      · refine wq_ip q ?_
        exact wb109_87 h g r_a0.so
      · refine wq_in q ?_
        exact wb109_86 h g r_a0.so
  · refine wq_in q ?_
    obtain ⟨o_35, h10, h⟩ := bd h
    obtain ⟨o_35_x, e, r_o_35⟩ := w_gr g r_a0.so h10
    refine wq_bd e ?_
    obtain ⟨v_37, h11, h⟩ := bd h
    refine wq_bd (w_gi g r_a0.so h11) ?_
    rcases ite_some h with ⟨q, h⟩ | ⟨q, h⟩
    · refine wq_ip q ?_
      exact wb109_52 h g r_a0 r_o1 r_o_35
    · refine wq_in q ?_
      obtain ⟨b_41, h12, h⟩ := bd h
      obtain ⟨b_41_x, e, r_b_41⟩ := w_go g r_a0.so h12
      refine wq_bd e ?_
      obtain ⟨q_39, h13, h⟩ := bd h
      obtain ⟨_, _, e, g, x⟩ := wc_I (f := f108) h13 (fun e => w108 e g (vl_c (va_r r_b_41.so) (vl_c va_i (vl_c (va_r r_o1) vl_n))))
      refine wq_bd e (wq_up x ?_)
      have r_o_35 := r_o_35.up x
      have r_o1 := r_o1.up x
      have r_a0 := r_a0.up x
      exact wb109_52 h g r_a0 r_o1 r_o_35
theorem w109 {Y : Nat → Prop} {M0 : hM} {ρ : Nat → Nat} {as as_x : List aV} {M H M' : hM} {r : Option aV} (h : f109 as M = some (r, M')) (g : rn Y M0 ρ M H) (ha : vl ρ M as as_x) : wr Y M0 ρ M r M' (f109 as_x H) := by
  unfold f109 at h
  split at h
  · rename_i a0
    obtain ⟨a0_x, _, rfl, r_a0, ha1⟩ := vl_is ha
    cases vl_in ha1
    show wr Y M0 ρ M r M' (x_go k109 (b109_0 a0_x H))
    refine wx_go (blk := k109) ?_ h (fun res hx => wb109_0 hx g r_a0)
    intro ρ h as as_x M H res hk g ha
    unfold k109 at hk
    split at hk
    · rename_i hh
      subst hh
      split at hk
      · rename_i a0 o1 v2
        obtain ⟨a0_x, _, rfl, r_a0, ha1⟩ := vl_is ha
        obtain ⟨o1_x, _, rfl, r_o1, ha2⟩ := vl_ir ha1
        obtain ⟨_, rfl, ha3⟩ := vl_ii ha2
        cases vl_in ha3
        exact wb109_20 hk g r_a0 r_o1
      · cases hk
    · skip
      cases hk
  · cases h
theorem wb110_0 {a0 : Nat} {a0_x : Nat} {Y : Nat → Prop} {M0 : hM} {ρ : Nat → Nat} {M H : hM} {res : xRes} (h : b110_0 a0 M = some res) (g : rn Y M0 ρ M H) (r_a0 : vn ρ M a0 a0_x) : wq Y M0 ρ M res (b110_0 a0_x H) := by
  unfold b110_0 at h ⊢
  obtain ⟨M1, h1, h⟩ := bd h
  obtain ⟨_, e, g, x⟩ := w_pi g r_a0.so h1
  refine wq_bd e (wq_up x ?_)
  cases h
  exact ⟨_, _, rfl, vs_n, g, ex.rf⟩
theorem w110 {Y : Nat → Prop} {M0 : hM} {ρ : Nat → Nat} {as as_x : List aV} {M H M' : hM} {r : Option aV} (h : f110 as M = some (r, M')) (g : rn Y M0 ρ M H) (ha : vl ρ M as as_x) : wr Y M0 ρ M r M' (f110 as_x H) := by
  unfold f110 at h
  split at h
  · rename_i a0
    obtain ⟨a0_x, _, rfl, r_a0, ha1⟩ := vl_is ha
    cases vl_in ha1
    exact wx_out h (fun res hx => wb110_0 hx g r_a0)
  · cases h
theorem wb111_0 {a0 : Nat} {a0_x : Nat} {Y : Nat → Prop} {M0 : hM} {ρ : Nat → Nat} {M H : hM} {res : xRes} (h : b111_0 a0 M = some res) (g : rn Y M0 ρ M H) (r_a0 : vn ρ M a0 a0_x) : wq Y M0 ρ M res (b111_0 a0_x H) := by
  unfold b111_0 at h ⊢
  cases h
  exact ⟨_, _, rfl, (vs_g (vl_c (va_r r_a0.so) (vl_c va_i (vl_c va_i vl_n)))), g, ex.rf⟩
theorem wb111_51 {a0 : Nat} {a0_x : Nat} {v1 : Int32} {v2 : Int32} {Y : Nat → Prop} {M0 : hM} {ρ : Nat → Nat} {M H : hM} {res : xRes} (h : b111_51 a0 v1 v2 M = some res) (g : rn Y M0 ρ M H) (r_a0 : vn ρ M a0 a0_x) : wq Y M0 ρ M res (b111_51 a0_x v1 v2 H) := by
  unfold b111_51 at h ⊢
  cases h
  exact ⟨_, _, rfl, (vs_g (vl_c (va_r r_a0.so) (vl_c va_i (vl_c va_i vl_n)))), g, ex.rf⟩
theorem wb111_65  {Y : Nat → Prop} {M0 : hM} {ρ : Nat → Nat} {M H : hM} {res : xRes} (h : b111_65  M = some res) (g : rn Y M0 ρ M H)  : wq Y M0 ρ M res (b111_65  H) := by
  unfold b111_65 at h ⊢
  cases h
  exact ⟨_, _, rfl, vs_n, g, ex.rf⟩
theorem wb111_4 {a0 : Nat} {a0_x : Nat} {v1 : Int32} {v2 : Int32} {Y : Nat → Prop} {M0 : hM} {ρ : Nat → Nat} {M H : hM} {res : xRes} (h : b111_4 a0 v1 v2 M = some res) (g : rn Y M0 ρ M H) (r_a0 : vn ρ M a0 a0_x) : wq Y M0 ρ M res (b111_4 a0_x v1 v2 H) := by
  unfold b111_4 at h ⊢
  obtain ⟨o_1, h1, h⟩ := bd h
  obtain ⟨o_1_x, e, r_o_1⟩ := w_gr g r_a0.so h1
  refine wq_bd e ?_
  obtain ⟨v_3, h2, h⟩ := bd h
  refine wq_bd (w_aln g r_o_1 h2) ?_
  rcases ite_some h with ⟨q, h⟩ | ⟨q, h⟩
  · refine wq_ip q ?_
    rcases ite_some h with ⟨q, h⟩ | ⟨q, h⟩
    · refine wq_ip q ?_
      exact wb111_65 h g 
    · refine wq_in q ?_
      obtain ⟨b_7, h3, h⟩ := bd h
      obtain ⟨b_7_x, e, r_b_7⟩ := w_go g r_a0.so h3
      refine wq_bd e ?_
      obtain ⟨q_5, h4, h⟩ := bd h
      obtain ⟨_, _, e, g, x⟩ := wc_V (f := f109) h4 (fun e => w109 e g (vl_c (va_r r_b_7.so) vl_n))
      refine wq_bd e (wq_up x ?_)
      exact wb111_65 h g 
  · refine wq_in q ?_
    obtain ⟨o_10, h5, h⟩ := bd h
    obtain ⟨o_10_x, e, r_o_10⟩ := w_gr g r_a0.so h5
    refine wq_bd e ?_
    obtain ⟨o_12, h6, h⟩ := bd h
    obtain ⟨o_12_x, e, r_o_12⟩ := w_alr g r_o_10 h6
    refine wq_bd e ?_
    obtain ⟨b_16, h7, h⟩ := bd h
    obtain ⟨b_16_x, e, r_b_16⟩ := w_go g r_o_12 h7
    refine wq_bd e ?_
    obtain ⟨q_14, h8, h⟩ := bd h
    obtain ⟨_, _, e, g, x⟩ := wc_I (f := f105) h8 (fun e => w105 e g (vl_c (va_r r_b_16.so) vl_n))
    refine wq_bd e (wq_up x ?_)
    have r_o_12 := r_o_12.up x
    have r_a0 := r_a0.up x
    rcases ite_some h with ⟨q, h⟩ | ⟨q, h⟩
    · refine wq_ip q ?_
      exact wb111_51 h g r_a0
    · refine wq_in q ?_
      obtain ⟨o_18, h9, h⟩ := bd h
      obtain ⟨o_18_x, e, r_o_18⟩ := w_gr g r_a0.so h9
      refine wq_bd e ?_
      obtain ⟨v_20, h10, h⟩ := bd h
      refine wq_bd (w_gi g r_o_18 h10) ?_
      obtain ⟨v_22, h11, h⟩ := bd h
      refine wq_bd (w_gi g r_o_12 h11) ?_
      rcases ite_some h with ⟨q, h⟩ | ⟨q, h⟩
      · refine wq_ip q ?_
        exact wb111_51 h g r_a0
      · refine wq_in q ?_
        obtain ⟨b_26, h12, h⟩ := bd h
        obtain ⟨b_26_x, e, r_b_26⟩ := w_go g r_o_12 h12
        refine wq_bd e ?_
        obtain ⟨q_24, h13, h⟩ := bd h
        obtain ⟨_, _, e, g, x⟩ := wc_V (f := f110) h13 (fun e => w110 e g (vl_c (va_r r_b_26.so) vl_n))
        refine wq_bd e (wq_up x ?_)
        have r_a0 := r_a0.up x
        exact wb111_51 h g r_a0
theorem w111 {Y : Nat → Prop} {M0 : hM} {ρ : Nat → Nat} {as as_x : List aV} {M H M' : hM} {r : Option aV} (h : f111 as M = some (r, M')) (g : rn Y M0 ρ M H) (ha : vl ρ M as as_x) : wr Y M0 ρ M r M' (f111 as_x H) := by
  unfold f111 at h
  split at h
  · rename_i a0
    obtain ⟨a0_x, _, rfl, r_a0, ha1⟩ := vl_is ha
    cases vl_in ha1
    show wr Y M0 ρ M r M' (x_go k111 (b111_0 a0_x H))
    refine wx_go (blk := k111) ?_ h (fun res hx => wb111_0 hx g r_a0)
    intro ρ h as as_x M H res hk g ha
    unfold k111 at hk
    split at hk
    · rename_i hh
      subst hh
      split at hk
      · rename_i a0 v1 v2
        obtain ⟨a0_x, _, rfl, r_a0, ha1⟩ := vl_is ha
        obtain ⟨_, rfl, ha2⟩ := vl_ii ha1
        obtain ⟨_, rfl, ha3⟩ := vl_ii ha2
        cases vl_in ha3
        exact wb111_4 hk g r_a0
      · cases hk
    · skip
      cases hk
  · cases h
theorem wb112_24 {si0 : Int32} {Y : Nat → Prop} {M0 : hM} {ρ : Nat → Nat} {M H : hM} {res : xRes} (h : b112_24 si0 M = some res) (g : rn Y M0 ρ M H)  : wq Y M0 ρ M res (b112_24 si0 H) := by
  unfold b112_24 at h ⊢
  rcases ite_some h with ⟨q, h⟩ | ⟨q, h⟩
  · refine wq_ip q ?_
    cases h
    exact ⟨_, _, rfl, (vs_a va_i), g, ex.rf⟩
  · refine wq_in q ?_
    cases h
theorem wb112_23  {Y : Nat → Prop} {M0 : hM} {ρ : Nat → Nat} {M H : hM} {res : xRes} (h : b112_23  M = some res) (g : rn Y M0 ρ M H)  : wq Y M0 ρ M res (b112_23  H) := by
  unfold b112_23 at h ⊢
  exact wb112_24 h g 
theorem wb112_0 {a0 : Nat} {a0_x : Nat} {Y : Nat → Prop} {M0 : hM} {ρ : Nat → Nat} {M H : hM} {res : xRes} (h : b112_0 a0 M = some res) (g : rn Y M0 ρ M H) (r_a0 : vn ρ M a0 a0_x) : wq Y M0 ρ M res (b112_0 a0_x H) := by
  unfold b112_0 at h ⊢
  obtain ⟨o_1, h1, h⟩ := bd h
  obtain ⟨o_1_x, e, r_o_1⟩ := w_gr g r_a0.so h1
  refine wq_bd e ?_
  rcases ite_some h with ⟨q, h⟩ | ⟨q, h⟩
  · refine wq_ip (r_o_1.non q) ?_
    exact wb112_23 h g 
  · refine wq_in (r_o_1.nnn q) ?_
    obtain ⟨o_3, h2, h⟩ := bd h
    obtain ⟨o_3_x, e, r_o_3⟩ := w_gr g r_a0.so h2
    refine wq_bd e ?_
    obtain ⟨v_5, h3, h⟩ := bd h
    refine wq_bd (w_gi g r_o_3 h3) ?_
    rcases ite_some h with ⟨q, h⟩ | ⟨q, h⟩
    · refine wq_ip q ?_
      exact wb112_23 h g 
    · refine wq_in q ?_
      exact wb112_24 h g 
theorem w112 {Y : Nat → Prop} {M0 : hM} {ρ : Nat → Nat} {as as_x : List aV} {M H M' : hM} {r : Option aV} (h : f112 as M = some (r, M')) (g : rn Y M0 ρ M H) (ha : vl ρ M as as_x) : wr Y M0 ρ M r M' (f112 as_x H) := by
  unfold f112 at h
  split at h
  · rename_i a0
    obtain ⟨a0_x, _, rfl, r_a0, ha1⟩ := vl_is ha
    cases vl_in ha1
    exact wx_out h (fun res hx => wb112_0 hx g r_a0)
  · cases h
theorem wb113_0 {a0 : Nat} {a0_x : Nat} {Y : Nat → Prop} {M0 : hM} {ρ : Nat → Nat} {M H : hM} {res : xRes} (h : b113_0 a0 M = some res) (g : rn Y M0 ρ M H) (r_a0 : vn ρ M a0 a0_x) : wq Y M0 ρ M res (b113_0 a0_x H) := by
  unfold b113_0 at h ⊢
  cases h
  exact ⟨_, _, rfl, (vs_g (vl_c (va_r r_a0.so) (vl_c va_i vl_n))), g, ex.rf⟩
theorem wb113_94 {a0 : Nat} {a0_x : Nat} {v1 : Int32} {Y : Nat → Prop} {M0 : hM} {ρ : Nat → Nat} {M H : hM} {res : xRes} (h : b113_94 a0 v1 M = some res) (g : rn Y M0 ρ M H) (r_a0 : vn ρ M a0 a0_x) : wq Y M0 ρ M res (b113_94 a0_x v1 H) := by
  unfold b113_94 at h ⊢
  cases h
  exact ⟨_, _, rfl, (vs_g (vl_c (va_r r_a0.so) (vl_c va_i vl_n))), g, ex.rf⟩
theorem wb113_2 {a0 : Nat} {a0_x : Nat} {v1 : Int32} {Y : Nat → Prop} {M0 : hM} {ρ : Nat → Nat} {M H : hM} {res : xRes} (h : b113_2 a0 v1 M = some res) (g : rn Y M0 ρ M H) (r_a0 : vn ρ M a0 a0_x) : wq Y M0 ρ M res (b113_2 a0_x v1 H) := by
  unfold b113_2 at h ⊢
  rcases ite_some h with ⟨q, h⟩ | ⟨q, h⟩
  · refine wq_ip q ?_
    cases h
    exact ⟨_, _, rfl, vs_n, g, ex.rf⟩
  · refine wq_in q ?_
    obtain ⟨o_1, h1, h⟩ := bd h
    obtain ⟨o_1_x, e, r_o_1⟩ := w_gr g r_a0.so h1
    refine wq_bd e ?_
    obtain ⟨o_3, h2, h⟩ := bd h
    obtain ⟨o_3_x, e, r_o_3⟩ := w_alr g r_o_1 h2
    refine wq_bd e ?_
    obtain ⟨v_5, h3, h⟩ := bd h
    refine wq_bd (w_gi g r_o_3 h3) ?_
    rcases ite_some h with ⟨q, h⟩ | ⟨q, h⟩
    · refine wq_ip q ?_
      exact wb113_94 h g r_a0
    · refine wq_in q ?_
      obtain ⟨b_9, h4, h⟩ := bd h
      obtain ⟨b_9_x, e, r_b_9⟩ := w_go g r_o_3 h4
      refine wq_bd e ?_
      obtain ⟨q_7, h5, h⟩ := bd h
      obtain ⟨_, _, e, g, x⟩ := wc_I (f := f112) h5 (fun e => w112 e g (vl_c (va_r r_b_9.so) vl_n))
      refine wq_bd e (wq_up x ?_)
      have r_a0 := r_a0.up x
      have r_o_3 := r_o_3.up x
      rcases ite_some h with ⟨q, h⟩ | ⟨q, h⟩
      · refine wq_ip q ?_
        exact wb113_94 h g r_a0
      · refine wq_in q ?_
        obtain ⟨v_11, h6, h⟩ := bd h
        refine wq_bd (w_gi g r_o_3 h6) ?_
        rcases ite_some h with ⟨q, h⟩ | ⟨q, h⟩
        · refine wq_ip q ?_
          obtain ⟨o_13, h7, h⟩ := bd h
          obtain ⟨o_13_x, e, r_o_13⟩ := w_gr g r_a0.so h7
          refine wq_bd e ?_
          obtain ⟨v_15, h8, h⟩ := bd h
          refine wq_bd (w_gi g r_o_13 h8) ?_
          obtain ⟨v_17, h9, h⟩ := bd h
          refine wq_bd (w_gi g r_o_3 h9) ?_
          rcases ite_some h with ⟨q, h⟩ | ⟨q, h⟩
          · refine wq_ip q ?_
            exact wb113_94 h g r_a0
          · refine wq_in q ?_
            obtain ⟨o_19, h10, h⟩ := bd h
            obtain ⟨o_19_x, e, r_o_19⟩ := w_gr g r_a0.so h10
            refine wq_bd e ?_
            obtain ⟨v_21, h11, h⟩ := bd h
            refine wq_bd (w_gi g r_o_19 h11) ?_
            obtain ⟨M23, h12, h⟩ := bd h
            obtain ⟨_, e, g, x⟩ := w_pi g r_o_3 h12
            refine wq_bd e (wq_up x ?_)
            have r_a0 := r_a0.up x
            have r_o_3 := r_o_3.up x
            obtain ⟨o_25, h13, h⟩ := bd h
            obtain ⟨o_25_x, e, r_o_25⟩ := w_gr g r_a0.so h13
            refine wq_bd e ?_
            obtain ⟨b_29, h14, h⟩ := bd h
            obtain ⟨b_29_x, e, r_b_29⟩ := w_go g r_o_25 h14
            refine wq_bd e ?_
            obtain ⟨q_27, h15, h⟩ := bd h
            obtain ⟨_, _, _, e, g, x, r_q⟩ := wc_R (f := f34) h15 (fun e => w34 e g (vl_c (va_r r_b_29.so) (vl_c va_i (vl_c va_i (vl_c va_i (vl_c va_i vl_n))))))
            refine wq_bd e (wq_up x ?_)
            have r_a0 := r_a0.up x
            have r_o_3 := r_o_3.up x
            have r_q_27_1 := r_q
            obtain ⟨v_31, h16, h⟩ := bd h
            refine wq_bd (w_gi g r_a0.so h16) ?_
            obtain ⟨b_35, h17, h⟩ := bd h
            obtain ⟨b_35_x, e, r_b_35⟩ := w_go g r_q_27_1 h17
            refine wq_bd e ?_
            obtain ⟨q_33, h18, h⟩ := bd h
            obtain ⟨_, _, e, g, x⟩ := wc_V (f := f36) h18 (fun e => w36 e g (vl_c (va_r r_b_35.so) (vl_c va_i (vl_c va_l vl_n))))
            refine wq_bd e (wq_up x ?_)
            have r_a0 := r_a0.up x
            have r_o_3 := r_o_3.up x
            have r_q_27_1 := r_q_27_1.up x
            obtain ⟨b_39, h19, h⟩ := bd h
            obtain ⟨b_39_x, e, r_b_39⟩ := w_go g r_o_3 h19
            refine wq_bd e ?_
            obtain ⟨q_37, h20, h⟩ := bd h
            obtain ⟨_, _, e, g, x⟩ := wc_V (f := f39) h20 (fun e => w39 e g (vl_c (va_r r_b_39.so) (vl_c (va_r r_q_27_1) vl_n)))
            refine wq_bd e (wq_up x ?_)
            have r_a0 := r_a0.up x
            exact wb113_94 h g r_a0
        · refine wq_in q ?_
          exact wb113_94 h g r_a0
theorem w113 {Y : Nat → Prop} {M0 : hM} {ρ : Nat → Nat} {as as_x : List aV} {M H M' : hM} {r : Option aV} (h : f113 as M = some (r, M')) (g : rn Y M0 ρ M H) (ha : vl ρ M as as_x) : wr Y M0 ρ M r M' (f113 as_x H) := by
  unfold f113 at h
  split at h
  · rename_i a0
    obtain ⟨a0_x, _, rfl, r_a0, ha1⟩ := vl_is ha
    cases vl_in ha1
    show wr Y M0 ρ M r M' (x_go k113 (b113_0 a0_x H))
    refine wx_go (blk := k113) ?_ h (fun res hx => wb113_0 hx g r_a0)
    intro ρ h as as_x M H res hk g ha
    unfold k113 at hk
    split at hk
    · rename_i hh
      subst hh
      split at hk
      · rename_i a0 v1
        obtain ⟨a0_x, _, rfl, r_a0, ha1⟩ := vl_is ha
        obtain ⟨_, rfl, ha2⟩ := vl_ii ha1
        cases vl_in ha2
        exact wb113_2 hk g r_a0
      · cases hk
    · skip
      cases hk
  · cases h
theorem wb114_33  {Y : Nat → Prop} {M0 : hM} {ρ : Nat → Nat} {M H : hM} {res : xRes} (h : b114_33  M = some res) (g : rn Y M0 ρ M H)  : wq Y M0 ρ M res (b114_33  H) := by
  unfold b114_33 at h ⊢
  cases h
  exact ⟨_, _, rfl, vs_n, g, ex.rf⟩
theorem wb114_0 {a0 : Nat} {a0_x : Nat} {v1 : Int32} {Y : Nat → Prop} {M0 : hM} {ρ : Nat → Nat} {M H : hM} {res : xRes} (h : b114_0 a0 v1 M = some res) (g : rn Y M0 ρ M H) (r_a0 : vn ρ M a0 a0_x) : wq Y M0 ρ M res (b114_0 a0_x v1 H) := by
  unfold b114_0 at h ⊢
  obtain ⟨v_1, h1, h⟩ := bd h
  refine wq_bd (w_gi g r_a0.so h1) ?_
  obtain ⟨o_3, h2, h⟩ := bd h
  obtain ⟨o_3_x, e, r_o_3⟩ := w_gr g r_a0.so h2
  refine wq_bd e ?_
  obtain ⟨v_5, h3, h⟩ := bd h
  refine wq_bd (w_aln g r_o_3 h3) ?_
  rcases ite_some h with ⟨q, h⟩ | ⟨q, h⟩
  · refine wq_ip q ?_
    exact wb114_33 h g 
  · refine wq_in q ?_
    obtain ⟨o_7, h4, h⟩ := bd h
    obtain ⟨o_7_x, e, r_o_7⟩ := w_gr g r_a0.so h4
    refine wq_bd e ?_
    obtain ⟨v_9, h5, h⟩ := bd h
    refine wq_bd (w_gi g r_a0.so h5) ?_
    obtain ⟨M11, h6, h⟩ := bd h
    obtain ⟨_, e, g, x⟩ := w_asb g r_o_7 h6
    refine wq_bd e (wq_up x ?_)
    have r_a0 := r_a0.up x
    obtain ⟨v_13, h7, h⟩ := bd h
    refine wq_bd (w_gi g r_a0.so h7) ?_
    obtain ⟨M15, h8, h⟩ := bd h
    obtain ⟨_, e, g, x⟩ := w_pi g r_a0.so h8
    refine wq_bd e (wq_up x ?_)
    exact wb114_33 h g 
theorem w114 {Y : Nat → Prop} {M0 : hM} {ρ : Nat → Nat} {as as_x : List aV} {M H M' : hM} {r : Option aV} (h : f114 as M = some (r, M')) (g : rn Y M0 ρ M H) (ha : vl ρ M as as_x) : wr Y M0 ρ M r M' (f114 as_x H) := by
  unfold f114 at h
  split at h
  · rename_i a0 v1
    obtain ⟨a0_x, _, rfl, r_a0, ha1⟩ := vl_is ha
    obtain ⟨_, rfl, ha2⟩ := vl_ii ha1
    cases vl_in ha2
    exact wx_out h (fun res hx => wb114_0 hx g r_a0)
  · cases h
theorem wb115_24 {si0 : Int32} {Y : Nat → Prop} {M0 : hM} {ρ : Nat → Nat} {M H : hM} {res : xRes} (h : b115_24 si0 M = some res) (g : rn Y M0 ρ M H)  : wq Y M0 ρ M res (b115_24 si0 H) := by
  unfold b115_24 at h ⊢
  rcases ite_some h with ⟨q, h⟩ | ⟨q, h⟩
  · refine wq_ip q ?_
    cases h
    exact ⟨_, _, rfl, (vs_a va_i), g, ex.rf⟩
  · refine wq_in q ?_
    cases h
theorem wb115_23  {Y : Nat → Prop} {M0 : hM} {ρ : Nat → Nat} {M H : hM} {res : xRes} (h : b115_23  M = some res) (g : rn Y M0 ρ M H)  : wq Y M0 ρ M res (b115_23  H) := by
  unfold b115_23 at h ⊢
  exact wb115_24 h g 
theorem wb115_0 {a0 : Nat} {a0_x : Nat} {Y : Nat → Prop} {M0 : hM} {ρ : Nat → Nat} {M H : hM} {res : xRes} (h : b115_0 a0 M = some res) (g : rn Y M0 ρ M H) (r_a0 : vn ρ M a0 a0_x) : wq Y M0 ρ M res (b115_0 a0_x H) := by
  unfold b115_0 at h ⊢
  obtain ⟨o_1, h1, h⟩ := bd h
  obtain ⟨o_1_x, e, r_o_1⟩ := w_gr g r_a0.so h1
  refine wq_bd e ?_
  rcases ite_some h with ⟨q, h⟩ | ⟨q, h⟩
  · refine wq_ip (r_o_1.non q) ?_
    exact wb115_23 h g 
  · refine wq_in (r_o_1.nnn q) ?_
    obtain ⟨o_3, h2, h⟩ := bd h
    obtain ⟨o_3_x, e, r_o_3⟩ := w_gr g r_a0.so h2
    refine wq_bd e ?_
    obtain ⟨v_5, h3, h⟩ := bd h
    refine wq_bd (w_gi g r_o_3 h3) ?_
    rcases ite_some h with ⟨q, h⟩ | ⟨q, h⟩
    · refine wq_ip q ?_
      exact wb115_23 h g 
    · refine wq_in q ?_
      exact wb115_24 h g 
theorem w115 {Y : Nat → Prop} {M0 : hM} {ρ : Nat → Nat} {as as_x : List aV} {M H M' : hM} {r : Option aV} (h : f115 as M = some (r, M')) (g : rn Y M0 ρ M H) (ha : vl ρ M as as_x) : wr Y M0 ρ M r M' (f115 as_x H) := by
  unfold f115 at h
  split at h
  · rename_i a0
    obtain ⟨a0_x, _, rfl, r_a0, ha1⟩ := vl_is ha
    cases vl_in ha1
    exact wx_out h (fun res hx => wb115_0 hx g r_a0)
  · cases h
theorem wb116_21 {si0 : Int32} {Y : Nat → Prop} {M0 : hM} {ρ : Nat → Nat} {M H : hM} {res : xRes} (h : b116_21 si0 M = some res) (g : rn Y M0 ρ M H)  : wq Y M0 ρ M res (b116_21 si0 H) := by
  unfold b116_21 at h ⊢
  cases h
  exact ⟨_, _, rfl, (vs_a va_i), g, ex.rf⟩
theorem wb116_0 {a0 : Nat} {a0_x : Nat} {Y : Nat → Prop} {M0 : hM} {ρ : Nat → Nat} {M H : hM} {res : xRes} (h : b116_0 a0 M = some res) (g : rn Y M0 ρ M H) (r_a0 : vn ρ M a0 a0_x) : wq Y M0 ρ M res (b116_0 a0_x H) := by
  unfold b116_0 at h ⊢
  obtain ⟨b_3, h1, h⟩ := bd h
  obtain ⟨b_3_x, e, r_b_3⟩ := w_go g r_a0.so h1
  refine wq_bd e ?_
  obtain ⟨q_1, h2, h⟩ := bd h
  obtain ⟨_, _, e, g, x⟩ := wc_I (f := f115) h2 (fun e => w115 e g (vl_c (va_r r_b_3.so) vl_n))
  refine wq_bd e (wq_up x ?_)
  have r_a0 := r_a0.up x
  rcases ite_some h with ⟨q, h⟩ | ⟨q, h⟩
  · refine wq_ip q ?_
    exact wb116_21 h g 
  · refine wq_in q ?_
    obtain ⟨o_5, h3, h⟩ := bd h
    obtain ⟨o_5_x, e, r_o_5⟩ := w_gr g r_a0.so h3
    refine wq_bd e ?_
    obtain ⟨v_7, h4, h⟩ := bd h
    refine wq_bd (w_gi g r_o_5 h4) ?_
    exact wb116_21 h g 
theorem w116 {Y : Nat → Prop} {M0 : hM} {ρ : Nat → Nat} {as as_x : List aV} {M H M' : hM} {r : Option aV} (h : f116 as M = some (r, M')) (g : rn Y M0 ρ M H) (ha : vl ρ M as as_x) : wr Y M0 ρ M r M' (f116 as_x H) := by
  unfold f116 at h
  split at h
  · rename_i a0
    obtain ⟨a0_x, _, rfl, r_a0, ha1⟩ := vl_is ha
    cases vl_in ha1
    exact wx_out h (fun res hx => wb116_0 hx g r_a0)
  · cases h
theorem wb117_0 {a0 : Nat} {a0_x : Nat} {Y : Nat → Prop} {M0 : hM} {ρ : Nat → Nat} {M H : hM} {res : xRes} (h : b117_0 a0 M = some res) (g : rn Y M0 ρ M H) (r_a0 : vn ρ M a0 a0_x) : wq Y M0 ρ M res (b117_0 a0_x H) := by
  unfold b117_0 at h ⊢
  cases h
  exact ⟨_, _, rfl, (vs_g (vl_c (va_r r_a0.so) (vl_c va_i (vl_c va_i (vl_c va_i vl_n))))), g, ex.rf⟩
theorem wb117_51 {a0 : Nat} {a0_x : Nat} {v1 : Int32} {v3 : Int32} {si0 : Int32} {si1 : Int32} {Y : Nat → Prop} {M0 : hM} {ρ : Nat → Nat} {M H : hM} {res : xRes} (h : b117_51 a0 v1 v3 si0 si1 M = some res) (g : rn Y M0 ρ M H) (r_a0 : vn ρ M a0 a0_x) : wq Y M0 ρ M res (b117_51 a0_x v1 v3 si0 si1 H) := by
  unfold b117_51 at h ⊢
  cases h
  exact ⟨_, _, rfl, (vs_g (vl_c (va_r r_a0.so) (vl_c va_i (vl_c va_i (vl_c va_i vl_n))))), g, ex.rf⟩
theorem wb117_31 {a0 : Nat} {a0_x : Nat} {v2 : Int32} {v3 : Int32} {si0 : Int32} {si1 : Int32} {Y : Nat → Prop} {M0 : hM} {ρ : Nat → Nat} {M H : hM} {res : xRes} (h : b117_31 a0 v2 v3 si0 si1 M = some res) (g : rn Y M0 ρ M H) (r_a0 : vn ρ M a0 a0_x) : wq Y M0 ρ M res (b117_31 a0_x v2 v3 si0 si1 H) := by
  unfold b117_31 at h ⊢
  obtain ⟨o_23, h1, h⟩ := bd h
  obtain ⟨o_23_x, e, r_o_23⟩ := w_gr g r_a0.so h1
  refine wq_bd e ?_
  obtain ⟨o_25, h2, h⟩ := bd h
  obtain ⟨o_25_x, e, r_o_25⟩ := w_alr g r_o_23 h2
  refine wq_bd e ?_
  obtain ⟨v_27, h3, h⟩ := bd h
  refine wq_bd (w_gi g r_o_25 h3) ?_
  rcases ite_some h with ⟨q, h⟩ | ⟨q, h⟩
  · refine wq_ip q ?_
    exact wb117_51 h g r_a0
  · refine wq_in q ?_
    exact wb117_51 h g r_a0
theorem wb117_6 {a0 : Nat} {a0_x : Nat} {v1 : Int32} {v2 : Int32} {v3 : Int32} {Y : Nat → Prop} {M0 : hM} {ρ : Nat → Nat} {M H : hM} {res : xRes} (h : b117_6 a0 v1 v2 v3 M = some res) (g : rn Y M0 ρ M H) (r_a0 : vn ρ M a0 a0_x) : wq Y M0 ρ M res (b117_6 a0_x v1 v2 v3 H) := by
  unfold b117_6 at h ⊢
  rcases ite_some h with ⟨q, h⟩ | ⟨q, h⟩
  · refine wq_ip q ?_
    obtain ⟨o_1, h1, h⟩ := bd h
    obtain ⟨o_1_x, e, r_o_1⟩ := w_gr g r_a0.so h1
    refine wq_bd e ?_
    obtain ⟨b_5, h2, h⟩ := bd h
    obtain ⟨b_5_x, e, r_b_5⟩ := w_go g r_o_1 h2
    refine wq_bd e ?_
    obtain ⟨q_3, h3, h⟩ := bd h
    obtain ⟨_, _, e, g, x⟩ := wc_V (f := f110) h3 (fun e => w110 e g (vl_c (va_r r_b_5.so) vl_n))
    refine wq_bd e (wq_up x ?_)
    have r_a0 := r_a0.up x
    obtain ⟨o_7, h4, h⟩ := bd h
    obtain ⟨o_7_x, e, r_o_7⟩ := w_gr g r_a0.so h4
    refine wq_bd e ?_
    obtain ⟨v_9, h5, h⟩ := bd h
    refine wq_bd (w_gi g r_a0.so h5) ?_
    obtain ⟨b_13, h6, h⟩ := bd h
    obtain ⟨b_13_x, e, r_b_13⟩ := w_go g r_o_7 h6
    refine wq_bd e ?_
    obtain ⟨q_11, h7, h⟩ := bd h
    obtain ⟨_, _, e, g, x⟩ := wc_V (f := f114) h7 (fun e => w114 e g (vl_c (va_r r_b_13.so) (vl_c va_i vl_n)))
    refine wq_bd e (wq_up x ?_)
    have r_a0 := r_a0.up x
    cases h
    exact ⟨_, _, rfl, (vs_g (vl_c (va_r r_a0.so) (vl_c va_i (vl_c va_i (vl_c va_i vl_n))))), g, ex.rf⟩
  · refine wq_in q ?_
    obtain ⟨o_15, h8, h⟩ := bd h
    obtain ⟨o_15_x, e, r_o_15⟩ := w_gr g r_a0.so h8
    refine wq_bd e ?_
    obtain ⟨o_17, h9, h⟩ := bd h
    obtain ⟨o_17_x, e, r_o_17⟩ := w_alr g r_o_15 h9
    refine wq_bd e ?_
    obtain ⟨v_19, h10, h⟩ := bd h
    refine wq_bd (w_gi g r_o_17 h10) ?_
    rcases ite_some h with ⟨q, h⟩ | ⟨q, h⟩
    · refine wq_ip q ?_
      exact wb117_31 h g r_a0
    · refine wq_in q ?_
      exact wb117_31 h g r_a0
theorem wb117_79 {a0 : Nat} {a0_x : Nat} {v1 : Int32} {v2 : Int32} {v3 : Int32} {Y : Nat → Prop} {M0 : hM} {ρ : Nat → Nat} {M H : hM} {res : xRes} (h : b117_79 a0 v1 v2 v3 M = some res) (g : rn Y M0 ρ M H) (r_a0 : vn ρ M a0 a0_x) : wq Y M0 ρ M res (b117_79 a0_x v1 v2 v3 H) := by
  unfold b117_79 at h ⊢
  rcases ite_some h with ⟨q, h⟩ | ⟨q, h⟩
  · refine wq_ip q ?_
    obtain ⟨o_30, h1, h⟩ := bd h
    obtain ⟨o_30_x, e, r_o_30⟩ := w_gr g r_a0.so h1
    refine wq_bd e ?_
    obtain ⟨v_32, h2, h⟩ := bd h
    refine wq_bd (w_gi g r_a0.so h2) ?_
    obtain ⟨b_36, h3, h⟩ := bd h
    obtain ⟨b_36_x, e, r_b_36⟩ := w_go g r_o_30 h3
    refine wq_bd e ?_
    obtain ⟨q_34, h4, h⟩ := bd h
    obtain ⟨_, _, e, g, x⟩ := wc_V (f := f114) h4 (fun e => w114 e g (vl_c (va_r r_b_36.so) (vl_c va_i vl_n)))
    refine wq_bd e (wq_up x ?_)
    have r_a0 := r_a0.up x
    obtain ⟨o_38, h5, h⟩ := bd h
    obtain ⟨o_38_x, e, r_o_38⟩ := w_gr g r_a0.so h5
    refine wq_bd e ?_
    obtain ⟨b_42, h6, h⟩ := bd h
    obtain ⟨b_42_x, e, r_b_42⟩ := w_go g r_o_38 h6
    refine wq_bd e ?_
    obtain ⟨q_40, h7, h⟩ := bd h
    obtain ⟨_, _, e, g, x⟩ := wc_V (f := f114) h7 (fun e => w114 e g (vl_c (va_r r_b_42.so) (vl_c va_i vl_n)))
    refine wq_bd e (wq_up x ?_)
    have r_a0 := r_a0.up x
    cases h
    exact ⟨_, _, rfl, (vs_g (vl_c (va_r r_a0.so) (vl_c va_i (vl_c va_i vl_n)))), g, ex.rf⟩
  · refine wq_in q ?_
    obtain ⟨o_44, h8, h⟩ := bd h
    obtain ⟨o_44_x, e, r_o_44⟩ := w_gr g r_a0.so h8
    refine wq_bd e ?_
    obtain ⟨b_48, h9, h⟩ := bd h
    obtain ⟨b_48_x, e, r_b_48⟩ := w_go g r_o_44 h9
    refine wq_bd e ?_
    obtain ⟨q_46, h10, h⟩ := bd h
    obtain ⟨_, _, e, g, x⟩ := wc_V (f := f114) h10 (fun e => w114 e g (vl_c (va_r r_b_48.so) (vl_c va_i vl_n)))
    refine wq_bd e (wq_up x ?_)
    have r_a0 := r_a0.up x
    cases h
    exact ⟨_, _, rfl, (vs_g (vl_c (va_r r_a0.so) (vl_c va_i (vl_c va_i (vl_c va_i vl_n))))), g, ex.rf⟩
theorem wb117_178 {a0 : Nat} {a0_x : Nat} {v2 : Int32} {v3 : Int32} {Y : Nat → Prop} {M0 : hM} {ρ : Nat → Nat} {M H : hM} {res : xRes} (h : b117_178 a0 v2 v3 M = some res) (g : rn Y M0 ρ M H) (r_a0 : vn ρ M a0 a0_x) : wq Y M0 ρ M res (b117_178 a0_x v2 v3 H) := by
  unfold b117_178 at h ⊢
  cases h
  exact ⟨_, _, rfl, (vs_g (vl_c (va_r r_a0.so) (vl_c va_i (vl_c va_i vl_n)))), g, ex.rf⟩
theorem wb117_119 {a0 : Nat} {a0_x : Nat} {v2 : Int32} {v3 : Int32} {Y : Nat → Prop} {M0 : hM} {ρ : Nat → Nat} {M H : hM} {res : xRes} (h : b117_119 a0 v2 v3 M = some res) (g : rn Y M0 ρ M H) (r_a0 : vn ρ M a0 a0_x) : wq Y M0 ρ M res (b117_119 a0_x v2 v3 H) := by
  unfold b117_119 at h ⊢
  rcases ite_some h with ⟨q, h⟩ | ⟨q, h⟩
  · refine wq_ip q ?_
    obtain ⟨o_51, h1, h⟩ := bd h
    obtain ⟨o_51_x, e, r_o_51⟩ := w_gr g r_a0.so h1
    refine wq_bd e ?_
    obtain ⟨b_55, h2, h⟩ := bd h
    obtain ⟨b_55_x, e, r_b_55⟩ := w_go g r_o_51 h2
    refine wq_bd e ?_
    obtain ⟨q_53, h3, h⟩ := bd h
    obtain ⟨_, _, e, g, x⟩ := wc_V (f := f114) h3 (fun e => w114 e g (vl_c (va_r r_b_55.so) (vl_c va_i vl_n)))
    refine wq_bd e (wq_up x ?_)
    have r_a0 := r_a0.up x
    cases h
    exact ⟨_, _, rfl, (vs_g (vl_c (va_r r_a0.so) (vl_c va_i vl_n))), g, ex.rf⟩
  · refine wq_in q ?_
    obtain ⟨o_57, h4, h⟩ := bd h
    obtain ⟨o_57_x, e, r_o_57⟩ := w_gr g r_a0.so h4
    refine wq_bd e ?_
    obtain ⟨o_59, h5, h⟩ := bd h
    obtain ⟨o_59_x, e, r_o_59⟩ := w_alr g r_o_57 h5
    refine wq_bd e ?_
    obtain ⟨v_61, h6, h⟩ := bd h
    refine wq_bd (w_gi g r_o_59 h6) ?_
    rcases ite_some h with ⟨q, h⟩ | ⟨q, h⟩
    · refine wq_ip q ?_
      exact wb117_178 h g r_a0
    · refine wq_in q ?_
      obtain ⟨o_63, h7, h⟩ := bd h
      obtain ⟨o_63_x, e, r_o_63⟩ := w_gr g r_a0.so h7
      refine wq_bd e ?_
      obtain ⟨b_67, h8, h⟩ := bd h
      obtain ⟨b_67_x, e, r_b_67⟩ := w_go g r_o_63 h8
      refine wq_bd e ?_
      obtain ⟨q_65, h9, h⟩ := bd h
      obtain ⟨_, _, e, g, x⟩ := wc_V (f := f114) h9 (fun e => w114 e g (vl_c (va_r r_b_67.so) (vl_c va_i vl_n)))
      refine wq_bd e (wq_up x ?_)
      have r_a0 := r_a0.up x
      obtain ⟨o_69, h10, h⟩ := bd h
      obtain ⟨o_69_x, e, r_o_69⟩ := w_gr g r_a0.so h10
      refine wq_bd e ?_
      obtain ⟨o_71, h11, h⟩ := bd h
      obtain ⟨o_71_x, e, r_o_71⟩ := w_gr g r_a0.so h11
      refine wq_bd e ?_
      obtain ⟨o_73, h12, h⟩ := bd h
      obtain ⟨o_73_x, e, r_o_73⟩ := w_alr g r_o_71 h12
      refine wq_bd e ?_
      obtain ⟨v_75, h13, h⟩ := bd h
      refine wq_bd (w_gi g r_o_73 h13) ?_
      obtain ⟨b_79, h14, h⟩ := bd h
      obtain ⟨b_79_x, e, r_b_79⟩ := w_go g r_o_69 h14
      refine wq_bd e ?_
      obtain ⟨q_77, h15, h⟩ := bd h
      obtain ⟨_, _, e, g, x⟩ := wc_V (f := f114) h15 (fun e => w114 e g (vl_c (va_r r_b_79.so) (vl_c va_i vl_n)))
      refine wq_bd e (wq_up x ?_)
      have r_a0 := r_a0.up x
      obtain ⟨o_81, h16, h⟩ := bd h
      obtain ⟨o_81_x, e, r_o_81⟩ := w_gr g r_a0.so h16
      refine wq_bd e ?_
      obtain ⟨o_83, h17, h⟩ := bd h
      obtain ⟨o_83_x, e, r_o_83⟩ := w_gr g r_a0.so h17
      refine wq_bd e ?_
      obtain ⟨o_85, h18, h⟩ := bd h
      obtain ⟨o_85_x, e, r_o_85⟩ := w_alr g r_o_83 h18
      refine wq_bd e ?_
      obtain ⟨v_87, h19, h⟩ := bd h
      refine wq_bd (w_gi g r_o_85 h19) ?_
      obtain ⟨b_91, h20, h⟩ := bd h
      obtain ⟨b_91_x, e, r_b_91⟩ := w_go g r_o_81 h20
      refine wq_bd e ?_
      obtain ⟨q_89, h21, h⟩ := bd h
      obtain ⟨_, _, e, g, x⟩ := wc_V (f := f114) h21 (fun e => w114 e g (vl_c (va_r r_b_91.so) (vl_c va_i vl_n)))
      refine wq_bd e (wq_up x ?_)
      have r_a0 := r_a0.up x
      exact wb117_178 h g r_a0
theorem wb117_236 {a0 : Nat} {a0_x : Nat} {v3 : Int32} {Y : Nat → Prop} {M0 : hM} {ρ : Nat → Nat} {M H : hM} {res : xRes} (h : b117_236 a0 v3 M = some res) (g : rn Y M0 ρ M H) (r_a0 : vn ρ M a0 a0_x) : wq Y M0 ρ M res (b117_236 a0_x v3 H) := by
  unfold b117_236 at h ⊢
  cases h
  exact ⟨_, _, rfl, (vs_g (vl_c (va_r r_a0.so) (vl_c va_i vl_n))), g, ex.rf⟩
theorem wb117_194 {a0 : Nat} {a0_x : Nat} {v3 : Int32} {Y : Nat → Prop} {M0 : hM} {ρ : Nat → Nat} {M H : hM} {res : xRes} (h : b117_194 a0 v3 M = some res) (g : rn Y M0 ρ M H) (r_a0 : vn ρ M a0 a0_x) : wq Y M0 ρ M res (b117_194 a0_x v3 H) := by
  unfold b117_194 at h ⊢
  rcases ite_some h with ⟨q, h⟩ | ⟨q, h⟩
  · refine wq_ip q ?_
    cases h
    exact ⟨_, _, rfl, vs_n, g, ex.rf⟩
  · refine wq_in q ?_
    obtain ⟨o_95, h1, h⟩ := bd h
    obtain ⟨o_95_x, e, r_o_95⟩ := w_gr g r_a0.so h1
    refine wq_bd e ?_
    obtain ⟨o_97, h2, h⟩ := bd h
    obtain ⟨o_97_x, e, r_o_97⟩ := w_alr g r_o_95 h2
    refine wq_bd e ?_
    obtain ⟨v_99, h3, h⟩ := bd h
    refine wq_bd (w_gi g r_o_97 h3) ?_
    rcases ite_some h with ⟨q, h⟩ | ⟨q, h⟩
    · refine wq_ip q ?_
      exact wb117_236 h g r_a0
    · refine wq_in q ?_
      obtain ⟨o_101, h4, h⟩ := bd h
      obtain ⟨o_101_x, e, r_o_101⟩ := w_gr g r_a0.so h4
      refine wq_bd e ?_
      obtain ⟨o_103, h5, h⟩ := bd h
      obtain ⟨o_103_x, e, r_o_103⟩ := w_gr g r_a0.so h5
      refine wq_bd e ?_
      obtain ⟨o_105, h6, h⟩ := bd h
      obtain ⟨o_105_x, e, r_o_105⟩ := w_alr g r_o_103 h6
      refine wq_bd e ?_
      obtain ⟨b_109, h7, h⟩ := bd h
      obtain ⟨b_109_x, e, r_b_109⟩ := w_go g r_o_105 h7
      refine wq_bd e ?_
      obtain ⟨q_107, h8, h⟩ := bd h
      obtain ⟨_, _, e, g, x⟩ := wc_I (f := f116) h8 (fun e => w116 e g (vl_c (va_r r_b_109.so) vl_n))
      refine wq_bd e (wq_up x ?_)
      have r_o_101 := r_o_101.up x
      have r_a0 := r_a0.up x
      obtain ⟨b_113, h9, h⟩ := bd h
      obtain ⟨b_113_x, e, r_b_113⟩ := w_go g r_o_101 h9
      refine wq_bd e ?_
      obtain ⟨q_111, h10, h⟩ := bd h
      obtain ⟨_, _, e, g, x⟩ := wc_V (f := f114) h10 (fun e => w114 e g (vl_c (va_r r_b_113.so) (vl_c va_i vl_n)))
      refine wq_bd e (wq_up x ?_)
      have r_a0 := r_a0.up x
      obtain ⟨o_115, h11, h⟩ := bd h
      obtain ⟨o_115_x, e, r_o_115⟩ := w_gr g r_a0.so h11
      refine wq_bd e ?_
      obtain ⟨b_119, h12, h⟩ := bd h
      obtain ⟨b_119_x, e, r_b_119⟩ := w_go g r_o_115 h12
      refine wq_bd e ?_
      obtain ⟨q_117, h13, h⟩ := bd h
      obtain ⟨_, _, e, g, x⟩ := wc_V (f := f114) h13 (fun e => w114 e g (vl_c (va_r r_b_119.so) (vl_c va_i vl_n)))
      refine wq_bd e (wq_up x ?_)
      have r_a0 := r_a0.up x
      exact wb117_236 h g r_a0
theorem w117 {Y : Nat → Prop} {M0 : hM} {ρ : Nat → Nat} {as as_x : List aV} {M H M' : hM} {r : Option aV} (h : f117 as M = some (r, M')) (g : rn Y M0 ρ M H) (ha : vl ρ M as as_x) : wr Y M0 ρ M r M' (f117 as_x H) := by
  unfold f117 at h
  split at h
  · rename_i a0
    obtain ⟨a0_x, _, rfl, r_a0, ha1⟩ := vl_is ha
    cases vl_in ha1
    show wr Y M0 ρ M r M' (x_go k117 (b117_0 a0_x H))
    refine wx_go (blk := k117) ?_ h (fun res hx => wb117_0 hx g r_a0)
    intro ρ h as as_x M H res hk g ha
    unfold k117 at hk
    split at hk
    · rename_i hh
      subst hh
      split at hk
      · rename_i a0 v1 v2 v3
        obtain ⟨a0_x, _, rfl, r_a0, ha1⟩ := vl_is ha
        obtain ⟨_, rfl, ha2⟩ := vl_ii ha1
        obtain ⟨_, rfl, ha3⟩ := vl_ii ha2
        obtain ⟨_, rfl, ha4⟩ := vl_ii ha3
        cases vl_in ha4
        exact wb117_6 hk g r_a0
      · cases hk
    · skip
      split at hk
      · rename_i hh
        subst hh
        split at hk
        · rename_i a0 v1 v2 v3
          obtain ⟨a0_x, _, rfl, r_a0, ha1⟩ := vl_is ha
          obtain ⟨_, rfl, ha2⟩ := vl_ii ha1
          obtain ⟨_, rfl, ha3⟩ := vl_ii ha2
          obtain ⟨_, rfl, ha4⟩ := vl_ii ha3
          cases vl_in ha4
          exact wb117_79 hk g r_a0
        · cases hk
      · skip
        split at hk
        · rename_i hh
          subst hh
          split at hk
          · rename_i a0 v2 v3
            obtain ⟨a0_x, _, rfl, r_a0, ha1⟩ := vl_is ha
            obtain ⟨_, rfl, ha2⟩ := vl_ii ha1
            obtain ⟨_, rfl, ha3⟩ := vl_ii ha2
            cases vl_in ha3
            exact wb117_119 hk g r_a0
          · cases hk
        · skip
          split at hk
          · rename_i hh
            subst hh
            split at hk
            · rename_i a0 v3
              obtain ⟨a0_x, _, rfl, r_a0, ha1⟩ := vl_is ha
              obtain ⟨_, rfl, ha2⟩ := vl_ii ha1
              cases vl_in ha2
              exact wb117_194 hk g r_a0
            · cases hk
          · skip
            cases hk
  · cases h
theorem wb118_0 {a0 : Nat} {a0_x : Nat} {Y : Nat → Prop} {M0 : hM} {ρ : Nat → Nat} {M H : hM} {res : xRes} (h : b118_0 a0 M = some res) (g : rn Y M0 ρ M H) (r_a0 : vn ρ M a0 a0_x) : wq Y M0 ρ M res (b118_0 a0_x H) := by
  unfold b118_0 at h ⊢
  obtain ⟨b_3, h1, h⟩ := bd h
  obtain ⟨b_3_x, e, r_b_3⟩ := w_go g r_a0.so h1
  refine wq_bd e ?_
  obtain ⟨q_1, h2, h⟩ := bd h
  obtain ⟨_, _, e, g, x⟩ := wc_I (f := f96) h2 (fun e => w96 e g (vl_c (va_r r_b_3.so) (vl_c va_i vl_n)))
  refine wq_bd e (wq_up x ?_)
  have r_a0 := r_a0.up x
  obtain ⟨b_7, h3, h⟩ := bd h
  obtain ⟨b_7_x, e, r_b_7⟩ := w_go g r_a0.so h3
  refine wq_bd e ?_
  obtain ⟨q_5, h4, h⟩ := bd h
  obtain ⟨_, _, e, g, x⟩ := wc_I (f := f96) h4 (fun e => w96 e g (vl_c (va_r r_b_7.so) (vl_c va_i vl_n)))
  refine wq_bd e (wq_up x ?_)
  have r_a0 := r_a0.up x
  obtain ⟨b_11, h5, h⟩ := bd h
  obtain ⟨b_11_x, e, r_b_11⟩ := w_go g r_a0.so h5
  refine wq_bd e ?_
  obtain ⟨q_9, h6, h⟩ := bd h
  obtain ⟨_, _, e, g, x⟩ := wc_I (f := f96) h6 (fun e => w96 e g (vl_c (va_r r_b_11.so) (vl_c va_i vl_n)))
  refine wq_bd e (wq_up x ?_)
  cases h
  exact ⟨_, _, rfl, (vs_a va_i), g, ex.rf⟩
theorem w118 {Y : Nat → Prop} {M0 : hM} {ρ : Nat → Nat} {as as_x : List aV} {M H M' : hM} {r : Option aV} (h : f118 as M = some (r, M')) (g : rn Y M0 ρ M H) (ha : vl ρ M as as_x) : wr Y M0 ρ M r M' (f118 as_x H) := by
  unfold f118 at h
  split at h
  · rename_i a0
    obtain ⟨a0_x, _, rfl, r_a0, ha1⟩ := vl_is ha
    cases vl_in ha1
    exact wx_out h (fun res hx => wb118_0 hx g r_a0)
  · cases h
theorem wb119_0 {a0 : Nat} {a0_x : Nat} {v1 : Int32} {Y : Nat → Prop} {M0 : hM} {ρ : Nat → Nat} {M H : hM} {res : xRes} (h : b119_0 a0 v1 M = some res) (g : rn Y M0 ρ M H) (r_a0 : vn ρ M a0 a0_x) : wq Y M0 ρ M res (b119_0 a0_x v1 H) := by
  unfold b119_0 at h ⊢
  obtain ⟨o_1, h1, h⟩ := bd h
  obtain ⟨o_1_x, e, r_o_1⟩ := w_gr g r_a0.so h1
  refine wq_bd e ?_
  obtain ⟨M3, h2, h⟩ := bd h
  obtain ⟨_, e, g, x⟩ := w_asb g r_o_1 h2
  refine wq_bd e (wq_up x ?_)
  have r_a0 := r_a0.up x
  obtain ⟨o_5, h3, h⟩ := bd h
  obtain ⟨o_5_x, e, r_o_5⟩ := w_gr g r_a0.so h3
  refine wq_bd e ?_
  obtain ⟨M7, h4, h⟩ := bd h
  obtain ⟨_, e, g, x⟩ := w_asb g r_o_5 h4
  refine wq_bd e (wq_up x ?_)
  have r_a0 := r_a0.up x
  obtain ⟨o_9, h5, h⟩ := bd h
  obtain ⟨o_9_x, e, r_o_9⟩ := w_gr g r_a0.so h5
  refine wq_bd e ?_
  obtain ⟨M11, h6, h⟩ := bd h
  obtain ⟨_, e, g, x⟩ := w_asb g r_o_9 h6
  refine wq_bd e (wq_up x ?_)
  cases h
  exact ⟨_, _, rfl, vs_n, g, ex.rf⟩
theorem w119 {Y : Nat → Prop} {M0 : hM} {ρ : Nat → Nat} {as as_x : List aV} {M H M' : hM} {r : Option aV} (h : f119 as M = some (r, M')) (g : rn Y M0 ρ M H) (ha : vl ρ M as as_x) : wr Y M0 ρ M r M' (f119 as_x H) := by
  unfold f119 at h
  split at h
  · rename_i a0 v1
    obtain ⟨a0_x, _, rfl, r_a0, ha1⟩ := vl_is ha
    obtain ⟨_, rfl, ha2⟩ := vl_ii ha1
    cases vl_in ha2
    exact wx_out h (fun res hx => wb119_0 hx g r_a0)
  · cases h
theorem wb120_0 {a0 : Nat} {a0_x : Nat} {o1 : Option Nat} {o1_x : Option Nat} {Y : Nat → Prop} {M0 : hM} {ρ : Nat → Nat} {M H : hM} {res : xRes} (h : b120_0 a0 o1 M = some res) (g : rn Y M0 ρ M H) (r_a0 : vn ρ M a0 a0_x) (r_o1 : vo ρ M o1 o1_x) : wq Y M0 ρ M res (b120_0 a0_x o1_x H) := by
  unfold b120_0 at h ⊢
  cases h
  exact ⟨_, _, rfl, (vs_g (vl_c (va_r r_a0.so) (vl_c (va_r r_o1) (vl_c va_i vl_n)))), g, ex.rf⟩
theorem wb120_50  {Y : Nat → Prop} {M0 : hM} {ρ : Nat → Nat} {M H : hM} {res : xRes} (h : b120_50  M = some res) (g : rn Y M0 ρ M H)  : wq Y M0 ρ M res (b120_50  H) := by
  unfold b120_50 at h ⊢
  cases h
  exact ⟨_, _, rfl, vs_n, g, ex.rf⟩
theorem wb120_2 {a0 : Nat} {a0_x : Nat} {o1 : Option Nat} {o1_x : Option Nat} {v2 : Int32} {Y : Nat → Prop} {M0 : hM} {ρ : Nat → Nat} {M H : hM} {res : xRes} (h : b120_2 a0 o1 v2 M = some res) (g : rn Y M0 ρ M H) (r_a0 : vn ρ M a0 a0_x) (r_o1 : vo ρ M o1 o1_x) : wq Y M0 ρ M res (b120_2 a0_x o1_x v2 H) := by
  unfold b120_2 at h ⊢
  obtain ⟨v_1, h1, h⟩ := bd h
  refine wq_bd (w_gi g r_o1 h1) ?_
  rcases ite_some h with ⟨q, h⟩ | ⟨q, h⟩
  · refine wq_ip q ?_
    exact wb120_50 h g 
  · refine wq_in q ?_
    obtain ⟨v_3, h2, h⟩ := bd h
    refine wq_bd (w_gi g r_a0.so h2) ?_
    rcases ite_some h with ⟨q, h⟩ | ⟨q, h⟩
    · refine wq_ip q ?_
      exact wb120_50 h g 
    · refine wq_in q ?_
      obtain ⟨o_5, h3, h⟩ := bd h
      obtain ⟨o_5_x, e, r_o_5⟩ := w_gr g r_a0.so h3
      refine wq_bd e ?_
      obtain ⟨v_7, h4, h⟩ := bd h
      refine wq_bd (w_gi g r_a0.so h4) ?_
      obtain ⟨b_11, h5, h⟩ := bd h
      obtain ⟨b_11_x, e, r_b_11⟩ := w_go g r_o1 h5
      refine wq_bd e ?_
      obtain ⟨q_9, h6, h⟩ := bd h
      obtain ⟨_, _, e, g, x⟩ := wc_I (f := f96) h6 (fun e => w96 e g (vl_c (va_r r_b_11.so) (vl_c va_i vl_n)))
      refine wq_bd e (wq_up x ?_)
      have r_o_5 := r_o_5.up x
      have r_o1 := r_o1.up x
      have r_a0 := r_a0.up x
      obtain ⟨M13, h7, h⟩ := bd h
      obtain ⟨_, e, g, x⟩ := w_asb g r_o_5 h7
      refine wq_bd e (wq_up x ?_)
      have r_a0 := r_a0.up x
      have r_o1 := r_o1.up x
      obtain ⟨v_15, h8, h⟩ := bd h
      refine wq_bd (w_gi g r_a0.so h8) ?_
      obtain ⟨M17, h9, h⟩ := bd h
      obtain ⟨_, e, g, x⟩ := w_pi g r_a0.so h9
      refine wq_bd e (wq_up x ?_)
      have r_o1 := r_o1.up x
      have r_a0 := r_a0.up x
      cases h
      exact ⟨_, _, rfl, (vs_g (vl_c (va_r r_a0.so) (vl_c (va_r r_o1) (vl_c va_i vl_n)))), g, ex.rf⟩
theorem w120 {Y : Nat → Prop} {M0 : hM} {ρ : Nat → Nat} {as as_x : List aV} {M H M' : hM} {r : Option aV} (h : f120 as M = some (r, M')) (g : rn Y M0 ρ M H) (ha : vl ρ M as as_x) : wr Y M0 ρ M r M' (f120 as_x H) := by
  unfold f120 at h
  split at h
  · rename_i a0 o1
    obtain ⟨a0_x, _, rfl, r_a0, ha1⟩ := vl_is ha
    obtain ⟨o1_x, _, rfl, r_o1, ha2⟩ := vl_ir ha1
    cases vl_in ha2
    show wr Y M0 ρ M r M' (x_go k120 (b120_0 a0_x o1_x H))
    refine wx_go (blk := k120) ?_ h (fun res hx => wb120_0 hx g r_a0 r_o1)
    intro ρ h as as_x M H res hk g ha
    unfold k120 at hk
    split at hk
    · rename_i hh
      subst hh
      split at hk
      · rename_i a0 o1 v2
        obtain ⟨a0_x, _, rfl, r_a0, ha1⟩ := vl_is ha
        obtain ⟨o1_x, _, rfl, r_o1, ha2⟩ := vl_ir ha1
        obtain ⟨_, rfl, ha3⟩ := vl_ii ha2
        cases vl_in ha3
        exact wb120_2 hk g r_a0 r_o1
      · cases hk
    · skip
      cases hk
  · cases h
theorem wb121_0 {a0 : Nat} {a0_x : Nat} {o1 : Option Nat} {o1_x : Option Nat} {o2 : Option Nat} {o2_x : Option Nat} {Y : Nat → Prop} {M0 : hM} {ρ : Nat → Nat} {M H : hM} {res : xRes} (h : b121_0 a0 o1 o2 M = some res) (g : rn Y M0 ρ M H) (r_a0 : vn ρ M a0 a0_x) (r_o1 : vo ρ M o1 o1_x) (r_o2 : vo ρ M o2 o2_x) : wq Y M0 ρ M res (b121_0 a0_x o1_x o2_x H) := by
  unfold b121_0 at h ⊢
  obtain ⟨o_1, h1, h⟩ := bd h
  obtain ⟨o_1_x, e, r_o_1⟩ := w_gr g r_a0.so h1
  refine wq_bd e ?_
  obtain ⟨b_5, h2, h⟩ := bd h
  obtain ⟨b_5_x, e, r_b_5⟩ := w_go g r_o_1 h2
  refine wq_bd e ?_
  obtain ⟨q_3, h3, h⟩ := bd h
  obtain ⟨_, _, _, e, g, x, r_q⟩ := wc_R (f := f34) h3 (fun e => w34 e g (vl_c (va_r r_b_5.so) (vl_c va_i (vl_c va_i (vl_c va_i (vl_c va_i vl_n))))))
  refine wq_bd e (wq_up x ?_)
  have r_o1 := r_o1.up x
  have r_o2 := r_o2.up x
  have r_q_3_1 := r_q
  obtain ⟨b_9, h4, h⟩ := bd h
  obtain ⟨b_9_x, e, r_b_9⟩ := w_go g r_q_3_1 h4
  refine wq_bd e ?_
  obtain ⟨q_7, h5, h⟩ := bd h
  obtain ⟨_, _, e, g, x⟩ := wc_V (f := f120) h5 (fun e => w120 e g (vl_c (va_r r_b_9.so) (vl_c (va_r r_o2) vl_n)))
  refine wq_bd e (wq_up x ?_)
  have r_o1 := r_o1.up x
  have r_q_3_1 := r_q_3_1.up x
  obtain ⟨b_13, h6, h⟩ := bd h
  obtain ⟨b_13_x, e, r_b_13⟩ := w_go g r_o1 h6
  refine wq_bd e ?_
  obtain ⟨q_11, h7, h⟩ := bd h
  obtain ⟨_, _, e, g, x⟩ := wc_V (f := f39) h7 (fun e => w39 e g (vl_c (va_r r_b_13.so) (vl_c (va_r r_q_3_1) vl_n)))
  refine wq_bd e (wq_up x ?_)
  cases h
  exact ⟨_, _, rfl, vs_n, g, ex.rf⟩
theorem w121 {Y : Nat → Prop} {M0 : hM} {ρ : Nat → Nat} {as as_x : List aV} {M H M' : hM} {r : Option aV} (h : f121 as M = some (r, M')) (g : rn Y M0 ρ M H) (ha : vl ρ M as as_x) : wr Y M0 ρ M r M' (f121 as_x H) := by
  unfold f121 at h
  split at h
  · rename_i a0 o1 o2
    obtain ⟨a0_x, _, rfl, r_a0, ha1⟩ := vl_is ha
    obtain ⟨o1_x, _, rfl, r_o1, ha2⟩ := vl_ir ha1
    obtain ⟨o2_x, _, rfl, r_o2, ha3⟩ := vl_ir ha2
    cases vl_in ha3
    exact wx_out h (fun res hx => wb121_0 hx g r_a0 r_o1 r_o2)
  · cases h
theorem wb122_0 {a0 : Nat} {a0_x : Nat} {o1 : Option Nat} {o1_x : Option Nat} {v2 : Int32} {Y : Nat → Prop} {M0 : hM} {ρ : Nat → Nat} {M H : hM} {res : xRes} (h : b122_0 a0 o1 v2 M = some res) (g : rn Y M0 ρ M H) (r_a0 : vn ρ M a0 a0_x) (r_o1 : vo ρ M o1 o1_x) : wq Y M0 ρ M res (b122_0 a0_x o1_x v2 H) := by
  unfold b122_0 at h ⊢
  cases h
  exact ⟨_, _, rfl, (vs_g (vl_c (va_r r_a0.so) (vl_c (va_r r_o1) (vl_c va_i (vl_c va_i vl_n))))), g, ex.rf⟩
theorem wb122_37 {a0 : Nat} {a0_x : Nat} {o1 : Option Nat} {o1_x : Option Nat} {v2 : Int32} {v3 : Int32} {Y : Nat → Prop} {M0 : hM} {ρ : Nat → Nat} {M H : hM} {res : xRes} (h : b122_37 a0 o1 v2 v3 M = some res) (g : rn Y M0 ρ M H) (r_a0 : vn ρ M a0 a0_x) (r_o1 : vo ρ M o1 o1_x) : wq Y M0 ρ M res (b122_37 a0_x o1_x v2 v3 H) := by
  unfold b122_37 at h ⊢
  cases h
  exact ⟨_, _, rfl, (vs_g (vl_c (va_r r_a0.so) (vl_c (va_r r_o1) (vl_c va_i (vl_c va_i vl_n))))), g, ex.rf⟩
theorem wb122_2 {a0 : Nat} {a0_x : Nat} {o1 : Option Nat} {o1_x : Option Nat} {v2 : Int32} {v3 : Int32} {Y : Nat → Prop} {M0 : hM} {ρ : Nat → Nat} {M H : hM} {res : xRes} (h : b122_2 a0 o1 v2 v3 M = some res) (g : rn Y M0 ρ M H) (r_a0 : vn ρ M a0 a0_x) (r_o1 : vo ρ M o1 o1_x) : wq Y M0 ρ M res (b122_2 a0_x o1_x v2 v3 H) := by
  unfold b122_2 at h ⊢
  rcases ite_some h with ⟨q, h⟩ | ⟨q, h⟩
  · refine wq_ip q ?_
    cases h
    exact ⟨_, _, rfl, vs_n, g, ex.rf⟩
  · refine wq_in q ?_
    rcases ite_some h with ⟨q, h⟩ | ⟨q, h⟩
    · refine wq_ip q ?_
      exact wb122_37 h g r_a0 r_o1
    · refine wq_in q ?_
      obtain ⟨o_1, h1, h⟩ := bd h
      obtain ⟨o_1_x, e, r_o_1⟩ := w_gr g r_a0.so h1
      refine wq_bd e ?_
      obtain ⟨o_3, h2, h⟩ := bd h
      obtain ⟨o_3_x, e, r_o_3⟩ := w_alr g r_o_1 h2
      refine wq_bd e ?_
      obtain ⟨v_5, h3, h⟩ := bd h
      refine wq_bd (w_gi g r_o_3 h3) ?_
      rcases ite_some h with ⟨q, h⟩ | ⟨q, h⟩
      · refine wq_ip q ?_
        exact wb122_37 h g r_a0 r_o1
      · refine wq_in q ?_
        obtain ⟨o_7, h4, h⟩ := bd h
        obtain ⟨o_7_x, e, r_o_7⟩ := w_gr g r_a0.so h4
        refine wq_bd e ?_
        obtain ⟨o_9, h5, h⟩ := bd h
        obtain ⟨o_9_x, e, r_o_9⟩ := w_alr g r_o_7 h5
        refine wq_bd e ?_
        obtain ⟨b_13, h6, h⟩ := bd h
        obtain ⟨b_13_x, e, r_b_13⟩ := w_go g r_a0.so h6
        refine wq_bd e ?_
        obtain ⟨q_11, h7, h⟩ := bd h
        obtain ⟨_, _, e, g, x⟩ := wc_V (f := f121) h7 (fun e => w121 e g (vl_c (va_r r_b_13.so) (vl_c (va_r r_o_9) (vl_c (va_r r_o1) vl_n))))
        refine wq_bd e (wq_up x ?_)
        have r_o1 := r_o1.up x
        have r_a0 := r_a0.up x
        exact wb122_37 h g r_a0 r_o1
theorem w122 {Y : Nat → Prop} {M0 : hM} {ρ : Nat → Nat} {as as_x : List aV} {M H M' : hM} {r : Option aV} (h : f122 as M = some (r, M')) (g : rn Y M0 ρ M H) (ha : vl ρ M as as_x) : wr Y M0 ρ M r M' (f122 as_x H) := by
  unfold f122 at h
  split at h
  · rename_i a0 o1 v2
    obtain ⟨a0_x, _, rfl, r_a0, ha1⟩ := vl_is ha
    obtain ⟨o1_x, _, rfl, r_o1, ha2⟩ := vl_ir ha1
    obtain ⟨_, rfl, ha3⟩ := vl_ii ha2
    cases vl_in ha3
    show wr Y M0 ρ M r M' (x_go k122 (b122_0 a0_x o1_x v2 H))
    refine wx_go (blk := k122) ?_ h (fun res hx => wb122_0 hx g r_a0 r_o1)
    intro ρ h as as_x M H res hk g ha
    unfold k122 at hk
    split at hk
    · rename_i hh
      subst hh
      split at hk
      · rename_i a0 o1 v2 v3
        obtain ⟨a0_x, _, rfl, r_a0, ha1⟩ := vl_is ha
        obtain ⟨o1_x, _, rfl, r_o1, ha2⟩ := vl_ir ha1
        obtain ⟨_, rfl, ha3⟩ := vl_ii ha2
        obtain ⟨_, rfl, ha4⟩ := vl_ii ha3
        cases vl_in ha4
        exact wb122_2 hk g r_a0 r_o1
      · cases hk
    · skip
      cases hk
  · cases h
theorem wb123_0 {a0 : Nat} {a0_x : Nat} {o1 : Option Nat} {o1_x : Option Nat} {Y : Nat → Prop} {M0 : hM} {ρ : Nat → Nat} {M H : hM} {res : xRes} (h : b123_0 a0 o1 M = some res) (g : rn Y M0 ρ M H) (r_a0 : vn ρ M a0 a0_x) (r_o1 : vo ρ M o1 o1_x) : wq Y M0 ρ M res (b123_0 a0_x o1_x H) := by
  unfold b123_0 at h ⊢
  obtain ⟨v_1, h1, h⟩ := bd h
  refine wq_bd (w_gi g r_a0.so h1) ?_
  obtain ⟨v_3, h2, h⟩ := bd h
  refine wq_bd (w_gi g r_o1 h2) ?_
  rcases ite_some h with ⟨q, h⟩ | ⟨q, h⟩
  · refine wq_ip q ?_
    cases h
    exact ⟨_, _, rfl, (vs_g (vl_c (va_r r_a0.so) (vl_c (va_r r_o1) (vl_c va_i vl_n)))), g, ex.rf⟩
  · refine wq_in q ?_
    cases h
    exact ⟨_, _, rfl, (vs_a va_i), g, ex.rf⟩
theorem wb123_15 {a0 : Nat} {a0_x : Nat} {o1 : Option Nat} {o1_x : Option Nat} {v2 : Int32} {Y : Nat → Prop} {M0 : hM} {ρ : Nat → Nat} {M H : hM} {res : xRes} (h : b123_15 a0 o1 v2 M = some res) (g : rn Y M0 ρ M H) (r_a0 : vn ρ M a0 a0_x) (r_o1 : vo ρ M o1 o1_x) : wq Y M0 ρ M res (b123_15 a0_x o1_x v2 H) := by
  unfold b123_15 at h ⊢
  obtain ⟨v_6, h1, h⟩ := bd h
  refine wq_bd (w_gi g r_a0.so h1) ?_
  rcases ite_some h with ⟨q, h⟩ | ⟨q, h⟩
  · refine wq_ip q ?_
    cases h
    exact ⟨_, _, rfl, (vs_a va_i), g, ex.rf⟩
  · refine wq_in q ?_
    obtain ⟨o_8, h2, h⟩ := bd h
    obtain ⟨o_8_x, e, r_o_8⟩ := w_gr g r_a0.so h2
    refine wq_bd e ?_
    obtain ⟨v_10, h3, h⟩ := bd h
    refine wq_bd (w_ali g r_o_8 h3) ?_
    obtain ⟨o_12, h4, h⟩ := bd h
    obtain ⟨o_12_x, e, r_o_12⟩ := w_gr g r_o1 h4
    refine wq_bd e ?_
    obtain ⟨v_14, h5, h⟩ := bd h
    refine wq_bd (w_ali g r_o_12 h5) ?_
    rcases ite_some h with ⟨q, h⟩ | ⟨q, h⟩
    · refine wq_ip q ?_
      cases h
      exact ⟨_, _, rfl, (vs_g (vl_c (va_r r_a0.so) (vl_c (va_r r_o1) (vl_c va_i vl_n)))), g, ex.rf⟩
    · refine wq_in q ?_
      cases h
      exact ⟨_, _, rfl, (vs_a va_i), g, ex.rf⟩
theorem w123 {Y : Nat → Prop} {M0 : hM} {ρ : Nat → Nat} {as as_x : List aV} {M H M' : hM} {r : Option aV} (h : f123 as M = some (r, M')) (g : rn Y M0 ρ M H) (ha : vl ρ M as as_x) : wr Y M0 ρ M r M' (f123 as_x H) := by
  unfold f123 at h
  split at h
  · rename_i a0 o1
    obtain ⟨a0_x, _, rfl, r_a0, ha1⟩ := vl_is ha
    obtain ⟨o1_x, _, rfl, r_o1, ha2⟩ := vl_ir ha1
    cases vl_in ha2
    show wr Y M0 ρ M r M' (x_go k123 (b123_0 a0_x o1_x H))
    refine wx_go (blk := k123) ?_ h (fun res hx => wb123_0 hx g r_a0 r_o1)
    intro ρ h as as_x M H res hk g ha
    unfold k123 at hk
    split at hk
    · rename_i hh
      subst hh
      split at hk
      · rename_i a0 o1 v2
        obtain ⟨a0_x, _, rfl, r_a0, ha1⟩ := vl_is ha
        obtain ⟨o1_x, _, rfl, r_o1, ha2⟩ := vl_ir ha1
        obtain ⟨_, rfl, ha3⟩ := vl_ii ha2
        cases vl_in ha3
        exact wb123_15 hk g r_a0 r_o1
      · cases hk
    · skip
      cases hk
  · cases h
theorem wb124_50 {a0 : Nat} {a0_x : Nat} {o1 : Option Nat} {o1_x : Option Nat} {Y : Nat → Prop} {M0 : hM} {ρ : Nat → Nat} {M H : hM} {res : xRes} (h : b124_50 a0 o1 M = some res) (g : rn Y M0 ρ M H) (r_a0 : vn ρ M a0 a0_x) (r_o1 : vo ρ M o1 o1_x) : wq Y M0 ρ M res (b124_50 a0_x o1_x H) := by
  unfold b124_50 at h ⊢
  obtain ⟨o_30, h1, h⟩ := bd h
  obtain ⟨o_30_x, e, r_o_30⟩ := w_gr g r_a0.so h1
  refine wq_bd e ?_
  obtain ⟨b_34, h2, h⟩ := bd h
  obtain ⟨b_34_x, e, r_b_34⟩ := w_go g r_o1 h2
  refine wq_bd e ?_
  obtain ⟨q_32, h3, h⟩ := bd h
  obtain ⟨_, _, e, g, x⟩ := wc_I (f := f118) h3 (fun e => w118 e g (vl_c (va_r r_b_34.so) vl_n))
  refine wq_bd e (wq_up x ?_)
  have r_o_30 := r_o_30.up x
  have r_o1 := r_o1.up x
  have r_a0 := r_a0.up x
  obtain ⟨b_38, h4, h⟩ := bd h
  obtain ⟨b_38_x, e, r_b_38⟩ := w_go g r_o_30 h4
  refine wq_bd e ?_
  obtain ⟨q_36, h5, h⟩ := bd h
  obtain ⟨_, _, e, g, x⟩ := wc_V (f := f119) h5 (fun e => w119 e g (vl_c (va_r r_b_38.so) (vl_c va_i vl_n)))
  refine wq_bd e (wq_up x ?_)
  have r_a0 := r_a0.up x
  have r_o1 := r_o1.up x
  obtain ⟨o_40, h6, h⟩ := bd h
  obtain ⟨o_40_x, e, r_o_40⟩ := w_gr g r_a0.so h6
  refine wq_bd e ?_
  obtain ⟨o_42, h7, h⟩ := bd h
  obtain ⟨o_42_x, e, r_o_42⟩ := w_gr g r_a0.so h7
  refine wq_bd e ?_
  obtain ⟨v_44, h8, h⟩ := bd h
  refine wq_bd (w_gi g r_o_42 h8) ?_
  obtain ⟨M46, h9, h⟩ := bd h
  obtain ⟨_, e, g, x⟩ := w_pi g r_o_40 h9
  refine wq_bd e (wq_up x ?_)
  have r_o1 := r_o1.up x
  have r_a0 := r_a0.up x
  obtain ⟨o_48, h10, h⟩ := bd h
  obtain ⟨o_48_x, e, r_o_48⟩ := w_gr g r_a0.so h10
  refine wq_bd e ?_
  obtain ⟨v_50, h11, h⟩ := bd h
  refine wq_bd (w_gi g r_a0.so h11) ?_
  obtain ⟨o_52, h12, h⟩ := bd h
  obtain ⟨o_52_x, e, r_o_52⟩ := w_gr g r_a0.so h12
  refine wq_bd e ?_
  obtain ⟨M54, h13, h⟩ := bd h
  obtain ⟨_, e, g, x⟩ := w_asr g r_o_48 r_o_52 h13
  refine wq_bd e (wq_up x ?_)
  have r_o1 := r_o1.up x
  have r_a0 := r_a0.up x
  obtain ⟨M56, h14, h⟩ := bd h
  obtain ⟨_, e, g, x⟩ := w_pr g r_a0.so r_o1 h14
  refine wq_bd e (wq_up x ?_)
  have r_a0 := r_a0.up x
  obtain ⟨o_58, h15, h⟩ := bd h
  obtain ⟨o_58_x, e, r_o_58⟩ := w_gr g r_a0.so h15
  refine wq_bd e ?_
  obtain ⟨b_62, h16, h⟩ := bd h
  obtain ⟨b_62_x, e, r_b_62⟩ := w_go g r_o_58 h16
  refine wq_bd e ?_
  obtain ⟨q_60, h17, h⟩ := bd h
  obtain ⟨_, _, e, g, x⟩ := wc_V (f := f37) h17 (fun e => w37 e g (vl_c (va_r r_b_62.so) (vl_c va_i vl_n)))
  refine wq_bd e (wq_up x ?_)
  have r_a0 := r_a0.up x
  obtain ⟨b_66, h18, h⟩ := bd h
  obtain ⟨b_66_x, e, r_b_66⟩ := w_go g r_a0.so h18
  refine wq_bd e ?_
  obtain ⟨q_64, h19, h⟩ := bd h
  obtain ⟨_, _, e, g, x⟩ := wc_V (f := f109) h19 (fun e => w109 e g (vl_c (va_r r_b_66.so) vl_n))
  refine wq_bd e (wq_up x ?_)
  have r_a0 := r_a0.up x
  obtain ⟨o_68, h20, h⟩ := bd h
  obtain ⟨o_68_x, e, r_o_68⟩ := w_gr g r_a0.so h20
  refine wq_bd e ?_
  obtain ⟨v_70, h21, h⟩ := bd h
  refine wq_bd (w_gi g r_a0.so h21) ?_
  obtain ⟨o_72, h22, h⟩ := bd h
  obtain ⟨o_72_x, e, r_o_72⟩ := w_alr g r_o_68 h22
  refine wq_bd e ?_
  obtain ⟨b_76, h23, h⟩ := bd h
  obtain ⟨b_76_x, e, r_b_76⟩ := w_go g r_a0.so h23
  refine wq_bd e ?_
  obtain ⟨q_74, h24, h⟩ := bd h
  obtain ⟨_, _, e, g, x⟩ := wc_V (f := f122) h24 (fun e => w122 e g (vl_c (va_r r_b_76.so) (vl_c (va_r r_o_72) (vl_c va_i vl_n))))
  refine wq_bd e (wq_up x ?_)
  cases h
  exact ⟨_, _, rfl, vs_n, g, ex.rf⟩
theorem wb124_0 {a0 : Nat} {a0_x : Nat} {Y : Nat → Prop} {M0 : hM} {ρ : Nat → Nat} {M H : hM} {res : xRes} (h : b124_0 a0 M = some res) (g : rn Y M0 ρ M H) (r_a0 : vn ρ M a0 a0_x) : wq Y M0 ρ M res (b124_0 a0_x H) := by
  unfold b124_0 at h ⊢
  obtain ⟨o_1, h1, h⟩ := bd h
  obtain ⟨o_1_x, e, r_o_1⟩ := w_gr g r_a0.so h1
  refine wq_bd e ?_
  obtain ⟨v_3, h2, h⟩ := bd h
  refine wq_bd (w_gi g r_a0.so h2) ?_
  obtain ⟨o_5, h3, h⟩ := bd h
  obtain ⟨o_5_x, e, r_o_5⟩ := w_alr g r_o_1 h3
  refine wq_bd e ?_
  obtain ⟨b_9, h4, h⟩ := bd h
  obtain ⟨b_9_x, e, r_b_9⟩ := w_go g r_a0.so h4
  refine wq_bd e ?_
  obtain ⟨q_7, h5, h⟩ := bd h
  obtain ⟨_, _, e, g, x⟩ := wc_V (f := f117) h5 (fun e => w117 e g (vl_c (va_r r_b_9.so) vl_n))
  refine wq_bd e (wq_up x ?_)
  have r_o_5 := r_o_5.up x
  have r_a0 := r_a0.up x
  obtain ⟨b_13, h6, h⟩ := bd h
  obtain ⟨b_13_x, e, r_b_13⟩ := w_go g r_o_5 h6
  refine wq_bd e ?_
  obtain ⟨q_11, h7, h⟩ := bd h
  obtain ⟨_, _, e, g, x⟩ := wc_I (f := f105) h7 (fun e => w105 e g (vl_c (va_r r_b_13.so) vl_n))
  refine wq_bd e (wq_up x ?_)
  have r_o_5 := r_o_5.up x
  have r_a0 := r_a0.up x
  rcases ite_some h with ⟨q, h⟩ | ⟨q, h⟩
  · refine wq_ip q ?_
    exact wb124_50 h g r_a0 r_o_5
  · refine wq_in q ?_
    obtain ⟨o_15, h8, h⟩ := bd h
    obtain ⟨o_15_x, e, r_o_15⟩ := w_gr g r_a0.so h8
    refine wq_bd e ?_
    obtain ⟨b_19, h9, h⟩ := bd h
    obtain ⟨b_19_x, e, r_b_19⟩ := w_go g r_o_5 h9
    refine wq_bd e ?_
    obtain ⟨q_17, h10, h⟩ := bd h
    obtain ⟨_, _, e, g, x⟩ := wc_I (f := f123) h10 (fun e => w123 e g (vl_c (va_r r_b_19.so) (vl_c (va_r r_o_15) vl_n)))
    refine wq_bd e (wq_up x ?_)
    have r_o_5 := r_o_5.up x
    have r_a0 := r_a0.up x
    rcases ite_some h with ⟨q, h⟩ | ⟨q, h⟩
    · refine wq_ip q ?_
      exact wb124_50 h g r_a0 r_o_5
    · refine wq_in q ?_
      obtain ⟨o_21, h11, h⟩ := bd h
      obtain ⟨o_21_x, e, r_o_21⟩ := w_gr g r_a0.so h11
      refine wq_bd e ?_
      obtain ⟨v_23, h12, h⟩ := bd h
      refine wq_bd (w_gi g r_o_21 h12) ?_
      obtain ⟨v_25, h13, h⟩ := bd h
      refine wq_bd (w_gi g r_o_5 h13) ?_
      rcases ite_some h with ⟨q, h⟩ | ⟨q, h⟩
      · refine wq_ip q ?_
        exact wb124_50 h g r_a0 r_o_5
      · refine wq_in q ?_
        cases h
        exact ⟨_, _, rfl, vs_n, g, ex.rf⟩
theorem w124 {Y : Nat → Prop} {M0 : hM} {ρ : Nat → Nat} {as as_x : List aV} {M H M' : hM} {r : Option aV} (h : f124 as M = some (r, M')) (g : rn Y M0 ρ M H) (ha : vl ρ M as as_x) : wr Y M0 ρ M r M' (f124 as_x H) := by
  unfold f124 at h
  split at h
  · rename_i a0
    obtain ⟨a0_x, _, rfl, r_a0, ha1⟩ := vl_is ha
    cases vl_in ha1
    exact wx_out h (fun res hx => wb124_0 hx g r_a0)
  · cases h
theorem wb125_16  {Y : Nat → Prop} {M0 : hM} {ρ : Nat → Nat} {M H : hM} {res : xRes} (h : b125_16  M = some res) (g : rn Y M0 ρ M H)  : wq Y M0 ρ M res (b125_16  H) := by
  unfold b125_16 at h ⊢
  cases h
  exact ⟨_, _, rfl, (vs_a va_i), g, ex.rf⟩
theorem wb125_0 {a0 : Nat} {a0_x : Nat} {v1 : Int32} {v2 : Int32} {Y : Nat → Prop} {M0 : hM} {ρ : Nat → Nat} {M H : hM} {res : xRes} (h : b125_0 a0 v1 v2 M = some res) (g : rn Y M0 ρ M H) (r_a0 : vn ρ M a0 a0_x) : wq Y M0 ρ M res (b125_0 a0_x v1 v2 H) := by
  unfold b125_0 at h ⊢
  obtain ⟨b_3, h1, h⟩ := bd h
  obtain ⟨b_3_x, e, r_b_3⟩ := w_go g r_a0.so h1
  refine wq_bd e ?_
  obtain ⟨q_1, h2, h⟩ := bd h
  obtain ⟨_, _, e, g, x⟩ := wc_I (f := f8) h2 (fun e => w8 e g (vl_c (va_r r_b_3.so) (vl_c va_i vl_n)))
  refine wq_bd e (wq_up x ?_)
  have r_a0 := r_a0.up x
  rcases ite_some h with ⟨q, h⟩ | ⟨q, h⟩
  · refine wq_ip q ?_
    exact wb125_16 h g 
  · refine wq_in q ?_
    obtain ⟨b_7, h3, h⟩ := bd h
    obtain ⟨b_7_x, e, r_b_7⟩ := w_go g r_a0.so h3
    refine wq_bd e ?_
    obtain ⟨q_5, h4, h⟩ := bd h
    obtain ⟨_, _, e, g, x⟩ := wc_I (f := f8) h4 (fun e => w8 e g (vl_c (va_r r_b_7.so) (vl_c va_i vl_n)))
    refine wq_bd e (wq_up x ?_)
    have r_a0 := r_a0.up x
    rcases ite_some h with ⟨q, h⟩ | ⟨q, h⟩
    · refine wq_ip q ?_
      exact wb125_16 h g 
    · refine wq_in q ?_
      obtain ⟨v_9, h5, h⟩ := bd h
      refine wq_bd (w_gi g r_a0.so h5) ?_
      rcases ite_some h with ⟨q, h⟩ | ⟨q, h⟩
      · refine wq_ip q ?_
        cases h
        exact ⟨_, _, rfl, (vs_a va_i), g, ex.rf⟩
      · refine wq_in q ?_
        cases h
        exact ⟨_, _, rfl, (vs_g (vl_c (va_r r_a0.so) (vl_c va_i (vl_c va_i vl_n)))), g, ex.rf⟩
theorem wb125_38 {a0 : Nat} {a0_x : Nat} {v3 : Int32} {v4 : Int32} {Y : Nat → Prop} {M0 : hM} {ρ : Nat → Nat} {M H : hM} {res : xRes} (h : b125_38 a0 v3 v4 M = some res) (g : rn Y M0 ρ M H) (r_a0 : vn ρ M a0 a0_x) : wq Y M0 ρ M res (b125_38 a0_x v3 v4 H) := by
  unfold b125_38 at h ⊢
  rcases ite_some h with ⟨q, h⟩ | ⟨q, h⟩
  · refine wq_ip q ?_
    cases h
    exact ⟨_, _, rfl, (vs_a va_i), g, ex.rf⟩
  · refine wq_in q ?_
    obtain ⟨o_14, h1, h⟩ := bd h
    obtain ⟨o_14_x, e, r_o_14⟩ := w_gr g r_a0.so h1
    refine wq_bd e ?_
    obtain ⟨v_16, h2, h⟩ := bd h
    refine wq_bd (w_ali g r_o_14 h2) ?_
    rcases ite_some h with ⟨q, h⟩ | ⟨q, h⟩
    · refine wq_ip q ?_
      cases h
      exact ⟨_, _, rfl, (vs_a va_i), g, ex.rf⟩
    · refine wq_in q ?_
      cases h
      exact ⟨_, _, rfl, (vs_g (vl_c (va_r r_a0.so) (vl_c va_i (vl_c va_i vl_n)))), g, ex.rf⟩
theorem w125 {Y : Nat → Prop} {M0 : hM} {ρ : Nat → Nat} {as as_x : List aV} {M H M' : hM} {r : Option aV} (h : f125 as M = some (r, M')) (g : rn Y M0 ρ M H) (ha : vl ρ M as as_x) : wr Y M0 ρ M r M' (f125 as_x H) := by
  unfold f125 at h
  split at h
  · rename_i a0 v1 v2
    obtain ⟨a0_x, _, rfl, r_a0, ha1⟩ := vl_is ha
    obtain ⟨_, rfl, ha2⟩ := vl_ii ha1
    obtain ⟨_, rfl, ha3⟩ := vl_ii ha2
    cases vl_in ha3
    show wr Y M0 ρ M r M' (x_go k125 (b125_0 a0_x v1 v2 H))
    refine wx_go (blk := k125) ?_ h (fun res hx => wb125_0 hx g r_a0)
    intro ρ h as as_x M H res hk g ha
    unfold k125 at hk
    split at hk
    · rename_i hh
      subst hh
      split at hk
      · rename_i a0 v3 v4
        obtain ⟨a0_x, _, rfl, r_a0, ha1⟩ := vl_is ha
        obtain ⟨_, rfl, ha2⟩ := vl_ii ha1
        obtain ⟨_, rfl, ha3⟩ := vl_ii ha2
        cases vl_in ha3
        exact wb125_38 hk g r_a0
      · cases hk
    · skip
      cases hk
  · cases h
theorem wb126_0 {a0 : Nat} {a0_x : Nat} {v1 : Int32} {Y : Nat → Prop} {M0 : hM} {ρ : Nat → Nat} {M H : hM} {res : xRes} (h : b126_0 a0 v1 M = some res) (g : rn Y M0 ρ M H) (r_a0 : vn ρ M a0 a0_x) : wq Y M0 ρ M res (b126_0 a0_x v1 H) := by
  unfold b126_0 at h ⊢
  obtain ⟨b_3, h1, h⟩ := bd h
  obtain ⟨b_3_x, e, r_b_3⟩ := w_go g r_a0.so h1
  refine wq_bd e ?_
  obtain ⟨q_1, h2, h⟩ := bd h
  obtain ⟨_, _, e, g, x⟩ := wc_I (f := f96) h2 (fun e => w96 e g (vl_c (va_r r_b_3.so) (vl_c va_i vl_n)))
  refine wq_bd e (wq_up x ?_)
  have r_a0 := r_a0.up x
  cases h
  exact ⟨_, _, rfl, (vs_g (vl_c (va_r r_a0.so) (vl_c va_i (vl_c va_i (vl_c va_i vl_n))))), g, ex.rf⟩
theorem wb126_13 {a0 : Nat} {a0_x : Nat} {v1 : Int32} {v2 : Int32} {v3 : Int32} {Y : Nat → Prop} {M0 : hM} {ρ : Nat → Nat} {M H : hM} {res : xRes} (h : b126_13 a0 v1 v2 v3 M = some res) (g : rn Y M0 ρ M H) (r_a0 : vn ρ M a0 a0_x) : wq Y M0 ρ M res (b126_13 a0_x v1 v2 v3 H) := by
  unfold b126_13 at h ⊢
  obtain ⟨b_7, h1, h⟩ := bd h
  obtain ⟨b_7_x, e, r_b_7⟩ := w_go g r_a0.so h1
  refine wq_bd e ?_
  obtain ⟨q_5, h2, h⟩ := bd h
  obtain ⟨_, _, e, g, x⟩ := wc_I (f := f96) h2 (fun e => w96 e g (vl_c (va_r r_b_7.so) (vl_c va_i vl_n)))
  refine wq_bd e (wq_up x ?_)
  have r_a0 := r_a0.up x
  rcases ite_some h with ⟨q, h⟩ | ⟨q, h⟩
  · refine wq_ip q ?_
    cases h
    exact ⟨_, _, rfl, (vs_a va_i), g, ex.rf⟩
  · refine wq_in q ?_
    obtain ⟨b_11, h3, h⟩ := bd h
    obtain ⟨b_11_x, e, r_b_11⟩ := w_go g r_a0.so h3
    refine wq_bd e ?_
    obtain ⟨q_9, h4, h⟩ := bd h
    obtain ⟨_, _, e, g, x⟩ := wc_I (f := f96) h4 (fun e => w96 e g (vl_c (va_r r_b_11.so) (vl_c va_i vl_n)))
    refine wq_bd e (wq_up x ?_)
    have r_a0 := r_a0.up x
    rcases ite_some h with ⟨q, h⟩ | ⟨q, h⟩
    · refine wq_ip q ?_
      obtain ⟨b_15, h5, h⟩ := bd h
      obtain ⟨b_15_x, e, r_b_15⟩ := w_go g r_a0.so h5
      refine wq_bd e ?_
      obtain ⟨q_13, h6, h⟩ := bd h
      obtain ⟨_, _, e, g, x⟩ := wc_I (f := f96) h6 (fun e => w96 e g (vl_c (va_r r_b_15.so) (vl_c va_i vl_n)))
      refine wq_bd e (wq_up x ?_)
      cases h
      exact ⟨_, _, rfl, (vs_a va_i), g, ex.rf⟩
    · refine wq_in q ?_
      cases h
      exact ⟨_, _, rfl, (vs_g (vl_c (va_r r_a0.so) (vl_c va_i (vl_c va_i (vl_c va_i vl_n))))), g, ex.rf⟩
theorem w126 {Y : Nat → Prop} {M0 : hM} {ρ : Nat → Nat} {as as_x : List aV} {M H M' : hM} {r : Option aV} (h : f126 as M = some (r, M')) (g : rn Y M0 ρ M H) (ha : vl ρ M as as_x) : wr Y M0 ρ M r M' (f126 as_x H) := by
  unfold f126 at h
  split at h
  · rename_i a0 v1
    obtain ⟨a0_x, _, rfl, r_a0, ha1⟩ := vl_is ha
    obtain ⟨_, rfl, ha2⟩ := vl_ii ha1
    cases vl_in ha2
    show wr Y M0 ρ M r M' (x_go k126 (b126_0 a0_x v1 H))
    refine wx_go (blk := k126) ?_ h (fun res hx => wb126_0 hx g r_a0)
    intro ρ h as as_x M H res hk g ha
    unfold k126 at hk
    split at hk
    · rename_i hh
      subst hh
      split at hk
      · rename_i a0 v1 v2 v3
        obtain ⟨a0_x, _, rfl, r_a0, ha1⟩ := vl_is ha
        obtain ⟨_, rfl, ha2⟩ := vl_ii ha1
        obtain ⟨_, rfl, ha3⟩ := vl_ii ha2
        obtain ⟨_, rfl, ha4⟩ := vl_ii ha3
        cases vl_in ha4
        exact wb126_13 hk g r_a0
      · cases hk
    · skip
      cases hk
  · cases h
theorem wb127_0 {a0 : Nat} {a0_x : Nat} {v1 : Int32} {Y : Nat → Prop} {M0 : hM} {ρ : Nat → Nat} {M H : hM} {res : xRes} (h : b127_0 a0 v1 M = some res) (g : rn Y M0 ρ M H) (r_a0 : vn ρ M a0 a0_x) : wq Y M0 ρ M res (b127_0 a0_x v1 H) := by
  unfold b127_0 at h ⊢
  cases h
  exact ⟨_, _, rfl, (vs_g (vl_c (va_r r_a0.so) (vl_c va_i (vl_c va_i vl_n)))), g, ex.rf⟩
theorem wb127_33 {a0 : Nat} {a0_x : Nat} {v1 : Int32} {v2 : Int32} {si0 : Int32} {Y : Nat → Prop} {M0 : hM} {ρ : Nat → Nat} {M H : hM} {res : xRes} (h : b127_33 a0 v1 v2 si0 M = some res) (g : rn Y M0 ρ M H) (r_a0 : vn ρ M a0 a0_x) : wq Y M0 ρ M res (b127_33 a0_x v1 v2 si0 H) := by
  unfold b127_33 at h ⊢
  rcases ite_some h with ⟨q, h⟩ | ⟨q, h⟩
  · refine wq_ip q ?_
    cases h
    exact ⟨_, _, rfl, (vs_g (vl_c (va_r r_a0.so) (vl_c va_i (vl_c va_i vl_n)))), g, ex.rf⟩
  · refine wq_in q ?_
    obtain ⟨o_19, h1, h⟩ := bd h
    obtain ⟨o_19_x, e, r_o_19⟩ := w_gr g r_a0.so h1
    refine wq_bd e ?_
    obtain ⟨o_21, h2, h⟩ := bd h
    obtain ⟨o_21_x, e, r_o_21⟩ := w_alr g r_o_19 h2
    refine wq_bd e ?_
    obtain ⟨b_25, h3, h⟩ := bd h
    obtain ⟨b_25_x, e, r_b_25⟩ := w_go g r_o_21 h3
    refine wq_bd e ?_
    obtain ⟨q_23, h4, h⟩ := bd h
    obtain ⟨_, _, e, g, x⟩ := wc_I (f := f103) h4 (fun e => w103 e g (vl_c (va_r r_b_25.so) vl_n))
    refine wq_bd e (wq_up x ?_)
    cases h
    exact ⟨_, _, rfl, (vs_a va_i), g, ex.rf⟩
theorem wb127_2 {a0 : Nat} {a0_x : Nat} {v1 : Int32} {v2 : Int32} {Y : Nat → Prop} {M0 : hM} {ρ : Nat → Nat} {M H : hM} {res : xRes} (h : b127_2 a0 v1 v2 M = some res) (g : rn Y M0 ρ M H) (r_a0 : vn ρ M a0 a0_x) : wq Y M0 ρ M res (b127_2 a0_x v1 v2 H) := by
  unfold b127_2 at h ⊢
  obtain ⟨o_1, h1, h⟩ := bd h
  obtain ⟨o_1_x, e, r_o_1⟩ := w_gr g r_a0.so h1
  refine wq_bd e ?_
  obtain ⟨v_3, h2, h⟩ := bd h
  refine wq_bd (w_aln g r_o_1 h2) ?_
  rcases ite_some h with ⟨q, h⟩ | ⟨q, h⟩
  · refine wq_ip q ?_
    cases h
    exact ⟨_, _, rfl, (vs_a va_i), g, ex.rf⟩
  · refine wq_in q ?_
    obtain ⟨b_7, h3, h⟩ := bd h
    obtain ⟨b_7_x, e, r_b_7⟩ := w_go g r_a0.so h3
    refine wq_bd e ?_
    obtain ⟨q_5, h4, h⟩ := bd h
    obtain ⟨_, _, e, g, x⟩ := wc_I (f := f106) h4 (fun e => w106 e g (vl_c (va_r r_b_7.so) (vl_c va_i vl_n)))
    refine wq_bd e (wq_up x ?_)
    have r_a0 := r_a0.up x
    rcases ite_some h with ⟨q, h⟩ | ⟨q, h⟩
    · refine wq_ip q ?_
      exact wb127_33 h g r_a0
    · refine wq_in q ?_
      obtain ⟨o_9, h5, h⟩ := bd h
      obtain ⟨o_9_x, e, r_o_9⟩ := w_gr g r_a0.so h5
      refine wq_bd e ?_
      obtain ⟨o_11, h6, h⟩ := bd h
      obtain ⟨o_11_x, e, r_o_11⟩ := w_alr g r_o_9 h6
      refine wq_bd e ?_
      obtain ⟨b_15, h7, h⟩ := bd h
      obtain ⟨b_15_x, e, r_b_15⟩ := w_go g r_o_11 h7
      refine wq_bd e ?_
      obtain ⟨q_13, h8, h⟩ := bd h
      obtain ⟨_, _, e, g, x⟩ := wc_I (f := f126) h8 (fun e => w126 e g (vl_c (va_r r_b_15.so) (vl_c va_i vl_n)))
      refine wq_bd e (wq_up x ?_)
      have r_a0 := r_a0.up x
      exact wb127_33 h g r_a0
theorem w127 {Y : Nat → Prop} {M0 : hM} {ρ : Nat → Nat} {as as_x : List aV} {M H M' : hM} {r : Option aV} (h : f127 as M = some (r, M')) (g : rn Y M0 ρ M H) (ha : vl ρ M as as_x) : wr Y M0 ρ M r M' (f127 as_x H) := by
  unfold f127 at h
  split at h
  · rename_i a0 v1
    obtain ⟨a0_x, _, rfl, r_a0, ha1⟩ := vl_is ha
    obtain ⟨_, rfl, ha2⟩ := vl_ii ha1
    cases vl_in ha2
    show wr Y M0 ρ M r M' (x_go k127 (b127_0 a0_x v1 H))
    refine wx_go (blk := k127) ?_ h (fun res hx => wb127_0 hx g r_a0)
    intro ρ h as as_x M H res hk g ha
    unfold k127 at hk
    split at hk
    · rename_i hh
      subst hh
      split at hk
      · rename_i a0 v1 v2
        obtain ⟨a0_x, _, rfl, r_a0, ha1⟩ := vl_is ha
        obtain ⟨_, rfl, ha2⟩ := vl_ii ha1
        obtain ⟨_, rfl, ha3⟩ := vl_ii ha2
        cases vl_in ha3
        exact wb127_2 hk g r_a0
      · cases hk
    · skip
      cases hk
  · cases h
theorem wb128_18 {a0 : Nat} {a0_x : Nat} {Y : Nat → Prop} {M0 : hM} {ρ : Nat → Nat} {M H : hM} {res : xRes} (h : b128_18 a0 M = some res) (g : rn Y M0 ρ M H) (r_a0 : vn ρ M a0 a0_x) : wq Y M0 ρ M res (b128_18 a0_x H) := by
  unfold b128_18 at h ⊢
  obtain ⟨o_42, h1, h⟩ := bd h
  obtain ⟨o_42_x, e, r_o_42⟩ := w_gr g r_a0.so h1
  refine wq_bd e ?_
  obtain ⟨b_46, h2, h⟩ := bd h
  obtain ⟨b_46_x, e, r_b_46⟩ := w_go g r_o_42 h2
  refine wq_bd e ?_
  obtain ⟨q_44, h3, h⟩ := bd h
  obtain ⟨_, _, e, g, x⟩ := wc_V (f := f37) h3 (fun e => w37 e g (vl_c (va_r r_b_46.so) (vl_c va_i vl_n)))
  refine wq_bd e (wq_up x ?_)
  cases h
  exact ⟨_, _, rfl, vs_n, g, ex.rf⟩
theorem wb128_91 {o1 : Option Nat} {o1_x : Option Nat} {o5 : Option Nat} {o5_x : Option Nat} {sl0 : Int64} {si1 : Int32} {sr2 : Option Nat} {sr2_x : Option Nat} {Y : Nat → Prop} {M0 : hM} {ρ : Nat → Nat} {M H : hM} {res : xRes} (h : b128_91 o1 o5 sl0 si1 sr2 M = some res) (g : rn Y M0 ρ M H) (r_o1 : vo ρ M o1 o1_x) (r_o5 : vo ρ M o5 o5_x) (r_sr2 : vo ρ M sr2 sr2_x) : wq Y M0 ρ M res (b128_91 o1_x o5_x sl0 si1 sr2_x H) := by
  unfold b128_91 at h ⊢
  obtain ⟨b_50, h1, h⟩ := bd h
  obtain ⟨b_50_x, e, r_b_50⟩ := w_go g r_sr2 h1
  refine wq_bd e ?_
  obtain ⟨q_48, h2, h⟩ := bd h
  obtain ⟨_, _, e, g, x⟩ := wc_V (f := f36) h2 (fun e => w36 e g (vl_c (va_r r_b_50.so) (vl_c va_i (vl_c va_l vl_n))))
  refine wq_bd e (wq_up x ?_)
  have r_o1 := r_o1.up x
  have r_o5 := r_o5.up x
  obtain ⟨b_54, h3, h⟩ := bd h
  obtain ⟨b_54_x, e, r_b_54⟩ := w_go g r_o1 h3
  refine wq_bd e ?_
  obtain ⟨q_52, h4, h⟩ := bd h
  obtain ⟨_, _, e, g, x⟩ := wc_V (f := f39) h4 (fun e => w39 e g (vl_c (va_r r_b_54.so) (vl_c (va_r r_o5) vl_n)))
  refine wq_bd e (wq_up x ?_)
  cases h
  exact ⟨_, _, rfl, vs_n, g, ex.rf⟩
theorem wb128_0 {a0 : Nat} {a0_x : Nat} {o1 : Option Nat} {o1_x : Option Nat} {o2 : Option Nat} {o2_x : Option Nat} {Y : Nat → Prop} {M0 : hM} {ρ : Nat → Nat} {M H : hM} {res : xRes} (h : b128_0 a0 o1 o2 M = some res) (g : rn Y M0 ρ M H) (r_a0 : vn ρ M a0 a0_x) (r_o1 : vo ρ M o1 o1_x) (r_o2 : vo ρ M o2 o2_x) : wq Y M0 ρ M res (b128_0 a0_x o1_x o2_x H) := by
  unfold b128_0 at h ⊢
  obtain ⟨v_1, h1, h⟩ := bd h
  refine wq_bd (w_gi g r_o1 h1) ?_
  rcases ite_some h with ⟨q, h⟩ | ⟨q, h⟩
  · refine wq_ip q ?_
    exact wb128_18 h g r_a0
  · refine wq_in q ?_
    obtain ⟨b_5, h2, h⟩ := bd h
    obtain ⟨b_5_x, e, r_b_5⟩ := w_go g r_o2 h2
    refine wq_bd e ?_
    obtain ⟨q_3, h3, h⟩ := bd h
    obtain ⟨_, _, e, g, x⟩ := wc_I (f := f65) h3 (fun e => w65 e g (vl_c (va_r r_b_5.so) vl_n))
    refine wq_bd e (wq_up x ?_)
    have r_o2 := r_o2.up x
    have r_o1 := r_o1.up x
    have r_a0 := r_a0.up x
    obtain ⟨v_7, h4, h⟩ := bd h
    refine wq_bd (w_gi g r_o1 h4) ?_
    rcases ite_some h with ⟨q, h⟩ | ⟨q, h⟩
    · refine wq_ip q ?_
      obtain ⟨b_11, h5, h⟩ := bd h
      obtain ⟨b_11_x, e, r_b_11⟩ := w_go g r_o2 h5
      refine wq_bd e ?_
      obtain ⟨q_9, h6, h⟩ := bd h
      obtain ⟨_, _, e, g, x⟩ := wc_I (f := f58) h6 (fun e => w58 e g (vl_c (va_r r_b_11.so) (vl_c va_i vl_n)))
      refine wq_bd e (wq_up x ?_)
      have r_o1 := r_o1.up x
      have r_a0 := r_a0.up x
      obtain ⟨o_13, h7, h⟩ := bd h
      obtain ⟨o_13_x, e, r_o_13⟩ := w_gr g r_a0.so h7
      refine wq_bd e ?_
      obtain ⟨b_17, h8, h⟩ := bd h
      obtain ⟨b_17_x, e, r_b_17⟩ := w_go g r_o1 h8
      refine wq_bd e ?_
      obtain ⟨q_15, h9, h⟩ := bd h
      obtain ⟨_, _, e, g, x⟩ := wc_I (f := f116) h9 (fun e => w116 e g (vl_c (va_r r_b_17.so) vl_n))
      refine wq_bd e (wq_up x ?_)
      have r_o_13 := r_o_13.up x
      have r_o1 := r_o1.up x
      have r_a0 := r_a0.up x
      obtain ⟨b_21, h10, h⟩ := bd h
      obtain ⟨b_21_x, e, r_b_21⟩ := w_go g r_o_13 h10
      refine wq_bd e ?_
      obtain ⟨q_19, h11, h⟩ := bd h
      obtain ⟨_, _, e, g, x⟩ := wc_I (f := f125) h11 (fun e => w125 e g (vl_c (va_r r_b_21.so) (vl_c va_i (vl_c va_i vl_n))))
      refine wq_bd e (wq_up x ?_)
      have r_o1 := r_o1.up x
      have r_a0 := r_a0.up x
      obtain ⟨o_23, h12, h⟩ := bd h
      obtain ⟨o_23_x, e, r_o_23⟩ := w_gr g r_a0.so h12
      refine wq_bd e ?_
      obtain ⟨v_25, h13, h⟩ := bd h
      refine wq_bd (w_gi g r_o1 h13) ?_
      obtain ⟨b_29, h14, h⟩ := bd h
      obtain ⟨b_29_x, e, r_b_29⟩ := w_go g r_o_23 h14
      refine wq_bd e ?_
      obtain ⟨q_27, h15, h⟩ := bd h
      obtain ⟨_, _, _, e, g, x, r_q⟩ := wc_R (f := f34) h15 (fun e => w34 e g (vl_c (va_r r_b_29.so) (vl_c va_i (vl_c va_i (vl_c va_i (vl_c va_i vl_n))))))
      refine wq_bd e (wq_up x ?_)
      have r_o1 := r_o1.up x
      have r_a0 := r_a0.up x
      have r_q_27_1 := r_q
      obtain ⟨b_33, h16, h⟩ := bd h
      obtain ⟨b_33_x, e, r_b_33⟩ := w_go g r_q_27_1 h16
      refine wq_bd e ?_
      obtain ⟨q_31, h17, h⟩ := bd h
      obtain ⟨_, _, e, g, x⟩ := wc_V (f := f36) h17 (fun e => w36 e g (vl_c (va_r r_b_33.so) (vl_c va_i (vl_c va_l vl_n))))
      refine wq_bd e (wq_up x ?_)
      have r_o1 := r_o1.up x
      have r_a0 := r_a0.up x
      have r_q_27_1 := r_q_27_1.up x
      rcases ite_some h with ⟨q, h⟩ | ⟨q, h⟩
      · refine wq_ip q ?_
        exact wb128_91 h g r_o1 r_q_27_1 r_q_27_1
      · refine wq_in q ?_
        obtain ⟨b_37, h18, h⟩ := bd h
        obtain ⟨b_37_x, e, r_b_37⟩ := w_go g r_a0.so h18
        refine wq_bd e ?_
        obtain ⟨q_35, h19, h⟩ := bd h
        obtain ⟨_, _, e, g, x⟩ := wc_I (f := f127) h19 (fun e => w127 e g (vl_c (va_r r_b_37.so) (vl_c va_i vl_n)))
        refine wq_bd e (wq_up x ?_)
        have r_o1 := r_o1.up x
        have r_q_27_1 := r_q_27_1.up x
        exact wb128_91 h g r_o1 r_q_27_1 r_q_27_1
    · refine wq_in q ?_
      exact wb128_18 h g r_a0
theorem w128 {Y : Nat → Prop} {M0 : hM} {ρ : Nat → Nat} {as as_x : List aV} {M H M' : hM} {r : Option aV} (h : f128 as M = some (r, M')) (g : rn Y M0 ρ M H) (ha : vl ρ M as as_x) : wr Y M0 ρ M r M' (f128 as_x H) := by
  unfold f128 at h
  split at h
  · rename_i a0 o1 o2
    obtain ⟨a0_x, _, rfl, r_a0, ha1⟩ := vl_is ha
    obtain ⟨o1_x, _, rfl, r_o1, ha2⟩ := vl_ir ha1
    obtain ⟨o2_x, _, rfl, r_o2, ha3⟩ := vl_ir ha2
    cases vl_in ha3
    exact wx_out h (fun res hx => wb128_0 hx g r_a0 r_o1 r_o2)
  · cases h
theorem wb129_52  {Y : Nat → Prop} {M0 : hM} {ρ : Nat → Nat} {M H : hM} {res : xRes} (h : b129_52  M = some res) (g : rn Y M0 ρ M H)  : wq Y M0 ρ M res (b129_52  H) := by
  unfold b129_52 at h ⊢
  cases h
  exact ⟨_, _, rfl, vs_n, g, ex.rf⟩
theorem wb129_0 {a0 : Nat} {a0_x : Nat} {o1 : Option Nat} {o1_x : Option Nat} {Y : Nat → Prop} {M0 : hM} {ρ : Nat → Nat} {M H : hM} {res : xRes} (h : b129_0 a0 o1 M = some res) (g : rn Y M0 ρ M H) (r_a0 : vn ρ M a0 a0_x) (r_o1 : vo ρ M o1 o1_x) : wq Y M0 ρ M res (b129_0 a0_x o1_x H) := by
  unfold b129_0 at h ⊢
  obtain ⟨v_1, h1, h⟩ := bd h
  refine wq_bd (w_gi g r_a0.so h1) ?_
  rcases ite_some h with ⟨q, h⟩ | ⟨q, h⟩
  · refine wq_ip q ?_
    obtain ⟨v_3, h2, h⟩ := bd h
    refine wq_bd (w_gi g r_a0.so h2) ?_
    obtain ⟨v_5, h3, h⟩ := bd h
    refine wq_bd (w_gi g r_o1 h3) ?_
    obtain ⟨b_9, h4, h⟩ := bd h
    obtain ⟨b_9_x, e, r_b_9⟩ := w_go g r_o1 h4
    refine wq_bd e ?_
    obtain ⟨q_7, h5, h⟩ := bd h
    obtain ⟨_, _, e, g, x⟩ := wc_I (f := f116) h5 (fun e => w116 e g (vl_c (va_r r_b_9.so) vl_n))
    refine wq_bd e (wq_up x ?_)
    have r_o1 := r_o1.up x
    have r_a0 := r_a0.up x
    obtain ⟨M11, h6, h⟩ := bd h
    obtain ⟨_, e, g, x⟩ := w_pi g r_o1 h6
    refine wq_bd e (wq_up x ?_)
    have r_o1 := r_o1.up x
    have r_a0 := r_a0.up x
    obtain ⟨o_13, h7, h⟩ := bd h
    obtain ⟨o_13_x, e, r_o_13⟩ := w_gr g r_a0.so h7
    refine wq_bd e ?_
    obtain ⟨v_15, h8, h⟩ := bd h
    refine wq_bd (w_gi g r_o1 h8) ?_
    obtain ⟨b_19, h9, h⟩ := bd h
    obtain ⟨b_19_x, e, r_b_19⟩ := w_go g r_o_13 h9
    refine wq_bd e ?_
    obtain ⟨q_17, h10, h⟩ := bd h
    obtain ⟨_, _, _, e, g, x, r_q⟩ := wc_R (f := f34) h10 (fun e => w34 e g (vl_c (va_r r_b_19.so) (vl_c va_i (vl_c va_i (vl_c va_i (vl_c va_i vl_n))))))
    refine wq_bd e (wq_up x ?_)
    have r_o1 := r_o1.up x
    have r_q_17_1 := r_q
    obtain ⟨b_23, h11, h⟩ := bd h
    obtain ⟨b_23_x, e, r_b_23⟩ := w_go g r_o1 h11
    refine wq_bd e ?_
    obtain ⟨q_21, h12, h⟩ := bd h
    obtain ⟨_, _, e, g, x⟩ := wc_V (f := f39) h12 (fun e => w39 e g (vl_c (va_r r_b_23.so) (vl_c (va_r r_q_17_1) vl_n)))
    refine wq_bd e (wq_up x ?_)
    exact wb129_52 h g 
  · refine wq_in q ?_
    exact wb129_52 h g 
theorem w129 {Y : Nat → Prop} {M0 : hM} {ρ : Nat → Nat} {as as_x : List aV} {M H M' : hM} {r : Option aV} (h : f129 as M = some (r, M')) (g : rn Y M0 ρ M H) (ha : vl ρ M as as_x) : wr Y M0 ρ M r M' (f129 as_x H) := by
  unfold f129 at h
  split at h
  · rename_i a0 o1
    obtain ⟨a0_x, _, rfl, r_a0, ha1⟩ := vl_is ha
    obtain ⟨o1_x, _, rfl, r_o1, ha2⟩ := vl_ir ha1
    cases vl_in ha2
    exact wx_out h (fun res hx => wb129_0 hx g r_a0 r_o1)
  · cases h
theorem wb130_47  {Y : Nat → Prop} {M0 : hM} {ρ : Nat → Nat} {M H : hM} {res : xRes} (h : b130_47  M = some res) (g : rn Y M0 ρ M H)  : wq Y M0 ρ M res (b130_47  H) := by
  unfold b130_47 at h ⊢
  cases h
  exact ⟨_, _, rfl, vs_n, g, ex.rf⟩
theorem wb130_0 {a0 : Nat} {a0_x : Nat} {o1 : Option Nat} {o1_x : Option Nat} {o2 : Option Nat} {o2_x : Option Nat} {Y : Nat → Prop} {M0 : hM} {ρ : Nat → Nat} {M H : hM} {res : xRes} (h : b130_0 a0 o1 o2 M = some res) (g : rn Y M0 ρ M H) (r_a0 : vn ρ M a0 a0_x) (r_o1 : vo ρ M o1 o1_x) (r_o2 : vo ρ M o2 o2_x) : wq Y M0 ρ M res (b130_0 a0_x o1_x o2_x H) := by
  unfold b130_0 at h ⊢
  obtain ⟨b_3, h1, h⟩ := bd h
  obtain ⟨b_3_x, e, r_b_3⟩ := w_go g r_o2 h1
  refine wq_bd e ?_
  obtain ⟨q_1, h2, h⟩ := bd h
  obtain ⟨_, _, e, g, x⟩ := wc_I (f := f58) h2 (fun e => w58 e g (vl_c (va_r r_b_3.so) (vl_c va_i vl_n)))
  refine wq_bd e (wq_up x ?_)
  have r_o2 := r_o2.up x
  have r_o1 := r_o1.up x
  have r_a0 := r_a0.up x
  obtain ⟨b_7, h3, h⟩ := bd h
  obtain ⟨b_7_x, e, r_b_7⟩ := w_go g r_o2 h3
  refine wq_bd e ?_
  obtain ⟨q_5, h4, h⟩ := bd h
  obtain ⟨_, _, e, g, x⟩ := wc_L (f := f56) h4 (fun e => w56 e g (vl_c (va_r r_b_7.so) (vl_c va_i (vl_c va_i vl_n))))
  refine wq_bd e (wq_up x ?_)
  have r_o2 := r_o2.up x
  have r_o1 := r_o1.up x
  have r_a0 := r_a0.up x
  obtain ⟨o_9, h5, h⟩ := bd h
  obtain ⟨o_9_x, e, r_o_9⟩ := w_gr g r_a0.so h5
  refine wq_bd e ?_
  obtain ⟨v_11, h6, h⟩ := bd h
  refine wq_bd (w_aln g r_o_9 h6) ?_
  rcases ite_some h with ⟨q, h⟩ | ⟨q, h⟩
  · refine wq_ip q ?_
    exact wb130_47 h g 
  · refine wq_in q ?_
    obtain ⟨v_13, h7, h⟩ := bd h
    refine wq_bd (w_gi g r_a0.so h7) ?_
    rcases ite_some h with ⟨q, h⟩ | ⟨q, h⟩
    · refine wq_ip q ?_
      exact wb130_47 h g 
    · refine wq_in q ?_
      obtain ⟨o_15, h8, h⟩ := bd h
      obtain ⟨o_15_x, e, r_o_15⟩ := w_gr g r_a0.so h8
      refine wq_bd e ?_
      obtain ⟨o_17, h9, h⟩ := bd h
      obtain ⟨o_17_x, e, r_o_17⟩ := w_alr g r_o_15 h9
      refine wq_bd e ?_
      obtain ⟨b_21, h10, h⟩ := bd h
      obtain ⟨b_21_x, e, r_b_21⟩ := w_go g r_o_17 h10
      refine wq_bd e ?_
      obtain ⟨q_19, h11, h⟩ := bd h
      obtain ⟨_, _, e, g, x⟩ := wc_I (f := f118) h11 (fun e => w118 e g (vl_c (va_r r_b_21.so) vl_n))
      refine wq_bd e (wq_up x ?_)
      have r_o1 := r_o1.up x
      have r_o2 := r_o2.up x
      have r_a0 := r_a0.up x
      rcases ite_some h with ⟨q, h⟩ | ⟨q, h⟩
      · refine wq_ip q ?_
        obtain ⟨o_23, h12, h⟩ := bd h
        obtain ⟨o_23_x, e, r_o_23⟩ := w_gr g r_a0.so h12
        refine wq_bd e ?_
        obtain ⟨o_25, h13, h⟩ := bd h
        obtain ⟨o_25_x, e, r_o_25⟩ := w_alr g r_o_23 h13
        refine wq_bd e ?_
        obtain ⟨b_29, h14, h⟩ := bd h
        obtain ⟨b_29_x, e, r_b_29⟩ := w_go g r_o_25 h14
        refine wq_bd e ?_
        obtain ⟨q_27, h15, h⟩ := bd h
        obtain ⟨_, _, e, g, x⟩ := wc_V (f := f110) h15 (fun e => w110 e g (vl_c (va_r r_b_29.so) vl_n))
        refine wq_bd e (wq_up x ?_)
        have r_o1 := r_o1.up x
        have r_o2 := r_o2.up x
        have r_a0 := r_a0.up x
        have r_o_25 := r_o_25.up x
        cases h
        exact ⟨_, _, rfl, (vs_g (vl_c (va_r r_a0.so) (vl_c (va_r r_o1) (vl_c (va_r r_o2) (vl_c (va_r r_o_25) (vl_c va_i vl_n)))))), g, ex.rf⟩
      · refine wq_in q ?_
        exact wb130_47 h g 
theorem wb130_64 {a0 : Nat} {a0_x : Nat} {o1 : Option Nat} {o1_x : Option Nat} {o2 : Option Nat} {o2_x : Option Nat} {o5 : Option Nat} {o5_x : Option Nat} {v6 : Int32} {Y : Nat → Prop} {M0 : hM} {ρ : Nat → Nat} {M H : hM} {res : xRes} (h : b130_64 a0 o1 o2 o5 v6 M = some res) (g : rn Y M0 ρ M H) (r_a0 : vn ρ M a0 a0_x) (r_o1 : vo ρ M o1 o1_x) (r_o2 : vo ρ M o2 o2_x) (r_o5 : vo ρ M o5 o5_x) : wq Y M0 ρ M res (b130_64 a0_x o1_x o2_x o5_x v6 H) := by
  unfold b130_64 at h ⊢
  obtain ⟨v_34, h1, h⟩ := bd h
  refine wq_bd (w_gi g r_o2 h1) ?_
  rcases ite_some h with ⟨q, h⟩ | ⟨q, h⟩
  · refine wq_ip q ?_
    obtain ⟨o_36, h2, h⟩ := bd h
    obtain ⟨o_36_x, e, r_o_36⟩ := w_gr g r_a0.so h2
    refine wq_bd e ?_
    obtain ⟨v_38, h3, h⟩ := bd h
    refine wq_bd (w_gi g r_o_36 h3) ?_
    obtain ⟨M40, h4, h⟩ := bd h
    obtain ⟨_, e, g, x⟩ := w_pi g r_o5 h4
    refine wq_bd e (wq_up x ?_)
    have r_a0 := r_a0.up x
    have r_o1 := r_o1.up x
    have r_o5 := r_o5.up x
    obtain ⟨b_44, h5, h⟩ := bd h
    obtain ⟨b_44_x, e, r_b_44⟩ := w_go g r_a0.so h5
    refine wq_bd e ?_
    obtain ⟨q_42, h6, h⟩ := bd h
    obtain ⟨_, _, e, g, x⟩ := wc_V (f := f109) h6 (fun e => w109 e g (vl_c (va_r r_b_44.so) vl_n))
    refine wq_bd e (wq_up x ?_)
    have r_o1 := r_o1.up x
    have r_a0 := r_a0.up x
    have r_o5 := r_o5.up x
    obtain ⟨v_46, h7, h⟩ := bd h
    refine wq_bd (w_gi g r_o1 h7) ?_
    obtain ⟨b_50, h8, h⟩ := bd h
    obtain ⟨b_50_x, e, r_b_50⟩ := w_go g r_a0.so h8
    refine wq_bd e ?_
    obtain ⟨q_48, h9, h⟩ := bd h
    obtain ⟨_, _, e, g, x⟩ := wc_V (f := f122) h9 (fun e => w122 e g (vl_c (va_r r_b_50.so) (vl_c (va_r r_o5) (vl_c va_i vl_n))))
    refine wq_bd e (wq_up x ?_)
    cases h
    exact ⟨_, _, rfl, vs_n, g, ex.rf⟩
  · refine wq_in q ?_
    obtain ⟨b_54, h10, h⟩ := bd h
    obtain ⟨b_54_x, e, r_b_54⟩ := w_go g r_o2 h10
    refine wq_bd e ?_
    obtain ⟨q_52, h11, h⟩ := bd h
    obtain ⟨_, _, e, g, x⟩ := wc_I (f := f58) h11 (fun e => w58 e g (vl_c (va_r r_b_54.so) (vl_c va_i vl_n)))
    refine wq_bd e (wq_up x ?_)
    have r_a0 := r_a0.up x
    have r_o1 := r_o1.up x
    have r_o2 := r_o2.up x
    have r_o5 := r_o5.up x
    obtain ⟨b_58, h12, h⟩ := bd h
    obtain ⟨b_58_x, e, r_b_58⟩ := w_go g r_o5 h12
    refine wq_bd e ?_
    obtain ⟨q_56, h13, h⟩ := bd h
    obtain ⟨_, _, e, g, x⟩ := wc_V (f := f114) h13 (fun e => w114 e g (vl_c (va_r r_b_58.so) (vl_c va_i vl_n)))
    refine wq_bd e (wq_up x ?_)
    have r_a0 := r_a0.up x
    have r_o1 := r_o1.up x
    have r_o2 := r_o2.up x
    have r_o5 := r_o5.up x
    cases h
    exact ⟨_, _, rfl, (vs_g (vl_c (va_r r_a0.so) (vl_c (va_r r_o1) (vl_c (va_r r_o2) (vl_c (va_r r_o5) (vl_c va_i vl_n)))))), g, ex.rf⟩
theorem w130 {Y : Nat → Prop} {M0 : hM} {ρ : Nat → Nat} {as as_x : List aV} {M H M' : hM} {r : Option aV} (h : f130 as M = some (r, M')) (g : rn Y M0 ρ M H) (ha : vl ρ M as as_x) : wr Y M0 ρ M r M' (f130 as_x H) := by
  unfold f130 at h
  split at h
  · rename_i a0 o1 o2
    obtain ⟨a0_x, _, rfl, r_a0, ha1⟩ := vl_is ha
    obtain ⟨o1_x, _, rfl, r_o1, ha2⟩ := vl_ir ha1
    obtain ⟨o2_x, _, rfl, r_o2, ha3⟩ := vl_ir ha2
    cases vl_in ha3
    show wr Y M0 ρ M r M' (x_go k130 (b130_0 a0_x o1_x o2_x H))
    refine wx_go (blk := k130) ?_ h (fun res hx => wb130_0 hx g r_a0 r_o1 r_o2)
    intro ρ h as as_x M H res hk g ha
    unfold k130 at hk
    split at hk
    · rename_i hh
      subst hh
      split at hk
      · rename_i a0 o1 o2 o5 v6
        obtain ⟨a0_x, _, rfl, r_a0, ha1⟩ := vl_is ha
        obtain ⟨o1_x, _, rfl, r_o1, ha2⟩ := vl_ir ha1
        obtain ⟨o2_x, _, rfl, r_o2, ha3⟩ := vl_ir ha2
        obtain ⟨o5_x, _, rfl, r_o5, ha4⟩ := vl_ir ha3
        obtain ⟨_, rfl, ha5⟩ := vl_ii ha4
        cases vl_in ha5
        exact wb130_64 hk g r_a0 r_o1 r_o2 r_o5
      · cases hk
    · skip
      cases hk
  · cases h
theorem wb131_0 {a0 : Nat} {a0_x : Nat} {o1 : Option Nat} {o1_x : Option Nat} {o2 : Option Nat} {o2_x : Option Nat} {Y : Nat → Prop} {M0 : hM} {ρ : Nat → Nat} {M H : hM} {res : xRes} (h : b131_0 a0 o1 o2 M = some res) (g : rn Y M0 ρ M H) (r_a0 : vn ρ M a0 a0_x) (r_o1 : vo ρ M o1 o1_x) (r_o2 : vo ρ M o2 o2_x) : wq Y M0 ρ M res (b131_0 a0_x o1_x o2_x H) := by
  unfold b131_0 at h ⊢
  obtain ⟨b_3, h1, h⟩ := bd h
  obtain ⟨b_3_x, e, r_b_3⟩ := w_go g r_o2 h1
  refine wq_bd e ?_
  obtain ⟨q_1, h2, h⟩ := bd h
  obtain ⟨_, _, e, g, x⟩ := wc_I (f := f58) h2 (fun e => w58 e g (vl_c (va_r r_b_3.so) (vl_c va_i vl_n)))
  refine wq_bd e (wq_up x ?_)
  have r_o1 := r_o1.up x
  have r_a0 := r_a0.up x
  obtain ⟨M5, h3, h⟩ := bd h
  obtain ⟨_, e, g, x⟩ := w_pi g r_o1 h3
  refine wq_bd e (wq_up x ?_)
  have r_o1 := r_o1.up x
  have r_a0 := r_a0.up x
  cases h
  exact ⟨_, _, rfl, (vs_g (vl_c (va_r r_a0.so) (vl_c (va_r r_o1) (vl_c va_i vl_n)))), g, ex.rf⟩
theorem wb131_51 {a0 : Nat} {a0_x : Nat} {o1 : Option Nat} {o1_x : Option Nat} {v3 : Int32} {Y : Nat → Prop} {M0 : hM} {ρ : Nat → Nat} {M H : hM} {res : xRes} (h : b131_51 a0 o1 v3 M = some res) (g : rn Y M0 ρ M H) (r_a0 : vn ρ M a0 a0_x) (r_o1 : vo ρ M o1 o1_x) : wq Y M0 ρ M res (b131_51 a0_x o1_x v3 H) := by
  unfold b131_51 at h ⊢
  cases h
  exact ⟨_, _, rfl, (vs_g (vl_c (va_r r_a0.so) (vl_c (va_r r_o1) (vl_c va_i vl_n)))), g, ex.rf⟩
theorem wb131_11 {a0 : Nat} {a0_x : Nat} {o1 : Option Nat} {o1_x : Option Nat} {v3 : Int32} {Y : Nat → Prop} {M0 : hM} {ρ : Nat → Nat} {M H : hM} {res : xRes} (h : b131_11 a0 o1 v3 M = some res) (g : rn Y M0 ρ M H) (r_a0 : vn ρ M a0 a0_x) (r_o1 : vo ρ M o1 o1_x) : wq Y M0 ρ M res (b131_11 a0_x o1_x v3 H) := by
  unfold b131_11 at h ⊢
  obtain ⟨o_7, h1, h⟩ := bd h
  obtain ⟨o_7_x, e, r_o_7⟩ := w_gr g r_a0.so h1
  refine wq_bd e ?_
  obtain ⟨v_9, h2, h⟩ := bd h
  refine wq_bd (w_aln g r_o_7 h2) ?_
  rcases ite_some h with ⟨q, h⟩ | ⟨q, h⟩
  · refine wq_ip q ?_
    cases h
    exact ⟨_, _, rfl, vs_n, g, ex.rf⟩
  · refine wq_in q ?_
    obtain ⟨v_11, h3, h⟩ := bd h
    refine wq_bd (w_gi g r_a0.so h3) ?_
    rcases ite_some h with ⟨q, h⟩ | ⟨q, h⟩
    · refine wq_ip q ?_
      exact wb131_51 h g r_a0 r_o1
    · refine wq_in q ?_
      obtain ⟨o_13, h4, h⟩ := bd h
      obtain ⟨o_13_x, e, r_o_13⟩ := w_gr g r_a0.so h4
      refine wq_bd e ?_
      obtain ⟨o_15, h5, h⟩ := bd h
      obtain ⟨o_15_x, e, r_o_15⟩ := w_alr g r_o_13 h5
      refine wq_bd e ?_
      obtain ⟨b_19, h6, h⟩ := bd h
      obtain ⟨b_19_x, e, r_b_19⟩ := w_go g r_o_15 h6
      refine wq_bd e ?_
      obtain ⟨q_17, h7, h⟩ := bd h
      obtain ⟨_, _, e, g, x⟩ := wc_I (f := f105) h7 (fun e => w105 e g (vl_c (va_r r_b_19.so) vl_n))
      refine wq_bd e (wq_up x ?_)
      have r_o1 := r_o1.up x
      have r_a0 := r_a0.up x
      rcases ite_some h with ⟨q, h⟩ | ⟨q, h⟩
      · refine wq_ip q ?_
        exact wb131_51 h g r_a0 r_o1
      · refine wq_in q ?_
        obtain ⟨o_21, h8, h⟩ := bd h
        obtain ⟨o_21_x, e, r_o_21⟩ := w_gr g r_a0.so h8
        refine wq_bd e ?_
        obtain ⟨o_23, h9, h⟩ := bd h
        obtain ⟨o_23_x, e, r_o_23⟩ := w_alr g r_o_21 h9
        refine wq_bd e ?_
        obtain ⟨b_27, h10, h⟩ := bd h
        obtain ⟨b_27_x, e, r_b_27⟩ := w_go g r_a0.so h10
        refine wq_bd e ?_
        obtain ⟨q_25, h11, h⟩ := bd h
        obtain ⟨_, _, e, g, x⟩ := wc_V (f := f121) h11 (fun e => w121 e g (vl_c (va_r r_b_27.so) (vl_c (va_r r_o1) (vl_c (va_r r_o_23) vl_n))))
        refine wq_bd e (wq_up x ?_)
        have r_o1 := r_o1.up x
        have r_a0 := r_a0.up x
        exact wb131_51 h g r_a0 r_o1
theorem w131 {Y : Nat → Prop} {M0 : hM} {ρ : Nat → Nat} {as as_x : List aV} {M H M' : hM} {r : Option aV} (h : f131 as M = some (r, M')) (g : rn Y M0 ρ M H) (ha : vl ρ M as as_x) : wr Y M0 ρ M r M' (f131 as_x H) := by
  unfold f131 at h
  split at h
  · rename_i a0 o1 o2
    obtain ⟨a0_x, _, rfl, r_a0, ha1⟩ := vl_is ha
    obtain ⟨o1_x, _, rfl, r_o1, ha2⟩ := vl_ir ha1
    obtain ⟨o2_x, _, rfl, r_o2, ha3⟩ := vl_ir ha2
    cases vl_in ha3
    show wr Y M0 ρ M r M' (x_go k131 (b131_0 a0_x o1_x o2_x H))
    refine wx_go (blk := k131) ?_ h (fun res hx => wb131_0 hx g r_a0 r_o1 r_o2)
    intro ρ h as as_x M H res hk g ha
    unfold k131 at hk
    split at hk
    · rename_i hh
      subst hh
      split at hk
      · rename_i a0 o1 v3
        obtain ⟨a0_x, _, rfl, r_a0, ha1⟩ := vl_is ha
        obtain ⟨o1_x, _, rfl, r_o1, ha2⟩ := vl_ir ha1
        obtain ⟨_, rfl, ha3⟩ := vl_ii ha2
        cases vl_in ha3
        exact wb131_11 hk g r_a0 r_o1
      · cases hk
    · skip
      cases hk
  · cases h
theorem wb132_39 {si0 : Int32} {Y : Nat → Prop} {M0 : hM} {ρ : Nat → Nat} {M H : hM} {res : xRes} (h : b132_39 si0 M = some res) (g : rn Y M0 ρ M H)  : wq Y M0 ρ M res (b132_39 si0 H) := by
  unfold b132_39 at h ⊢
  cases h
  exact ⟨_, _, rfl, (vs_a va_i), g, ex.rf⟩
theorem wb132_23 {a0 : Nat} {a0_x : Nat} {si0 : Int32} {Y : Nat → Prop} {M0 : hM} {ρ : Nat → Nat} {M H : hM} {res : xRes} (h : b132_23 a0 si0 M = some res) (g : rn Y M0 ρ M H) (r_a0 : vn ρ M a0 a0_x) : wq Y M0 ρ M res (b132_23 a0_x si0 H) := by
  unfold b132_23 at h ⊢
  rcases ite_some h with ⟨q, h⟩ | ⟨q, h⟩
  · refine wq_ip q ?_
    exact wb132_39 h g 
  · refine wq_in q ?_
    obtain ⟨o_11, h1, h⟩ := bd h
    obtain ⟨o_11_x, e, r_o_11⟩ := w_gr g r_a0.so h1
    refine wq_bd e ?_
    obtain ⟨v_13, h2, h⟩ := bd h
    refine wq_bd (w_ali g r_o_11 h2) ?_
    exact wb132_39 h g 
theorem wb132_22 {a0 : Nat} {a0_x : Nat} {Y : Nat → Prop} {M0 : hM} {ρ : Nat → Nat} {M H : hM} {res : xRes} (h : b132_22 a0 M = some res) (g : rn Y M0 ρ M H) (r_a0 : vn ρ M a0 a0_x) : wq Y M0 ρ M res (b132_22 a0_x H) := by
  unfold b132_22 at h ⊢
  exact wb132_23 h g r_a0
theorem wb132_0 {a0 : Nat} {a0_x : Nat} {v1 : Int32} {Y : Nat → Prop} {M0 : hM} {ρ : Nat → Nat} {M H : hM} {res : xRes} (h : b132_0 a0 v1 M = some res) (g : rn Y M0 ρ M H) (r_a0 : vn ρ M a0 a0_x) : wq Y M0 ρ M res (b132_0 a0_x v1 H) := by
  unfold b132_0 at h ⊢
  rcases ite_some h with ⟨q, h⟩ | ⟨q, h⟩
  · refine wq_ip q ?_
    exact wb132_22 h g r_a0
  · refine wq_in q ?_
    obtain ⟨o_1, h1, h⟩ := bd h
    obtain ⟨o_1_x, e, r_o_1⟩ := w_gr g r_a0.so h1
    refine wq_bd e ?_
    obtain ⟨v_3, h2, h⟩ := bd h
    refine wq_bd (w_aln g r_o_1 h2) ?_
    rcases ite_some h with ⟨q, h⟩ | ⟨q, h⟩
    · refine wq_ip q ?_
      exact wb132_22 h g r_a0
    · refine wq_in q ?_
      obtain ⟨o_5, h3, h⟩ := bd h
      obtain ⟨o_5_x, e, r_o_5⟩ := w_gr g r_a0.so h3
      refine wq_bd e ?_
      obtain ⟨v_7, h4, h⟩ := bd h
      refine wq_bd (w_ali g r_o_5 h4) ?_
      exact wb132_23 h g r_a0
theorem w132 {Y : Nat → Prop} {M0 : hM} {ρ : Nat → Nat} {as as_x : List aV} {M H M' : hM} {r : Option aV} (h : f132 as M = some (r, M')) (g : rn Y M0 ρ M H) (ha : vl ρ M as as_x) : wr Y M0 ρ M r M' (f132 as_x H) := by
  unfold f132 at h
  split at h
  · rename_i a0 v1
    obtain ⟨a0_x, _, rfl, r_a0, ha1⟩ := vl_is ha
    obtain ⟨_, rfl, ha2⟩ := vl_ii ha1
    cases vl_in ha2
    exact wx_out h (fun res hx => wb132_0 hx g r_a0)
  · cases h
theorem wb133_47  {Y : Nat → Prop} {M0 : hM} {ρ : Nat → Nat} {M H : hM} {res : xRes} (h : b133_47  M = some res) (g : rn Y M0 ρ M H)  : wq Y M0 ρ M res (b133_47  H) := by
  unfold b133_47 at h ⊢
  cases h
  exact ⟨_, _, rfl, (vs_a va_i), g, ex.rf⟩
theorem wb133_91 {si0 : Int32} {Y : Nat → Prop} {M0 : hM} {ρ : Nat → Nat} {M H : hM} {res : xRes} (h : b133_91 si0 M = some res) (g : rn Y M0 ρ M H)  : wq Y M0 ρ M res (b133_91 si0 H) := by
  unfold b133_91 at h ⊢
  cases h
  exact ⟨_, _, rfl, (vs_a va_i), g, ex.rf⟩
theorem wb133_68 {a0 : Nat} {a0_x : Nat} {v3 : Int32} {Y : Nat → Prop} {M0 : hM} {ρ : Nat → Nat} {M H : hM} {res : xRes} (h : b133_68 a0 v3 M = some res) (g : rn Y M0 ρ M H) (r_a0 : vn ρ M a0 a0_x) : wq Y M0 ρ M res (b133_68 a0_x v3 H) := by
  unfold b133_68 at h ⊢
  obtain ⟨b_56, h1, h⟩ := bd h
  obtain ⟨b_56_x, e, r_b_56⟩ := w_go g r_a0.so h1
  refine wq_bd e ?_
  obtain ⟨q_54, h2, h⟩ := bd h
  obtain ⟨_, _, e, g, x⟩ := wc_I (f := f132) h2 (fun e => w132 e g (vl_c (va_r r_b_56.so) (vl_c va_i vl_n)))
  refine wq_bd e (wq_up x ?_)
  rcases ite_some h with ⟨q, h⟩ | ⟨q, h⟩
  · refine wq_ip q ?_
    exact wb133_91 h g 
  · refine wq_in q ?_
    exact wb133_91 h g 
theorem wb133_142  {Y : Nat → Prop} {M0 : hM} {ρ : Nat → Nat} {M H : hM} {res : xRes} (h : b133_142  M = some res) (g : rn Y M0 ρ M H)  : wq Y M0 ρ M res (b133_142  H) := by
  unfold b133_142 at h ⊢
  cases h
  exact ⟨_, _, rfl, (vs_a va_i), g, ex.rf⟩
theorem wb133_171 {si0 : Int32} {Y : Nat → Prop} {M0 : hM} {ρ : Nat → Nat} {M H : hM} {res : xRes} (h : b133_171 si0 M = some res) (g : rn Y M0 ρ M H)  : wq Y M0 ρ M res (b133_171 si0 H) := by
  unfold b133_171 at h ⊢
  cases h
  exact ⟨_, _, rfl, (vs_a va_i), g, ex.rf⟩
theorem wb133_50 {a0 : Nat} {a0_x : Nat} {v2 : Int32} {v3 : Int32} {v4 : Int32} {Y : Nat → Prop} {M0 : hM} {ρ : Nat → Nat} {M H : hM} {res : xRes} (h : b133_50 a0 v2 v3 v4 M = some res) (g : rn Y M0 ρ M H) (r_a0 : vn ρ M a0 a0_x) : wq Y M0 ρ M res (b133_50 a0_x v2 v3 v4 H) := by
  unfold b133_50 at h ⊢
  obtain ⟨v_23, h1, h⟩ := bd h
  refine wq_bd (w_gi g r_a0.so h1) ?_
  rcases ite_some h with ⟨q, h⟩ | ⟨q, h⟩
  · refine wq_ip q ?_
    obtain ⟨v_25, h2, h⟩ := bd h
    refine wq_bd (w_gi g r_a0.so h2) ?_
    rcases ite_some h with ⟨q, h⟩ | ⟨q, h⟩
    · refine wq_ip q ?_
      rcases ite_some h with ⟨q, h⟩ | ⟨q, h⟩
      · refine wq_ip q ?_
        exact wb133_142 h g 
      · refine wq_in q ?_
        obtain ⟨o_27, h3, h⟩ := bd h
        obtain ⟨o_27_x, e, r_o_27⟩ := w_gr g r_a0.so h3
        refine wq_bd e ?_
        obtain ⟨o_29, h4, h⟩ := bd h
        obtain ⟨o_29_x, e, r_o_29⟩ := w_alr g r_o_27 h4
        refine wq_bd e ?_
        obtain ⟨v_31, h5, h⟩ := bd h
        refine wq_bd (w_gi g r_o_29 h5) ?_
        rcases ite_some h with ⟨q, h⟩ | ⟨q, h⟩
        · refine wq_ip q ?_
          exact wb133_142 h g 
        · refine wq_in q ?_
          rcases ite_some h with ⟨q, h⟩ | ⟨q, h⟩
          · refine wq_ip q ?_
            exact wb133_142 h g 
          · refine wq_in q ?_
            obtain ⟨o_33, h6, h⟩ := bd h
            obtain ⟨o_33_x, e, r_o_33⟩ := w_gr g r_a0.so h6
            refine wq_bd e ?_
            obtain ⟨o_35, h7, h⟩ := bd h
            obtain ⟨o_35_x, e, r_o_35⟩ := w_alr g r_o_33 h7
            refine wq_bd e ?_
            obtain ⟨b_39, h8, h⟩ := bd h
            obtain ⟨b_39_x, e, r_b_39⟩ := w_go g r_o_35 h8
            refine wq_bd e ?_
            obtain ⟨q_37, h9, h⟩ := bd h
            obtain ⟨_, _, e, g, x⟩ := wc_I (f := f116) h9 (fun e => w116 e g (vl_c (va_r r_b_39.so) vl_n))
            refine wq_bd e (wq_up x ?_)
            have r_a0 := r_a0.up x
            rcases ite_some h with ⟨q, h⟩ | ⟨q, h⟩
            · refine wq_ip q ?_
              obtain ⟨o_41, h10, h⟩ := bd h
              obtain ⟨o_41_x, e, r_o_41⟩ := w_gr g r_a0.so h10
              refine wq_bd e ?_
              obtain ⟨b_45, h11, h⟩ := bd h
              obtain ⟨b_45_x, e, r_b_45⟩ := w_go g r_o_41 h11
              refine wq_bd e ?_
              obtain ⟨q_43, h12, h⟩ := bd h
              obtain ⟨_, _, e, g, x⟩ := wc_I (f := f125) h12 (fun e => w125 e g (vl_c (va_r r_b_45.so) (vl_c va_i (vl_c va_i vl_n))))
              refine wq_bd e (wq_up x ?_)
              rcases ite_some h with ⟨q, h⟩ | ⟨q, h⟩
              · refine wq_ip q ?_
                exact wb133_171 h g 
              · refine wq_in q ?_
                exact wb133_171 h g 
            · refine wq_in q ?_
              exact wb133_142 h g 
    · refine wq_in q ?_
      exact wb133_68 h g r_a0
  · refine wq_in q ?_
    exact wb133_68 h g r_a0
theorem wb133_0 {a0 : Nat} {a0_x : Nat} {o1 : Option Nat} {o1_x : Option Nat} {v2 : Int32} {v3 : Int32} {Y : Nat → Prop} {M0 : hM} {ρ : Nat → Nat} {M H : hM} {res : xRes} (h : b133_0 a0 o1 v2 v3 M = some res) (g : rn Y M0 ρ M H) (r_a0 : vn ρ M a0 a0_x) (r_o1 : vo ρ M o1 o1_x) : wq Y M0 ρ M res (b133_0 a0_x o1_x v2 v3 H) := by
  unfold b133_0 at h ⊢
  obtain ⟨b_3, h1, h⟩ := bd h
  obtain ⟨b_3_x, e, r_b_3⟩ := w_go g r_o1 h1
  refine wq_bd e ?_
  obtain ⟨q_1, h2, h⟩ := bd h
  obtain ⟨_, _, e, g, x⟩ := wc_I (f := f115) h2 (fun e => w115 e g (vl_c (va_r r_b_3.so) vl_n))
  refine wq_bd e (wq_up x ?_)
  have r_o1 := r_o1.up x
  have r_a0 := r_a0.up x
  rcases ite_some h with ⟨q, h⟩ | ⟨q, h⟩
  · refine wq_ip q ?_
    exact wb133_50 h g r_a0
  · refine wq_in q ?_
    obtain ⟨v_5, h3, h⟩ := bd h
    refine wq_bd (w_gi g r_o1 h3) ?_
    rcases ite_some h with ⟨q, h⟩ | ⟨q, h⟩
    · refine wq_ip q ?_
      exact wb133_47 h g 
    · refine wq_in q ?_
      obtain ⟨v_7, h4, h⟩ := bd h
      refine wq_bd (w_gi g r_o1 h4) ?_
      rcases ite_some h with ⟨q, h⟩ | ⟨q, h⟩
      · refine wq_ip q ?_
        obtain ⟨o_9, h5, h⟩ := bd h
        obtain ⟨o_9_x, e, r_o_9⟩ := w_gr g r_a0.so h5
        refine wq_bd e ?_
        obtain ⟨b_13, h6, h⟩ := bd h
        obtain ⟨b_13_x, e, r_b_13⟩ := w_go g r_o1 h6
        refine wq_bd e ?_
        obtain ⟨q_11, h7, h⟩ := bd h
        obtain ⟨_, _, e, g, x⟩ := wc_I (f := f116) h7 (fun e => w116 e g (vl_c (va_r r_b_13.so) vl_n))
        refine wq_bd e (wq_up x ?_)
        have r_a0 := r_a0.up x
        have r_o_9 := r_o_9.up x
        obtain ⟨b_17, h8, h⟩ := bd h
        obtain ⟨b_17_x, e, r_b_17⟩ := w_go g r_o_9 h8
        refine wq_bd e ?_
        obtain ⟨q_15, h9, h⟩ := bd h
        obtain ⟨_, _, e, g, x⟩ := wc_I (f := f125) h9 (fun e => w125 e g (vl_c (va_r r_b_17.so) (vl_c va_i (vl_c va_i vl_n))))
        refine wq_bd e (wq_up x ?_)
        have r_a0 := r_a0.up x
        rcases ite_some h with ⟨q, h⟩ | ⟨q, h⟩
        · refine wq_ip q ?_
          exact wb133_47 h g 
        · refine wq_in q ?_
          exact wb133_50 h g r_a0
      · refine wq_in q ?_
        exact wb133_47 h g 
theorem w133 {Y : Nat → Prop} {M0 : hM} {ρ : Nat → Nat} {as as_x : List aV} {M H M' : hM} {r : Option aV} (h : f133 as M = some (r, M')) (g : rn Y M0 ρ M H) (ha : vl ρ M as as_x) : wr Y M0 ρ M r M' (f133 as_x H) := by
  unfold f133 at h
  split at h
  · rename_i a0 o1 v2 v3
    obtain ⟨a0_x, _, rfl, r_a0, ha1⟩ := vl_is ha
    obtain ⟨o1_x, _, rfl, r_o1, ha2⟩ := vl_ir ha1
    obtain ⟨_, rfl, ha3⟩ := vl_ii ha2
    obtain ⟨_, rfl, ha4⟩ := vl_ii ha3
    cases vl_in ha4
    exact wx_out h (fun res hx => wb133_0 hx g r_a0 r_o1)
  · cases h
theorem wb134_0 {a0 : Nat} {a0_x : Nat} {v1 : Int32} {Y : Nat → Prop} {M0 : hM} {ρ : Nat → Nat} {M H : hM} {res : xRes} (h : b134_0 a0 v1 M = some res) (g : rn Y M0 ρ M H) (r_a0 : vn ρ M a0 a0_x) : wq Y M0 ρ M res (b134_0 a0_x v1 H) := by
  unfold b134_0 at h ⊢
  obtain ⟨o_1, h1, h⟩ := bd h
  obtain ⟨o_1_x, e, r_o_1⟩ := w_gr g r_a0.so h1
  refine wq_bd e ?_
  obtain ⟨b_5, h2, h⟩ := bd h
  obtain ⟨b_5_x, e, r_b_5⟩ := w_go g r_o_1 h2
  refine wq_bd e ?_
  obtain ⟨q_3, h3, h⟩ := bd h
  obtain ⟨_, _, e, g, x⟩ := wc_V (f := f37) h3 (fun e => w37 e g (vl_c (va_r r_b_5.so) (vl_c va_i vl_n)))
  refine wq_bd e (wq_up x ?_)
  have r_a0 := r_a0.up x
  obtain ⟨o_7, h4, h⟩ := bd h
  obtain ⟨o_7_x, e, r_o_7⟩ := w_gr g r_a0.so h4
  refine wq_bd e ?_
  obtain ⟨b_11, h5, h⟩ := bd h
  obtain ⟨b_11_x, e, r_b_11⟩ := w_go g r_a0.so h5
  refine wq_bd e ?_
  obtain ⟨q_9, h6, h⟩ := bd h
  obtain ⟨_, _, _, e, g, x, r_q⟩ := wc_R (f := f54) h6 (fun e => w54 e g (vl_c (va_r r_b_11.so) vl_n))
  refine wq_bd e (wq_up x ?_)
  have r_o_7 := r_o_7.up x
  have r_q_9_1 := r_q
  obtain ⟨b_15, h7, h⟩ := bd h
  obtain ⟨b_15_x, e, r_b_15⟩ := w_go g r_o_7 h7
  refine wq_bd e ?_
  obtain ⟨q_13, h8, h⟩ := bd h
  obtain ⟨_, _, e, g, x⟩ := wc_V (f := f17) h8 (fun e => w17 e g (vl_c (va_r r_b_15.so) (vl_c (va_r r_q_9_1) vl_n)))
  refine wq_bd e (wq_up x ?_)
  cases h
  exact ⟨_, _, rfl, vs_n, g, ex.rf⟩
theorem w134 {Y : Nat → Prop} {M0 : hM} {ρ : Nat → Nat} {as as_x : List aV} {M H M' : hM} {r : Option aV} (h : f134 as M = some (r, M')) (g : rn Y M0 ρ M H) (ha : vl ρ M as as_x) : wr Y M0 ρ M r M' (f134 as_x H) := by
  unfold f134 at h
  split at h
  · rename_i a0 v1
    obtain ⟨a0_x, _, rfl, r_a0, ha1⟩ := vl_is ha
    obtain ⟨_, rfl, ha2⟩ := vl_ii ha1
    cases vl_in ha2
    exact wx_out h (fun res hx => wb134_0 hx g r_a0)
  · cases h
theorem wb135_24  {Y : Nat → Prop} {M0 : hM} {ρ : Nat → Nat} {M H : hM} {res : xRes} (h : b135_24  M = some res) (g : rn Y M0 ρ M H)  : wq Y M0 ρ M res (b135_24  H) := by
  unfold b135_24 at h ⊢
  cases h
  exact ⟨_, _, rfl, vs_n, g, ex.rf⟩
theorem wb135_0 {a0 : Nat} {a0_x : Nat} {Y : Nat → Prop} {M0 : hM} {ρ : Nat → Nat} {M H : hM} {res : xRes} (h : b135_0 a0 M = some res) (g : rn Y M0 ρ M H) (r_a0 : vn ρ M a0 a0_x) : wq Y M0 ρ M res (b135_0 a0_x H) := by
  unfold b135_0 at h ⊢
  obtain ⟨v_1, h1, h⟩ := bd h
  refine wq_bd (w_gi g r_a0.so h1) ?_
  obtain ⟨M3, h2, h⟩ := bd h
  obtain ⟨_, e, g, x⟩ := w_pi g r_a0.so h2
  refine wq_bd e (wq_up x ?_)
  have r_a0 := r_a0.up x
  obtain ⟨v_5, h3, h⟩ := bd h
  refine wq_bd (w_gi g r_a0.so h3) ?_
  rcases ite_some h with ⟨q, h⟩ | ⟨q, h⟩
  · refine wq_ip q ?_
    exact wb135_24 h g 
  · refine wq_in q ?_
    obtain ⟨b_9, h4, h⟩ := bd h
    obtain ⟨b_9_x, e, r_b_9⟩ := w_go g r_a0.so h4
    refine wq_bd e ?_
    obtain ⟨q_7, h5, h⟩ := bd h
    obtain ⟨_, _, e, g, x⟩ := wc_V (f := f134) h5 (fun e => w134 e g (vl_c (va_r r_b_9.so) (vl_c va_i vl_n)))
    refine wq_bd e (wq_up x ?_)
    exact wb135_24 h g 
theorem w135 {Y : Nat → Prop} {M0 : hM} {ρ : Nat → Nat} {as as_x : List aV} {M H M' : hM} {r : Option aV} (h : f135 as M = some (r, M')) (g : rn Y M0 ρ M H) (ha : vl ρ M as as_x) : wr Y M0 ρ M r M' (f135 as_x H) := by
  unfold f135 at h
  split at h
  · rename_i a0
    obtain ⟨a0_x, _, rfl, r_a0, ha1⟩ := vl_is ha
    cases vl_in ha1
    exact wx_out h (fun res hx => wb135_0 hx g r_a0)
  · cases h
theorem wb136_24 {o1 : Option Nat} {o1_x : Option Nat} {v3 : Int32} {Y : Nat → Prop} {M0 : hM} {ρ : Nat → Nat} {M H : hM} {res : xRes} (h : b136_24 o1 v3 M = some res) (g : rn Y M0 ρ M H) (r_o1 : vo ρ M o1 o1_x) : wq Y M0 ρ M res (b136_24 o1_x v3 H) := by
  unfold b136_24 at h ⊢
  obtain ⟨b_45, h1, h⟩ := bd h
  obtain ⟨b_45_x, e, r_b_45⟩ := w_go g r_o1 h1
  refine wq_bd e ?_
  obtain ⟨q_43, h2, h⟩ := bd h
  obtain ⟨_, _, e, g, x⟩ := wc_V (f := f134) h2 (fun e => w134 e g (vl_c (va_r r_b_45.so) (vl_c va_i vl_n)))
  refine wq_bd e (wq_up x ?_)
  cases h
  exact ⟨_, _, rfl, vs_n, g, ex.rf⟩
theorem wb136_83  {Y : Nat → Prop} {M0 : hM} {ρ : Nat → Nat} {M H : hM} {res : xRes} (h : b136_83  M = some res) (g : rn Y M0 ρ M H)  : wq Y M0 ρ M res (b136_83  H) := by
  unfold b136_83 at h ⊢
  cases h
  exact ⟨_, _, rfl, vs_n, g, ex.rf⟩
theorem wb136_79 {o1 : Option Nat} {o1_x : Option Nat} {Y : Nat → Prop} {M0 : hM} {ρ : Nat → Nat} {M H : hM} {res : xRes} (h : b136_79 o1 M = some res) (g : rn Y M0 ρ M H) (r_o1 : vo ρ M o1 o1_x) : wq Y M0 ρ M res (b136_79 o1_x H) := by
  unfold b136_79 at h ⊢
  obtain ⟨b_49, h1, h⟩ := bd h
  obtain ⟨b_49_x, e, r_b_49⟩ := w_go g r_o1 h1
  refine wq_bd e ?_
  obtain ⟨q_47, h2, h⟩ := bd h
  obtain ⟨_, _, e, g, x⟩ := wc_V (f := f135) h2 (fun e => w135 e g (vl_c (va_r r_b_49.so) vl_n))
  refine wq_bd e (wq_up x ?_)
  exact wb136_83 h g 
theorem wb136_0 {a0 : Nat} {a0_x : Nat} {o1 : Option Nat} {o1_x : Option Nat} {o2 : Option Nat} {o2_x : Option Nat} {Y : Nat → Prop} {M0 : hM} {ρ : Nat → Nat} {M H : hM} {res : xRes} (h : b136_0 a0 o1 o2 M = some res) (g : rn Y M0 ρ M H) (r_a0 : vn ρ M a0 a0_x) (r_o1 : vo ρ M o1 o1_x) (r_o2 : vo ρ M o2 o2_x) : wq Y M0 ρ M res (b136_0 a0_x o1_x o2_x H) := by
  unfold b136_0 at h ⊢
  obtain ⟨b_3, h1, h⟩ := bd h
  obtain ⟨b_3_x, e, r_b_3⟩ := w_go g r_o2 h1
  refine wq_bd e ?_
  obtain ⟨q_1, h2, h⟩ := bd h
  obtain ⟨_, _, e, g, x⟩ := wc_I (f := f65) h2 (fun e => w65 e g (vl_c (va_r r_b_3.so) vl_n))
  refine wq_bd e (wq_up x ?_)
  have r_o2 := r_o2.up x
  have r_o1 := r_o1.up x
  have r_a0 := r_a0.up x
  obtain ⟨b_7, h3, h⟩ := bd h
  obtain ⟨b_7_x, e, r_b_7⟩ := w_go g r_o2 h3
  refine wq_bd e ?_
  obtain ⟨q_5, h4, h⟩ := bd h
  obtain ⟨_, _, e, g, x⟩ := wc_I (f := f64) h4 (fun e => w64 e g (vl_c (va_r r_b_7.so) vl_n))
  refine wq_bd e (wq_up x ?_)
  have r_o1 := r_o1.up x
  have r_a0 := r_a0.up x
  obtain ⟨b_11, h5, h⟩ := bd h
  obtain ⟨b_11_x, e, r_b_11⟩ := w_go g r_a0.so h5
  refine wq_bd e ?_
  obtain ⟨q_9, h6, h⟩ := bd h
  obtain ⟨_, _, e, g, x⟩ := wc_I (f := f133) h6 (fun e => w133 e g (vl_c (va_r r_b_11.so) (vl_c (va_r r_o1) (vl_c va_i (vl_c va_i vl_n)))))
  refine wq_bd e (wq_up x ?_)
  have r_o1 := r_o1.up x
  have r_a0 := r_a0.up x
  rcases ite_some h with ⟨q, h⟩ | ⟨q, h⟩
  · refine wq_ip q ?_
    exact wb136_24 h g r_o1
  · refine wq_in q ?_
    rcases ite_some h with ⟨q, h⟩ | ⟨q, h⟩
    · refine wq_ip q ?_
      obtain ⟨o_13, h7, h⟩ := bd h
      obtain ⟨o_13_x, e, r_o_13⟩ := w_gr g r_a0.so h7
      refine wq_bd e ?_
      obtain ⟨o_15, h8, h⟩ := bd h
      obtain ⟨o_15_x, e, r_o_15⟩ := w_alr g r_o_13 h8
      refine wq_bd e ?_
      obtain ⟨o_17, h9, h⟩ := bd h
      obtain ⟨o_17_x, e, r_o_17⟩ := w_gr g r_o_15 h9
      refine wq_bd e ?_
      obtain ⟨v_19, h10, h⟩ := bd h
      refine wq_bd (w_gi g r_o_17 h10) ?_
      rcases ite_some h with ⟨q, h⟩ | ⟨q, h⟩
      · refine wq_ip q ?_
        obtain ⟨b_23, h11, h⟩ := bd h
        obtain ⟨b_23_x, e, r_b_23⟩ := w_go g r_o_15 h11
        refine wq_bd e ?_
        obtain ⟨q_21, h12, h⟩ := bd h
        obtain ⟨_, _, e, g, x⟩ := wc_I (f := f41) h12 (fun e => w41 e g (vl_c (va_r r_b_23.so) vl_n))
        refine wq_bd e (wq_up x ?_)
        have r_o1 := r_o1.up x
        have r_o_15 := r_o_15.up x
        have r_a0 := r_a0.up x
        rcases ite_some h with ⟨q, h⟩ | ⟨q, h⟩
        · refine wq_ip q ?_
          exact wb136_79 h g r_o1
        · refine wq_in q ?_
          obtain ⟨b_27, h13, h⟩ := bd h
          obtain ⟨b_27_x, e, r_b_27⟩ := w_go g r_o1 h13
          refine wq_bd e ?_
          obtain ⟨q_25, h14, h⟩ := bd h
          obtain ⟨_, _, _, e, g, x, r_q⟩ := wc_R (f := f54) h14 (fun e => w54 e g (vl_c (va_r r_b_27.so) vl_n))
          refine wq_bd e (wq_up x ?_)
          have r_a0 := r_a0.up x
          have r_o_15 := r_o_15.up x
          have r_q_25_1 := r_q
          obtain ⟨b_31, h15, h⟩ := bd h
          obtain ⟨b_31_x, e, r_b_31⟩ := w_go g r_o_15 h15
          refine wq_bd e ?_
          obtain ⟨q_29, h16, h⟩ := bd h
          obtain ⟨_, _, e, g, x⟩ := wc_V (f := f44) h16 (fun e => w44 e g (vl_c (va_r r_b_31.so) (vl_c (va_r r_q_25_1) vl_n)))
          refine wq_bd e (wq_up x ?_)
          have r_a0 := r_a0.up x
          obtain ⟨o_33, h17, h⟩ := bd h
          obtain ⟨o_33_x, e, r_o_33⟩ := w_gr g r_a0.so h17
          refine wq_bd e ?_
          obtain ⟨b_37, h18, h⟩ := bd h
          obtain ⟨b_37_x, e, r_b_37⟩ := w_go g r_o_33 h18
          refine wq_bd e ?_
          obtain ⟨q_35, h19, h⟩ := bd h
          obtain ⟨_, _, e, g, x⟩ := wc_V (f := f37) h19 (fun e => w37 e g (vl_c (va_r r_b_37.so) (vl_c va_i vl_n)))
          refine wq_bd e (wq_up x ?_)
          exact wb136_83 h g 
      · refine wq_in q ?_
        exact wb136_79 h g r_o1
    · refine wq_in q ?_
      exact wb136_24 h g r_o1
theorem w136 {Y : Nat → Prop} {M0 : hM} {ρ : Nat → Nat} {as as_x : List aV} {M H M' : hM} {r : Option aV} (h : f136 as M = some (r, M')) (g : rn Y M0 ρ M H) (ha : vl ρ M as as_x) : wr Y M0 ρ M r M' (f136 as_x H) := by
  unfold f136 at h
  split at h
  · rename_i a0 o1 o2
    obtain ⟨a0_x, _, rfl, r_a0, ha1⟩ := vl_is ha
    obtain ⟨o1_x, _, rfl, r_o1, ha2⟩ := vl_ir ha1
    obtain ⟨o2_x, _, rfl, r_o2, ha3⟩ := vl_ir ha2
    cases vl_in ha3
    exact wx_out h (fun res hx => wb136_0 hx g r_a0 r_o1 r_o2)
  · cases h
theorem wb137_174 {a0 : Nat} {a0_x : Nat} {o1 : Option Nat} {o1_x : Option Nat} {Y : Nat → Prop} {M0 : hM} {ρ : Nat → Nat} {M H : hM} {res : xRes} (h : b137_174 a0 o1 M = some res) (g : rn Y M0 ρ M H) (r_a0 : vn ρ M a0 a0_x) (r_o1 : vo ρ M o1 o1_x) : wq Y M0 ρ M res (b137_174 a0_x o1_x H) := by
  unfold b137_174 at h ⊢
  obtain ⟨o_76, h1, h⟩ := bd h
  obtain ⟨o_76_x, e, r_o_76⟩ := w_gr g r_a0.so h1
  refine wq_bd e ?_
  obtain ⟨b_80, h2, h⟩ := bd h
  obtain ⟨b_80_x, e, r_b_80⟩ := w_go g r_o1 h2
  refine wq_bd e ?_
  obtain ⟨q_78, h3, h⟩ := bd h
  obtain ⟨_, _, _, e, g, x, r_q⟩ := wc_R (f := f54) h3 (fun e => w54 e g (vl_c (va_r r_b_80.so) vl_n))
  refine wq_bd e (wq_up x ?_)
  have r_o_76 := r_o_76.up x
  have r_q_78_1 := r_q
  obtain ⟨b_84, h4, h⟩ := bd h
  obtain ⟨b_84_x, e, r_b_84⟩ := w_go g r_o_76 h4
  refine wq_bd e ?_
  obtain ⟨q_82, h5, h⟩ := bd h
  obtain ⟨_, _, e, g, x⟩ := wc_V (f := f17) h5 (fun e => w17 e g (vl_c (va_r r_b_84.so) (vl_c (va_r r_q_78_1) vl_n)))
  refine wq_bd e (wq_up x ?_)
  cases h
  exact ⟨_, _, rfl, vs_n, g, ex.rf⟩
theorem wb137_149 {a0 : Nat} {a0_x : Nat} {o1 : Option Nat} {o1_x : Option Nat} {o2 : Option Nat} {o2_x : Option Nat} {v3 : Int32} {v4 : Int32} {Y : Nat → Prop} {M0 : hM} {ρ : Nat → Nat} {M H : hM} {res : xRes} (h : b137_149 a0 o1 o2 v3 v4 M = some res) (g : rn Y M0 ρ M H) (r_a0 : vn ρ M a0 a0_x) (r_o1 : vo ρ M o1 o1_x) (r_o2 : vo ρ M o2 o2_x) : wq Y M0 ρ M res (b137_149 a0_x o1_x o2_x v3 v4 H) := by
  unfold b137_149 at h ⊢
  rcases ite_some h with ⟨q, h⟩ | ⟨q, h⟩
  · refine wq_ip q ?_
    rcases ite_some h with ⟨q, h⟩ | ⟨q, h⟩
    · refine wq_ip q ?_
      obtain ⟨b_67, h1, h⟩ := bd h
      obtain ⟨b_67_x, e, r_b_67⟩ := w_go g r_o1 h1
      refine wq_bd e ?_
      obtain ⟨q_65, h2, h⟩ := bd h
      obtain ⟨_, _, e, g, x⟩ := wc_I (f := f115) h2 (fun e => w115 e g (vl_c (va_r r_b_67.so) vl_n))
      refine wq_bd e (wq_up x ?_)
      have r_o2 := r_o2.up x
      have r_o1 := r_o1.up x
      have r_a0 := r_a0.up x
      rcases ite_some h with ⟨q, h⟩ | ⟨q, h⟩
      · refine wq_ip q ?_
        exact wb137_174 h g r_a0 r_o1
      · refine wq_in q ?_
        obtain ⟨b_71, h3, h⟩ := bd h
        obtain ⟨b_71_x, e, r_b_71⟩ := w_go g r_a0.so h3
        refine wq_bd e ?_
        obtain ⟨q_69, h4, h⟩ := bd h
        obtain ⟨_, _, e, g, x⟩ := wc_V (f := f128) h4 (fun e => w128 e g (vl_c (va_r r_b_71.so) (vl_c (va_r r_o1) (vl_c (va_r r_o2) vl_n))))
        refine wq_bd e (wq_up x ?_)
        have r_o1 := r_o1.up x
        have r_a0 := r_a0.up x
        exact wb137_174 h g r_a0 r_o1
    · refine wq_in q ?_
      exact wb137_174 h g r_a0 r_o1
  · refine wq_in q ?_
    exact wb137_174 h g r_a0 r_o1
theorem wb137_122 {a0 : Nat} {a0_x : Nat} {o1 : Option Nat} {o1_x : Option Nat} {o2 : Option Nat} {o2_x : Option Nat} {v3 : Int32} {v4 : Int32} {Y : Nat → Prop} {M0 : hM} {ρ : Nat → Nat} {M H : hM} {res : xRes} (h : b137_122 a0 o1 o2 v3 v4 M = some res) (g : rn Y M0 ρ M H) (r_a0 : vn ρ M a0 a0_x) (r_o1 : vo ρ M o1 o1_x) (r_o2 : vo ρ M o2 o2_x) : wq Y M0 ρ M res (b137_122 a0_x o1_x o2_x v3 v4 H) := by
  unfold b137_122 at h ⊢
  rcases ite_some h with ⟨q, h⟩ | ⟨q, h⟩
  · refine wq_ip q ?_
    rcases ite_some h with ⟨q, h⟩ | ⟨q, h⟩
    · refine wq_ip q ?_
      obtain ⟨b_56, h1, h⟩ := bd h
      obtain ⟨b_56_x, e, r_b_56⟩ := w_go g r_o1 h1
      refine wq_bd e ?_
      obtain ⟨q_54, h2, h⟩ := bd h
      obtain ⟨_, _, e, g, x⟩ := wc_I (f := f115) h2 (fun e => w115 e g (vl_c (va_r r_b_56.so) vl_n))
      refine wq_bd e (wq_up x ?_)
      have r_o2 := r_o2.up x
      have r_o1 := r_o1.up x
      have r_a0 := r_a0.up x
      rcases ite_some h with ⟨q, h⟩ | ⟨q, h⟩
      · refine wq_ip q ?_
        exact wb137_149 h g r_a0 r_o1 r_o2
      · refine wq_in q ?_
        obtain ⟨b_60, h3, h⟩ := bd h
        obtain ⟨b_60_x, e, r_b_60⟩ := w_go g r_a0.so h3
        refine wq_bd e ?_
        obtain ⟨q_58, h4, h⟩ := bd h
        obtain ⟨_, _, e, g, x⟩ := wc_V (f := f129) h4 (fun e => w129 e g (vl_c (va_r r_b_60.so) (vl_c (va_r r_o1) vl_n)))
        refine wq_bd e (wq_up x ?_)
        have r_o1 := r_o1.up x
        have r_a0 := r_a0.up x
        exact wb137_174 h g r_a0 r_o1
    · refine wq_in q ?_
      exact wb137_149 h g r_a0 r_o1 r_o2
  · refine wq_in q ?_
    exact wb137_149 h g r_a0 r_o1 r_o2
theorem wb137_94 {a0 : Nat} {a0_x : Nat} {o1 : Option Nat} {o1_x : Option Nat} {o2 : Option Nat} {o2_x : Option Nat} {v3 : Int32} {v4 : Int32} {Y : Nat → Prop} {M0 : hM} {ρ : Nat → Nat} {M H : hM} {res : xRes} (h : b137_94 a0 o1 o2 v3 v4 M = some res) (g : rn Y M0 ρ M H) (r_a0 : vn ρ M a0 a0_x) (r_o1 : vo ρ M o1 o1_x) (r_o2 : vo ρ M o2 o2_x) : wq Y M0 ρ M res (b137_94 a0_x o1_x o2_x v3 v4 H) := by
  unfold b137_94 at h ⊢
  rcases ite_some h with ⟨q, h⟩ | ⟨q, h⟩
  · refine wq_ip q ?_
    rcases ite_some h with ⟨q, h⟩ | ⟨q, h⟩
    · refine wq_ip q ?_
      obtain ⟨b_45, h1, h⟩ := bd h
      obtain ⟨b_45_x, e, r_b_45⟩ := w_go g r_o1 h1
      refine wq_bd e ?_
      obtain ⟨q_43, h2, h⟩ := bd h
      obtain ⟨_, _, e, g, x⟩ := wc_I (f := f112) h2 (fun e => w112 e g (vl_c (va_r r_b_45.so) vl_n))
      refine wq_bd e (wq_up x ?_)
      have r_o2 := r_o2.up x
      have r_o1 := r_o1.up x
      have r_a0 := r_a0.up x
      rcases ite_some h with ⟨q, h⟩ | ⟨q, h⟩
      · refine wq_ip q ?_
        exact wb137_122 h g r_a0 r_o1 r_o2
      · refine wq_in q ?_
        obtain ⟨b_49, h3, h⟩ := bd h
        obtain ⟨b_49_x, e, r_b_49⟩ := w_go g r_a0.so h3
        refine wq_bd e ?_
        obtain ⟨q_47, h4, h⟩ := bd h
        obtain ⟨_, _, e, g, x⟩ := wc_V (f := f130) h4 (fun e => w130 e g (vl_c (va_r r_b_49.so) (vl_c (va_r r_o1) (vl_c (va_r r_o2) vl_n))))
        refine wq_bd e (wq_up x ?_)
        have r_o1 := r_o1.up x
        have r_a0 := r_a0.up x
        exact wb137_174 h g r_a0 r_o1
    · refine wq_in q ?_
      exact wb137_122 h g r_a0 r_o1 r_o2
  · refine wq_in q ?_
    exact wb137_122 h g r_a0 r_o1 r_o2
theorem wb137_66 {a0 : Nat} {a0_x : Nat} {o1 : Option Nat} {o1_x : Option Nat} {o2 : Option Nat} {o2_x : Option Nat} {v3 : Int32} {v4 : Int32} {Y : Nat → Prop} {M0 : hM} {ρ : Nat → Nat} {M H : hM} {res : xRes} (h : b137_66 a0 o1 o2 v3 v4 M = some res) (g : rn Y M0 ρ M H) (r_a0 : vn ρ M a0 a0_x) (r_o1 : vo ρ M o1 o1_x) (r_o2 : vo ρ M o2 o2_x) : wq Y M0 ρ M res (b137_66 a0_x o1_x o2_x v3 v4 H) := by
  unfold b137_66 at h ⊢
  rcases ite_some h with ⟨q, h⟩ | ⟨q, h⟩
  · refine wq_ip q ?_
    rcases ite_some h with ⟨q, h⟩ | ⟨q, h⟩
    · refine wq_ip q ?_
      obtain ⟨b_34, h1, h⟩ := bd h
      obtain ⟨b_34_x, e, r_b_34⟩ := w_go g r_o1 h1
      refine wq_bd e ?_
      obtain ⟨q_32, h2, h⟩ := bd h
      obtain ⟨_, _, e, g, x⟩ := wc_I (f := f112) h2 (fun e => w112 e g (vl_c (va_r r_b_34.so) vl_n))
      refine wq_bd e (wq_up x ?_)
      have r_o2 := r_o2.up x
      have r_o1 := r_o1.up x
      have r_a0 := r_a0.up x
      rcases ite_some h with ⟨q, h⟩ | ⟨q, h⟩
      · refine wq_ip q ?_
        exact wb137_94 h g r_a0 r_o1 r_o2
      · refine wq_in q ?_
        obtain ⟨b_38, h3, h⟩ := bd h
        obtain ⟨b_38_x, e, r_b_38⟩ := w_go g r_a0.so h3
        refine wq_bd e ?_
        obtain ⟨q_36, h4, h⟩ := bd h
        obtain ⟨_, _, e, g, x⟩ := wc_V (f := f131) h4 (fun e => w131 e g (vl_c (va_r r_b_38.so) (vl_c (va_r r_o1) (vl_c (va_r r_o2) vl_n))))
        refine wq_bd e (wq_up x ?_)
        have r_o1 := r_o1.up x
        have r_a0 := r_a0.up x
        exact wb137_174 h g r_a0 r_o1
    · refine wq_in q ?_
      exact wb137_94 h g r_a0 r_o1 r_o2
  · refine wq_in q ?_
    exact wb137_94 h g r_a0 r_o1 r_o2
theorem wb137_0 {a0 : Nat} {a0_x : Nat} {o1 : Option Nat} {o1_x : Option Nat} {Y : Nat → Prop} {M0 : hM} {ρ : Nat → Nat} {M H : hM} {res : xRes} (h : b137_0 a0 o1 M = some res) (g : rn Y M0 ρ M H) (r_a0 : vn ρ M a0 a0_x) (r_o1 : vo ρ M o1 o1_x) : wq Y M0 ρ M res (b137_0 a0_x o1_x H) := by
  unfold b137_0 at h ⊢
  obtain ⟨o_1, h1, h⟩ := bd h
  obtain ⟨o_1_x, e, r_o_1⟩ := w_gr g r_o1 h1
  refine wq_bd e ?_
  obtain ⟨o_3, h2, h⟩ := bd h
  obtain ⟨o_3_x, e, r_o_3⟩ := w_gr g r_o_1 h2
  refine wq_bd e ?_
  rcases ite_some h with ⟨q, h⟩ | ⟨q, h⟩
  · refine wq_ip (r_o_3.non q) ?_
    cases h
    exact ⟨_, _, rfl, vs_n, g, ex.rf⟩
  · refine wq_in (r_o_3.nnn q) ?_
    obtain ⟨o_5, h3, h⟩ := bd h
    obtain ⟨o_5_x, e, r_o_5⟩ := w_gr g r_a0.so h3
    refine wq_bd e ?_
    obtain ⟨b_9, h4, h⟩ := bd h
    obtain ⟨b_9_x, e, r_b_9⟩ := w_go g r_o_3 h4
    refine wq_bd e ?_
    obtain ⟨q_7, h5, h⟩ := bd h
    obtain ⟨_, _, e, g, x⟩ := wc_I (f := f63) h5 (fun e => w63 e g (vl_c (va_r r_b_9.so) (vl_c (va_r r_o_5) vl_n)))
    refine wq_bd e (wq_up x ?_)
    have r_o1 := r_o1.up x
    have r_a0 := r_a0.up x
    have r_o_3 := r_o_3.up x
    rcases ite_some h with ⟨q, h⟩ | ⟨q, h⟩
    · refine wq_ip q ?_
      obtain ⟨b_28, h6, h⟩ := bd h
      obtain ⟨b_28_x, e, r_b_28⟩ := w_go g r_o1 h6
      refine wq_bd e ?_
      obtain ⟨q_26, h7, h⟩ := bd h
      obtain ⟨_, _, e, g, x⟩ := wc_V (f := f134) h7 (fun e => w134 e g (vl_c (va_r r_b_28.so) (vl_c va_i vl_n)))
      refine wq_bd e (wq_up x ?_)
      cases h
      exact ⟨_, _, rfl, vs_n, g, ex.rf⟩
    · refine wq_in q ?_
      obtain ⟨b_13, h8, h⟩ := bd h
      obtain ⟨b_13_x, e, r_b_13⟩ := w_go g r_o_3 h8
      refine wq_bd e ?_
      obtain ⟨q_11, h9, h⟩ := bd h
      obtain ⟨_, _, e, g, x⟩ := wc_I (f := f64) h9 (fun e => w64 e g (vl_c (va_r r_b_13.so) vl_n))
      refine wq_bd e (wq_up x ?_)
      have r_o1 := r_o1.up x
      have r_a0 := r_a0.up x
      have r_o_3 := r_o_3.up x
      obtain ⟨b_17, h10, h⟩ := bd h
      obtain ⟨b_17_x, e, r_b_17⟩ := w_go g r_o_3 h10
      refine wq_bd e ?_
      obtain ⟨q_15, h11, h⟩ := bd h
      obtain ⟨_, _, e, g, x⟩ := wc_I (f := f57) h11 (fun e => w57 e g (vl_c (va_r r_b_17.so) vl_n))
      refine wq_bd e (wq_up x ?_)
      have r_o1 := r_o1.up x
      have r_a0 := r_a0.up x
      have r_o_3 := r_o_3.up x
      rcases ite_some h with ⟨q, h⟩ | ⟨q, h⟩
      · refine wq_ip q ?_
        exact wb137_66 h g r_a0 r_o1 r_o_3
      · refine wq_in q ?_
        rcases ite_some h with ⟨q, h⟩ | ⟨q, h⟩
        · refine wq_ip q ?_
          exact wb137_66 h g r_a0 r_o1 r_o_3
        · refine wq_in q ?_
          rcases ite_some h with ⟨q, h⟩ | ⟨q, h⟩
          · refine wq_ip q ?_
            exact wb137_66 h g r_a0 r_o1 r_o_3
          · refine wq_in q ?_
            obtain ⟨b_21, h12, h⟩ := bd h
            obtain ⟨b_21_x, e, r_b_21⟩ := w_go g r_a0.so h12
            refine wq_bd e ?_
            obtain ⟨q_19, h13, h⟩ := bd h
            obtain ⟨_, _, e, g, x⟩ := wc_V (f := f136) h13 (fun e => w136 e g (vl_c (va_r r_b_21.so) (vl_c (va_r r_o1) (vl_c (va_r r_o_3) vl_n))))
            refine wq_bd e (wq_up x ?_)
            cases h
            exact ⟨_, _, rfl, vs_n, g, ex.rf⟩
theorem w137 {Y : Nat → Prop} {M0 : hM} {ρ : Nat → Nat} {as as_x : List aV} {M H M' : hM} {r : Option aV} (h : f137 as M = some (r, M')) (g : rn Y M0 ρ M H) (ha : vl ρ M as as_x) : wr Y M0 ρ M r M' (f137 as_x H) := by
  unfold f137 at h
  split at h
  · rename_i a0 o1
    obtain ⟨a0_x, _, rfl, r_a0, ha1⟩ := vl_is ha
    obtain ⟨o1_x, _, rfl, r_o1, ha2⟩ := vl_ir ha1
    cases vl_in ha2
    exact wx_out h (fun res hx => wb137_0 hx g r_a0 r_o1)
  · cases h
theorem wb138_0 {a0 : Nat} {a0_x : Nat} {Y : Nat → Prop} {M0 : hM} {ρ : Nat → Nat} {M H : hM} {res : xRes} (h : b138_0 a0 M = some res) (g : rn Y M0 ρ M H) (r_a0 : vn ρ M a0 a0_x) : wq Y M0 ρ M res (b138_0 a0_x H) := by
  unfold b138_0 at h ⊢
  obtain ⟨b_3, h1, h⟩ := bd h
  obtain ⟨b_3_x, e, r_b_3⟩ := w_go g r_a0.so h1
  refine wq_bd e ?_
  obtain ⟨q_1, h2, h⟩ := bd h
  obtain ⟨_, _, e, g, x⟩ := wc_V (f := f95) h2 (fun e => w95 e g (vl_c (va_r r_b_3.so) vl_n))
  refine wq_bd e (wq_up x ?_)
  have r_a0 := r_a0.up x
  obtain ⟨b_7, h3, h⟩ := bd h
  obtain ⟨b_7_x, e, r_b_7⟩ := w_go g r_a0.so h3
  refine wq_bd e ?_
  obtain ⟨q_5, h4, h⟩ := bd h
  obtain ⟨_, _, e, g, x⟩ := wc_V (f := f111) h4 (fun e => w111 e g (vl_c (va_r r_b_7.so) vl_n))
  refine wq_bd e (wq_up x ?_)
  have r_a0 := r_a0.up x
  obtain ⟨b_11, h5, h⟩ := bd h
  obtain ⟨b_11_x, e, r_b_11⟩ := w_go g r_a0.so h5
  refine wq_bd e ?_
  obtain ⟨q_9, h6, h⟩ := bd h
  obtain ⟨_, _, e, g, x⟩ := wc_V (f := f113) h6 (fun e => w113 e g (vl_c (va_r r_b_11.so) vl_n))
  refine wq_bd e (wq_up x ?_)
  have r_a0 := r_a0.up x
  obtain ⟨b_15, h7, h⟩ := bd h
  obtain ⟨b_15_x, e, r_b_15⟩ := w_go g r_a0.so h7
  refine wq_bd e ?_
  obtain ⟨q_13, h8, h⟩ := bd h
  obtain ⟨_, _, e, g, x⟩ := wc_V (f := f124) h8 (fun e => w124 e g (vl_c (va_r r_b_15.so) vl_n))
  refine wq_bd e (wq_up x ?_)
  have r_a0 := r_a0.up x
  obtain ⟨o_17, h9, h⟩ := bd h
  obtain ⟨o_17_x, e, r_o_17⟩ := w_gr g r_a0.so h9
  refine wq_bd e ?_
  obtain ⟨v_19, h10, h⟩ := bd h
  refine wq_bd (w_gi g r_o_17 h10) ?_
  cases h
  exact ⟨_, _, rfl, (vs_g (vl_c (va_r r_a0.so) (vl_c va_i (vl_c va_i vl_n)))), g, ex.rf⟩
theorem wb138_29 {a0 : Nat} {a0_x : Nat} {v1 : Int32} {v2 : Int32} {Y : Nat → Prop} {M0 : hM} {ρ : Nat → Nat} {M H : hM} {res : xRes} (h : b138_29 a0 v1 v2 M = some res) (g : rn Y M0 ρ M H) (r_a0 : vn ρ M a0 a0_x) : wq Y M0 ρ M res (b138_29 a0_x v1 v2 H) := by
  unfold b138_29 at h ⊢
  rcases ite_some h with ⟨q, h⟩ | ⟨q, h⟩
  · refine wq_ip q ?_
    cases h
    exact ⟨_, _, rfl, (vs_g (vl_c (va_r r_a0.so) (vl_c va_i (vl_c va_i vl_n)))), g, ex.rf⟩
  · refine wq_in q ?_
    obtain ⟨o_21, h1, h⟩ := bd h
    obtain ⟨o_21_x, e, r_o_21⟩ := w_gr g r_a0.so h1
    refine wq_bd e ?_
    obtain ⟨v_23, h2, h⟩ := bd h
    refine wq_bd h2 ?_
    obtain ⟨o_25, h3, h⟩ := bd h
    obtain ⟨o_25_x, e, r_o_25⟩ := w_alr g r_o_21 h3
    refine wq_bd e ?_
    obtain ⟨b_29, h4, h⟩ := bd h
    obtain ⟨b_29_x, e, r_b_29⟩ := w_go g r_o_25 h4
    refine wq_bd e ?_
    obtain ⟨q_27, h5, h⟩ := bd h
    obtain ⟨_, _, e, g, x⟩ := wc_V (f := f45) h5 (fun e => w45 e g (vl_c (va_r r_b_29.so) vl_n))
    refine wq_bd e (wq_up x ?_)
    have r_a0 := r_a0.up x
    cases h
    exact ⟨_, _, rfl, (vs_g (vl_c (va_r r_a0.so) (vl_c va_i (vl_c va_i vl_n)))), g, ex.rf⟩
theorem wb138_57 {a0 : Nat} {a0_x : Nat} {v1 : Int32} {v2 : Int32} {Y : Nat → Prop} {M0 : hM} {ρ : Nat → Nat} {M H : hM} {res : xRes} (h : b138_57 a0 v1 v2 M = some res) (g : rn Y M0 ρ M H) (r_a0 : vn ρ M a0 a0_x) : wq Y M0 ρ M res (b138_57 a0_x v1 v2 H) := by
  unfold b138_57 at h ⊢
  rcases ite_some h with ⟨q, h⟩ | ⟨q, h⟩
  · refine wq_ip q ?_
    cases h
    exact ⟨_, _, rfl, vs_n, g, ex.rf⟩
  · refine wq_in q ?_
    obtain ⟨o_32, h1, h⟩ := bd h
    obtain ⟨o_32_x, e, r_o_32⟩ := w_gr g r_a0.so h1
    refine wq_bd e ?_
    obtain ⟨v_34, h2, h⟩ := bd h
    refine wq_bd h2 ?_
    obtain ⟨o_36, h3, h⟩ := bd h
    obtain ⟨o_36_x, e, r_o_36⟩ := w_alr g r_o_32 h3
    refine wq_bd e ?_
    obtain ⟨b_40, h4, h⟩ := bd h
    obtain ⟨b_40_x, e, r_b_40⟩ := w_go g r_a0.so h4
    refine wq_bd e ?_
    obtain ⟨q_38, h5, h⟩ := bd h
    obtain ⟨_, _, e, g, x⟩ := wc_V (f := f137) h5 (fun e => w137 e g (vl_c (va_r r_b_40.so) (vl_c (va_r r_o_36) vl_n)))
    refine wq_bd e (wq_up x ?_)
    have r_a0 := r_a0.up x
    cases h
    exact ⟨_, _, rfl, (vs_g (vl_c (va_r r_a0.so) (vl_c va_i (vl_c va_i vl_n)))), g, ex.rf⟩
theorem w138 {Y : Nat → Prop} {M0 : hM} {ρ : Nat → Nat} {as as_x : List aV} {M H M' : hM} {r : Option aV} (h : f138 as M = some (r, M')) (g : rn Y M0 ρ M H) (ha : vl ρ M as as_x) : wr Y M0 ρ M r M' (f138 as_x H) := by
  unfold f138 at h
  split at h
  · rename_i a0
    obtain ⟨a0_x, _, rfl, r_a0, ha1⟩ := vl_is ha
    cases vl_in ha1
    show wr Y M0 ρ M r M' (x_go k138 (b138_0 a0_x H))
    refine wx_go (blk := k138) ?_ h (fun res hx => wb138_0 hx g r_a0)
    intro ρ h as as_x M H res hk g ha
    unfold k138 at hk
    split at hk
    · rename_i hh
      subst hh
      split at hk
      · rename_i a0 v1 v2
        obtain ⟨a0_x, _, rfl, r_a0, ha1⟩ := vl_is ha
        obtain ⟨_, rfl, ha2⟩ := vl_ii ha1
        obtain ⟨_, rfl, ha3⟩ := vl_ii ha2
        cases vl_in ha3
        exact wb138_29 hk g r_a0
      · cases hk
    · skip
      split at hk
      · rename_i hh
        subst hh
        split at hk
        · rename_i a0 v1 v2
          obtain ⟨a0_x, _, rfl, r_a0, ha1⟩ := vl_is ha
          obtain ⟨_, rfl, ha2⟩ := vl_ii ha1
          obtain ⟨_, rfl, ha3⟩ := vl_ii ha2
          cases vl_in ha3
          exact wb138_57 hk g r_a0
        · cases hk
      · skip
        cases hk
  · cases h
theorem wb139_32  {Y : Nat → Prop} {M0 : hM} {ρ : Nat → Nat} {M H : hM} {res : xRes} (h : b139_32  M = some res) (g : rn Y M0 ρ M H)  : wq Y M0 ρ M res (b139_32  H) := by
  unfold b139_32 at h ⊢
  cases h
  exact ⟨_, _, rfl, (vs_a va_i), g, ex.rf⟩
theorem wb139_0 {a0 : Nat} {a0_x : Nat} {Y : Nat → Prop} {M0 : hM} {ρ : Nat → Nat} {M H : hM} {res : xRes} (h : b139_0 a0 M = some res) (g : rn Y M0 ρ M H) (r_a0 : vn ρ M a0 a0_x) : wq Y M0 ρ M res (b139_0 a0_x H) := by
  unfold b139_0 at h ⊢
  obtain ⟨v_1, h1, h⟩ := bd h
  refine wq_bd (w_gi g r_a0.so h1) ?_
  obtain ⟨v_3, h2, h⟩ := bd h
  refine wq_bd (w_gi g r_a0.so h2) ?_
  obtain ⟨M5, h3, h⟩ := bd h
  obtain ⟨_, e, g, x⟩ := w_pi g r_a0.so h3
  refine wq_bd e (wq_up x ?_)
  have r_a0 := r_a0.up x
  obtain ⟨M7, h4, h⟩ := bd h
  obtain ⟨_, e, g, x⟩ := w_pi g r_a0.so h4
  refine wq_bd e (wq_up x ?_)
  have r_a0 := r_a0.up x
  obtain ⟨o_9, h5, h⟩ := bd h
  obtain ⟨o_9_x, e, r_o_9⟩ := w_gr g r_a0.so h5
  refine wq_bd e ?_
  rcases ite_some h with ⟨q, h⟩ | ⟨q, h⟩
  · refine wq_ip (r_o_9.non q) ?_
    exact wb139_32 h g 
  · refine wq_in (r_o_9.nnn q) ?_
    obtain ⟨o_11, h6, h⟩ := bd h
    obtain ⟨o_11_x, e, r_o_11⟩ := w_gr g r_a0.so h6
    refine wq_bd e ?_
    rcases ite_some h with ⟨q, h⟩ | ⟨q, h⟩
    · refine wq_ip (r_o_11.non q) ?_
      exact wb139_32 h g 
    · refine wq_in (r_o_11.nnn q) ?_
      obtain ⟨o_13, h7, h⟩ := bd h
      obtain ⟨o_13_x, e, r_o_13⟩ := w_gr g r_a0.so h7
      refine wq_bd e ?_
      obtain ⟨o_15, h8, h⟩ := bd h
      obtain ⟨o_15_x, e, r_o_15⟩ := w_gr g r_o_13 h8
      refine wq_bd e ?_
      obtain ⟨o_17, h9, h⟩ := bd h
      obtain ⟨o_17_x, e, r_o_17⟩ := w_gr g r_a0.so h9
      refine wq_bd e ?_
      obtain ⟨b_21, h10, h⟩ := bd h
      obtain ⟨b_21_x, e, r_b_21⟩ := w_go g r_o_15 h10
      refine wq_bd e ?_
      obtain ⟨q_19, h11, h⟩ := bd h
      obtain ⟨_, _, e, g, x⟩ := wc_V (f := f38) h11 (fun e => w38 e g (vl_c (va_r r_b_21.so) (vl_c (va_r r_o_17) vl_n)))
      refine wq_bd e (wq_up x ?_)
      have r_a0 := r_a0.up x
      obtain ⟨M23, h12, h⟩ := bd h
      obtain ⟨_, e, g, x⟩ := w_pr g r_a0.so vo_no h12
      refine wq_bd e (wq_up x ?_)
      cases h
      exact ⟨_, _, rfl, (vs_a va_i), g, ex.rf⟩
theorem w139 {Y : Nat → Prop} {M0 : hM} {ρ : Nat → Nat} {as as_x : List aV} {M H M' : hM} {r : Option aV} (h : f139 as M = some (r, M')) (g : rn Y M0 ρ M H) (ha : vl ρ M as as_x) : wr Y M0 ρ M r M' (f139 as_x H) := by
  unfold f139 at h
  split at h
  · rename_i a0
    obtain ⟨a0_x, _, rfl, r_a0, ha1⟩ := vl_is ha
    cases vl_in ha1
    exact wx_out h (fun res hx => wb139_0 hx g r_a0)
  · cases h
theorem wb140_11  {Y : Nat → Prop} {M0 : hM} {ρ : Nat → Nat} {M H : hM} {res : xRes} (h : b140_11  M = some res) (g : rn Y M0 ρ M H)  : wq Y M0 ρ M res (b140_11  H) := by
  unfold b140_11 at h ⊢
  cases h
  exact ⟨_, _, rfl, (vs_a va_i), g, ex.rf⟩
theorem wb140_0 {a0 : Nat} {a0_x : Nat} {v1 : Int32} {Y : Nat → Prop} {M0 : hM} {ρ : Nat → Nat} {M H : hM} {res : xRes} (h : b140_0 a0 v1 M = some res) (g : rn Y M0 ρ M H) (r_a0 : vn ρ M a0 a0_x) : wq Y M0 ρ M res (b140_0 a0_x v1 H) := by
  unfold b140_0 at h ⊢
  rcases ite_some h with ⟨q, h⟩ | ⟨q, h⟩
  · refine wq_ip q ?_
    exact wb140_11 h g 
  · refine wq_in q ?_
    rcases ite_some h with ⟨q, h⟩ | ⟨q, h⟩
    · refine wq_ip q ?_
      cases h
      exact ⟨_, _, rfl, (vs_g (vl_c (va_r r_a0.so) (vl_c va_i (vl_c va_i (vl_c va_i vl_n))))), g, ex.rf⟩
    · refine wq_in q ?_
      exact wb140_11 h g 
theorem wb140_17 {a0 : Nat} {a0_x : Nat} {v1 : Int32} {v2 : Int32} {v3 : Int32} {Y : Nat → Prop} {M0 : hM} {ρ : Nat → Nat} {M H : hM} {res : xRes} (h : b140_17 a0 v1 v2 v3 M = some res) (g : rn Y M0 ρ M H) (r_a0 : vn ρ M a0 a0_x) : wq Y M0 ρ M res (b140_17 a0_x v1 v2 v3 H) := by
  unfold b140_17 at h ⊢
  rcases ite_some h with ⟨q, h⟩ | ⟨q, h⟩
  · refine wq_ip q ?_
    cases h
    exact ⟨_, _, rfl, (vs_a va_i), g, ex.rf⟩
  · refine wq_in q ?_
    obtain ⟨o_3, h1, h⟩ := bd h
    obtain ⟨o_3_x, e, r_o_3⟩ := w_gr g r_a0.so h1
    refine wq_bd e ?_
    obtain ⟨v_5, h2, h⟩ := bd h
    refine wq_bd (w_gi g r_o_3 h2) ?_
    obtain ⟨M7, h3, h⟩ := bd h
    obtain ⟨_, e, g, x⟩ := w_pi g r_o_3 h3
    refine wq_bd e (wq_up x ?_)
    have r_a0 := r_a0.up x
    cases h
    exact ⟨_, _, rfl, (vs_g (vl_c (va_r r_a0.so) (vl_c va_i (vl_c va_i (vl_c va_i (vl_c va_i vl_n)))))), g, ex.rf⟩
theorem wb140_38 {a0 : Nat} {a0_x : Nat} {v1 : Int32} {v2 : Int32} {v3 : Int32} {v4 : Int32} {Y : Nat → Prop} {M0 : hM} {ρ : Nat → Nat} {M H : hM} {res : xRes} (h : b140_38 a0 v1 v2 v3 v4 M = some res) (g : rn Y M0 ρ M H) (r_a0 : vn ρ M a0 a0_x) : wq Y M0 ρ M res (b140_38 a0_x v1 v2 v3 v4 H) := by
  unfold b140_38 at h ⊢
  obtain ⟨v_10, h1, h⟩ := bd h
  refine wq_bd (w_gi g r_a0.so h1) ?_
  rcases ite_some h with ⟨q, h⟩ | ⟨q, h⟩
  · refine wq_ip q ?_
    cases h
    exact ⟨_, _, rfl, (vs_g (vl_c (va_r r_a0.so) (vl_c va_i (vl_c va_i (vl_c va_i (vl_c va_i vl_n)))))), g, ex.rf⟩
  · refine wq_in q ?_
    obtain ⟨o_12, h2, h⟩ := bd h
    obtain ⟨o_12_x, e, r_o_12⟩ := w_gr g r_a0.so h2
    refine wq_bd e ?_
    obtain ⟨o_14, h3, h⟩ := bd h
    obtain ⟨o_14_x, e, r_o_14⟩ := w_alr g r_o_12 h3
    refine wq_bd e ?_
    obtain ⟨b_18, h4, h⟩ := bd h
    obtain ⟨b_18_x, e, r_b_18⟩ := w_go g r_o_14 h4
    refine wq_bd e ?_
    obtain ⟨q_16, h5, h⟩ := bd h
    obtain ⟨_, _, e, g, x⟩ := wc_I (f := f139) h5 (fun e => w139 e g (vl_c (va_r r_b_18.so) vl_n))
    refine wq_bd e (wq_up x ?_)
    have r_a0 := r_a0.up x
    obtain ⟨o_20, h6, h⟩ := bd h
    obtain ⟨o_20_x, e, r_o_20⟩ := w_gr g r_a0.so h6
    refine wq_bd e ?_
    obtain ⟨o_22, h7, h⟩ := bd h
    obtain ⟨o_22_x, e, r_o_22⟩ := w_alr g r_o_20 h7
    refine wq_bd e ?_
    obtain ⟨b_26, h8, h⟩ := bd h
    obtain ⟨b_26_x, e, r_b_26⟩ := w_go g r_o_22 h8
    refine wq_bd e ?_
    obtain ⟨q_24, h9, h⟩ := bd h
    obtain ⟨_, _, e, g, x⟩ := wc_I (f := f139) h9 (fun e => w139 e g (vl_c (va_r r_b_26.so) vl_n))
    refine wq_bd e (wq_up x ?_)
    have r_a0 := r_a0.up x
    cases h
    exact ⟨_, _, rfl, (vs_g (vl_c (va_r r_a0.so) (vl_c va_i (vl_c va_i (vl_c va_i (vl_c va_i vl_n)))))), g, ex.rf⟩
theorem wb140_80 {a0 : Nat} {a0_x : Nat} {v1 : Int32} {v2 : Int32} {v3 : Int32} {v4 : Int32} {Y : Nat → Prop} {M0 : hM} {ρ : Nat → Nat} {M H : hM} {res : xRes} (h : b140_80 a0 v1 v2 v3 v4 M = some res) (g : rn Y M0 ρ M H) (r_a0 : vn ρ M a0 a0_x) : wq Y M0 ρ M res (b140_80 a0_x v1 v2 v3 v4 H) := by
  unfold b140_80 at h ⊢
  obtain ⟨o_29, h1, h⟩ := bd h
  obtain ⟨o_29_x, e, r_o_29⟩ := w_gr g r_a0.so h1
  refine wq_bd e ?_
  obtain ⟨v_31, h2, h⟩ := bd h
  refine wq_bd (w_aln g r_o_29 h2) ?_
  rcases ite_some h with ⟨q, h⟩ | ⟨q, h⟩
  · refine wq_ip q ?_
    cases h
    exact ⟨_, _, rfl, (vs_g (vl_c (va_r r_a0.so) (vl_c va_i (vl_c va_i (vl_c va_i (vl_c va_i vl_n)))))), g, ex.rf⟩
  · refine wq_in q ?_
    obtain ⟨o_33, h3, h⟩ := bd h
    obtain ⟨o_33_x, e, r_o_33⟩ := w_gr g r_a0.so h3
    refine wq_bd e ?_
    obtain ⟨o_35, h4, h⟩ := bd h
    obtain ⟨o_35_x, e, r_o_35⟩ := w_alr g r_o_33 h4
    refine wq_bd e ?_
    obtain ⟨b_39, h5, h⟩ := bd h
    obtain ⟨b_39_x, e, r_b_39⟩ := w_go g r_o_35 h5
    refine wq_bd e ?_
    obtain ⟨q_37, h6, h⟩ := bd h
    obtain ⟨_, _, e, g, x⟩ := wc_V (f := f138) h6 (fun e => w138 e g (vl_c (va_r r_b_39.so) vl_n))
    refine wq_bd e (wq_up x ?_)
    have r_a0 := r_a0.up x
    cases h
    exact ⟨_, _, rfl, (vs_g (vl_c (va_r r_a0.so) (vl_c va_i (vl_c va_i (vl_c va_i (vl_c va_i vl_n)))))), g, ex.rf⟩
theorem wb140_109 {a0 : Nat} {a0_x : Nat} {v1 : Int32} {v2 : Int32} {v3 : Int32} {v4 : Int32} {Y : Nat → Prop} {M0 : hM} {ρ : Nat → Nat} {M H : hM} {res : xRes} (h : b140_109 a0 v1 v2 v3 v4 M = some res) (g : rn Y M0 ρ M H) (r_a0 : vn ρ M a0 a0_x) : wq Y M0 ρ M res (b140_109 a0_x v1 v2 v3 v4 H) := by
  unfold b140_109 at h ⊢
  obtain ⟨o_42, h1, h⟩ := bd h
  obtain ⟨o_42_x, e, r_o_42⟩ := w_gr g r_a0.so h1
  refine wq_bd e ?_
  obtain ⟨v_44, h2, h⟩ := bd h
  refine wq_bd (w_aln g r_o_42 h2) ?_
  rcases ite_some h with ⟨q, h⟩ | ⟨q, h⟩
  · refine wq_ip q ?_
    cases h
    exact ⟨_, _, rfl, (vs_g (vl_c (va_r r_a0.so) (vl_c va_i (vl_c va_i (vl_c va_i vl_n))))), g, ex.rf⟩
  · refine wq_in q ?_
    obtain ⟨o_46, h3, h⟩ := bd h
    obtain ⟨o_46_x, e, r_o_46⟩ := w_gr g r_a0.so h3
    refine wq_bd e ?_
    obtain ⟨o_48, h4, h⟩ := bd h
    obtain ⟨o_48_x, e, r_o_48⟩ := w_alr g r_o_46 h4
    refine wq_bd e ?_
    obtain ⟨b_52, h5, h⟩ := bd h
    obtain ⟨b_52_x, e, r_b_52⟩ := w_go g r_o_48 h5
    refine wq_bd e ?_
    obtain ⟨q_50, h6, h⟩ := bd h
    obtain ⟨_, _, e, g, x⟩ := wc_V (f := f94) h6 (fun e => w94 e g (vl_c (va_r r_b_52.so) vl_n))
    refine wq_bd e (wq_up x ?_)
    have r_a0 := r_a0.up x
    cases h
    exact ⟨_, _, rfl, (vs_g (vl_c (va_r r_a0.so) (vl_c va_i (vl_c va_i (vl_c va_i (vl_c va_i vl_n)))))), g, ex.rf⟩
theorem w140 {Y : Nat → Prop} {M0 : hM} {ρ : Nat → Nat} {as as_x : List aV} {M H M' : hM} {r : Option aV} (h : f140 as M = some (r, M')) (g : rn Y M0 ρ M H) (ha : vl ρ M as as_x) : wr Y M0 ρ M r M' (f140 as_x H) := by
  unfold f140 at h
  split at h
  · rename_i a0 v1
    obtain ⟨a0_x, _, rfl, r_a0, ha1⟩ := vl_is ha
    obtain ⟨_, rfl, ha2⟩ := vl_ii ha1
    cases vl_in ha2
    show wr Y M0 ρ M r M' (x_go k140 (b140_0 a0_x v1 H))
    refine wx_go (blk := k140) ?_ h (fun res hx => wb140_0 hx g r_a0)
    intro ρ h as as_x M H res hk g ha
    unfold k140 at hk
    split at hk
    · rename_i hh
      subst hh
      split at hk
      · rename_i a0 v1 v2 v3
        obtain ⟨a0_x, _, rfl, r_a0, ha1⟩ := vl_is ha
        obtain ⟨_, rfl, ha2⟩ := vl_ii ha1
        obtain ⟨_, rfl, ha3⟩ := vl_ii ha2
        obtain ⟨_, rfl, ha4⟩ := vl_ii ha3
        cases vl_in ha4
        exact wb140_17 hk g r_a0
      · cases hk
    · skip
      split at hk
      · rename_i hh
        subst hh
        split at hk
        · rename_i a0 v1 v2 v3 v4
          obtain ⟨a0_x, _, rfl, r_a0, ha1⟩ := vl_is ha
          obtain ⟨_, rfl, ha2⟩ := vl_ii ha1
          obtain ⟨_, rfl, ha3⟩ := vl_ii ha2
          obtain ⟨_, rfl, ha4⟩ := vl_ii ha3
          obtain ⟨_, rfl, ha5⟩ := vl_ii ha4
          cases vl_in ha5
          exact wb140_38 hk g r_a0
        · cases hk
      · skip
        split at hk
        · rename_i hh
          subst hh
          split at hk
          · rename_i a0 v1 v2 v3 v4
            obtain ⟨a0_x, _, rfl, r_a0, ha1⟩ := vl_is ha
            obtain ⟨_, rfl, ha2⟩ := vl_ii ha1
            obtain ⟨_, rfl, ha3⟩ := vl_ii ha2
            obtain ⟨_, rfl, ha4⟩ := vl_ii ha3
            obtain ⟨_, rfl, ha5⟩ := vl_ii ha4
            cases vl_in ha5
            exact wb140_80 hk g r_a0
          · cases hk
        · skip
          split at hk
          · rename_i hh
            subst hh
            split at hk
            · rename_i a0 v1 v2 v3 v4
              obtain ⟨a0_x, _, rfl, r_a0, ha1⟩ := vl_is ha
              obtain ⟨_, rfl, ha2⟩ := vl_ii ha1
              obtain ⟨_, rfl, ha3⟩ := vl_ii ha2
              obtain ⟨_, rfl, ha4⟩ := vl_ii ha3
              obtain ⟨_, rfl, ha5⟩ := vl_ii ha4
              cases vl_in ha5
              exact wb140_109 hk g r_a0
            · cases hk
          · skip
            cases hk
  · cases h
theorem wb141_28 {si0 : Int32} {Y : Nat → Prop} {M0 : hM} {ρ : Nat → Nat} {M H : hM} {res : xRes} (h : b141_28 si0 M = some res) (g : rn Y M0 ρ M H)  : wq Y M0 ρ M res (b141_28 si0 H) := by
  unfold b141_28 at h ⊢
  rcases ite_some h with ⟨q, h⟩ | ⟨q, h⟩
  · refine wq_ip q ?_
    cases h
    exact ⟨_, _, rfl, (vs_a va_i), g, ex.rf⟩
  · refine wq_in q ?_
    cases h
theorem wb141_27  {Y : Nat → Prop} {M0 : hM} {ρ : Nat → Nat} {M H : hM} {res : xRes} (h : b141_27  M = some res) (g : rn Y M0 ρ M H)  : wq Y M0 ρ M res (b141_27  H) := by
  unfold b141_27 at h ⊢
  exact wb141_28 h g 
theorem wb141_0 {a0 : Nat} {a0_x : Nat} {v1 : Int32} {Y : Nat → Prop} {M0 : hM} {ρ : Nat → Nat} {M H : hM} {res : xRes} (h : b141_0 a0 v1 M = some res) (g : rn Y M0 ρ M H) (r_a0 : vn ρ M a0 a0_x) : wq Y M0 ρ M res (b141_0 a0_x v1 H) := by
  unfold b141_0 at h ⊢
  obtain ⟨o_1, h1, h⟩ := bd h
  obtain ⟨o_1_x, e, r_o_1⟩ := w_gr g r_a0.so h1
  refine wq_bd e ?_
  obtain ⟨b_5, h2, h⟩ := bd h
  obtain ⟨b_5_x, e, r_b_5⟩ := w_go g r_o_1 h2
  refine wq_bd e ?_
  obtain ⟨q_3, h3, h⟩ := bd h
  obtain ⟨_, _, e, g, x⟩ := wc_I (f := f8) h3 (fun e => w8 e g (vl_c (va_r r_b_5.so) (vl_c va_i vl_n)))
  refine wq_bd e (wq_up x ?_)
  have r_a0 := r_a0.up x
  rcases ite_some h with ⟨q, h⟩ | ⟨q, h⟩
  · refine wq_ip q ?_
    exact wb141_27 h g 
  · refine wq_in q ?_
    obtain ⟨o_7, h4, h⟩ := bd h
    obtain ⟨o_7_x, e, r_o_7⟩ := w_gr g r_a0.so h4
    refine wq_bd e ?_
    obtain ⟨o_9, h5, h⟩ := bd h
    obtain ⟨o_9_x, e, r_o_9⟩ := w_alr g r_o_7 h5
    refine wq_bd e ?_
    obtain ⟨o_11, h6, h⟩ := bd h
    obtain ⟨o_11_x, e, r_o_11⟩ := w_gr g r_o_9 h6
    refine wq_bd e ?_
    rcases ite_some h with ⟨q, h⟩ | ⟨q, h⟩
    · refine wq_ip (r_o_11.non q) ?_
      exact wb141_27 h g 
    · refine wq_in (r_o_11.nnn q) ?_
      exact wb141_28 h g 
theorem w141 {Y : Nat → Prop} {M0 : hM} {ρ : Nat → Nat} {as as_x : List aV} {M H M' : hM} {r : Option aV} (h : f141 as M = some (r, M')) (g : rn Y M0 ρ M H) (ha : vl ρ M as as_x) : wr Y M0 ρ M r M' (f141 as_x H) := by
  unfold f141 at h
  split at h
  · rename_i a0 v1
    obtain ⟨a0_x, _, rfl, r_a0, ha1⟩ := vl_is ha
    obtain ⟨_, rfl, ha2⟩ := vl_ii ha1
    cases vl_in ha2
    exact wx_out h (fun res hx => wb141_0 hx g r_a0)
  · cases h
theorem wb142_28 {si0 : Int32} {Y : Nat → Prop} {M0 : hM} {ρ : Nat → Nat} {M H : hM} {res : xRes} (h : b142_28 si0 M = some res) (g : rn Y M0 ρ M H)  : wq Y M0 ρ M res (b142_28 si0 H) := by
  unfold b142_28 at h ⊢
  rcases ite_some h with ⟨q, h⟩ | ⟨q, h⟩
  · refine wq_ip q ?_
    cases h
    exact ⟨_, _, rfl, (vs_a va_i), g, ex.rf⟩
  · refine wq_in q ?_
    cases h
theorem wb142_27  {Y : Nat → Prop} {M0 : hM} {ρ : Nat → Nat} {M H : hM} {res : xRes} (h : b142_27  M = some res) (g : rn Y M0 ρ M H)  : wq Y M0 ρ M res (b142_27  H) := by
  unfold b142_27 at h ⊢
  exact wb142_28 h g 
theorem wb142_0 {a0 : Nat} {a0_x : Nat} {v1 : Int32} {Y : Nat → Prop} {M0 : hM} {ρ : Nat → Nat} {M H : hM} {res : xRes} (h : b142_0 a0 v1 M = some res) (g : rn Y M0 ρ M H) (r_a0 : vn ρ M a0 a0_x) : wq Y M0 ρ M res (b142_0 a0_x v1 H) := by
  unfold b142_0 at h ⊢
  obtain ⟨o_1, h1, h⟩ := bd h
  obtain ⟨o_1_x, e, r_o_1⟩ := w_gr g r_a0.so h1
  refine wq_bd e ?_
  obtain ⟨b_5, h2, h⟩ := bd h
  obtain ⟨b_5_x, e, r_b_5⟩ := w_go g r_o_1 h2
  refine wq_bd e ?_
  obtain ⟨q_3, h3, h⟩ := bd h
  obtain ⟨_, _, e, g, x⟩ := wc_I (f := f8) h3 (fun e => w8 e g (vl_c (va_r r_b_5.so) (vl_c va_i vl_n)))
  refine wq_bd e (wq_up x ?_)
  have r_a0 := r_a0.up x
  rcases ite_some h with ⟨q, h⟩ | ⟨q, h⟩
  · refine wq_ip q ?_
    exact wb142_27 h g 
  · refine wq_in q ?_
    obtain ⟨o_7, h4, h⟩ := bd h
    obtain ⟨o_7_x, e, r_o_7⟩ := w_gr g r_a0.so h4
    refine wq_bd e ?_
    obtain ⟨o_9, h5, h⟩ := bd h
    obtain ⟨o_9_x, e, r_o_9⟩ := w_alr g r_o_7 h5
    refine wq_bd e ?_
    obtain ⟨o_11, h6, h⟩ := bd h
    obtain ⟨o_11_x, e, r_o_11⟩ := w_gr g r_o_9 h6
    refine wq_bd e ?_
    rcases ite_some h with ⟨q, h⟩ | ⟨q, h⟩
    · refine wq_ip (r_o_11.non q) ?_
      exact wb142_27 h g 
    · refine wq_in (r_o_11.nnn q) ?_
      exact wb142_28 h g 
theorem w142 {Y : Nat → Prop} {M0 : hM} {ρ : Nat → Nat} {as as_x : List aV} {M H M' : hM} {r : Option aV} (h : f142 as M = some (r, M')) (g : rn Y M0 ρ M H) (ha : vl ρ M as as_x) : wr Y M0 ρ M r M' (f142 as_x H) := by
  unfold f142 at h
  split at h
  · rename_i a0 v1
    obtain ⟨a0_x, _, rfl, r_a0, ha1⟩ := vl_is ha
    obtain ⟨_, rfl, ha2⟩ := vl_ii ha1
    cases vl_in ha2
    exact wx_out h (fun res hx => wb142_0 hx g r_a0)
  · cases h
theorem wb143_0 {a0 : Nat} {a0_x : Nat} {Y : Nat → Prop} {M0 : hM} {ρ : Nat → Nat} {M H : hM} {res : xRes} (h : b143_0 a0 M = some res) (g : rn Y M0 ρ M H) (r_a0 : vn ρ M a0 a0_x) : wq Y M0 ρ M res (b143_0 a0_x H) := by
  unfold b143_0 at h ⊢
  cases h
  exact ⟨_, _, rfl, (vs_g (vl_c (va_r r_a0.so) (vl_c va_i (vl_c va_i vl_n)))), g, ex.rf⟩
theorem wb143_39 {a0 : Nat} {a0_x : Nat} {v1 : Int32} {v2 : Int32} {Y : Nat → Prop} {M0 : hM} {ρ : Nat → Nat} {M H : hM} {res : xRes} (h : b143_39 a0 v1 v2 M = some res) (g : rn Y M0 ρ M H) (r_a0 : vn ρ M a0 a0_x) : wq Y M0 ρ M res (b143_39 a0_x v1 v2 H) := by
  unfold b143_39 at h ⊢
  cases h
  exact ⟨_, _, rfl, (vs_g (vl_c (va_r r_a0.so) (vl_c va_i (vl_c va_i vl_n)))), g, ex.rf⟩
theorem wb143_63 {si0 : Int32} {Y : Nat → Prop} {M0 : hM} {ρ : Nat → Nat} {M H : hM} {res : xRes} (h : b143_63 si0 M = some res) (g : rn Y M0 ρ M H)  : wq Y M0 ρ M res (b143_63 si0 H) := by
  unfold b143_63 at h ⊢
  rcases ite_some h with ⟨q, h⟩ | ⟨q, h⟩
  · refine wq_ip q ?_
    cases h
    exact ⟨_, _, rfl, (vs_a va_i), g, ex.rf⟩
  · refine wq_in q ?_
    cases h
theorem wb143_4 {a0 : Nat} {a0_x : Nat} {v1 : Int32} {v2 : Int32} {Y : Nat → Prop} {M0 : hM} {ρ : Nat → Nat} {M H : hM} {res : xRes} (h : b143_4 a0 v1 v2 M = some res) (g : rn Y M0 ρ M H) (r_a0 : vn ρ M a0 a0_x) : wq Y M0 ρ M res (b143_4 a0_x v1 v2 H) := by
  unfold b143_4 at h ⊢
  obtain ⟨v_1, h1, h⟩ := bd h
  refine wq_bd (w_gi g r_a0.so h1) ?_
  rcases ite_some h with ⟨q, h⟩ | ⟨q, h⟩
  · refine wq_ip q ?_
    obtain ⟨M3, h2, h⟩ := bd h
    obtain ⟨_, e, g, x⟩ := w_pi g r_a0.so h2
    refine wq_bd e (wq_up x ?_)
    have r_a0 := r_a0.up x
    obtain ⟨v_5, h3, h⟩ := bd h
    refine wq_bd (w_gi g r_a0.so h3) ?_
    rcases ite_some h with ⟨q, h⟩ | ⟨q, h⟩
    · refine wq_ip q ?_
      exact wb143_63 h g 
    · refine wq_in q ?_
      exact wb143_63 h g 
  · refine wq_in q ?_
    obtain ⟨o_8, h4, h⟩ := bd h
    obtain ⟨o_8_x, e, r_o_8⟩ := w_gr g r_a0.so h4
    refine wq_bd e ?_
    obtain ⟨o_10, h5, h⟩ := bd h
    obtain ⟨o_10_x, e, r_o_10⟩ := w_alr g r_o_8 h5
    refine wq_bd e ?_
    obtain ⟨b_14, h6, h⟩ := bd h
    obtain ⟨b_14_x, e, r_b_14⟩ := w_go g r_o_10 h6
    refine wq_bd e ?_
    obtain ⟨q_12, h7, h⟩ := bd h
    obtain ⟨_, _, e, g, x⟩ := wc_I (f := f47) h7 (fun e => w47 e g (vl_c (va_r r_b_14.so) vl_n))
    refine wq_bd e (wq_up x ?_)
    have r_a0 := r_a0.up x
    rcases ite_some h with ⟨q, h⟩ | ⟨q, h⟩
    · refine wq_ip q ?_
      obtain ⟨o_16, h8, h⟩ := bd h
      obtain ⟨o_16_x, e, r_o_16⟩ := w_gr g r_a0.so h8
      refine wq_bd e ?_
      obtain ⟨o_18, h9, h⟩ := bd h
      obtain ⟨o_18_x, e, r_o_18⟩ := w_gr g r_a0.so h9
      refine wq_bd e ?_
      obtain ⟨o_20, h10, h⟩ := bd h
      obtain ⟨o_20_x, e, r_o_20⟩ := w_alr g r_o_18 h10
      refine wq_bd e ?_
      obtain ⟨M22, h11, h⟩ := bd h
      obtain ⟨_, e, g, x⟩ := w_asr g r_o_16 r_o_20 h11
      refine wq_bd e (wq_up x ?_)
      have r_a0 := r_a0.up x
      exact wb143_39 h g r_a0
    · refine wq_in q ?_
      exact wb143_39 h g r_a0
theorem w143 {Y : Nat → Prop} {M0 : hM} {ρ : Nat → Nat} {as as_x : List aV} {M H M' : hM} {r : Option aV} (h : f143 as M = some (r, M')) (g : rn Y M0 ρ M H) (ha : vl ρ M as as_x) : wr Y M0 ρ M r M' (f143 as_x H) := by
  unfold f143 at h
  split at h
  · rename_i a0
    obtain ⟨a0_x, _, rfl, r_a0, ha1⟩ := vl_is ha
    cases vl_in ha1
    show wr Y M0 ρ M r M' (x_go k143 (b143_0 a0_x H))
    refine wx_go (blk := k143) ?_ h (fun res hx => wb143_0 hx g r_a0)
    intro ρ h as as_x M H res hk g ha
    unfold k143 at hk
    split at hk
    · rename_i hh
      subst hh
      split at hk
      · rename_i a0 v1 v2
        obtain ⟨a0_x, _, rfl, r_a0, ha1⟩ := vl_is ha
        obtain ⟨_, rfl, ha2⟩ := vl_ii ha1
        obtain ⟨_, rfl, ha3⟩ := vl_ii ha2
        cases vl_in ha3
        exact wb143_4 hk g r_a0
      · cases hk
    · skip
      cases hk
  · cases h
theorem wb144_82 {si0 : Int32} {Y : Nat → Prop} {M0 : hM} {ρ : Nat → Nat} {M H : hM} {res : xRes} (h : b144_82 si0 M = some res) (g : rn Y M0 ρ M H)  : wq Y M0 ρ M res (b144_82 si0 H) := by
  unfold b144_82 at h ⊢
  rcases ite_some h with ⟨q, h⟩ | ⟨q, h⟩
  · refine wq_ip q ?_
    cases h
    exact ⟨_, _, rfl, (vs_a va_i), g, ex.rf⟩
  · refine wq_in q ?_
    cases h
theorem wb144_81  {Y : Nat → Prop} {M0 : hM} {ρ : Nat → Nat} {M H : hM} {res : xRes} (h : b144_81  M = some res) (g : rn Y M0 ρ M H)  : wq Y M0 ρ M res (b144_81  H) := by
  unfold b144_81 at h ⊢
  exact wb144_82 h g 
theorem wb144_0 {a0 : Nat} {a0_x : Nat} {v1 : Int32} {v2 : Int32} {v3 : Int32} {v4 : Int32} {v5 : Int32} {Y : Nat → Prop} {M0 : hM} {ρ : Nat → Nat} {M H : hM} {res : xRes} (h : b144_0 a0 v1 v2 v3 v4 v5 M = some res) (g : rn Y M0 ρ M H) (r_a0 : vn ρ M a0 a0_x) : wq Y M0 ρ M res (b144_0 a0_x v1 v2 v3 v4 v5 H) := by
  unfold b144_0 at h ⊢
  obtain ⟨b_3, h1, h⟩ := bd h
  obtain ⟨b_3_x, e, r_b_3⟩ := w_go g r_a0.so h1
  refine wq_bd e ?_
  obtain ⟨q_1, h2, h⟩ := bd h
  obtain ⟨_, _, e, g, x⟩ := wc_I (f := f141) h2 (fun e => w141 e g (vl_c (va_r r_b_3.so) (vl_c va_i vl_n)))
  refine wq_bd e (wq_up x ?_)
  have r_a0 := r_a0.up x
  rcases ite_some h with ⟨q, h⟩ | ⟨q, h⟩
  · refine wq_ip q ?_
    exact wb144_81 h g 
  · refine wq_in q ?_
    obtain ⟨b_7, h3, h⟩ := bd h
    obtain ⟨b_7_x, e, r_b_7⟩ := w_go g r_a0.so h3
    refine wq_bd e ?_
    obtain ⟨q_5, h4, h⟩ := bd h
    obtain ⟨_, _, e, g, x⟩ := wc_I (f := f142) h4 (fun e => w142 e g (vl_c (va_r r_b_7.so) (vl_c va_i vl_n)))
    refine wq_bd e (wq_up x ?_)
    have r_a0 := r_a0.up x
    rcases ite_some h with ⟨q, h⟩ | ⟨q, h⟩
    · refine wq_ip q ?_
      exact wb144_81 h g 
    · refine wq_in q ?_
      rcases ite_some h with ⟨q, h⟩ | ⟨q, h⟩
      · refine wq_ip q ?_
        exact wb144_81 h g 
      · refine wq_in q ?_
        rcases ite_some h with ⟨q, h⟩ | ⟨q, h⟩
        · refine wq_ip q ?_
          exact wb144_81 h g 
        · refine wq_in q ?_
          rcases ite_some h with ⟨q, h⟩ | ⟨q, h⟩
          · refine wq_ip q ?_
            exact wb144_81 h g 
          · refine wq_in q ?_
            rcases ite_some h with ⟨q, h⟩ | ⟨q, h⟩
            · refine wq_ip q ?_
              exact wb144_81 h g 
            · refine wq_in q ?_
              rcases ite_some h with ⟨q, h⟩ | ⟨q, h⟩
              · refine wq_ip q ?_
                exact wb144_81 h g 
              · refine wq_in q ?_
                rcases ite_some h with ⟨q, h⟩ | ⟨q, h⟩
                · refine wq_ip q ?_
                  exact wb144_81 h g 
                · refine wq_in q ?_
                  obtain ⟨v_9, h5, h⟩ := bd h
                  refine wq_bd (w_gi g r_a0.so h5) ?_
                  rcases ite_some h with ⟨q, h⟩ | ⟨q, h⟩
                  · refine wq_ip q ?_
                    exact wb144_81 h g 
                  · refine wq_in q ?_
                    obtain ⟨o_11, h6, h⟩ := bd h
                    obtain ⟨o_11_x, e, r_o_11⟩ := w_gr g r_a0.so h6
                    refine wq_bd e ?_
                    obtain ⟨o_13, h7, h⟩ := bd h
                    obtain ⟨o_13_x, e, r_o_13⟩ := w_alr g r_o_11 h7
                    refine wq_bd e ?_
                    obtain ⟨o_15, h8, h⟩ := bd h
                    obtain ⟨o_15_x, e, r_o_15⟩ := w_gr g r_o_13 h8
                    refine wq_bd e ?_
                    obtain ⟨b_19, h9, h⟩ := bd h
                    obtain ⟨b_19_x, e, r_b_19⟩ := w_go g r_o_15 h9
                    refine wq_bd e ?_
                    obtain ⟨q_17, h10, h⟩ := bd h
                    obtain ⟨_, _, e, g, x⟩ := wc_I (f := f143) h10 (fun e => w143 e g (vl_c (va_r r_b_19.so) vl_n))
                    refine wq_bd e (wq_up x ?_)
                    rcases ite_some h with ⟨q, h⟩ | ⟨q, h⟩
                    · refine wq_ip q ?_
                      exact wb144_81 h g 
                    · refine wq_in q ?_
                      exact wb144_82 h g 
theorem w144 {Y : Nat → Prop} {M0 : hM} {ρ : Nat → Nat} {as as_x : List aV} {M H M' : hM} {r : Option aV} (h : f144 as M = some (r, M')) (g : rn Y M0 ρ M H) (ha : vl ρ M as as_x) : wr Y M0 ρ M r M' (f144 as_x H) := by
  unfold f144 at h
  split at h
  · rename_i a0 v1 v2 v3 v4 v5
    obtain ⟨a0_x, _, rfl, r_a0, ha1⟩ := vl_is ha
    obtain ⟨_, rfl, ha2⟩ := vl_ii ha1
    obtain ⟨_, rfl, ha3⟩ := vl_ii ha2
    obtain ⟨_, rfl, ha4⟩ := vl_ii ha3
    obtain ⟨_, rfl, ha5⟩ := vl_ii ha4
    obtain ⟨_, rfl, ha6⟩ := vl_ii ha5
    cases vl_in ha6
    exact wx_out h (fun res hx => wb144_0 hx g r_a0)
  · cases h
theorem wb145_0 {a0 : Nat} {a0_x : Nat} {v1 : Int32} {v2 : Int32} {v3 : Int32} {v4 : Int32} {w5 : Int64} {Y : Nat → Prop} {M0 : hM} {ρ : Nat → Nat} {M H : hM} {res : xRes} (h : b145_0 a0 v1 v2 v3 v4 w5 M = some res) (g : rn Y M0 ρ M H) (r_a0 : vn ρ M a0 a0_x) : wq Y M0 ρ M res (b145_0 a0_x v1 v2 v3 v4 w5 H) := by
  unfold b145_0 at h ⊢
  obtain ⟨M1, h1, h⟩ := bd h
  obtain ⟨_, _, e, g, x, r_z⟩ := w_na g (by decide) h1
  refine wq_bd e (wq_up x ?_)
  have r_a0 := r_a0.up x
  have r_h_sz_M := r_z
  obtain ⟨M3, h2, h⟩ := bd h
  obtain ⟨_, e, g, x⟩ := w_pr g r_a0.so r_h_sz_M.so h2
  refine wq_bd e (wq_up x ?_)
  have r_a0 := r_a0.up x
  obtain ⟨M5, h3, h⟩ := bd h
  obtain ⟨_, e, g, x⟩ := w_pi g r_a0.so h3
  refine wq_bd e (wq_up x ?_)
  have r_a0 := r_a0.up x
  obtain ⟨M7, h4, h⟩ := bd h
  obtain ⟨_, e, g, x⟩ := w_pz g r_a0.so h4
  refine wq_bd e (wq_up x ?_)
  have r_a0 := r_a0.up x
  obtain ⟨M9, h5, h⟩ := bd h
  obtain ⟨_, e, g, x⟩ := w_pi g r_a0.so h5
  refine wq_bd e (wq_up x ?_)
  have r_a0 := r_a0.up x
  obtain ⟨M11, h6, h⟩ := bd h
  obtain ⟨_, e, g, x⟩ := w_pi g r_a0.so h6
  refine wq_bd e (wq_up x ?_)
  have r_a0 := r_a0.up x
  obtain ⟨M13, h7, h⟩ := bd h
  obtain ⟨_, e, g, x⟩ := w_pi g r_a0.so h7
  refine wq_bd e (wq_up x ?_)
  have r_a0 := r_a0.up x
  obtain ⟨M15, h8, h⟩ := bd h
  obtain ⟨_, e, g, x⟩ := w_pl g r_a0.so h8
  refine wq_bd e (wq_up x ?_)
  cases h
  exact ⟨_, _, rfl, vs_n, g, ex.rf⟩
theorem w145 {Y : Nat → Prop} {M0 : hM} {ρ : Nat → Nat} {as as_x : List aV} {M H M' : hM} {r : Option aV} (h : f145 as M = some (r, M')) (g : rn Y M0 ρ M H) (ha : vl ρ M as as_x) : wr Y M0 ρ M r M' (f145 as_x H) := by
  unfold f145 at h
  split at h
  · rename_i a0 v1 v2 v3 v4 w5
    obtain ⟨a0_x, _, rfl, r_a0, ha1⟩ := vl_is ha
    obtain ⟨_, rfl, ha2⟩ := vl_ii ha1
    obtain ⟨_, rfl, ha3⟩ := vl_ii ha2
    obtain ⟨_, rfl, ha4⟩ := vl_ii ha3
    obtain ⟨_, rfl, ha5⟩ := vl_ii ha4
    obtain ⟨_, rfl, ha6⟩ := vl_il ha5
    cases vl_in ha6
    exact wx_out h (fun res hx => wb145_0 hx g r_a0)
  · cases h
theorem wb146_50  {Y : Nat → Prop} {M0 : hM} {ρ : Nat → Nat} {M H : hM} {res : xRes} (h : b146_50  M = some res) (g : rn Y M0 ρ M H)  : wq Y M0 ρ M res (b146_50  H) := by
  unfold b146_50 at h ⊢
  cases h
  exact ⟨_, _, rfl, vs_n, g, ex.rf⟩
theorem wb146_0 {a0 : Nat} {a0_x : Nat} {o1 : Option Nat} {o1_x : Option Nat} {Y : Nat → Prop} {M0 : hM} {ρ : Nat → Nat} {M H : hM} {res : xRes} (h : b146_0 a0 o1 M = some res) (g : rn Y M0 ρ M H) (r_a0 : vn ρ M a0 a0_x) (r_o1 : vo ρ M o1 o1_x) : wq Y M0 ρ M res (b146_0 a0_x o1_x H) := by
  unfold b146_0 at h ⊢
  obtain ⟨v_1, h1, h⟩ := bd h
  refine wq_bd (w_gi g r_a0.so h1) ?_
  rcases ite_some h with ⟨q, h⟩ | ⟨q, h⟩
  · refine wq_ip q ?_
    exact wb146_50 h g 
  · refine wq_in q ?_
    obtain ⟨M3, h2, h⟩ := bd h
    obtain ⟨_, e, g, x⟩ := w_pz g r_a0.so h2
    refine wq_bd e (wq_up x ?_)
    have r_o1 := r_o1.up x
    have r_a0 := r_a0.up x
    obtain ⟨o_5, h3, h⟩ := bd h
    obtain ⟨o_5_x, e, r_o_5⟩ := w_gr g r_a0.so h3
    refine wq_bd e ?_
    obtain ⟨v_7, h4, h⟩ := bd h
    refine wq_bd (w_gi g r_a0.so h4) ?_
    obtain ⟨M9, h5, h⟩ := bd h
    obtain ⟨_, e, g, x⟩ := w_asr g r_o_5 r_o1 h5
    refine wq_bd e (wq_up x ?_)
    have r_o1 := r_o1.up x
    have r_a0 := r_a0.up x
    obtain ⟨v_11, h6, h⟩ := bd h
    refine wq_bd (w_gi g r_a0.so h6) ?_
    obtain ⟨M13, h7, h⟩ := bd h
    obtain ⟨_, e, g, x⟩ := w_pi g r_a0.so h7
    refine wq_bd e (wq_up x ?_)
    have r_o1 := r_o1.up x
    have r_a0 := r_a0.up x
    obtain ⟨o_15, h8, h⟩ := bd h
    obtain ⟨o_15_x, e, r_o_15⟩ := w_gr g r_a0.so h8
    refine wq_bd e ?_
    obtain ⟨v_17, h9, h⟩ := bd h
    refine wq_bd (w_gi g r_o_15 h9) ?_
    obtain ⟨M19, h10, h⟩ := bd h
    obtain ⟨_, e, g, x⟩ := w_pi g r_o1 h10
    refine wq_bd e (wq_up x ?_)
    have r_o1 := r_o1.up x
    have r_a0 := r_a0.up x
    obtain ⟨b_23, h11, h⟩ := bd h
    obtain ⟨b_23_x, e, r_b_23⟩ := w_go g r_a0.so h11
    refine wq_bd e ?_
    obtain ⟨q_21, h12, h⟩ := bd h
    obtain ⟨_, _, e, g, x⟩ := wc_V (f := f51) h12 (fun e => w51 e g (vl_c (va_r r_b_23.so) (vl_c (va_r r_o1) (vl_c va_i vl_n))))
    refine wq_bd e (wq_up x ?_)
    exact wb146_50 h g 
theorem w146 {Y : Nat → Prop} {M0 : hM} {ρ : Nat → Nat} {as as_x : List aV} {M H M' : hM} {r : Option aV} (h : f146 as M = some (r, M')) (g : rn Y M0 ρ M H) (ha : vl ρ M as as_x) : wr Y M0 ρ M r M' (f146 as_x H) := by
  unfold f146 at h
  split at h
  · rename_i a0 o1
    obtain ⟨a0_x, _, rfl, r_a0, ha1⟩ := vl_is ha
    obtain ⟨o1_x, _, rfl, r_o1, ha2⟩ := vl_ir ha1
    cases vl_in ha2
    exact wx_out h (fun res hx => wb146_0 hx g r_a0 r_o1)
  · cases h
theorem wb147_0 {a0 : Nat} {a0_x : Nat} {v1 : Int32} {v2 : Int32} {o3 : Option Nat} {o3_x : Option Nat} {Y : Nat → Prop} {M0 : hM} {ρ : Nat → Nat} {M H : hM} {res : xRes} (h : b147_0 a0 v1 v2 o3 M = some res) (g : rn Y M0 ρ M H) (r_a0 : vn ρ M a0 a0_x) (r_o3 : vo ρ M o3 o3_x) : wq Y M0 ρ M res (b147_0 a0_x v1 v2 o3_x H) := by
  unfold b147_0 at h ⊢
  obtain ⟨v_1, h1, h⟩ := bd h
  refine wq_bd (w_gi g r_a0.so h1) ?_
  obtain ⟨M3, h2, h⟩ := bd h
  obtain ⟨_, e, g, x⟩ := w_pi g r_o3 h2
  refine wq_bd e (wq_up x ?_)
  have r_o3 := r_o3.up x
  have r_a0 := r_a0.up x
  obtain ⟨M5, h3, h⟩ := bd h
  obtain ⟨_, e, g, x⟩ := w_pi g r_o3 h3
  refine wq_bd e (wq_up x ?_)
  have r_o3 := r_o3.up x
  have r_a0 := r_a0.up x
  obtain ⟨o_7, h4, h⟩ := bd h
  obtain ⟨o_7_x, e, r_o_7⟩ := w_gr g r_a0.so h4
  refine wq_bd e ?_
  obtain ⟨v_9, h5, h⟩ := bd h
  refine wq_bd (w_gi g r_a0.so h5) ?_
  obtain ⟨M11, h6, h⟩ := bd h
  obtain ⟨_, e, g, x⟩ := w_asr g r_o_7 r_o3 h6
  refine wq_bd e (wq_up x ?_)
  have r_o3 := r_o3.up x
  have r_a0 := r_a0.up x
  obtain ⟨v_13, h7, h⟩ := bd h
  refine wq_bd (w_gi g r_a0.so h7) ?_
  obtain ⟨M15, h8, h⟩ := bd h
  obtain ⟨_, e, g, x⟩ := w_pi g r_a0.so h8
  refine wq_bd e (wq_up x ?_)
  have r_o3 := r_o3.up x
  have r_a0 := r_a0.up x
  obtain ⟨o_17, h9, h⟩ := bd h
  obtain ⟨o_17_x, e, r_o_17⟩ := w_gr g r_a0.so h9
  refine wq_bd e ?_
  obtain ⟨o_19, h10, h⟩ := bd h
  obtain ⟨o_19_x, e, r_o_19⟩ := w_alr g r_o_17 h10
  refine wq_bd e ?_
  obtain ⟨o_21, h11, h⟩ := bd h
  obtain ⟨o_21_x, e, r_o_21⟩ := w_gr g r_o_19 h11
  refine wq_bd e ?_
  obtain ⟨b_25, h12, h⟩ := bd h
  obtain ⟨b_25_x, e, r_b_25⟩ := w_go g r_o_21 h12
  refine wq_bd e ?_
  obtain ⟨q_23, h13, h⟩ := bd h
  obtain ⟨_, _, e, g, x⟩ := wc_V (f := f146) h13 (fun e => w146 e g (vl_c (va_r r_b_25.so) (vl_c (va_r r_o3) vl_n)))
  refine wq_bd e (wq_up x ?_)
  have r_o3 := r_o3.up x
  obtain ⟨v_27, h14, h⟩ := bd h
  refine wq_bd (w_gi g r_o3 h14) ?_
  cases h
  exact ⟨_, _, rfl, (vs_a va_i), g, ex.rf⟩
theorem w147 {Y : Nat → Prop} {M0 : hM} {ρ : Nat → Nat} {as as_x : List aV} {M H M' : hM} {r : Option aV} (h : f147 as M = some (r, M')) (g : rn Y M0 ρ M H) (ha : vl ρ M as as_x) : wr Y M0 ρ M r M' (f147 as_x H) := by
  unfold f147 at h
  split at h
  · rename_i a0 v1 v2 o3
    obtain ⟨a0_x, _, rfl, r_a0, ha1⟩ := vl_is ha
    obtain ⟨_, rfl, ha2⟩ := vl_ii ha1
    obtain ⟨_, rfl, ha3⟩ := vl_ii ha2
    obtain ⟨o3_x, _, rfl, r_o3, ha4⟩ := vl_ir ha3
    cases vl_in ha4
    exact wx_out h (fun res hx => wb147_0 hx g r_a0 r_o3)
  · cases h
theorem wb148_0 {a0 : Nat} {a0_x : Nat} {v1 : Int32} {v2 : Int32} {v3 : Int32} {v4 : Int32} {v5 : Int32} {Y : Nat → Prop} {M0 : hM} {ρ : Nat → Nat} {M H : hM} {res : xRes} (h : b148_0 a0 v1 v2 v3 v4 v5 M = some res) (g : rn Y M0 ρ M H) (r_a0 : vn ρ M a0 a0_x) : wq Y M0 ρ M res (b148_0 a0_x v1 v2 v3 v4 v5 H) := by
  unfold b148_0 at h ⊢
  obtain ⟨b_3, h1, h⟩ := bd h
  obtain ⟨b_3_x, e, r_b_3⟩ := w_go g r_a0.so h1
  refine wq_bd e ?_
  obtain ⟨q_1, h2, h⟩ := bd h
  obtain ⟨_, _, e, g, x⟩ := wc_I (f := f144) h2 (fun e => w144 e g (vl_c (va_r r_b_3.so) (vl_c va_i (vl_c va_i (vl_c va_i (vl_c va_i (vl_c va_i vl_n)))))))
  refine wq_bd e (wq_up x ?_)
  have r_a0 := r_a0.up x
  rcases ite_some h with ⟨q, h⟩ | ⟨q, h⟩
  · refine wq_ip q ?_
    cases h
    exact ⟨_, _, rfl, (vs_a va_i), g, ex.rf⟩
  · refine wq_in q ?_
    obtain ⟨M5, h3, h⟩ := bd h
    obtain ⟨_, _, e, g, x, r_z⟩ := w_no g h3
    refine wq_bd e (wq_up x ?_)
    have r_a0 := r_a0.up x
    have r_h_sz_q_1_2 := r_z
    obtain ⟨q_7, h4, h⟩ := bd h
    obtain ⟨_, _, e, g, x⟩ := wc_V (f := f145) h4 (fun e => w145 e g (vl_c (va_r r_h_sz_q_1_2.so) (vl_c va_i (vl_c va_i (vl_c va_i (vl_c va_i (vl_c va_l vl_n)))))))
    refine wq_bd e (wq_up x ?_)
    have r_a0 := r_a0.up x
    have r_h_sz_q_1_2 := r_h_sz_q_1_2.up x
    obtain ⟨b_11, h5, h⟩ := bd h
    obtain ⟨b_11_x, e, r_b_11⟩ := w_go g r_a0.so h5
    refine wq_bd e ?_
    obtain ⟨q_9, h6, h⟩ := bd h
    obtain ⟨_, _, e, g, x⟩ := wc_I (f := f147) h6 (fun e => w147 e g (vl_c (va_r r_b_11.so) (vl_c va_i (vl_c va_i (vl_c (va_r r_h_sz_q_1_2.so) vl_n)))))
    refine wq_bd e (wq_up x ?_)
    cases h
    exact ⟨_, _, rfl, (vs_a va_i), g, ex.rf⟩
theorem w148 {Y : Nat → Prop} {M0 : hM} {ρ : Nat → Nat} {as as_x : List aV} {M H M' : hM} {r : Option aV} (h : f148 as M = some (r, M')) (g : rn Y M0 ρ M H) (ha : vl ρ M as as_x) : wr Y M0 ρ M r M' (f148 as_x H) := by
  unfold f148 at h
  split at h
  · rename_i a0 v1 v2 v3 v4 v5
    obtain ⟨a0_x, _, rfl, r_a0, ha1⟩ := vl_is ha
    obtain ⟨_, rfl, ha2⟩ := vl_ii ha1
    obtain ⟨_, rfl, ha3⟩ := vl_ii ha2
    obtain ⟨_, rfl, ha4⟩ := vl_ii ha3
    obtain ⟨_, rfl, ha5⟩ := vl_ii ha4
    obtain ⟨_, rfl, ha6⟩ := vl_ii ha5
    cases vl_in ha6
    exact wx_out h (fun res hx => wb148_0 hx g r_a0)
  · cases h
theorem wb149_0 {a0 : Nat} {a0_x : Nat} {v1 : Int32} {v2 : Int32} {v3 : Int32} {v4 : Int32} {v5 : Int32} {w6 : Int64} {Y : Nat → Prop} {M0 : hM} {ρ : Nat → Nat} {M H : hM} {res : xRes} (h : b149_0 a0 v1 v2 v3 v4 v5 w6 M = some res) (g : rn Y M0 ρ M H) (r_a0 : vn ρ M a0 a0_x) : wq Y M0 ρ M res (b149_0 a0_x v1 v2 v3 v4 v5 w6 H) := by
  unfold b149_0 at h ⊢
  obtain ⟨b_3, h1, h⟩ := bd h
  obtain ⟨b_3_x, e, r_b_3⟩ := w_go g r_a0.so h1
  refine wq_bd e ?_
  obtain ⟨q_1, h2, h⟩ := bd h
  obtain ⟨_, _, e, g, x⟩ := wc_I (f := f144) h2 (fun e => w144 e g (vl_c (va_r r_b_3.so) (vl_c va_i (vl_c va_i (vl_c va_i (vl_c va_i (vl_c va_i vl_n)))))))
  refine wq_bd e (wq_up x ?_)
  have r_a0 := r_a0.up x
  rcases ite_some h with ⟨q, h⟩ | ⟨q, h⟩
  · refine wq_ip q ?_
    cases h
    exact ⟨_, _, rfl, (vs_a va_i), g, ex.rf⟩
  · refine wq_in q ?_
    obtain ⟨M5, h3, h⟩ := bd h
    obtain ⟨_, _, e, g, x, r_z⟩ := w_no g h3
    refine wq_bd e (wq_up x ?_)
    have r_a0 := r_a0.up x
    have r_h_sz_q_1_2 := r_z
    obtain ⟨q_7, h4, h⟩ := bd h
    obtain ⟨_, _, e, g, x⟩ := wc_V (f := f145) h4 (fun e => w145 e g (vl_c (va_r r_h_sz_q_1_2.so) (vl_c va_i (vl_c va_i (vl_c va_i (vl_c va_i (vl_c va_l vl_n)))))))
    refine wq_bd e (wq_up x ?_)
    have r_a0 := r_a0.up x
    have r_h_sz_q_1_2 := r_h_sz_q_1_2.up x
    obtain ⟨b_11, h5, h⟩ := bd h
    obtain ⟨b_11_x, e, r_b_11⟩ := w_go g r_a0.so h5
    refine wq_bd e ?_
    obtain ⟨q_9, h6, h⟩ := bd h
    obtain ⟨_, _, e, g, x⟩ := wc_I (f := f147) h6 (fun e => w147 e g (vl_c (va_r r_b_11.so) (vl_c va_i (vl_c va_i (vl_c (va_r r_h_sz_q_1_2.so) vl_n)))))
    refine wq_bd e (wq_up x ?_)
    cases h
    exact ⟨_, _, rfl, (vs_a va_i), g, ex.rf⟩
theorem w149 {Y : Nat → Prop} {M0 : hM} {ρ : Nat → Nat} {as as_x : List aV} {M H M' : hM} {r : Option aV} (h : f149 as M = some (r, M')) (g : rn Y M0 ρ M H) (ha : vl ρ M as as_x) : wr Y M0 ρ M r M' (f149 as_x H) := by
  unfold f149 at h
  split at h
  · rename_i a0 v1 v2 v3 v4 v5 w6
    obtain ⟨a0_x, _, rfl, r_a0, ha1⟩ := vl_is ha
    obtain ⟨_, rfl, ha2⟩ := vl_ii ha1
    obtain ⟨_, rfl, ha3⟩ := vl_ii ha2
    obtain ⟨_, rfl, ha4⟩ := vl_ii ha3
    obtain ⟨_, rfl, ha5⟩ := vl_ii ha4
    obtain ⟨_, rfl, ha6⟩ := vl_ii ha5
    obtain ⟨_, rfl, ha7⟩ := vl_il ha6
    cases vl_in ha7
    exact wx_out h (fun res hx => wb149_0 hx g r_a0)
  · cases h
theorem wb150_17 {si0 : Int32} {Y : Nat → Prop} {M0 : hM} {ρ : Nat → Nat} {M H : hM} {res : xRes} (h : b150_17 si0 M = some res) (g : rn Y M0 ρ M H)  : wq Y M0 ρ M res (b150_17 si0 H) := by
  unfold b150_17 at h ⊢
  rcases ite_some h with ⟨q, h⟩ | ⟨q, h⟩
  · refine wq_ip q ?_
    cases h
    exact ⟨_, _, rfl, (vs_a va_i), g, ex.rf⟩
  · refine wq_in q ?_
    cases h
theorem wb150_16  {Y : Nat → Prop} {M0 : hM} {ρ : Nat → Nat} {M H : hM} {res : xRes} (h : b150_16  M = some res) (g : rn Y M0 ρ M H)  : wq Y M0 ρ M res (b150_16  H) := by
  unfold b150_16 at h ⊢
  exact wb150_17 h g 
theorem wb150_0 {a0 : Nat} {a0_x : Nat} {v1 : Int32} {Y : Nat → Prop} {M0 : hM} {ρ : Nat → Nat} {M H : hM} {res : xRes} (h : b150_0 a0 v1 M = some res) (g : rn Y M0 ρ M H) (r_a0 : vn ρ M a0 a0_x) : wq Y M0 ρ M res (b150_0 a0_x v1 H) := by
  unfold b150_0 at h ⊢
  rcases ite_some h with ⟨q, h⟩ | ⟨q, h⟩
  · refine wq_ip q ?_
    exact wb150_16 h g 
  · refine wq_in q ?_
    obtain ⟨v_1, h1, h⟩ := bd h
    refine wq_bd (w_gi g r_a0.so h1) ?_
    rcases ite_some h with ⟨q, h⟩ | ⟨q, h⟩
    · refine wq_ip q ?_
      exact wb150_16 h g 
    · refine wq_in q ?_
      exact wb150_17 h g 
theorem w150 {Y : Nat → Prop} {M0 : hM} {ρ : Nat → Nat} {as as_x : List aV} {M H M' : hM} {r : Option aV} (h : f150 as M = some (r, M')) (g : rn Y M0 ρ M H) (ha : vl ρ M as as_x) : wr Y M0 ρ M r M' (f150 as_x H) := by
  unfold f150 at h
  split at h
  · rename_i a0 v1
    obtain ⟨a0_x, _, rfl, r_a0, ha1⟩ := vl_is ha
    obtain ⟨_, rfl, ha2⟩ := vl_ii ha1
    cases vl_in ha2
    exact wx_out h (fun res hx => wb150_0 hx g r_a0)
  · cases h
theorem wb151_21 {si0 : Int32} {Y : Nat → Prop} {M0 : hM} {ρ : Nat → Nat} {M H : hM} {res : xRes} (h : b151_21 si0 M = some res) (g : rn Y M0 ρ M H)  : wq Y M0 ρ M res (b151_21 si0 H) := by
  unfold b151_21 at h ⊢
  cases h
  exact ⟨_, _, rfl, (vs_a va_i), g, ex.rf⟩
theorem wb151_0 {a0 : Nat} {a0_x : Nat} {v1 : Int32} {Y : Nat → Prop} {M0 : hM} {ρ : Nat → Nat} {M H : hM} {res : xRes} (h : b151_0 a0 v1 M = some res) (g : rn Y M0 ρ M H) (r_a0 : vn ρ M a0 a0_x) : wq Y M0 ρ M res (b151_0 a0_x v1 H) := by
  unfold b151_0 at h ⊢
  obtain ⟨b_3, h1, h⟩ := bd h
  obtain ⟨b_3_x, e, r_b_3⟩ := w_go g r_a0.so h1
  refine wq_bd e ?_
  obtain ⟨q_1, h2, h⟩ := bd h
  obtain ⟨_, _, e, g, x⟩ := wc_I (f := f150) h2 (fun e => w150 e g (vl_c (va_r r_b_3.so) (vl_c va_i vl_n)))
  refine wq_bd e (wq_up x ?_)
  have r_a0 := r_a0.up x
  rcases ite_some h with ⟨q, h⟩ | ⟨q, h⟩
  · refine wq_ip q ?_
    exact wb151_21 h g 
  · refine wq_in q ?_
    obtain ⟨o_5, h3, h⟩ := bd h
    obtain ⟨o_5_x, e, r_o_5⟩ := w_gr g r_a0.so h3
    refine wq_bd e ?_
    obtain ⟨o_7, h4, h⟩ := bd h
    obtain ⟨o_7_x, e, r_o_7⟩ := w_alr g r_o_5 h4
    refine wq_bd e ?_
    obtain ⟨v_9, h5, h⟩ := bd h
    refine wq_bd (w_gi g r_o_7 h5) ?_
    exact wb151_21 h g 
theorem w151 {Y : Nat → Prop} {M0 : hM} {ρ : Nat → Nat} {as as_x : List aV} {M H M' : hM} {r : Option aV} (h : f151 as M = some (r, M')) (g : rn Y M0 ρ M H) (ha : vl ρ M as as_x) : wr Y M0 ρ M r M' (f151 as_x H) := by
  unfold f151 at h
  split at h
  · rename_i a0 v1
    obtain ⟨a0_x, _, rfl, r_a0, ha1⟩ := vl_is ha
    obtain ⟨_, rfl, ha2⟩ := vl_ii ha1
    cases vl_in ha2
    exact wx_out h (fun res hx => wb151_0 hx g r_a0)
  · cases h
theorem wb152_29  {Y : Nat → Prop} {M0 : hM} {ρ : Nat → Nat} {M H : hM} {res : xRes} (h : b152_29  M = some res) (g : rn Y M0 ρ M H)  : wq Y M0 ρ M res (b152_29  H) := by
  unfold b152_29 at h ⊢
  cases h
  exact ⟨_, _, rfl, (vs_a va_l), g, ex.rf⟩
theorem wb152_0 {a0 : Nat} {a0_x : Nat} {v1 : Int32} {v2 : Int32} {Y : Nat → Prop} {M0 : hM} {ρ : Nat → Nat} {M H : hM} {res : xRes} (h : b152_0 a0 v1 v2 M = some res) (g : rn Y M0 ρ M H) (r_a0 : vn ρ M a0 a0_x) : wq Y M0 ρ M res (b152_0 a0_x v1 v2 H) := by
  unfold b152_0 at h ⊢
  obtain ⟨b_3, h1, h⟩ := bd h
  obtain ⟨b_3_x, e, r_b_3⟩ := w_go g r_a0.so h1
  refine wq_bd e ?_
  obtain ⟨q_1, h2, h⟩ := bd h
  obtain ⟨_, _, e, g, x⟩ := wc_I (f := f150) h2 (fun e => w150 e g (vl_c (va_r r_b_3.so) (vl_c va_i vl_n)))
  refine wq_bd e (wq_up x ?_)
  have r_a0 := r_a0.up x
  rcases ite_some h with ⟨q, h⟩ | ⟨q, h⟩
  · refine wq_ip q ?_
    exact wb152_29 h g 
  · refine wq_in q ?_
    obtain ⟨o_5, h3, h⟩ := bd h
    obtain ⟨o_5_x, e, r_o_5⟩ := w_gr g r_a0.so h3
    refine wq_bd e ?_
    obtain ⟨o_7, h4, h⟩ := bd h
    obtain ⟨o_7_x, e, r_o_7⟩ := w_alr g r_o_5 h4
    refine wq_bd e ?_
    obtain ⟨v_9, h5, h⟩ := bd h
    refine wq_bd (w_gi g r_o_7 h5) ?_
    rcases ite_some h with ⟨q, h⟩ | ⟨q, h⟩
    · refine wq_ip q ?_
      rcases ite_some h with ⟨q, h⟩ | ⟨q, h⟩
      · refine wq_ip q ?_
        exact wb152_29 h g 
      · refine wq_in q ?_
        rcases ite_some h with ⟨q, h⟩ | ⟨q, h⟩
        · refine wq_ip q ?_
          obtain ⟨o_11, h6, h⟩ := bd h
          obtain ⟨o_11_x, e, r_o_11⟩ := w_gr g r_a0.so h6
          refine wq_bd e ?_
          obtain ⟨o_13, h7, h⟩ := bd h
          obtain ⟨o_13_x, e, r_o_13⟩ := w_alr g r_o_11 h7
          refine wq_bd e ?_
          obtain ⟨o_15, h8, h⟩ := bd h
          obtain ⟨o_15_x, e, r_o_15⟩ := w_gr g r_o_13 h8
          refine wq_bd e ?_
          obtain ⟨w_17, h9, h⟩ := bd h
          refine wq_bd (w_all g r_o_15 h9) ?_
          cases h
          exact ⟨_, _, rfl, (vs_a va_l), g, ex.rf⟩
        · refine wq_in q ?_
          exact wb152_29 h g 
    · refine wq_in q ?_
      exact wb152_29 h g 
theorem w152 {Y : Nat → Prop} {M0 : hM} {ρ : Nat → Nat} {as as_x : List aV} {M H M' : hM} {r : Option aV} (h : f152 as M = some (r, M')) (g : rn Y M0 ρ M H) (ha : vl ρ M as as_x) : wr Y M0 ρ M r M' (f152 as_x H) := by
  unfold f152 at h
  split at h
  · rename_i a0 v1 v2
    obtain ⟨a0_x, _, rfl, r_a0, ha1⟩ := vl_is ha
    obtain ⟨_, rfl, ha2⟩ := vl_ii ha1
    obtain ⟨_, rfl, ha3⟩ := vl_ii ha2
    cases vl_in ha3
    exact wx_out h (fun res hx => wb152_0 hx g r_a0)
  · cases h
theorem wb153_0 {a0 : Nat} {a0_x : Nat} {v1 : Int32} {v2 : Int32} {Y : Nat → Prop} {M0 : hM} {ρ : Nat → Nat} {M H : hM} {res : xRes} (h : b153_0 a0 v1 v2 M = some res) (g : rn Y M0 ρ M H) (r_a0 : vn ρ M a0 a0_x) : wq Y M0 ρ M res (b153_0 a0_x v1 v2 H) := by
  unfold b153_0 at h ⊢
  obtain ⟨b_3, h1, h⟩ := bd h
  obtain ⟨b_3_x, e, r_b_3⟩ := w_go g r_a0.so h1
  refine wq_bd e ?_
  obtain ⟨q_1, h2, h⟩ := bd h
  obtain ⟨_, _, e, g, x⟩ := wc_I (f := f150) h2 (fun e => w150 e g (vl_c (va_r r_b_3.so) (vl_c va_i vl_n)))
  refine wq_bd e (wq_up x ?_)
  have r_a0 := r_a0.up x
  rcases ite_some h with ⟨q, h⟩ | ⟨q, h⟩
  · refine wq_ip q ?_
    cases h
    exact ⟨_, _, rfl, (vs_a va_i), g, ex.rf⟩
  · refine wq_in q ?_
    rcases ite_some h with ⟨q, h⟩ | ⟨q, h⟩
    · refine wq_ip q ?_
      obtain ⟨o_6, h3, h⟩ := bd h
      obtain ⟨o_6_x, e, r_o_6⟩ := w_gr g r_a0.so h3
      refine wq_bd e ?_
      obtain ⟨o_8, h4, h⟩ := bd h
      obtain ⟨o_8_x, e, r_o_8⟩ := w_alr g r_o_6 h4
      refine wq_bd e ?_
      obtain ⟨v_10, h5, h⟩ := bd h
      refine wq_bd (w_gi g r_o_8 h5) ?_
      cases h
      exact ⟨_, _, rfl, (vs_a va_i), g, ex.rf⟩
    · refine wq_in q ?_
      rcases ite_some h with ⟨q, h⟩ | ⟨q, h⟩
      · refine wq_ip q ?_
        obtain ⟨o_13, h6, h⟩ := bd h
        obtain ⟨o_13_x, e, r_o_13⟩ := w_gr g r_a0.so h6
        refine wq_bd e ?_
        obtain ⟨o_15, h7, h⟩ := bd h
        obtain ⟨o_15_x, e, r_o_15⟩ := w_alr g r_o_13 h7
        refine wq_bd e ?_
        obtain ⟨v_17, h8, h⟩ := bd h
        refine wq_bd (w_gi g r_o_15 h8) ?_
        cases h
        exact ⟨_, _, rfl, (vs_a va_i), g, ex.rf⟩
      · refine wq_in q ?_
        rcases ite_some h with ⟨q, h⟩ | ⟨q, h⟩
        · refine wq_ip q ?_
          obtain ⟨o_20, h9, h⟩ := bd h
          obtain ⟨o_20_x, e, r_o_20⟩ := w_gr g r_a0.so h9
          refine wq_bd e ?_
          obtain ⟨o_22, h10, h⟩ := bd h
          obtain ⟨o_22_x, e, r_o_22⟩ := w_alr g r_o_20 h10
          refine wq_bd e ?_
          obtain ⟨v_24, h11, h⟩ := bd h
          refine wq_bd (w_gi g r_o_22 h11) ?_
          cases h
          exact ⟨_, _, rfl, (vs_a va_i), g, ex.rf⟩
        · refine wq_in q ?_
          cases h
          exact ⟨_, _, rfl, (vs_a va_i), g, ex.rf⟩
theorem w153 {Y : Nat → Prop} {M0 : hM} {ρ : Nat → Nat} {as as_x : List aV} {M H M' : hM} {r : Option aV} (h : f153 as M = some (r, M')) (g : rn Y M0 ρ M H) (ha : vl ρ M as as_x) : wr Y M0 ρ M r M' (f153 as_x H) := by
  unfold f153 at h
  split at h
  · rename_i a0 v1 v2
    obtain ⟨a0_x, _, rfl, r_a0, ha1⟩ := vl_is ha
    obtain ⟨_, rfl, ha2⟩ := vl_ii ha1
    obtain ⟨_, rfl, ha3⟩ := vl_ii ha2
    cases vl_in ha3
    exact wx_out h (fun res hx => wb153_0 hx g r_a0)
  · cases h
theorem wb154_27  {Y : Nat → Prop} {M0 : hM} {ρ : Nat → Nat} {M H : hM} {res : xRes} (h : b154_27  M = some res) (g : rn Y M0 ρ M H)  : wq Y M0 ρ M res (b154_27  H) := by
  unfold b154_27 at h ⊢
  cases h
  exact ⟨_, _, rfl, (vs_a va_l), g, ex.rf⟩
theorem wb154_0 {a0 : Nat} {a0_x : Nat} {v1 : Int32} {v2 : Int32} {v3 : Int32} {Y : Nat → Prop} {M0 : hM} {ρ : Nat → Nat} {M H : hM} {res : xRes} (h : b154_0 a0 v1 v2 v3 M = some res) (g : rn Y M0 ρ M H) (r_a0 : vn ρ M a0 a0_x) : wq Y M0 ρ M res (b154_0 a0_x v1 v2 v3 H) := by
  unfold b154_0 at h ⊢
  obtain ⟨b_3, h1, h⟩ := bd h
  obtain ⟨b_3_x, e, r_b_3⟩ := w_go g r_a0.so h1
  refine wq_bd e ?_
  obtain ⟨q_1, h2, h⟩ := bd h
  obtain ⟨_, _, e, g, x⟩ := wc_I (f := f142) h2 (fun e => w142 e g (vl_c (va_r r_b_3.so) (vl_c va_i vl_n)))
  refine wq_bd e (wq_up x ?_)
  have r_a0 := r_a0.up x
  rcases ite_some h with ⟨q, h⟩ | ⟨q, h⟩
  · refine wq_ip q ?_
    exact wb154_27 h g 
  · refine wq_in q ?_
    rcases ite_some h with ⟨q, h⟩ | ⟨q, h⟩
    · refine wq_ip q ?_
      exact wb154_27 h g 
    · refine wq_in q ?_
      rcases ite_some h with ⟨q, h⟩ | ⟨q, h⟩
      · refine wq_ip q ?_
        exact wb154_27 h g 
      · refine wq_in q ?_
        rcases ite_some h with ⟨q, h⟩ | ⟨q, h⟩
        · refine wq_ip q ?_
          exact wb154_27 h g 
        · refine wq_in q ?_
          rcases ite_some h with ⟨q, h⟩ | ⟨q, h⟩
          · refine wq_ip q ?_
            obtain ⟨o_5, h3, h⟩ := bd h
            obtain ⟨o_5_x, e, r_o_5⟩ := w_gr g r_a0.so h3
            refine wq_bd e ?_
            obtain ⟨o_7, h4, h⟩ := bd h
            obtain ⟨o_7_x, e, r_o_7⟩ := w_alr g r_o_5 h4
            refine wq_bd e ?_
            obtain ⟨o_9, h5, h⟩ := bd h
            obtain ⟨o_9_x, e, r_o_9⟩ := w_gr g r_o_7 h5
            refine wq_bd e ?_
            obtain ⟨o_11, h6, h⟩ := bd h
            obtain ⟨o_11_x, e, r_o_11⟩ := w_gr g r_o_9 h6
            refine wq_bd e ?_
            obtain ⟨w_13, h7, h⟩ := bd h
            refine wq_bd (w_all g r_o_11 h7) ?_
            cases h
            exact ⟨_, _, rfl, (vs_a va_l), g, ex.rf⟩
          · refine wq_in q ?_
            exact wb154_27 h g 
theorem w154 {Y : Nat → Prop} {M0 : hM} {ρ : Nat → Nat} {as as_x : List aV} {M H M' : hM} {r : Option aV} (h : f154 as M = some (r, M')) (g : rn Y M0 ρ M H) (ha : vl ρ M as as_x) : wr Y M0 ρ M r M' (f154 as_x H) := by
  unfold f154 at h
  split at h
  · rename_i a0 v1 v2 v3
    obtain ⟨a0_x, _, rfl, r_a0, ha1⟩ := vl_is ha
    obtain ⟨_, rfl, ha2⟩ := vl_ii ha1
    obtain ⟨_, rfl, ha3⟩ := vl_ii ha2
    obtain ⟨_, rfl, ha4⟩ := vl_ii ha3
    cases vl_in ha4
    exact wx_out h (fun res hx => wb154_0 hx g r_a0)
  · cases h
theorem wb155_19  {Y : Nat → Prop} {M0 : hM} {ρ : Nat → Nat} {M H : hM} {res : xRes} (h : b155_19  M = some res) (g : rn Y M0 ρ M H)  : wq Y M0 ρ M res (b155_19  H) := by
  unfold b155_19 at h ⊢
  cases h
  exact ⟨_, _, rfl, (vs_a va_i), g, ex.rf⟩
theorem wb155_53 {si0 : Int32} {Y : Nat → Prop} {M0 : hM} {ρ : Nat → Nat} {M H : hM} {res : xRes} (h : b155_53 si0 M = some res) (g : rn Y M0 ρ M H)  : wq Y M0 ρ M res (b155_53 si0 H) := by
  unfold b155_53 at h ⊢
  cases h
  exact ⟨_, _, rfl, (vs_a va_i), g, ex.rf⟩
theorem wb155_48 {v2 : Int32} {o3 : Option Nat} {o3_x : Option Nat} {Y : Nat → Prop} {M0 : hM} {ρ : Nat → Nat} {M H : hM} {res : xRes} (h : b155_48 v2 o3 M = some res) (g : rn Y M0 ρ M H) (r_o3 : vo ρ M o3 o3_x) : wq Y M0 ρ M res (b155_48 v2 o3_x H) := by
  unfold b155_48 at h ⊢
  obtain ⟨b_20, h1, h⟩ := bd h
  obtain ⟨b_20_x, e, r_b_20⟩ := w_go g r_o3 h1
  refine wq_bd e ?_
  obtain ⟨q_18, h2, h⟩ := bd h
  obtain ⟨_, _, e, g, x⟩ := wc_I (f := f132) h2 (fun e => w132 e g (vl_c (va_r r_b_20.so) (vl_c va_i vl_n)))
  refine wq_bd e (wq_up x ?_)
  exact wb155_53 h g 
theorem wb155_0 {a0 : Nat} {a0_x : Nat} {v1 : Int32} {v2 : Int32} {Y : Nat → Prop} {M0 : hM} {ρ : Nat → Nat} {M H : hM} {res : xRes} (h : b155_0 a0 v1 v2 M = some res) (g : rn Y M0 ρ M H) (r_a0 : vn ρ M a0 a0_x) : wq Y M0 ρ M res (b155_0 a0_x v1 v2 H) := by
  unfold b155_0 at h ⊢
  obtain ⟨b_3, h1, h⟩ := bd h
  obtain ⟨b_3_x, e, r_b_3⟩ := w_go g r_a0.so h1
  refine wq_bd e ?_
  obtain ⟨q_1, h2, h⟩ := bd h
  obtain ⟨_, _, e, g, x⟩ := wc_I (f := f12) h2 (fun e => w12 e g (vl_c (va_r r_b_3.so) (vl_c va_i vl_n)))
  refine wq_bd e (wq_up x ?_)
  have r_a0 := r_a0.up x
  rcases ite_some h with ⟨q, h⟩ | ⟨q, h⟩
  · refine wq_ip q ?_
    exact wb155_19 h g 
  · refine wq_in q ?_
    rcases ite_some h with ⟨q, h⟩ | ⟨q, h⟩
    · refine wq_ip q ?_
      exact wb155_19 h g 
    · refine wq_in q ?_
      rcases ite_some h with ⟨q, h⟩ | ⟨q, h⟩
      · refine wq_ip q ?_
        obtain ⟨o_5, h3, h⟩ := bd h
        obtain ⟨o_5_x, e, r_o_5⟩ := w_gr g r_a0.so h3
        refine wq_bd e ?_
        obtain ⟨o_7, h4, h⟩ := bd h
        obtain ⟨o_7_x, e, r_o_7⟩ := w_alr g r_o_5 h4
        refine wq_bd e ?_
        obtain ⟨v_9, h5, h⟩ := bd h
        refine wq_bd (w_gi g r_o_7 h5) ?_
        rcases ite_some h with ⟨q, h⟩ | ⟨q, h⟩
        · refine wq_ip q ?_
          obtain ⟨v_11, h6, h⟩ := bd h
          refine wq_bd (w_gi g r_o_7 h6) ?_
          rcases ite_some h with ⟨q, h⟩ | ⟨q, h⟩
          · refine wq_ip q ?_
            exact wb155_53 h g 
          · refine wq_in q ?_
            exact wb155_48 h g r_o_7
        · refine wq_in q ?_
          exact wb155_48 h g r_o_7
      · refine wq_in q ?_
        exact wb155_19 h g 
theorem w155 {Y : Nat → Prop} {M0 : hM} {ρ : Nat → Nat} {as as_x : List aV} {M H M' : hM} {r : Option aV} (h : f155 as M = some (r, M')) (g : rn Y M0 ρ M H) (ha : vl ρ M as as_x) : wr Y M0 ρ M r M' (f155 as_x H) := by
  unfold f155 at h
  split at h
  · rename_i a0 v1 v2
    obtain ⟨a0_x, _, rfl, r_a0, ha1⟩ := vl_is ha
    obtain ⟨_, rfl, ha2⟩ := vl_ii ha1
    obtain ⟨_, rfl, ha3⟩ := vl_ii ha2
    cases vl_in ha3
    exact wx_out h (fun res hx => wb155_0 hx g r_a0)
  · cases h
theorem wb156_0 {a0 : Nat} {a0_x : Nat} {Y : Nat → Prop} {M0 : hM} {ρ : Nat → Nat} {M H : hM} {res : xRes} (h : b156_0 a0 M = some res) (g : rn Y M0 ρ M H) (r_a0 : vn ρ M a0 a0_x) : wq Y M0 ρ M res (b156_0 a0_x H) := by
  unfold b156_0 at h ⊢
  obtain ⟨b_3, h1, h⟩ := bd h
  obtain ⟨b_3_x, e, r_b_3⟩ := w_go g r_a0.so h1
  refine wq_bd e ?_
  obtain ⟨q_1, h2, h⟩ := bd h
  obtain ⟨_, _, e, g, x⟩ := wc_I (f := f96) h2 (fun e => w96 e g (vl_c (va_r r_b_3.so) (vl_c va_i vl_n)))
  refine wq_bd e (wq_up x ?_)
  have r_a0 := r_a0.up x
  obtain ⟨b_7, h3, h⟩ := bd h
  obtain ⟨b_7_x, e, r_b_7⟩ := w_go g r_a0.so h3
  refine wq_bd e ?_
  obtain ⟨q_5, h4, h⟩ := bd h
  obtain ⟨_, _, e, g, x⟩ := wc_I (f := f96) h4 (fun e => w96 e g (vl_c (va_r r_b_7.so) (vl_c va_i vl_n)))
  refine wq_bd e (wq_up x ?_)
  cases h
  exact ⟨_, _, rfl, (vs_a va_i), g, ex.rf⟩
theorem w156 {Y : Nat → Prop} {M0 : hM} {ρ : Nat → Nat} {as as_x : List aV} {M H M' : hM} {r : Option aV} (h : f156 as M = some (r, M')) (g : rn Y M0 ρ M H) (ha : vl ρ M as as_x) : wr Y M0 ρ M r M' (f156 as_x H) := by
  unfold f156 at h
  split at h
  · rename_i a0
    obtain ⟨a0_x, _, rfl, r_a0, ha1⟩ := vl_is ha
    cases vl_in ha1
    exact wx_out h (fun res hx => wb156_0 hx g r_a0)
  · cases h
theorem wb157_33  {Y : Nat → Prop} {M0 : hM} {ρ : Nat → Nat} {M H : hM} {res : xRes} (h : b157_33  M = some res) (g : rn Y M0 ρ M H)  : wq Y M0 ρ M res (b157_33  H) := by
  unfold b157_33 at h ⊢
  cases h
  exact ⟨_, _, rfl, (vs_a va_i), g, ex.rf⟩
theorem wb157_0 {a0 : Nat} {a0_x : Nat} {v1 : Int32} {v2 : Int32} {v3 : Int32} {Y : Nat → Prop} {M0 : hM} {ρ : Nat → Nat} {M H : hM} {res : xRes} (h : b157_0 a0 v1 v2 v3 M = some res) (g : rn Y M0 ρ M H) (r_a0 : vn ρ M a0 a0_x) : wq Y M0 ρ M res (b157_0 a0_x v1 v2 v3 H) := by
  unfold b157_0 at h ⊢
  obtain ⟨b_3, h1, h⟩ := bd h
  obtain ⟨b_3_x, e, r_b_3⟩ := w_go g r_a0.so h1
  refine wq_bd e ?_
  obtain ⟨q_1, h2, h⟩ := bd h
  obtain ⟨_, _, e, g, x⟩ := wc_I (f := f12) h2 (fun e => w12 e g (vl_c (va_r r_b_3.so) (vl_c va_i vl_n)))
  refine wq_bd e (wq_up x ?_)
  have r_a0 := r_a0.up x
  rcases ite_some h with ⟨q, h⟩ | ⟨q, h⟩
  · refine wq_ip q ?_
    exact wb157_33 h g 
  · refine wq_in q ?_
    obtain ⟨b_7, h3, h⟩ := bd h
    obtain ⟨b_7_x, e, r_b_7⟩ := w_go g r_a0.so h3
    refine wq_bd e ?_
    obtain ⟨q_5, h4, h⟩ := bd h
    obtain ⟨_, _, e, g, x⟩ := wc_I (f := f12) h4 (fun e => w12 e g (vl_c (va_r r_b_7.so) (vl_c va_i vl_n)))
    refine wq_bd e (wq_up x ?_)
    have r_a0 := r_a0.up x
    rcases ite_some h with ⟨q, h⟩ | ⟨q, h⟩
    · refine wq_ip q ?_
      exact wb157_33 h g 
    · refine wq_in q ?_
      obtain ⟨o_9, h5, h⟩ := bd h
      obtain ⟨o_9_x, e, r_o_9⟩ := w_gr g r_a0.so h5
      refine wq_bd e ?_
      obtain ⟨o_11, h6, h⟩ := bd h
      obtain ⟨o_11_x, e, r_o_11⟩ := w_alr g r_o_9 h6
      refine wq_bd e ?_
      obtain ⟨o_13, h7, h⟩ := bd h
      obtain ⟨o_13_x, e, r_o_13⟩ := w_gr g r_o_11 h7
      refine wq_bd e ?_
      obtain ⟨o_15, h8, h⟩ := bd h
      obtain ⟨o_15_x, e, r_o_15⟩ := w_alr g r_o_13 h8
      refine wq_bd e ?_
      obtain ⟨b_19, h9, h⟩ := bd h
      obtain ⟨b_19_x, e, r_b_19⟩ := w_go g r_o_15 h9
      refine wq_bd e ?_
      obtain ⟨q_17, h10, h⟩ := bd h
      obtain ⟨_, _, e, g, x⟩ := wc_I (f := f105) h10 (fun e => w105 e g (vl_c (va_r r_b_19.so) vl_n))
      refine wq_bd e (wq_up x ?_)
      have r_a0 := r_a0.up x
      rcases ite_some h with ⟨q, h⟩ | ⟨q, h⟩
      · refine wq_ip q ?_
        exact wb157_33 h g 
      · refine wq_in q ?_
        obtain ⟨o_21, h11, h⟩ := bd h
        obtain ⟨o_21_x, e, r_o_21⟩ := w_gr g r_a0.so h11
        refine wq_bd e ?_
        obtain ⟨o_23, h12, h⟩ := bd h
        obtain ⟨o_23_x, e, r_o_23⟩ := w_alr g r_o_21 h12
        refine wq_bd e ?_
        obtain ⟨o_25, h13, h⟩ := bd h
        obtain ⟨o_25_x, e, r_o_25⟩ := w_gr g r_o_23 h13
        refine wq_bd e ?_
        obtain ⟨o_27, h14, h⟩ := bd h
        obtain ⟨o_27_x, e, r_o_27⟩ := w_alr g r_o_25 h14
        refine wq_bd e ?_
        rcases ite_some h with ⟨q, h⟩ | ⟨q, h⟩
        · refine wq_ip q ?_
          obtain ⟨b_32, h15, h⟩ := bd h
          obtain ⟨b_32_x, e, r_b_32⟩ := w_go g r_o_27 h15
          refine wq_bd e ?_
          obtain ⟨q_30, h16, h⟩ := bd h
          obtain ⟨_, _, e, g, x⟩ := wc_I (f := f118) h16 (fun e => w118 e g (vl_c (va_r r_b_32.so) vl_n))
          refine wq_bd e (wq_up x ?_)
          cases h
          exact ⟨_, _, rfl, (vs_a va_i), g, ex.rf⟩
        · refine wq_in q ?_
          rcases ite_some h with ⟨q, h⟩ | ⟨q, h⟩
          · refine wq_ip q ?_
            obtain ⟨b_37, h17, h⟩ := bd h
            obtain ⟨b_37_x, e, r_b_37⟩ := w_go g r_o_27 h17
            refine wq_bd e ?_
            obtain ⟨q_35, h18, h⟩ := bd h
            obtain ⟨_, _, e, g, x⟩ := wc_I (f := f103) h18 (fun e => w103 e g (vl_c (va_r r_b_37.so) vl_n))
            refine wq_bd e (wq_up x ?_)
            cases h
            exact ⟨_, _, rfl, (vs_a va_i), g, ex.rf⟩
          · refine wq_in q ?_
            rcases ite_some h with ⟨q, h⟩ | ⟨q, h⟩
            · refine wq_ip q ?_
              obtain ⟨b_42, h19, h⟩ := bd h
              obtain ⟨b_42_x, e, r_b_42⟩ := w_go g r_o_27 h19
              refine wq_bd e ?_
              obtain ⟨q_40, h20, h⟩ := bd h
              obtain ⟨_, _, e, g, x⟩ := wc_I (f := f97) h20 (fun e => w97 e g (vl_c (va_r r_b_42.so) vl_n))
              refine wq_bd e (wq_up x ?_)
              cases h
              exact ⟨_, _, rfl, (vs_a va_i), g, ex.rf⟩
            · refine wq_in q ?_
              rcases ite_some h with ⟨q, h⟩ | ⟨q, h⟩
              · refine wq_ip q ?_
                obtain ⟨b_47, h21, h⟩ := bd h
                obtain ⟨b_47_x, e, r_b_47⟩ := w_go g r_o_27 h21
                refine wq_bd e ?_
                obtain ⟨q_45, h22, h⟩ := bd h
                obtain ⟨_, _, e, g, x⟩ := wc_I (f := f156) h22 (fun e => w156 e g (vl_c (va_r r_b_47.so) vl_n))
                refine wq_bd e (wq_up x ?_)
                cases h
                exact ⟨_, _, rfl, (vs_a va_i), g, ex.rf⟩
              · refine wq_in q ?_
                rcases ite_some h with ⟨q, h⟩ | ⟨q, h⟩
                · refine wq_ip q ?_
                  obtain ⟨v_50, h23, h⟩ := bd h
                  refine wq_bd (w_gi g r_o_27 h23) ?_
                  cases h
                  exact ⟨_, _, rfl, (vs_a va_i), g, ex.rf⟩
                · refine wq_in q ?_
                  cases h
                  exact ⟨_, _, rfl, (vs_a va_i), g, ex.rf⟩
theorem w157 {Y : Nat → Prop} {M0 : hM} {ρ : Nat → Nat} {as as_x : List aV} {M H M' : hM} {r : Option aV} (h : f157 as M = some (r, M')) (g : rn Y M0 ρ M H) (ha : vl ρ M as as_x) : wr Y M0 ρ M r M' (f157 as_x H) := by
  unfold f157 at h
  split at h
  · rename_i a0 v1 v2 v3
    obtain ⟨a0_x, _, rfl, r_a0, ha1⟩ := vl_is ha
    obtain ⟨_, rfl, ha2⟩ := vl_ii ha1
    obtain ⟨_, rfl, ha3⟩ := vl_ii ha2
    obtain ⟨_, rfl, ha4⟩ := vl_ii ha3
    cases vl_in ha4
    exact wx_out h (fun res hx => wb157_0 hx g r_a0)
  · cases h
theorem wb158_42 {si0 : Int32} {Y : Nat → Prop} {M0 : hM} {ρ : Nat → Nat} {M H : hM} {res : xRes} (h : b158_42 si0 M = some res) (g : rn Y M0 ρ M H)  : wq Y M0 ρ M res (b158_42 si0 H) := by
  unfold b158_42 at h ⊢
  cases h
  exact ⟨_, _, rfl, (vs_a va_i), g, ex.rf⟩
theorem wb158_38 {a0 : Nat} {a0_x : Nat} {Y : Nat → Prop} {M0 : hM} {ρ : Nat → Nat} {M H : hM} {res : xRes} (h : b158_38 a0 M = some res) (g : rn Y M0 ρ M H) (r_a0 : vn ρ M a0 a0_x) : wq Y M0 ρ M res (b158_38 a0_x H) := by
  unfold b158_38 at h ⊢
  obtain ⟨v_20, h1, h⟩ := bd h
  refine wq_bd (w_gi g r_a0.so h1) ?_
  exact wb158_42 h g 
theorem wb158_0 {a0 : Nat} {a0_x : Nat} {Y : Nat → Prop} {M0 : hM} {ρ : Nat → Nat} {M H : hM} {res : xRes} (h : b158_0 a0 M = some res) (g : rn Y M0 ρ M H) (r_a0 : vn ρ M a0 a0_x) : wq Y M0 ρ M res (b158_0 a0_x H) := by
  unfold b158_0 at h ⊢
  obtain ⟨b_3, h1, h⟩ := bd h
  obtain ⟨b_3_x, e, r_b_3⟩ := w_go g r_a0.so h1
  refine wq_bd e ?_
  obtain ⟨q_1, h2, h⟩ := bd h
  obtain ⟨_, _, e, g, x⟩ := wc_I (f := f115) h2 (fun e => w115 e g (vl_c (va_r r_b_3.so) vl_n))
  refine wq_bd e (wq_up x ?_)
  have r_a0 := r_a0.up x
  rcases ite_some h with ⟨q, h⟩ | ⟨q, h⟩
  · refine wq_ip q ?_
    obtain ⟨v_5, h3, h⟩ := bd h
    refine wq_bd (w_gi g r_a0.so h3) ?_
    rcases ite_some h with ⟨q, h⟩ | ⟨q, h⟩
    · refine wq_ip q ?_
      exact wb158_38 h g r_a0
    · refine wq_in q ?_
      obtain ⟨o_7, h4, h⟩ := bd h
      obtain ⟨o_7_x, e, r_o_7⟩ := w_gr g r_a0.so h4
      refine wq_bd e ?_
      rcases ite_some h with ⟨q, h⟩ | ⟨q, h⟩
      · refine wq_ip (r_o_7.non q) ?_
        exact wb158_38 h g r_a0
      · refine wq_in (r_o_7.nnn q) ?_
        obtain ⟨o_9, h5, h⟩ := bd h
        obtain ⟨o_9_x, e, r_o_9⟩ := w_gr g r_a0.so h5
        refine wq_bd e ?_
        obtain ⟨v_11, h6, h⟩ := bd h
        refine wq_bd (w_gi g r_o_9 h6) ?_
        exact wb158_42 h g 
  · refine wq_in q ?_
    obtain ⟨b_17, h7, h⟩ := bd h
    obtain ⟨b_17_x, e, r_b_17⟩ := w_go g r_a0.so h7
    refine wq_bd e ?_
    obtain ⟨q_15, h8, h⟩ := bd h
    obtain ⟨_, _, e, g, x⟩ := wc_I (f := f116) h8 (fun e => w116 e g (vl_c (va_r r_b_17.so) vl_n))
    refine wq_bd e (wq_up x ?_)
    cases h
    exact ⟨_, _, rfl, (vs_a va_i), g, ex.rf⟩
theorem w158 {Y : Nat → Prop} {M0 : hM} {ρ : Nat → Nat} {as as_x : List aV} {M H M' : hM} {r : Option aV} (h : f158 as M = some (r, M')) (g : rn Y M0 ρ M H) (ha : vl ρ M as as_x) : wr Y M0 ρ M r M' (f158 as_x H) := by
  unfold f158 at h
  split at h
  · rename_i a0
    obtain ⟨a0_x, _, rfl, r_a0, ha1⟩ := vl_is ha
    cases vl_in ha1
    exact wx_out h (fun res hx => wb158_0 hx g r_a0)
  · cases h
theorem wb159_21  {Y : Nat → Prop} {M0 : hM} {ρ : Nat → Nat} {M H : hM} {res : xRes} (h : b159_21  M = some res) (g : rn Y M0 ρ M H)  : wq Y M0 ρ M res (b159_21  H) := by
  unfold b159_21 at h ⊢
  cases h
  exact ⟨_, _, rfl, (vs_a va_i), g, ex.rf⟩
theorem wb159_103 {si0 : Int32} {Y : Nat → Prop} {M0 : hM} {ρ : Nat → Nat} {M H : hM} {res : xRes} (h : b159_103 si0 M = some res) (g : rn Y M0 ρ M H)  : wq Y M0 ρ M res (b159_103 si0 H) := by
  unfold b159_103 at h ⊢
  cases h
  exact ⟨_, _, rfl, (vs_a va_i), g, ex.rf⟩
theorem wb159_0 {a0 : Nat} {a0_x : Nat} {v1 : Int32} {v2 : Int32} {v3 : Int32} {Y : Nat → Prop} {M0 : hM} {ρ : Nat → Nat} {M H : hM} {res : xRes} (h : b159_0 a0 v1 v2 v3 M = some res) (g : rn Y M0 ρ M H) (r_a0 : vn ρ M a0 a0_x) : wq Y M0 ρ M res (b159_0 a0_x v1 v2 v3 H) := by
  unfold b159_0 at h ⊢
  obtain ⟨b_3, h1, h⟩ := bd h
  obtain ⟨b_3_x, e, r_b_3⟩ := w_go g r_a0.so h1
  refine wq_bd e ?_
  obtain ⟨q_1, h2, h⟩ := bd h
  obtain ⟨_, _, _, e, g, x, r_q⟩ := wc_R (f := f13) h2 (fun e => w13 e g (vl_c (va_r r_b_3.so) (vl_c va_i (vl_c va_i vl_n))))
  refine wq_bd e (wq_up x ?_)
  have r_q_1_1 := r_q
  rcases ite_some h with ⟨q, h⟩ | ⟨q, h⟩
  · refine wq_ip (r_q_1_1.non q) ?_
    exact wb159_21 h g 
  · refine wq_in (r_q_1_1.nnn q) ?_
    obtain ⟨o_5, h3, h⟩ := bd h
    obtain ⟨o_5_x, e, r_o_5⟩ := w_gr g r_q_1_1 h3
    refine wq_bd e ?_
    rcases ite_some h with ⟨q, h⟩ | ⟨q, h⟩
    · refine wq_ip (r_o_5.non q) ?_
      exact wb159_21 h g 
    · refine wq_in (r_o_5.nnn q) ?_
      rcases ite_some h with ⟨q, h⟩ | ⟨q, h⟩
      · refine wq_ip q ?_
        obtain ⟨v_8, h4, h⟩ := bd h
        refine wq_bd (w_gi g r_q_1_1 h4) ?_
        cases h
        exact ⟨_, _, rfl, (vs_a va_i), g, ex.rf⟩
      · refine wq_in q ?_
        rcases ite_some h with ⟨q, h⟩ | ⟨q, h⟩
        · refine wq_ip q ?_
          obtain ⟨o_11, h5, h⟩ := bd h
          obtain ⟨o_11_x, e, r_o_11⟩ := w_gr g r_q_1_1 h5
          refine wq_bd e ?_
          obtain ⟨v_13, h6, h⟩ := bd h
          refine wq_bd (w_gi g r_o_11 h6) ?_
          cases h
          exact ⟨_, _, rfl, (vs_a va_i), g, ex.rf⟩
        · refine wq_in q ?_
          rcases ite_some h with ⟨q, h⟩ | ⟨q, h⟩
          · refine wq_ip q ?_
            obtain ⟨o_16, h7, h⟩ := bd h
            obtain ⟨o_16_x, e, r_o_16⟩ := w_gr g r_q_1_1 h7
            refine wq_bd e ?_
            obtain ⟨v_18, h8, h⟩ := bd h
            refine wq_bd (w_gi g r_o_16 h8) ?_
            cases h
            exact ⟨_, _, rfl, (vs_a va_i), g, ex.rf⟩
          · refine wq_in q ?_
            rcases ite_some h with ⟨q, h⟩ | ⟨q, h⟩
            · refine wq_ip q ?_
              obtain ⟨b_23, h9, h⟩ := bd h
              obtain ⟨b_23_x, e, r_b_23⟩ := w_go g r_q_1_1 h9
              refine wq_bd e ?_
              obtain ⟨q_21, h10, h⟩ := bd h
              obtain ⟨_, _, e, g, x⟩ := wc_I (f := f158) h10 (fun e => w158 e g (vl_c (va_r r_b_23.so) vl_n))
              refine wq_bd e (wq_up x ?_)
              cases h
              exact ⟨_, _, rfl, (vs_a va_i), g, ex.rf⟩
            · refine wq_in q ?_
              rcases ite_some h with ⟨q, h⟩ | ⟨q, h⟩
              · refine wq_ip q ?_
                obtain ⟨v_26, h11, h⟩ := bd h
                refine wq_bd (w_gi g r_q_1_1 h11) ?_
                rcases ite_some h with ⟨q, h⟩ | ⟨q, h⟩
                · refine wq_ip q ?_
                  exact wb159_103 h g 
                · refine wq_in q ?_
                  exact wb159_103 h g 
              · refine wq_in q ?_
                cases h
                exact ⟨_, _, rfl, (vs_a va_i), g, ex.rf⟩
theorem w159 {Y : Nat → Prop} {M0 : hM} {ρ : Nat → Nat} {as as_x : List aV} {M H M' : hM} {r : Option aV} (h : f159 as M = some (r, M')) (g : rn Y M0 ρ M H) (ha : vl ρ M as as_x) : wr Y M0 ρ M r M' (f159 as_x H) := by
  unfold f159 at h
  split at h
  · rename_i a0 v1 v2 v3
    obtain ⟨a0_x, _, rfl, r_a0, ha1⟩ := vl_is ha
    obtain ⟨_, rfl, ha2⟩ := vl_ii ha1
    obtain ⟨_, rfl, ha3⟩ := vl_ii ha2
    obtain ⟨_, rfl, ha4⟩ := vl_ii ha3
    cases vl_in ha4
    exact wx_out h (fun res hx => wb159_0 hx g r_a0)
  · cases h
theorem wb160_24 {si0 : Int32} {Y : Nat → Prop} {M0 : hM} {ρ : Nat → Nat} {M H : hM} {res : xRes} (h : b160_24 si0 M = some res) (g : rn Y M0 ρ M H)  : wq Y M0 ρ M res (b160_24 si0 H) := by
  unfold b160_24 at h ⊢
  cases h
  exact ⟨_, _, rfl, (vs_a va_i), g, ex.rf⟩
theorem wb160_0 {a0 : Nat} {a0_x : Nat} {v1 : Int32} {Y : Nat → Prop} {M0 : hM} {ρ : Nat → Nat} {M H : hM} {res : xRes} (h : b160_0 a0 v1 M = some res) (g : rn Y M0 ρ M H) (r_a0 : vn ρ M a0 a0_x) : wq Y M0 ρ M res (b160_0 a0_x v1 H) := by
  unfold b160_0 at h ⊢
  obtain ⟨o_1, h1, h⟩ := bd h
  obtain ⟨o_1_x, e, r_o_1⟩ := w_gr g r_a0.so h1
  refine wq_bd e ?_
  obtain ⟨b_5, h2, h⟩ := bd h
  obtain ⟨b_5_x, e, r_b_5⟩ := w_go g r_o_1 h2
  refine wq_bd e ?_
  obtain ⟨q_3, h3, h⟩ := bd h
  obtain ⟨_, _, e, g, x⟩ := wc_I (f := f8) h3 (fun e => w8 e g (vl_c (va_r r_b_5.so) (vl_c va_i vl_n)))
  refine wq_bd e (wq_up x ?_)
  have r_a0 := r_a0.up x
  rcases ite_some h with ⟨q, h⟩ | ⟨q, h⟩
  · refine wq_ip q ?_
    exact wb160_24 h g 
  · refine wq_in q ?_
    obtain ⟨o_7, h4, h⟩ := bd h
    obtain ⟨o_7_x, e, r_o_7⟩ := w_gr g r_a0.so h4
    refine wq_bd e ?_
    obtain ⟨o_9, h5, h⟩ := bd h
    obtain ⟨o_9_x, e, r_o_9⟩ := w_alr g r_o_7 h5
    refine wq_bd e ?_
    obtain ⟨v_11, h6, h⟩ := bd h
    refine wq_bd (w_gi g r_o_9 h6) ?_
    exact wb160_24 h g 
theorem w160 {Y : Nat → Prop} {M0 : hM} {ρ : Nat → Nat} {as as_x : List aV} {M H M' : hM} {r : Option aV} (h : f160 as M = some (r, M')) (g : rn Y M0 ρ M H) (ha : vl ρ M as as_x) : wr Y M0 ρ M r M' (f160 as_x H) := by
  unfold f160 at h
  split at h
  · rename_i a0 v1
    obtain ⟨a0_x, _, rfl, r_a0, ha1⟩ := vl_is ha
    obtain ⟨_, rfl, ha2⟩ := vl_ii ha1
    cases vl_in ha2
    exact wx_out h (fun res hx => wb160_0 hx g r_a0)
  · cases h
theorem wb161_17  {Y : Nat → Prop} {M0 : hM} {ρ : Nat → Nat} {M H : hM} {res : xRes} (h : b161_17  M = some res) (g : rn Y M0 ρ M H)  : wq Y M0 ρ M res (b161_17  H) := by
  unfold b161_17 at h ⊢
  cases h
  exact ⟨_, _, rfl, (vs_a va_l), g, ex.rf⟩
theorem wb161_0 {a0 : Nat} {a0_x : Nat} {v1 : Int32} {v2 : Int32} {v3 : Int32} {Y : Nat → Prop} {M0 : hM} {ρ : Nat → Nat} {M H : hM} {res : xRes} (h : b161_0 a0 v1 v2 v3 M = some res) (g : rn Y M0 ρ M H) (r_a0 : vn ρ M a0 a0_x) : wq Y M0 ρ M res (b161_0 a0_x v1 v2 v3 H) := by
  unfold b161_0 at h ⊢
  obtain ⟨b_3, h1, h⟩ := bd h
  obtain ⟨b_3_x, e, r_b_3⟩ := w_go g r_a0.so h1
  refine wq_bd e ?_
  obtain ⟨q_1, h2, h⟩ := bd h
  obtain ⟨_, _, _, e, g, x, r_q⟩ := wc_R (f := f29) h2 (fun e => w29 e g (vl_c (va_r r_b_3.so) (vl_c va_i (vl_c va_i vl_n))))
  refine wq_bd e (wq_up x ?_)
  have r_q_1_1 := r_q
  rcases ite_some h with ⟨q, h⟩ | ⟨q, h⟩
  · refine wq_ip (r_q_1_1.non q) ?_
    exact wb161_17 h g 
  · refine wq_in (r_q_1_1.nnn q) ?_
    rcases ite_some h with ⟨q, h⟩ | ⟨q, h⟩
    · refine wq_ip q ?_
      cases h
      exact ⟨_, _, rfl, (vs_g (vl_c va_i (vl_c (va_r r_q_1_1) (vl_c va_l (vl_c va_i vl_n))))), g, ex.rf⟩
    · refine wq_in q ?_
      exact wb161_17 h g 
theorem wb161_57 {v3 : Int32} {o4 : Option Nat} {o4_x : Option Nat} {w5 : Int64} {v7 : Int32} {si0 : Int32} {Y : Nat → Prop} {M0 : hM} {ρ : Nat → Nat} {M H : hM} {res : xRes} (h : b161_57 v3 o4 w5 v7 si0 M = some res) (g : rn Y M0 ρ M H) (r_o4 : vo ρ M o4 o4_x) : wq Y M0 ρ M res (b161_57 v3 o4_x w5 v7 si0 H) := by
  unfold b161_57 at h ⊢
  cases h
  exact ⟨_, _, rfl, (vs_g (vl_c va_i (vl_c (va_r r_o4) (vl_c va_l (vl_c va_i vl_n))))), g, ex.rf⟩
theorem wb161_25 {v3 : Int32} {o4 : Option Nat} {o4_x : Option Nat} {w5 : Int64} {v7 : Int32} {Y : Nat → Prop} {M0 : hM} {ρ : Nat → Nat} {M H : hM} {res : xRes} (h : b161_25 v3 o4 w5 v7 M = some res) (g : rn Y M0 ρ M H) (r_o4 : vo ρ M o4 o4_x) : wq Y M0 ρ M res (b161_25 v3 o4_x w5 v7 H) := by
  unfold b161_25 at h ⊢
  rcases ite_some h with ⟨q, h⟩ | ⟨q, h⟩
  · refine wq_ip q ?_
    cases h
    exact ⟨_, _, rfl, (vs_a va_l), g, ex.rf⟩
  · refine wq_in q ?_
    obtain ⟨v_7, h1, h⟩ := bd h
    refine wq_bd (w_gi g r_o4 h1) ?_
    rcases ite_some h with ⟨q, h⟩ | ⟨q, h⟩
    · refine wq_ip q ?_
      exact wb161_57 h g r_o4
    · refine wq_in q ?_
      obtain ⟨b_11, h2, h⟩ := bd h
      obtain ⟨b_11_x, e, r_b_11⟩ := w_go g r_o4 h2
      refine wq_bd e ?_
      obtain ⟨q_9, h3, h⟩ := bd h
      obtain ⟨_, _, e, g, x⟩ := wc_I (f := f55) h3 (fun e => w55 e g (vl_c (va_r r_b_11.so) (vl_c va_i vl_n)))
      refine wq_bd e (wq_up x ?_)
      have r_o4 := r_o4.up x
      exact wb161_57 h g r_o4
theorem w161 {Y : Nat → Prop} {M0 : hM} {ρ : Nat → Nat} {as as_x : List aV} {M H M' : hM} {r : Option aV} (h : f161 as M = some (r, M')) (g : rn Y M0 ρ M H) (ha : vl ρ M as as_x) : wr Y M0 ρ M r M' (f161 as_x H) := by
  unfold f161 at h
  split at h
  · rename_i a0 v1 v2 v3
    obtain ⟨a0_x, _, rfl, r_a0, ha1⟩ := vl_is ha
    obtain ⟨_, rfl, ha2⟩ := vl_ii ha1
    obtain ⟨_, rfl, ha3⟩ := vl_ii ha2
    obtain ⟨_, rfl, ha4⟩ := vl_ii ha3
    cases vl_in ha4
    show wr Y M0 ρ M r M' (x_go k161 (b161_0 a0_x v1 v2 v3 H))
    refine wx_go (blk := k161) ?_ h (fun res hx => wb161_0 hx g r_a0)
    intro ρ h as as_x M H res hk g ha
    unfold k161 at hk
    split at hk
    · rename_i hh
      subst hh
      split at hk
      · rename_i v3 o4 w5 v7
        obtain ⟨_, rfl, ha1⟩ := vl_ii ha
        obtain ⟨o4_x, _, rfl, r_o4, ha2⟩ := vl_ir ha1
        obtain ⟨_, rfl, ha3⟩ := vl_il ha2
        obtain ⟨_, rfl, ha4⟩ := vl_ii ha3
        cases vl_in ha4
        exact wb161_25 hk g r_o4
      · cases hk
    · skip
      cases hk
  · cases h
theorem wb162_57 {si0 : Int32} {Y : Nat → Prop} {M0 : hM} {ρ : Nat → Nat} {M H : hM} {res : xRes} (h : b162_57 si0 M = some res) (g : rn Y M0 ρ M H)  : wq Y M0 ρ M res (b162_57 si0 H) := by
  unfold b162_57 at h ⊢
  cases h
  exact ⟨_, _, rfl, (vs_a va_i), g, ex.rf⟩
theorem wb162_56  {Y : Nat → Prop} {M0 : hM} {ρ : Nat → Nat} {M H : hM} {res : xRes} (h : b162_56  M = some res) (g : rn Y M0 ρ M H)  : wq Y M0 ρ M res (b162_56  H) := by
  unfold b162_56 at h ⊢
  exact wb162_57 h g 
theorem wb162_0 {a0 : Nat} {a0_x : Nat} {v1 : Int32} {Y : Nat → Prop} {M0 : hM} {ρ : Nat → Nat} {M H : hM} {res : xRes} (h : b162_0 a0 v1 M = some res) (g : rn Y M0 ρ M H) (r_a0 : vn ρ M a0 a0_x) : wq Y M0 ρ M res (b162_0 a0_x v1 H) := by
  unfold b162_0 at h ⊢
  rcases ite_some h with ⟨q, h⟩ | ⟨q, h⟩
  · refine wq_ip q ?_
    obtain ⟨o_15, h1, h⟩ := bd h
    obtain ⟨o_15_x, e, r_o_15⟩ := w_gr g r_a0.so h1
    refine wq_bd e ?_
    obtain ⟨v_17, h2, h⟩ := bd h
    refine wq_bd (w_gi g r_o_15 h2) ?_
    cases h
    exact ⟨_, _, rfl, (vs_a va_i), g, ex.rf⟩
  · refine wq_in q ?_
    rcases ite_some h with ⟨q, h⟩ | ⟨q, h⟩
    · refine wq_ip q ?_
      obtain ⟨v_12, h3, h⟩ := bd h
      refine wq_bd (w_gi g r_a0.so h3) ?_
      cases h
      exact ⟨_, _, rfl, (vs_a va_i), g, ex.rf⟩
    · refine wq_in q ?_
      rcases ite_some h with ⟨q, h⟩ | ⟨q, h⟩
      · refine wq_ip q ?_
        obtain ⟨v_9, h4, h⟩ := bd h
        refine wq_bd (w_gi g r_a0.so h4) ?_
        cases h
        exact ⟨_, _, rfl, (vs_a va_i), g, ex.rf⟩
      · refine wq_in q ?_
        rcases ite_some h with ⟨q, h⟩ | ⟨q, h⟩
        · refine wq_ip q ?_
          exact wb162_56 h g 
        · refine wq_in q ?_
          rcases ite_some h with ⟨q, h⟩ | ⟨q, h⟩
          · refine wq_ip q ?_
            exact wb162_56 h g 
          · refine wq_in q ?_
            obtain ⟨o_1, h5, h⟩ := bd h
            obtain ⟨o_1_x, e, r_o_1⟩ := w_gr g r_a0.so h5
            refine wq_bd e ?_
            obtain ⟨o_3, h6, h⟩ := bd h
            obtain ⟨o_3_x, e, r_o_3⟩ := w_gr g r_o_1 h6
            refine wq_bd e ?_
            obtain ⟨v_5, h7, h⟩ := bd h
            refine wq_bd (w_ali g r_o_3 h7) ?_
            exact wb162_57 h g 
theorem w162 {Y : Nat → Prop} {M0 : hM} {ρ : Nat → Nat} {as as_x : List aV} {M H M' : hM} {r : Option aV} (h : f162 as M = some (r, M')) (g : rn Y M0 ρ M H) (ha : vl ρ M as as_x) : wr Y M0 ρ M r M' (f162 as_x H) := by
  unfold f162 at h
  split at h
  · rename_i a0 v1
    obtain ⟨a0_x, _, rfl, r_a0, ha1⟩ := vl_is ha
    obtain ⟨_, rfl, ha2⟩ := vl_ii ha1
    cases vl_in ha2
    exact wx_out h (fun res hx => wb162_0 hx g r_a0)
  · cases h
theorem wb163_0 {a0 : Nat} {a0_x : Nat} {v1 : Int32} {Y : Nat → Prop} {M0 : hM} {ρ : Nat → Nat} {M H : hM} {res : xRes} (h : b163_0 a0 v1 M = some res) (g : rn Y M0 ρ M H) (r_a0 : vn ρ M a0 a0_x) : wq Y M0 ρ M res (b163_0 a0_x v1 H) := by
  unfold b163_0 at h ⊢
  cases h
  exact ⟨_, _, rfl, (vs_a va_i), g, ex.rf⟩
theorem w163 {Y : Nat → Prop} {M0 : hM} {ρ : Nat → Nat} {as as_x : List aV} {M H M' : hM} {r : Option aV} (h : f163 as M = some (r, M')) (g : rn Y M0 ρ M H) (ha : vl ρ M as as_x) : wr Y M0 ρ M r M' (f163 as_x H) := by
  unfold f163 at h
  split at h
  · rename_i a0 v1
    obtain ⟨a0_x, _, rfl, r_a0, ha1⟩ := vl_is ha
    obtain ⟨_, rfl, ha2⟩ := vl_ii ha1
    cases vl_in ha2
    exact wx_out h (fun res hx => wb163_0 hx g r_a0)
  · cases h
