theorem kb95_0 {a0 : _} {M : hM} {res : xRes} (h : b95_0 a0 M = some res) (hb : bk M) : kp [200, 201, 202, 203, 300, 301, 302, 812, 907] [0, 20, 21] M (r_M res) := by
  have kc : kp [200, 201, 202, 203, 300, 301, 302, 812, 907] [0, 20, 21] M M := kp.rf hb
  unfold b95_0 at h
  cases h
  exact kc
theorem kb95_64 {a0 v1 : _} {M : hM} {res : xRes} (h : b95_64 a0 v1 M = some res) (hb : bk M) : kp [200, 201, 202, 203, 300, 301, 302, 812, 907] [0, 20, 21] M (r_M res) := by
  have kc : kp [200, 201, 202, 203, 300, 301, 302, 812, 907] [0, 20, 21] M M := kp.rf hb
  unfold b95_64 at h
  cases h
  exact kc
theorem kb95_43 {a0 v1 o2 : _} {M : hM} {res : xRes} (h : b95_43 a0 v1 o2 M = some res) (hb : bk M) : kp [200, 201, 202, 203, 300, 301, 302, 812, 907] [0, 20, 21] M (r_M res) := by
  have kc : kp [200, 201, 202, 203, 300, 301, 302, 812, 907] [0, 20, 21] M M := kp.rf hb
  unfold b95_43 at h
  obtain ⟨M17, h1, h⟩ := bd h
  have kc := kc.tr (k_pi h1 kc.1) rfl rfl
  obtain ⟨o_19, -, h⟩ := bd h
  obtain ⟨b_23, -, h⟩ := bd h
  obtain ⟨q_21, h4, h⟩ := bd h
  have kc := kc.tr (kf34 (c_R_some h4) kc.1) rfl rfl
  obtain ⟨b_27, -, h⟩ := bd h
  obtain ⟨q_25, h6, h⟩ := bd h
  have kc := kc.tr (kf39 (c_V_some h6) kc.1) rfl rfl
  exact kc.tt (kb95_64 h kc.1) (fun _ q => q) (fun _ q => q)
theorem kb95_2 {a0 v1 : _} {M : hM} {res : xRes} (h : b95_2 a0 v1 M = some res) (hb : bk M) : kp [200, 201, 202, 203, 300, 301, 302, 812, 907] [0, 20, 21] M (r_M res) := by
  have kc : kp [200, 201, 202, 203, 300, 301, 302, 812, 907] [0, 20, 21] M M := kp.rf hb
  unfold b95_2 at h
  rcases ite_some h with ⟨-, h⟩ | ⟨-, h⟩
  · cases h
    exact kc
  · obtain ⟨o_1, -, h⟩ := bd h
    obtain ⟨o_3, -, h⟩ := bd h
    obtain ⟨v_5, -, h⟩ := bd h
    rcases ite_some h with ⟨-, h⟩ | ⟨-, h⟩
    · exact kc.tt (kb95_64 h kc.1) (fun _ q => q) (fun _ q => q)
    · obtain ⟨v_7, -, h⟩ := bd h
      rcases ite_some h with ⟨-, h⟩ | ⟨-, h⟩
      · obtain ⟨v_9, -, h⟩ := bd h
        obtain ⟨v_11, -, h⟩ := bd h
        rcases ite_some h with ⟨-, h⟩ | ⟨-, h⟩
        · exact kc.tt (kb95_64 h kc.1) (fun _ q => q) (fun _ q => q)
        · exact kc.tt (kb95_43 h kc.1) (fun _ q => q) (fun _ q => q)
      · exact kc.tt (kb95_43 h kc.1) (fun _ q => q) (fun _ q => q)
theorem kf95 {as : List aV} {M M' : hM} {r : Option aV} (h : f95 as M = some (r, M')) (hb : bk M) : kp [200, 201, 202, 203, 300, 301, 302, 812, 907] [0, 20, 21] M M' := by
  unfold f95 at h
  split at h
  · refine kx_go (blk := k95) ?_ h (fun res hx => kb95_0 hx hb)
    intro h as M res hk hb
    unfold k95 at hk
    split at hk
    · split at hk
      · exact kb95_2 hk hb
      · cases hk
    · skip
      cases hk
  · cases h
theorem kb96_26 {si0 : _} {M : hM} {res : xRes} (h : b96_26 si0 M = some res) (hb : bk M) : kp [] [] M (r_M res) := by
  have kc : kp [] [] M M := kp.rf hb
  unfold b96_26 at h
  cases h
  exact kc
theorem kb96_25 {M : hM} {res : xRes} (h : b96_25 M = some res) (hb : bk M) : kp [] [] M (r_M res) := by
  have kc : kp [] [] M M := kp.rf hb
  unfold b96_25 at h
  exact kc.tt (kb96_26 h kc.1) (fun _ q => q) (fun _ q => q)
theorem kb96_0 {a0 v1 : _} {M : hM} {res : xRes} (h : b96_0 a0 v1 M = some res) (hb : bk M) : kp [] [] M (r_M res) := by
  have kc : kp [] [] M M := kp.rf hb
  unfold b96_0 at h
  rcases ite_some h with ⟨-, h⟩ | ⟨-, h⟩
  · exact kc.tt (kb96_25 h kc.1) (fun _ q => q) (fun _ q => q)
  · obtain ⟨v_1, -, h⟩ := bd h
    rcases ite_some h with ⟨-, h⟩ | ⟨-, h⟩
    · exact kc.tt (kb96_25 h kc.1) (fun _ q => q) (fun _ q => q)
    · obtain ⟨o_3, -, h⟩ := bd h
      obtain ⟨v_5, -, h⟩ := bd h
      exact kc.tt (kb96_26 h kc.1) (fun _ q => q) (fun _ q => q)
theorem kf96 {as : List aV} {M M' : hM} {r : Option aV} (h : f96 as M = some (r, M')) (hb : bk M) : kp [] [] M M' := by
  unfold f96 at h
  split at h
  · exact kx_out h (fun res hx => kb96_0 hx hb)
  · cases h
theorem kb97_0 {a0 : _} {M : hM} {res : xRes} (h : b97_0 a0 M = some res) (hb : bk M) : kp [] [] M (r_M res) := by
  have kc : kp [] [] M M := kp.rf hb
  unfold b97_0 at h
  obtain ⟨b_3, -, h⟩ := bd h
  obtain ⟨q_1, h2, h⟩ := bd h
  have kc := kc.tr (kf96 (c_I_some h2) kc.1) rfl rfl
  cases h
  exact kc
theorem kf97 {as : List aV} {M M' : hM} {r : Option aV} (h : f97 as M = some (r, M')) (hb : bk M) : kp [] [] M M' := by
  unfold f97 at h
  split at h
  · exact kx_out h (fun res hx => kb97_0 hx hb)
  · cases h
theorem kb98_0 {a0 v1 : _} {M : hM} {res : xRes} (h : b98_0 a0 v1 M = some res) (hb : bk M) : kp [] [] M (r_M res) := by
  have kc : kp [] [] M M := kp.rf hb
  unfold b98_0 at h
  obtain ⟨b_3, -, h⟩ := bd h
  obtain ⟨q_1, h2, h⟩ := bd h
  have kc := kc.tr (kf96 (c_I_some h2) kc.1) rfl rfl
  cases h
  exact kc
theorem kf98 {as : List aV} {M M' : hM} {r : Option aV} (h : f98 as M = some (r, M')) (hb : bk M) : kp [] [] M M' := by
  unfold f98 at h
  split at h
  · exact kx_out h (fun res hx => kb98_0 hx hb)
  · cases h
theorem kb99_0 {a0 v1 : _} {M : hM} {res : xRes} (h : b99_0 a0 v1 M = some res) (hb : bk M) : kp [] [] M (r_M res) := by
  have kc : kp [] [] M M := kp.rf hb
  unfold b99_0 at h
  obtain ⟨b_3, -, h⟩ := bd h
  obtain ⟨q_1, h2, h⟩ := bd h
  have kc := kc.tr (kf96 (c_I_some h2) kc.1) rfl rfl
  cases h
  exact kc
theorem kf99 {as : List aV} {M M' : hM} {r : Option aV} (h : f99 as M = some (r, M')) (hb : bk M) : kp [] [] M M' := by
  unfold f99 at h
  split at h
  · exact kx_out h (fun res hx => kb99_0 hx hb)
  · cases h
theorem kb100_0 {a0 : _} {M : hM} {res : xRes} (h : b100_0 a0 M = some res) (hb : bk M) : kp [] [20] M (r_M res) := by
  have kc : kp [] [20] M M := kp.rf hb
  unfold b100_0 at h
  cases h
  exact kc
theorem kb100_2 {a0 v1 : _} {M : hM} {res : xRes} (h : b100_2 a0 v1 M = some res) (hb : bk M) : kp [] [20] M (r_M res) := by
  have kc : kp [] [20] M M := kp.rf hb
  unfold b100_2 at h
  obtain ⟨o_1, -, h⟩ := bd h
  obtain ⟨v_3, -, h⟩ := bd h
  rcases ite_some h with ⟨-, h⟩ | ⟨-, h⟩
  · cases h
    exact kc
  · cases h
    exact kc
theorem kb100_13 {a0 v1 v2 : _} {M : hM} {res : xRes} (h : b100_13 a0 v1 v2 M = some res) (hb : bk M) : kp [] [20] M (r_M res) := by
  have kc : kp [] [20] M M := kp.rf hb
  unfold b100_13 at h
  obtain ⟨o_6, -, h⟩ := bd h
  obtain ⟨v_8, -, h⟩ := bd h
  rcases ite_some h with ⟨-, h⟩ | ⟨-, h⟩
  · cases h
    exact kc
  · obtain ⟨o_10, -, h⟩ := bd h
    obtain ⟨o_12, -, h⟩ := bd h
    obtain ⟨M14, h5, h⟩ := bd h
    have kc := kc.tr (k_as_i h5 kc.1 (by decide)) rfl rfl
    cases h
    exact kc
theorem kb100_103 {a0 v1 v2 : _} {M : hM} {res : xRes} (h : b100_103 a0 v1 v2 M = some res) (hb : bk M) : kp [] [20] M (r_M res) := by
  have kc : kp [] [20] M M := kp.rf hb
  unfold b100_103 at h
  cases h
  exact kc
theorem kb100_41 {a0 v1 v2 : _} {M : hM} {res : xRes} (h : b100_41 a0 v1 v2 M = some res) (hb : bk M) : kp [] [20] M (r_M res) := by
  have kc : kp [] [20] M M := kp.rf hb
  unfold b100_41 at h
  obtain ⟨o_17, -, h⟩ := bd h
  obtain ⟨o_19, -, h⟩ := bd h
  obtain ⟨b_23, -, h⟩ := bd h
  obtain ⟨q_21, h4, h⟩ := bd h
  have kc := kc.tr (kf97 (c_I_some h4) kc.1) rfl rfl
  rcases ite_some h with ⟨-, h⟩ | ⟨-, h⟩
  · cases h
    exact kc
  · obtain ⟨o_25, -, h⟩ := bd h
    obtain ⟨o_27, -, h⟩ := bd h
    obtain ⟨b_31, -, h⟩ := bd h
    obtain ⟨q_29, h8, h⟩ := bd h
    have kc := kc.tr (kf98 (c_I_some h8) kc.1) rfl rfl
    obtain ⟨o_33, -, h⟩ := bd h
    obtain ⟨v_35, -, h⟩ := bd h
    rcases ite_some h with ⟨-, h⟩ | ⟨-, h⟩
    · exact kc.tt (kb100_103 h kc.1) (fun _ q => q) (fun _ q => q)
    · obtain ⟨o_37, -, h⟩ := bd h
      obtain ⟨o_39, -, h⟩ := bd h
      obtain ⟨o_41, -, h⟩ := bd h
      obtain ⟨o_43, -, h⟩ := bd h
      obtain ⟨v_45, -, h⟩ := bd h
      obtain ⟨o_47, -, h⟩ := bd h
      obtain ⟨o_49, -, h⟩ := bd h
      obtain ⟨b_53, -, h⟩ := bd h
      obtain ⟨q_51, h19, h⟩ := bd h
      have kc := kc.tr (kf99 (c_I_some h19) kc.1) rfl rfl
      obtain ⟨M55, h20, h⟩ := bd h
      have kc := kc.tr (k_as_i h20 kc.1 (by decide)) rfl rfl
      exact kc.tt (kb100_103 h kc.1) (fun _ q => q) (fun _ q => q)
theorem kf100 {as : List aV} {M M' : hM} {r : Option aV} (h : f100 as M = some (r, M')) (hb : bk M) : kp [] [20] M M' := by
  unfold f100 at h
  split at h
  · refine kx_go (blk := k100) ?_ h (fun res hx => kb100_0 hx hb)
    intro h as M res hk hb
    unfold k100 at hk
    split at hk
    · split at hk
      · exact kb100_2 hk hb
      · cases hk
    · skip
      split at hk
      · split at hk
        · exact kb100_13 hk hb
        · cases hk
      · skip
        split at hk
        · split at hk
          · exact kb100_41 hk hb
          · cases hk
        · skip
          cases hk
  · cases h
theorem kb101_33 {si0 : _} {M : hM} {res : xRes} (h : b101_33 si0 M = some res) (hb : bk M) : kp [] [] M (r_M res) := by
  have kc : kp [] [] M M := kp.rf hb
  unfold b101_33 at h
  rcases ite_some h with ⟨-, h⟩ | ⟨-, h⟩
  · cases h
    exact kc
  · cases h
theorem kb101_32 {M : hM} {res : xRes} (h : b101_32 M = some res) (hb : bk M) : kp [] [] M (r_M res) := by
  have kc : kp [] [] M M := kp.rf hb
  unfold b101_32 at h
  exact kc.tt (kb101_33 h kc.1) (fun _ q => q) (fun _ q => q)
theorem kb101_0 {a0 v1 v2 : _} {M : hM} {res : xRes} (h : b101_0 a0 v1 v2 M = some res) (hb : bk M) : kp [] [] M (r_M res) := by
  have kc : kp [] [] M M := kp.rf hb
  unfold b101_0 at h
  obtain ⟨o_1, -, h⟩ := bd h
  obtain ⟨o_3, -, h⟩ := bd h
  obtain ⟨v_5, -, h⟩ := bd h
  rcases ite_some h with ⟨-, h⟩ | ⟨-, h⟩
  · exact kc.tt (kb101_32 h kc.1) (fun _ q => q) (fun _ q => q)
  · obtain ⟨o_7, -, h⟩ := bd h
    obtain ⟨o_9, -, h⟩ := bd h
    obtain ⟨v_11, -, h⟩ := bd h
    rcases ite_some h with ⟨-, h⟩ | ⟨-, h⟩
    · exact kc.tt (kb101_32 h kc.1) (fun _ q => q) (fun _ q => q)
    · exact kc.tt (kb101_33 h kc.1) (fun _ q => q) (fun _ q => q)
theorem kf101 {as : List aV} {M M' : hM} {r : Option aV} (h : f101 as M = some (r, M')) (hb : bk M) : kp [] [] M M' := by
  unfold f101 at h
  split at h
  · exact kx_out h (fun res hx => kb101_0 hx hb)
  · cases h
theorem kb102_0 {a0 : _} {M : hM} {res : xRes} (h : b102_0 a0 M = some res) (hb : bk M) : kp [] [20] M (r_M res) := by
  have kc : kp [] [20] M M := kp.rf hb
  unfold b102_0 at h
  cases h
  exact kc
theorem kb102_2 {a0 v1 : _} {M : hM} {res : xRes} (h : b102_2 a0 v1 M = some res) (hb : bk M) : kp [] [20] M (r_M res) := by
  have kc : kp [] [20] M M := kp.rf hb
  unfold b102_2 at h
  obtain ⟨o_1, -, h⟩ := bd h
  obtain ⟨v_3, -, h⟩ := bd h
  rcases ite_some h with ⟨-, h⟩ | ⟨-, h⟩
  · cases h
    exact kc
  · cases h
    exact kc
theorem kb102_61 {a0 v1 v2 si0 si1 sr2 : _} {M : hM} {res : xRes} (h : b102_61 a0 v1 v2 si0 si1 sr2 M = some res) (hb : bk M) : kp [] [20] M (r_M res) := by
  have kc : kp [] [20] M M := kp.rf hb
  unfold b102_61 at h
  obtain ⟨M27, h1, h⟩ := bd h
  have kc := kc.tr (k_as_i h1 kc.1 (by decide)) rfl rfl
  cases h
  exact kc
theorem kb102_13 {a0 v1 v2 : _} {M : hM} {res : xRes} (h : b102_13 a0 v1 v2 M = some res) (hb : bk M) : kp [] [20] M (r_M res) := by
  have kc : kp [] [20] M M := kp.rf hb
  unfold b102_13 at h
  obtain ⟨o_6, -, h⟩ := bd h
  obtain ⟨v_8, -, h⟩ := bd h
  rcases ite_some h with ⟨-, h⟩ | ⟨-, h⟩
  · cases h
    exact kc
  · obtain ⟨o_10, -, h⟩ := bd h
    obtain ⟨o_12, -, h⟩ := bd h
    rcases ite_some h with ⟨-, h⟩ | ⟨-, h⟩
    · exact kc.tt (kb102_61 h kc.1) (fun _ q => q) (fun _ q => q)
    · obtain ⟨b_16, -, h⟩ := bd h
      obtain ⟨q_14, h6, h⟩ := bd h
      have kc := kc.tr (kf101 (c_I_some h6) kc.1) rfl rfl
      rcases ite_some h with ⟨-, h⟩ | ⟨-, h⟩
      · exact kc.tt (kb102_61 h kc.1) (fun _ q => q) (fun _ q => q)
      · obtain ⟨o_18, -, h⟩ := bd h
        obtain ⟨o_20, -, h⟩ := bd h
        obtain ⟨v_22, -, h⟩ := bd h
        exact kc.tt (kb102_61 h kc.1) (fun _ q => q) (fun _ q => q)
theorem kb102_76 {a0 v1 : _} {M : hM} {res : xRes} (h : b102_76 a0 v1 M = some res) (hb : bk M) : kp [] [20] M (r_M res) := by
  have kc : kp [] [20] M M := kp.rf hb
  unfold b102_76 at h
  obtain ⟨o_29, -, h⟩ := bd h
  obtain ⟨v_31, -, h⟩ := bd h
  rcases ite_some h with ⟨-, h⟩ | ⟨-, h⟩
  · cases h
    exact kc
  · cases h
    exact kc
theorem kb102_87 {a0 v1 v2 : _} {M : hM} {res : xRes} (h : b102_87 a0 v1 v2 M = some res) (hb : bk M) : kp [] [20] M (r_M res) := by
  have kc : kp [] [20] M M := kp.rf hb
  unfold b102_87 at h
  obtain ⟨o_34, -, h⟩ := bd h
  obtain ⟨v_36, -, h⟩ := bd h
  rcases ite_some h with ⟨-, h⟩ | ⟨-, h⟩
  · cases h
    exact kc
  · cases h
    exact kc
theorem kb102_98 {a0 v1 v2 v3 : _} {M : hM} {res : xRes} (h : b102_98 a0 v1 v2 v3 M = some res) (hb : bk M) : kp [] [20] M (r_M res) := by
  have kc : kp [] [20] M M := kp.rf hb
  unfold b102_98 at h
  obtain ⟨o_39, -, h⟩ := bd h
  obtain ⟨v_41, -, h⟩ := bd h
  rcases ite_some h with ⟨-, h⟩ | ⟨-, h⟩
  · cases h
    exact kc
  · obtain ⟨o_43, -, h⟩ := bd h
    obtain ⟨o_45, -, h⟩ := bd h
    obtain ⟨o_47, -, h⟩ := bd h
    obtain ⟨o_49, -, h⟩ := bd h
    obtain ⟨v_51, -, h⟩ := bd h
    obtain ⟨o_53, -, h⟩ := bd h
    obtain ⟨o_55, -, h⟩ := bd h
    obtain ⟨v_57, -, h⟩ := bd h
    obtain ⟨o_59, -, h⟩ := bd h
    obtain ⟨o_61, -, h⟩ := bd h
    obtain ⟨v_63, -, h⟩ := bd h
    obtain ⟨M65, h14, h⟩ := bd h
    have kc := kc.tr (k_as_i h14 kc.1 (by decide)) rfl rfl
    cases h
    exact kc
theorem kf102 {as : List aV} {M M' : hM} {r : Option aV} (h : f102 as M = some (r, M')) (hb : bk M) : kp [] [20] M M' := by
  unfold f102 at h
  split at h
  · refine kx_go (blk := k102) ?_ h (fun res hx => kb102_0 hx hb)
    intro h as M res hk hb
    unfold k102 at hk
    split at hk
    · split at hk
      · exact kb102_2 hk hb
      · cases hk
    · skip
      split at hk
      · split at hk
        · exact kb102_13 hk hb
        · cases hk
      · skip
        split at hk
        · split at hk
          · exact kb102_76 hk hb
          · cases hk
        · skip
          split at hk
          · split at hk
            · exact kb102_87 hk hb
            · cases hk
          · skip
            split at hk
            · split at hk
              · exact kb102_98 hk hb
              · cases hk
            · skip
              cases hk
  · cases h
theorem kb103_0 {a0 : _} {M : hM} {res : xRes} (h : b103_0 a0 M = some res) (hb : bk M) : kp [] [] M (r_M res) := by
  have kc : kp [] [] M M := kp.rf hb
  unfold b103_0 at h
  obtain ⟨b_3, -, h⟩ := bd h
  obtain ⟨q_1, h2, h⟩ := bd h
  have kc := kc.tr (kf96 (c_I_some h2) kc.1) rfl rfl
  cases h
  exact kc
theorem kf103 {as : List aV} {M M' : hM} {r : Option aV} (h : f103 as M = some (r, M')) (hb : bk M) : kp [] [] M M' := by
  unfold f103 at h
  split at h
  · exact kx_out h (fun res hx => kb103_0 hx hb)
  · cases h
theorem kb104_0 {a0 : _} {M : hM} {res : xRes} (h : b104_0 a0 M = some res) (hb : bk M) : kp [] [20] M (r_M res) := by
  have kc : kp [] [20] M M := kp.rf hb
  unfold b104_0 at h
  cases h
  exact kc
theorem kb104_2 {a0 v1 : _} {M : hM} {res : xRes} (h : b104_2 a0 v1 M = some res) (hb : bk M) : kp [] [20] M (r_M res) := by
  have kc : kp [] [20] M M := kp.rf hb
  unfold b104_2 at h
  obtain ⟨o_1, -, h⟩ := bd h
  obtain ⟨v_3, -, h⟩ := bd h
  rcases ite_some h with ⟨-, h⟩ | ⟨-, h⟩
  · cases h
    exact kc
  · obtain ⟨o_5, -, h⟩ := bd h
    obtain ⟨M7, h4, h⟩ := bd h
    have kc := kc.tr (k_as_i h4 kc.1 (by decide)) rfl rfl
    cases h
    exact kc
theorem kb104_103 {a0 v1 : _} {M : hM} {res : xRes} (h : b104_103 a0 v1 M = some res) (hb : bk M) : kp [] [20] M (r_M res) := by
  have kc : kp [] [20] M M := kp.rf hb
  unfold b104_103 at h
  cases h
  exact kc
theorem kb104_58 {a0 v1 si0 : _} {M : hM} {res : xRes} (h : b104_58 a0 v1 si0 M = some res) (hb : bk M) : kp [] [20] M (r_M res) := by
  have kc : kp [] [20] M M := kp.rf hb
  unfold b104_58 at h
  obtain ⟨o_23, -, h⟩ := bd h
  obtain ⟨o_25, -, h⟩ := bd h
  obtain ⟨b_29, -, h⟩ := bd h
  obtain ⟨q_27, h4, h⟩ := bd h
  have kc := kc.tr (kf103 (c_I_some h4) kc.1) rfl rfl
  rcases ite_some h with ⟨-, h⟩ | ⟨-, h⟩
  · exact kc.tt (kb104_103 h kc.1) (fun _ q => q) (fun _ q => q)
  · rcases ite_some h with ⟨-, h⟩ | ⟨-, h⟩
    · exact kc.tt (kb104_103 h kc.1) (fun _ q => q) (fun _ q => q)
    · obtain ⟨o_31, -, h⟩ := bd h
      obtain ⟨v_33, -, h⟩ := bd h
      rcases ite_some h with ⟨-, h⟩ | ⟨-, h⟩
      · exact kc.tt (kb104_103 h kc.1) (fun _ q => q) (fun _ q => q)
      · obtain ⟨o_35, -, h⟩ := bd h
        obtain ⟨v_37, -, h⟩ := bd h
        rcases ite_some h with ⟨-, h⟩ | ⟨-, h⟩
        · obtain ⟨o_39, -, h⟩ := bd h
          obtain ⟨M41, h10, h⟩ := bd h
          have kc := kc.tr (k_as_i h10 kc.1 (by decide)) rfl rfl
          exact kc.tt (kb104_103 h kc.1) (fun _ q => q) (fun _ q => q)
        · exact kc.tt (kb104_103 h kc.1) (fun _ q => q) (fun _ q => q)
theorem kb104_53 {a0 v1 : _} {M : hM} {res : xRes} (h : b104_53 a0 v1 M = some res) (hb : bk M) : kp [] [20] M (r_M res) := by
  have kc : kp [] [20] M M := kp.rf hb
  unfold b104_53 at h
  exact kc.tt (kb104_58 h kc.1) (fun _ q => q) (fun _ q => q)
theorem kb104_26 {a0 v1 : _} {M : hM} {res : xRes} (h : b104_26 a0 v1 M = some res) (hb : bk M) : kp [] [20] M (r_M res) := by
  have kc : kp [] [20] M M := kp.rf hb
  unfold b104_26 at h
  obtain ⟨o_10, -, h⟩ := bd h
  obtain ⟨v_12, -, h⟩ := bd h
  rcases ite_some h with ⟨-, h⟩ | ⟨-, h⟩
  · cases h
    exact kc
  · obtain ⟨v_14, -, h⟩ := bd h
    rcases ite_some h with ⟨-, h⟩ | ⟨-, h⟩
    · exact kc.tt (kb104_53 h kc.1) (fun _ q => q) (fun _ q => q)
    · obtain ⟨o_16, -, h⟩ := bd h
      obtain ⟨v_18, -, h⟩ := bd h
      rcases ite_some h with ⟨-, h⟩ | ⟨-, h⟩
      · exact kc.tt (kb104_58 h kc.1) (fun _ q => q) (fun _ q => q)
      · exact kc.tt (kb104_53 h kc.1) (fun _ q => q) (fun _ q => q)
theorem kf104 {as : List aV} {M M' : hM} {r : Option aV} (h : f104 as M = some (r, M')) (hb : bk M) : kp [] [20] M M' := by
  unfold f104 at h
  split at h
  · refine kx_go (blk := k104) ?_ h (fun res hx => kb104_0 hx hb)
    intro h as M res hk hb
    unfold k104 at hk
    split at hk
    · split at hk
      · exact kb104_2 hk hb
      · cases hk
    · skip
      split at hk
      · split at hk
        · exact kb104_26 hk hb
        · cases hk
      · skip
        cases hk
  · cases h
theorem kb105_12 {si0 : _} {M : hM} {res : xRes} (h : b105_12 si0 M = some res) (hb : bk M) : kp [] [] M (r_M res) := by
  have kc : kp [] [] M M := kp.rf hb
  unfold b105_12 at h
  rcases ite_some h with ⟨-, h⟩ | ⟨-, h⟩
  · cases h
    exact kc
  · cases h
theorem kb105_0 {a0 : _} {M : hM} {res : xRes} (h : b105_0 a0 M = some res) (hb : bk M) : kp [] [] M (r_M res) := by
  have kc : kp [] [] M M := kp.rf hb
  unfold b105_0 at h
  obtain ⟨v_1, -, h⟩ := bd h
  rcases ite_some h with ⟨-, h⟩ | ⟨-, h⟩
  · exact kc.tt (kb105_12 h kc.1) (fun _ q => q) (fun _ q => q)
  · exact kc.tt (kb105_12 h kc.1) (fun _ q => q) (fun _ q => q)
theorem kf105 {as : List aV} {M M' : hM} {r : Option aV} (h : f105 as M = some (r, M')) (hb : bk M) : kp [] [] M M' := by
  unfold f105 at h
  split at h
  · exact kx_out h (fun res hx => kb105_0 hx hb)
  · cases h
theorem kb106_34 {si0 : _} {M : hM} {res : xRes} (h : b106_34 si0 M = some res) (hb : bk M) : kp [] [] M (r_M res) := by
  have kc : kp [] [] M M := kp.rf hb
  unfold b106_34 at h
  rcases ite_some h with ⟨-, h⟩ | ⟨-, h⟩
  · cases h
    exact kc
  · cases h
theorem kb106_33 {M : hM} {res : xRes} (h : b106_33 M = some res) (hb : bk M) : kp [] [] M (r_M res) := by
  have kc : kp [] [] M M := kp.rf hb
  unfold b106_33 at h
  exact kc.tt (kb106_34 h kc.1) (fun _ q => q) (fun _ q => q)
theorem kb106_0 {a0 v1 : _} {M : hM} {res : xRes} (h : b106_0 a0 v1 M = some res) (hb : bk M) : kp [] [] M (r_M res) := by
  have kc : kp [] [] M M := kp.rf hb
  unfold b106_0 at h
  obtain ⟨o_1, -, h⟩ := bd h
  obtain ⟨o_3, -, h⟩ := bd h
  obtain ⟨b_7, -, h⟩ := bd h
  obtain ⟨q_5, h4, h⟩ := bd h
  have kc := kc.tr (kf103 (c_I_some h4) kc.1) rfl rfl
  obtain ⟨o_9, -, h⟩ := bd h
  obtain ⟨v_11, -, h⟩ := bd h
  rcases ite_some h with ⟨-, h⟩ | ⟨-, h⟩
  · exact kc.tt (kb106_33 h kc.1) (fun _ q => q) (fun _ q => q)
  · obtain ⟨o_13, -, h⟩ := bd h
    obtain ⟨v_15, -, h⟩ := bd h
    rcases ite_some h with ⟨-, h⟩ | ⟨-, h⟩
    · exact kc.tt (kb106_34 h kc.1) (fun _ q => q) (fun _ q => q)
    · exact kc.tt (kb106_33 h kc.1) (fun _ q => q) (fun _ q => q)
theorem kf106 {as : List aV} {M M' : hM} {r : Option aV} (h : f106 as M = some (r, M')) (hb : bk M) : kp [] [] M M' := by
  unfold f106 at h
  split at h
  · exact kx_out h (fun res hx => kb106_0 hx hb)
  · cases h
theorem kb107_0 {a0 v1 : _} {M : hM} {res : xRes} (h : b107_0 a0 v1 M = some res) (hb : bk M) : kp [] [] M (r_M res) := by
  have kc : kp [] [] M M := kp.rf hb
  unfold b107_0 at h
  obtain ⟨b_3, -, h⟩ := bd h
  obtain ⟨q_1, h2, h⟩ := bd h
  have kc := kc.tr (kf96 (c_I_some h2) kc.1) rfl rfl
  cases h
  exact kc
theorem kf107 {as : List aV} {M M' : hM} {r : Option aV} (h : f107 as M = some (r, M')) (hb : bk M) : kp [] [] M M' := by
  unfold f107 at h
  split at h
  · exact kx_out h (fun res hx => kb107_0 hx hb)
  · cases h
theorem kb108_0 {a0 v1 o2 : _} {M : hM} {res : xRes} (h : b108_0 a0 v1 o2 M = some res) (hb : bk M) : kp [] [] M (r_M res) := by
  have kc : kp [] [] M M := kp.rf hb
  unfold b108_0 at h
  obtain ⟨o_1, -, h⟩ := bd h
  obtain ⟨v_3, -, h⟩ := bd h
  obtain ⟨o_5, -, h⟩ := bd h
  obtain ⟨v_7, -, h⟩ := bd h
  rcases ite_some h with ⟨-, h⟩ | ⟨-, h⟩
  · cases h
    exact kc
  · cases h
    exact kc
theorem kb108_94 {a0 v1 o2 v3 : _} {M : hM} {res : xRes} (h : b108_94 a0 v1 o2 v3 M = some res) (hb : bk M) : kp [] [] M (r_M res) := by
  have kc : kp [] [] M M := kp.rf hb
  unfold b108_94 at h
  cases h
  exact kc
theorem kb108_21 {a0 v1 o2 v3 : _} {M : hM} {res : xRes} (h : b108_21 a0 v1 o2 v3 M = some res) (hb : bk M) : kp [] [] M (r_M res) := by
  have kc : kp [] [] M M := kp.rf hb
  unfold b108_21 at h
  obtain ⟨b_12, -, h⟩ := bd h
  obtain ⟨q_10, h2, h⟩ := bd h
  have kc := kc.tr (kf97 (c_I_some h2) kc.1) rfl rfl
  rcases ite_some h with ⟨-, h⟩ | ⟨-, h⟩
  · cases h
    exact kc
  · obtain ⟨b_16, -, h⟩ := bd h
    obtain ⟨q_14, h4, h⟩ := bd h
    have kc := kc.tr (kf98 (c_I_some h4) kc.1) rfl rfl
    obtain ⟨o_18, -, h⟩ := bd h
    obtain ⟨v_20, -, h⟩ := bd h
    rcases ite_some h with ⟨-, h⟩ | ⟨-, h⟩
    · exact kc.tt (kb108_94 h kc.1) (fun _ q => q) (fun _ q => q)
    · obtain ⟨v_22, -, h⟩ := bd h
      obtain ⟨b_26, -, h⟩ := bd h
      obtain ⟨q_24, h9, h⟩ := bd h
      have kc := kc.tr (kf101 (c_I_some h9) kc.1) rfl rfl
      rcases ite_some h with ⟨-, h⟩ | ⟨-, h⟩
      · exact kc.tt (kb108_94 h kc.1) (fun _ q => q) (fun _ q => q)
      · obtain ⟨b_30, -, h⟩ := bd h
        obtain ⟨q_28, h11, h⟩ := bd h
        have kc := kc.tr (kf99 (c_I_some h11) kc.1) rfl rfl
        obtain ⟨o_32, -, h⟩ := bd h
        obtain ⟨o_34, -, h⟩ := bd h
        obtain ⟨v_36, -, h⟩ := bd h
        obtain ⟨o_38, -, h⟩ := bd h
        obtain ⟨v_40, -, h⟩ := bd h
        obtain ⟨o_42, -, h⟩ := bd h
        obtain ⟨v_44, -, h⟩ := bd h
        rcases ite_some h with ⟨-, h⟩ | ⟨-, h⟩
        · obtain ⟨b_48, -, h⟩ := bd h
          obtain ⟨q_46, h20, h⟩ := bd h
          have kc := kc.tr (kf107 (c_I_some h20) kc.1) rfl rfl
          cases h
          exact kc
        · exact kc.tt (kb108_94 h kc.1) (fun _ q => q) (fun _ q => q)
theorem kf108 {as : List aV} {M M' : hM} {r : Option aV} (h : f108 as M = some (r, M')) (hb : bk M) : kp [] [] M M' := by
  unfold f108 at h
  split at h
  · refine kx_go (blk := k108) ?_ h (fun res hx => kb108_0 hx hb)
    intro h as M res hk hb
    unfold k108 at hk
    split at hk
    · split at hk
      · exact kb108_21 hk hb
      · cases hk
    · skip
      cases hk
  · cases h
theorem kb109_0 {a0 : _} {M : hM} {res : xRes} (h : b109_0 a0 M = some res) (hb : bk M) : kp [1010] [20] M (r_M res) := by
  have kc : kp [1010] [20] M M := kp.rf hb
  unfold b109_0 at h
  obtain ⟨b_3, -, h⟩ := bd h
  obtain ⟨q_1, h2, h⟩ := bd h
  have kc := kc.tr (kf100 (c_V_some h2) kc.1) rfl rfl
  obtain ⟨b_7, -, h⟩ := bd h
  obtain ⟨q_5, h4, h⟩ := bd h
  have kc := kc.tr (kf102 (c_V_some h4) kc.1) rfl rfl
  obtain ⟨o_9, -, h⟩ := bd h
  obtain ⟨v_11, -, h⟩ := bd h
  obtain ⟨o_13, -, h⟩ := bd h
  cases h
  exact kc
theorem kb109_52 {a0 o1 v2 si0 si1 sr2 : _} {M : hM} {res : xRes} (h : b109_52 a0 o1 v2 si0 si1 sr2 M = some res) (hb : bk M) : kp [1010] [20] M (r_M res) := by
  have kc : kp [1010] [20] M M := kp.rf hb
  unfold b109_52 at h
  obtain ⟨M45, h1, h⟩ := bd h
  have kc := kc.tr (k_as_i h1 kc.1 (by decide)) rfl rfl
  cases h
  exact kc
theorem kb109_87 {si0 sr1 : _} {M : hM} {res : xRes} (h : b109_87 si0 sr1 M = some res) (hb : bk M) : kp [1010] [20] M (r_M res) := by
  have kc : kp [1010] [20] M M := kp.rf hb
  unfold b109_87 at h
  obtain ⟨M47, h1, h⟩ := bd h
  have kc := kc.tr (k_pz h1 kc.1) rfl rfl
  cases h
  exact kc
theorem kb109_86 {sr0 : _} {M : hM} {res : xRes} (h : b109_86 sr0 M = some res) (hb : bk M) : kp [1010] [20] M (r_M res) := by
  have kc : kp [1010] [20] M M := kp.rf hb
  unfold b109_86 at h
  exact kc.tt (kb109_87 h kc.1) (fun _ q => q) (fun _ q => q)
theorem kb109_20 {a0 o1 v2 : _} {M : hM} {res : xRes} (h : b109_20 a0 o1 v2 M = some res) (hb : bk M) : kp [1010] [20] M (r_M res) := by
  have kc : kp [1010] [20] M M := kp.rf hb
  unfold b109_20 at h
  obtain ⟨o_15, -, h⟩ := bd h
  obtain ⟨v_17, -, h⟩ := bd h
  rcases ite_some h with ⟨-, h⟩ | ⟨-, h⟩
  · obtain ⟨b_21, -, h⟩ := bd h
    obtain ⟨q_19, h4, h⟩ := bd h
    have kc := kc.tr (kf104 (c_V_some h4) kc.1) rfl rfl
    obtain ⟨b_25, -, h⟩ := bd h
    obtain ⟨q_23, h6, h⟩ := bd h
    have kc := kc.tr (kf105 (c_I_some h6) kc.1) rfl rfl
    rcases ite_some h with ⟨-, h⟩ | ⟨-, h⟩
    · exact kc.tt (kb109_86 h kc.1) (fun _ q => q) (fun _ q => q)
    · obtain ⟨v_27, -, h⟩ := bd h
      obtain ⟨b_31, -, h⟩ := bd h
      obtain ⟨q_29, h9, h⟩ := bd h
      have kc := kc.tr (kf106 (c_I_some h9) kc.1) rfl rfl
      rcases ite_some h with ⟨-, h⟩ | ⟨-, h⟩
      · exact kc.tt (kb109_87 h kc.1) (fun _ q => q) (fun _ q => q)
      · exact kc.tt (kb109_86 h kc.1) (fun _ q => q) (fun _ q => q)
  · obtain ⟨o_35, -, h⟩ := bd h
    obtain ⟨v_37, -, h⟩ := bd h
    rcases ite_some h with ⟨-, h⟩ | ⟨-, h⟩
    · exact kc.tt (kb109_52 h kc.1) (fun _ q => q) (fun _ q => q)
    · obtain ⟨b_41, -, h⟩ := bd h
      obtain ⟨q_39, h13, h⟩ := bd h
      have kc := kc.tr (kf108 (c_I_some h13) kc.1) rfl rfl
      exact kc.tt (kb109_52 h kc.1) (fun _ q => q) (fun _ q => q)
theorem kf109 {as : List aV} {M M' : hM} {r : Option aV} (h : f109 as M = some (r, M')) (hb : bk M) : kp [1010] [20] M M' := by
  unfold f109 at h
  split at h
  · refine kx_go (blk := k109) ?_ h (fun res hx => kb109_0 hx hb)
    intro h as M res hk hb
    unfold k109 at hk
    split at hk
    · split at hk
      · exact kb109_20 hk hb
      · cases hk
    · skip
      cases hk
  · cases h
theorem kb110_0 {a0 : _} {M : hM} {res : xRes} (h : b110_0 a0 M = some res) (hb : bk M) : kp [601] [] M (r_M res) := by
  have kc : kp [601] [] M M := kp.rf hb
  unfold b110_0 at h
  obtain ⟨M1, h1, h⟩ := bd h
  have kc := kc.tr (k_pi h1 kc.1) rfl rfl
  cases h
  exact kc
theorem kf110 {as : List aV} {M M' : hM} {r : Option aV} (h : f110 as M = some (r, M')) (hb : bk M) : kp [601] [] M M' := by
  unfold f110 at h
  split at h
  · exact kx_out h (fun res hx => kb110_0 hx hb)
  · cases h
theorem kb111_0 {a0 : _} {M : hM} {res : xRes} (h : b111_0 a0 M = some res) (hb : bk M) : kp [601, 1010] [20] M (r_M res) := by
  have kc : kp [601, 1010] [20] M M := kp.rf hb
  unfold b111_0 at h
  cases h
  exact kc
theorem kb111_51 {a0 v1 v2 : _} {M : hM} {res : xRes} (h : b111_51 a0 v1 v2 M = some res) (hb : bk M) : kp [601, 1010] [20] M (r_M res) := by
  have kc : kp [601, 1010] [20] M M := kp.rf hb
  unfold b111_51 at h
  cases h
  exact kc
theorem kb111_65 {M : hM} {res : xRes} (h : b111_65 M = some res) (hb : bk M) : kp [601, 1010] [20] M (r_M res) := by
  have kc : kp [601, 1010] [20] M M := kp.rf hb
  unfold b111_65 at h
  cases h
  exact kc
theorem kb111_4 {a0 v1 v2 : _} {M : hM} {res : xRes} (h : b111_4 a0 v1 v2 M = some res) (hb : bk M) : kp [601, 1010] [20] M (r_M res) := by
  have kc : kp [601, 1010] [20] M M := kp.rf hb
  unfold b111_4 at h
  obtain ⟨o_1, -, h⟩ := bd h
  obtain ⟨v_3, -, h⟩ := bd h
  rcases ite_some h with ⟨-, h⟩ | ⟨-, h⟩
  · rcases ite_some h with ⟨-, h⟩ | ⟨-, h⟩
    · exact kc.tt (kb111_65 h kc.1) (fun _ q => q) (fun _ q => q)
    · obtain ⟨b_7, -, h⟩ := bd h
      obtain ⟨q_5, h4, h⟩ := bd h
      have kc := kc.tr (kf109 (c_V_some h4) kc.1) rfl rfl
      exact kc.tt (kb111_65 h kc.1) (fun _ q => q) (fun _ q => q)
  · obtain ⟨o_10, -, h⟩ := bd h
    obtain ⟨o_12, -, h⟩ := bd h
    obtain ⟨b_16, -, h⟩ := bd h
    obtain ⟨q_14, h8, h⟩ := bd h
    have kc := kc.tr (kf105 (c_I_some h8) kc.1) rfl rfl
    rcases ite_some h with ⟨-, h⟩ | ⟨-, h⟩
    · exact kc.tt (kb111_51 h kc.1) (fun _ q => q) (fun _ q => q)
    · obtain ⟨o_18, -, h⟩ := bd h
      obtain ⟨v_20, -, h⟩ := bd h
      obtain ⟨v_22, -, h⟩ := bd h
      rcases ite_some h with ⟨-, h⟩ | ⟨-, h⟩
      · exact kc.tt (kb111_51 h kc.1) (fun _ q => q) (fun _ q => q)
      · obtain ⟨b_26, -, h⟩ := bd h
        obtain ⟨q_24, h13, h⟩ := bd h
        have kc := kc.tr (kf110 (c_V_some h13) kc.1) rfl rfl
        exact kc.tt (kb111_51 h kc.1) (fun _ q => q) (fun _ q => q)
theorem kf111 {as : List aV} {M M' : hM} {r : Option aV} (h : f111 as M = some (r, M')) (hb : bk M) : kp [601, 1010] [20] M M' := by
  unfold f111 at h
  split at h
  · refine kx_go (blk := k111) ?_ h (fun res hx => kb111_0 hx hb)
    intro h as M res hk hb
    unfold k111 at hk
    split at hk
    · split at hk
      · exact kb111_4 hk hb
      · cases hk
    · skip
      cases hk
  · cases h
theorem kb112_24 {si0 : _} {M : hM} {res : xRes} (h : b112_24 si0 M = some res) (hb : bk M) : kp [] [] M (r_M res) := by
  have kc : kp [] [] M M := kp.rf hb
  unfold b112_24 at h
  rcases ite_some h with ⟨-, h⟩ | ⟨-, h⟩
  · cases h
    exact kc
  · cases h
theorem kb112_23 {M : hM} {res : xRes} (h : b112_23 M = some res) (hb : bk M) : kp [] [] M (r_M res) := by
  have kc : kp [] [] M M := kp.rf hb
  unfold b112_23 at h
  exact kc.tt (kb112_24 h kc.1) (fun _ q => q) (fun _ q => q)
theorem kb112_0 {a0 : _} {M : hM} {res : xRes} (h : b112_0 a0 M = some res) (hb : bk M) : kp [] [] M (r_M res) := by
  have kc : kp [] [] M M := kp.rf hb
  unfold b112_0 at h
  obtain ⟨o_1, -, h⟩ := bd h
  rcases ite_some h with ⟨-, h⟩ | ⟨-, h⟩
  · exact kc.tt (kb112_23 h kc.1) (fun _ q => q) (fun _ q => q)
  · obtain ⟨o_3, -, h⟩ := bd h
    obtain ⟨v_5, -, h⟩ := bd h
    rcases ite_some h with ⟨-, h⟩ | ⟨-, h⟩
    · exact kc.tt (kb112_23 h kc.1) (fun _ q => q) (fun _ q => q)
    · exact kc.tt (kb112_24 h kc.1) (fun _ q => q) (fun _ q => q)
theorem kf112 {as : List aV} {M M' : hM} {r : Option aV} (h : f112 as M = some (r, M')) (hb : bk M) : kp [] [] M M' := by
  unfold f112 at h
  split at h
  · exact kx_out h (fun res hx => kb112_0 hx hb)
  · cases h
theorem kb113_0 {a0 : _} {M : hM} {res : xRes} (h : b113_0 a0 M = some res) (hb : bk M) : kp [200, 201, 202, 203, 300, 301, 302, 814, 907] [0, 20, 21] M (r_M res) := by
  have kc : kp [200, 201, 202, 203, 300, 301, 302, 814, 907] [0, 20, 21] M M := kp.rf hb
  unfold b113_0 at h
  cases h
  exact kc
theorem kb113_94 {a0 v1 : _} {M : hM} {res : xRes} (h : b113_94 a0 v1 M = some res) (hb : bk M) : kp [200, 201, 202, 203, 300, 301, 302, 814, 907] [0, 20, 21] M (r_M res) := by
  have kc : kp [200, 201, 202, 203, 300, 301, 302, 814, 907] [0, 20, 21] M M := kp.rf hb
  unfold b113_94 at h
  cases h
  exact kc
theorem kb113_2 {a0 v1 : _} {M : hM} {res : xRes} (h : b113_2 a0 v1 M = some res) (hb : bk M) : kp [200, 201, 202, 203, 300, 301, 302, 814, 907] [0, 20, 21] M (r_M res) := by
  have kc : kp [200, 201, 202, 203, 300, 301, 302, 814, 907] [0, 20, 21] M M := kp.rf hb
  unfold b113_2 at h
  rcases ite_some h with ⟨-, h⟩ | ⟨-, h⟩
  · cases h
    exact kc
  · obtain ⟨o_1, -, h⟩ := bd h
    obtain ⟨o_3, -, h⟩ := bd h
    obtain ⟨v_5, -, h⟩ := bd h
    rcases ite_some h with ⟨-, h⟩ | ⟨-, h⟩
    · exact kc.tt (kb113_94 h kc.1) (fun _ q => q) (fun _ q => q)
    · obtain ⟨b_9, -, h⟩ := bd h
      obtain ⟨q_7, h5, h⟩ := bd h
      have kc := kc.tr (kf112 (c_I_some h5) kc.1) rfl rfl
      rcases ite_some h with ⟨-, h⟩ | ⟨-, h⟩
      · exact kc.tt (kb113_94 h kc.1) (fun _ q => q) (fun _ q => q)
      · obtain ⟨v_11, -, h⟩ := bd h
        rcases ite_some h with ⟨-, h⟩ | ⟨-, h⟩
        · obtain ⟨o_13, -, h⟩ := bd h
          obtain ⟨v_15, -, h⟩ := bd h
          obtain ⟨v_17, -, h⟩ := bd h
          rcases ite_some h with ⟨-, h⟩ | ⟨-, h⟩
          · exact kc.tt (kb113_94 h kc.1) (fun _ q => q) (fun _ q => q)
          · obtain ⟨o_19, -, h⟩ := bd h
            obtain ⟨v_21, -, h⟩ := bd h
            obtain ⟨M23, h12, h⟩ := bd h
            have kc := kc.tr (k_pi h12 kc.1) rfl rfl
            obtain ⟨o_25, -, h⟩ := bd h
            obtain ⟨b_29, -, h⟩ := bd h
            obtain ⟨q_27, h15, h⟩ := bd h
            have kc := kc.tr (kf34 (c_R_some h15) kc.1) rfl rfl
            obtain ⟨v_31, -, h⟩ := bd h
            obtain ⟨b_35, -, h⟩ := bd h
            obtain ⟨q_33, h18, h⟩ := bd h
            have kc := kc.tr (kf36 (c_V_some h18) kc.1) rfl rfl
            obtain ⟨b_39, -, h⟩ := bd h
            obtain ⟨q_37, h20, h⟩ := bd h
            have kc := kc.tr (kf39 (c_V_some h20) kc.1) rfl rfl
            exact kc.tt (kb113_94 h kc.1) (fun _ q => q) (fun _ q => q)
        · exact kc.tt (kb113_94 h kc.1) (fun _ q => q) (fun _ q => q)
theorem kf113 {as : List aV} {M M' : hM} {r : Option aV} (h : f113 as M = some (r, M')) (hb : bk M) : kp [200, 201, 202, 203, 300, 301, 302, 814, 907] [0, 20, 21] M M' := by
  unfold f113 at h
  split at h
  · refine kx_go (blk := k113) ?_ h (fun res hx => kb113_0 hx hb)
    intro h as M res hk hb
    unfold k113 at hk
    split at hk
    · split at hk
      · exact kb113_2 hk hb
      · cases hk
    · skip
      cases hk
  · cases h
theorem kb114_33 {M : hM} {res : xRes} (h : b114_33 M = some res) (hb : bk M) : kp [601] [21] M (r_M res) := by
  have kc : kp [601] [21] M M := kp.rf hb
  unfold b114_33 at h
  cases h
  exact kc
theorem kb114_0 {a0 v1 : _} {M : hM} {res : xRes} (h : b114_0 a0 v1 M = some res) (hb : bk M) : kp [601] [21] M (r_M res) := by
  have kc : kp [601] [21] M M := kp.rf hb
  unfold b114_0 at h
  obtain ⟨v_1, -, h⟩ := bd h
  obtain ⟨o_3, -, h⟩ := bd h
  obtain ⟨v_5, -, h⟩ := bd h
  rcases ite_some h with ⟨-, h⟩ | ⟨-, h⟩
  · exact kc.tt (kb114_33 h kc.1) (fun _ q => q) (fun _ q => q)
  · obtain ⟨o_7, -, h⟩ := bd h
    obtain ⟨v_9, -, h⟩ := bd h
    obtain ⟨M11, h6, h⟩ := bd h
    have kc := kc.tr (k_as_b h6 kc.1 (by decide)) rfl rfl
    obtain ⟨v_13, -, h⟩ := bd h
    obtain ⟨M15, h8, h⟩ := bd h
    have kc := kc.tr (k_pi h8 kc.1) rfl rfl
    exact kc.tt (kb114_33 h kc.1) (fun _ q => q) (fun _ q => q)
theorem kf114 {as : List aV} {M M' : hM} {r : Option aV} (h : f114 as M = some (r, M')) (hb : bk M) : kp [601] [21] M M' := by
  unfold f114 at h
  split at h
  · exact kx_out h (fun res hx => kb114_0 hx hb)
  · cases h
theorem kb115_24 {si0 : _} {M : hM} {res : xRes} (h : b115_24 si0 M = some res) (hb : bk M) : kp [] [] M (r_M res) := by
  have kc : kp [] [] M M := kp.rf hb
  unfold b115_24 at h
  rcases ite_some h with ⟨-, h⟩ | ⟨-, h⟩
  · cases h
    exact kc
  · cases h
theorem kb115_23 {M : hM} {res : xRes} (h : b115_23 M = some res) (hb : bk M) : kp [] [] M (r_M res) := by
  have kc : kp [] [] M M := kp.rf hb
  unfold b115_23 at h
  exact kc.tt (kb115_24 h kc.1) (fun _ q => q) (fun _ q => q)
theorem kb115_0 {a0 : _} {M : hM} {res : xRes} (h : b115_0 a0 M = some res) (hb : bk M) : kp [] [] M (r_M res) := by
  have kc : kp [] [] M M := kp.rf hb
  unfold b115_0 at h
  obtain ⟨o_1, -, h⟩ := bd h
  rcases ite_some h with ⟨-, h⟩ | ⟨-, h⟩
  · exact kc.tt (kb115_23 h kc.1) (fun _ q => q) (fun _ q => q)
  · obtain ⟨o_3, -, h⟩ := bd h
    obtain ⟨v_5, -, h⟩ := bd h
    rcases ite_some h with ⟨-, h⟩ | ⟨-, h⟩
    · exact kc.tt (kb115_23 h kc.1) (fun _ q => q) (fun _ q => q)
    · exact kc.tt (kb115_24 h kc.1) (fun _ q => q) (fun _ q => q)
theorem kf115 {as : List aV} {M M' : hM} {r : Option aV} (h : f115 as M = some (r, M')) (hb : bk M) : kp [] [] M M' := by
  unfold f115 at h
  split at h
  · exact kx_out h (fun res hx => kb115_0 hx hb)
  · cases h
theorem kb116_21 {si0 : _} {M : hM} {res : xRes} (h : b116_21 si0 M = some res) (hb : bk M) : kp [] [] M (r_M res) := by
  have kc : kp [] [] M M := kp.rf hb
  unfold b116_21 at h
  cases h
  exact kc
theorem kb116_0 {a0 : _} {M : hM} {res : xRes} (h : b116_0 a0 M = some res) (hb : bk M) : kp [] [] M (r_M res) := by
  have kc : kp [] [] M M := kp.rf hb
  unfold b116_0 at h
  obtain ⟨b_3, -, h⟩ := bd h
  obtain ⟨q_1, h2, h⟩ := bd h
  have kc := kc.tr (kf115 (c_I_some h2) kc.1) rfl rfl
  rcases ite_some h with ⟨-, h⟩ | ⟨-, h⟩
  · exact kc.tt (kb116_21 h kc.1) (fun _ q => q) (fun _ q => q)
  · obtain ⟨o_5, -, h⟩ := bd h
    obtain ⟨v_7, -, h⟩ := bd h
    exact kc.tt (kb116_21 h kc.1) (fun _ q => q) (fun _ q => q)
theorem kf116 {as : List aV} {M M' : hM} {r : Option aV} (h : f116 as M = some (r, M')) (hb : bk M) : kp [] [] M M' := by
  unfold f116 at h
  split at h
  · exact kx_out h (fun res hx => kb116_0 hx hb)
  · cases h
theorem kb117_0 {a0 : _} {M : hM} {res : xRes} (h : b117_0 a0 M = some res) (hb : bk M) : kp [601] [21] M (r_M res) := by
  have kc : kp [601] [21] M M := kp.rf hb
  unfold b117_0 at h
  cases h
  exact kc
theorem kb117_51 {a0 v1 v3 si0 si1 : _} {M : hM} {res : xRes} (h : b117_51 a0 v1 v3 si0 si1 M = some res) (hb : bk M) : kp [601] [21] M (r_M res) := by
  have kc : kp [601] [21] M M := kp.rf hb
  unfold b117_51 at h
  cases h
  exact kc
theorem kb117_31 {a0 v2 v3 si0 si1 : _} {M : hM} {res : xRes} (h : b117_31 a0 v2 v3 si0 si1 M = some res) (hb : bk M) : kp [601] [21] M (r_M res) := by
  have kc : kp [601] [21] M M := kp.rf hb
  unfold b117_31 at h
  obtain ⟨o_23, -, h⟩ := bd h
  obtain ⟨o_25, -, h⟩ := bd h
  obtain ⟨v_27, -, h⟩ := bd h
  rcases ite_some h with ⟨-, h⟩ | ⟨-, h⟩
  · exact kc.tt (kb117_51 h kc.1) (fun _ q => q) (fun _ q => q)
  · exact kc.tt (kb117_51 h kc.1) (fun _ q => q) (fun _ q => q)
theorem kb117_6 {a0 v1 v2 v3 : _} {M : hM} {res : xRes} (h : b117_6 a0 v1 v2 v3 M = some res) (hb : bk M) : kp [601] [21] M (r_M res) := by
  have kc : kp [601] [21] M M := kp.rf hb
  unfold b117_6 at h
  rcases ite_some h with ⟨-, h⟩ | ⟨-, h⟩
  · obtain ⟨o_1, -, h⟩ := bd h
    obtain ⟨b_5, -, h⟩ := bd h
    obtain ⟨q_3, h3, h⟩ := bd h
    have kc := kc.tr (kf110 (c_V_some h3) kc.1) rfl rfl
    obtain ⟨o_7, -, h⟩ := bd h
    obtain ⟨v_9, -, h⟩ := bd h
    obtain ⟨b_13, -, h⟩ := bd h
    obtain ⟨q_11, h7, h⟩ := bd h
    have kc := kc.tr (kf114 (c_V_some h7) kc.1) rfl rfl
    cases h
    exact kc
  · obtain ⟨o_15, -, h⟩ := bd h
    obtain ⟨o_17, -, h⟩ := bd h
    obtain ⟨v_19, -, h⟩ := bd h
    rcases ite_some h with ⟨-, h⟩ | ⟨-, h⟩
    · exact kc.tt (kb117_31 h kc.1) (fun _ q => q) (fun _ q => q)
    · exact kc.tt (kb117_31 h kc.1) (fun _ q => q) (fun _ q => q)
theorem kb117_79 {a0 v1 v2 v3 : _} {M : hM} {res : xRes} (h : b117_79 a0 v1 v2 v3 M = some res) (hb : bk M) : kp [601] [21] M (r_M res) := by
  have kc : kp [601] [21] M M := kp.rf hb
  unfold b117_79 at h
  rcases ite_some h with ⟨-, h⟩ | ⟨-, h⟩
  · obtain ⟨o_30, -, h⟩ := bd h
    obtain ⟨v_32, -, h⟩ := bd h
    obtain ⟨b_36, -, h⟩ := bd h
    obtain ⟨q_34, h4, h⟩ := bd h
    have kc := kc.tr (kf114 (c_V_some h4) kc.1) rfl rfl
    obtain ⟨o_38, -, h⟩ := bd h
    obtain ⟨b_42, -, h⟩ := bd h
    obtain ⟨q_40, h7, h⟩ := bd h
    have kc := kc.tr (kf114 (c_V_some h7) kc.1) rfl rfl
    cases h
    exact kc
  · obtain ⟨o_44, -, h⟩ := bd h
    obtain ⟨b_48, -, h⟩ := bd h
    obtain ⟨q_46, h10, h⟩ := bd h
    have kc := kc.tr (kf114 (c_V_some h10) kc.1) rfl rfl
    cases h
    exact kc
theorem kb117_178 {a0 v2 v3 : _} {M : hM} {res : xRes} (h : b117_178 a0 v2 v3 M = some res) (hb : bk M) : kp [601] [21] M (r_M res) := by
  have kc : kp [601] [21] M M := kp.rf hb
  unfold b117_178 at h
  cases h
  exact kc
theorem kb117_119 {a0 v2 v3 : _} {M : hM} {res : xRes} (h : b117_119 a0 v2 v3 M = some res) (hb : bk M) : kp [601] [21] M (r_M res) := by
  have kc : kp [601] [21] M M := kp.rf hb
  unfold b117_119 at h
  rcases ite_some h with ⟨-, h⟩ | ⟨-, h⟩
  · obtain ⟨o_51, -, h⟩ := bd h
    obtain ⟨b_55, -, h⟩ := bd h
    obtain ⟨q_53, h3, h⟩ := bd h
    have kc := kc.tr (kf114 (c_V_some h3) kc.1) rfl rfl
    cases h
    exact kc
  · obtain ⟨o_57, -, h⟩ := bd h
    obtain ⟨o_59, -, h⟩ := bd h
    obtain ⟨v_61, -, h⟩ := bd h
    rcases ite_some h with ⟨-, h⟩ | ⟨-, h⟩
    · exact kc.tt (kb117_178 h kc.1) (fun _ q => q) (fun _ q => q)
    · obtain ⟨o_63, -, h⟩ := bd h
      obtain ⟨b_67, -, h⟩ := bd h
      obtain ⟨q_65, h9, h⟩ := bd h
      have kc := kc.tr (kf114 (c_V_some h9) kc.1) rfl rfl
      obtain ⟨o_69, -, h⟩ := bd h
      obtain ⟨o_71, -, h⟩ := bd h
      obtain ⟨o_73, -, h⟩ := bd h
      obtain ⟨v_75, -, h⟩ := bd h
      obtain ⟨b_79, -, h⟩ := bd h
      obtain ⟨q_77, h15, h⟩ := bd h
      have kc := kc.tr (kf114 (c_V_some h15) kc.1) rfl rfl
      obtain ⟨o_81, -, h⟩ := bd h
      obtain ⟨o_83, -, h⟩ := bd h
      obtain ⟨o_85, -, h⟩ := bd h
      obtain ⟨v_87, -, h⟩ := bd h
      obtain ⟨b_91, -, h⟩ := bd h
      obtain ⟨q_89, h21, h⟩ := bd h
      have kc := kc.tr (kf114 (c_V_some h21) kc.1) rfl rfl
      exact kc.tt (kb117_178 h kc.1) (fun _ q => q) (fun _ q => q)
theorem kb117_236 {a0 v3 : _} {M : hM} {res : xRes} (h : b117_236 a0 v3 M = some res) (hb : bk M) : kp [601] [21] M (r_M res) := by
  have kc : kp [601] [21] M M := kp.rf hb
  unfold b117_236 at h
  cases h
  exact kc
theorem kb117_194 {a0 v3 : _} {M : hM} {res : xRes} (h : b117_194 a0 v3 M = some res) (hb : bk M) : kp [601] [21] M (r_M res) := by
  have kc : kp [601] [21] M M := kp.rf hb
  unfold b117_194 at h
  rcases ite_some h with ⟨-, h⟩ | ⟨-, h⟩
  · cases h
    exact kc
  · obtain ⟨o_95, -, h⟩ := bd h
    obtain ⟨o_97, -, h⟩ := bd h
    obtain ⟨v_99, -, h⟩ := bd h
    rcases ite_some h with ⟨-, h⟩ | ⟨-, h⟩
    · exact kc.tt (kb117_236 h kc.1) (fun _ q => q) (fun _ q => q)
    · obtain ⟨o_101, -, h⟩ := bd h
      obtain ⟨o_103, -, h⟩ := bd h
      obtain ⟨o_105, -, h⟩ := bd h
      obtain ⟨b_109, -, h⟩ := bd h
      obtain ⟨q_107, h8, h⟩ := bd h
      have kc := kc.tr (kf116 (c_I_some h8) kc.1) rfl rfl
      obtain ⟨b_113, -, h⟩ := bd h
      obtain ⟨q_111, h10, h⟩ := bd h
      have kc := kc.tr (kf114 (c_V_some h10) kc.1) rfl rfl
      obtain ⟨o_115, -, h⟩ := bd h
      obtain ⟨b_119, -, h⟩ := bd h
      obtain ⟨q_117, h13, h⟩ := bd h
      have kc := kc.tr (kf114 (c_V_some h13) kc.1) rfl rfl
      exact kc.tt (kb117_236 h kc.1) (fun _ q => q) (fun _ q => q)
theorem kf117 {as : List aV} {M M' : hM} {r : Option aV} (h : f117 as M = some (r, M')) (hb : bk M) : kp [601] [21] M M' := by
  unfold f117 at h
  split at h
  · refine kx_go (blk := k117) ?_ h (fun res hx => kb117_0 hx hb)
    intro h as M res hk hb
    unfold k117 at hk
    split at hk
    · split at hk
      · exact kb117_6 hk hb
      · cases hk
    · skip
      split at hk
      · split at hk
        · exact kb117_79 hk hb
        · cases hk
      · skip
        split at hk
        · split at hk
          · exact kb117_119 hk hb
          · cases hk
        · skip
          split at hk
          · split at hk
            · exact kb117_194 hk hb
            · cases hk
          · skip
            cases hk
  · cases h
theorem kb118_0 {a0 : _} {M : hM} {res : xRes} (h : b118_0 a0 M = some res) (hb : bk M) : kp [] [] M (r_M res) := by
  have kc : kp [] [] M M := kp.rf hb
  unfold b118_0 at h
  obtain ⟨b_3, -, h⟩ := bd h
  obtain ⟨q_1, h2, h⟩ := bd h
  have kc := kc.tr (kf96 (c_I_some h2) kc.1) rfl rfl
  obtain ⟨b_7, -, h⟩ := bd h
  obtain ⟨q_5, h4, h⟩ := bd h
  have kc := kc.tr (kf96 (c_I_some h4) kc.1) rfl rfl
  obtain ⟨b_11, -, h⟩ := bd h
  obtain ⟨q_9, h6, h⟩ := bd h
  have kc := kc.tr (kf96 (c_I_some h6) kc.1) rfl rfl
  cases h
  exact kc
theorem kf118 {as : List aV} {M M' : hM} {r : Option aV} (h : f118 as M = some (r, M')) (hb : bk M) : kp [] [] M M' := by
  unfold f118 at h
  split at h
  · exact kx_out h (fun res hx => kb118_0 hx hb)
  · cases h
theorem kb119_0 {a0 v1 : _} {M : hM} {res : xRes} (h : b119_0 a0 v1 M = some res) (hb : bk M) : kp [] [21] M (r_M res) := by
  have kc : kp [] [21] M M := kp.rf hb
  unfold b119_0 at h
  obtain ⟨o_1, -, h⟩ := bd h
  obtain ⟨M3, h2, h⟩ := bd h
  have kc := kc.tr (k_as_b h2 kc.1 (by decide)) rfl rfl
  obtain ⟨o_5, -, h⟩ := bd h
  obtain ⟨M7, h4, h⟩ := bd h
  have kc := kc.tr (k_as_b h4 kc.1 (by decide)) rfl rfl
  obtain ⟨o_9, -, h⟩ := bd h
  obtain ⟨M11, h6, h⟩ := bd h
  have kc := kc.tr (k_as_b h6 kc.1 (by decide)) rfl rfl
  cases h
  exact kc
theorem kf119 {as : List aV} {M M' : hM} {r : Option aV} (h : f119 as M = some (r, M')) (hb : bk M) : kp [] [21] M M' := by
  unfold f119 at h
  split at h
  · exact kx_out h (fun res hx => kb119_0 hx hb)
  · cases h
theorem kb120_0 {a0 o1 : _} {M : hM} {res : xRes} (h : b120_0 a0 o1 M = some res) (hb : bk M) : kp [201] [21] M (r_M res) := by
  have kc : kp [201] [21] M M := kp.rf hb
  unfold b120_0 at h
  cases h
  exact kc
theorem kb120_50 {M : hM} {res : xRes} (h : b120_50 M = some res) (hb : bk M) : kp [201] [21] M (r_M res) := by
  have kc : kp [201] [21] M M := kp.rf hb
  unfold b120_50 at h
  cases h
  exact kc
theorem kb120_2 {a0 o1 v2 : _} {M : hM} {res : xRes} (h : b120_2 a0 o1 v2 M = some res) (hb : bk M) : kp [201] [21] M (r_M res) := by
  have kc : kp [201] [21] M M := kp.rf hb
  unfold b120_2 at h
  obtain ⟨v_1, -, h⟩ := bd h
  rcases ite_some h with ⟨-, h⟩ | ⟨-, h⟩
  · exact kc.tt (kb120_50 h kc.1) (fun _ q => q) (fun _ q => q)
  · obtain ⟨v_3, -, h⟩ := bd h
    rcases ite_some h with ⟨-, h⟩ | ⟨-, h⟩
    · exact kc.tt (kb120_50 h kc.1) (fun _ q => q) (fun _ q => q)
    · obtain ⟨o_5, -, h⟩ := bd h
      obtain ⟨v_7, -, h⟩ := bd h
      obtain ⟨b_11, -, h⟩ := bd h
      obtain ⟨q_9, h6, h⟩ := bd h
      have kc := kc.tr (kf96 (c_I_some h6) kc.1) rfl rfl
      obtain ⟨M13, h7, h⟩ := bd h
      have kc := kc.tr (k_as_b h7 kc.1 (by decide)) rfl rfl
      obtain ⟨v_15, -, h⟩ := bd h
      obtain ⟨M17, h9, h⟩ := bd h
      have kc := kc.tr (k_pi h9 kc.1) rfl rfl
      cases h
      exact kc
theorem kf120 {as : List aV} {M M' : hM} {r : Option aV} (h : f120 as M = some (r, M')) (hb : bk M) : kp [201] [21] M M' := by
  unfold f120 at h
  split at h
  · refine kx_go (blk := k120) ?_ h (fun res hx => kb120_0 hx hb)
    intro h as M res hk hb
    unfold k120 at hk
    split at hk
    · split at hk
      · exact kb120_2 hk hb
      · cases hk
    · skip
      cases hk
  · cases h
theorem kb121_0 {a0 o1 o2 : _} {M : hM} {res : xRes} (h : b121_0 a0 o1 o2 M = some res) (hb : bk M) : kp [200, 201, 202, 203, 300, 301, 302, 907] [0, 20, 21] M (r_M res) := by
  have kc : kp [200, 201, 202, 203, 300, 301, 302, 907] [0, 20, 21] M M := kp.rf hb
  unfold b121_0 at h
  obtain ⟨o_1, -, h⟩ := bd h
  obtain ⟨b_5, -, h⟩ := bd h
  obtain ⟨q_3, h3, h⟩ := bd h
  have kc := kc.tr (kf34 (c_R_some h3) kc.1) rfl rfl
  obtain ⟨b_9, -, h⟩ := bd h
  obtain ⟨q_7, h5, h⟩ := bd h
  have kc := kc.tr (kf120 (c_V_some h5) kc.1) rfl rfl
  obtain ⟨b_13, -, h⟩ := bd h
  obtain ⟨q_11, h7, h⟩ := bd h
  have kc := kc.tr (kf39 (c_V_some h7) kc.1) rfl rfl
  cases h
  exact kc
theorem kf121 {as : List aV} {M M' : hM} {r : Option aV} (h : f121 as M = some (r, M')) (hb : bk M) : kp [200, 201, 202, 203, 300, 301, 302, 907] [0, 20, 21] M M' := by
  unfold f121 at h
  split at h
  · exact kx_out h (fun res hx => kb121_0 hx hb)
  · cases h
theorem kb122_0 {a0 o1 v2 : _} {M : hM} {res : xRes} (h : b122_0 a0 o1 v2 M = some res) (hb : bk M) : kp [200, 201, 202, 203, 300, 301, 302, 907] [0, 20, 21] M (r_M res) := by
  have kc : kp [200, 201, 202, 203, 300, 301, 302, 907] [0, 20, 21] M M := kp.rf hb
  unfold b122_0 at h
  cases h
  exact kc
theorem kb122_37 {a0 o1 v2 v3 : _} {M : hM} {res : xRes} (h : b122_37 a0 o1 v2 v3 M = some res) (hb : bk M) : kp [200, 201, 202, 203, 300, 301, 302, 907] [0, 20, 21] M (r_M res) := by
  have kc : kp [200, 201, 202, 203, 300, 301, 302, 907] [0, 20, 21] M M := kp.rf hb
  unfold b122_37 at h
  cases h
  exact kc
theorem kb122_2 {a0 o1 v2 v3 : _} {M : hM} {res : xRes} (h : b122_2 a0 o1 v2 v3 M = some res) (hb : bk M) : kp [200, 201, 202, 203, 300, 301, 302, 907] [0, 20, 21] M (r_M res) := by
  have kc : kp [200, 201, 202, 203, 300, 301, 302, 907] [0, 20, 21] M M := kp.rf hb
  unfold b122_2 at h
  rcases ite_some h with ⟨-, h⟩ | ⟨-, h⟩
  · cases h
    exact kc
  · rcases ite_some h with ⟨-, h⟩ | ⟨-, h⟩
    · exact kc.tt (kb122_37 h kc.1) (fun _ q => q) (fun _ q => q)
    · obtain ⟨o_1, -, h⟩ := bd h
      obtain ⟨o_3, -, h⟩ := bd h
      obtain ⟨v_5, -, h⟩ := bd h
      rcases ite_some h with ⟨-, h⟩ | ⟨-, h⟩
      · exact kc.tt (kb122_37 h kc.1) (fun _ q => q) (fun _ q => q)
      · obtain ⟨o_7, -, h⟩ := bd h
        obtain ⟨o_9, -, h⟩ := bd h
        obtain ⟨b_13, -, h⟩ := bd h
        obtain ⟨q_11, h7, h⟩ := bd h
        have kc := kc.tr (kf121 (c_V_some h7) kc.1) rfl rfl
        exact kc.tt (kb122_37 h kc.1) (fun _ q => q) (fun _ q => q)
theorem kf122 {as : List aV} {M M' : hM} {r : Option aV} (h : f122 as M = some (r, M')) (hb : bk M) : kp [200, 201, 202, 203, 300, 301, 302, 907] [0, 20, 21] M M' := by
  unfold f122 at h
  split at h
  · refine kx_go (blk := k122) ?_ h (fun res hx => kb122_0 hx hb)
    intro h as M res hk hb
    unfold k122 at hk
    split at hk
    · split at hk
      · exact kb122_2 hk hb
      · cases hk
    · skip
      cases hk
  · cases h
theorem kb123_0 {a0 o1 : _} {M : hM} {res : xRes} (h : b123_0 a0 o1 M = some res) (hb : bk M) : kp [] [] M (r_M res) := by
  have kc : kp [] [] M M := kp.rf hb
  unfold b123_0 at h
  obtain ⟨v_1, -, h⟩ := bd h
  obtain ⟨v_3, -, h⟩ := bd h
  rcases ite_some h with ⟨-, h⟩ | ⟨-, h⟩
  · cases h
    exact kc
  · cases h
    exact kc
theorem kb123_15 {a0 o1 v2 : _} {M : hM} {res : xRes} (h : b123_15 a0 o1 v2 M = some res) (hb : bk M) : kp [] [] M (r_M res) := by
  have kc : kp [] [] M M := kp.rf hb
  unfold b123_15 at h
  obtain ⟨v_6, -, h⟩ := bd h
  rcases ite_some h with ⟨-, h⟩ | ⟨-, h⟩
  · cases h
    exact kc
  · obtain ⟨o_8, -, h⟩ := bd h
    obtain ⟨v_10, -, h⟩ := bd h
    obtain ⟨o_12, -, h⟩ := bd h
    obtain ⟨v_14, -, h⟩ := bd h
    rcases ite_some h with ⟨-, h⟩ | ⟨-, h⟩
    · cases h
      exact kc
    · cases h
      exact kc
theorem kf123 {as : List aV} {M M' : hM} {r : Option aV} (h : f123 as M = some (r, M')) (hb : bk M) : kp [] [] M M' := by
  unfold f123 at h
  split at h
  · refine kx_go (blk := k123) ?_ h (fun res hx => kb123_0 hx hb)
    intro h as M res hk hb
    unfold k123 at hk
    split at hk
    · split at hk
      · exact kb123_15 hk hb
      · cases hk
    · skip
      cases hk
  · cases h
theorem kb124_50 {a0 o1 : _} {M : hM} {res : xRes} (h : b124_50 a0 o1 M = some res) (hb : bk M) : kp [200, 201, 202, 203, 300, 301, 302, 601, 602, 907, 1005, 1010] [0, 20, 21, 36] M (r_M res) := by
  have kc : kp [200, 201, 202, 203, 300, 301, 302, 601, 602, 907, 1005, 1010] [0, 20, 21, 36] M M := kp.rf hb
  unfold b124_50 at h
  obtain ⟨o_30, -, h⟩ := bd h
  obtain ⟨b_34, -, h⟩ := bd h
  obtain ⟨q_32, h3, h⟩ := bd h
  have kc := kc.tr (kf118 (c_I_some h3) kc.1) rfl rfl
  obtain ⟨b_38, -, h⟩ := bd h
  obtain ⟨q_36, h5, h⟩ := bd h
  have kc := kc.tr (kf119 (c_V_some h5) kc.1) rfl rfl
  obtain ⟨o_40, -, h⟩ := bd h
  obtain ⟨o_42, -, h⟩ := bd h
  obtain ⟨v_44, -, h⟩ := bd h
  obtain ⟨M46, h9, h⟩ := bd h
  have kc := kc.tr (k_pi h9 kc.1) rfl rfl
  obtain ⟨o_48, -, h⟩ := bd h
  obtain ⟨v_50, -, h⟩ := bd h
  obtain ⟨o_52, -, h⟩ := bd h
  obtain ⟨M54, h13, h⟩ := bd h
  have kc := kc.tr (k_as_r h13 kc.1) rfl rfl
  obtain ⟨M56, h14, h⟩ := bd h
  have kc := kc.tr (k_pr h14 kc.1) rfl rfl
  obtain ⟨o_58, -, h⟩ := bd h
  obtain ⟨b_62, -, h⟩ := bd h
  obtain ⟨q_60, h17, h⟩ := bd h
  have kc := kc.tr (kf37 (c_V_some h17) kc.1) rfl rfl
  obtain ⟨b_66, -, h⟩ := bd h
  obtain ⟨q_64, h19, h⟩ := bd h
  have kc := kc.tr (kf109 (c_V_some h19) kc.1) rfl rfl
  obtain ⟨o_68, -, h⟩ := bd h
  obtain ⟨v_70, -, h⟩ := bd h
  obtain ⟨o_72, -, h⟩ := bd h
  obtain ⟨b_76, -, h⟩ := bd h
  obtain ⟨q_74, h24, h⟩ := bd h
  have kc := kc.tr (kf122 (c_V_some h24) kc.1) rfl rfl
  cases h
  exact kc
theorem kb124_0 {a0 : _} {M : hM} {res : xRes} (h : b124_0 a0 M = some res) (hb : bk M) : kp [200, 201, 202, 203, 300, 301, 302, 601, 602, 907, 1005, 1010] [0, 20, 21, 36] M (r_M res) := by
  have kc : kp [200, 201, 202, 203, 300, 301, 302, 601, 602, 907, 1005, 1010] [0, 20, 21, 36] M M := kp.rf hb
  unfold b124_0 at h
  obtain ⟨o_1, -, h⟩ := bd h
  obtain ⟨v_3, -, h⟩ := bd h
  obtain ⟨o_5, -, h⟩ := bd h
  obtain ⟨b_9, -, h⟩ := bd h
  obtain ⟨q_7, h5, h⟩ := bd h
  have kc := kc.tr (kf117 (c_V_some h5) kc.1) rfl rfl
  obtain ⟨b_13, -, h⟩ := bd h
  obtain ⟨q_11, h7, h⟩ := bd h
  have kc := kc.tr (kf105 (c_I_some h7) kc.1) rfl rfl
  rcases ite_some h with ⟨-, h⟩ | ⟨-, h⟩
  · exact kc.tt (kb124_50 h kc.1) (fun _ q => q) (fun _ q => q)
  · obtain ⟨o_15, -, h⟩ := bd h
    obtain ⟨b_19, -, h⟩ := bd h
    obtain ⟨q_17, h10, h⟩ := bd h
    have kc := kc.tr (kf123 (c_I_some h10) kc.1) rfl rfl
    rcases ite_some h with ⟨-, h⟩ | ⟨-, h⟩
    · exact kc.tt (kb124_50 h kc.1) (fun _ q => q) (fun _ q => q)
    · obtain ⟨o_21, -, h⟩ := bd h
      obtain ⟨v_23, -, h⟩ := bd h
      obtain ⟨v_25, -, h⟩ := bd h
      rcases ite_some h with ⟨-, h⟩ | ⟨-, h⟩
      · exact kc.tt (kb124_50 h kc.1) (fun _ q => q) (fun _ q => q)
      · cases h
        exact kc
theorem kf124 {as : List aV} {M M' : hM} {r : Option aV} (h : f124 as M = some (r, M')) (hb : bk M) : kp [200, 201, 202, 203, 300, 301, 302, 601, 602, 907, 1005, 1010] [0, 20, 21, 36] M M' := by
  unfold f124 at h
  split at h
  · exact kx_out h (fun res hx => kb124_0 hx hb)
  · cases h
theorem kb125_16 {M : hM} {res : xRes} (h : b125_16 M = some res) (hb : bk M) : kp [] [] M (r_M res) := by
  have kc : kp [] [] M M := kp.rf hb
  unfold b125_16 at h
  cases h
  exact kc
theorem kb125_0 {a0 v1 v2 : _} {M : hM} {res : xRes} (h : b125_0 a0 v1 v2 M = some res) (hb : bk M) : kp [] [] M (r_M res) := by
  have kc : kp [] [] M M := kp.rf hb
  unfold b125_0 at h
  obtain ⟨b_3, -, h⟩ := bd h
  obtain ⟨q_1, h2, h⟩ := bd h
  have kc := kc.tr (kf8 (c_I_some h2) kc.1) rfl rfl
  rcases ite_some h with ⟨-, h⟩ | ⟨-, h⟩
  · exact kc.tt (kb125_16 h kc.1) (fun _ q => q) (fun _ q => q)
  · obtain ⟨b_7, -, h⟩ := bd h
    obtain ⟨q_5, h4, h⟩ := bd h
    have kc := kc.tr (kf8 (c_I_some h4) kc.1) rfl rfl
    rcases ite_some h with ⟨-, h⟩ | ⟨-, h⟩
    · exact kc.tt (kb125_16 h kc.1) (fun _ q => q) (fun _ q => q)
    · obtain ⟨v_9, -, h⟩ := bd h
      rcases ite_some h with ⟨-, h⟩ | ⟨-, h⟩
      · cases h
        exact kc
      · cases h
        exact kc
theorem kb125_38 {a0 v3 v4 : _} {M : hM} {res : xRes} (h : b125_38 a0 v3 v4 M = some res) (hb : bk M) : kp [] [] M (r_M res) := by
  have kc : kp [] [] M M := kp.rf hb
  unfold b125_38 at h
  rcases ite_some h with ⟨-, h⟩ | ⟨-, h⟩
  · cases h
    exact kc
  · obtain ⟨o_14, -, h⟩ := bd h
    obtain ⟨v_16, -, h⟩ := bd h
    rcases ite_some h with ⟨-, h⟩ | ⟨-, h⟩
    · cases h
      exact kc
    · cases h
      exact kc
theorem kf125 {as : List aV} {M M' : hM} {r : Option aV} (h : f125 as M = some (r, M')) (hb : bk M) : kp [] [] M M' := by
  unfold f125 at h
  split at h
  · refine kx_go (blk := k125) ?_ h (fun res hx => kb125_0 hx hb)
    intro h as M res hk hb
    unfold k125 at hk
    split at hk
    · split at hk
      · exact kb125_38 hk hb
      · cases hk
    · skip
      cases hk
  · cases h
theorem kb126_0 {a0 v1 : _} {M : hM} {res : xRes} (h : b126_0 a0 v1 M = some res) (hb : bk M) : kp [] [] M (r_M res) := by
  have kc : kp [] [] M M := kp.rf hb
  unfold b126_0 at h
  obtain ⟨b_3, -, h⟩ := bd h
  obtain ⟨q_1, h2, h⟩ := bd h
  have kc := kc.tr (kf96 (c_I_some h2) kc.1) rfl rfl
  cases h
  exact kc
theorem kb126_13 {a0 v1 v2 v3 : _} {M : hM} {res : xRes} (h : b126_13 a0 v1 v2 v3 M = some res) (hb : bk M) : kp [] [] M (r_M res) := by
  have kc : kp [] [] M M := kp.rf hb
  unfold b126_13 at h
  obtain ⟨b_7, -, h⟩ := bd h
  obtain ⟨q_5, h2, h⟩ := bd h
  have kc := kc.tr (kf96 (c_I_some h2) kc.1) rfl rfl
  rcases ite_some h with ⟨-, h⟩ | ⟨-, h⟩
  · cases h
    exact kc
  · obtain ⟨b_11, -, h⟩ := bd h
    obtain ⟨q_9, h4, h⟩ := bd h
    have kc := kc.tr (kf96 (c_I_some h4) kc.1) rfl rfl
    rcases ite_some h with ⟨-, h⟩ | ⟨-, h⟩
    · obtain ⟨b_15, -, h⟩ := bd h
      obtain ⟨q_13, h6, h⟩ := bd h
      have kc := kc.tr (kf96 (c_I_some h6) kc.1) rfl rfl
      cases h
      exact kc
    · cases h
      exact kc
theorem kf126 {as : List aV} {M M' : hM} {r : Option aV} (h : f126 as M = some (r, M')) (hb : bk M) : kp [] [] M M' := by
  unfold f126 at h
  split at h
  · refine kx_go (blk := k126) ?_ h (fun res hx => kb126_0 hx hb)
    intro h as M res hk hb
    unfold k126 at hk
    split at hk
    · split at hk
      · exact kb126_13 hk hb
      · cases hk
    · skip
      cases hk
  · cases h
theorem kb127_0 {a0 v1 : _} {M : hM} {res : xRes} (h : b127_0 a0 v1 M = some res) (hb : bk M) : kp [] [] M (r_M res) := by
  have kc : kp [] [] M M := kp.rf hb
  unfold b127_0 at h
  cases h
  exact kc
theorem kb127_33 {a0 v1 v2 si0 : _} {M : hM} {res : xRes} (h : b127_33 a0 v1 v2 si0 M = some res) (hb : bk M) : kp [] [] M (r_M res) := by
  have kc : kp [] [] M M := kp.rf hb
  unfold b127_33 at h
  rcases ite_some h with ⟨-, h⟩ | ⟨-, h⟩
  · cases h
    exact kc
  · obtain ⟨o_19, -, h⟩ := bd h
    obtain ⟨o_21, -, h⟩ := bd h
    obtain ⟨b_25, -, h⟩ := bd h
    obtain ⟨q_23, h4, h⟩ := bd h
    have kc := kc.tr (kf103 (c_I_some h4) kc.1) rfl rfl
    cases h
    exact kc
theorem kb127_2 {a0 v1 v2 : _} {M : hM} {res : xRes} (h : b127_2 a0 v1 v2 M = some res) (hb : bk M) : kp [] [] M (r_M res) := by
  have kc : kp [] [] M M := kp.rf hb
  unfold b127_2 at h
  obtain ⟨o_1, -, h⟩ := bd h
  obtain ⟨v_3, -, h⟩ := bd h
  rcases ite_some h with ⟨-, h⟩ | ⟨-, h⟩
  · cases h
    exact kc
  · obtain ⟨b_7, -, h⟩ := bd h
    obtain ⟨q_5, h4, h⟩ := bd h
    have kc := kc.tr (kf106 (c_I_some h4) kc.1) rfl rfl
    rcases ite_some h with ⟨-, h⟩ | ⟨-, h⟩
    · exact kc.tt (kb127_33 h kc.1) (fun _ q => q) (fun _ q => q)
    · obtain ⟨o_9, -, h⟩ := bd h
      obtain ⟨o_11, -, h⟩ := bd h
      obtain ⟨b_15, -, h⟩ := bd h
      obtain ⟨q_13, h8, h⟩ := bd h
      have kc := kc.tr (kf126 (c_I_some h8) kc.1) rfl rfl
      exact kc.tt (kb127_33 h kc.1) (fun _ q => q) (fun _ q => q)
theorem kf127 {as : List aV} {M M' : hM} {r : Option aV} (h : f127 as M = some (r, M')) (hb : bk M) : kp [] [] M M' := by
  unfold f127 at h
  split at h
  · refine kx_go (blk := k127) ?_ h (fun res hx => kb127_0 hx hb)
    intro h as M res hk hb
    unfold k127 at hk
    split at hk
    · split at hk
      · exact kb127_2 hk hb
      · cases hk
    · skip
      cases hk
  · cases h
theorem kb128_18 {a0 : _} {M : hM} {res : xRes} (h : b128_18 a0 M = some res) (hb : bk M) : kp [200, 201, 202, 203, 300, 301, 302, 907] [0, 20, 21] M (r_M res) := by
  have kc : kp [200, 201, 202, 203, 300, 301, 302, 907] [0, 20, 21] M M := kp.rf hb
  unfold b128_18 at h
  obtain ⟨o_42, -, h⟩ := bd h
  obtain ⟨b_46, -, h⟩ := bd h
  obtain ⟨q_44, h3, h⟩ := bd h
  have kc := kc.tr (kf37 (c_V_some h3) kc.1) rfl rfl
  cases h
  exact kc
theorem kb128_91 {o1 o5 sl0 si1 sr2 : _} {M : hM} {res : xRes} (h : b128_91 o1 o5 sl0 si1 sr2 M = some res) (hb : bk M) : kp [200, 201, 202, 203, 300, 301, 302, 907] [0, 20, 21] M (r_M res) := by
  have kc : kp [200, 201, 202, 203, 300, 301, 302, 907] [0, 20, 21] M M := kp.rf hb
  unfold b128_91 at h
  obtain ⟨b_50, -, h⟩ := bd h
  obtain ⟨q_48, h2, h⟩ := bd h
  have kc := kc.tr (kf36 (c_V_some h2) kc.1) rfl rfl
  obtain ⟨b_54, -, h⟩ := bd h
  obtain ⟨q_52, h4, h⟩ := bd h
  have kc := kc.tr (kf39 (c_V_some h4) kc.1) rfl rfl
  cases h
  exact kc
theorem kb128_0 {a0 o1 o2 : _} {M : hM} {res : xRes} (h : b128_0 a0 o1 o2 M = some res) (hb : bk M) : kp [200, 201, 202, 203, 300, 301, 302, 907] [0, 20, 21] M (r_M res) := by
  have kc : kp [200, 201, 202, 203, 300, 301, 302, 907] [0, 20, 21] M M := kp.rf hb
  unfold b128_0 at h
  obtain ⟨v_1, -, h⟩ := bd h
  rcases ite_some h with ⟨-, h⟩ | ⟨-, h⟩
  · exact kc.tt (kb128_18 h kc.1) (fun _ q => q) (fun _ q => q)
  · obtain ⟨b_5, -, h⟩ := bd h
    obtain ⟨q_3, h3, h⟩ := bd h
    have kc := kc.tr (kf65 (c_I_some h3) kc.1) rfl rfl
    obtain ⟨v_7, -, h⟩ := bd h
    rcases ite_some h with ⟨-, h⟩ | ⟨-, h⟩
    · obtain ⟨b_11, -, h⟩ := bd h
      obtain ⟨q_9, h6, h⟩ := bd h
      have kc := kc.tr (kf58 (c_I_some h6) kc.1) rfl rfl
      obtain ⟨o_13, -, h⟩ := bd h
      obtain ⟨b_17, -, h⟩ := bd h
      obtain ⟨q_15, h9, h⟩ := bd h
      have kc := kc.tr (kf116 (c_I_some h9) kc.1) rfl rfl
      obtain ⟨b_21, -, h⟩ := bd h
      obtain ⟨q_19, h11, h⟩ := bd h
      have kc := kc.tr (kf125 (c_I_some h11) kc.1) rfl rfl
      obtain ⟨o_23, -, h⟩ := bd h
      obtain ⟨v_25, -, h⟩ := bd h
      obtain ⟨b_29, -, h⟩ := bd h
      obtain ⟨q_27, h15, h⟩ := bd h
      have kc := kc.tr (kf34 (c_R_some h15) kc.1) rfl rfl
      obtain ⟨b_33, -, h⟩ := bd h
      obtain ⟨q_31, h17, h⟩ := bd h
      have kc := kc.tr (kf36 (c_V_some h17) kc.1) rfl rfl
      rcases ite_some h with ⟨-, h⟩ | ⟨-, h⟩
      · exact kc.tt (kb128_91 h kc.1) (fun _ q => q) (fun _ q => q)
      · obtain ⟨b_37, -, h⟩ := bd h
        obtain ⟨q_35, h19, h⟩ := bd h
        have kc := kc.tr (kf127 (c_I_some h19) kc.1) rfl rfl
        exact kc.tt (kb128_91 h kc.1) (fun _ q => q) (fun _ q => q)
    · exact kc.tt (kb128_18 h kc.1) (fun _ q => q) (fun _ q => q)
theorem kf128 {as : List aV} {M M' : hM} {r : Option aV} (h : f128 as M = some (r, M')) (hb : bk M) : kp [200, 201, 202, 203, 300, 301, 302, 907] [0, 20, 21] M M' := by
  unfold f128 at h
  split at h
  · exact kx_out h (fun res hx => kb128_0 hx hb)
  · cases h
theorem kb129_52 {M : hM} {res : xRes} (h : b129_52 M = some res) (hb : bk M) : kp [200, 201, 202, 203, 300, 301, 302, 812, 907] [0, 20, 21] M (r_M res) := by
  have kc : kp [200, 201, 202, 203, 300, 301, 302, 812, 907] [0, 20, 21] M M := kp.rf hb
  unfold b129_52 at h
  cases h
  exact kc
theorem kb129_0 {a0 o1 : _} {M : hM} {res : xRes} (h : b129_0 a0 o1 M = some res) (hb : bk M) : kp [200, 201, 202, 203, 300, 301, 302, 812, 907] [0, 20, 21] M (r_M res) := by
  have kc : kp [200, 201, 202, 203, 300, 301, 302, 812, 907] [0, 20, 21] M M := kp.rf hb
  unfold b129_0 at h
  obtain ⟨v_1, -, h⟩ := bd h
  rcases ite_some h with ⟨-, h⟩ | ⟨-, h⟩
  · obtain ⟨v_3, -, h⟩ := bd h
    obtain ⟨v_5, -, h⟩ := bd h
    obtain ⟨b_9, -, h⟩ := bd h
    obtain ⟨q_7, h5, h⟩ := bd h
    have kc := kc.tr (kf116 (c_I_some h5) kc.1) rfl rfl
    obtain ⟨M11, h6, h⟩ := bd h
    have kc := kc.tr (k_pi h6 kc.1) rfl rfl
    obtain ⟨o_13, -, h⟩ := bd h
    obtain ⟨v_15, -, h⟩ := bd h
    obtain ⟨b_19, -, h⟩ := bd h
    obtain ⟨q_17, h10, h⟩ := bd h
    have kc := kc.tr (kf34 (c_R_some h10) kc.1) rfl rfl
    obtain ⟨b_23, -, h⟩ := bd h
    obtain ⟨q_21, h12, h⟩ := bd h
    have kc := kc.tr (kf39 (c_V_some h12) kc.1) rfl rfl
    exact kc.tt (kb129_52 h kc.1) (fun _ q => q) (fun _ q => q)
  · exact kc.tt (kb129_52 h kc.1) (fun _ q => q) (fun _ q => q)
theorem kf129 {as : List aV} {M M' : hM} {r : Option aV} (h : f129 as M = some (r, M')) (hb : bk M) : kp [200, 201, 202, 203, 300, 301, 302, 812, 907] [0, 20, 21] M M' := by
  unfold f129 at h
  split at h
  · exact kx_out h (fun res hx => kb129_0 hx hb)
  · cases h
theorem kb130_47 {M : hM} {res : xRes} (h : b130_47 M = some res) (hb : bk M) : kp [200, 201, 202, 203, 300, 301, 302, 601, 602, 907, 1010] [0, 20, 21] M (r_M res) := by
  have kc : kp [200, 201, 202, 203, 300, 301, 302, 601, 602, 907, 1010] [0, 20, 21] M M := kp.rf hb
  unfold b130_47 at h
  cases h
  exact kc
theorem kb130_0 {a0 o1 o2 : _} {M : hM} {res : xRes} (h : b130_0 a0 o1 o2 M = some res) (hb : bk M) : kp [200, 201, 202, 203, 300, 301, 302, 601, 602, 907, 1010] [0, 20, 21] M (r_M res) := by
  have kc : kp [200, 201, 202, 203, 300, 301, 302, 601, 602, 907, 1010] [0, 20, 21] M M := kp.rf hb
  unfold b130_0 at h
  obtain ⟨b_3, -, h⟩ := bd h
  obtain ⟨q_1, h2, h⟩ := bd h
  have kc := kc.tr (kf58 (c_I_some h2) kc.1) rfl rfl
  obtain ⟨b_7, -, h⟩ := bd h
  obtain ⟨q_5, h4, h⟩ := bd h
  have kc := kc.tr (kf56 (c_L_some h4) kc.1) rfl rfl
  obtain ⟨o_9, -, h⟩ := bd h
  obtain ⟨v_11, -, h⟩ := bd h
  rcases ite_some h with ⟨-, h⟩ | ⟨-, h⟩
  · exact kc.tt (kb130_47 h kc.1) (fun _ q => q) (fun _ q => q)
  · obtain ⟨v_13, -, h⟩ := bd h
    rcases ite_some h with ⟨-, h⟩ | ⟨-, h⟩
    · exact kc.tt (kb130_47 h kc.1) (fun _ q => q) (fun _ q => q)
    · obtain ⟨o_15, -, h⟩ := bd h
      obtain ⟨o_17, -, h⟩ := bd h
      obtain ⟨b_21, -, h⟩ := bd h
      obtain ⟨q_19, h11, h⟩ := bd h
      have kc := kc.tr (kf118 (c_I_some h11) kc.1) rfl rfl
      rcases ite_some h with ⟨-, h⟩ | ⟨-, h⟩
      · obtain ⟨o_23, -, h⟩ := bd h
        obtain ⟨o_25, -, h⟩ := bd h
        obtain ⟨b_29, -, h⟩ := bd h
        obtain ⟨q_27, h15, h⟩ := bd h
        have kc := kc.tr (kf110 (c_V_some h15) kc.1) rfl rfl
        cases h
        exact kc
      · exact kc.tt (kb130_47 h kc.1) (fun _ q => q) (fun _ q => q)
theorem kb130_64 {a0 o1 o2 o5 v6 : _} {M : hM} {res : xRes} (h : b130_64 a0 o1 o2 o5 v6 M = some res) (hb : bk M) : kp [200, 201, 202, 203, 300, 301, 302, 601, 602, 907, 1010] [0, 20, 21] M (r_M res) := by
  have kc : kp [200, 201, 202, 203, 300, 301, 302, 601, 602, 907, 1010] [0, 20, 21] M M := kp.rf hb
  unfold b130_64 at h
  obtain ⟨v_34, -, h⟩ := bd h
  rcases ite_some h with ⟨-, h⟩ | ⟨-, h⟩
  · obtain ⟨o_36, -, h⟩ := bd h
    obtain ⟨v_38, -, h⟩ := bd h
    obtain ⟨M40, h4, h⟩ := bd h
    have kc := kc.tr (k_pi h4 kc.1) rfl rfl
    obtain ⟨b_44, -, h⟩ := bd h
    obtain ⟨q_42, h6, h⟩ := bd h
    have kc := kc.tr (kf109 (c_V_some h6) kc.1) rfl rfl
    obtain ⟨v_46, -, h⟩ := bd h
    obtain ⟨b_50, -, h⟩ := bd h
    obtain ⟨q_48, h9, h⟩ := bd h
    have kc := kc.tr (kf122 (c_V_some h9) kc.1) rfl rfl
    cases h
    exact kc
  · obtain ⟨b_54, -, h⟩ := bd h
    obtain ⟨q_52, h11, h⟩ := bd h
    have kc := kc.tr (kf58 (c_I_some h11) kc.1) rfl rfl
    obtain ⟨b_58, -, h⟩ := bd h
    obtain ⟨q_56, h13, h⟩ := bd h
    have kc := kc.tr (kf114 (c_V_some h13) kc.1) rfl rfl
    cases h
    exact kc
theorem kf130 {as : List aV} {M M' : hM} {r : Option aV} (h : f130 as M = some (r, M')) (hb : bk M) : kp [200, 201, 202, 203, 300, 301, 302, 601, 602, 907, 1010] [0, 20, 21] M M' := by
  unfold f130 at h
  split at h
  · refine kx_go (blk := k130) ?_ h (fun res hx => kb130_0 hx hb)
    intro h as M res hk hb
    unfold k130 at hk
    split at hk
    · split at hk
      · exact kb130_64 hk hb
      · cases hk
    · skip
      cases hk
  · cases h
theorem kb131_0 {a0 o1 o2 : _} {M : hM} {res : xRes} (h : b131_0 a0 o1 o2 M = some res) (hb : bk M) : kp [200, 201, 202, 203, 300, 301, 302, 811, 907] [0, 20, 21] M (r_M res) := by
  have kc : kp [200, 201, 202, 203, 300, 301, 302, 811, 907] [0, 20, 21] M M := kp.rf hb
  unfold b131_0 at h
  obtain ⟨b_3, -, h⟩ := bd h
  obtain ⟨q_1, h2, h⟩ := bd h
  have kc := kc.tr (kf58 (c_I_some h2) kc.1) rfl rfl
  obtain ⟨M5, h3, h⟩ := bd h
  have kc := kc.tr (k_pi h3 kc.1) rfl rfl
  cases h
  exact kc
theorem kb131_51 {a0 o1 v3 : _} {M : hM} {res : xRes} (h : b131_51 a0 o1 v3 M = some res) (hb : bk M) : kp [200, 201, 202, 203, 300, 301, 302, 811, 907] [0, 20, 21] M (r_M res) := by
  have kc : kp [200, 201, 202, 203, 300, 301, 302, 811, 907] [0, 20, 21] M M := kp.rf hb
  unfold b131_51 at h
  cases h
  exact kc
theorem kb131_11 {a0 o1 v3 : _} {M : hM} {res : xRes} (h : b131_11 a0 o1 v3 M = some res) (hb : bk M) : kp [200, 201, 202, 203, 300, 301, 302, 811, 907] [0, 20, 21] M (r_M res) := by
  have kc : kp [200, 201, 202, 203, 300, 301, 302, 811, 907] [0, 20, 21] M M := kp.rf hb
  unfold b131_11 at h
  obtain ⟨o_7, -, h⟩ := bd h
  obtain ⟨v_9, -, h⟩ := bd h
  rcases ite_some h with ⟨-, h⟩ | ⟨-, h⟩
  · cases h
    exact kc
  · obtain ⟨v_11, -, h⟩ := bd h
    rcases ite_some h with ⟨-, h⟩ | ⟨-, h⟩
    · exact kc.tt (kb131_51 h kc.1) (fun _ q => q) (fun _ q => q)
    · obtain ⟨o_13, -, h⟩ := bd h
      obtain ⟨o_15, -, h⟩ := bd h
      obtain ⟨b_19, -, h⟩ := bd h
      obtain ⟨q_17, h7, h⟩ := bd h
      have kc := kc.tr (kf105 (c_I_some h7) kc.1) rfl rfl
      rcases ite_some h with ⟨-, h⟩ | ⟨-, h⟩
      · exact kc.tt (kb131_51 h kc.1) (fun _ q => q) (fun _ q => q)
      · obtain ⟨o_21, -, h⟩ := bd h
        obtain ⟨o_23, -, h⟩ := bd h
        obtain ⟨b_27, -, h⟩ := bd h
        obtain ⟨q_25, h11, h⟩ := bd h
        have kc := kc.tr (kf121 (c_V_some h11) kc.1) rfl rfl
        exact kc.tt (kb131_51 h kc.1) (fun _ q => q) (fun _ q => q)
theorem kf131 {as : List aV} {M M' : hM} {r : Option aV} (h : f131 as M = some (r, M')) (hb : bk M) : kp [200, 201, 202, 203, 300, 301, 302, 811, 907] [0, 20, 21] M M' := by
  unfold f131 at h
  split at h
  · refine kx_go (blk := k131) ?_ h (fun res hx => kb131_0 hx hb)
    intro h as M res hk hb
    unfold k131 at hk
    split at hk
    · split at hk
      · exact kb131_11 hk hb
      · cases hk
    · skip
      cases hk
  · cases h
theorem kb132_39 {si0 : _} {M : hM} {res : xRes} (h : b132_39 si0 M = some res) (hb : bk M) : kp [] [] M (r_M res) := by
  have kc : kp [] [] M M := kp.rf hb
  unfold b132_39 at h
  cases h
  exact kc
theorem kb132_23 {a0 si0 : _} {M : hM} {res : xRes} (h : b132_23 a0 si0 M = some res) (hb : bk M) : kp [] [] M (r_M res) := by
  have kc : kp [] [] M M := kp.rf hb
  unfold b132_23 at h
  rcases ite_some h with ⟨-, h⟩ | ⟨-, h⟩
  · exact kc.tt (kb132_39 h kc.1) (fun _ q => q) (fun _ q => q)
  · obtain ⟨o_11, -, h⟩ := bd h
    obtain ⟨v_13, -, h⟩ := bd h
    exact kc.tt (kb132_39 h kc.1) (fun _ q => q) (fun _ q => q)
theorem kb132_22 {a0 : _} {M : hM} {res : xRes} (h : b132_22 a0 M = some res) (hb : bk M) : kp [] [] M (r_M res) := by
  have kc : kp [] [] M M := kp.rf hb
  unfold b132_22 at h
  exact kc.tt (kb132_23 h kc.1) (fun _ q => q) (fun _ q => q)
theorem kb132_0 {a0 v1 : _} {M : hM} {res : xRes} (h : b132_0 a0 v1 M = some res) (hb : bk M) : kp [] [] M (r_M res) := by
  have kc : kp [] [] M M := kp.rf hb
  unfold b132_0 at h
  rcases ite_some h with ⟨-, h⟩ | ⟨-, h⟩
  · exact kc.tt (kb132_22 h kc.1) (fun _ q => q) (fun _ q => q)
  · obtain ⟨o_1, -, h⟩ := bd h
    obtain ⟨v_3, -, h⟩ := bd h
    rcases ite_some h with ⟨-, h⟩ | ⟨-, h⟩
    · exact kc.tt (kb132_22 h kc.1) (fun _ q => q) (fun _ q => q)
    · obtain ⟨o_5, -, h⟩ := bd h
      obtain ⟨v_7, -, h⟩ := bd h
      exact kc.tt (kb132_23 h kc.1) (fun _ q => q) (fun _ q => q)
theorem kf132 {as : List aV} {M M' : hM} {r : Option aV} (h : f132 as M = some (r, M')) (hb : bk M) : kp [] [] M M' := by
  unfold f132 at h
  split at h
  · exact kx_out h (fun res hx => kb132_0 hx hb)
  · cases h
theorem kb133_47 {M : hM} {res : xRes} (h : b133_47 M = some res) (hb : bk M) : kp [] [] M (r_M res) := by
  have kc : kp [] [] M M := kp.rf hb
  unfold b133_47 at h
  cases h
  exact kc
theorem kb133_91 {si0 : _} {M : hM} {res : xRes} (h : b133_91 si0 M = some res) (hb : bk M) : kp [] [] M (r_M res) := by
  have kc : kp [] [] M M := kp.rf hb
  unfold b133_91 at h
  cases h
  exact kc
theorem kb133_68 {a0 v3 : _} {M : hM} {res : xRes} (h : b133_68 a0 v3 M = some res) (hb : bk M) : kp [] [] M (r_M res) := by
  have kc : kp [] [] M M := kp.rf hb
  unfold b133_68 at h
  obtain ⟨b_56, -, h⟩ := bd h
  obtain ⟨q_54, h2, h⟩ := bd h
  have kc := kc.tr (kf132 (c_I_some h2) kc.1) rfl rfl
  rcases ite_some h with ⟨-, h⟩ | ⟨-, h⟩
  · exact kc.tt (kb133_91 h kc.1) (fun _ q => q) (fun _ q => q)
  · exact kc.tt (kb133_91 h kc.1) (fun _ q => q) (fun _ q => q)
theorem kb133_142 {M : hM} {res : xRes} (h : b133_142 M = some res) (hb : bk M) : kp [] [] M (r_M res) := by
  have kc : kp [] [] M M := kp.rf hb
  unfold b133_142 at h
  cases h
  exact kc
theorem kb133_171 {si0 : _} {M : hM} {res : xRes} (h : b133_171 si0 M = some res) (hb : bk M) : kp [] [] M (r_M res) := by
  have kc : kp [] [] M M := kp.rf hb
  unfold b133_171 at h
  cases h
  exact kc
theorem kb133_50 {a0 v2 v3 v4 : _} {M : hM} {res : xRes} (h : b133_50 a0 v2 v3 v4 M = some res) (hb : bk M) : kp [] [] M (r_M res) := by
  have kc : kp [] [] M M := kp.rf hb
  unfold b133_50 at h
  obtain ⟨v_23, -, h⟩ := bd h
  rcases ite_some h with ⟨-, h⟩ | ⟨-, h⟩
  · obtain ⟨v_25, -, h⟩ := bd h
    rcases ite_some h with ⟨-, h⟩ | ⟨-, h⟩
    · rcases ite_some h with ⟨-, h⟩ | ⟨-, h⟩
      · exact kc.tt (kb133_142 h kc.1) (fun _ q => q) (fun _ q => q)
      · obtain ⟨o_27, -, h⟩ := bd h
        obtain ⟨o_29, -, h⟩ := bd h
        obtain ⟨v_31, -, h⟩ := bd h
        rcases ite_some h with ⟨-, h⟩ | ⟨-, h⟩
        · exact kc.tt (kb133_142 h kc.1) (fun _ q => q) (fun _ q => q)
        · rcases ite_some h with ⟨-, h⟩ | ⟨-, h⟩
          · exact kc.tt (kb133_142 h kc.1) (fun _ q => q) (fun _ q => q)
          · obtain ⟨o_33, -, h⟩ := bd h
            obtain ⟨o_35, -, h⟩ := bd h
            obtain ⟨b_39, -, h⟩ := bd h
            obtain ⟨q_37, h9, h⟩ := bd h
            have kc := kc.tr (kf116 (c_I_some h9) kc.1) rfl rfl
            rcases ite_some h with ⟨-, h⟩ | ⟨-, h⟩
            · obtain ⟨o_41, -, h⟩ := bd h
              obtain ⟨b_45, -, h⟩ := bd h
              obtain ⟨q_43, h12, h⟩ := bd h
              have kc := kc.tr (kf125 (c_I_some h12) kc.1) rfl rfl
              rcases ite_some h with ⟨-, h⟩ | ⟨-, h⟩
              · exact kc.tt (kb133_171 h kc.1) (fun _ q => q) (fun _ q => q)
              · exact kc.tt (kb133_171 h kc.1) (fun _ q => q) (fun _ q => q)
            · exact kc.tt (kb133_142 h kc.1) (fun _ q => q) (fun _ q => q)
    · exact kc.tt (kb133_68 h kc.1) (fun _ q => q) (fun _ q => q)
  · exact kc.tt (kb133_68 h kc.1) (fun _ q => q) (fun _ q => q)
theorem kb133_0 {a0 o1 v2 v3 : _} {M : hM} {res : xRes} (h : b133_0 a0 o1 v2 v3 M = some res) (hb : bk M) : kp [] [] M (r_M res) := by
  have kc : kp [] [] M M := kp.rf hb
  unfold b133_0 at h
  obtain ⟨b_3, -, h⟩ := bd h
  obtain ⟨q_1, h2, h⟩ := bd h
  have kc := kc.tr (kf115 (c_I_some h2) kc.1) rfl rfl
  rcases ite_some h with ⟨-, h⟩ | ⟨-, h⟩
  · exact kc.tt (kb133_50 h kc.1) (fun _ q => q) (fun _ q => q)
  · obtain ⟨v_5, -, h⟩ := bd h
    rcases ite_some h with ⟨-, h⟩ | ⟨-, h⟩
    · exact kc.tt (kb133_47 h kc.1) (fun _ q => q) (fun _ q => q)
    · obtain ⟨v_7, -, h⟩ := bd h
      rcases ite_some h with ⟨-, h⟩ | ⟨-, h⟩
      · obtain ⟨o_9, -, h⟩ := bd h
        obtain ⟨b_13, -, h⟩ := bd h
        obtain ⟨q_11, h7, h⟩ := bd h
        have kc := kc.tr (kf116 (c_I_some h7) kc.1) rfl rfl
        obtain ⟨b_17, -, h⟩ := bd h
        obtain ⟨q_15, h9, h⟩ := bd h
        have kc := kc.tr (kf125 (c_I_some h9) kc.1) rfl rfl
        rcases ite_some h with ⟨-, h⟩ | ⟨-, h⟩
        · exact kc.tt (kb133_47 h kc.1) (fun _ q => q) (fun _ q => q)
        · exact kc.tt (kb133_50 h kc.1) (fun _ q => q) (fun _ q => q)
      · exact kc.tt (kb133_47 h kc.1) (fun _ q => q) (fun _ q => q)
theorem kf133 {as : List aV} {M M' : hM} {r : Option aV} (h : f133 as M = some (r, M')) (hb : bk M) : kp [] [] M M' := by
  unfold f133 at h
  split at h
  · exact kx_out h (fun res hx => kb133_0 hx hb)
  · cases h
theorem kb134_0 {a0 v1 : _} {M : hM} {res : xRes} (h : b134_0 a0 v1 M = some res) (hb : bk M) : kp [203, 300, 301, 302, 807, 813, 907] [20] M (r_M res) := by
  have kc : kp [203, 300, 301, 302, 807, 813, 907] [20] M M := kp.rf hb
  unfold b134_0 at h
  obtain ⟨o_1, -, h⟩ := bd h
  obtain ⟨b_5, -, h⟩ := bd h
  obtain ⟨q_3, h3, h⟩ := bd h
  have kc := kc.tr (kf37 (c_V_some h3) kc.1) rfl rfl
  obtain ⟨o_7, -, h⟩ := bd h
  obtain ⟨b_11, -, h⟩ := bd h
  obtain ⟨q_9, h6, h⟩ := bd h
  have kc := kc.tr (kf54 (c_R_some h6) kc.1) rfl rfl
  obtain ⟨b_15, -, h⟩ := bd h
  obtain ⟨q_13, h8, h⟩ := bd h
  have kc := kc.tr (kf17 (c_V_some h8) kc.1) rfl rfl
  cases h
  exact kc
theorem kf134 {as : List aV} {M M' : hM} {r : Option aV} (h : f134 as M = some (r, M')) (hb : bk M) : kp [203, 300, 301, 302, 807, 813, 907] [20] M M' := by
  unfold f134 at h
  split at h
  · exact kx_out h (fun res hx => kb134_0 hx hb)
  · cases h
theorem kb135_24 {M : hM} {res : xRes} (h : b135_24 M = some res) (hb : bk M) : kp [203, 300, 301, 302, 807, 813, 907] [20] M (r_M res) := by
  have kc : kp [203, 300, 301, 302, 807, 813, 907] [20] M M := kp.rf hb
  unfold b135_24 at h
  cases h
  exact kc
theorem kb135_0 {a0 : _} {M : hM} {res : xRes} (h : b135_0 a0 M = some res) (hb : bk M) : kp [203, 300, 301, 302, 807, 813, 907] [20] M (r_M res) := by
  have kc : kp [203, 300, 301, 302, 807, 813, 907] [20] M M := kp.rf hb
  unfold b135_0 at h
  obtain ⟨v_1, -, h⟩ := bd h
  obtain ⟨M3, h2, h⟩ := bd h
  have kc := kc.tr (k_pi h2 kc.1) rfl rfl
  obtain ⟨v_5, -, h⟩ := bd h
  rcases ite_some h with ⟨-, h⟩ | ⟨-, h⟩
  · exact kc.tt (kb135_24 h kc.1) (fun _ q => q) (fun _ q => q)
  · obtain ⟨b_9, -, h⟩ := bd h
    obtain ⟨q_7, h5, h⟩ := bd h
    have kc := kc.tr (kf134 (c_V_some h5) kc.1) rfl rfl
    exact kc.tt (kb135_24 h kc.1) (fun _ q => q) (fun _ q => q)
theorem kf135 {as : List aV} {M M' : hM} {r : Option aV} (h : f135 as M = some (r, M')) (hb : bk M) : kp [203, 300, 301, 302, 807, 813, 907] [20] M M' := by
  unfold f135 at h
  split at h
  · exact kx_out h (fun res hx => kb135_0 hx hb)
  · cases h
theorem kb136_24 {o1 v3 : _} {M : hM} {res : xRes} (h : b136_24 o1 v3 M = some res) (hb : bk M) : kp [203, 300, 301, 302, 806, 807, 808, 813, 907] [20] M (r_M res) := by
  have kc : kp [203, 300, 301, 302, 806, 807, 808, 813, 907] [20] M M := kp.rf hb
  unfold b136_24 at h
  obtain ⟨b_45, -, h⟩ := bd h
  obtain ⟨q_43, h2, h⟩ := bd h
  have kc := kc.tr (kf134 (c_V_some h2) kc.1) rfl rfl
  cases h
  exact kc
theorem kb136_83 {M : hM} {res : xRes} (h : b136_83 M = some res) (hb : bk M) : kp [203, 300, 301, 302, 806, 807, 808, 813, 907] [20] M (r_M res) := by
  have kc : kp [203, 300, 301, 302, 806, 807, 808, 813, 907] [20] M M := kp.rf hb
  unfold b136_83 at h
  cases h
  exact kc
theorem kb136_79 {o1 : _} {M : hM} {res : xRes} (h : b136_79 o1 M = some res) (hb : bk M) : kp [203, 300, 301, 302, 806, 807, 808, 813, 907] [20] M (r_M res) := by
  have kc : kp [203, 300, 301, 302, 806, 807, 808, 813, 907] [20] M M := kp.rf hb
  unfold b136_79 at h
  obtain ⟨b_49, -, h⟩ := bd h
  obtain ⟨q_47, h2, h⟩ := bd h
  have kc := kc.tr (kf135 (c_V_some h2) kc.1) rfl rfl
  exact kc.tt (kb136_83 h kc.1) (fun _ q => q) (fun _ q => q)
theorem kb136_0 {a0 o1 o2 : _} {M : hM} {res : xRes} (h : b136_0 a0 o1 o2 M = some res) (hb : bk M) : kp [203, 300, 301, 302, 806, 807, 808, 813, 907] [20] M (r_M res) := by
  have kc : kp [203, 300, 301, 302, 806, 807, 808, 813, 907] [20] M M := kp.rf hb
  unfold b136_0 at h
  obtain ⟨b_3, -, h⟩ := bd h
  obtain ⟨q_1, h2, h⟩ := bd h
  have kc := kc.tr (kf65 (c_I_some h2) kc.1) rfl rfl
  obtain ⟨b_7, -, h⟩ := bd h
  obtain ⟨q_5, h4, h⟩ := bd h
  have kc := kc.tr (kf64 (c_I_some h4) kc.1) rfl rfl
  obtain ⟨b_11, -, h⟩ := bd h
  obtain ⟨q_9, h6, h⟩ := bd h
  have kc := kc.tr (kf133 (c_I_some h6) kc.1) rfl rfl
  rcases ite_some h with ⟨-, h⟩ | ⟨-, h⟩
  · exact kc.tt (kb136_24 h kc.1) (fun _ q => q) (fun _ q => q)
  · rcases ite_some h with ⟨-, h⟩ | ⟨-, h⟩
    · obtain ⟨o_13, -, h⟩ := bd h
      obtain ⟨o_15, -, h⟩ := bd h
      obtain ⟨o_17, -, h⟩ := bd h
      obtain ⟨v_19, -, h⟩ := bd h
      rcases ite_some h with ⟨-, h⟩ | ⟨-, h⟩
      · obtain ⟨b_23, -, h⟩ := bd h
        obtain ⟨q_21, h12, h⟩ := bd h
        have kc := kc.tr (kf41 (c_I_some h12) kc.1) rfl rfl
        rcases ite_some h with ⟨-, h⟩ | ⟨-, h⟩
        · exact kc.tt (kb136_79 h kc.1) (fun _ q => q) (fun _ q => q)
        · obtain ⟨b_27, -, h⟩ := bd h
          obtain ⟨q_25, h14, h⟩ := bd h
          have kc := kc.tr (kf54 (c_R_some h14) kc.1) rfl rfl
          obtain ⟨b_31, -, h⟩ := bd h
          obtain ⟨q_29, h16, h⟩ := bd h
          have kc := kc.tr (kf44 (c_V_some h16) kc.1) rfl rfl
          obtain ⟨o_33, -, h⟩ := bd h
          obtain ⟨b_37, -, h⟩ := bd h
          obtain ⟨q_35, h19, h⟩ := bd h
          have kc := kc.tr (kf37 (c_V_some h19) kc.1) rfl rfl
          exact kc.tt (kb136_83 h kc.1) (fun _ q => q) (fun _ q => q)
      · exact kc.tt (kb136_79 h kc.1) (fun _ q => q) (fun _ q => q)
    · exact kc.tt (kb136_24 h kc.1) (fun _ q => q) (fun _ q => q)
theorem kf136 {as : List aV} {M M' : hM} {r : Option aV} (h : f136 as M = some (r, M')) (hb : bk M) : kp [203, 300, 301, 302, 806, 807, 808, 813, 907] [20] M M' := by
  unfold f136 at h
  split at h
  · exact kx_out h (fun res hx => kb136_0 hx hb)
  · cases h
theorem kb137_174 {a0 o1 : _} {M : hM} {res : xRes} (h : b137_174 a0 o1 M = some res) (hb : bk M) : kp [200, 201, 202, 203, 300, 301, 302, 601, 602, 806, 807, 808, 811, 812, 813, 907, 1010] [0, 20, 21] M (r_M res) := by
  have kc : kp [200, 201, 202, 203, 300, 301, 302, 601, 602, 806, 807, 808, 811, 812, 813, 907, 1010] [0, 20, 21] M M := kp.rf hb
  unfold b137_174 at h
  obtain ⟨o_76, -, h⟩ := bd h
  obtain ⟨b_80, -, h⟩ := bd h
  obtain ⟨q_78, h3, h⟩ := bd h
  have kc := kc.tr (kf54 (c_R_some h3) kc.1) rfl rfl
  obtain ⟨b_84, -, h⟩ := bd h
  obtain ⟨q_82, h5, h⟩ := bd h
  have kc := kc.tr (kf17 (c_V_some h5) kc.1) rfl rfl
  cases h
  exact kc
theorem kb137_149 {a0 o1 o2 v3 v4 : _} {M : hM} {res : xRes} (h : b137_149 a0 o1 o2 v3 v4 M = some res) (hb : bk M) : kp [200, 201, 202, 203, 300, 301, 302, 601, 602, 806, 807, 808, 811, 812, 813, 907, 1010] [0, 20, 21] M (r_M res) := by
  have kc : kp [200, 201, 202, 203, 300, 301, 302, 601, 602, 806, 807, 808, 811, 812, 813, 907, 1010] [0, 20, 21] M M := kp.rf hb
  unfold b137_149 at h
  rcases ite_some h with ⟨-, h⟩ | ⟨-, h⟩
  · rcases ite_some h with ⟨-, h⟩ | ⟨-, h⟩
    · obtain ⟨b_67, -, h⟩ := bd h
      obtain ⟨q_65, h2, h⟩ := bd h
      have kc := kc.tr (kf115 (c_I_some h2) kc.1) rfl rfl
      rcases ite_some h with ⟨-, h⟩ | ⟨-, h⟩
      · exact kc.tt (kb137_174 h kc.1) (fun _ q => q) (fun _ q => q)
      · obtain ⟨b_71, -, h⟩ := bd h
        obtain ⟨q_69, h4, h⟩ := bd h
        have kc := kc.tr (kf128 (c_V_some h4) kc.1) rfl rfl
        exact kc.tt (kb137_174 h kc.1) (fun _ q => q) (fun _ q => q)
    · exact kc.tt (kb137_174 h kc.1) (fun _ q => q) (fun _ q => q)
  · exact kc.tt (kb137_174 h kc.1) (fun _ q => q) (fun _ q => q)
theorem kb137_122 {a0 o1 o2 v3 v4 : _} {M : hM} {res : xRes} (h : b137_122 a0 o1 o2 v3 v4 M = some res) (hb : bk M) : kp [200, 201, 202, 203, 300, 301, 302, 601, 602, 806, 807, 808, 811, 812, 813, 907, 1010] [0, 20, 21] M (r_M res) := by
  have kc : kp [200, 201, 202, 203, 300, 301, 302, 601, 602, 806, 807, 808, 811, 812, 813, 907, 1010] [0, 20, 21] M M := kp.rf hb
  unfold b137_122 at h
  rcases ite_some h with ⟨-, h⟩ | ⟨-, h⟩
  · rcases ite_some h with ⟨-, h⟩ | ⟨-, h⟩
    · obtain ⟨b_56, -, h⟩ := bd h
      obtain ⟨q_54, h2, h⟩ := bd h
      have kc := kc.tr (kf115 (c_I_some h2) kc.1) rfl rfl
      rcases ite_some h with ⟨-, h⟩ | ⟨-, h⟩
      · exact kc.tt (kb137_149 h kc.1) (fun _ q => q) (fun _ q => q)
      · obtain ⟨b_60, -, h⟩ := bd h
        obtain ⟨q_58, h4, h⟩ := bd h
        have kc := kc.tr (kf129 (c_V_some h4) kc.1) rfl rfl
        exact kc.tt (kb137_174 h kc.1) (fun _ q => q) (fun _ q => q)
    · exact kc.tt (kb137_149 h kc.1) (fun _ q => q) (fun _ q => q)
  · exact kc.tt (kb137_149 h kc.1) (fun _ q => q) (fun _ q => q)
theorem kb137_94 {a0 o1 o2 v3 v4 : _} {M : hM} {res : xRes} (h : b137_94 a0 o1 o2 v3 v4 M = some res) (hb : bk M) : kp [200, 201, 202, 203, 300, 301, 302, 601, 602, 806, 807, 808, 811, 812, 813, 907, 1010] [0, 20, 21] M (r_M res) := by
  have kc : kp [200, 201, 202, 203, 300, 301, 302, 601, 602, 806, 807, 808, 811, 812, 813, 907, 1010] [0, 20, 21] M M := kp.rf hb
  unfold b137_94 at h
  rcases ite_some h with ⟨-, h⟩ | ⟨-, h⟩
  · rcases ite_some h with ⟨-, h⟩ | ⟨-, h⟩
    · obtain ⟨b_45, -, h⟩ := bd h
      obtain ⟨q_43, h2, h⟩ := bd h
      have kc := kc.tr (kf112 (c_I_some h2) kc.1) rfl rfl
      rcases ite_some h with ⟨-, h⟩ | ⟨-, h⟩
      · exact kc.tt (kb137_122 h kc.1) (fun _ q => q) (fun _ q => q)
      · obtain ⟨b_49, -, h⟩ := bd h
        obtain ⟨q_47, h4, h⟩ := bd h
        have kc := kc.tr (kf130 (c_V_some h4) kc.1) rfl rfl
        exact kc.tt (kb137_174 h kc.1) (fun _ q => q) (fun _ q => q)
    · exact kc.tt (kb137_122 h kc.1) (fun _ q => q) (fun _ q => q)
  · exact kc.tt (kb137_122 h kc.1) (fun _ q => q) (fun _ q => q)
theorem kb137_66 {a0 o1 o2 v3 v4 : _} {M : hM} {res : xRes} (h : b137_66 a0 o1 o2 v3 v4 M = some res) (hb : bk M) : kp [200, 201, 202, 203, 300, 301, 302, 601, 602, 806, 807, 808, 811, 812, 813, 907, 1010] [0, 20, 21] M (r_M res) := by
  have kc : kp [200, 201, 202, 203, 300, 301, 302, 601, 602, 806, 807, 808, 811, 812, 813, 907, 1010] [0, 20, 21] M M := kp.rf hb
  unfold b137_66 at h
  rcases ite_some h with ⟨-, h⟩ | ⟨-, h⟩
  · rcases ite_some h with ⟨-, h⟩ | ⟨-, h⟩
    · obtain ⟨b_34, -, h⟩ := bd h
      obtain ⟨q_32, h2, h⟩ := bd h
      have kc := kc.tr (kf112 (c_I_some h2) kc.1) rfl rfl
      rcases ite_some h with ⟨-, h⟩ | ⟨-, h⟩
      · exact kc.tt (kb137_94 h kc.1) (fun _ q => q) (fun _ q => q)
      · obtain ⟨b_38, -, h⟩ := bd h
        obtain ⟨q_36, h4, h⟩ := bd h
        have kc := kc.tr (kf131 (c_V_some h4) kc.1) rfl rfl
        exact kc.tt (kb137_174 h kc.1) (fun _ q => q) (fun _ q => q)
    · exact kc.tt (kb137_94 h kc.1) (fun _ q => q) (fun _ q => q)
  · exact kc.tt (kb137_94 h kc.1) (fun _ q => q) (fun _ q => q)
theorem kb137_0 {a0 o1 : _} {M : hM} {res : xRes} (h : b137_0 a0 o1 M = some res) (hb : bk M) : kp [200, 201, 202, 203, 300, 301, 302, 601, 602, 806, 807, 808, 811, 812, 813, 907, 1010] [0, 20, 21] M (r_M res) := by
  have kc : kp [200, 201, 202, 203, 300, 301, 302, 601, 602, 806, 807, 808, 811, 812, 813, 907, 1010] [0, 20, 21] M M := kp.rf hb
  unfold b137_0 at h
  obtain ⟨o_1, -, h⟩ := bd h
  obtain ⟨o_3, -, h⟩ := bd h
  rcases ite_some h with ⟨-, h⟩ | ⟨-, h⟩
  · cases h
    exact kc
  · obtain ⟨o_5, -, h⟩ := bd h
    obtain ⟨b_9, -, h⟩ := bd h
    obtain ⟨q_7, h5, h⟩ := bd h
    have kc := kc.tr (kf63 (c_I_some h5) kc.1) rfl rfl
    rcases ite_some h with ⟨-, h⟩ | ⟨-, h⟩
    · obtain ⟨b_28, -, h⟩ := bd h
      obtain ⟨q_26, h7, h⟩ := bd h
      have kc := kc.tr (kf134 (c_V_some h7) kc.1) rfl rfl
      cases h
      exact kc
    · obtain ⟨b_13, -, h⟩ := bd h
      obtain ⟨q_11, h9, h⟩ := bd h
      have kc := kc.tr (kf64 (c_I_some h9) kc.1) rfl rfl
      obtain ⟨b_17, -, h⟩ := bd h
      obtain ⟨q_15, h11, h⟩ := bd h
      have kc := kc.tr (kf57 (c_I_some h11) kc.1) rfl rfl
      rcases ite_some h with ⟨-, h⟩ | ⟨-, h⟩
      · exact kc.tt (kb137_66 h kc.1) (fun _ q => q) (fun _ q => q)
      · rcases ite_some h with ⟨-, h⟩ | ⟨-, h⟩
        · exact kc.tt (kb137_66 h kc.1) (fun _ q => q) (fun _ q => q)
        · rcases ite_some h with ⟨-, h⟩ | ⟨-, h⟩
          · exact kc.tt (kb137_66 h kc.1) (fun _ q => q) (fun _ q => q)
          · obtain ⟨b_21, -, h⟩ := bd h
            obtain ⟨q_19, h13, h⟩ := bd h
            have kc := kc.tr (kf136 (c_V_some h13) kc.1) rfl rfl
            cases h
            exact kc
theorem kf137 {as : List aV} {M M' : hM} {r : Option aV} (h : f137 as M = some (r, M')) (hb : bk M) : kp [200, 201, 202, 203, 300, 301, 302, 601, 602, 806, 807, 808, 811, 812, 813, 907, 1010] [0, 20, 21] M M' := by
  unfold f137 at h
  split at h
  · exact kx_out h (fun res hx => kb137_0 hx hb)
  · cases h
theorem kb138_0 {a0 : _} {M : hM} {res : xRes} (h : b138_0 a0 M = some res) (hb : bk M) : kp [200, 201, 202, 203, 300, 301, 302, 601, 602, 806, 807, 808, 811, 812, 813, 814, 907, 1005, 1010] [0, 20, 21, 36] M (r_M res) := by
  have kc : kp [200, 201, 202, 203, 300, 301, 302, 601, 602, 806, 807, 808, 811, 812, 813, 814, 907, 1005, 1010] [0, 20, 21, 36] M M := kp.rf hb
  unfold b138_0 at h
  obtain ⟨b_3, -, h⟩ := bd h
  obtain ⟨q_1, h2, h⟩ := bd h
  have kc := kc.tr (kf95 (c_V_some h2) kc.1) rfl rfl
  obtain ⟨b_7, -, h⟩ := bd h
  obtain ⟨q_5, h4, h⟩ := bd h
  have kc := kc.tr (kf111 (c_V_some h4) kc.1) rfl rfl
  obtain ⟨b_11, -, h⟩ := bd h
  obtain ⟨q_9, h6, h⟩ := bd h
  have kc := kc.tr (kf113 (c_V_some h6) kc.1) rfl rfl
  obtain ⟨b_15, -, h⟩ := bd h
  obtain ⟨q_13, h8, h⟩ := bd h
  have kc := kc.tr (kf124 (c_V_some h8) kc.1) rfl rfl
  obtain ⟨o_17, -, h⟩ := bd h
  obtain ⟨v_19, -, h⟩ := bd h
  cases h
  exact kc
theorem kb138_29 {a0 v1 v2 : _} {M : hM} {res : xRes} (h : b138_29 a0 v1 v2 M = some res) (hb : bk M) : kp [200, 201, 202, 203, 300, 301, 302, 601, 602, 806, 807, 808, 811, 812, 813, 814, 907, 1005, 1010] [0, 20, 21, 36] M (r_M res) := by
  have kc : kp [200, 201, 202, 203, 300, 301, 302, 601, 602, 806, 807, 808, 811, 812, 813, 814, 907, 1005, 1010] [0, 20, 21, 36] M M := kp.rf hb
  unfold b138_29 at h
  rcases ite_some h with ⟨-, h⟩ | ⟨-, h⟩
  · cases h
    exact kc
  · obtain ⟨o_21, -, h⟩ := bd h
    obtain ⟨v_23, -, h⟩ := bd h
    obtain ⟨o_25, -, h⟩ := bd h
    obtain ⟨b_29, -, h⟩ := bd h
    obtain ⟨q_27, h5, h⟩ := bd h
    have kc := kc.tr (kf45 (c_V_some h5) kc.1) rfl rfl
    cases h
    exact kc
theorem kb138_57 {a0 v1 v2 : _} {M : hM} {res : xRes} (h : b138_57 a0 v1 v2 M = some res) (hb : bk M) : kp [200, 201, 202, 203, 300, 301, 302, 601, 602, 806, 807, 808, 811, 812, 813, 814, 907, 1005, 1010] [0, 20, 21, 36] M (r_M res) := by
  have kc : kp [200, 201, 202, 203, 300, 301, 302, 601, 602, 806, 807, 808, 811, 812, 813, 814, 907, 1005, 1010] [0, 20, 21, 36] M M := kp.rf hb
  unfold b138_57 at h
  rcases ite_some h with ⟨-, h⟩ | ⟨-, h⟩
  · cases h
    exact kc
  · obtain ⟨o_32, -, h⟩ := bd h
    obtain ⟨v_34, -, h⟩ := bd h
    obtain ⟨o_36, -, h⟩ := bd h
    obtain ⟨b_40, -, h⟩ := bd h
    obtain ⟨q_38, h5, h⟩ := bd h
    have kc := kc.tr (kf137 (c_V_some h5) kc.1) rfl rfl
    cases h
    exact kc
theorem kf138 {as : List aV} {M M' : hM} {r : Option aV} (h : f138 as M = some (r, M')) (hb : bk M) : kp [200, 201, 202, 203, 300, 301, 302, 601, 602, 806, 807, 808, 811, 812, 813, 814, 907, 1005, 1010] [0, 20, 21, 36] M M' := by
  unfold f138 at h
  split at h
  · refine kx_go (blk := k138) ?_ h (fun res hx => kb138_0 hx hb)
    intro h as M res hk hb
    unfold k138 at hk
    split at hk
    · split at hk
      · exact kb138_29 hk hb
      · cases hk
    · skip
      split at hk
      · split at hk
        · exact kb138_57 hk hb
        · cases hk
      · skip
        cases hk
  · cases h
theorem kb139_32 {M : hM} {res : xRes} (h : b139_32 M = some res) (hb : bk M) : kp [203, 300, 301, 302, 806, 807, 808] [] M (r_M res) := by
  have kc : kp [203, 300, 301, 302, 806, 807, 808] [] M M := kp.rf hb
  unfold b139_32 at h
  cases h
  exact kc
theorem kb139_0 {a0 : _} {M : hM} {res : xRes} (h : b139_0 a0 M = some res) (hb : bk M) : kp [203, 300, 301, 302, 806, 807, 808] [] M (r_M res) := by
  have kc : kp [203, 300, 301, 302, 806, 807, 808] [] M M := kp.rf hb
  unfold b139_0 at h
  obtain ⟨v_1, -, h⟩ := bd h
  obtain ⟨v_3, -, h⟩ := bd h
  obtain ⟨M5, h3, h⟩ := bd h
  have kc := kc.tr (k_pi h3 kc.1) rfl rfl
  obtain ⟨M7, h4, h⟩ := bd h
  have kc := kc.tr (k_pi h4 kc.1) rfl rfl
  obtain ⟨o_9, -, h⟩ := bd h
  rcases ite_some h with ⟨-, h⟩ | ⟨-, h⟩
  · exact kc.tt (kb139_32 h kc.1) (fun _ q => q) (fun _ q => q)
  · obtain ⟨o_11, -, h⟩ := bd h
    rcases ite_some h with ⟨-, h⟩ | ⟨-, h⟩
    · exact kc.tt (kb139_32 h kc.1) (fun _ q => q) (fun _ q => q)
    · obtain ⟨o_13, -, h⟩ := bd h
      obtain ⟨o_15, -, h⟩ := bd h
      obtain ⟨o_17, -, h⟩ := bd h
      obtain ⟨b_21, -, h⟩ := bd h
      obtain ⟨q_19, h11, h⟩ := bd h
      have kc := kc.tr (kf38 (c_V_some h11) kc.1) rfl rfl
      obtain ⟨M23, h12, h⟩ := bd h
      have kc := kc.tr (k_pr h12 kc.1) rfl rfl
      cases h
      exact kc
theorem kf139 {as : List aV} {M M' : hM} {r : Option aV} (h : f139 as M = some (r, M')) (hb : bk M) : kp [203, 300, 301, 302, 806, 807, 808] [] M M' := by
  unfold f139 at h
  split at h
  · exact kx_out h (fun res hx => kb139_0 hx hb)
  · cases h
theorem kb140_11 {M : hM} {res : xRes} (h : b140_11 M = some res) (hb : bk M) : kp [6, 9, 10, 12, 13, 104, 106, 200, 201, 202, 203, 300, 301, 302, 503, 601, 602, 700, 701, 702, 703, 704, 705, 706, 707, 806, 807, 808, 811, 812, 813, 814, 903, 907, 1005, 1010] [0, 20, 21, 23, 36] M (r_M res) := by
  have kc : kp [6, 9, 10, 12, 13, 104, 106, 200, 201, 202, 203, 300, 301, 302, 503, 601, 602, 700, 701, 702, 703, 704, 705, 706, 707, 806, 807, 808, 811, 812, 813, 814, 903, 907, 1005, 1010] [0, 20, 21, 23, 36] M M := kp.rf hb
  unfold b140_11 at h
  cases h
  exact kc
theorem kb140_0 {a0 v1 : _} {M : hM} {res : xRes} (h : b140_0 a0 v1 M = some res) (hb : bk M) : kp [6, 9, 10, 12, 13, 104, 106, 200, 201, 202, 203, 300, 301, 302, 503, 601, 602, 700, 701, 702, 703, 704, 705, 706, 707, 806, 807, 808, 811, 812, 813, 814, 903, 907, 1005, 1010] [0, 20, 21, 23, 36] M (r_M res) := by
  have kc : kp [6, 9, 10, 12, 13, 104, 106, 200, 201, 202, 203, 300, 301, 302, 503, 601, 602, 700, 701, 702, 703, 704, 705, 706, 707, 806, 807, 808, 811, 812, 813, 814, 903, 907, 1005, 1010] [0, 20, 21, 23, 36] M M := kp.rf hb
  unfold b140_0 at h
  rcases ite_some h with ⟨-, h⟩ | ⟨-, h⟩
  · exact kc.tt (kb140_11 h kc.1) (fun _ q => q) (fun _ q => q)
  · rcases ite_some h with ⟨-, h⟩ | ⟨-, h⟩
    · cases h
      exact kc
    · exact kc.tt (kb140_11 h kc.1) (fun _ q => q) (fun _ q => q)
theorem kb140_17 {a0 v1 v2 v3 : _} {M : hM} {res : xRes} (h : b140_17 a0 v1 v2 v3 M = some res) (hb : bk M) : kp [6, 9, 10, 12, 13, 104, 106, 200, 201, 202, 203, 300, 301, 302, 503, 601, 602, 700, 701, 702, 703, 704, 705, 706, 707, 806, 807, 808, 811, 812, 813, 814, 903, 907, 1005, 1010] [0, 20, 21, 23, 36] M (r_M res) := by
  have kc : kp [6, 9, 10, 12, 13, 104, 106, 200, 201, 202, 203, 300, 301, 302, 503, 601, 602, 700, 701, 702, 703, 704, 705, 706, 707, 806, 807, 808, 811, 812, 813, 814, 903, 907, 1005, 1010] [0, 20, 21, 23, 36] M M := kp.rf hb
  unfold b140_17 at h
  rcases ite_some h with ⟨-, h⟩ | ⟨-, h⟩
  · cases h
    exact kc
  · obtain ⟨o_3, -, h⟩ := bd h
    obtain ⟨v_5, -, h⟩ := bd h
    obtain ⟨M7, h3, h⟩ := bd h
    have kc := kc.tr (k_pi h3 kc.1) rfl rfl
    cases h
    exact kc
theorem kb140_38 {a0 v1 v2 v3 v4 : _} {M : hM} {res : xRes} (h : b140_38 a0 v1 v2 v3 v4 M = some res) (hb : bk M) : kp [6, 9, 10, 12, 13, 104, 106, 200, 201, 202, 203, 300, 301, 302, 503, 601, 602, 700, 701, 702, 703, 704, 705, 706, 707, 806, 807, 808, 811, 812, 813, 814, 903, 907, 1005, 1010] [0, 20, 21, 23, 36] M (r_M res) := by
  have kc : kp [6, 9, 10, 12, 13, 104, 106, 200, 201, 202, 203, 300, 301, 302, 503, 601, 602, 700, 701, 702, 703, 704, 705, 706, 707, 806, 807, 808, 811, 812, 813, 814, 903, 907, 1005, 1010] [0, 20, 21, 23, 36] M M := kp.rf hb
  unfold b140_38 at h
  obtain ⟨v_10, -, h⟩ := bd h
  rcases ite_some h with ⟨-, h⟩ | ⟨-, h⟩
  · cases h
    exact kc
  · obtain ⟨o_12, -, h⟩ := bd h
    obtain ⟨o_14, -, h⟩ := bd h
    obtain ⟨b_18, -, h⟩ := bd h
    obtain ⟨q_16, h5, h⟩ := bd h
    have kc := kc.tr (kf139 (c_I_some h5) kc.1) rfl rfl
    obtain ⟨o_20, -, h⟩ := bd h
    obtain ⟨o_22, -, h⟩ := bd h
    obtain ⟨b_26, -, h⟩ := bd h
    obtain ⟨q_24, h9, h⟩ := bd h
    have kc := kc.tr (kf139 (c_I_some h9) kc.1) rfl rfl
    cases h
    exact kc
theorem kb140_80 {a0 v1 v2 v3 v4 : _} {M : hM} {res : xRes} (h : b140_80 a0 v1 v2 v3 v4 M = some res) (hb : bk M) : kp [6, 9, 10, 12, 13, 104, 106, 200, 201, 202, 203, 300, 301, 302, 503, 601, 602, 700, 701, 702, 703, 704, 705, 706, 707, 806, 807, 808, 811, 812, 813, 814, 903, 907, 1005, 1010] [0, 20, 21, 23, 36] M (r_M res) := by
  have kc : kp [6, 9, 10, 12, 13, 104, 106, 200, 201, 202, 203, 300, 301, 302, 503, 601, 602, 700, 701, 702, 703, 704, 705, 706, 707, 806, 807, 808, 811, 812, 813, 814, 903, 907, 1005, 1010] [0, 20, 21, 23, 36] M M := kp.rf hb
  unfold b140_80 at h
  obtain ⟨o_29, -, h⟩ := bd h
  obtain ⟨v_31, -, h⟩ := bd h
  rcases ite_some h with ⟨-, h⟩ | ⟨-, h⟩
  · cases h
    exact kc
  · obtain ⟨o_33, -, h⟩ := bd h
    obtain ⟨o_35, -, h⟩ := bd h
    obtain ⟨b_39, -, h⟩ := bd h
    obtain ⟨q_37, h6, h⟩ := bd h
    have kc := kc.tr (kf138 (c_V_some h6) kc.1) rfl rfl
    cases h
    exact kc
theorem kb140_109 {a0 v1 v2 v3 v4 : _} {M : hM} {res : xRes} (h : b140_109 a0 v1 v2 v3 v4 M = some res) (hb : bk M) : kp [6, 9, 10, 12, 13, 104, 106, 200, 201, 202, 203, 300, 301, 302, 503, 601, 602, 700, 701, 702, 703, 704, 705, 706, 707, 806, 807, 808, 811, 812, 813, 814, 903, 907, 1005, 1010] [0, 20, 21, 23, 36] M (r_M res) := by
  have kc : kp [6, 9, 10, 12, 13, 104, 106, 200, 201, 202, 203, 300, 301, 302, 503, 601, 602, 700, 701, 702, 703, 704, 705, 706, 707, 806, 807, 808, 811, 812, 813, 814, 903, 907, 1005, 1010] [0, 20, 21, 23, 36] M M := kp.rf hb
  unfold b140_109 at h
  obtain ⟨o_42, -, h⟩ := bd h
  obtain ⟨v_44, -, h⟩ := bd h
  rcases ite_some h with ⟨-, h⟩ | ⟨-, h⟩
  · cases h
    exact kc
  · obtain ⟨o_46, -, h⟩ := bd h
    obtain ⟨o_48, -, h⟩ := bd h
    obtain ⟨b_52, -, h⟩ := bd h
    obtain ⟨q_50, h6, h⟩ := bd h
    have kc := kc.tr (kf94 (c_V_some h6) kc.1) rfl rfl
    cases h
    exact kc
theorem kf140 {as : List aV} {M M' : hM} {r : Option aV} (h : f140 as M = some (r, M')) (hb : bk M) : kp [6, 9, 10, 12, 13, 104, 106, 200, 201, 202, 203, 300, 301, 302, 503, 601, 602, 700, 701, 702, 703, 704, 705, 706, 707, 806, 807, 808, 811, 812, 813, 814, 903, 907, 1005, 1010] [0, 20, 21, 23, 36] M M' := by
  unfold f140 at h
  split at h
  · refine kx_go (blk := k140) ?_ h (fun res hx => kb140_0 hx hb)
    intro h as M res hk hb
    unfold k140 at hk
    split at hk
    · split at hk
      · exact kb140_17 hk hb
      · cases hk
    · skip
      split at hk
      · split at hk
        · exact kb140_38 hk hb
        · cases hk
      · skip
        split at hk
        · split at hk
          · exact kb140_80 hk hb
          · cases hk
        · skip
          split at hk
          · split at hk
            · exact kb140_109 hk hb
            · cases hk
          · skip
            cases hk
  · cases h
theorem kb141_28 {si0 : _} {M : hM} {res : xRes} (h : b141_28 si0 M = some res) (hb : bk M) : kp [] [] M (r_M res) := by
  have kc : kp [] [] M M := kp.rf hb
  unfold b141_28 at h
  rcases ite_some h with ⟨-, h⟩ | ⟨-, h⟩
  · cases h
    exact kc
  · cases h
theorem kb141_27 {M : hM} {res : xRes} (h : b141_27 M = some res) (hb : bk M) : kp [] [] M (r_M res) := by
  have kc : kp [] [] M M := kp.rf hb
  unfold b141_27 at h
  exact kc.tt (kb141_28 h kc.1) (fun _ q => q) (fun _ q => q)
theorem kb141_0 {a0 v1 : _} {M : hM} {res : xRes} (h : b141_0 a0 v1 M = some res) (hb : bk M) : kp [] [] M (r_M res) := by
  have kc : kp [] [] M M := kp.rf hb
  unfold b141_0 at h
  obtain ⟨o_1, -, h⟩ := bd h
  obtain ⟨b_5, -, h⟩ := bd h
  obtain ⟨q_3, h3, h⟩ := bd h
  have kc := kc.tr (kf8 (c_I_some h3) kc.1) rfl rfl
  rcases ite_some h with ⟨-, h⟩ | ⟨-, h⟩
  · exact kc.tt (kb141_27 h kc.1) (fun _ q => q) (fun _ q => q)
  · obtain ⟨o_7, -, h⟩ := bd h
    obtain ⟨o_9, -, h⟩ := bd h
    obtain ⟨o_11, -, h⟩ := bd h
    rcases ite_some h with ⟨-, h⟩ | ⟨-, h⟩
    · exact kc.tt (kb141_27 h kc.1) (fun _ q => q) (fun _ q => q)
    · exact kc.tt (kb141_28 h kc.1) (fun _ q => q) (fun _ q => q)
theorem kf141 {as : List aV} {M M' : hM} {r : Option aV} (h : f141 as M = some (r, M')) (hb : bk M) : kp [] [] M M' := by
  unfold f141 at h
  split at h
  · exact kx_out h (fun res hx => kb141_0 hx hb)
  · cases h
theorem kb142_28 {si0 : _} {M : hM} {res : xRes} (h : b142_28 si0 M = some res) (hb : bk M) : kp [] [] M (r_M res) := by
  have kc : kp [] [] M M := kp.rf hb
  unfold b142_28 at h
  rcases ite_some h with ⟨-, h⟩ | ⟨-, h⟩
  · cases h
    exact kc
  · cases h
theorem kb142_27 {M : hM} {res : xRes} (h : b142_27 M = some res) (hb : bk M) : kp [] [] M (r_M res) := by
  have kc : kp [] [] M M := kp.rf hb
  unfold b142_27 at h
  exact kc.tt (kb142_28 h kc.1) (fun _ q => q) (fun _ q => q)
theorem kb142_0 {a0 v1 : _} {M : hM} {res : xRes} (h : b142_0 a0 v1 M = some res) (hb : bk M) : kp [] [] M (r_M res) := by
  have kc : kp [] [] M M := kp.rf hb
  unfold b142_0 at h
  obtain ⟨o_1, -, h⟩ := bd h
  obtain ⟨b_5, -, h⟩ := bd h
  obtain ⟨q_3, h3, h⟩ := bd h
  have kc := kc.tr (kf8 (c_I_some h3) kc.1) rfl rfl
  rcases ite_some h with ⟨-, h⟩ | ⟨-, h⟩
  · exact kc.tt (kb142_27 h kc.1) (fun _ q => q) (fun _ q => q)
  · obtain ⟨o_7, -, h⟩ := bd h
    obtain ⟨o_9, -, h⟩ := bd h
    obtain ⟨o_11, -, h⟩ := bd h
    rcases ite_some h with ⟨-, h⟩ | ⟨-, h⟩
    · exact kc.tt (kb142_27 h kc.1) (fun _ q => q) (fun _ q => q)
    · exact kc.tt (kb142_28 h kc.1) (fun _ q => q) (fun _ q => q)
theorem kf142 {as : List aV} {M M' : hM} {r : Option aV} (h : f142 as M = some (r, M')) (hb : bk M) : kp [] [] M M' := by
  unfold f142 at h
  split at h
  · exact kx_out h (fun res hx => kb142_0 hx hb)
  · cases h
theorem kb143_0 {a0 : _} {M : hM} {res : xRes} (h : b143_0 a0 M = some res) (hb : bk M) : kp [405] [30] M (r_M res) := by
  have kc : kp [405] [30] M M := kp.rf hb
  unfold b143_0 at h
  cases h
  exact kc
theorem kb143_39 {a0 v1 v2 : _} {M : hM} {res : xRes} (h : b143_39 a0 v1 v2 M = some res) (hb : bk M) : kp [405] [30] M (r_M res) := by
  have kc : kp [405] [30] M M := kp.rf hb
  unfold b143_39 at h
  cases h
  exact kc
theorem kb143_63 {si0 : _} {M : hM} {res : xRes} (h : b143_63 si0 M = some res) (hb : bk M) : kp [405] [30] M (r_M res) := by
  have kc : kp [405] [30] M M := kp.rf hb
  unfold b143_63 at h
  rcases ite_some h with ⟨-, h⟩ | ⟨-, h⟩
  · cases h
    exact kc
  · cases h
theorem kb143_4 {a0 v1 v2 : _} {M : hM} {res : xRes} (h : b143_4 a0 v1 v2 M = some res) (hb : bk M) : kp [405] [30] M (r_M res) := by
  have kc : kp [405] [30] M M := kp.rf hb
  unfold b143_4 at h
  obtain ⟨v_1, -, h⟩ := bd h
  rcases ite_some h with ⟨-, h⟩ | ⟨-, h⟩
  · obtain ⟨M3, h2, h⟩ := bd h
    have kc := kc.tr (k_pi h2 kc.1) rfl rfl
    obtain ⟨v_5, -, h⟩ := bd h
    rcases ite_some h with ⟨-, h⟩ | ⟨-, h⟩
    · exact kc.tt (kb143_63 h kc.1) (fun _ q => q) (fun _ q => q)
    · exact kc.tt (kb143_63 h kc.1) (fun _ q => q) (fun _ q => q)
  · obtain ⟨o_8, -, h⟩ := bd h
    obtain ⟨o_10, -, h⟩ := bd h
    obtain ⟨b_14, -, h⟩ := bd h
    obtain ⟨q_12, h7, h⟩ := bd h
    have kc := kc.tr (kf47 (c_I_some h7) kc.1) rfl rfl
    rcases ite_some h with ⟨-, h⟩ | ⟨-, h⟩
    · obtain ⟨o_16, -, h⟩ := bd h
      obtain ⟨o_18, -, h⟩ := bd h
      obtain ⟨o_20, -, h⟩ := bd h
      obtain ⟨M22, h11, h⟩ := bd h
      have kc := kc.tr (k_as_r h11 kc.1) rfl rfl
      exact kc.tt (kb143_39 h kc.1) (fun _ q => q) (fun _ q => q)
    · exact kc.tt (kb143_39 h kc.1) (fun _ q => q) (fun _ q => q)
theorem kf143 {as : List aV} {M M' : hM} {r : Option aV} (h : f143 as M = some (r, M')) (hb : bk M) : kp [405] [30] M M' := by
  unfold f143 at h
  split at h
  · refine kx_go (blk := k143) ?_ h (fun res hx => kb143_0 hx hb)
    intro h as M res hk hb
    unfold k143 at hk
    split at hk
    · split at hk
      · exact kb143_4 hk hb
      · cases hk
    · skip
      cases hk
  · cases h
theorem kb144_82 {si0 : _} {M : hM} {res : xRes} (h : b144_82 si0 M = some res) (hb : bk M) : kp [405] [30] M (r_M res) := by
  have kc : kp [405] [30] M M := kp.rf hb
  unfold b144_82 at h
  rcases ite_some h with ⟨-, h⟩ | ⟨-, h⟩
  · cases h
    exact kc
  · cases h
theorem kb144_81 {M : hM} {res : xRes} (h : b144_81 M = some res) (hb : bk M) : kp [405] [30] M (r_M res) := by
  have kc : kp [405] [30] M M := kp.rf hb
  unfold b144_81 at h
  exact kc.tt (kb144_82 h kc.1) (fun _ q => q) (fun _ q => q)
theorem kb144_0 {a0 v1 v2 v3 v4 v5 : _} {M : hM} {res : xRes} (h : b144_0 a0 v1 v2 v3 v4 v5 M = some res) (hb : bk M) : kp [405] [30] M (r_M res) := by
  have kc : kp [405] [30] M M := kp.rf hb
  unfold b144_0 at h
  obtain ⟨b_3, -, h⟩ := bd h
  obtain ⟨q_1, h2, h⟩ := bd h
  have kc := kc.tr (kf141 (c_I_some h2) kc.1) rfl rfl
  rcases ite_some h with ⟨-, h⟩ | ⟨-, h⟩
  · exact kc.tt (kb144_81 h kc.1) (fun _ q => q) (fun _ q => q)
  · obtain ⟨b_7, -, h⟩ := bd h
    obtain ⟨q_5, h4, h⟩ := bd h
    have kc := kc.tr (kf142 (c_I_some h4) kc.1) rfl rfl
    rcases ite_some h with ⟨-, h⟩ | ⟨-, h⟩
    · exact kc.tt (kb144_81 h kc.1) (fun _ q => q) (fun _ q => q)
    · rcases ite_some h with ⟨-, h⟩ | ⟨-, h⟩
      · exact kc.tt (kb144_81 h kc.1) (fun _ q => q) (fun _ q => q)
      · rcases ite_some h with ⟨-, h⟩ | ⟨-, h⟩
        · exact kc.tt (kb144_81 h kc.1) (fun _ q => q) (fun _ q => q)
        · rcases ite_some h with ⟨-, h⟩ | ⟨-, h⟩
          · exact kc.tt (kb144_81 h kc.1) (fun _ q => q) (fun _ q => q)
          · rcases ite_some h with ⟨-, h⟩ | ⟨-, h⟩
            · exact kc.tt (kb144_81 h kc.1) (fun _ q => q) (fun _ q => q)
            · rcases ite_some h with ⟨-, h⟩ | ⟨-, h⟩
              · exact kc.tt (kb144_81 h kc.1) (fun _ q => q) (fun _ q => q)
              · rcases ite_some h with ⟨-, h⟩ | ⟨-, h⟩
                · exact kc.tt (kb144_81 h kc.1) (fun _ q => q) (fun _ q => q)
                · obtain ⟨v_9, -, h⟩ := bd h
                  rcases ite_some h with ⟨-, h⟩ | ⟨-, h⟩
                  · exact kc.tt (kb144_81 h kc.1) (fun _ q => q) (fun _ q => q)
                  · obtain ⟨o_11, -, h⟩ := bd h
                    obtain ⟨o_13, -, h⟩ := bd h
                    obtain ⟨o_15, -, h⟩ := bd h
                    obtain ⟨b_19, -, h⟩ := bd h
                    obtain ⟨q_17, h10, h⟩ := bd h
                    have kc := kc.tr (kf143 (c_I_some h10) kc.1) rfl rfl
                    rcases ite_some h with ⟨-, h⟩ | ⟨-, h⟩
                    · exact kc.tt (kb144_81 h kc.1) (fun _ q => q) (fun _ q => q)
                    · exact kc.tt (kb144_82 h kc.1) (fun _ q => q) (fun _ q => q)
theorem kf144 {as : List aV} {M M' : hM} {r : Option aV} (h : f144 as M = some (r, M')) (hb : bk M) : kp [405] [30] M M' := by
  unfold f144 at h
  split at h
  · exact kx_out h (fun res hx => kb144_0 hx hb)
  · cases h
theorem kb145_0 {a0 v1 v2 v3 v4 w5 : _} {M : hM} {res : xRes} (h : b145_0 a0 v1 v2 v3 v4 w5 M = some res) (hb : bk M) : kp [0, 1, 2, 3, 4, 5, 13] [0] M (r_M res) := by
  have kc : kp [0, 1, 2, 3, 4, 5, 13] [0] M M := kp.rf hb
  unfold b145_0 at h
  obtain ⟨M1, h1, h⟩ := bd h
  have kc := kc.tr (k_n_a h1 kc.1) rfl rfl
  obtain ⟨M3, h2, h⟩ := bd h
  have kc := kc.tr (k_pr h2 kc.1) rfl rfl
  obtain ⟨M5, h3, h⟩ := bd h
  have kc := kc.tr (k_pi h3 kc.1) rfl rfl
  obtain ⟨M7, h4, h⟩ := bd h
  have kc := kc.tr (k_pz h4 kc.1) rfl rfl
  obtain ⟨M9, h5, h⟩ := bd h
  have kc := kc.tr (k_pi h5 kc.1) rfl rfl
  obtain ⟨M11, h6, h⟩ := bd h
  have kc := kc.tr (k_pi h6 kc.1) rfl rfl
  obtain ⟨M13, h7, h⟩ := bd h
  have kc := kc.tr (k_pi h7 kc.1) rfl rfl
  obtain ⟨M15, h8, h⟩ := bd h
  have kc := kc.tr (k_pl h8 kc.1) rfl rfl
  cases h
  exact kc
theorem kf145 {as : List aV} {M M' : hM} {r : Option aV} (h : f145 as M = some (r, M')) (hb : bk M) : kp [0, 1, 2, 3, 4, 5, 13] [0] M M' := by
  unfold f145 at h
  split at h
  · exact kx_out h (fun res hx => kb145_0 hx hb)
  · cases h
theorem kb146_50 {M : hM} {res : xRes} (h : b146_50 M = some res) (hb : bk M) : kp [10, 11, 12, 200, 201, 202, 203, 300, 301, 302, 402, 405, 907] [0, 20, 21, 30] M (r_M res) := by
  have kc : kp [10, 11, 12, 200, 201, 202, 203, 300, 301, 302, 402, 405, 907] [0, 20, 21, 30] M M := kp.rf hb
  unfold b146_50 at h
  cases h
  exact kc
theorem kb146_0 {a0 o1 : _} {M : hM} {res : xRes} (h : b146_0 a0 o1 M = some res) (hb : bk M) : kp [10, 11, 12, 200, 201, 202, 203, 300, 301, 302, 402, 405, 907] [0, 20, 21, 30] M (r_M res) := by
  have kc : kp [10, 11, 12, 200, 201, 202, 203, 300, 301, 302, 402, 405, 907] [0, 20, 21, 30] M M := kp.rf hb
  unfold b146_0 at h
  obtain ⟨v_1, -, h⟩ := bd h
  rcases ite_some h with ⟨-, h⟩ | ⟨-, h⟩
  · exact kc.tt (kb146_50 h kc.1) (fun _ q => q) (fun _ q => q)
  · obtain ⟨M3, h2, h⟩ := bd h
    have kc := kc.tr (k_pz h2 kc.1) rfl rfl
    obtain ⟨o_5, -, h⟩ := bd h
    obtain ⟨v_7, -, h⟩ := bd h
    obtain ⟨M9, h5, h⟩ := bd h
    have kc := kc.tr (k_as_r h5 kc.1) rfl rfl
    obtain ⟨v_11, -, h⟩ := bd h
    obtain ⟨M13, h7, h⟩ := bd h
    have kc := kc.tr (k_pi h7 kc.1) rfl rfl
    obtain ⟨o_15, -, h⟩ := bd h
    obtain ⟨v_17, -, h⟩ := bd h
    obtain ⟨M19, h10, h⟩ := bd h
    have kc := kc.tr (k_pi h10 kc.1) rfl rfl
    obtain ⟨b_23, -, h⟩ := bd h
    obtain ⟨q_21, h12, h⟩ := bd h
    have kc := kc.tr (kf51 (c_V_some h12) kc.1) rfl rfl
    exact kc.tt (kb146_50 h kc.1) (fun _ q => q) (fun _ q => q)
theorem kf146 {as : List aV} {M M' : hM} {r : Option aV} (h : f146 as M = some (r, M')) (hb : bk M) : kp [10, 11, 12, 200, 201, 202, 203, 300, 301, 302, 402, 405, 907] [0, 20, 21, 30] M M' := by
  unfold f146 at h
  split at h
  · exact kx_out h (fun res hx => kb146_0 hx hb)
  · cases h
theorem kb147_0 {a0 v1 v2 o3 : _} {M : hM} {res : xRes} (h : b147_0 a0 v1 v2 o3 M = some res) (hb : bk M) : kp [7, 8, 10, 11, 12, 200, 201, 202, 203, 300, 301, 302, 402, 405, 907, 1107] [0, 20, 21, 30] M (r_M res) := by
  have kc : kp [7, 8, 10, 11, 12, 200, 201, 202, 203, 300, 301, 302, 402, 405, 907, 1107] [0, 20, 21, 30] M M := kp.rf hb
  unfold b147_0 at h
  obtain ⟨v_1, -, h⟩ := bd h
  obtain ⟨M3, h2, h⟩ := bd h
  have kc := kc.tr (k_pi h2 kc.1) rfl rfl
  obtain ⟨M5, h3, h⟩ := bd h
  have kc := kc.tr (k_pi h3 kc.1) rfl rfl
  obtain ⟨o_7, -, h⟩ := bd h
  obtain ⟨v_9, -, h⟩ := bd h
  obtain ⟨M11, h6, h⟩ := bd h
  have kc := kc.tr (k_as_r h6 kc.1) rfl rfl
  obtain ⟨v_13, -, h⟩ := bd h
  obtain ⟨M15, h8, h⟩ := bd h
  have kc := kc.tr (k_pi h8 kc.1) rfl rfl
  obtain ⟨o_17, -, h⟩ := bd h
  obtain ⟨o_19, -, h⟩ := bd h
  obtain ⟨o_21, -, h⟩ := bd h
  obtain ⟨b_25, -, h⟩ := bd h
  obtain ⟨q_23, h13, h⟩ := bd h
  have kc := kc.tr (kf146 (c_V_some h13) kc.1) rfl rfl
  obtain ⟨v_27, -, h⟩ := bd h
  cases h
  exact kc
theorem kf147 {as : List aV} {M M' : hM} {r : Option aV} (h : f147 as M = some (r, M')) (hb : bk M) : kp [7, 8, 10, 11, 12, 200, 201, 202, 203, 300, 301, 302, 402, 405, 907, 1107] [0, 20, 21, 30] M M' := by
  unfold f147 at h
  split at h
  · exact kx_out h (fun res hx => kb147_0 hx hb)
  · cases h
theorem kb148_0 {a0 v1 v2 v3 v4 v5 : _} {M : hM} {res : xRes} (h : b148_0 a0 v1 v2 v3 v4 v5 M = some res) (hb : bk M) : kp [0, 1, 2, 3, 4, 5, 7, 8, 10, 11, 12, 13, 200, 201, 202, 203, 300, 301, 302, 402, 405, 907, 1107] [0, 20, 21, 30] M (r_M res) := by
  have kc : kp [0, 1, 2, 3, 4, 5, 7, 8, 10, 11, 12, 13, 200, 201, 202, 203, 300, 301, 302, 402, 405, 907, 1107] [0, 20, 21, 30] M M := kp.rf hb
  unfold b148_0 at h
  obtain ⟨b_3, -, h⟩ := bd h
  obtain ⟨q_1, h2, h⟩ := bd h
  have kc := kc.tr (kf144 (c_I_some h2) kc.1) rfl rfl
  rcases ite_some h with ⟨-, h⟩ | ⟨-, h⟩
  · cases h
    exact kc
  · obtain ⟨M5, h3, h⟩ := bd h
    have kc := kc.tr (k_n_o h3 kc.1) rfl rfl
    obtain ⟨q_7, h4, h⟩ := bd h
    have kc := kc.tr (kf145 (c_V_some h4) kc.1) rfl rfl
    obtain ⟨b_11, -, h⟩ := bd h
    obtain ⟨q_9, h6, h⟩ := bd h
    have kc := kc.tr (kf147 (c_I_some h6) kc.1) rfl rfl
    cases h
    exact kc
theorem kf148 {as : List aV} {M M' : hM} {r : Option aV} (h : f148 as M = some (r, M')) (hb : bk M) : kp [0, 1, 2, 3, 4, 5, 7, 8, 10, 11, 12, 13, 200, 201, 202, 203, 300, 301, 302, 402, 405, 907, 1107] [0, 20, 21, 30] M M' := by
  unfold f148 at h
  split at h
  · exact kx_out h (fun res hx => kb148_0 hx hb)
  · cases h
theorem kb149_0 {a0 v1 v2 v3 v4 v5 w6 : _} {M : hM} {res : xRes} (h : b149_0 a0 v1 v2 v3 v4 v5 w6 M = some res) (hb : bk M) : kp [0, 1, 2, 3, 4, 5, 7, 8, 10, 11, 12, 13, 200, 201, 202, 203, 300, 301, 302, 402, 405, 907, 1107] [0, 20, 21, 30] M (r_M res) := by
  have kc : kp [0, 1, 2, 3, 4, 5, 7, 8, 10, 11, 12, 13, 200, 201, 202, 203, 300, 301, 302, 402, 405, 907, 1107] [0, 20, 21, 30] M M := kp.rf hb
  unfold b149_0 at h
  obtain ⟨b_3, -, h⟩ := bd h
  obtain ⟨q_1, h2, h⟩ := bd h
  have kc := kc.tr (kf144 (c_I_some h2) kc.1) rfl rfl
  rcases ite_some h with ⟨-, h⟩ | ⟨-, h⟩
  · cases h
    exact kc
  · obtain ⟨M5, h3, h⟩ := bd h
    have kc := kc.tr (k_n_o h3 kc.1) rfl rfl
    obtain ⟨q_7, h4, h⟩ := bd h
    have kc := kc.tr (kf145 (c_V_some h4) kc.1) rfl rfl
    obtain ⟨b_11, -, h⟩ := bd h
    obtain ⟨q_9, h6, h⟩ := bd h
    have kc := kc.tr (kf147 (c_I_some h6) kc.1) rfl rfl
    cases h
    exact kc
theorem kf149 {as : List aV} {M M' : hM} {r : Option aV} (h : f149 as M = some (r, M')) (hb : bk M) : kp [0, 1, 2, 3, 4, 5, 7, 8, 10, 11, 12, 13, 200, 201, 202, 203, 300, 301, 302, 402, 405, 907, 1107] [0, 20, 21, 30] M M' := by
  unfold f149 at h
  split at h
  · exact kx_out h (fun res hx => kb149_0 hx hb)
  · cases h
theorem kb150_17 {si0 : _} {M : hM} {res : xRes} (h : b150_17 si0 M = some res) (hb : bk M) : kp [] [] M (r_M res) := by
  have kc : kp [] [] M M := kp.rf hb
  unfold b150_17 at h
  rcases ite_some h with ⟨-, h⟩ | ⟨-, h⟩
  · cases h
    exact kc
  · cases h
theorem kb150_16 {M : hM} {res : xRes} (h : b150_16 M = some res) (hb : bk M) : kp [] [] M (r_M res) := by
  have kc : kp [] [] M M := kp.rf hb
  unfold b150_16 at h
  exact kc.tt (kb150_17 h kc.1) (fun _ q => q) (fun _ q => q)
theorem kb150_0 {a0 v1 : _} {M : hM} {res : xRes} (h : b150_0 a0 v1 M = some res) (hb : bk M) : kp [] [] M (r_M res) := by
  have kc : kp [] [] M M := kp.rf hb
  unfold b150_0 at h
  rcases ite_some h with ⟨-, h⟩ | ⟨-, h⟩
  · exact kc.tt (kb150_16 h kc.1) (fun _ q => q) (fun _ q => q)
  · obtain ⟨v_1, -, h⟩ := bd h
    rcases ite_some h with ⟨-, h⟩ | ⟨-, h⟩
    · exact kc.tt (kb150_16 h kc.1) (fun _ q => q) (fun _ q => q)
    · exact kc.tt (kb150_17 h kc.1) (fun _ q => q) (fun _ q => q)
theorem kf150 {as : List aV} {M M' : hM} {r : Option aV} (h : f150 as M = some (r, M')) (hb : bk M) : kp [] [] M M' := by
  unfold f150 at h
  split at h
  · exact kx_out h (fun res hx => kb150_0 hx hb)
  · cases h
theorem kb151_21 {si0 : _} {M : hM} {res : xRes} (h : b151_21 si0 M = some res) (hb : bk M) : kp [] [] M (r_M res) := by
  have kc : kp [] [] M M := kp.rf hb
  unfold b151_21 at h
  cases h
  exact kc
theorem kb151_0 {a0 v1 : _} {M : hM} {res : xRes} (h : b151_0 a0 v1 M = some res) (hb : bk M) : kp [] [] M (r_M res) := by
  have kc : kp [] [] M M := kp.rf hb
  unfold b151_0 at h
  obtain ⟨b_3, -, h⟩ := bd h
  obtain ⟨q_1, h2, h⟩ := bd h
  have kc := kc.tr (kf150 (c_I_some h2) kc.1) rfl rfl
  rcases ite_some h with ⟨-, h⟩ | ⟨-, h⟩
  · exact kc.tt (kb151_21 h kc.1) (fun _ q => q) (fun _ q => q)
  · obtain ⟨o_5, -, h⟩ := bd h
    obtain ⟨o_7, -, h⟩ := bd h
    obtain ⟨v_9, -, h⟩ := bd h
    exact kc.tt (kb151_21 h kc.1) (fun _ q => q) (fun _ q => q)
theorem kf151 {as : List aV} {M M' : hM} {r : Option aV} (h : f151 as M = some (r, M')) (hb : bk M) : kp [] [] M M' := by
  unfold f151 at h
  split at h
  · exact kx_out h (fun res hx => kb151_0 hx hb)
  · cases h
theorem kb152_29 {M : hM} {res : xRes} (h : b152_29 M = some res) (hb : bk M) : kp [] [] M (r_M res) := by
  have kc : kp [] [] M M := kp.rf hb
  unfold b152_29 at h
  cases h
  exact kc
theorem kb152_0 {a0 v1 v2 : _} {M : hM} {res : xRes} (h : b152_0 a0 v1 v2 M = some res) (hb : bk M) : kp [] [] M (r_M res) := by
  have kc : kp [] [] M M := kp.rf hb
  unfold b152_0 at h
  obtain ⟨b_3, -, h⟩ := bd h
  obtain ⟨q_1, h2, h⟩ := bd h
  have kc := kc.tr (kf150 (c_I_some h2) kc.1) rfl rfl
  rcases ite_some h with ⟨-, h⟩ | ⟨-, h⟩
  · exact kc.tt (kb152_29 h kc.1) (fun _ q => q) (fun _ q => q)
  · obtain ⟨o_5, -, h⟩ := bd h
    obtain ⟨o_7, -, h⟩ := bd h
    obtain ⟨v_9, -, h⟩ := bd h
    rcases ite_some h with ⟨-, h⟩ | ⟨-, h⟩
    · rcases ite_some h with ⟨-, h⟩ | ⟨-, h⟩
      · exact kc.tt (kb152_29 h kc.1) (fun _ q => q) (fun _ q => q)
      · rcases ite_some h with ⟨-, h⟩ | ⟨-, h⟩
        · obtain ⟨o_11, -, h⟩ := bd h
          obtain ⟨o_13, -, h⟩ := bd h
          obtain ⟨o_15, -, h⟩ := bd h
          obtain ⟨w_17, -, h⟩ := bd h
          cases h
          exact kc
        · exact kc.tt (kb152_29 h kc.1) (fun _ q => q) (fun _ q => q)
    · exact kc.tt (kb152_29 h kc.1) (fun _ q => q) (fun _ q => q)
theorem kf152 {as : List aV} {M M' : hM} {r : Option aV} (h : f152 as M = some (r, M')) (hb : bk M) : kp [] [] M M' := by
  unfold f152 at h
  split at h
  · exact kx_out h (fun res hx => kb152_0 hx hb)
  · cases h
theorem kb153_0 {a0 v1 v2 : _} {M : hM} {res : xRes} (h : b153_0 a0 v1 v2 M = some res) (hb : bk M) : kp [] [] M (r_M res) := by
  have kc : kp [] [] M M := kp.rf hb
  unfold b153_0 at h
  obtain ⟨b_3, -, h⟩ := bd h
  obtain ⟨q_1, h2, h⟩ := bd h
  have kc := kc.tr (kf150 (c_I_some h2) kc.1) rfl rfl
  rcases ite_some h with ⟨-, h⟩ | ⟨-, h⟩
  · cases h
    exact kc
  · rcases ite_some h with ⟨-, h⟩ | ⟨-, h⟩
    · obtain ⟨o_6, -, h⟩ := bd h
      obtain ⟨o_8, -, h⟩ := bd h
      obtain ⟨v_10, -, h⟩ := bd h
      cases h
      exact kc
    · rcases ite_some h with ⟨-, h⟩ | ⟨-, h⟩
      · obtain ⟨o_13, -, h⟩ := bd h
        obtain ⟨o_15, -, h⟩ := bd h
        obtain ⟨v_17, -, h⟩ := bd h
        cases h
        exact kc
      · rcases ite_some h with ⟨-, h⟩ | ⟨-, h⟩
        · obtain ⟨o_20, -, h⟩ := bd h
          obtain ⟨o_22, -, h⟩ := bd h
          obtain ⟨v_24, -, h⟩ := bd h
          cases h
          exact kc
        · cases h
          exact kc
theorem kf153 {as : List aV} {M M' : hM} {r : Option aV} (h : f153 as M = some (r, M')) (hb : bk M) : kp [] [] M M' := by
  unfold f153 at h
  split at h
  · exact kx_out h (fun res hx => kb153_0 hx hb)
  · cases h
theorem kb154_27 {M : hM} {res : xRes} (h : b154_27 M = some res) (hb : bk M) : kp [] [] M (r_M res) := by
  have kc : kp [] [] M M := kp.rf hb
  unfold b154_27 at h
  cases h
  exact kc
theorem kb154_0 {a0 v1 v2 v3 : _} {M : hM} {res : xRes} (h : b154_0 a0 v1 v2 v3 M = some res) (hb : bk M) : kp [] [] M (r_M res) := by
  have kc : kp [] [] M M := kp.rf hb
  unfold b154_0 at h
  obtain ⟨b_3, -, h⟩ := bd h
  obtain ⟨q_1, h2, h⟩ := bd h
  have kc := kc.tr (kf142 (c_I_some h2) kc.1) rfl rfl
  rcases ite_some h with ⟨-, h⟩ | ⟨-, h⟩
  · exact kc.tt (kb154_27 h kc.1) (fun _ q => q) (fun _ q => q)
  · rcases ite_some h with ⟨-, h⟩ | ⟨-, h⟩
    · exact kc.tt (kb154_27 h kc.1) (fun _ q => q) (fun _ q => q)
    · rcases ite_some h with ⟨-, h⟩ | ⟨-, h⟩
      · exact kc.tt (kb154_27 h kc.1) (fun _ q => q) (fun _ q => q)
      · rcases ite_some h with ⟨-, h⟩ | ⟨-, h⟩
        · exact kc.tt (kb154_27 h kc.1) (fun _ q => q) (fun _ q => q)
        · rcases ite_some h with ⟨-, h⟩ | ⟨-, h⟩
          · obtain ⟨o_5, -, h⟩ := bd h
            obtain ⟨o_7, -, h⟩ := bd h
            obtain ⟨o_9, -, h⟩ := bd h
            obtain ⟨o_11, -, h⟩ := bd h
            obtain ⟨w_13, -, h⟩ := bd h
            cases h
            exact kc
          · exact kc.tt (kb154_27 h kc.1) (fun _ q => q) (fun _ q => q)
theorem kf154 {as : List aV} {M M' : hM} {r : Option aV} (h : f154 as M = some (r, M')) (hb : bk M) : kp [] [] M M' := by
  unfold f154 at h
  split at h
  · exact kx_out h (fun res hx => kb154_0 hx hb)
  · cases h
theorem kb155_19 {M : hM} {res : xRes} (h : b155_19 M = some res) (hb : bk M) : kp [] [] M (r_M res) := by
  have kc : kp [] [] M M := kp.rf hb
  unfold b155_19 at h
  cases h
  exact kc
theorem kb155_53 {si0 : _} {M : hM} {res : xRes} (h : b155_53 si0 M = some res) (hb : bk M) : kp [] [] M (r_M res) := by
  have kc : kp [] [] M M := kp.rf hb
  unfold b155_53 at h
  cases h
  exact kc
theorem kb155_48 {v2 o3 : _} {M : hM} {res : xRes} (h : b155_48 v2 o3 M = some res) (hb : bk M) : kp [] [] M (r_M res) := by
  have kc : kp [] [] M M := kp.rf hb
  unfold b155_48 at h
  obtain ⟨b_20, -, h⟩ := bd h
  obtain ⟨q_18, h2, h⟩ := bd h
  have kc := kc.tr (kf132 (c_I_some h2) kc.1) rfl rfl
  exact kc.tt (kb155_53 h kc.1) (fun _ q => q) (fun _ q => q)
theorem kb155_0 {a0 v1 v2 : _} {M : hM} {res : xRes} (h : b155_0 a0 v1 v2 M = some res) (hb : bk M) : kp [] [] M (r_M res) := by
  have kc : kp [] [] M M := kp.rf hb
  unfold b155_0 at h
  obtain ⟨b_3, -, h⟩ := bd h
  obtain ⟨q_1, h2, h⟩ := bd h
  have kc := kc.tr (kf12 (c_I_some h2) kc.1) rfl rfl
  rcases ite_some h with ⟨-, h⟩ | ⟨-, h⟩
  · exact kc.tt (kb155_19 h kc.1) (fun _ q => q) (fun _ q => q)
  · rcases ite_some h with ⟨-, h⟩ | ⟨-, h⟩
    · exact kc.tt (kb155_19 h kc.1) (fun _ q => q) (fun _ q => q)
    · rcases ite_some h with ⟨-, h⟩ | ⟨-, h⟩
      · obtain ⟨o_5, -, h⟩ := bd h
        obtain ⟨o_7, -, h⟩ := bd h
        obtain ⟨v_9, -, h⟩ := bd h
        rcases ite_some h with ⟨-, h⟩ | ⟨-, h⟩
        · obtain ⟨v_11, -, h⟩ := bd h
          rcases ite_some h with ⟨-, h⟩ | ⟨-, h⟩
          · exact kc.tt (kb155_53 h kc.1) (fun _ q => q) (fun _ q => q)
          · exact kc.tt (kb155_48 h kc.1) (fun _ q => q) (fun _ q => q)
        · exact kc.tt (kb155_48 h kc.1) (fun _ q => q) (fun _ q => q)
      · exact kc.tt (kb155_19 h kc.1) (fun _ q => q) (fun _ q => q)
theorem kf155 {as : List aV} {M M' : hM} {r : Option aV} (h : f155 as M = some (r, M')) (hb : bk M) : kp [] [] M M' := by
  unfold f155 at h
  split at h
  · exact kx_out h (fun res hx => kb155_0 hx hb)
  · cases h
theorem kb156_0 {a0 : _} {M : hM} {res : xRes} (h : b156_0 a0 M = some res) (hb : bk M) : kp [] [] M (r_M res) := by
  have kc : kp [] [] M M := kp.rf hb
  unfold b156_0 at h
  obtain ⟨b_3, -, h⟩ := bd h
  obtain ⟨q_1, h2, h⟩ := bd h
  have kc := kc.tr (kf96 (c_I_some h2) kc.1) rfl rfl
  obtain ⟨b_7, -, h⟩ := bd h
  obtain ⟨q_5, h4, h⟩ := bd h
  have kc := kc.tr (kf96 (c_I_some h4) kc.1) rfl rfl
  cases h
  exact kc
theorem kf156 {as : List aV} {M M' : hM} {r : Option aV} (h : f156 as M = some (r, M')) (hb : bk M) : kp [] [] M M' := by
  unfold f156 at h
  split at h
  · exact kx_out h (fun res hx => kb156_0 hx hb)
  · cases h
theorem kb157_33 {M : hM} {res : xRes} (h : b157_33 M = some res) (hb : bk M) : kp [] [] M (r_M res) := by
  have kc : kp [] [] M M := kp.rf hb
  unfold b157_33 at h
  cases h
  exact kc
theorem kb157_0 {a0 v1 v2 v3 : _} {M : hM} {res : xRes} (h : b157_0 a0 v1 v2 v3 M = some res) (hb : bk M) : kp [] [] M (r_M res) := by
  have kc : kp [] [] M M := kp.rf hb
  unfold b157_0 at h
  obtain ⟨b_3, -, h⟩ := bd h
  obtain ⟨q_1, h2, h⟩ := bd h
  have kc := kc.tr (kf12 (c_I_some h2) kc.1) rfl rfl
  rcases ite_some h with ⟨-, h⟩ | ⟨-, h⟩
  · exact kc.tt (kb157_33 h kc.1) (fun _ q => q) (fun _ q => q)
  · obtain ⟨b_7, -, h⟩ := bd h
    obtain ⟨q_5, h4, h⟩ := bd h
    have kc := kc.tr (kf12 (c_I_some h4) kc.1) rfl rfl
    rcases ite_some h with ⟨-, h⟩ | ⟨-, h⟩
    · exact kc.tt (kb157_33 h kc.1) (fun _ q => q) (fun _ q => q)
    · obtain ⟨o_9, -, h⟩ := bd h
      obtain ⟨o_11, -, h⟩ := bd h
      obtain ⟨o_13, -, h⟩ := bd h
      obtain ⟨o_15, -, h⟩ := bd h
      obtain ⟨b_19, -, h⟩ := bd h
      obtain ⟨q_17, h10, h⟩ := bd h
      have kc := kc.tr (kf105 (c_I_some h10) kc.1) rfl rfl
      rcases ite_some h with ⟨-, h⟩ | ⟨-, h⟩
      · exact kc.tt (kb157_33 h kc.1) (fun _ q => q) (fun _ q => q)
      · obtain ⟨o_21, -, h⟩ := bd h
        obtain ⟨o_23, -, h⟩ := bd h
        obtain ⟨o_25, -, h⟩ := bd h
        obtain ⟨o_27, -, h⟩ := bd h
        rcases ite_some h with ⟨-, h⟩ | ⟨-, h⟩
        · obtain ⟨b_32, -, h⟩ := bd h
          obtain ⟨q_30, h16, h⟩ := bd h
          have kc := kc.tr (kf118 (c_I_some h16) kc.1) rfl rfl
          cases h
          exact kc
        · rcases ite_some h with ⟨-, h⟩ | ⟨-, h⟩
          · obtain ⟨b_37, -, h⟩ := bd h
            obtain ⟨q_35, h18, h⟩ := bd h
            have kc := kc.tr (kf103 (c_I_some h18) kc.1) rfl rfl
            cases h
            exact kc
          · rcases ite_some h with ⟨-, h⟩ | ⟨-, h⟩
            · obtain ⟨b_42, -, h⟩ := bd h
              obtain ⟨q_40, h20, h⟩ := bd h
              have kc := kc.tr (kf97 (c_I_some h20) kc.1) rfl rfl
              cases h
              exact kc
            · rcases ite_some h with ⟨-, h⟩ | ⟨-, h⟩
              · obtain ⟨b_47, -, h⟩ := bd h
                obtain ⟨q_45, h22, h⟩ := bd h
                have kc := kc.tr (kf156 (c_I_some h22) kc.1) rfl rfl
                cases h
                exact kc
              · rcases ite_some h with ⟨-, h⟩ | ⟨-, h⟩
                · obtain ⟨v_50, -, h⟩ := bd h
                  cases h
                  exact kc
                · cases h
                  exact kc
theorem kf157 {as : List aV} {M M' : hM} {r : Option aV} (h : f157 as M = some (r, M')) (hb : bk M) : kp [] [] M M' := by
  unfold f157 at h
  split at h
  · exact kx_out h (fun res hx => kb157_0 hx hb)
  · cases h
theorem kb158_42 {si0 : _} {M : hM} {res : xRes} (h : b158_42 si0 M = some res) (hb : bk M) : kp [] [] M (r_M res) := by
  have kc : kp [] [] M M := kp.rf hb
  unfold b158_42 at h
  cases h
  exact kc
theorem kb158_38 {a0 : _} {M : hM} {res : xRes} (h : b158_38 a0 M = some res) (hb : bk M) : kp [] [] M (r_M res) := by
  have kc : kp [] [] M M := kp.rf hb
  unfold b158_38 at h
  obtain ⟨v_20, -, h⟩ := bd h
  exact kc.tt (kb158_42 h kc.1) (fun _ q => q) (fun _ q => q)
theorem kb158_0 {a0 : _} {M : hM} {res : xRes} (h : b158_0 a0 M = some res) (hb : bk M) : kp [] [] M (r_M res) := by
  have kc : kp [] [] M M := kp.rf hb
  unfold b158_0 at h
  obtain ⟨b_3, -, h⟩ := bd h
  obtain ⟨q_1, h2, h⟩ := bd h
  have kc := kc.tr (kf115 (c_I_some h2) kc.1) rfl rfl
  rcases ite_some h with ⟨-, h⟩ | ⟨-, h⟩
  · obtain ⟨v_5, -, h⟩ := bd h
    rcases ite_some h with ⟨-, h⟩ | ⟨-, h⟩
    · exact kc.tt (kb158_38 h kc.1) (fun _ q => q) (fun _ q => q)
    · obtain ⟨o_7, -, h⟩ := bd h
      rcases ite_some h with ⟨-, h⟩ | ⟨-, h⟩
      · exact kc.tt (kb158_38 h kc.1) (fun _ q => q) (fun _ q => q)
      · obtain ⟨o_9, -, h⟩ := bd h
        obtain ⟨v_11, -, h⟩ := bd h
        exact kc.tt (kb158_42 h kc.1) (fun _ q => q) (fun _ q => q)
  · obtain ⟨b_17, -, h⟩ := bd h
    obtain ⟨q_15, h8, h⟩ := bd h
    have kc := kc.tr (kf116 (c_I_some h8) kc.1) rfl rfl
    cases h
    exact kc
theorem kf158 {as : List aV} {M M' : hM} {r : Option aV} (h : f158 as M = some (r, M')) (hb : bk M) : kp [] [] M M' := by
  unfold f158 at h
  split at h
  · exact kx_out h (fun res hx => kb158_0 hx hb)
  · cases h
theorem kb159_21 {M : hM} {res : xRes} (h : b159_21 M = some res) (hb : bk M) : kp [] [] M (r_M res) := by
  have kc : kp [] [] M M := kp.rf hb
  unfold b159_21 at h
  cases h
  exact kc
theorem kb159_103 {si0 : _} {M : hM} {res : xRes} (h : b159_103 si0 M = some res) (hb : bk M) : kp [] [] M (r_M res) := by
  have kc : kp [] [] M M := kp.rf hb
  unfold b159_103 at h
  cases h
  exact kc
theorem kb159_0 {a0 v1 v2 v3 : _} {M : hM} {res : xRes} (h : b159_0 a0 v1 v2 v3 M = some res) (hb : bk M) : kp [] [] M (r_M res) := by
  have kc : kp [] [] M M := kp.rf hb
  unfold b159_0 at h
  obtain ⟨b_3, -, h⟩ := bd h
  obtain ⟨q_1, h2, h⟩ := bd h
  have kc := kc.tr (kf13 (c_R_some h2) kc.1) rfl rfl
  rcases ite_some h with ⟨-, h⟩ | ⟨-, h⟩
  · exact kc.tt (kb159_21 h kc.1) (fun _ q => q) (fun _ q => q)
  · obtain ⟨o_5, -, h⟩ := bd h
    rcases ite_some h with ⟨-, h⟩ | ⟨-, h⟩
    · exact kc.tt (kb159_21 h kc.1) (fun _ q => q) (fun _ q => q)
    · rcases ite_some h with ⟨-, h⟩ | ⟨-, h⟩
      · obtain ⟨v_8, -, h⟩ := bd h
        cases h
        exact kc
      · rcases ite_some h with ⟨-, h⟩ | ⟨-, h⟩
        · obtain ⟨o_11, -, h⟩ := bd h
          obtain ⟨v_13, -, h⟩ := bd h
          cases h
          exact kc
        · rcases ite_some h with ⟨-, h⟩ | ⟨-, h⟩
          · obtain ⟨o_16, -, h⟩ := bd h
            obtain ⟨v_18, -, h⟩ := bd h
            cases h
            exact kc
          · rcases ite_some h with ⟨-, h⟩ | ⟨-, h⟩
            · obtain ⟨b_23, -, h⟩ := bd h
              obtain ⟨q_21, h10, h⟩ := bd h
              have kc := kc.tr (kf158 (c_I_some h10) kc.1) rfl rfl
              cases h
              exact kc
            · rcases ite_some h with ⟨-, h⟩ | ⟨-, h⟩
              · obtain ⟨v_26, -, h⟩ := bd h
                rcases ite_some h with ⟨-, h⟩ | ⟨-, h⟩
                · exact kc.tt (kb159_103 h kc.1) (fun _ q => q) (fun _ q => q)
                · exact kc.tt (kb159_103 h kc.1) (fun _ q => q) (fun _ q => q)
              · cases h
                exact kc
theorem kf159 {as : List aV} {M M' : hM} {r : Option aV} (h : f159 as M = some (r, M')) (hb : bk M) : kp [] [] M M' := by
  unfold f159 at h
  split at h
  · exact kx_out h (fun res hx => kb159_0 hx hb)
  · cases h
theorem kb160_24 {si0 : _} {M : hM} {res : xRes} (h : b160_24 si0 M = some res) (hb : bk M) : kp [] [] M (r_M res) := by
  have kc : kp [] [] M M := kp.rf hb
  unfold b160_24 at h
  cases h
  exact kc
theorem kb160_0 {a0 v1 : _} {M : hM} {res : xRes} (h : b160_0 a0 v1 M = some res) (hb : bk M) : kp [] [] M (r_M res) := by
  have kc : kp [] [] M M := kp.rf hb
  unfold b160_0 at h
  obtain ⟨o_1, -, h⟩ := bd h
  obtain ⟨b_5, -, h⟩ := bd h
  obtain ⟨q_3, h3, h⟩ := bd h
  have kc := kc.tr (kf8 (c_I_some h3) kc.1) rfl rfl
  rcases ite_some h with ⟨-, h⟩ | ⟨-, h⟩
  · exact kc.tt (kb160_24 h kc.1) (fun _ q => q) (fun _ q => q)
  · obtain ⟨o_7, -, h⟩ := bd h
    obtain ⟨o_9, -, h⟩ := bd h
    obtain ⟨v_11, -, h⟩ := bd h
    exact kc.tt (kb160_24 h kc.1) (fun _ q => q) (fun _ q => q)
theorem kf160 {as : List aV} {M M' : hM} {r : Option aV} (h : f160 as M = some (r, M')) (hb : bk M) : kp [] [] M M' := by
  unfold f160 at h
  split at h
  · exact kx_out h (fun res hx => kb160_0 hx hb)
  · cases h
theorem kb161_17 {M : hM} {res : xRes} (h : b161_17 M = some res) (hb : bk M) : kp [] [] M (r_M res) := by
  have kc : kp [] [] M M := kp.rf hb
  unfold b161_17 at h
  cases h
  exact kc
theorem kb161_0 {a0 v1 v2 v3 : _} {M : hM} {res : xRes} (h : b161_0 a0 v1 v2 v3 M = some res) (hb : bk M) : kp [] [] M (r_M res) := by
  have kc : kp [] [] M M := kp.rf hb
  unfold b161_0 at h
  obtain ⟨b_3, -, h⟩ := bd h
  obtain ⟨q_1, h2, h⟩ := bd h
  have kc := kc.tr (kf29 (c_R_some h2) kc.1) rfl rfl
  rcases ite_some h with ⟨-, h⟩ | ⟨-, h⟩
  · exact kc.tt (kb161_17 h kc.1) (fun _ q => q) (fun _ q => q)
  · rcases ite_some h with ⟨-, h⟩ | ⟨-, h⟩
    · cases h
      exact kc
    · exact kc.tt (kb161_17 h kc.1) (fun _ q => q) (fun _ q => q)
theorem kb161_57 {v3 o4 w5 v7 si0 : _} {M : hM} {res : xRes} (h : b161_57 v3 o4 w5 v7 si0 M = some res) (hb : bk M) : kp [] [] M (r_M res) := by
  have kc : kp [] [] M M := kp.rf hb
  unfold b161_57 at h
  cases h
  exact kc
theorem kb161_25 {v3 o4 w5 v7 : _} {M : hM} {res : xRes} (h : b161_25 v3 o4 w5 v7 M = some res) (hb : bk M) : kp [] [] M (r_M res) := by
  have kc : kp [] [] M M := kp.rf hb
  unfold b161_25 at h
  rcases ite_some h with ⟨-, h⟩ | ⟨-, h⟩
  · cases h
    exact kc
  · obtain ⟨v_7, -, h⟩ := bd h
    rcases ite_some h with ⟨-, h⟩ | ⟨-, h⟩
    · exact kc.tt (kb161_57 h kc.1) (fun _ q => q) (fun _ q => q)
    · obtain ⟨b_11, -, h⟩ := bd h
      obtain ⟨q_9, h3, h⟩ := bd h
      have kc := kc.tr (kf55 (c_I_some h3) kc.1) rfl rfl
      exact kc.tt (kb161_57 h kc.1) (fun _ q => q) (fun _ q => q)
theorem kf161 {as : List aV} {M M' : hM} {r : Option aV} (h : f161 as M = some (r, M')) (hb : bk M) : kp [] [] M M' := by
  unfold f161 at h
  split at h
  · refine kx_go (blk := k161) ?_ h (fun res hx => kb161_0 hx hb)
    intro h as M res hk hb
    unfold k161 at hk
    split at hk
    · split at hk
      · exact kb161_25 hk hb
      · cases hk
    · skip
      cases hk
  · cases h
theorem kb162_57 {si0 : _} {M : hM} {res : xRes} (h : b162_57 si0 M = some res) (hb : bk M) : kp [] [] M (r_M res) := by
  have kc : kp [] [] M M := kp.rf hb
  unfold b162_57 at h
  cases h
  exact kc
theorem kb162_56 {M : hM} {res : xRes} (h : b162_56 M = some res) (hb : bk M) : kp [] [] M (r_M res) := by
  have kc : kp [] [] M M := kp.rf hb
  unfold b162_56 at h
  exact kc.tt (kb162_57 h kc.1) (fun _ q => q) (fun _ q => q)
theorem kb162_0 {a0 v1 : _} {M : hM} {res : xRes} (h : b162_0 a0 v1 M = some res) (hb : bk M) : kp [] [] M (r_M res) := by
  have kc : kp [] [] M M := kp.rf hb
  unfold b162_0 at h
  rcases ite_some h with ⟨-, h⟩ | ⟨-, h⟩
  · obtain ⟨o_15, -, h⟩ := bd h
    obtain ⟨v_17, -, h⟩ := bd h
    cases h
    exact kc
  · rcases ite_some h with ⟨-, h⟩ | ⟨-, h⟩
    · obtain ⟨v_12, -, h⟩ := bd h
      cases h
      exact kc
    · rcases ite_some h with ⟨-, h⟩ | ⟨-, h⟩
      · obtain ⟨v_9, -, h⟩ := bd h
        cases h
        exact kc
      · rcases ite_some h with ⟨-, h⟩ | ⟨-, h⟩
        · exact kc.tt (kb162_56 h kc.1) (fun _ q => q) (fun _ q => q)
        · rcases ite_some h with ⟨-, h⟩ | ⟨-, h⟩
          · exact kc.tt (kb162_56 h kc.1) (fun _ q => q) (fun _ q => q)
          · obtain ⟨o_1, -, h⟩ := bd h
            obtain ⟨o_3, -, h⟩ := bd h
            obtain ⟨v_5, -, h⟩ := bd h
            exact kc.tt (kb162_57 h kc.1) (fun _ q => q) (fun _ q => q)
theorem kf162 {as : List aV} {M M' : hM} {r : Option aV} (h : f162 as M = some (r, M')) (hb : bk M) : kp [] [] M M' := by
  unfold f162 at h
  split at h
  · exact kx_out h (fun res hx => kb162_0 hx hb)
  · cases h
theorem kb163_0 {a0 v1 : _} {M : hM} {res : xRes} (h : b163_0 a0 v1 M = some res) (hb : bk M) : kp [] [] M (r_M res) := by
  have kc : kp [] [] M M := kp.rf hb
  unfold b163_0 at h
  cases h
  exact kc
theorem kf163 {as : List aV} {M M' : hM} {r : Option aV} (h : f163 as M = some (r, M')) (hb : bk M) : kp [] [] M M' := by
  unfold f163 at h
  split at h
  · exact kx_out h (fun res hx => kb163_0 hx hb)
  · cases h
