section XH
variable {p : Program} {l : Launch} {e : Env} {R : Room} {s : State} {m : MethodId} {args : Array Value} {below : List Frame} {meth : Method} {c : Code} {Q : State → Prop} {G : gX} {cc : ByteArray} {own : String} {z0 y0 zf yf nL : Nat} {pc : Nat} {lv lv' : aL} {st st' : List aV} {M M' : hM}
/-! ===== fields ===== -/
theorem xv_gi (E : xE G p R s m args c cc own z0 y0 zf yf nL) (ci k : Nat) {idx a : Nat} (hlk : Cond.fieldLink own idx (xTT ci k).1 (xTT ci k).2.1 (xTT ci k).2.2.1 ∈ xTs) (hdg : decode cc pc = .ok (.getfield idx, 3)) (ht : h_tg M a = ci + 1)
    (kk : xV G p l e R s m args below meth c z0 y0 zf yf nL Q (pc + 3) lv (.inl (h_fi M (100 * ci + k) a) :: st) M) (hh : ci < 13 ∧ k < xNN ci ∧ ((xkk ci).getD k 0 = 0 ∨ (xkk ci).getD k 0 = 3) := by decide) : xV G p l e R s m args below meth c z0 y0 zf yf nL Q pc lv (.inr (.inr (some a)) :: st) M :=
  xv_get0 E hh.1 hh.2.1 hlk hdg ht (by rcases hh.2.2 with h | h <;> rw [h] <;> rfl) kk
theorem xv_gl (E : xE G p R s m args c cc own z0 y0 zf yf nL) (ci k : Nat) {idx a : Nat} (hlk : Cond.fieldLink own idx (xTT ci k).1 (xTT ci k).2.1 (xTT ci k).2.2.1 ∈ xTs) (hdg : decode cc pc = .ok (.getfield idx, 3)) (ht : h_tg M a = ci + 1)
    (kk : xV G p l e R s m args below meth c z0 y0 zf yf nL Q (pc + 3) lv (.inr (.inl (h_fl M (100 * ci + k) a)) :: st) M) (hh : ci < 13 ∧ k < xNN ci ∧ (xkk ci).getD k 0 = 1 := by decide) : xV G p l e R s m args below meth c z0 y0 zf yf nL Q pc lv (.inr (.inr (some a)) :: st) M :=
  xv_get0 E hh.1 hh.2.1 hlk hdg ht (by rw [hh.2.2]; rfl) kk
theorem xv_gr (E : xE G p R s m args c cc own z0 y0 zf yf nL) (ci k : Nat) {idx a : Nat} (hlk : Cond.fieldLink own idx (xTT ci k).1 (xTT ci k).2.1 (xTT ci k).2.2.1 ∈ xTs) (hdg : decode cc pc = .ok (.getfield idx, 3)) (ht : h_tg M a = ci + 1)
    (kk : xV G p l e R s m args below meth c z0 y0 zf yf nL Q (pc + 3) lv (.inr (.inr (h_fr M (100 * ci + k) a)) :: st) M) (hh : ci < 13 ∧ k < xNN ci ∧ (xkk ci).getD k 0 = 2 := by decide) : xV G p l e R s m args below meth c z0 y0 zf yf nL Q pc lv (.inr (.inr (some a)) :: st) M :=
  xv_get0 E hh.1 hh.2.1 hlk hdg ht (by rw [hh.2.2]; rfl) kk
theorem h_cell_pi {f a x : Nat} {v : Int32} (h : x ≠ a) : h_cell G (h_pi M f a v) x = h_cell G M x := h_cell_of_eq rfl rfl rfl rfl rfl (fun _ => u2_ne h) (fun _ => rfl) (fun _ => rfl)
theorem h_cell_pl {f a x : Nat} {v : Int64} (h : x ≠ a) : h_cell G (h_pl M f a v) x = h_cell G M x := h_cell_of_eq rfl rfl rfl rfl rfl (fun _ => rfl) (fun _ => u2_ne h) (fun _ => rfl)
theorem h_cell_pr {f a x : Nat} {v : Option Nat} (h : x ≠ a) : h_cell G (h_pr M f a v) x = h_cell G M x := h_cell_of_eq rfl rfl rfl rfl rfl (fun _ => rfl) (fun _ => rfl) (fun _ => u2_ne h)
theorem h_val_of {M M' : hM} {kd f a : Nat} (h1 : h_fi M' f a = h_fi M f a) (h2 : h_fl M' f a = h_fl M f a) (h3 : h_fr M' f a = h_fr M f a) : h_val M' kd f a = h_val M kd f a := by
  unfold h_val
  rw [h1, h2, h3]
theorem xk_ty {ci k : Nat} (hc : ci < 13) (hk : k < xNN ci) : (xkk ci).getD k 0 = xkt (xYY ci k) := by
  rw [List.getD_eq_getElem?_getD, (xkt_at hc k hk).1]
  rfl
/-- an int field gets x -/
theorem xv_pi (E : xE G p R s m args c cc own z0 y0 zf yf nL) (ci k : Nat) {idx a : Nat} {x : Int32} (hlk : Cond.fieldLink own idx (xTT ci k).1 (xTT ci k).2.1 (xTT ci k).2.2.1 ∈ xTs) (hdg : decode cc pc = .ok (.putfield idx, 3)) (ht : h_tg M a = ci + 1)
    (hfin : (xTT ci k).2.2.2 = false ∨ ((xTT ci k).2.2.2 = true ∧ meth.name = "<init>" ∧ (xTT ci k).1 = own))
    (kk : xV G p l e R s m args below meth c z0 y0 zf yf nL Q (pc + 3) lv st (h_pi M (100 * ci + k) a x)) (hh : ci < 13 ∧ k < xNN ci ∧ (xYY ci k) = .int := by decide) : xV G p l e R s m args below meth c z0 y0 zf yf nL Q pc lv (.inl x :: .inr (.inr (some a)) :: st) M := by
  obtain ⟨hc, hk, hty⟩ := hh
  have hkd := xk_ty hc hk
  refine xv_put0 (v := .inl x) (M' := h_pi M (100 * ci + k) a x) E hc hk hlk hfin hdg ht (by rw [hty]; rfl) (by rw [hty]; rfl) rfl rfl (fun _ => rfl) (fun _ h => h_cell_pi h) ?_ kk
  refine h_fls_set hk ?_ (fun j hj hjk => ?_)
  · rw [hkd, hty]
    show Value.int (u2 (h_fi M) (100 * ci + k) a x (100 * ci + k) a) = Value.int x
    rw [u2_eq]
  · exact h_val_of (u2_nk (by omega)) rfl rfl
/-- a boolean field gets x, 0 or 1 -/
theorem xv_pz (E : xE G p R s m args c cc own z0 y0 zf yf nL) (ci k : Nat) {idx a : Nat} {x : Int32} (hlk : Cond.fieldLink own idx (xTT ci k).1 (xTT ci k).2.1 (xTT ci k).2.2.1 ∈ xTs) (hdg : decode cc pc = .ok (.putfield idx, 3)) (ht : h_tg M a = ci + 1)
    (hfin : (xTT ci k).2.2.2 = false ∨ ((xTT ci k).2.2.2 = true ∧ meth.name = "<init>" ∧ (xTT ci k).1 = own)) (h01 : x = 0 ∨ x = 1)
    (kk : xV G p l e R s m args below meth c z0 y0 zf yf nL Q (pc + 3) lv st (h_pi M (100 * ci + k) a x)) (hh : ci < 13 ∧ k < xNN ci ∧ (xYY ci k) = .boolean := by decide) : xV G p l e R s m args below meth c z0 y0 zf yf nL Q pc lv (.inl x :: .inr (.inr (some a)) :: st) M := by
  obtain ⟨hc, hk, hty⟩ := hh
  have hkd := xk_ty hc hk
  refine xv_put0 (v := .inl x) (M' := h_pi M (100 * ci + k) a x) E hc hk hlk hfin hdg ht (by rw [hty]; rcases h01 with rfl | rfl <;> rfl) (by rw [hty]; rcases h01 with rfl | rfl <;> rfl) rfl rfl (fun _ => rfl) (fun _ h => h_cell_pi h) ?_ kk
  refine h_fls_set hk ?_ (fun j hj hjk => ?_)
  · rw [hkd, hty]
    show Value.int (u2 (h_fi M) (100 * ci + k) a x (100 * ci + k) a) = Value.int x
    rw [u2_eq]
  · exact h_val_of (u2_nk (by omega)) rfl rfl
theorem xv_pl (E : xE G p R s m args c cc own z0 y0 zf yf nL) (ci k : Nat) {idx a : Nat} {x : Int64} (hlk : Cond.fieldLink own idx (xTT ci k).1 (xTT ci k).2.1 (xTT ci k).2.2.1 ∈ xTs) (hdg : decode cc pc = .ok (.putfield idx, 3)) (ht : h_tg M a = ci + 1)
    (hfin : (xTT ci k).2.2.2 = false ∨ ((xTT ci k).2.2.2 = true ∧ meth.name = "<init>" ∧ (xTT ci k).1 = own))
    (kk : xV G p l e R s m args below meth c z0 y0 zf yf nL Q (pc + 3) lv st (h_pl M (100 * ci + k) a x)) (hh : ci < 13 ∧ k < xNN ci ∧ (xYY ci k) = .long := by decide) : xV G p l e R s m args below meth c z0 y0 zf yf nL Q pc lv (.inr (.inl x) :: .inr (.inr (some a)) :: st) M := by
  obtain ⟨hc, hk, hty⟩ := hh
  have hkd := xk_ty hc hk
  refine xv_put0 (v := .inr (.inl x)) (M' := h_pl M (100 * ci + k) a x) E hc hk hlk hfin hdg ht (by rw [hty]; rfl) (by rw [hty]; rfl) rfl rfl (fun _ => rfl) (fun _ h => h_cell_pl h) ?_ kk
  refine h_fls_set hk ?_ (fun j hj hjk => ?_)
  · rw [hkd, hty]
    show Value.long (u2 (h_fl M) (100 * ci + k) a x (100 * ci + k) a) = Value.long x
    rw [u2_eq]
  · exact h_val_of rfl (u2_nk (by omega)) rfl
theorem xv_pr (E : xE G p R s m args c cc own z0 y0 zf yf nL) (ci k : Nat) {idx a : Nat} {x : Option Nat} (hlk : Cond.fieldLink own idx (xTT ci k).1 (xTT ci k).2.1 (xTT ci k).2.2.1 ∈ xTs) (hdg : decode cc pc = .ok (.putfield idx, 3)) (ht : h_tg M a = ci + 1)
    (hfin : (xTT ci k).2.2.2 = false ∨ ((xTT ci k).2.2.2 = true ∧ meth.name = "<init>" ∧ (xTT ci k).1 = own))
    (kk : xV G p l e R s m args below meth c z0 y0 zf yf nL Q (pc + 3) lv st (h_pr M (100 * ci + k) a x)) (hh : ci < 13 ∧ k < xNN ci ∧ xkt (xYY ci k) = 2 := by decide) : xV G p l e R s m args below meth c z0 y0 zf yf nL Q pc lv (.inr (.inr x) :: .inr (.inr (some a)) :: st) M := by
  obtain ⟨hc, hk, hty⟩ := hh
  have hkd := xk_ty hc hk
  have hnf : narrow (xYY ci k) (va_rf x) = va_rf x ∧ fits (xYY ci k) (va_rf x) = true := by
    cases hY : xYY ci k <;> rw [hY] at hty <;> first | (exact absurd hty (by decide)) | (cases x <;> exact ⟨rfl, rfl⟩)
  refine xv_put0 (v := .inr (.inr x)) (M' := h_pr M (100 * ci + k) a x) E hc hk hlk hfin hdg ht hnf.1 hnf.2 rfl rfl (fun _ => rfl) (fun _ h => h_cell_pr h) ?_ kk
  refine h_fls_set hk ?_ (fun j hj hjk => ?_)
  · rw [hkd, hty]
    show va_rf (u2 (h_fr M) (100 * ci + k) a x (100 * ci + k) a) = va_rf x
    rw [u2_eq]
  · exact h_val_of rfl rfl (u2_nk (by omega))
/-! ===== arrays: reads ===== -/
theorem xv_aload_i (E : xE G p R s m args c cc own z0 y0 zf yf nL) {a : Nat} {i : Int32} (ht : h_tg M a = 20) (hin : vp_in i (h_ln M a)) (hdg : decode cc pc = .ok (.iaload, 1))
    (kk : xV G p l e R s m args below meth c z0 y0 zf yf nL Q (pc + 1) lv (.inl (h_ai M a i.toNatClampNeg) :: st) M) : xV G p l e R s m args below meth c z0 y0 zf yf nL Q pc lv (.inl i :: .inr (.inr (some a)) :: st) M := by
  refine ⟨kk.1, fun H locs ls h1 h2 h3 h4 h5 => ?_⟩
  have hat := (h3.2.2.2 a (by omega)).2
  rw [h_cell_i ht (by omega) (by omega)] at hat
  exact va_iald E.1 E.2.1 E.2.2.2.2.2.1.1 (xP1 hat) 0 0 rfl rfl hin hdg (kk.2 H locs ls h1 h2 h3 h4 h5)
theorem xv_aload_b (E : xE G p R s m args c cc own z0 y0 zf yf nL) {a : Nat} {i : Int32} (ht : h_tg M a = 21) (hin : vp_in i (h_ln M a)) (hdg : decode cc pc = .ok (.baload, 1))
    (kk : xV G p l e R s m args below meth c z0 y0 zf yf nL Q (pc + 1) lv (.inl (h_ai M a i.toNatClampNeg) :: st) M) : xV G p l e R s m args below meth c z0 y0 zf yf nL Q pc lv (.inl i :: .inr (.inr (some a)) :: st) M := by
  refine ⟨kk.1, fun H locs ls h1 h2 h3 h4 h5 => ?_⟩
  have hat := (h3.2.2.2 a (by omega)).2
  rw [h_cell_i ht (by omega) (by omega)] at hat
  exact va_bald E.1 E.2.1 E.2.2.2.2.2.1.1 (xP1 hat) 0 1 rfl rfl hin hdg (kk.2 H locs ls h1 h2 h3 h4 h5)
theorem xv_aload_z (E : xE G p R s m args c cc own z0 y0 zf yf nL) {a : Nat} {i : Int32} (ht : h_tg M a = 22) (hin : vp_in i (h_ln M a)) (hdg : decode cc pc = .ok (.baload, 1))
    (kk : xV G p l e R s m args below meth c z0 y0 zf yf nL Q (pc + 1) lv (.inl (h_ai M a i.toNatClampNeg) :: st) M) : xV G p l e R s m args below meth c z0 y0 zf yf nL Q pc lv (.inl i :: .inr (.inr (some a)) :: st) M := by
  refine ⟨kk.1, fun H locs ls h1 h2 h3 h4 h5 => ?_⟩
  have hat := (h3.2.2.2 a (by omega)).2
  rw [h_cell_i ht (by omega) (by omega)] at hat
  exact va_zald E.1 E.2.1 E.2.2.2.2.2.1.1 (xP1 hat) 0 2 rfl rfl hin hdg (kk.2 H locs ls h1 h2 h3 h4 h5)
theorem xv_aload_l (E : xE G p R s m args c cc own z0 y0 zf yf nL) {a : Nat} {i : Int32} (ht : h_tg M a = 23) (hin : vp_in i (h_ln M a)) (hdg : decode cc pc = .ok (.laload, 1))
    (kk : xV G p l e R s m args below meth c z0 y0 zf yf nL Q (pc + 1) lv (.inr (.inl (h_al M a i.toNatClampNeg)) :: st) M) : xV G p l e R s m args below meth c z0 y0 zf yf nL Q pc lv (.inl i :: .inr (.inr (some a)) :: st) M := by
  refine ⟨kk.1, fun H locs ls h1 h2 h3 h4 h5 => ?_⟩
  have hat := (h3.2.2.2 a (by omega)).2
  rw [h_cell_l ht] at hat
  exact va_lald E.1 E.2.1 E.2.2.2.2.2.1.1 (xP1 hat) 0 3 rfl rfl hin hdg (kk.2 H locs ls h1 h2 h3 h4 h5)
theorem xv_aload_r (E : xE G p R s m args c cc own z0 y0 zf yf nL) (t : Nat) {a : Nat} {i : Int32} (ht : h_tg M a = t) (hin : vp_in i (h_ln M a)) (hdg : decode cc pc = .ok (.aaload, 1))
    (kk : xV G p l e R s m args below meth c z0 y0 zf yf nL Q (pc + 1) lv (.inr (.inr (h_ar M a i.toNatClampNeg)) :: st) M) (htt : t ∈ xTags ∧ 23 < t ∧ (xTA t).isReference = true := by decide) : xV G p l e R s m args below meth c z0 y0 zf yf nL Q pc lv (.inl i :: .inr (.inr (some a)) :: st) M := by
  refine ⟨kk.1, fun H locs ls h1 h2 h3 h4 h5 => ?_⟩
  have hat := (h3.2.2.2 a (by omega)).2
  rw [h_cell_r ht htt.2.1] at hat
  obtain ⟨j, hj⟩ := xTys_at (G := G) htt.1
  have hlt : i.toNatClampNeg < h_ln M a := Nat.not_le.mp fun q => hin (Or.inr q)
  exact W.aald (v := va_rf (h_ar M a i.toNatClampNeg)) (ty := xTA t) E.1 E.2.1 hat ((E.2.2.2.2.2.1.1.2 j _ hj).1 (h_ln M a) (fun j => va_rf (h_ar M a j))) htt.2.2 (fun q => by cases q) (by show ¬ (i < 0 ∨ (arrV _ _ _).slots.size ≤ _); rw [arrV_size]; exact hin) (by show (arrV _ _ _).slots[_]? = _; rw [arrV_read _ _ hlt]) rfl rfl hdg (kk.2 H locs ls h1 h2 h3 h4 h5)
theorem xv_alen (E : xE G p R s m args c cc own z0 y0 zf yf nL) (t : Nat) {a : Nat} (ht : h_tg M a = t) (hdg : decode cc pc = .ok (.arraylength, 1))
    (kk : xV G p l e R s m args below meth c z0 y0 zf yf nL Q (pc + 1) lv (.inl (Int32.ofNat (h_ln M a)) :: st) M) (htt : t ∈ xTags := by decide) : xV G p l e R s m args below meth c z0 y0 zf yf nL Q pc lv (.inr (.inr (some a)) :: st) M := by
  refine ⟨kk.1, fun H locs ls h1 h2 h3 h4 h5 => ?_⟩
  have h20 : 20 ≤ t := by
    have : ∀ t ∈ xTags, 20 ≤ t := by decide
    exact this t htt
  have hat := (h3.2.2.2 a (by omega)).2
  obtain ⟨j, hj⟩ := xTys_at (G := G) htt
  have hcell : ∃ x : vp_A, x.1 = h_ln M a ∧ h_cell G M a = .inl (G.1.2 t, x) := by
    by_cases q1 : t < 23
    · exact ⟨_, rfl, h_cell_i ht h20 q1⟩
    · by_cases q2 : t = 23
      · subst q2; exact ⟨_, rfl, h_cell_l ht⟩
      · exact ⟨_, rfl, h_cell_r ht (by omega)⟩
  obtain ⟨x, hx1, hx2⟩ := hcell
  rw [hx2] at hat
  exact va_alen E.1 E.2.1 E.2.2.2.2.2.1.1 (xP1 hat) 0 j rfl hj (by rw [hx1]) hdg (kk.2 H locs ls h1 h2 h3 h4 h5)
/-! ===== arrays: writes ===== -/
theorem h_cell_qi {a x i : Nat} {v : Int32} (h : x ≠ a) : h_cell G (h_qi M a i v) x = h_cell G M x := h_cell_of_eq rfl rfl (funext fun _ => u2_nk h) rfl rfl (fun _ => rfl) (fun _ => rfl) (fun _ => rfl)
theorem h_cell_ql {a x i : Nat} {v : Int64} (h : x ≠ a) : h_cell G (h_ql M a i v) x = h_cell G M x := h_cell_of_eq rfl rfl rfl (funext fun _ => u2_nk h) rfl (fun _ => rfl) (fun _ => rfl) (fun _ => rfl)
theorem h_cell_qr {a x i : Nat} {v : Option Nat} (h : x ≠ a) : h_cell G (h_qr M a i v) x = h_cell G M x := h_cell_of_eq rfl rfl rfl rfl (funext fun _ => u2_nk h) (fun _ => rfl) (fun _ => rfl) (fun _ => rfl)
/-- behind a store: the world, the rest as it was -/
theorem xv_st0 {a j : Nat} {H H' : Heap} {locs : List Loc} {ls : Array Slot} (hz : h_sz M' = h_sz M) (hs : h_sl M' = h_sl M) (htg : ∀ x, h_tg M' x = h_tg M x) (hce : ∀ x, x ≠ a → h_cell G M' x = h_cell G M x) (h1 : z0 ≤ h_sz M) (h2 : y0 ≤ h_sl M) (h3 : xW G M H) (h4 : ∀ q ∈ locs, G.2.1.size ≤ q.base) (h5 : lv_has ls nL (a_lv lv)) (ha : h_tg M a ≠ 0) (z : H'.size = H.size) (oq : ∀ q, q ≠ a → H'[q]? = H[q]?) (hat : va_at G.1.1 xCl (a, h_cell G M' a) H')
    (kk : xV G p l e R s m args below meth c z0 y0 zf yf nL Q pc lv st M') : W p l e R s m args below meth c H' (locs ++ [⟨a, j⟩]) (h_sz M - z0) (h_sl M - y0) Q (F0 m pc ls (a_st st)) := by
  have hge := (h3.2.2.2 a ha).1
  have := kk.2 H' (locs ++ [⟨a, j⟩]) ls (by omega) (by omega) (xW.put h3 ha hz hce htg z oq hat) (fun q hq => by
      rcases List.mem_append.mp hq with h | h
      · exact h4 q h
      · rw [List.mem_singleton.mp h]; exact hge) h5
  rw [hz, hs] at this
  exact this
theorem arr_up {cA : ClassId} {n : Nat} {f g : Nat → Value} {i : Nat} {v : Value} (h : ∀ j, g j = if j = i then v else f j) : (arrV cA n f).setSlot i v = arrV cA n g := by
  rw [arrV_store]
  congr 1
  funext j
  rw [h j]
  rfl
theorem xv_ast_i (E : xE G p R s m args c cc own z0 y0 zf yf nL) {a : Nat} {i x : Int32} (ht : h_tg M a = 20) (hin : vp_in i (h_ln M a)) (hdg : decode cc pc = .ok (.iastore, 1))
    (kk : xV G p l e R s m args below meth c z0 y0 zf yf nL Q (pc + 1) lv st (h_qi M a i.toNatClampNeg x)) : xV G p l e R s m args below meth c z0 y0 zf yf nL Q pc lv (.inl x :: .inl i :: .inr (.inr (some a)) :: st) M := by
  refine ⟨kk.1, fun H locs ls h1 h2 h3 h4 h5 => ?_⟩
  have hat := (h3.2.2.2 a (by omega)).2
  rw [h_cell_i ht (by omega) (by omega)] at hat
  refine W.iast E.1 E.2.1 hat ((E.2.2.2.2.2.1.1.2 0 _ rfl).1 (h_ln M a) (fun j => .int (h_ai M a j))) (fun q => by cases q) (by show ¬ (i < 0 ∨ (arrV _ _ _).slots.size ≤ _); rw [arrV_size]; exact hin) rfl rfl hdg fun H1 e1 z oq => ?_
  refine xv_st0 (a := a) (M := M) (M' := h_qi M a i.toNatClampNeg x) rfl rfl (fun _ => rfl) (fun _ h => h_cell_qi h) h1 h2 h3 h4 h5 (by omega) z oq ?_ kk
  rw [h_cell_i (M := h_qi M a i.toNatClampNeg x) ht (by omega) (by omega)]
  show H1[a]? = some (vp_cell _ _)
  rw [e1, vp_cell_i, vp_cell_i]
  refine congrArg some (arr_up fun j => ?_)
  show Value.int (u2 (h_ai M) a i.toNatClampNeg x a j) = _
  unfold u2
  split
  · rename_i q; rw [if_pos q.2]
  · rename_i q; rw [if_neg (fun h => q ⟨rfl, h⟩)]
theorem xv_ast_b (E : xE G p R s m args c cc own z0 y0 zf yf nL) {a : Nat} {i x : Int32} (ht : h_tg M a = 21) (hin : vp_in i (h_ln M a)) (hdg : decode cc pc = .ok (.bastore, 1))
    (kk : xV G p l e R s m args below meth c z0 y0 zf yf nL Q (pc + 1) lv st (h_qi M a i.toNatClampNeg x.toInt8.toInt32)) : xV G p l e R s m args below meth c z0 y0 zf yf nL Q pc lv (.inl x :: .inl i :: .inr (.inr (some a)) :: st) M := by
  refine ⟨kk.1, fun H locs ls h1 h2 h3 h4 h5 => ?_⟩
  have hat := (h3.2.2.2 a (by omega)).2
  rw [h_cell_i ht (by omega) (by omega)] at hat
  refine W.bast E.1 E.2.1 hat ((E.2.2.2.2.2.1.1.2 1 _ rfl).1 (h_ln M a) (fun j => .int (h_ai M a j))) (fun q => by cases q) (by show ¬ (i < 0 ∨ (arrV _ _ _).slots.size ≤ _); rw [arrV_size]; exact hin) rfl rfl hdg fun H1 e1 z oq => ?_
  refine xv_st0 (a := a) (M := M) (M' := h_qi M a i.toNatClampNeg x.toInt8.toInt32) rfl rfl (fun _ => rfl) (fun _ h => h_cell_qi h) h1 h2 h3 h4 h5 (by omega) z oq ?_ kk
  rw [h_cell_i (M := h_qi M a i.toNatClampNeg x.toInt8.toInt32) ht (by omega) (by omega)]
  show H1[a]? = some (vp_cell _ _)
  rw [e1, vp_cell_i, vp_cell_i]
  refine congrArg some (arr_up fun j => ?_)
  show Value.int (u2 (h_ai M) a i.toNatClampNeg x.toInt8.toInt32 a j) = _
  unfold u2
  split
  · rename_i q; rw [if_pos q.2]; rfl
  · rename_i q; rw [if_neg (fun h => q ⟨rfl, h⟩)]
theorem xv_ast_z (E : xE G p R s m args c cc own z0 y0 zf yf nL) {a : Nat} {i x : Int32} (ht : h_tg M a = 22) (h01 : x = 0 ∨ x = 1) (hin : vp_in i (h_ln M a)) (hdg : decode cc pc = .ok (.bastore, 1))
    (kk : xV G p l e R s m args below meth c z0 y0 zf yf nL Q (pc + 1) lv st (h_qi M a i.toNatClampNeg x)) : xV G p l e R s m args below meth c z0 y0 zf yf nL Q pc lv (.inl x :: .inl i :: .inr (.inr (some a)) :: st) M := by
  refine ⟨kk.1, fun H locs ls h1 h2 h3 h4 h5 => ?_⟩
  have hat := (h3.2.2.2 a (by omega)).2
  rw [h_cell_i ht (by omega) (by omega)] at hat
  refine W.zast E.1 E.2.1 hat ((E.2.2.2.2.2.1.1.2 2 _ rfl).1 (h_ln M a) (fun j => .int (h_ai M a j))) (fun q => by cases q) (by show ¬ (i < 0 ∨ (arrV _ _ _).slots.size ≤ _); rw [arrV_size]; exact hin) rfl rfl hdg fun H1 e1 z oq => ?_
  refine xv_st0 (a := a) (M := M) (M' := h_qi M a i.toNatClampNeg x) rfl rfl (fun _ => rfl) (fun _ h => h_cell_qi h) h1 h2 h3 h4 h5 (by omega) z oq ?_ kk
  rw [h_cell_i (M := h_qi M a i.toNatClampNeg x) ht (by omega) (by omega)]
  show H1[a]? = some (vp_cell _ _)
  rw [e1, vp_cell_i, vp_cell_i]
  refine congrArg some (arr_up fun j => ?_)
  have hn : narrow .boolean (.int x) = .int x := by rcases h01 with rfl | rfl <;> rfl
  rw [hn]
  show Value.int (u2 (h_ai M) a i.toNatClampNeg x a j) = _
  unfold u2
  split
  · rename_i q; rw [if_pos q.2]
  · rename_i q; rw [if_neg (fun h => q ⟨rfl, h⟩)]
theorem xv_ast_l (E : xE G p R s m args c cc own z0 y0 zf yf nL) {a : Nat} {i : Int32} {x : Int64} (ht : h_tg M a = 23) (hin : vp_in i (h_ln M a)) (hdg : decode cc pc = .ok (.lastore, 1))
    (kk : xV G p l e R s m args below meth c z0 y0 zf yf nL Q (pc + 1) lv st (h_ql M a i.toNatClampNeg x)) : xV G p l e R s m args below meth c z0 y0 zf yf nL Q pc lv (.inr (.inl x) :: .inl i :: .inr (.inr (some a)) :: st) M := by
  refine ⟨kk.1, fun H locs ls h1 h2 h3 h4 h5 => ?_⟩
  have hat := (h3.2.2.2 a (by omega)).2
  rw [h_cell_l ht] at hat
  refine W.last E.1 E.2.1 hat ((E.2.2.2.2.2.1.1.2 3 _ rfl).1 (h_ln M a) (fun j => .long (h_al M a j))) (fun q => by cases q) (by show ¬ (i < 0 ∨ (arrV _ _ _).slots.size ≤ _); rw [arrV_size]; exact hin) rfl rfl hdg fun H1 e1 z oq => ?_
  refine xv_st0 (a := a) (M := M) (M' := h_ql M a i.toNatClampNeg x) rfl rfl (fun _ => rfl) (fun _ h => h_cell_ql h) h1 h2 h3 h4 h5 (by omega) z oq ?_ kk
  rw [h_cell_l (M := h_ql M a i.toNatClampNeg x) ht]
  show H1[a]? = some (vp_cell _ _)
  rw [e1, vp_cell_l, vp_cell_l]
  refine congrArg some (arr_up fun j => ?_)
  show Value.long (u2 (h_al M) a i.toNatClampNeg x a j) = _
  unfold u2
  split
  · rename_i q; rw [if_pos q.2]
  · rename_i q; rw [if_neg (fun h => q ⟨rfl, h⟩)]
/-- an array of objects gets one of them -/
theorem xv_ast_r (E : xE G p R s m args c cc own z0 y0 zf yf nL) (ci : Nat) {a v : Nat} {i : Int32} (ht : h_tg M a = 30 + ci) (hv : h_tg M v = ci + 1) (hin : vp_in i (h_ln M a)) (hdg : decode cc pc = .ok (.aastore, 1))
    (kk : xV G p l e R s m args below meth c z0 y0 zf yf nL Q (pc + 1) lv st (h_qr M a i.toNatClampNeg (some v))) (htt : 30 + ci ∈ xTags ∧ ci < 13 ∧ xTA (30 + ci) = .object (xRR ci) := by decide) : xV G p l e R s m args below meth c z0 y0 zf yf nL Q pc lv (.inr (.inr (some v)) :: .inl i :: .inr (.inr (some a)) :: st) M := by
  refine ⟨kk.1, fun H locs ls h1 h2 h3 h4 h5 => ?_⟩
  have hat := (h3.2.2.2 a (by omega)).2
  have hatv := (h3.2.2.2 v (by omega)).2
  rw [h_cell_r ht (by omega)] at hat
  rw [h_cell_obj hv htt.2.1] at hatv
  obtain ⟨j, hj⟩ := xTys_at (G := G) htt.1
  rw [htt.2.2] at hj
  have hlt : i.toNatClampNeg < h_ln M a := Nat.not_le.mp fun q => hin (Or.inr q)
  have h0 : ¬ i < 0 := fun q => hin (Or.inl q)
  obtain ⟨r', hr', cellV, g1, g2, g3, -⟩ := hatv
  have hK := E.2.2.2.2.2.1.1
  have hcls := (hK.1 ci _ (xcl_at htt.2.1)).2
  obtain ⟨kA, comp, k1, k2, k3, -⟩ := (hK.2 j _ hj).2
  have hcomp : comp = G.1.1.1 ci := Option.some.inj (k3.symm.trans hcls.1)
  subst hcomp
  obtain ⟨kC, hkC, -⟩ := hcls.2
  refine W.aast E.1 E.2.1 hat (fun q h => by cases h) (fun h => by cases h) k1 k2 rfl hkC ⟨h0, by show _ < (arrV _ _ _).slots.size; rw [arrV_size]; exact hlt⟩ g1 (fun q h => by rw [g3] at h; cases h) (by rw [g2]; exact hkC) (by rw [g2]; exact va_assign hcls) rfl rfl hdg fun H1 e1 z oq => ?_
  refine xv_st0 (a := a) (M := M) (M' := h_qr M a i.toNatClampNeg (some v)) rfl rfl (fun _ => rfl) (fun _ h => h_cell_qr h) h1 h2 h3 h4 h5 (by omega) z oq ?_ kk
  rw [h_cell_r (M := h_qr M a i.toNatClampNeg (some v)) ht (by omega)]
  show H1[a]? = some (vp_cell _ _)
  rw [e1, vp_cell_q, vp_cell_q]
  refine congrArg some (arr_up fun j => ?_)
  show va_rf (u2 (h_ar M) a i.toNatClampNeg (some v) a j) = _
  unfold u2
  split
  · rename_i q; rw [if_pos q.2]; rfl
  · rename_i q; rw [if_neg (fun h => q ⟨rfl, h⟩)]
end XH
