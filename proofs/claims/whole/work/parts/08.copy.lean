/-! ===== System.arraycopy of ints; new int[n][k] ===== -/
/-- n rows of k ints, and the array that holds them -/
def h_ma (M : hM) (n k : Nat) : hM := (h_fi M, h_fl M, h_fr M, (fun x y => if h_sz M < x ∧ x ≤ h_sz M + n then 0 else h_ai M x y), h_al M, (fun x y => if x = h_sz M then (if y < n then some (h_sz M + 1 + y) else none) else h_ar M x y), (fun x => if x = h_sz M then n else if h_sz M < x ∧ x ≤ h_sz M + n then k else h_ln M x), (fun x => if x = h_sz M then 50 else if h_sz M < x ∧ x ≤ h_sz M + n then 20 else h_tg M x), h_sz M + 1 + n, h_sl M + n + n * k)
section XD
variable {p : Program} {l : Launch} {e : Env} {R : Room} {s : State} {m : MethodId} {args : Array Value} {below : List Frame} {meth : Method} {c : Code} {Q : State → Prop} {G : gX} {cc : ByteArray} {own : String} {z0 y0 zf yf nL : Nat} {pc : Nat} {lv lv' : aL} {st st' : List aV} {M M' : hM}
theorem h_cell_ca {a x : Nat} {g : Nat → Int32} (h : x ≠ a) : h_cell G (h_ca M a g) x = h_cell G M x := h_cell_of_eq rfl rfl (funext fun _ => if_neg h) rfl rfl (fun _ => rfl) (fun _ => rfl) (fun _ => rfl)
theorem xv_copy (E : xE G p R s m args c cc own z0 y0 zf yf nL) {idx a0 a : Nat} {sp dp n : Int32} (hlk : Cond.methodLink own idx arraycopyName ∈ xTs) (hnat : Cond.native arraycopyName ∈ xTs) (hsx : Cond.static arraycopyName ∈ xTs) (hini : Cond.initialized "java/lang/System" ∈ xTs) (ht0 : h_tg M a0 = 20) (ht1 : h_tg M a = 20)
    (g1 : ¬ sp < 0) (g2 : ¬ dp < 0) (g3 : ¬ n < 0) (g4 : sp.toNatClampNeg + n.toNatClampNeg ≤ h_ln M a0) (g5 : dp.toNatClampNeg + n.toNatClampNeg ≤ h_ln M a) (hcat : (st.map a_cat).sum ≤ 8) (hR : 1 ≤ R.frames ∧ 8 + (nativeFrameWords "java/lang/System" "arraycopy" 5 + 11) ≤ R.locals) (hdg : decode cc pc = .ok (.invokestatic idx, 3))
    (k : xV G p l e R s m args below meth c z0 y0 zf yf nL Q (pc + 3) lv st (h_ca M a (va_cpy (h_ai M a0) (h_ai M a) sp.toNatClampNeg dp.toNatClampNeg n.toNatClampNeg))) : xV G p l e R s m args below meth c z0 y0 zf yf nL Q pc lv (.inl n :: .inl dp :: .inr (.inr (some a)) :: .inl sp :: .inr (.inr (some a0)) :: st) M := by
  refine ⟨k.1, fun H locs ls h1 h2 h3 h4 h5 => ?_⟩
  have nn : ∀ z : Int32, ¬ z < 0 → z.toInt = (z.toNatClampNeg : Int) := by
    intro z hz
    have hz0 : (0 : Int) ≤ z.toInt := by
      have := Int32.not_lt.mp hz
      simpa using Int32.le_iff_toInt_le.mp this
    show z.toInt = ((z.toInt.toNat : Nat) : Int)
    omega
  intro T hT X
  have hge := (h3.2.2.2 a (by omega)).1
  have hc0 : H[a0]? = some (vp_cell (G.1.2 20) (h_ln M a0, .inl (h_ai M a0))) := by
    have := (h3.2.2.2 a0 (by omega)).2
    rw [h_cell_i ht0 (by omega) (by omega)] at this
    exact this
  have hc1 : H[a]? = some (vp_cell (G.1.2 20) (h_ln M a, .inl (h_ai M a))) := by
    have := (h3.2.2.2 a (by omega)).2
    rw [h_cell_i ht1 (by omega) (by omega)] at this
    exact this
  obtain ⟨hx, hb, hml, hown, hts, hK, -⟩ := E
  obtain ⟨-, k0, hk0, cm0, hkk0⟩ := (hK.1.2 0 _ rfl).1 (h_ln M a0) (fun j => .int (h_ai M a0 j))
  obtain ⟨-, k1, hk1, cm1, hkk1⟩ := (hK.1.2 0 _ rfl).1 (h_ln M a) (fun j => .int (h_ai M a j))
  obtain ⟨vm', X', step⟩ := X.arraycopy hx hown (hts _ hlk) (hts _ hnat) (hts _ hsx) (hts _ hini) (src := a0) (dst := a) (cs := vp_cell (G.1.2 20) (h_ln M a0, .inl (h_ai M a0))) (cd := vp_cell (G.1.2 20) (h_ln M a, .inl (h_ai M a))) (srcPos := sp) (destPos := dp) (n := n) (by rw [hT]; exact hc0) (by rw [hT]; exact hc1)
    (fun _ h => by cases h) (fun _ h => by cases h) (fun h => by cases h) (fun h => by cases h) hk0 hk1 hkk0 hkk1 (by simp [xTA, refKind]) g1 g2 g3
    (by rw [nn sp g1, nn n g3]; show ¬ _ > ((arrV _ (h_ln M a0) (fun j => .int (h_ai M a0 j))).slots.size : Int); rw [arrV_size]; omega)
    (by rw [nn dp g2, nn n g3]; show ¬ _ > ((arrV _ (h_ln M a) (fun j => .int (h_ai M a j))).slots.size : Int); rw [arrV_size]; omega)
    (fun vm₁ _ i hi => by
      have e : (vp_cell (G.1.2 20) (h_ln M a0, .inl (h_ai M a0))).slots.getD (sp.toNatClampNeg + i) .null = .int (h_ai M a0 (sp.toNatClampNeg + i)) := by
        show (arrV _ (h_ln M a0) (fun j => .int (h_ai M a0 j))).slots.getD _ _ = _
        rw [Array.getD_eq_getD_getElem?, arrV_read _ _ (by omega)]
        rfl
      refine ⟨?_, ?_⟩
      · rw [e]
        rfl
      · rw [e]
        exact trivial)
    (g := F0 m pc ls (a_st (.inl n :: .inl dp :: .inr (.inr (some a)) :: .inl sp :: .inr (.inr (some a0)) :: st))) rfl (by rw [hml]; exact h5.1) (rest := a_st st) rfl (by rw [hb]; exact hdg) hR.1 (by show 2 * 0 + ((a_st st).map fun v => v.category).sum + _ ≤ _; rw [a_cat_sum]; omega)
  have e1 : copied (vp_cell (G.1.2 20) (h_ln M a0, .inl (h_ai M a0))) (vp_cell (G.1.2 20) (h_ln M a, .inl (h_ai M a))) sp dp n = vp_cell (G.1.2 20) (h_ln M a, .inl (va_cpy (h_ai M a0) (h_ai M a) sp.toNatClampNeg dp.toNatClampNeg n.toNatClampNeg)) := va_copied (fun z => .int z) _ _ _ _ g4
  rw [e1] at X' step
  have hl : a < H.size := (Array.getElem?_eq_some_iff.mp hc1).1
  generalize hV : vp_cell (G.1.2 20) (h_ln M a, .inl (va_cpy (h_ai M a0) (h_ai M a) sp.toNatClampNeg dp.toNatClampNeg n.toNatClampNeg)) = Z at X' step
  have hheap : ((T.setVm vm').setCell a Z).heap = H.setIfInBounds a Z := by rw [← hT]; rfl
  have oq : ∀ q : Nat, q ≠ a → (H.setIfInBounds a Z)[q]? = H[q]? := fun q hq => by simp [Array.getElem?_setIfInBounds, Ne.symm hq]
  have hW : xW G (h_ca M a (va_cpy (h_ai M a0) (h_ai M a) sp.toNatClampNeg dp.toNatClampNeg n.toNatClampNeg)) (H.setIfInBounds a Z) := by
    refine xW.put h3 (a := a) (by omega) rfl (fun _ h => h_cell_ca h) (fun _ => rfl) (by simp) oq ?_
    rw [h_cell_i (M := h_ca M a _) ht1 (by omega) (by omega)]
    show (H.setIfInBounds a Z)[a]? = some (vp_cell _ _)
    have e2 : h_ai (h_ca M a (va_cpy (h_ai M a0) (h_ai M a) sp.toNatClampNeg dp.toNatClampNeg n.toNatClampNeg)) a = va_cpy (h_ai M a0) (h_ai M a) sp.toNatClampNeg dp.toNatClampNeg n.toNatClampNeg := funext fun _ => if_pos rfl
    rw [e2, show h_ln (h_ca M a (va_cpy (h_ai M a0) (h_ai M a) sp.toNatClampNeg dp.toNatClampNeg n.toNatClampNeg)) a = h_ln M a from rfl, hV]
    simp [Array.getElem?_setIfInBounds, hl]
  obtain ⟨t, a1, b1⟩ := k.2 _ _ ls h1 h2 hW (fun q hq => by
      rcases List.mem_append.mp hq with h | h
      · exact h4 q h
      · obtain ⟨z, -, hz⟩ := List.mem_map.mp h
        rw [← hz]
        exact hge) h5 _ hheap X'
  exact ⟨t, step t a1, b1⟩
theorem xv_mna (E : xE G p R s m args c cc own z0 y0 zf yf nL) {idx : Nat} {n k : Int32} (hcl : Cond.classLink own idx "[[I" ∈ xTs) (harr : Cond.arrayClass .int ∈ xTs) (hdg : decode cc pc = .ok (.multianewarray idx 2, 4)) (hn : ¬ n < 0) (hk : ¬ k < 0) (hsn : n.toNatClampNeg ≤ 1000) (hsk : k.toNatClampNeg ≤ 1000)
    (kk : xV G p l e R s m args below meth c z0 y0 zf yf nL Q (pc + 4) lv (.inr (.inr (some (h_sz M))) :: st) (h_ma M n.toNatClampNeg k.toNatClampNeg)) : xV G p l e R s m args below meth c z0 y0 zf yf nL Q pc lv (.inl k :: .inl n :: st) M := by
  have k1 : h_sz M + 1 + n.toNatClampNeg ≤ zf ∧ h_sl M + n.toNatClampNeg + n.toNatClampNeg * k.toNatClampNeg ≤ yf := kk.1
  refine ⟨by omega, fun H locs ls h1 h2 h3 h4 h5 => ?_⟩
  obtain ⟨hx, hb, hml, hown, hts, hK, hR1, hR2⟩ := E
  intro T hT X
  have hov : (Cond.arrayOver (.array .int)).before args s = true := hK.2.2.1
  have hclk : (Cond.classLink own idx ("[" ++ (FieldType.array .int).toString)).before args s = true := hts _ hcl
  obtain ⟨vm₁, cA, comp, -, fA, fC, -, -, X', step⟩ := X.multianewarray2F (ty := .int) hx hown hclk hov (hts _ harr) (g := F0 m pc ls (a_st (.inl k :: .inl n :: st))) rfl (by rw [hb]; exact hdg) rfl hn hk (by omega) (by show _ * 4 ≤ _; omega) (by omega) rfl rfl (by omega) (by omega)
  have hcA : cA = G.1.2 50 := by
    obtain ⟨j, hj⟩ := xTys_at (G := G) (t := 50) (by decide)
    have hra : s.vm.findClass ("[" ++ (FieldType.array .int).toString) = some (G.1.2 50) := (hK.1.2 j _ hj).2
    exact Option.some.inj (fA.symm.trans hra)
  have hcC : comp = G.1.2 20 := by
    have hra : s.vm.findClass ("[" ++ FieldType.int.toString) = some (G.1.2 20) := (hK.1.2 0 _ rfl).2
    exact Option.some.inj (fC.symm.trans hra)
  subst hcA; subst hcC
  generalize hF : Jvm.Free.Multi.fill (T.setVm vm₁) (G.1.2 50) (G.1.2 20) n.toNatClampNeg k.toNatClampNeg (defaultValue .int) n.toNatClampNeg = F at X' step
  have hTh : (T.setVm vm₁).heap = H := hT
  obtain ⟨f1, f2, -, -⟩ := Jvm.Free.Multi.fill_facts (T.setVm vm₁) (G.1.2 50) (G.1.2 20) n.toNatClampNeg k.toNatClampNeg (defaultValue .int) n.toNatClampNeg
  rw [hF, hTh] at f1 f2
  have hold : ∀ x : Nat, x < H.size → F.heap[x]? = H[x]? := fun x hx => by
    have := Jvm.Free.Multi.fill_old (T.setVm vm₁) (G.1.2 50) (G.1.2 20) n.toNatClampNeg k.toNatClampNeg (defaultValue .int) (a := x) (by rw [hTh]; exact hx) n.toNatClampNeg
    rw [hF, hTh] at this
    exact this
  have hrow : ∀ j : Nat, j < n.toNatClampNeg → F.heap[H.size + 1 + j]? = some (Jvm.Free.Multi.innerC (G.1.2 20) k.toNatClampNeg (.int 0)) := fun j hj => by
    have := Jvm.Free.Multi.fill_inner (T.setVm vm₁) (G.1.2 50) (G.1.2 20) n.toNatClampNeg k.toNatClampNeg (defaultValue .int) n.toNatClampNeg j hj
    rw [hF, hTh] at this
    exact this
  have hout : ∀ i : Nat, Jvm.Free.Multi.outerC (G.1.2 50) n.toNatClampNeg H.size i = arrV (G.1.2 50) n.toNatClampNeg (fun j => va_rf (if j < i then some (H.size + 1 + j) else none)) := by
    intro i
    induction i with
    | zero =>
      show ({ cls := G.1.2 50, slots := Array.replicate n.toNatClampNeg .null, vm := .none } : Cell) = _
      rw [arrV_new]
      refine congrArg (arrV _ _) (funext fun j => ?_)
      simp [va_rf]
    | succ i ih =>
      show (Jvm.Free.Multi.outerC (G.1.2 50) n.toNatClampNeg H.size i).setSlot i (.ref (H.size + 1 + i)) = _
      rw [ih]
      refine arr_up fun j => ?_
      by_cases e : j = i
      · subst e
        simp [va_rf]
      · by_cases h : j < i
        · simp [e, h, Nat.lt_succ_of_lt h]
        · simp [e, h, show ¬ j < i + 1 by omega]
  have hz := h3.1
  have hb0 := h3.2.1
  have hsz' : h_sz (h_ma M n.toNatClampNeg k.toNatClampNeg) = h_sz M + 1 + n.toNatClampNeg := rfl
  have hW : xW G (h_ma M n.toNatClampNeg k.toNatClampNeg) F.heap := by
    refine ⟨by rw [f1, hz, hsz'], by rw [hsz']; omega, fun x hx => ?_, fun x hx => ?_⟩
    · rw [hold x (by omega)]
      exact h3.2.2.1 x hx
    · by_cases e1 : x = h_sz M
      · refine ⟨by omega, ?_⟩
        have htg : h_tg (h_ma M n.toNatClampNeg k.toNatClampNeg) x = 50 := if_pos e1
        rw [h_cell_r htg (by omega)]
        have hln : h_ln (h_ma M n.toNatClampNeg k.toNatClampNeg) x = n.toNatClampNeg := if_pos e1
        have har : h_ar (h_ma M n.toNatClampNeg k.toNatClampNeg) x = fun y => if y < n.toNatClampNeg then some (h_sz M + 1 + y) else none := funext fun _ => if_pos e1
        rw [hln, har, e1]
        show F.heap[h_sz M]? = some (vp_cell _ _)
        rw [← hz, f2, hout, vp_cell_q]
      · by_cases e2 : h_sz M < x ∧ x ≤ h_sz M + n.toNatClampNeg
        · refine ⟨by omega, ?_⟩
          have htg : h_tg (h_ma M n.toNatClampNeg k.toNatClampNeg) x = 20 := (if_neg e1).trans (if_pos e2)
          rw [h_cell_i htg (by omega) (by omega)]
          have hln : h_ln (h_ma M n.toNatClampNeg k.toNatClampNeg) x = k.toNatClampNeg := (if_neg e1).trans (if_pos e2)
          have hai : h_ai (h_ma M n.toNatClampNeg k.toNatClampNeg) x = fun _ => 0 := funext fun _ => if_pos e2
          rw [hln, hai]
          show F.heap[x]? = some (vp_cell _ _)
          have hr := hrow (x - (h_sz M + 1)) (by omega)
          rw [hz, show h_sz M + 1 + (x - (h_sz M + 1)) = x by omega] at hr
          rw [hr, vp_cell_i]
          refine congrArg some ?_
          show ({ cls := G.1.2 20, slots := Array.replicate k.toNatClampNeg (.int 0), vm := .none } : Cell) = _
          rw [arrV_new]
        · have htg : h_tg (h_ma M n.toNatClampNeg k.toNatClampNeg) x = h_tg M x := (if_neg e1).trans (if_neg e2)
          rw [htg] at hx
          obtain ⟨q1, q2⟩ := h3.2.2.2 x hx
          refine ⟨q1, ?_⟩
          rw [h_cell_of_eq (M := M) (M' := h_ma M n.toNatClampNeg k.toNatClampNeg) htg ((if_neg e1).trans (if_neg e2)) (funext fun _ => if_neg e2) rfl (funext fun _ => if_neg e1) (fun _ => rfl) (fun _ => rfl) (fun _ => rfl)]
          exact q2.kept (hold x q2.lt)
  have e2 : h_sz M - z0 + 1 + n.toNatClampNeg = h_sz M + 1 + n.toNatClampNeg - z0 := by omega
  have e3 : h_sl M - y0 + n.toNatClampNeg + n.toNatClampNeg * k.toNatClampNeg = h_sl M + n.toNatClampNeg + n.toNatClampNeg * k.toNatClampNeg - y0 := by omega
  rw [e2, e3] at X'
  rw [show T.heap.size = h_sz M by rw [hT, hz]] at step
  obtain ⟨t, a1, b1⟩ := kk.2 F.heap locs ls (by rw [hsz']; omega) (by show y0 ≤ h_sl M + n.toNatClampNeg + n.toNatClampNeg * k.toNatClampNeg; omega) hW h4 h5 F rfl X'
  exact ⟨t, step t a1, b1⟩
end XD
