/-! ===== contracts: from M with these arguments the method answers r and leaves M' ===== -/
def xRm (d mc ms : Nat) : Room := { frames := d, cells := mc, slots := ms, locals := 40 * d + 12 }
def xPc (G : gX) (as : List aV) (M : hM) : Array Value → State → Prop := fun v U => v = (a_st as).toArray ∧ xW G M U.heap ∧ xK G U
def xQc (G : gX) (r : Option aV) (M' : hM) : Array Value → State → Outcome → State → Prop := fun _ _ oc t => oc = .returned (r.map a_v) ∧ xW G M' t.heap
def xFr (G : gX) : Addr → Prop := fun q => G.2.1.size ≤ q
def xM (G : gX) (l : Launch) (y : MethodName) (cc : ByteArray) (nL : Nat) (ret : Option FieldType) (d : Nat) (as : List aV) (M : hM) (r : Option aV) (M' : hM) : Prop :=
  (h_sz M ≤ h_sz M' ∧ h_sl M ≤ h_sl M') ∧ Met l y (.code y cc nL ret :: xTs) (xRm d (h_sz M' - h_sz M) (h_sl M' - h_sl M)) (xPc G as M) (xQc G r M') (h_sz M' - h_sz M) (h_sl M' - h_sl M) (xFr G)
def a_args : Nat → List aV → aL
  | _, [] => []
  | i, v :: r => (i, v) :: a_args (if a_cat v = 2 then i + 2 else i + 1) r
theorem a_args_eq (as : List aV) : ∀ i : Nat, lv_args i (a_st as) = a_lv (a_args i as) := by
  induction as with
  | nil => intro i; rfl
  | cons v r ih =>
    intro i
    show (i, a_v v) :: lv_args (if (a_v v).category = 2 then i + 2 else i + 1) (a_st r) = (i, a_v v) :: a_lv (a_args (if a_cat v = 2 then i + 2 else i + 1) r)
    rw [a_cat_eq, ih]
theorem a_sl_len (as : List aV) : (lg_sl (a_st as)).length = (as.map a_cat).sum := by
  induction as with
  | nil => rfl
  | cons v r ih =>
    have e : lg_sl (a_st (v :: r)) = (if (a_v v).category = 2 then [Slot.val (a_v v), Slot.second] else [Slot.val (a_v v)]) ++ lg_sl (a_st r) := rfl
    rw [e, List.length_append, ih, a_cat_eq, List.map_cons, List.sum_cons]
    rcases v with i | j | o <;> simp [a_cat]
/-- what a body may use of its method -/
def xB (y : MethodName) (ret : Option FieldType) (meth : Method) : Prop := meth.sig.returnType = ret ∧ meth.locks = false ∧ meth.name = y.name
theorem xM_of {G : gX} {l : Launch} {y : MethodName} {cc : ByteArray} {nL d : Nat} {ret : Option FieldType} {as : List aV} {M M' : hM} {r : Option aV} (hy : plainName y.cls = true) (hl : (as.map a_cat).sum ≤ nL) (hle : h_sz M ≤ h_sz M' ∧ h_sl M ≤ h_sl M')
    (body : ∀ (p : Program) (e : Env) (s : State) (m : MethodId) (args : Array Value) (below : List Frame) (meth : Method) (c : Code), xE G p (xRm d (h_sz M' - h_sz M) (h_sl M' - h_sl M)) s m args c cc y.cls (h_sz M) (h_sl M) (h_sz M') (h_sl M') nL → xB y ret meth →
      xV G p l e (xRm d (h_sz M' - h_sz M) (h_sl M' - h_sl M)) s m args below meth c (h_sz M) (h_sl M) (h_sz M') (h_sl M') nL (MQ below (xQc G r M') args s (h_sz M' - h_sz M) (h_sl M' - h_sl M) (xFr G)) 0 (a_args 0 as) [] M) :
    xM G l y cc nL ret d as M r M' := by
  refine ⟨hle, Met.ofW (cc := cc) (maxL := nL) (ret := ret) hy rfl ?_⟩
  intro p e s m args below meth c s₁ B hml hv
  obtain ⟨rfl, hW, hK⟩ := hv
  have hts := atoms_spec (ws := .code y cc nL ret :: xTs) B.pre
  have hown : s.vm.findClass y.cls = some m.cls := findClass_of_methodNamed B.named
  have hnm : meth.name = y.name := (name_of_methodNamed B.named B.method).1
  have h := body p e s m (a_st as).toArray below meth c ⟨B.exec, B.bytes, hml, hown, fun w hw => hts w (List.mem_cons_of_mem _ hw), hK, rfl, rfl⟩ ⟨B.returns, B.notSynchronized, hnm⟩
  have hl0 := lv_entry (a_st as) (n := nL) (by rw [a_sl_len]; exact hl)
  rw [lg_entry_eq]
  rw [a_args_eq] at hl0
  have h2 := h.2 s.heap [] _ (Nat.le_refl _) (Nat.le_refl _) hW (fun _ q => absurd q List.not_mem_nil) hl0
  exact W.cs (by omega) (by omega) h2
section XC
variable {p : Program} {l : Launch} {e : Env} {R : Room} {s : State} {m : MethodId} {args : Array Value} {below : List Frame} {meth : Method} {c : Code} {Q : State → Prop} {G : gX} {cc : ByteArray} {own : String} {z0 y0 zf yf nL : Nat} {pc : Nat} {lv lv' : aL} {st st' : List aV} {M M' M1 : hM}
/-! ===== returns ===== -/
theorem xv_ri (E : xE G p R s m args c cc own z0 y0 zf yf nL) {v : Int32} {ty : FieldType} (hr : meth.sig.returnType = some ty) (hn : narrow ty (.int v) = .int v) (hlk : meth.locks = false) (hdg : decode cc pc = .ok (.ireturn, 1)) (hzf : zf = h_sz M) (hyf : yf = h_sl M) : xV G p l e R s m args below meth c z0 y0 zf yf nL (MQ below (xQc G (some (.inl v)) M) args s (zf - z0) (yf - y0) (xFr G)) pc lv [.inl v] M := by
  subst hzf; subst hyf
  exact ⟨⟨Nat.le_refl _, Nat.le_refl _⟩, fun H locs ls h1 h2 h3 h4 h5 => W.zret E.1 E.2.1 hr hn (fun t ht _ => ⟨rfl, by rw [ht]; exact h3⟩) h4 hdg hlk⟩
theorem xv_rl (E : xE G p R s m args c cc own z0 y0 zf yf nL) {v : Int64} (hr : meth.sig.returnType = some .long) (hlk : meth.locks = false) (hdg : decode cc pc = .ok (.lreturn, 1)) (hzf : zf = h_sz M) (hyf : yf = h_sl M) : xV G p l e R s m args below meth c z0 y0 zf yf nL (MQ below (xQc G (some (.inr (.inl v))) M) args s (zf - z0) (yf - y0) (xFr G)) pc lv [.inr (.inl v)] M := by
  subst hzf; subst hyf
  exact ⟨⟨Nat.le_refl _, Nat.le_refl _⟩, fun H locs ls h1 h2 h3 h4 h5 => W.lret E.1 E.2.1 hr (fun t ht _ => ⟨rfl, by rw [ht]; exact h3⟩) h4 hdg hlk⟩
theorem xv_rr (E : xE G p R s m args c cc own z0 y0 zf yf nL) {v : Option Nat} {rt : FieldType} (hr : meth.sig.returnType = some rt) (hrt : (∃ n, rt = .object n) ∨ ∃ t, rt = .array t) (hlk : meth.locks = false) (hdg : decode cc pc = .ok (.areturn, 1)) (hzf : zf = h_sz M) (hyf : yf = h_sl M) : xV G p l e R s m args below meth c z0 y0 zf yf nL (MQ below (xQc G (some (.inr (.inr v))) M) args s (zf - z0) (yf - y0) (xFr G)) pc lv [.inr (.inr v)] M := by
  subst hzf; subst hyf
  exact ⟨⟨Nat.le_refl _, Nat.le_refl _⟩, fun H locs ls h1 h2 h3 h4 h5 => W.aret E.1 E.2.1 hr hrt (by cases v with | none => exact Or.inl rfl | some a => exact Or.inr ⟨a, rfl⟩) (fun t ht _ => ⟨rfl, by rw [ht]; exact h3⟩) h4 hdg hlk⟩
theorem xv_rv (E : xE G p R s m args c cc own z0 y0 zf yf nL) (hr : meth.sig.returnType = none) (hlk : meth.locks = false) (hdg : decode cc pc = .ok (.return_, 1)) (hzf : zf = h_sz M) (hyf : yf = h_sl M) : xV G p l e R s m args below meth c z0 y0 zf yf nL (MQ below (xQc G none M) args s (zf - z0) (yf - y0) (xFr G)) pc lv [] M := by
  subst hzf; subst hyf
  exact ⟨⟨Nat.le_refl _, Nat.le_refl _⟩, fun H locs ls h1 h2 h3 h4 h5 => W.vret E.1 E.2.1 hr (fun t ht _ => ⟨rfl, by rw [ht]; exact h3⟩) h4 hdg hlk⟩
/-! ===== calls ===== -/
theorem xGI {L : List Cond} (h : ∀ w ∈ L, w ∈ xTs) : GoodIn xTs L := fun w hw => ⟨h w hw, good_of_word (List.mem_filter.mp (h w hw)).2⟩
theorem xPc_blind {as : List aV} : FrameBlind (xPc G as M) := fun a U g mk q => ⟨q.1, q.2.1, xK.same (u := U) (U := U.calling g mk a) rfl q.2.2⟩
theorem a_cat_sum (st : List aV) : ((a_st st).map fun v => v.category).sum = (st.map a_cat).sum := by
  unfold a_st
  rw [List.map_map]
  congr 1
  exact List.map_congr_left (fun x _ => a_cat_eq x)
theorem xv_run {r : Option aV} {st0 : List aV} (hle : h_sz M ≤ h_sz M1 ∧ h_sl M ≤ h_sl M1) (k : xV G p l e R s m args below meth c z0 y0 zf yf nL Q (pc + 3) lv (r.toList ++ st) M1)
    (hr : ∀ (H : Heap) (locs : List Loc) (ls : Array Slot), z0 ≤ h_sz M → y0 ≤ h_sl M → xW G M H → lv_has ls nL (a_lv lv) → va_Run p l e R s m args below meth c H locs (h_sz M - z0) (h_sl M - y0) (h_sz M1 - h_sz M) (h_sl M1 - h_sl M) (F0 m pc ls (a_st st0)) (a_st st) (fun _ oc t => oc = .returned (r.map a_v) ∧ xW G M1 t.heap) (xFr G)) : xV G p l e R s m args below meth c z0 y0 zf yf nL Q pc lv st0 M := by
  have k1 := k.1
  refine ⟨by omega, fun H locs ls h1 h2 h3 h4 h5 => ?_⟩
  intro T hT X
  obtain ⟨v, st₀, t, T', L, -, X', hL, e1, -, ⟨hv, hW⟩, go⟩ := hr H locs ls h1 h2 h3 h5 T hT X
  have hv : v = r.map a_v := Outcome.returned.inj hv
  subst hv
  have hst : (r.map a_v).toList ++ a_st st = a_st (r.toList ++ st) := by cases r <;> rfl
  rw [hst] at go
  have e2 : h_sz M - z0 + (h_sz M1 - h_sz M) = h_sz M1 - z0 := by omega
  have e3 : h_sl M - y0 + (h_sl M1 - h_sl M) = h_sl M1 - y0 := by omega
  rw [e2, e3] at X'
  obtain ⟨t2, a1, b1⟩ := k.2 T'.heap (locs ++ L) ls (by omega) (by omega) (by rw [e1]; exact hW) (fun q hq => by
    rcases List.mem_append.mp hq with h | h
    · exact h4 q h
    · exact hL q h) h5 T' rfl X'
  exact ⟨t2, go t2 a1, b1⟩
/-- what a call must know of the method it names -/
def xCd (y : MethodName) (cb : ByteArray) (mL : Nat) (ret : Option FieldType) (n : Nat) : Prop := Cond.code y cb mL ret ∈ xTs ∧ Cond.initialized y.cls ∈ xTs ∧ y.cls ≠ "java/lang/invoke/MethodHandle" ∧ y.cls ≠ "java/lang/invoke/VarHandle" ∧ (parseMethodDescriptor y.desc).map (fun d => d.parameters.length) = some n
theorem xWs_in {y : MethodName} {cb : ByteArray} {mL : Nat} {ret : Option FieldType} (h : Cond.code y cb mL ret ∈ xTs) : ∀ w ∈ Cond.code y cb mL ret :: xTs, w ∈ xTs := fun w hw => by
  rcases List.mem_cons.mp hw with q | q
  · rw [q]; exact h
  · exact q
/-- invokevirtual -/
theorem xv_cv (E : xE G p R s m args c cc own z0 y0 zf yf nL) {y : MethodName} {cb : ByteArray} {mL n d idx b : Nat} {ret : Option FieldType} {as : List aV} {r : Option aV} {st0 : List aV} (ci : Nat) (hM : xM G l y cb mL ret d (.inr (.inr (some b)) :: as) M r M1) (hcd : xCd y cb mL ret n) (hlk : Cond.methodLink own idx y ∈ xTs) (hin : Cond.instanceMethod y ∈ xTs) (hsel : Cond.selects y.cls y y ∈ xTs) (hdg : decode cc pc = .ok (.invokevirtual idx, 3)) (ht : h_tg M b = ci + 1)
    (hst : st0 = as.reverse ++ .inr (.inr (some b)) :: st) (hn : as.length = n) (hcat : (st.map a_cat).sum ≤ 8) (hR : d + 1 ≤ R.frames ∧ 8 + (mL + 11) + (40 * d + 12) ≤ R.locals) (k : xV G p l e R s m args below meth c z0 y0 zf yf nL Q (pc + 3) lv (r.toList ++ st) M1) (hc : ci < 13 ∧ y.cls = xRR ci := by decide) : xV G p l e R s m args below meth c z0 y0 zf yf nL Q pc lv st0 M := by
  refine xv_run hM.1 k fun H locs ls h1 h2 h3 h5 => ?_
  subst hst
  have k1 := k.1
  have h0 := hM.1
  obtain ⟨hx, hb, hml, hown, hts, hK, hR1, hR2⟩ := E
  have hat := (h3.2.2.2 b (by omega)).2
  rw [h_cell_obj ht hc.1] at hat
  have cw : CallW R s args own y.cls idx y cb mL ret (.code y cb mL ret :: xTs) (xRm d (h_sz M1 - h_sz M) (h_sl M1 - h_sl M)) (h_sz M1 - h_sz M) (h_sl M1 - h_sl M) n :=
    cwV n hts (xGI (fun w hw => by
      unfold wsV at hw
      rcases List.mem_append.mp hw with q | q
      · simp only [List.mem_cons, List.not_mem_nil, or_false] at q
        rcases q with q | q | q | q
        · rw [q]; exact hlk
        · rw [q]; exact hin
        · rw [q]; exact hsel
        · rw [q]; exact hcd.2.1
      · exact xWs_in hcd.1 w q)) rfl rfl rfl ⟨rfl, hcd.2.2.1, hcd.2.2.2.1, hcd.2.2.2.2⟩ hR
  exact va_runV (As := a_st as) (rest := a_st st) (C := y.cls) ⟨hx, hb, hml, hown, hts⟩ hM.2 cw ⟨xPc_blind, by rw [hc.2]; exact va_recv hK.1 (xP1 hat) (xcl_at hc.1) (q0 := 0) rfl, fun U hU hW => ⟨rfl, by rw [hU]; exact h3, xK.moved hW hK⟩⟩ rfl (by unfold a_st; rw [List.length_map]; exact hn) h5.1 (by show a_st _ = _; unfold a_st; rw [List.map_append, List.map_reverse]; rfl) (lv_room (by rw [a_cat_sum]; exact hcat)) hdg ⟨by omega, by omega⟩
/-- invokespecial of a constructor -/
theorem xv_ci (E : xE G p R s m args c cc own z0 y0 zf yf nL) {y : MethodName} {cb : ByteArray} {mL n d idx b : Nat} {as : List aV} {st0 : List aV} (hM : xM G l y cb mL none d (.inr (.inr (some b)) :: as) M none M1) (hcd : xCd y cb mL none n) (hlk : Cond.methodLink own idx y ∈ xTs ∨ ∃ host, va_Nw (.methodLinkNest own idx y host) s) (hin : Cond.instanceMethod y ∈ xTs) (hy1 : y.name = "<init>") (hdg : decode cc pc = .ok (.invokespecial idx, 3))
    (hst : st0 = as.reverse ++ .inr (.inr (some b)) :: st) (hn : as.length = n) (hcat : (st.map a_cat).sum ≤ 8) (hR : d + 1 ≤ R.frames ∧ 8 + (mL + 11) + (40 * d + 12) ≤ R.locals) (k : xV G p l e R s m args below meth c z0 y0 zf yf nL Q (pc + 3) lv st M1) : xV G p l e R s m args below meth c z0 y0 zf yf nL Q pc lv st0 M := by
  refine xv_run (r := none) hM.1 k fun H locs ls h1 h2 h3 h5 => ?_
  subst hst
  have k1 := k.1
  have h0 := hM.1
  obtain ⟨hx, hb, hml, hown, hts, hK, hR1, hR2⟩ := E
  have hG : GoodIn xTs (.code y cb mL none :: xTs) := xGI (xWs_in hcd.1)
  rcases hlk with hlk | ⟨host, hlk⟩
  · exact va_runI (As := a_st as) (rest := a_st st) ⟨hx, hb, hml, hown, hts⟩ hM.2 (cwI n hts hG rfl rfl rfl (hts _ hcd.2.1) (hts _ hlk) (hts _ hin) hy1 hcd.2.2 hR) ⟨xPc_blind, fun U hU hW => ⟨rfl, by rw [hU]; exact h3, xK.moved hW hK⟩⟩ rfl (by unfold a_st; rw [List.length_map]; exact hn) h5.1 (by show a_st _ = _; unfold a_st; rw [List.map_append, List.map_reverse]; rfl) (lv_room (by rw [a_cat_sum]; exact hcat)) hdg ⟨by omega, by omega⟩
  · exact va_runIN (host := host) (As := a_st as) (rest := a_st st) ⟨hx, hb, hml, hown, hts⟩ hM.2 ⟨va_cnB n hts hG rfl rfl rfl hlk (hts _ hcd.2.1) hcd.2.2 hR, hy1, hts _ hin⟩ ⟨xPc_blind, fun U hU hW => ⟨rfl, by rw [hU]; exact h3, xK.moved hW hK⟩⟩ rfl (by unfold a_st; rw [List.length_map]; exact hn) h5.1 (by show a_st _ = _; unfold a_st; rw [List.map_append, List.map_reverse]; rfl) (lv_room (by rw [a_cat_sum]; exact hcat)) hdg ⟨by omega, by omega⟩
/-- invokestatic -/
theorem xv_cs (E : xE G p R s m args c cc own z0 y0 zf yf nL) {y : MethodName} {cb : ByteArray} {mL n d idx : Nat} {ret : Option FieldType} {as : List aV} {r : Option aV} {st0 : List aV} (hM : xM G l y cb mL ret d as M r M1) (hcd : xCd y cb mL ret n) (hlk : Cond.methodLink own idx y ∈ xTs) (hsx : Cond.static y ∈ xTs) (hdg : decode cc pc = .ok (.invokestatic idx, 3))
    (hst : st0 = as.reverse ++ st) (hn : as.length = n) (hcat : (st.map a_cat).sum ≤ 8) (hR : d + 1 ≤ R.frames ∧ 8 + (mL + 11) + (40 * d + 12) ≤ R.locals) (k : xV G p l e R s m args below meth c z0 y0 zf yf nL Q (pc + 3) lv (r.toList ++ st) M1) : xV G p l e R s m args below meth c z0 y0 zf yf nL Q pc lv st0 M := by
  refine xv_run hM.1 k fun H locs ls h1 h2 h3 h5 => ?_
  subst hst
  have k1 := k.1
  have h0 := hM.1
  obtain ⟨hx, hb, hml, hown, hts, hK, hR1, hR2⟩ := E
  have hG : GoodIn xTs (.code y cb mL ret :: xTs) := xGI (xWs_in hcd.1)
  exact va_runS (As := a_st as) (rest := a_st st) ⟨hx, hb, hml, hown, hts⟩ hM.2 ⟨callB_of n hts hG rfl rfl rfl (hts _ hcd.2.1) (hts _ hlk) hcd.2.2 hR, hts _ hsx⟩ ⟨xPc_blind, fun U hU hW => ⟨rfl, by rw [hU]; exact h3, xK.moved hW hK⟩⟩ rfl (by unfold a_st; rw [List.length_map]; exact hn) h5.1 (by show a_st _ = _; unfold a_st; rw [List.map_append, List.map_reverse]) (lv_room (by rw [a_cat_sum]; exact hcat)) hdg ⟨by omega, by omega⟩
/-- the call of Object's constructor -/
theorem xv_co (E : xE G p R s m args c cc own z0 y0 zf yf nL) {idx b : Nat} (hlk : Cond.methodLink own idx objectInit ∈ xTs) (hin : Cond.instanceMethod objectInit ∈ xTs) (hcode : Cond.code objectInit ⟨#[0xb1]⟩ 1 none ∈ xTs) (hdg : decode cc pc = .ok (.invokespecial idx, 3)) (hcat : (st.map a_cat).sum ≤ 8) (hR : 1 ≤ R.frames ∧ 20 ≤ R.locals) (k : xV G p l e R s m args below meth c z0 y0 zf yf nL Q (pc + 3) lv st M) : xV G p l e R s m args below meth c z0 y0 zf yf nL Q pc lv (.inr (.inr (some b)) :: st) M := by
  refine ⟨k.1, fun H locs ls h1 h2 h3 h4 h5 => ?_⟩
  obtain ⟨hx, hb, hml, hown, hts, -⟩ := E
  exact W.objInit hx hb hown (hts _ hlk) (hts _ hin) (hts _ hcode) rfl (by rw [hml]; exact h5.1) rfl hdg hR.1 (by show 2 * 0 + ((a_st st).map fun v => v.category).sum + 12 ≤ _; rw [a_cat_sum]; omega) (k.2 H locs ls h1 h2 h3 h4 h5)
end XC
