/-! ===== what is known of the machine's tables in every state of the run ===== -/
def xTags : List Nat := [20, 21, 22, 23, 30, 35, 36, 37, 38, 40, 50]
def xTys (G : gX) : List (ClassId × FieldType) := xTags.map (fun t => (G.1.2 t, xTA t))
def xAI (U : State) : Prop := (Cond.arrayOver (.array .int)).before #[] U = true
def xAOs (U : State) : Prop := va_AO "ZonedFabric$Command" U ∧ va_AO "ZonedFabric$Node" U ∧ va_AO "ZonedFabric$Notice" U ∧ va_AO "ZonedFabric$OpenWrite" U ∧ va_AO "ZonedFabric$Port" U ∧ va_AO "ZonedFabric$Switch" U
def wN1 : Cond := .methodLinkNest "ZonedFabric$Switch" 19 ⟨"ZonedFabric$Notice", "<init>", "()V"⟩ "ZonedFabric"
def wN2 : Cond := .methodLinkNest "ZonedFabric$Port" 11 ⟨"ZonedFabric$FrameLine", "<init>", "()V"⟩ "ZonedFabric"
def wN3 : Cond := .methodLinkNest "ZonedFabric$Disc" 33 ⟨"ZonedFabric$OpenWrite", "<init>", "()V"⟩ "ZonedFabric"
def wN4 : Cond := .methodLinkNest "ZonedFabric$Shared" 42 ⟨"ZonedFabric$Frame", "<init>", "()V"⟩ "ZonedFabric"
def wN5 : Cond := .fieldLinkNest "ZonedFabric$Frame" 45 "ZonedFabric" "CHECK_STEPS" "[I" "ZonedFabric"
def wN6 : Cond := .fieldLinkNest "ZonedFabric$Host" 80 "ZonedFabric" "PHASE_KINDS" "[I" "ZonedFabric"
def xNs (U : State) : Prop := va_Nw wN1 U ∧ va_Nw wN2 U ∧ va_Nw wN3 U ∧ va_Nw wN4 U ∧ va_Nw wN5 U ∧ va_Nw wN6 U
def xC1 : List Int32 := [0, 0x1DB71064, 0x3B6E20C8, 0x26D930AC, 0x76DC4190, 0x6B6B51F4, 0x4DB26158, 0x5005713C, 0xEDB88320, 0xF00F9344, 0xD6D6A3E8, 0xCB61B38C, 0x9B64C2B0, 0x86D3D2D4, 0xA00AE278, 0xBDBDF21C]
def xC2 : List Int32 := [5, 7, 9, 13]
def xSs (G : gX) (U : State) : Prop := va_Z "ZonedFabric" "CHECK_STEPS" "[I" (.ref G.2.2.1) (fun q => G.2.1.size ≤ q) U G.2.1 ∧ va_T .int G.2.2.1 16 (fun j => .int (xC1.getD j 0)) (fun q => G.2.1.size ≤ q) U G.2.1 ∧ va_Z "ZonedFabric" "PHASE_KINDS" "[I" (.ref G.2.2.2) (fun q => G.2.1.size ≤ q) U G.2.1 ∧ va_T .int G.2.2.2 4 (fun j => .int (xC2.getD j 0)) (fun q => G.2.1.size ≤ q) U G.2.1
def xK (G : gX) (U : State) : Prop := va_K G.1.1 xCl (xTys G) U ∧ xAOs U ∧ xAI U ∧ xNs U ∧ xSs G U
theorem xAI.moved {u U : State} (hvm : u.vm.Alike U.vm) (h : xAI u) : xAI U := by
  obtain ⟨comp, c, k, h1, h2, h3, h4, h5⟩ := arrayOverA_spec h
  obtain ⟨k', hk', he⟩ := hvm.2.2 _ _ h3
  have hi : (U.vm.classes.findIdx? fun (x : Class) => match x.kind with | .array component _ => component == comp | _ => false) = some c := by
    have e1 := va_idx_bare U.vm comp
    have e2 := va_idx_bare u.vm comp
    have eb : u.vm.bare = U.vm.bare := by first | exact hvm.bare_eq | exact hvm.bare_eq.symm
    rw [eb] at e2
    exact (e1.symm.trans e2).trans h2
  have hkind : k'.kind = .array comp (.array .int) := by rw [he]; exact h4
  have f1 : U.vm.findClass (FieldType.array .int).toString = some comp := by rw [hvm.findClass]; exact h1
  have f2 : U.vm.findClass ("[" ++ (FieldType.array .int).toString) = some c := by rw [hvm.findClass]; exact h5
  unfold xAI Cond.before Cond.holds
  simp only [Cond.value]
  rw [f1, Option.bind_some]
  refine (congrArg (fun o : Option Nat => (o.bind (fun c => (U.vm.classes[c]?).map fun (k : Class) => match k.kind with | .array _ ty => decide (ty = FieldType.array .int) && decide (U.vm.findClass ("[" ++ (FieldType.array .int).toString) = some c) | _ => false) == some true)) hi).trans ?_
  simp [hk', hkind, f2]
theorem xK.moved {G : gX} {u U : State} (hW : u.WarmedH U.vm) (h : xK G u) : xK G U := by
  obtain ⟨h1, ⟨a1, a2, a3, a4, a5, a6⟩, h3, ⟨n1, n2, n3, n4, n5, n6⟩, s1, s2, s3, s4⟩ := h
  have hvm := hW.alike
  exact ⟨va_K.moved hvm h1, ⟨a1.moved hvm, a2.moved hvm, a3.moved hvm, a4.moved hvm, a5.moved hvm, a6.moved hvm⟩, h3.moved hvm, ⟨va_Nw.warmM hW n1, va_Nw.warmM hW n2, va_Nw.warmM hW n3, va_Nw.warmM hW n4, va_Nw.warmF hW n5, va_Nw.warmF hW n6⟩, s1.moved hvm, s2.moved hvm, s3.moved hvm, s4.moved hvm⟩
theorem xK.same {G : gX} {u U : State} (e : u.vm = U.vm) (h : xK G u) : xK G U := by
  obtain ⟨h1, ⟨a1, a2, a3, a4, a5, a6⟩, h3, ⟨n1, n2, n3, n4, n5, n6⟩, s1, s2, s3, s4⟩ := h
  have hvm : u.vm.Alike U.vm := by rw [e]; exact Vm.Alike.refl U.vm
  exact ⟨va_K.moved hvm h1, ⟨a1.moved hvm, a2.moved hvm, a3.moved hvm, a4.moved hvm, a5.moved hvm, a6.moved hvm⟩, h3.moved hvm, ⟨va_Nw.same rfl e n1, va_Nw.same rfl e n2, va_Nw.same rfl e n3, va_Nw.same rfl e n4, va_Nw.same rfl e n5, va_Nw.same rfl e n6⟩, s1.moved hvm, s2.moved hvm, s3.moved hvm, s4.moved hvm⟩
theorem xTys_at {G : gX} {t : Nat} (ht : t ∈ xTags) : ∃ i : Nat, (xTys G)[i]? = some (G.1.2 t, xTA t) :=
  List.getElem?_of_mem (List.mem_map.mpr ⟨t, ht, rfl⟩)
theorem xP1 {D : va_G} {cl : List vw_C} {a : Nat} {x : va_E} {H : Heap} (h : va_at D cl (a, x) H) : va_P D cl [(a, x)] H := by
  intro k q hk
  cases k with
  | zero => cases hk; exact h
  | succ k => simp at hk
/-! ===== the judgement: from this place of the method the machine comes to Q ===== -/
def xV (G : gX) (p : Program) (l : Launch) (e : Env) (R : Room) (s : State) (m : MethodId) (args : Array Value) (below : List Frame) (meth : Method) (c : Code) (z0 y0 zf yf nL : Nat) (Q : State → Prop) (pc : Nat) (lv : aL) (st : List aV) (M : hM) : Prop :=
  (h_sz M ≤ zf ∧ h_sl M ≤ yf) ∧ ∀ (H : Heap) (locs : List Loc) (ls : Array Slot), z0 ≤ h_sz M → y0 ≤ h_sl M → xW G M H → (∀ q ∈ locs, G.2.1.size ≤ q.base) → lv_has ls nL (a_lv lv) →
    W p l e R s m args below meth c H locs (h_sz M - z0) (h_sl M - y0) Q (F0 m pc ls (a_st st))
def xE (G : gX) (p : Program) (R : Room) (s : State) (m : MethodId) (args : Array Value) (c : Code) (cc : ByteArray) (own : String) (z0 y0 zf yf nL : Nat) : Prop :=
  p.tables.exec = Jvm.exec ∧ c.code = cc ∧ c.maxLocals = nL ∧ s.vm.findClass own = some m.cls ∧ (∀ w ∈ xTs, w.before args s = true) ∧ xK G s ∧ R.cells = zf - z0 ∧ R.slots = yf - y0
def x_dec (cc : ByteArray) : Nat → List Instr → Bool
  | _, [] => true
  | pc, i :: r => decide (decode cc pc = .ok (i, x_len i)) && x_dec cc (pc + x_len i) r
def x_run (nL : Nat) : List Instr → aL → List aV → Option (aL × List aV)
  | [], lv, st => some (lv, st)
  | i :: r, lv, st => match x_p nL i lv st with
    | some (a, b) => x_run nL r a b
    | none => none
def x_end : Nat → List Instr → Nat
  | pc, [] => pc
  | pc, i :: r => x_end (pc + x_len i) r
section XV
variable {p : Program} {l : Launch} {e : Env} {R : Room} {s : State} {m : MethodId} {args : Array Value} {below : List Frame} {meth : Method} {c : Code} {Q : State → Prop} {G : gX} {cc : ByteArray} {own : String} {z0 y0 zf yf nL : Nat} {pc : Nat} {lv lv' : aL} {st st' : List aV} {M M' : hM}
theorem xv_p (E : xE G p R s m args c cc own z0 y0 zf yf nL) {ins : Instr} (hp : x_p nL ins lv st = some (lv', st')) (hdg : decode cc pc = .ok (ins, x_len ins)) (k : xV G p l e R s m args below meth c z0 y0 zf yf nL Q (pc + x_len ins) lv' st' M) : xV G p l e R s m args below meth c z0 y0 zf yf nL Q pc lv st M :=
  ⟨k.1, fun H locs _ h1 h2 h3 h4 h5 => x_p_ok E.1 E.2.1 hp hdg h5 (fun ls' h6 => k.2 H locs ls' h1 h2 h3 h4 h6)⟩
theorem xv_b (E : xE G p R s m args c cc own z0 y0 zf yf nL) : ∀ (is : List Instr) {pc pc' : Nat} {lv lv' : aL} {st st' : List aV}, x_dec cc pc is = true → x_run nL is lv st = some (lv', st') → x_end pc is = pc' → xV G p l e R s m args below meth c z0 y0 zf yf nL Q pc' lv' st' M → xV G p l e R s m args below meth c z0 y0 zf yf nL Q pc lv st M
  | [], _, _, _, _, _, _, _, hr, he, k => by
    cases hr
    cases he
    exact k
  | i :: r, pc, pc', lv, lv', st, st', hd, hr, he, k => by
    unfold x_dec at hd
    rw [Bool.and_eq_true, decide_eq_true_eq] at hd
    unfold x_run at hr
    cases hp : x_p nL i lv st with
    | none => rw [hp] at hr; cases hr
    | some q =>
      obtain ⟨a, b⟩ := q
      rw [hp] at hr
      exact xv_p E hp hd.1 (xv_b E r hd.2 hr he k)
/-! getfield -/
theorem xv_get0 (E : xE G p R s m args c cc own z0 y0 zf yf nL) {ci k idx a : Nat} {v : aV} (hc : ci < 13) (hk : k < xNN ci) (hlk : Cond.fieldLink own idx (xTT ci k).1 (xTT ci k).2.1 (xTT ci k).2.2.1 ∈ xTs) (hdg : decode cc pc = .ok (.getfield idx, 3)) (ht : h_tg M a = ci + 1) (hv : h_val M ((xkk ci).getD k 0) (100 * ci + k) a = a_v v)
    (kk : xV G p l e R s m args below meth c z0 y0 zf yf nL Q (pc + 3) lv (v :: st) M) : xV G p l e R s m args below meth c z0 y0 zf yf nL Q pc lv (.inr (.inr (some a)) :: st) M := by
  refine ⟨kk.1, fun H locs ls h1 h2 h3 h4 h5 => ?_⟩
  obtain ⟨hx, hb, -, hown, hts, hK, -⟩ := E
  have hat := (h3.2.2.2 a (by omega)).2
  rw [h_cell_obj ht hc] at hat
  exact va_get (v := a_v v) hx hb hts (xin_at hc) hown hK.1 (xP1 hat) 0 rfl (xcl_at hc) k hk (hts _ hlk) (fun _ h => h) (by rw [h_fls_get hk, hv]) hdg (kk.2 H locs ls h1 h2 h3 h4 h5)
/-! putfield -/
theorem xv_put0 (E : xE G p R s m args c cc own z0 y0 zf yf nL) {ci k idx a : Nat} {v : aV} (hc : ci < 13) (hk : k < xNN ci) (hlk : Cond.fieldLink own idx (xTT ci k).1 (xTT ci k).2.1 (xTT ci k).2.2.1 ∈ xTs) (hfin : (xTT ci k).2.2.2 = false ∨ ((xTT ci k).2.2.2 = true ∧ meth.name = "<init>" ∧ (xTT ci k).1 = own)) (hdg : decode cc pc = .ok (.putfield idx, 3)) (ht : h_tg M a = ci + 1)
    (hn : narrow (xYY ci k) (a_v v) = a_v v) (hfit : fits (xYY ci k) (a_v v) = true) (hz : h_sz M' = h_sz M) (hs : h_sl M' = h_sl M) (htg : ∀ x, h_tg M' x = h_tg M x) (hce : ∀ x, x ≠ a → h_cell G M' x = h_cell G M x) (hfl : h_fls M' ci a = (h_fls M ci a).set k (a_v v))
    (kk : xV G p l e R s m args below meth c z0 y0 zf yf nL Q (pc + 3) lv st M') : xV G p l e R s m args below meth c z0 y0 zf yf nL Q pc lv (v :: .inr (.inr (some a)) :: st) M := by
  refine ⟨by rw [← hz, ← hs]; exact kk.1, fun H locs ls h1 h2 h3 h4 h5 => ?_⟩
  obtain ⟨hx, hb, -, hown, hts, hK, -⟩ := E
  have hat := (h3.2.2.2 a (by omega)).2
  have hge := (h3.2.2.2 a (by omega)).1
  rw [h_cell_obj ht hc] at hat
  have hin := xin_at hc
  have hap := va_apart (own := own) hts hin (xYY ci) (xty_at hc) (xnm_at hc) hK.1 (xcl_at hc)
  obtain ⟨r, g1, cell, q1, q2, q3, q4⟩ := hat
  have hr : r = (xRR ci, xTT ci, xNN ci) := Option.some.inj (g1.symm.trans (xcl_at hc))
  subst hr
  obtain ⟨hS, hfc, kC, hkC, hkind⟩ := hK.1.1 ci _ (xcl_at hc)
  obtain ⟨cf, kf, fi, f, hi, hsl⟩ := hS k hk
  have hst := (u_facts hfc hkC (u_lays hts hin hk) hi).1
  have hd := xty_at hc k hk
  have hlt : f.slot < cell.slots.size := by rw [hsl]; exact k2_hasslot (q4 k hk)
  have hlay := hts _ (hin _ (u_in_lay hk))
  have fin : ∀ H' : Heap, H'[a]? = some (cell.setSlot f.slot (a_v v)) → H'.size = H.size → (∀ q, q ≠ a → H'[q]? = H[q]?) → W p l e R s m args below meth c H' (locs ++ [⟨a, f.slot⟩]) (h_sz M - z0) (h_sl M - y0) Q (F0 m (pc + 3) ls (a_st st)) := by
    intro H' e1 e2 e3
    rw [hsl] at e1
    have hW : xW G M' H' := by
      refine xW.put h3 (a := a) (by omega) hz hce htg e2 e3 ?_
      rw [h_cell_obj (by rw [htg]; exact ht) hc, hfl]
      exact ⟨_, xcl_at hc, t_OB.to (V := updV (vp_V (h_fls M ci a)) k (a_v v)) ⟨_, e1, q2, q3, t_set q4 hap hk (a_v v)⟩ (fun j _ => vp_updV_set (by rw [h_fls_len]; exact hk) (a_v v) j)⟩
    have := kk.2 H' (locs ++ [⟨a, f.slot⟩]) ls (by omega) (by omega) hW (fun q hq => by
      rcases List.mem_append.mp hq with h | h
      · exact h4 q h
      · rw [List.mem_singleton.mp h]; exact hge) h5
    rw [hz, hs] at this
    exact this
  rcases hfin with hfin | ⟨hfin, hin2, hdecl⟩
  · unfold u_lay at hlay
    rw [if_neg (by rw [hfin]; decide)] at hlay
    have h6 := u_store hfc hkC hkind hlay hi hd hn hfit
    exact W.putK hx hb (f := f) ⟨hown, hts _ hlk, ⟨_, _, _, hi⟩, hst⟩ (by rw [q2]; exact h6) q1 q3 hlt rfl rfl hdg fin
  · unfold u_lay at hlay
    rw [if_pos hfin] at hlay
    have hcf : m.cls = cf := by
      obtain ⟨_, _, c', _, _, _, -, -, hf', -, -, -, hown2, -⟩ := Cond.laysFinal_spec hlay
      have e1 : c' = cf := by have := hi.symm.trans hf'; simp at this; exact this.1.symm
      rw [hdecl] at hown2
      rw [← e1]; exact Option.some.inj (hown.symm.trans hown2)
    have h6 := u_fits hfc hkC hkind (Or.inr hlay) hi hd hn hfit
    exact W.putFinK hx hb hown (hts _ hlk) hi hst hcf hin2 (by rw [q2]; exact h6) q1 q3 hlt rfl rfl hdg fin
end XV
