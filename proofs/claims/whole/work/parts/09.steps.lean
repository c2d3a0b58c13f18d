/-! ===== steps of a program over the typed heap; none where the machine would leave the road ===== -/
def g_o (M : hM) (ci : Nat) (o : Option Nat) : Option Nat := match o with
  | some a => if h_tg M a = ci + 1 then some a else none
  | none => none
def g_i (M : hM) (ci k : Nat) (o : Option Nat) : Option Int32 := (g_o M ci o).bind fun a => some (h_fi M (100 * ci + k) a)
def g_l (M : hM) (ci k : Nat) (o : Option Nat) : Option Int64 := (g_o M ci o).bind fun a => some (h_fl M (100 * ci + k) a)
def g_r (M : hM) (ci k : Nat) (o : Option Nat) : Option (Option Nat) := (g_o M ci o).bind fun a => some (h_fr M (100 * ci + k) a)
def p_i (M : hM) (ci k : Nat) (o : Option Nat) (v : Int32) : Option hM := (g_o M ci o).bind fun a => some (h_pi M (100 * ci + k) a v)
def p_z (M : hM) (ci k : Nat) (o : Option Nat) (v : Int32) : Option hM := if v = 0 ∨ v = 1 then (g_o M ci o).bind fun a => some (h_pi M (100 * ci + k) a v) else none
def p_l (M : hM) (ci k : Nat) (o : Option Nat) (v : Int64) : Option hM := (g_o M ci o).bind fun a => some (h_pl M (100 * ci + k) a v)
def p_r (M : hM) (ci k : Nat) (o : Option Nat) (v : Option Nat) : Option hM := (g_o M ci o).bind fun a => some (h_pr M (100 * ci + k) a v)
/-- the array o, of tag t, if i is a place of it -/
def g_a (M : hM) (t : Nat) (o : Option Nat) (i : Int32) : Option Nat := match o with
  | some a => if h_tg M a = t ∧ ¬ i < 0 ∧ i.toNatClampNeg < h_ln M a then some a else none
  | none => none
def al_i (M : hM) (t : Nat) (o : Option Nat) (i : Int32) : Option Int32 := (g_a M t o i).bind fun a => some (h_ai M a i.toNatClampNeg)
def al_l (M : hM) (t : Nat) (o : Option Nat) (i : Int32) : Option Int64 := (g_a M t o i).bind fun a => some (h_al M a i.toNatClampNeg)
def al_r (M : hM) (t : Nat) (o : Option Nat) (i : Int32) : Option (Option Nat) := (g_a M t o i).bind fun a => some (h_ar M a i.toNatClampNeg)
def as_i (M : hM) (t : Nat) (o : Option Nat) (i v : Int32) : Option hM := (g_a M t o i).bind fun a => some (h_qi M a i.toNatClampNeg v)
def as_b (M : hM) (t : Nat) (o : Option Nat) (i v : Int32) : Option hM := (g_a M t o i).bind fun a => some (h_qi M a i.toNatClampNeg v.toInt8.toInt32)
def as_z (M : hM) (t : Nat) (o : Option Nat) (i v : Int32) : Option hM := if v = 0 ∨ v = 1 then (g_a M t o i).bind fun a => some (h_qi M a i.toNatClampNeg v) else none
def as_l (M : hM) (t : Nat) (o : Option Nat) (i : Int32) (v : Int64) : Option hM := (g_a M t o i).bind fun a => some (h_ql M a i.toNatClampNeg v)
def as_r (M : hM) (ci : Nat) (o : Option Nat) (i : Int32) (v : Option Nat) : Option hM := (g_a M (30 + ci) o i).bind fun a => (g_o M ci v).bind fun b => some (h_qr M a i.toNatClampNeg (some b))
def a_ln (M : hM) (t : Nat) (o : Option Nat) : Option Int32 := match o with
  | some a => if h_tg M a = t then some (Int32.ofNat (h_ln M a)) else none
  | none => none
def n_o (M : hM) (ci n : Nat) : Option hM := some (h_no M ci n)
def n_a (M : hM) (t : Nat) (n : Int32) : Option hM := if ¬ n < 0 ∧ n.toNatClampNeg ≤ 1000000 then some (h_na M t n.toNatClampNeg) else none
def n_m (M : hM) (n k : Int32) : Option hM := if (¬ n < 0 ∧ ¬ k < 0) ∧ n.toNatClampNeg ≤ 1000 ∧ k.toNatClampNeg ≤ 1000 then some (h_ma M n.toNatClampNeg k.toNatClampNeg) else none
def n_c (M : hM) (a0 : Option Nat) (sp : Int32) (a : Option Nat) (dp n : Int32) : Option hM := match a0, a with
  | some x, some y => if (h_tg M x = 20 ∧ h_tg M y = 20) ∧ (¬ sp < 0 ∧ ¬ dp < 0 ∧ ¬ n < 0) ∧ sp.toNatClampNeg + n.toNatClampNeg ≤ h_ln M x ∧ dp.toNatClampNeg + n.toNatClampNeg ≤ h_ln M y then some (h_ca M y (va_cpy (h_ai M x) (h_ai M y) sp.toNatClampNeg dp.toNatClampNeg n.toNatClampNeg)) else none
  | _, _ => none
def d_v (x y : Int32) : Option Int32 := if y = 0 then none else some (x / y)
def d_m (x y : Int32) : Option Int32 := if y = 0 then none else some (x - x / y * y)
def t_1 (i : Int32) : Option Int32 := if ¬ i < 0 ∧ i.toNatClampNeg < 16 then some (xC1.getD i.toNatClampNeg 0) else none
def t_2 (i : Int32) : Option Int32 := if ¬ i < 0 ∧ i.toNatClampNeg < 4 then some (xC2.getD i.toNatClampNeg 0) else none
def z_k (v : Int32) : Option Int32 := if v = 0 ∨ v = 1 then some v else none
abbrev xO : Type := Option (Option aV × hM)
def c_I (x : xO) : Option (Int32 × hM) := match x with
  | some (some (.inl v), M) => some (v, M)
  | _ => none
def c_L (x : xO) : Option (Int64 × hM) := match x with
  | some (some (.inr (.inl v)), M) => some (v, M)
  | _ => none
def c_R (x : xO) : Option (Option Nat × hM) := match x with
  | some (some (.inr (.inr v)), M) => some (v, M)
  | _ => none
def c_V (x : xO) : Option hM := match x with
  | some (none, M) => some M
  | _ => none
theorem c_I_some {x : xO} {q : Int32 × hM} (h : c_I x = some q) : x = some (some (.inl q.1), q.2) := by
  unfold c_I at h
  split at h
  · cases h; rfl
  · cases h
theorem c_L_some {x : xO} {q : Int64 × hM} (h : c_L x = some q) : x = some (some (.inr (.inl q.1)), q.2) := by
  unfold c_L at h
  split at h
  · cases h; rfl
  · cases h
theorem c_R_some {x : xO} {q : Option Nat × hM} (h : c_R x = some q) : x = some (some (.inr (.inr q.1)), q.2) := by
  unfold c_R at h
  split at h
  · cases h; rfl
  · cases h
theorem c_V_some {x : xO} {q : hM} (h : c_V x = some q) : x = some (none, q) := by
  unfold c_V at h
  split at h
  · cases h; rfl
  · cases h
/-- a piece's end: the method's answer, or a place to go on -/
abbrev xRes : Type := (Option aV × hM) ⊕ (Nat × List aV × hM)
def x_out (x : Option xRes) : xO := match x with
  | some (.inl r) => some r
  | _ => none
def drive (blk : Nat → List aV → hM → Option xRes) : Nat → Nat → List aV → hM → xO
  | 0, _, _, _ => none
  | n + 1, h, as, M => match blk h as M with
    | none => none
    | some (.inl r) => some r
    | some (.inr q) => drive blk n q.1 q.2.1 q.2.2
def xN (Pg : Nat → List aV → hM → Prop) (r : Option aV) (M' : hM) (res : xRes) : Prop := match res with
  | .inl q => q = (r, M')
  | .inr q => Pg q.1 q.2.1 q.2.2
theorem drive_ok {blk : Nat → List aV → hM → Option xRes} {Pg : Nat → List aV → hM → Prop} {r : Option aV} {M' : hM} (hs : ∀ h as M res, blk h as M = some res → xN Pg r M' res → Pg h as M) : ∀ n h as M, drive blk n h as M = some (r, M') → Pg h as M
  | 0, _, _, _, hd => by cases hd
  | n + 1, h, as, M, hd => by
    unfold drive at hd
    cases hb : blk h as M with
    | none => rw [hb] at hd; cases hd
    | some res =>
      rw [hb] at hd
      refine hs h as M res hb ?_
      cases res with
      | inl q => exact Option.some.inj hd
      | inr q => exact drive_ok hs n q.1 q.2.1 q.2.2 hd
theorem x_out_ok {x : Option xRes} {r : Option aV} {M' : hM} (h : x_out x = some (r, M')) : x = some (.inl (r, M')) := by
  unfold x_out at h
  split at h
  · cases h; rfl
  · cases h
theorem g_o_some {M : hM} {ci a : Nat} {o : Option Nat} (h : g_o M ci o = some a) : o = some a ∧ h_tg M a = ci + 1 := by
  cases o with
  | none => cases h
  | some b =>
    unfold g_o at h
    dsimp only at h
    split at h
    · cases h; exact ⟨rfl, by assumption⟩
    · cases h
theorem g_a_some {M : hM} {t a : Nat} {o : Option Nat} {i : Int32} (h : g_a M t o i = some a) : o = some a ∧ h_tg M a = t ∧ vp_in i (h_ln M a) := by
  cases o with
  | none => cases h
  | some b =>
    unfold g_a at h
    dsimp only at h
    split at h
    · rename_i q
      cases h
      exact ⟨rfl, q.1, fun z => by rcases z with z | z; exact q.2.1 z; omega⟩
    · cases h
theorem bd {α β : Type} {x : Option α} {f : α → Option β} {b : β} (h : x.bind f = some b) : ∃ a, x = some a ∧ f a = some b := Option.bind_eq_some_iff.mp h
section XS
variable {p : Program} {l : Launch} {e : Env} {R : Room} {s : State} {m : MethodId} {args : Array Value} {below : List Frame} {meth : Method} {c : Code} {Q : State → Prop} {G : gX} {cc : ByteArray} {own : String} {z0 y0 zf yf nL : Nat} {pc : Nat} {lv lv' : aL} {st st' : List aV} {M M' M1 : hM}
/-- fewer locals, in any order -/
theorem xv_w (k : xV G p l e R s m args below meth c z0 y0 zf yf nL Q pc lv' st M) (h : lv'.map (fun q => a_ld lv q.1) = lv'.map (fun q => some q.2)) : xV G p l e R s m args below meth c z0 y0 zf yf nL Q pc lv st M := by
  refine ⟨k.1, fun H locs ls h1 h2 h3 h4 h5 => k.2 H locs ls h1 h2 h3 h4 ⟨h5.1, h5.2.1, fun q hq => ?_⟩⟩
  obtain ⟨q0, hq0, rfl⟩ := List.mem_map.mp hq
  exact a_ld_at h5 (List.map_inj_left.mp h q0 hq0)
theorem xg_i (E : xE G p R s m args c cc own z0 y0 zf yf nL) (ci k : Nat) {idx : Nat} {o : Option Nat} {v : Int32} (hg : g_i M ci k o = some v) (hlk : Cond.fieldLink own idx (xTT ci k).1 (xTT ci k).2.1 (xTT ci k).2.2.1 ∈ xTs) (hdg : decode cc pc = .ok (.getfield idx, 3)) (kk : xV G p l e R s m args below meth c z0 y0 zf yf nL Q (pc + 3) lv (.inl v :: st) M) (hh : ci < 13 ∧ k < xNN ci ∧ ((xkk ci).getD k 0 = 0 ∨ (xkk ci).getD k 0 = 3) := by decide) : xV G p l e R s m args below meth c z0 y0 zf yf nL Q pc lv (.inr (.inr o) :: st) M := by
  obtain ⟨a, h1, h2⟩ := bd hg
  obtain ⟨rfl, h3⟩ := g_o_some h1
  cases h2
  exact xv_gi E ci k hlk hdg h3 kk hh
theorem xg_l (E : xE G p R s m args c cc own z0 y0 zf yf nL) (ci k : Nat) {idx : Nat} {o : Option Nat} {v : Int64} (hg : g_l M ci k o = some v) (hlk : Cond.fieldLink own idx (xTT ci k).1 (xTT ci k).2.1 (xTT ci k).2.2.1 ∈ xTs) (hdg : decode cc pc = .ok (.getfield idx, 3)) (kk : xV G p l e R s m args below meth c z0 y0 zf yf nL Q (pc + 3) lv (.inr (.inl v) :: st) M) (hh : ci < 13 ∧ k < xNN ci ∧ (xkk ci).getD k 0 = 1 := by decide) : xV G p l e R s m args below meth c z0 y0 zf yf nL Q pc lv (.inr (.inr o) :: st) M := by
  obtain ⟨a, h1, h2⟩ := bd hg
  obtain ⟨rfl, h3⟩ := g_o_some h1
  cases h2
  exact xv_gl E ci k hlk hdg h3 kk hh
theorem xg_r (E : xE G p R s m args c cc own z0 y0 zf yf nL) (ci k : Nat) {idx : Nat} {o : Option Nat} {v : Option Nat} (hg : g_r M ci k o = some v) (hlk : Cond.fieldLink own idx (xTT ci k).1 (xTT ci k).2.1 (xTT ci k).2.2.1 ∈ xTs) (hdg : decode cc pc = .ok (.getfield idx, 3)) (kk : xV G p l e R s m args below meth c z0 y0 zf yf nL Q (pc + 3) lv (.inr (.inr v) :: st) M) (hh : ci < 13 ∧ k < xNN ci ∧ (xkk ci).getD k 0 = 2 := by decide) : xV G p l e R s m args below meth c z0 y0 zf yf nL Q pc lv (.inr (.inr o) :: st) M := by
  obtain ⟨a, h1, h2⟩ := bd hg
  obtain ⟨rfl, h3⟩ := g_o_some h1
  cases h2
  exact xv_gr E ci k hlk hdg h3 kk hh
theorem xp_i (E : xE G p R s m args c cc own z0 y0 zf yf nL) (ci k : Nat) {idx : Nat} {o : Option Nat} {v : Int32} (hg : p_i M ci k o v = some M1) (hlk : Cond.fieldLink own idx (xTT ci k).1 (xTT ci k).2.1 (xTT ci k).2.2.1 ∈ xTs) (hdg : decode cc pc = .ok (.putfield idx, 3)) (hfin : (xTT ci k).2.2.2 = false ∨ ((xTT ci k).2.2.2 = true ∧ meth.name = "<init>" ∧ (xTT ci k).1 = own)) (kk : xV G p l e R s m args below meth c z0 y0 zf yf nL Q (pc + 3) lv st M1) (hh : ci < 13 ∧ k < xNN ci ∧ (xYY ci k) = .int := by decide) : xV G p l e R s m args below meth c z0 y0 zf yf nL Q pc lv (.inl v :: .inr (.inr o) :: st) M := by
  obtain ⟨a, h1, h2⟩ := bd hg
  obtain ⟨rfl, h3⟩ := g_o_some h1
  cases h2
  exact xv_pi E ci k hlk hdg h3 hfin kk hh
theorem xp_l (E : xE G p R s m args c cc own z0 y0 zf yf nL) (ci k : Nat) {idx : Nat} {o : Option Nat} {v : Int64} (hg : p_l M ci k o v = some M1) (hlk : Cond.fieldLink own idx (xTT ci k).1 (xTT ci k).2.1 (xTT ci k).2.2.1 ∈ xTs) (hdg : decode cc pc = .ok (.putfield idx, 3)) (hfin : (xTT ci k).2.2.2 = false ∨ ((xTT ci k).2.2.2 = true ∧ meth.name = "<init>" ∧ (xTT ci k).1 = own)) (kk : xV G p l e R s m args below meth c z0 y0 zf yf nL Q (pc + 3) lv st M1) (hh : ci < 13 ∧ k < xNN ci ∧ (xYY ci k) = .long := by decide) : xV G p l e R s m args below meth c z0 y0 zf yf nL Q pc lv (.inr (.inl v) :: .inr (.inr o) :: st) M := by
  obtain ⟨a, h1, h2⟩ := bd hg
  obtain ⟨rfl, h3⟩ := g_o_some h1
  cases h2
  exact xv_pl E ci k hlk hdg h3 hfin kk hh
theorem xp_r (E : xE G p R s m args c cc own z0 y0 zf yf nL) (ci k : Nat) {idx : Nat} {o : Option Nat} {v : Option Nat} (hg : p_r M ci k o v = some M1) (hlk : Cond.fieldLink own idx (xTT ci k).1 (xTT ci k).2.1 (xTT ci k).2.2.1 ∈ xTs) (hdg : decode cc pc = .ok (.putfield idx, 3)) (hfin : (xTT ci k).2.2.2 = false ∨ ((xTT ci k).2.2.2 = true ∧ meth.name = "<init>" ∧ (xTT ci k).1 = own)) (kk : xV G p l e R s m args below meth c z0 y0 zf yf nL Q (pc + 3) lv st M1) (hh : ci < 13 ∧ k < xNN ci ∧ xkt (xYY ci k) = 2 := by decide) : xV G p l e R s m args below meth c z0 y0 zf yf nL Q pc lv (.inr (.inr v) :: .inr (.inr o) :: st) M := by
  obtain ⟨a, h1, h2⟩ := bd hg
  obtain ⟨rfl, h3⟩ := g_o_some h1
  cases h2
  exact xv_pr E ci k hlk hdg h3 hfin kk hh
theorem xp_z (E : xE G p R s m args c cc own z0 y0 zf yf nL) (ci k : Nat) {idx : Nat} {o : Option Nat} {v : Int32} (hg : p_z M ci k o v = some M1) (hlk : Cond.fieldLink own idx (xTT ci k).1 (xTT ci k).2.1 (xTT ci k).2.2.1 ∈ xTs) (hdg : decode cc pc = .ok (.putfield idx, 3)) (hfin : (xTT ci k).2.2.2 = false ∨ ((xTT ci k).2.2.2 = true ∧ meth.name = "<init>" ∧ (xTT ci k).1 = own)) (kk : xV G p l e R s m args below meth c z0 y0 zf yf nL Q (pc + 3) lv st M1) (hh : ci < 13 ∧ k < xNN ci ∧ (xYY ci k) = .boolean := by decide) : xV G p l e R s m args below meth c z0 y0 zf yf nL Q pc lv (.inl v :: .inr (.inr o) :: st) M := by
  unfold p_z at hg
  split at hg
  · rename_i q
    obtain ⟨a, h1, h2⟩ := bd hg
    obtain ⟨rfl, h3⟩ := g_o_some h1
    cases h2
    exact xv_pz E ci k hlk hdg h3 hfin q kk hh
  · cases hg
theorem xa_i (E : xE G p R s m args c cc own z0 y0 zf yf nL) {o : Option Nat} {i : Int32} {v : Int32} (hg : al_i M 20 o i = some v) (hdg : decode cc pc = .ok (.iaload, 1)) (kk : xV G p l e R s m args below meth c z0 y0 zf yf nL Q (pc + 1) lv (.inl v :: st) M) : xV G p l e R s m args below meth c z0 y0 zf yf nL Q pc lv (.inl i :: .inr (.inr o) :: st) M := by
  obtain ⟨a, h1, h2⟩ := bd hg
  obtain ⟨rfl, h3, h4⟩ := g_a_some h1
  cases h2
  exact xv_aload_i E h3 h4 hdg kk
theorem xa_b (E : xE G p R s m args c cc own z0 y0 zf yf nL) {o : Option Nat} {i : Int32} {v : Int32} (hg : al_i M 21 o i = some v) (hdg : decode cc pc = .ok (.baload, 1)) (kk : xV G p l e R s m args below meth c z0 y0 zf yf nL Q (pc + 1) lv (.inl v :: st) M) : xV G p l e R s m args below meth c z0 y0 zf yf nL Q pc lv (.inl i :: .inr (.inr o) :: st) M := by
  obtain ⟨a, h1, h2⟩ := bd hg
  obtain ⟨rfl, h3, h4⟩ := g_a_some h1
  cases h2
  exact xv_aload_b E h3 h4 hdg kk
theorem xa_z (E : xE G p R s m args c cc own z0 y0 zf yf nL) {o : Option Nat} {i : Int32} {v : Int32} (hg : al_i M 22 o i = some v) (hdg : decode cc pc = .ok (.baload, 1)) (kk : xV G p l e R s m args below meth c z0 y0 zf yf nL Q (pc + 1) lv (.inl v :: st) M) : xV G p l e R s m args below meth c z0 y0 zf yf nL Q pc lv (.inl i :: .inr (.inr o) :: st) M := by
  obtain ⟨a, h1, h2⟩ := bd hg
  obtain ⟨rfl, h3, h4⟩ := g_a_some h1
  cases h2
  exact xv_aload_z E h3 h4 hdg kk
theorem xa_l (E : xE G p R s m args c cc own z0 y0 zf yf nL) {o : Option Nat} {i : Int32} {v : Int64} (hg : al_l M 23 o i = some v) (hdg : decode cc pc = .ok (.laload, 1)) (kk : xV G p l e R s m args below meth c z0 y0 zf yf nL Q (pc + 1) lv (.inr (.inl v) :: st) M) : xV G p l e R s m args below meth c z0 y0 zf yf nL Q pc lv (.inl i :: .inr (.inr o) :: st) M := by
  obtain ⟨a, h1, h2⟩ := bd hg
  obtain ⟨rfl, h3, h4⟩ := g_a_some h1
  cases h2
  exact xv_aload_l E h3 h4 hdg kk
theorem xa_r (E : xE G p R s m args c cc own z0 y0 zf yf nL) (t : Nat) {o : Option Nat} {i : Int32} {v : Option Nat} (hg : al_r M t o i = some v) (hdg : decode cc pc = .ok (.aaload, 1)) (kk : xV G p l e R s m args below meth c z0 y0 zf yf nL Q (pc + 1) lv (.inr (.inr v) :: st) M) (htt : t ∈ xTags ∧ 23 < t ∧ (xTA t).isReference = true := by decide) : xV G p l e R s m args below meth c z0 y0 zf yf nL Q pc lv (.inl i :: .inr (.inr o) :: st) M := by
  obtain ⟨a, h1, h2⟩ := bd hg
  obtain ⟨rfl, h3, h4⟩ := g_a_some h1
  cases h2
  exact xv_aload_r E t h3 h4 hdg kk htt
theorem xa_n (E : xE G p R s m args c cc own z0 y0 zf yf nL) (t : Nat) {o : Option Nat} {v : Int32} (hg : a_ln M t o = some v) (hdg : decode cc pc = .ok (.arraylength, 1)) (kk : xV G p l e R s m args below meth c z0 y0 zf yf nL Q (pc + 1) lv (.inl v :: st) M) (htt : t ∈ xTags := by decide) : xV G p l e R s m args below meth c z0 y0 zf yf nL Q pc lv (.inr (.inr o) :: st) M := by
  cases o with
  | none => cases hg
  | some a =>
    unfold a_ln at hg
    dsimp only at hg
    split at hg
    · cases hg
      exact xv_alen E t (by assumption) hdg kk htt
    · cases hg
theorem xs_i (E : xE G p R s m args c cc own z0 y0 zf yf nL) {o : Option Nat} {i : Int32} {v : Int32} (hg : as_i M 20 o i v = some M1) (hdg : decode cc pc = .ok (.iastore, 1)) (kk : xV G p l e R s m args below meth c z0 y0 zf yf nL Q (pc + 1) lv st M1) : xV G p l e R s m args below meth c z0 y0 zf yf nL Q pc lv (.inl v :: .inl i :: .inr (.inr o) :: st) M := by
  obtain ⟨a, h1, h2⟩ := bd hg
  obtain ⟨rfl, h3, h4⟩ := g_a_some h1
  cases h2
  exact xv_ast_i E h3 h4 hdg kk
theorem xs_b (E : xE G p R s m args c cc own z0 y0 zf yf nL) {o : Option Nat} {i : Int32} {v : Int32} (hg : as_b M 21 o i v = some M1) (hdg : decode cc pc = .ok (.bastore, 1)) (kk : xV G p l e R s m args below meth c z0 y0 zf yf nL Q (pc + 1) lv st M1) : xV G p l e R s m args below meth c z0 y0 zf yf nL Q pc lv (.inl v :: .inl i :: .inr (.inr o) :: st) M := by
  obtain ⟨a, h1, h2⟩ := bd hg
  obtain ⟨rfl, h3, h4⟩ := g_a_some h1
  cases h2
  exact xv_ast_b E h3 h4 hdg kk
theorem xs_l (E : xE G p R s m args c cc own z0 y0 zf yf nL) {o : Option Nat} {i : Int32} {v : Int64} (hg : as_l M 23 o i v = some M1) (hdg : decode cc pc = .ok (.lastore, 1)) (kk : xV G p l e R s m args below meth c z0 y0 zf yf nL Q (pc + 1) lv st M1) : xV G p l e R s m args below meth c z0 y0 zf yf nL Q pc lv (.inr (.inl v) :: .inl i :: .inr (.inr o) :: st) M := by
  obtain ⟨a, h1, h2⟩ := bd hg
  obtain ⟨rfl, h3, h4⟩ := g_a_some h1
  cases h2
  exact xv_ast_l E h3 h4 hdg kk
theorem xs_z (E : xE G p R s m args c cc own z0 y0 zf yf nL) {o : Option Nat} {i v : Int32} (hg : as_z M 22 o i v = some M1) (hdg : decode cc pc = .ok (.bastore, 1)) (kk : xV G p l e R s m args below meth c z0 y0 zf yf nL Q (pc + 1) lv st M1) : xV G p l e R s m args below meth c z0 y0 zf yf nL Q pc lv (.inl v :: .inl i :: .inr (.inr o) :: st) M := by
  unfold as_z at hg
  split at hg
  · rename_i q
    obtain ⟨a, h1, h2⟩ := bd hg
    obtain ⟨rfl, h3, h4⟩ := g_a_some h1
    cases h2
    exact xv_ast_z E h3 q h4 hdg kk
  · cases hg
theorem xs_r (E : xE G p R s m args c cc own z0 y0 zf yf nL) (ci : Nat) {o : Option Nat} {i : Int32} {v : Option Nat} (hg : as_r M ci o i v = some M1) (hdg : decode cc pc = .ok (.aastore, 1)) (kk : xV G p l e R s m args below meth c z0 y0 zf yf nL Q (pc + 1) lv st M1) (htt : 30 + ci ∈ xTags ∧ ci < 13 ∧ xTA (30 + ci) = .object (xRR ci) := by decide) : xV G p l e R s m args below meth c z0 y0 zf yf nL Q pc lv (.inr (.inr v) :: .inl i :: .inr (.inr o) :: st) M := by
  obtain ⟨a, h1, h2⟩ := bd hg
  obtain ⟨b, h5, h6⟩ := bd h2
  obtain ⟨rfl, h3, h4⟩ := g_a_some h1
  obtain ⟨rfl, h7⟩ := g_o_some h5
  cases h6
  exact xv_ast_r E ci h3 h7 h4 hdg kk htt
theorem xn_o (E : xE G p R s m args c cc own z0 y0 zf yf nL) (ci : Nat) {idx n : Nat} (hg : n_o M ci n = some M1) (hnn : xNN ci = n) (hcl : Cond.classLink own idx (xRR ci) ∈ xTs) (hinst : Cond.instantiable (xRR ci) (xNN ci) ∈ xTs) (hini : Cond.initialized (xRR ci) ∈ xTs) (hdg : decode cc pc = .ok (.new idx, 3)) (k : xV G p l e R s m args below meth c z0 y0 zf yf nL Q (pc + 3) lv (.inr (.inr (some (h_sz M))) :: st) M1) (hc : ci < 13 := by decide) : xV G p l e R s m args below meth c z0 y0 zf yf nL Q pc lv st M := by
  subst hnn
  cases hg
  exact xv_new E ci hcl hinst hini hdg k hc
theorem xn_a (E : xE G p R s m args c cc own z0 y0 zf yf nL) (t : Nat) {n : Int32} {atype : ArrayType} (hg : n_a M t n = some M1) (harr : Cond.arrayClass (xTA t) ∈ xTs) (hdg : decode cc pc = .ok (.newarray atype, 2)) (k : xV G p l e R s m args below meth c z0 y0 zf yf nL Q (pc + 2) lv (.inr (.inr (some (h_sz M))) :: st) M1) (hh : t ∈ [20, 21, 22, 23] ∧ newarray.typeOf atype = xTA t := by decide) : xV G p l e R s m args below meth c z0 y0 zf yf nL Q pc lv (.inl n :: st) M := by
  unfold n_a at hg
  split at hg
  · rename_i q
    cases hg
    exact xv_newa E t harr hdg q.1 q.2 k hh
  · cases hg
theorem xn_q (E : xE G p R s m args c cc own z0 y0 zf yf nL) (ci : Nat) {n : Int32} {idx : Nat} (hg : n_a M (30 + ci) n = some M1) (hcl : Cond.classLink own idx (xRR ci) ∈ xTs) (hov : va_AO (xRR ci) s) (hdg : decode cc pc = .ok (.anewarray idx, 3)) (k : xV G p l e R s m args below meth c z0 y0 zf yf nL Q (pc + 3) lv (.inr (.inr (some (h_sz M))) :: st) M1) (hh : 30 + ci ∈ xTags ∧ xTA (30 + ci) = .object (xRR ci) := by decide) : xV G p l e R s m args below meth c z0 y0 zf yf nL Q pc lv (.inl n :: st) M := by
  unfold n_a at hg
  split at hg
  · rename_i q
    cases hg
    exact xv_newq E ci hcl hov hdg q.1 q.2 k hh
  · cases hg
theorem xn_m (E : xE G p R s m args c cc own z0 y0 zf yf nL) {n k : Int32} {idx : Nat} (hg : n_m M n k = some M1) (hcl : Cond.classLink own idx "[[I" ∈ xTs) (harr : Cond.arrayClass .int ∈ xTs) (hdg : decode cc pc = .ok (.multianewarray idx 2, 4)) (kk : xV G p l e R s m args below meth c z0 y0 zf yf nL Q (pc + 4) lv (.inr (.inr (some (h_sz M))) :: st) M1) : xV G p l e R s m args below meth c z0 y0 zf yf nL Q pc lv (.inl k :: .inl n :: st) M := by
  unfold n_m at hg
  split at hg
  · rename_i q
    cases hg
    exact xv_mna E hcl harr hdg q.1.1 q.1.2 q.2.1 q.2.2 kk
  · cases hg
theorem xn_c (E : xE G p R s m args c cc own z0 y0 zf yf nL) {idx : Nat} {o0 o : Option Nat} {sp dp n : Int32} (hg : n_c M o0 sp o dp n = some M1) (hlk : Cond.methodLink own idx arraycopyName ∈ xTs) (hnat : Cond.native arraycopyName ∈ xTs) (hsx : Cond.static arraycopyName ∈ xTs) (hini : Cond.initialized "java/lang/System" ∈ xTs) (hcat : (st.map a_cat).sum ≤ 8) (hR : 1 ≤ R.frames ∧ 8 + (nativeFrameWords "java/lang/System" "arraycopy" 5 + 11) ≤ R.locals) (hdg : decode cc pc = .ok (.invokestatic idx, 3)) (k : xV G p l e R s m args below meth c z0 y0 zf yf nL Q (pc + 3) lv st M1) : xV G p l e R s m args below meth c z0 y0 zf yf nL Q pc lv (.inl n :: .inl dp :: .inr (.inr o) :: .inl sp :: .inr (.inr o0) :: st) M := by
  cases o0 with
  | none => cases hg
  | some x =>
    cases o with
    | none => cases hg
    | some y =>
      unfold n_c at hg
      dsimp only at hg
      split at hg
      · rename_i q
        cases hg
        exact xv_copy E hlk hnat hsx hini q.1.1 q.1.2 q.2.1.1 q.2.1.2.1 q.2.1.2.2 q.2.2.1 q.2.2.2 hcat hR hdg k
      · cases hg
theorem xd_v (E : xE G p R s m args c cc own z0 y0 zf yf nL) {x y v : Int32} (hg : d_v x y = some v) (hdg : decode cc pc = .ok (.idiv, 1)) (k : xV G p l e R s m args below meth c z0 y0 zf yf nL Q (pc + 1) lv (.inl v :: st) M) : xV G p l e R s m args below meth c z0 y0 zf yf nL Q pc lv (.inl y :: .inl x :: st) M := by
  unfold d_v at hg
  split at hg
  · cases hg
  · cases hg
    exact xv_idiv E hdg (by assumption) k
theorem xd_m (E : xE G p R s m args c cc own z0 y0 zf yf nL) {x y v : Int32} (hg : d_m x y = some v) (hdg : decode cc pc = .ok (.irem, 1)) (k : xV G p l e R s m args below meth c z0 y0 zf yf nL Q (pc + 1) lv (.inl v :: st) M) : xV G p l e R s m args below meth c z0 y0 zf yf nL Q pc lv (.inl y :: .inl x :: st) M := by
  unfold d_m at hg
  split at hg
  · cases hg
  · cases hg
    exact xv_irem E hdg (by assumption) k
theorem xt_1 (E : xE G p R s m args c cc own z0 y0 zf yf nL) {i v : Int32} (hg : t_1 i = some v) (hdg : decode cc pc = .ok (.iaload, 1)) (k : xV G p l e R s m args below meth c z0 y0 zf yf nL Q (pc + 1) lv (.inl v :: st) M) : xV G p l e R s m args below meth c z0 y0 zf yf nL Q pc lv (.inl i :: .inr (.inr (some G.2.2.1)) :: st) M := by
  unfold t_1 at hg
  split at hg
  · rename_i q
    cases hg
    exact xv_tab (f := fun j => xC1.getD j 0) E E.2.2.2.2.2.1.2.2.2.2.2.1 (fun z => by rcases z with z | z; exact q.1 z; omega) hdg k
  · cases hg
theorem xt_2 (E : xE G p R s m args c cc own z0 y0 zf yf nL) {i v : Int32} (hg : t_2 i = some v) (hdg : decode cc pc = .ok (.iaload, 1)) (k : xV G p l e R s m args below meth c z0 y0 zf yf nL Q (pc + 1) lv (.inl v :: st) M) : xV G p l e R s m args below meth c z0 y0 zf yf nL Q pc lv (.inl i :: .inr (.inr (some G.2.2.2)) :: st) M := by
  unfold t_2 at hg
  split at hg
  · rename_i q
    cases hg
    exact xv_tab (f := fun j => xC2.getD j 0) E E.2.2.2.2.2.1.2.2.2.2.2.2.2 (fun z => by rcases z with z | z; exact q.1 z; omega) hdg k
  · cases hg
theorem xt_g1 (E : xE G p R s m args c cc own z0 y0 zf yf nL) (ho : own = "ZonedFabric$Frame") (hdg : decode cc pc = .ok (.getstatic 45, 3)) (k : xV G p l e R s m args below meth c z0 y0 zf yf nL Q (pc + 3) lv (.inr (.inr (some G.2.2.1)) :: st) M) : xV G p l e R s m args below meth c z0 y0 zf yf nL Q pc lv st M := by
  subst ho
  exact xv_gs E "CHECK_STEPS" G.2.2.1 wN5 E.2.2.2.2.2.1.2.2.2.2.1 rfl E.2.2.2.2.2.1.2.2.2.1.2.2.2.2.1 hdg k
theorem xt_g2 (E : xE G p R s m args c cc own z0 y0 zf yf nL) (ho : own = "ZonedFabric$Host") (hdg : decode cc pc = .ok (.getstatic 80, 3)) (k : xV G p l e R s m args below meth c z0 y0 zf yf nL Q (pc + 3) lv (.inr (.inr (some G.2.2.2)) :: st) M) : xV G p l e R s m args below meth c z0 y0 zf yf nL Q pc lv st M := by
  subst ho
  exact xv_gs E "PHASE_KINDS" G.2.2.2 wN6 E.2.2.2.2.2.1.2.2.2.2.2.2.1 rfl E.2.2.2.2.2.1.2.2.2.1.2.2.2.2.2 hdg k
theorem xi_null (E : xE G p R s m args c cc own z0 y0 zf yf nL) {o : Option Nat} {off : Int} (tgt : Nat) (hdg : decode cc pc = .ok (.ifnull off, 3)) (ht : (pc : Int) + off = (tgt : Int)) (kt : o = none → xV G p l e R s m args below meth c z0 y0 zf yf nL Q tgt lv st M) (kf : ¬ o = none → xV G p l e R s m args below meth c z0 y0 zf yf nL Q (pc + 3) lv st M) : xV G p l e R s m args below meth c z0 y0 zf yf nL Q pc lv (.inr (.inr o) :: st) M := by
  cases o with
  | none => exact xv_ifnull_n E tgt hdg ht (kt rfl)
  | some a => exact xv_ifnull_s E tgt hdg ht (kf (fun q => by cases q))
theorem xi_nonnull (E : xE G p R s m args c cc own z0 y0 zf yf nL) {o : Option Nat} {off : Int} (tgt : Nat) (hdg : decode cc pc = .ok (.ifnonnull off, 3)) (ht : (pc : Int) + off = (tgt : Int)) (kt : ¬ o = none → xV G p l e R s m args below meth c z0 y0 zf yf nL Q tgt lv st M) (kf : o = none → xV G p l e R s m args below meth c z0 y0 zf yf nL Q (pc + 3) lv st M) : xV G p l e R s m args below meth c z0 y0 zf yf nL Q pc lv (.inr (.inr o) :: st) M := by
  cases o with
  | none => exact xv_ifnonnull_n E tgt hdg ht (kf rfl)
  | some a => exact xv_ifnonnull_s E tgt hdg ht (kt (fun q => by cases q))
end XS
