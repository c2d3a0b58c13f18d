/-! ===== what the rows of the methods use ===== -/
def xF : Nat := 1000000
def r_sz (res : xRes) : Nat := match res with
  | .inl q => h_sz q.2
  | .inr q => h_sz q.2.2
def r_sl (res : xRes) : Nat := match res with
  | .inl q => h_sl q.2
  | .inr q => h_sl q.2.2
def x_go (blk : Nat → List aV → hM → Option xRes) (x : Option xRes) : xO := match x with
  | none => none
  | some (.inl r) => some r
  | some (.inr q) => drive blk xF q.1 q.2.1 q.2.2
theorem x_go_ok {blk : Nat → List aV → hM → Option xRes} {x : Option xRes} {r : Option aV} {M' : hM} (h : x_go blk x = some (r, M')) : ∃ res, x = some res ∧ ∀ Pg : Nat → List aV → hM → Prop, (∀ h as M res, blk h as M = some res → xN Pg r M' res → Pg h as M) → xN Pg r M' res := by
  unfold x_go at h
  split at h
  · cases h
  · rename_i q
    exact ⟨_, rfl, fun Pg _ => Option.some.inj h⟩
  · rename_i q
    exact ⟨_, rfl, fun Pg hs => drive_ok hs _ _ _ _ h⟩
theorem x_go_le {blk : Nat → List aV → hM → Option xRes} {r : Option aV} {M' : hM} {res : xRes} (hle : ∀ h as M res, blk h as M = some res → h_sz M ≤ r_sz res ∧ h_sl M ≤ r_sl res) (h : ∀ Pg : Nat → List aV → hM → Prop, (∀ h as M res, blk h as M = some res → xN Pg r M' res → Pg h as M) → xN Pg r M' res) : r_sz res ≤ h_sz M' ∧ r_sl res ≤ h_sl M' := by
  have := h (fun _ _ M => h_sz M ≤ h_sz M' ∧ h_sl M ≤ h_sl M') (fun h as M res hb hN => by
    have e := hle h as M res hb
    cases res with
    | inl q =>
      have hN : q = (r, M') := hN
      subst hN
      exact e
    | inr q =>
      have hN : h_sz q.2.2 ≤ h_sz M' ∧ h_sl q.2.2 ≤ h_sl M' := hN
      have e : h_sz M ≤ h_sz q.2.2 ∧ h_sl M ≤ h_sl q.2.2 := e
      omega)
  cases res with
  | inl q =>
    have h1 : q = (r, M') := this
    subst h1
    exact ⟨Nat.le_refl _, Nat.le_refl _⟩
  | inr q => exact this
theorem sw_out {x : Int32} {lo hi : Int} (h0 : -2147483648 ≤ lo) (h1 : hi < 2147483648) (h : ∀ k : Int, lo ≤ k → k ≤ hi → ¬ x = Int32.ofInt k) : x.toInt < lo ∨ hi < x.toInt := by
  by_cases q1 : x.toInt < lo
  · exact Or.inl q1
  · by_cases q2 : hi < x.toInt
    · exact Or.inr q2
    · exact absurd (Int32.ofInt_toInt x).symm (h x.toInt (by omega) (by omega))

theorem p_i_sz {ci k : Nat} {o : Option Nat} {v : Int32} {M M1 : hM} (h : p_i M ci k o v = some M1) : h_sz M1 = h_sz M ∧ h_sl M1 = h_sl M := by
  obtain ⟨a, _, h2⟩ := bd h
  cases h2
  exact ⟨rfl, rfl⟩
theorem p_l_sz {ci k : Nat} {o : Option Nat} {v : Int64} {M M1 : hM} (h : p_l M ci k o v = some M1) : h_sz M1 = h_sz M ∧ h_sl M1 = h_sl M := by
  obtain ⟨a, _, h2⟩ := bd h
  cases h2
  exact ⟨rfl, rfl⟩
theorem p_r_sz {ci k : Nat} {o : Option Nat} {v : Option Nat} {M M1 : hM} (h : p_r M ci k o v = some M1) : h_sz M1 = h_sz M ∧ h_sl M1 = h_sl M := by
  obtain ⟨a, _, h2⟩ := bd h
  cases h2
  exact ⟨rfl, rfl⟩
theorem p_z_sz {ci k : Nat} {o : Option Nat} {v : Int32} {M M1 : hM} (h : p_z M ci k o v = some M1) : h_sz M1 = h_sz M ∧ h_sl M1 = h_sl M := by
  unfold p_z at h
  split at h
  · obtain ⟨a, _, h2⟩ := bd h
    cases h2
    exact ⟨rfl, rfl⟩
  · cases h
theorem as_i_sz {t : Nat} {o : Option Nat} {i v : Int32} {M M1 : hM} (h : as_i M t o i v = some M1) : h_sz M1 = h_sz M ∧ h_sl M1 = h_sl M := by
  obtain ⟨a, _, h2⟩ := bd h
  cases h2
  exact ⟨rfl, rfl⟩
theorem as_b_sz {t : Nat} {o : Option Nat} {i v : Int32} {M M1 : hM} (h : as_b M t o i v = some M1) : h_sz M1 = h_sz M ∧ h_sl M1 = h_sl M := by
  obtain ⟨a, _, h2⟩ := bd h
  cases h2
  exact ⟨rfl, rfl⟩
theorem as_z_sz {t : Nat} {o : Option Nat} {i v : Int32} {M M1 : hM} (h : as_z M t o i v = some M1) : h_sz M1 = h_sz M ∧ h_sl M1 = h_sl M := by
  unfold as_z at h
  split at h
  · obtain ⟨a, _, h2⟩ := bd h
    cases h2
    exact ⟨rfl, rfl⟩
  · cases h
theorem as_l_sz {t : Nat} {o : Option Nat} {i : Int32} {v : Int64} {M M1 : hM} (h : as_l M t o i v = some M1) : h_sz M1 = h_sz M ∧ h_sl M1 = h_sl M := by
  obtain ⟨a, _, h2⟩ := bd h
  cases h2
  exact ⟨rfl, rfl⟩
theorem as_r_sz {ci : Nat} {o : Option Nat} {i : Int32} {v : Option Nat} {M M1 : hM} (h : as_r M ci o i v = some M1) : h_sz M1 = h_sz M ∧ h_sl M1 = h_sl M := by
  obtain ⟨a, _, h2⟩ := bd h
  obtain ⟨b, _, h3⟩ := bd h2
  cases h3
  exact ⟨rfl, rfl⟩
theorem n_o_sz {ci n : Nat} {M M1 : hM} (h : n_o M ci n = some M1) : h_sz M1 = h_sz M + 1 ∧ h_sl M1 = h_sl M + n := by
  cases h
  exact ⟨rfl, rfl⟩
theorem n_a_sz {t : Nat} {n : Int32} {M M1 : hM} (h : n_a M t n = some M1) : h_sz M1 = h_sz M + 1 ∧ h_sl M ≤ h_sl M1 := by
  unfold n_a at h
  split at h
  · cases h
    exact ⟨rfl, Nat.le_add_right _ _⟩
  · cases h
theorem n_m_sz {n k : Int32} {M M1 : hM} (h : n_m M n k = some M1) : h_sz M ≤ h_sz M1 ∧ h_sl M ≤ h_sl M1 := by
  unfold n_m at h
  split at h
  · cases h
    exact ⟨by show h_sz M ≤ h_sz M + 1 + _; omega, by show h_sl M ≤ h_sl M + _ + _; omega⟩
  · cases h
theorem n_c_sz {o0 o : Option Nat} {sp dp n : Int32} {M M1 : hM} (h : n_c M o0 sp o dp n = some M1) : h_sz M1 = h_sz M ∧ h_sl M1 = h_sl M := by
  cases o0 with
  | none => cases h
  | some x =>
    cases o with
    | none => cases h
    | some y =>
      unfold n_c at h
      dsimp only at h
      split at h
      · cases h
        exact ⟨rfl, rfl⟩
      · cases h
theorem tk1 {w : Cond} (h : w ∈ tables_1_1) : w ∈ lw_tbl := List.mem_append_right _ (List.mem_append_left _ h)
theorem tk2 {w : Cond} (h : w ∈ tables_1_2) : w ∈ lw_tbl := List.mem_append_right _ (List.mem_append_right _ (List.mem_append_left _ h))
theorem tk3 {w : Cond} (h : w ∈ tables_1_3) : w ∈ lw_tbl := List.mem_append_right _ (List.mem_append_right _ (List.mem_append_right _ (List.mem_append_left _ h)))
theorem tk4 {w : Cond} (h : w ∈ tables_1_4) : w ∈ lw_tbl := List.mem_append_right _ (List.mem_append_right _ (List.mem_append_right _ (List.mem_append_right _ (List.mem_append_left _ h))))
theorem tk5 {w : Cond} (h : w ∈ tables_1_5) : w ∈ lw_tbl := List.mem_append_right _ (List.mem_append_right _ (List.mem_append_right _ (List.mem_append_right _ (List.mem_append_right _ (List.mem_append_left _ h)))))
theorem tk6 {w : Cond} (h : w ∈ tables_1_6) : w ∈ lw_tbl := List.mem_append_right _ (List.mem_append_right _ (List.mem_append_right _ (List.mem_append_right _ (List.mem_append_right _ (List.mem_append_right _ (List.mem_append_left _ h))))))
theorem tk7 {w : Cond} (h : w ∈ tables_1_7) : w ∈ lw_tbl := List.mem_append_right _ (List.mem_append_right _ (List.mem_append_right _ (List.mem_append_right _ (List.mem_append_right _ (List.mem_append_right _ (List.mem_append_right _ (List.mem_append_left _ h)))))))
theorem tk8 {w : Cond} (h : w ∈ tables_1_8) : w ∈ lw_tbl := List.mem_append_right _ (List.mem_append_right _ (List.mem_append_right _ (List.mem_append_right _ (List.mem_append_right _ (List.mem_append_right _ (List.mem_append_right _ (List.mem_append_right _ (h))))))))
section XO
variable {p : Program} {l : Launch} {e : Env} {R : Room} {s : State} {m : MethodId} {args : Array Value} {below : List Frame} {meth : Method} {c : Code} {Q : State → Prop} {G : gX} {cc : ByteArray} {own : String} {z0 y0 zf yf nL : Nat} {pc : Nat} {lv lv' : aL} {st st' : List aV} {M M' M1 : hM}
theorem xv_cvo (E : xE G p R s m args c cc own z0 y0 zf yf nL) {y : MethodName} {cb : ByteArray} {mL n d idx b : Nat} {o : Option Nat} (ho : o = some b) {ret : Option FieldType} {as : List aV} {r : Option aV} {st0 : List aV} (ci : Nat) (hM : xM G l y cb mL ret d (.inr (.inr (some b)) :: as) M r M1) (hcd : xCd y cb mL ret n) (hlk : Cond.methodLink own idx y ∈ xTs) (hin : Cond.instanceMethod y ∈ xTs) (hsel : Cond.selects y.cls y y ∈ xTs) (hdg : decode cc pc = .ok (.invokevirtual idx, 3)) (ht : h_tg M b = ci + 1)
    (hst : st0 = as.reverse ++ .inr (.inr o) :: st) (hn : as.length = n) (hcat : (st.map a_cat).sum ≤ 8) (hR : d + 1 ≤ R.frames ∧ 8 + (mL + 11) + (40 * d + 12) ≤ R.locals) (k : xV G p l e R s m args below meth c z0 y0 zf yf nL Q (pc + 3) lv (r.toList ++ st) M1) (hc : ci < 13 ∧ y.cls = xRR ci := by decide) : xV G p l e R s m args below meth c z0 y0 zf yf nL Q pc lv st0 M := by
  subst ho
  exact xv_cv E ci hM hcd hlk hin hsel hdg ht hst hn hcat hR k hc
theorem xv_cio (E : xE G p R s m args c cc own z0 y0 zf yf nL) {y : MethodName} {cb : ByteArray} {mL n d idx b : Nat} {o : Option Nat} (ho : o = some b) {as : List aV} {st0 : List aV} (hM : xM G l y cb mL none d (.inr (.inr (some b)) :: as) M none M1) (hcd : xCd y cb mL none n) (hlk : Cond.methodLink own idx y ∈ xTs ∨ ∃ host, va_Nw (.methodLinkNest own idx y host) s) (hin : Cond.instanceMethod y ∈ xTs) (hy1 : y.name = "<init>") (hdg : decode cc pc = .ok (.invokespecial idx, 3))
    (hst : st0 = as.reverse ++ .inr (.inr o) :: st) (hn : as.length = n) (hcat : (st.map a_cat).sum ≤ 8) (hR : d + 1 ≤ R.frames ∧ 8 + (mL + 11) + (40 * d + 12) ≤ R.locals) (k : xV G p l e R s m args below meth c z0 y0 zf yf nL Q (pc + 3) lv st M1) : xV G p l e R s m args below meth c z0 y0 zf yf nL Q pc lv st0 M := by
  subst ho
  exact xv_ci E hM hcd hlk hin hy1 hdg hst hn hcat hR k
theorem xv_min (E : xE G p R s m args c cc own z0 y0 zf yf nL) {idx : Nat} {x y : Int32} (hlk : Cond.methodLink own idx Lib.Math.min.name ∈ xTs) (hsx : Cond.static Lib.Math.min.name ∈ xTs) (hini : Cond.initialized "java/lang/Math" ∈ xTs) (hcode : Cond.code Lib.Math.min.name Lib.Math.min.code 2 (some .int) ∈ xTs) (hdg : decode cc pc = .ok (.invokestatic idx, 3)) (hcat : (st.map a_cat).sum ≤ 8) (hR : 1 ≤ R.frames ∧ 21 ≤ R.locals) (k : xV G p l e R s m args below meth c z0 y0 zf yf nL Q (pc + 3) lv (.inl (if y < x then y else x) :: st) M) : xV G p l e R s m args below meth c z0 y0 zf yf nL Q pc lv (.inl y :: .inl x :: st) M := by
  refine ⟨k.1, fun H locs ls h1 h2 h3 h4 h5 => ?_⟩
  have k1 := k.1
  obtain ⟨hx, hb, hml, hown, hts, hK, hR1, hR2⟩ := E
  exact va_mmin hx hb (by rw [hml]; exact h5.1.symm) hown (hts _ hlk) (hts _ hsx) (hts _ hini) (hts _ hcode) hR.1 (by have hq := a_cat_sum st; unfold a_st at hq; omega) (by omega) (by omega) hdg (k.2 H locs ls h1 h2 h3 h4 h5)
end XO

theorem mwObj : Cond.code objectInit ⟨#[0xb1]⟩ 1 none ∈ xTs := xTs_in (tk1 (List.mem_of_getElem? (i := 23) (by decide +kernel))) rfl
theorem mwMin : Cond.code Lib.Math.min.name Lib.Math.min.code 2 (some .int) ∈ xTs := xTs_in (tk3 (List.mem_of_getElem? (i := 96) (by decide +kernel))) rfl
