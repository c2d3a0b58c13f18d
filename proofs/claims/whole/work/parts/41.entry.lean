/-! ===== the state at the law's entry ===== -/
def hM0 (z : Nat) : hM := (fun _ _ => 0, fun _ _ => 0, fun _ _ => none, fun _ _ => 0, fun _ _ => 0, fun _ _ => none, fun _ => 0, fun _ => 0, z, 0)
theorem xinst_at {ci : Nat} (h : ci < 13) : Cond.instantiable (xRR ci) (xNN ci) ∈ lw_tbl := by
  have h0 : ci = 0 ∨ ci = 1 ∨ ci = 2 ∨ ci = 3 ∨ ci = 4 ∨ ci = 5 ∨ ci = 6 ∨ ci = 7 ∨ ci = 8 ∨ ci = 9 ∨ ci = 10 ∨ ci = 11 ∨ ci = 12 := by omega
  rcases h0 with rfl | rfl | rfl | rfl | rfl | rfl | rfl | rfl | rfl | rfl | rfl | rfl | rfl
  · exact (tk5 (List.mem_of_getElem? (i := 56) (by decide +kernel) : Cond.instantiable "ZonedFabric$Command" 14 ∈ tables_1_5))
  · exact (tk2 (List.mem_of_getElem? (i := 88) (by decide +kernel) : Cond.instantiable "ZonedFabric$Disc" 7 ∈ tables_1_2))
  · exact (tk3 (List.mem_of_getElem? (i := 24) (by decide +kernel) : Cond.instantiable "ZonedFabric$Frame" 4 ∈ tables_1_3))
  · exact (tk1 (List.mem_of_getElem? (i := 107) (by decide +kernel) : Cond.instantiable "ZonedFabric$FrameLine" 3 ∈ tables_1_1))
  · exact (tk2 (List.mem_of_getElem? (i := 28) (by decide +kernel) : Cond.instantiable "ZonedFabric$Host" 6 ∈ tables_1_2))
  · exact (tk1 (List.mem_of_getElem? (i := 232) (by decide +kernel) : Cond.instantiable "ZonedFabric$Node" 6 ∈ tables_1_1))
  · exact (tk1 (List.mem_of_getElem? (i := 80) (by decide +kernel) : Cond.instantiable "ZonedFabric$Notice" 3 ∈ tables_1_1))
  · exact (tk2 (List.mem_of_getElem? (i := 95) (by decide +kernel) : Cond.instantiable "ZonedFabric$OpenWrite" 9 ∈ tables_1_2))
  · exact (tk1 (List.mem_of_getElem? (i := 101) (by decide +kernel) : Cond.instantiable "ZonedFabric$Port" 15 ∈ tables_1_1))
  · exact (tk1 (List.mem_of_getElem? (i := 29) (by decide +kernel) : Cond.instantiable "ZonedFabric$Shared" 8 ∈ tables_1_1))
  · exact (tk1 (List.mem_of_getElem? (i := 73) (by decide +kernel) : Cond.instantiable "ZonedFabric$Switch" 11 ∈ tables_1_1))
  · exact (tk1 (List.mem_of_getElem? (i := 17) (by decide +kernel) : Cond.instantiable "ZonedFabric" 8 ∈ tables_1_1))
  · exact (tk5 (List.mem_of_getElem? (i := 196) (by decide +kernel) : Cond.instantiable "ZonedFabricModel" 61 ∈ tables_1_5))
theorem wAO_Command : Cond.arrayOver (.object "ZonedFabric$Command") ∈ lw_tbl := (tk1 (List.mem_of_getElem? (i := 27) (by decide +kernel) : Cond.arrayOver (.object "ZonedFabric$Command") ∈ tables_1_1))
theorem wAO_Node : Cond.arrayOver (.object "ZonedFabric$Node") ∈ lw_tbl := (tk1 (List.mem_of_getElem? (i := 231) (by decide +kernel) : Cond.arrayOver (.object "ZonedFabric$Node") ∈ tables_1_1))
theorem wAO_Notice : Cond.arrayOver (.object "ZonedFabric$Notice") ∈ lw_tbl := (tk1 (List.mem_of_getElem? (i := 98) (by decide +kernel) : Cond.arrayOver (.object "ZonedFabric$Notice") ∈ tables_1_1))
theorem wAO_OpenWrite : Cond.arrayOver (.object "ZonedFabric$OpenWrite") ∈ lw_tbl := (tk2 (List.mem_of_getElem? (i := 94) (by decide +kernel) : Cond.arrayOver (.object "ZonedFabric$OpenWrite") ∈ tables_1_2))
theorem wAO_Port : Cond.arrayOver (.object "ZonedFabric$Port") ∈ lw_tbl := (tk1 (List.mem_of_getElem? (i := 25) (by decide +kernel) : Cond.arrayOver (.object "ZonedFabric$Port") ∈ tables_1_1))
theorem wAO_Switch : Cond.arrayOver (.object "ZonedFabric$Switch") ∈ lw_tbl := (tk1 (List.mem_of_getElem? (i := 72) (by decide +kernel) : Cond.arrayOver (.object "ZonedFabric$Switch") ∈ tables_1_1))
theorem wAO_I : Cond.arrayOver (.array .int) ∈ lw_tbl := (tk1 (List.mem_of_getElem? (i := 100) (by decide +kernel) : Cond.arrayOver (.array .int) ∈ tables_1_1))
theorem wAC_int : Cond.arrayClass .int ∈ lw_tbl := (tk1 (List.mem_of_getElem? (i := 70) (by decide +kernel) : Cond.arrayClass .int ∈ tables_1_1))
theorem wAC_byte : Cond.arrayClass .byte ∈ lw_tbl := (tk1 (List.mem_of_getElem? (i := 97) (by decide +kernel) : Cond.arrayClass .byte ∈ tables_1_1))
theorem wAC_boolean : Cond.arrayClass .boolean ∈ lw_tbl := (tk6 (List.mem_of_getElem? (i := 146) (by decide +kernel) : Cond.arrayClass .boolean ∈ tables_1_6))
theorem wAC_long : Cond.arrayClass .long ∈ lw_tbl := (tk2 (List.mem_of_getElem? (i := 134) (by decide +kernel) : Cond.arrayClass .long ∈ tables_1_2))
theorem wN1_in : wN1 ∈ lw_tbl := (tk1 (List.mem_of_getElem? (i := 81) (by decide +kernel) : wN1 ∈ tables_1_1))
theorem wN2_in : wN2 ∈ lw_tbl := (tk1 (List.mem_of_getElem? (i := 108) (by decide +kernel) : wN2 ∈ tables_1_1))
theorem wN3_in : wN3 ∈ lw_tbl := (tk2 (List.mem_of_getElem? (i := 96) (by decide +kernel) : wN3 ∈ tables_1_2))
theorem wN4_in : wN4 ∈ lw_tbl := (tk3 (List.mem_of_getElem? (i := 25) (by decide +kernel) : wN4 ∈ tables_1_3))
theorem wN5_in : wN5 ∈ lw_tbl := (tk3 (List.mem_of_getElem? (i := 205) (by decide +kernel) : wN5 ∈ tables_1_3))
theorem wN6_in : wN6 ∈ lw_tbl := (tk4 (List.mem_of_getElem? (i := 123) (by decide +kernel) : wN6 ∈ tables_1_4))
theorem wLS_CHECK_STEPS : Cond.laysStatic "ZonedFabric" "CHECK_STEPS" "[I" ∈ lw_tbl := (tk3 (List.mem_of_getElem? (i := 206) (by decide +kernel) : Cond.laysStatic "ZonedFabric" "CHECK_STEPS" "[I" ∈ tables_1_3))
theorem wLS_PHASE_KINDS : Cond.laysStatic "ZonedFabric" "PHASE_KINDS" "[I" ∈ lw_tbl := (tk4 (List.mem_of_getElem? (i := 124) (by decide +kernel) : Cond.laysStatic "ZonedFabric" "PHASE_KINDS" "[I" ∈ tables_1_4))
theorem wIn_ZF : Cond.initialized "ZonedFabric" ∈ lw_tbl := (tk1 (List.mem_of_getElem? (i := 1) (by decide +kernel) : Cond.initialized "ZonedFabric" ∈ tables_1_1))
theorem arr_of {s : State} {cA : ClassId} {kA : Class} {comp : ClassId} {ty : FieldType} (h2 : s.vm.classes[cA]? = some kA) (h3 : kA.kind = .array comp ty) : ArrOfT s cA ty := fun _ _ => ⟨fun _ h => (by cases h), kA, h2, comp, h3⟩
theorem ent_arr {s : State} {A : Array Value} (hts : ∀ w ∈ lw_tbl, w.before A s = true) : ∀ t, t ∈ xTags → ∃ cA : ClassId, ArrOfT s cA (xTA t) ∧ va_RA s cA (xTA t) := by
  have prim : ∀ ty : FieldType, (Cond.arrayClass ty).before A s = true → (∀ C, ty ≠ .object C) → ∃ cA : ClassId, ArrOfT s cA ty ∧ va_RA s cA ty := by
    intro ty h ho
    obtain ⟨c, k, comp, h1, h2, h3⟩ := Cond.arrayClass_spec h
    refine ⟨c, arr_of h2 h3, ?_⟩
    cases ty <;> first | exact h1 | exact absurd rfl (ho _)
  have objs : ∀ C : String, (Cond.arrayOver (.object C)).before A s = true → ∃ cA : ClassId, ArrOfT s cA (.object C) ∧ va_RA s cA (.object C) := by
    intro C h
    obtain ⟨comp, c, k, h1, h2, h3, h4, h5⟩ := Cond.arrayOver_spec h
    exact ⟨c, arr_of h3 h4, k, comp, h3, h4, h1, h5⟩
  intro t ht
  have h0 : t = 20 ∨ t = 21 ∨ t = 22 ∨ t = 23 ∨ t = 30 ∨ t = 35 ∨ t = 36 ∨ t = 37 ∨ t = 38 ∨ t = 40 ∨ t = 50 := by simpa [xTags] using ht
  rcases h0 with rfl | rfl | rfl | rfl | rfl | rfl | rfl | rfl | rfl | rfl | rfl
  · exact prim .int (hts _ wAC_int) (fun _ q => by cases q)
  · exact prim .byte (hts _ wAC_byte) (fun _ q => by cases q)
  · exact prim .boolean (hts _ wAC_boolean) (fun _ q => by cases q)
  · exact prim .long (hts _ wAC_long) (fun _ q => by cases q)
  · exact objs "ZonedFabric$Command" (hts _ wAO_Command)
  · exact objs "ZonedFabric$Node" (hts _ wAO_Node)
  · exact objs "ZonedFabric$Notice" (hts _ wAO_Notice)
  · exact objs "ZonedFabric$OpenWrite" (hts _ wAO_OpenWrite)
  · exact objs "ZonedFabric$Port" (hts _ wAO_Port)
  · exact objs "ZonedFabric$Switch" (hts _ wAO_Switch)
  · obtain ⟨comp, c, k, h1, h2, h3, h4, h5⟩ := arrayOverA_spec (hts _ wAO_I)
    exact ⟨c, arr_of h3 h4, h5⟩
theorem ent_tab {s : State} {b : Nat} (n : String) (L : List Int32) (hL : L.length < 100) (hini : (Cond.initialized "ZonedFabric").before #[Value.ref b] s = true) (hls : (Cond.laysStatic "ZonedFabric" n "[I").before #[Value.ref b] s = true) (harr : (Cond.arrayOf (.static "ZonedFabric" n "[I") .int).before #[Value.ref b] s = true) (hlen : (Cond.eq (.length (.static "ZonedFabric" n "[I")) (.int (Int32.ofNat L.length))).before #[Value.ref b] s = true)
    (hel : ∀ j, j < L.length → (Cond.eq (.elem (.static "ZonedFabric" n "[I") (.int (Int32.ofNat j))) (.int (L.getD j 0))).before #[Value.ref b] s = true) : ∃ t : Nat, va_Z "ZonedFabric" n "[I" (.ref t) (fun q => s.heap.size ≤ q) s s.heap ∧ va_T .int t L.length (fun j => .int (L.getD j 0)) (fun q => s.heap.size ≤ q) s s.heap := by
  obtain ⟨t, h1, h2⟩ := va_Tof (A := fun q => s.heap.size ≤ q) (N := L.length) (f := fun j => .int (L.getD j 0)) (Nat.lt_trans hL (by decide)) harr (va_eqt hlen) (fun j hj => va_eqt (hel j hj)) (fun a h q => by omega)
  exact ⟨t, va_Zref hls hini h1 (fun a h q => by omega), h2⟩
theorem ent_G {s : State} {b : Nat} (hts : ∀ w ∈ lw_tbl, w.before #[Value.ref b] s = true) (hgv : (Jvm.Cond.and given_1 narrow_1).before #[Value.ref b] s = true) : ∃ G : gX, G.2.1 = s.heap ∧ xK G s := by
  have hs := flat_of_before _ hgv
  have h13 : ∀ ci : Nat, ∃ x : ClassId × (Nat → Nat), ci < 13 → u_Kn s (xRR ci) (xTT ci) (xNN ci) x.1 x.2 := by
    intro ci
    by_cases hc : ci < 13
    · obtain ⟨cC, iS, h⟩ := u_known (n := xNN ci) hts (fun w hw => (List.mem_filter.mp (xin_at hc w hw)).1) (hts _ (xinst_at hc))
      exact ⟨(cC, iS), fun _ => h⟩
    · exact ⟨(0, fun _ => 0), fun h => absurd h hc⟩
  have hArr : ∀ t : Nat, ∃ cA : ClassId, t ∈ xTags → ArrOfT s cA (xTA t) ∧ va_RA s cA (xTA t) := by
    intro t
    by_cases ht : t ∈ xTags
    · obtain ⟨cA, h⟩ := ent_arr hts t ht
      exact ⟨cA, fun _ => h⟩
    · exact ⟨0, fun h => absurd h ht⟩
  obtain ⟨t1, z1, y1⟩ := ent_tab (s := s) (b := b) "CHECK_STEPS" xC1 (by decide) (hts _ wIn_ZF) (hts _ wLS_CHECK_STEPS) (hs _ (by decide +kernel)) (hs _ (by decide +kernel)) (fun j hj => hs _ (by
    have hj : j < 16 := hj
    have h0 : j = 0 ∨ j = 1 ∨ j = 2 ∨ j = 3 ∨ j = 4 ∨ j = 5 ∨ j = 6 ∨ j = 7 ∨ j = 8 ∨ j = 9 ∨ j = 10 ∨ j = 11 ∨ j = 12 ∨ j = 13 ∨ j = 14 ∨ j = 15 := by omega
    rcases h0 with rfl | rfl | rfl | rfl | rfl | rfl | rfl | rfl | rfl | rfl | rfl | rfl | rfl | rfl | rfl | rfl <;> decide +kernel))
  obtain ⟨t2, z2, y2⟩ := ent_tab (s := s) (b := b) "PHASE_KINDS" xC2 (by decide) (hts _ wIn_ZF) (hts _ wLS_PHASE_KINDS) (hs _ (by decide +kernel)) (hs _ (by decide +kernel)) (fun j hj => hs _ (by
    have hj : j < 4 := hj
    have h0 : j = 0 ∨ j = 1 ∨ j = 2 ∨ j = 3 := by omega
    rcases h0 with rfl | rfl | rfl | rfl <;> decide +kernel))
  refine ⟨(((fun ci => (Classical.choose (h13 ci)).1, fun ci => (Classical.choose (h13 ci)).2), fun t => Classical.choose (hArr t)), (s.heap, t1, t2)), rfl, ⟨?_, ?_⟩, ?_, ?_, ?_, ?_⟩
  · intro ci q hq
    have hc : ci < 13 := (List.getElem?_eq_some_iff.mp hq).1
    have e := Option.some.inj (hq.symm.trans (xcl_at hc))
    subst e
    exact Classical.choose_spec (h13 ci) hc
  · intro k q hq
    have hm := List.mem_of_getElem? hq
    obtain ⟨t, ht, rfl⟩ := List.mem_map.mp hm
    exact Classical.choose_spec (hArr t) ht
  · exact ⟨va_AO.of (hts _ wAO_Command), va_AO.of (hts _ wAO_Node), va_AO.of (hts _ wAO_Notice), va_AO.of (hts _ wAO_OpenWrite), va_AO.of (hts _ wAO_Port), va_AO.of (hts _ wAO_Switch)⟩
  · exact hts _ wAO_I
  · exact ⟨va_Nw.of rfl (hts _ wN1_in), va_Nw.of rfl (hts _ wN2_in), va_Nw.of rfl (hts _ wN3_in), va_Nw.of rfl (hts _ wN4_in), va_Nw.of rfl (hts _ wN5_in), va_Nw.of rfl (hts _ wN6_in)⟩
  · exact ⟨z1, y1, z2, y2⟩
/-- what is left: the law as a function over the typed heap ends with true, in its room -/
def LawPure : Prop := ∀ (z N : Nat) (xs : Nat → Int32), N ≤ 4099 → ∃ (r : Option aV) (M' : hM), fLaw xs N (hM0 z) = some (r, M') ∧ h_sz M' ≤ z + 600000 ∧ h_sl M' ≤ 7302250
theorem whole_open (hp : LawPure) {p : Program} {e : Env} {s : State} {m : MethodId} {below : List Frame} {meth : Method} {c : Code} (l : Launch) {b L : Nat} {xs : Nat → Int32} (hL : L ≤ 4099) (C0 : lw_At p s m meth c b L xs) : W p l e room_1 s m #[Value.ref b] below meth c s.heap [] 0 0 (lw_Z below #[Value.ref b] s) (entryFrame m ([Value.ref b] : List Value).toArray 4) := by
  obtain ⟨hx, hb, hr, hml, hown, hts, hX, hbl, hlk, hgv⟩ := C0
  obtain ⟨G, hG, hK⟩ := ent_G hts hgv
  obtain ⟨r, M', hf, hf1, hf2⟩ := hp s.heap.size L xs hL
  have hGs : G.2.1.size = s.heap.size := by rw [hG]
  have E : xE G p room_1 s m #[Value.ref b] c code "ZonedFabricLaw" s.heap.size 0 (s.heap.size + 600000) (0 + 7302250) 4 := ⟨hx, hb, hml, hown, fun w hw => hts w (List.mem_filter.mp hw).1, hK, by show 600000 = _; omega, by show 7302250 = _; omega⟩
  have h := law_runs (l := l) (e := e) (below := below) E ⟨hr, hlk⟩ (N := L) (xs := xs) (sb := b) (by rw [hG]; exact hX) (by rw [hGs]; exact hbl) hGs ⟨hf1, by omega⟩ hf
  have hW : xW G (hM0 s.heap.size) s.heap := ⟨rfl, by rw [hGs]; exact Nat.le_refl _, fun a _ => by rw [hG], fun a ha => absurd rfl ha⟩
  have hl0 := lv_entry (a_st [.inr (.inr (some b))]) (n := 4) (by rw [a_sl_len]; exact Nat.le_of_ble_eq_true rfl)
  rw [lg_entry_eq]
  have h2 := h.2 s.heap [] _ (Nat.le_refl _) (Nat.le_refl _) hW (fun _ q => absurd q List.not_mem_nil) hl0
  exact W.cs (by show 0 = s.heap.size - s.heap.size; omega) rfl h2
