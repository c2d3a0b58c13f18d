/-! ===== values of the abstract stack: ints, longs, references ===== -/
abbrev aV : Type := Int32 ⊕ Int64 ⊕ Option Nat
def a_v (x : aV) : Value := match x with
  | .inl i => .int i
  | .inr (.inl j) => .long j
  | .inr (.inr o) => va_rf o
def a_cat (x : aV) : Nat := match x with
  | .inr (.inl _) => 2
  | _ => 1
theorem a_cat_eq (x : aV) : (a_v x).category = a_cat x := by
  rcases x with i | j | o
  · rfl
  · rfl
  · cases o <;> rfl
abbrev aL : Type := List (Nat × aV)
def a_lv (lv : aL) : List (Nat × Value) := lv.map (fun q => (q.1, a_v q.2))
def a_st (st : List aV) : List Value := st.map a_v
def a_ld (lv : aL) (i : Nat) : Option aV := (lv.find? (fun q => q.1 == i)).map (·.2)
def a_s1 (lv : aL) (i : Nat) (v : aV) : aL := (i, v) :: lv.filter (fun q => !(q.1 == i) && !(q.1 + 1 == i && a_cat q.2 == 2))
def a_s2 (lv : aL) (i : Nat) (v : aV) : aL := (i, v) :: lv.filter (fun q => !(q.1 == i) && (!(q.1 == i + 1) && !(q.1 + 1 == i && a_cat q.2 == 2)))
theorem a_ld_at {lv : aL} {i : Nat} {v : aV} {ls : Array Slot} {nL : Nat} (h : lv_has ls nL (a_lv lv)) (hv : a_ld lv i = some v) : ls[i]? = some (.val (a_v v)) := by
  unfold a_ld at hv
  cases hf : lv.find? (fun q => q.1 == i) with
  | none => rw [hf] at hv; cases hv
  | some q =>
    rw [hf] at hv
    cases hv
    have h1 : q.1 = i := by simpa using List.find?_some hf
    have h2 : q ∈ lv := List.mem_of_find?_eq_some hf
    rw [← h1]
    exact h.2.2 (q.1, a_v q.2) (List.mem_map.mpr ⟨q, h2, rfl⟩)
theorem a_s1_eq (lv : aL) (i : Nat) (v : aV) : (i, a_v v) :: (a_lv lv).filter (fun q => !(q.1 == i) && !(q.1 + 1 == i && q.2.category == 2)) = a_lv (a_s1 lv i v) := by
  unfold a_lv a_s1
  rw [List.map_cons, List.filter_map]
  congr 2
  apply List.filter_congr
  intro q _
  simp only [Function.comp, a_cat_eq]
theorem a_s2_eq (lv : aL) (i : Nat) (v : aV) : (i, a_v v) :: (a_lv lv).filter (fun q => !(q.1 == i) && (!(q.1 == i + 1) && !(q.1 + 1 == i && q.2.category == 2))) = a_lv (a_s2 lv i v) := by
  unfold a_lv a_s2
  rw [List.map_cons, List.filter_map]
  congr 2
  apply List.filter_congr
  intro q _
  simp only [Function.comp, a_cat_eq]
/-! ===== instructions that touch neither heap nor calls: what they do ===== -/
def x_ldI (lv : aL) (i : Nat) (st : List aV) : Option (aL × List aV) := match a_ld lv i with
  | some (.inl x) => some (lv, .inl x :: st)
  | _ => none
def x_ldL (lv : aL) (i : Nat) (st : List aV) : Option (aL × List aV) := match a_ld lv i with
  | some (.inr (.inl x)) => some (lv, .inr (.inl x) :: st)
  | _ => none
def x_ldR (lv : aL) (i : Nat) (st : List aV) : Option (aL × List aV) := match a_ld lv i with
  | some (.inr (.inr x)) => some (lv, .inr (.inr x) :: st)
  | _ => none
def x_stI (nL : Nat) (lv : aL) (i : Nat) (st : List aV) : Option (aL × List aV) := match st with
  | .inl x :: r => if i < nL then some (a_s1 lv i (.inl x), r) else none
  | _ => none
def x_stL (nL : Nat) (lv : aL) (i : Nat) (st : List aV) : Option (aL × List aV) := match st with
  | .inr (.inl x) :: r => if i + 1 < nL then some (a_s2 lv i (.inr (.inl x)), r) else none
  | _ => none
def x_stR (nL : Nat) (lv : aL) (i : Nat) (st : List aV) : Option (aL × List aV) := match st with
  | .inr (.inr x) :: r => if i < nL then some (a_s1 lv i (.inr (.inr x)), r) else none
  | _ => none
def x_inc (nL : Nat) (lv : aL) (i : Nat) (n : Int) (st : List aV) : Option (aL × List aV) := match a_ld lv i with
  | some (.inl x) => if i < nL then some (a_s1 lv i (.inl (x + Int32.ofInt n)), st) else none
  | _ => none
def x_2i (f : Int32 → Int32 → Int32) (lv : aL) (st : List aV) : Option (aL × List aV) := match st with
  | .inl y :: .inl x :: r => some (lv, .inl (f x y) :: r)
  | _ => none
def x_2l (f : Int64 → Int64 → Int64) (lv : aL) (st : List aV) : Option (aL × List aV) := match st with
  | .inr (.inl y) :: .inr (.inl x) :: r => some (lv, .inr (.inl (f x y)) :: r)
  | _ => none
def x_li (f : Int64 → Int32 → Int64) (lv : aL) (st : List aV) : Option (aL × List aV) := match st with
  | .inl y :: .inr (.inl x) :: r => some (lv, .inr (.inl (f x y)) :: r)
  | _ => none
def x_1i (f : Int32 → Int32) (lv : aL) (st : List aV) : Option (aL × List aV) := match st with
  | .inl x :: r => some (lv, .inl (f x) :: r)
  | _ => none
/-- the instruction's outcome, if it is of this kind and the stack is as it wants -/
def x_p (nL : Nat) (ins : Instr) (lv : aL) (st : List aV) : Option (aL × List aV) := match ins with
  | .iconst n => some (lv, .inl (Int32.ofInt n) :: st)
  | .bipush n => some (lv, .inl (Int8.ofInt n).toInt32 :: st)
  | .sipush n => some (lv, .inl (Int16.ofInt n).toInt32 :: st)
  | .lconst n => some (lv, .inr (.inl (Int64.ofNat (n : Nat))) :: st)
  | .aconst_null => some (lv, .inr (.inr none) :: st)
  | .iload_n k => x_ldI lv k st
  | .iload i => x_ldI lv i st
  | .lload_n k => x_ldL lv k st
  | .lload i => x_ldL lv i st
  | .aload_n k => x_ldR lv k st
  | .aload i => x_ldR lv i st
  | .istore_n k => x_stI nL lv k st
  | .istore i => x_stI nL lv i st
  | .lstore_n k => x_stL nL lv k st
  | .lstore i => x_stL nL lv i st
  | .astore_n k => x_stR nL lv k st
  | .astore i => x_stR nL lv i st
  | .iinc i n => x_inc nL lv i n st
  | .iadd => x_2i (fun x y => x + y) lv st
  | .isub => x_2i (fun x y => x - y) lv st
  | .imul => x_2i (fun x y => x * y) lv st
  | .iand => x_2i (fun x y => x &&& y) lv st
  | .ior => x_2i (fun x y => x ||| y) lv st
  | .ixor => x_2i (fun x y => x ^^^ y) lv st
  | .ishl => x_2i (fun x y => x <<< (y &&& 31)) lv st
  | .ishr => x_2i (fun x y => x >>> (y &&& 31)) lv st
  | .iushr => x_2i (fun x y => (x.toUInt32 >>> (y.toUInt32 &&& Int32.toUInt32 31)).toInt32) lv st
  | .ineg => x_1i (fun x => -x) lv st
  | .i2b => x_1i (fun x => x.toInt8.toInt32) lv st
  | .ladd => x_2l (fun x y => x + y) lv st
  | .land => x_2l (fun x y => x &&& y) lv st
  | .lor => x_2l (fun x y => x ||| y) lv st
  | .lshl => x_li (fun x y => x <<< (y.toInt64 &&& 63)) lv st
  | .lshr => x_li (fun x y => x >>> (y.toInt64 &&& 63)) lv st
  | .lushr => x_li (fun x y => (x.toUInt64 >>> (y.toInt64.toUInt64 &&& Int64.toUInt64 63)).toInt64) lv st
  | .i2l => match st with
    | .inl x :: r => some (lv, .inr (.inl x.toInt64) :: r)
    | _ => none
  | .l2i => match st with
    | .inr (.inl x) :: r => some (lv, .inl x.toInt32 :: r)
    | _ => none
  | .dup => match st with
    | .inl x :: r => some (lv, .inl x :: .inl x :: r)
    | .inr (.inr x) :: r => some (lv, .inr (.inr x) :: .inr (.inr x) :: r)
    | _ => none
  | .pop => match st with
    | .inl _ :: r => some (lv, r)
    | .inr (.inr _) :: r => some (lv, r)
    | _ => none
  | .dup2 => match st with
    | .inl x :: .inr (.inr y) :: r => some (lv, .inl x :: .inr (.inr y) :: .inl x :: .inr (.inr y) :: r)
    | .inr (.inl x) :: r => some (lv, .inr (.inl x) :: .inr (.inl x) :: r)
    | _ => none
  | _ => none
/-- how long such an instruction is: one byte's place, or with its operand -/
def x_len (ins : Instr) : Nat := match ins with
  | .bipush _ => 2
  | .sipush _ => 3
  | .iload _ => 2
  | .lload _ => 2
  | .aload _ => 2
  | .istore _ => 2
  | .lstore _ => 2
  | .astore _ => 2
  | .iinc _ _ => 3
  | _ => 1
section XP
variable {p : Program} {l : Launch} {e : Env} {R : Room} {s : State} {m : MethodId} {args : Array Value} {below : List Frame} {meth : Method} {c : Code} {H : Heap} {locs : List Loc} {cells slots : Nat} {Q : State → Prop}
variable {cc : ByteArray} {pc nL : Nat} {ls : Array Slot}
theorem a_cat1 (x : Option Nat) : (va_rf x).category = 1 := by cases x <;> rfl
set_option maxHeartbeats 2000000 in
theorem x_p_ok (hx : p.tables.exec = Jvm.exec) (hb : c.code = cc) {ins : Instr} {lv lv' : aL} {st st' : List aV} (hp : x_p nL ins lv st = some (lv', st')) (hdg : decode cc pc = .ok (ins, x_len ins)) (hl : lv_has ls nL (a_lv lv))
    (kk : ∀ ls' : Array Slot, lv_has ls' nL (a_lv lv') → W p l e R s m args below meth c H locs cells slots Q (F0 m (pc + x_len ins) ls' (a_st st'))) : W p l e R s m args below meth c H locs cells slots Q (F0 m pc ls (a_st st)) := by
  have ldI : ∀ {i : Nat}, x_ldI lv i st = some (lv', st') → ∃ x, ls[i]? = some (.val (.int x)) ∧ lv' = lv ∧ st' = .inl x :: st := by
    intro i h
    unfold x_ldI at h
    split at h
    · rename_i x hx; cases h; exact ⟨x, a_ld_at hl hx, rfl, rfl⟩
    · cases h
  have ldL : ∀ {i : Nat}, x_ldL lv i st = some (lv', st') → ∃ x, ls[i]? = some (.val (.long x)) ∧ lv' = lv ∧ st' = .inr (.inl x) :: st := by
    intro i h
    unfold x_ldL at h
    split at h
    · rename_i x hx; cases h; exact ⟨x, a_ld_at hl hx, rfl, rfl⟩
    · cases h
  have ldR : ∀ {i : Nat}, x_ldR lv i st = some (lv', st') → ∃ x, ls[i]? = some (.val (va_rf x)) ∧ lv' = lv ∧ st' = .inr (.inr x) :: st := by
    intro i h
    unfold x_ldR at h
    split at h
    · rename_i x hx; cases h; exact ⟨x, a_ld_at hl hx, rfl, rfl⟩
    · cases h
  have stI : ∀ {i : Nat}, x_stI nL lv i st = some (lv', st') → ∃ x, st = .inl x :: st' ∧ i < nL ∧ lv' = a_s1 lv i (.inl x) := by
    intro i h
    unfold x_stI at h
    split at h
    · split at h
      · cases h; exact ⟨_, rfl, by assumption, rfl⟩
      · cases h
    · cases h
  have stL : ∀ {i : Nat}, x_stL nL lv i st = some (lv', st') → ∃ x, st = .inr (.inl x) :: st' ∧ i + 1 < nL ∧ lv' = a_s2 lv i (.inr (.inl x)) := by
    intro i h
    unfold x_stL at h
    split at h
    · split at h
      · cases h; exact ⟨_, rfl, by assumption, rfl⟩
      · cases h
    · cases h
  have stR : ∀ {i : Nat}, x_stR nL lv i st = some (lv', st') → ∃ x, st = .inr (.inr x) :: st' ∧ i < nL ∧ lv' = a_s1 lv i (.inr (.inr x)) := by
    intro i h
    unfold x_stR at h
    split at h
    · split at h
      · cases h; exact ⟨_, rfl, by assumption, rfl⟩
      · cases h
    · cases h
  have o2i : ∀ {f : Int32 → Int32 → Int32}, x_2i f lv st = some (lv', st') → ∃ x y r, st = .inl y :: .inl x :: r ∧ lv' = lv ∧ st' = .inl (f x y) :: r := by
    intro f h
    unfold x_2i at h
    split at h
    · cases h; exact ⟨_, _, _, rfl, rfl, rfl⟩
    · cases h
  have o2l : ∀ {f : Int64 → Int64 → Int64}, x_2l f lv st = some (lv', st') → ∃ x y r, st = .inr (.inl y) :: .inr (.inl x) :: r ∧ lv' = lv ∧ st' = .inr (.inl (f x y)) :: r := by
    intro f h
    unfold x_2l at h
    split at h
    · cases h; exact ⟨_, _, _, rfl, rfl, rfl⟩
    · cases h
  have oli : ∀ {f : Int64 → Int32 → Int64}, x_li f lv st = some (lv', st') → ∃ x y r, st = .inl y :: .inr (.inl x) :: r ∧ lv' = lv ∧ st' = .inr (.inl (f x y)) :: r := by
    intro f h
    unfold x_li at h
    split at h
    · cases h; exact ⟨_, _, _, rfl, rfl, rfl⟩
    · cases h
  have o1i : ∀ {f : Int32 → Int32}, x_1i f lv st = some (lv', st') → ∃ x r, st = .inl x :: r ∧ lv' = lv ∧ st' = .inl (f x) :: r := by
    intro f h
    unfold x_1i at h
    split at h
    · cases h; exact ⟨_, _, rfl, rfl, rfl⟩
    · cases h
  cases ins
  case iconst n => cases hp; exact lv_iconst hx hb hdg rfl (kk ls hl)
  case bipush n => cases hp; exact lv_bipush hx hb hdg rfl (kk ls hl)
  case sipush n => cases hp; exact lv_sipush hx hb hdg rfl (kk ls hl)
  case lconst n => cases hp; exact lv_lconst hx hb hdg rfl (kk ls hl)
  case aconst_null => cases hp; exact lv_null hx hb hdg (kk ls hl)
  case iload_n k => obtain ⟨x, h1, rfl, rfl⟩ := ldI hp; exact lv_iload_n hx hb hdg rfl h1 (kk ls hl)
  case iload k => obtain ⟨x, h1, rfl, rfl⟩ := ldI hp; exact lv_iload hx hb hdg h1 (kk ls hl)
  case lload_n k => obtain ⟨x, h1, rfl, rfl⟩ := ldL hp; exact lv_lload_n hx hb hdg rfl h1 (kk ls hl)
  case lload k => obtain ⟨x, h1, rfl, rfl⟩ := ldL hp; exact lv_lload hx hb hdg h1 (kk ls hl)
  case aload_n k =>
    obtain ⟨x, h1, rfl, rfl⟩ := ldR hp
    cases x with
    | none => exact lv_aload_nN hx hb hdg rfl h1 (kk ls hl)
    | some a => exact lv_aload_n hx hb hdg rfl h1 (kk ls hl)
  case aload k =>
    obtain ⟨x, h1, rfl, rfl⟩ := ldR hp
    cases x with
    | none => exact lv_aloadN hx hb hdg h1 (kk ls hl)
    | some a => exact lv_aload hx hb hdg h1 (kk ls hl)
  case istore_n k => obtain ⟨x, rfl, h1, rfl⟩ := stI hp; exact lv_istore_n hx hb hdg rfl hl h1 (a_s1_eq lv k (.inl x)) kk
  case istore k => obtain ⟨x, rfl, h1, rfl⟩ := stI hp; exact lv_istore hx hb hdg hl h1 (a_s1_eq lv k (.inl x)) kk
  case lstore_n k => obtain ⟨x, rfl, h1, rfl⟩ := stL hp; exact lv_lstore_n hx hb hdg rfl hl h1 (a_s2_eq lv k (.inr (.inl x))) kk
  case lstore k => obtain ⟨x, rfl, h1, rfl⟩ := stL hp; exact lv_lstore hx hb hdg hl h1 (a_s2_eq lv k (.inr (.inl x))) kk
  case astore_n k =>
    obtain ⟨x, rfl, h1, rfl⟩ := stR hp
    cases x with
    | none => exact lv_astore_nN hx hb hdg rfl hl h1 (a_s1_eq lv k (.inr (.inr none))) kk
    | some a => exact lv_astore_n hx hb hdg rfl hl h1 (a_s1_eq lv k (.inr (.inr (some a)))) kk
  case astore k =>
    obtain ⟨x, rfl, h1, rfl⟩ := stR hp
    cases x with
    | none => exact lv_astoreN hx hb hdg hl h1 (a_s1_eq lv k (.inr (.inr none))) kk
    | some a => exact lv_astore hx hb hdg hl h1 (a_s1_eq lv k (.inr (.inr (some a)))) kk
  case iinc i n =>
    have hp : x_inc nL lv i n st = some (lv', st') := hp
    unfold x_inc at hp
    split at hp
    · rename_i x hx2
      split at hp
      · rename_i hi
        cases hp
        have hm : (i, Value.int x) ∈ a_lv lv := by
          unfold a_ld at hx2
          cases hf : lv.find? (fun q => q.1 == i) with
          | none => rw [hf] at hx2; cases hx2
          | some q =>
            rw [hf] at hx2
            have h1 : q.1 = i := by simpa using List.find?_some hf
            have h2 : q.2 = .inl x := Option.some.inj hx2
            exact List.mem_map.mpr ⟨q, List.mem_of_find?_eq_some hf, by rw [h1, h2]; rfl⟩
        obtain ⟨k, hk⟩ := List.getElem?_of_mem hm
        exact lv_iinc hx hb hdg hl hk rfl hi (a_s1_eq lv i (.inl (x + Int32.ofInt n))) kk
      · cases hp
    · cases hp
  case iadd => obtain ⟨x, y, r, rfl, rfl, rfl⟩ := o2i hp; exact lv_iadd hx hb hdg (kk ls hl)
  case isub => obtain ⟨x, y, r, rfl, rfl, rfl⟩ := o2i hp; exact lv_isub hx hb hdg (kk ls hl)
  case imul => obtain ⟨x, y, r, rfl, rfl, rfl⟩ := o2i hp; exact lv_imul hx hb hdg (kk ls hl)
  case iand => obtain ⟨x, y, r, rfl, rfl, rfl⟩ := o2i hp; exact lv_iand hx hb hdg (kk ls hl)
  case ior => obtain ⟨x, y, r, rfl, rfl, rfl⟩ := o2i hp; exact lv_ior hx hb hdg (kk ls hl)
  case ixor => obtain ⟨x, y, r, rfl, rfl, rfl⟩ := o2i hp; exact lv_ixor hx hb hdg (kk ls hl)
  case ishl => obtain ⟨x, y, r, rfl, rfl, rfl⟩ := o2i hp; exact lv_ishl hx hb hdg (kk ls hl)
  case ishr => obtain ⟨x, y, r, rfl, rfl, rfl⟩ := o2i hp; exact lv_ishr hx hb hdg (kk ls hl)
  case iushr => obtain ⟨x, y, r, rfl, rfl, rfl⟩ := o2i hp; exact lv_iushr hx hb hdg rfl (kk ls hl)
  case ineg => obtain ⟨x, r, rfl, rfl, rfl⟩ := o1i hp; exact lv_ineg hx hb hdg (kk ls hl)
  case i2b => obtain ⟨x, r, rfl, rfl, rfl⟩ := o1i hp; exact lv_i2b hx hb hdg rfl (kk ls hl)
  case ladd => obtain ⟨x, y, r, rfl, rfl, rfl⟩ := o2l hp; exact lv_ladd hx hb hdg (kk ls hl)
  case land => obtain ⟨x, y, r, rfl, rfl, rfl⟩ := o2l hp; exact lv_land hx hb hdg (kk ls hl)
  case lor => obtain ⟨x, y, r, rfl, rfl, rfl⟩ := o2l hp; exact lv_lor hx hb hdg (kk ls hl)
  case lshl => obtain ⟨x, y, r, rfl, rfl, rfl⟩ := oli hp; exact lv_lshl hx hb hdg rfl (kk ls hl)
  case lshr => obtain ⟨x, y, r, rfl, rfl, rfl⟩ := oli hp; exact lv_lshr hx hb hdg rfl (kk ls hl)
  case lushr => obtain ⟨x, y, r, rfl, rfl, rfl⟩ := oli hp; exact lv_lushr hx hb hdg rfl (kk ls hl)
  case i2l =>
    rcases st with _ | ⟨x | x | x, r⟩
    · cases hp
    · cases hp; exact lv_i2l hx hb hdg rfl (kk ls hl)
    · cases hp
    · cases hp
  case l2i =>
    rcases st with _ | ⟨x | x | x, r⟩
    · cases hp
    · cases hp
    · cases hp; exact lv_l2i hx hb hdg rfl (kk ls hl)
    · cases hp
  case dup =>
    rcases st with _ | ⟨x | x | x, r⟩
    · cases hp
    · cases hp; exact lv_dup hx hb hdg rfl (kk ls hl)
    · cases hp
    · cases hp; exact lv_dup hx hb hdg (a_cat1 x) (kk ls hl)
  case pop =>
    rcases st with _ | ⟨x | x | x, r⟩
    · cases hp
    · cases hp; exact lv_pop hx hb hdg rfl (kk ls hl)
    · cases hp
    · cases hp; exact lv_pop hx hb hdg (a_cat1 x) (kk ls hl)
  case dup2 =>
    rcases st with _ | ⟨x | x | x, _ | ⟨y | y | y, r⟩⟩ <;> first | (cases hp; done) | (cases hp; exact lv_dup2_2 hx hb hdg rfl (kk ls hl)) | (cases hp; exact lv_dup2_11 hx hb hdg rfl (a_cat1 y) (kk ls hl))
  all_goals (cases hp)
end XP
