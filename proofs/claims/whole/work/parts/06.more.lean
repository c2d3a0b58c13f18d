section XB
variable {p : Program} {l : Launch} {e : Env} {R : Room} {s : State} {m : MethodId} {args : Array Value} {below : List Frame} {meth : Method} {c : Code} {Q : State → Prop} {G : gX} {cc : ByteArray} {own : String} {z0 y0 zf yf nL : Nat} {pc : Nat} {lv lv' : aL} {st st' : List aV} {M M' : hM}
/-! ===== branches ===== -/
theorem xv_if_eq (E : xE G p R s m args c cc own z0 y0 zf yf nL) {x : Int32} {off : Int} (tgt : Nat) (hdg : decode cc pc = .ok (.ifCond .eq off, 3)) (ht : (pc : Int) + off = (tgt : Int)) (kt : x = 0 → xV G p l e R s m args below meth c z0 y0 zf yf nL Q tgt lv st M) (kf : ¬ x = 0 → xV G p l e R s m args below meth c z0 y0 zf yf nL Q (pc + 3) lv st M) : xV G p l e R s m args below meth c z0 y0 zf yf nL Q pc lv (.inl x :: st) M := by
  refine ⟨?_, fun H locs ls h1 h2 h3 h4 h5 => lv_if_eq E.1 E.2.1 hdg ht (fun q => (kt q).2 H locs ls h1 h2 h3 h4 h5) (fun q => (kf q).2 H locs ls h1 h2 h3 h4 h5)⟩
  by_cases q : x = 0
  · exact (kt q).1
  · exact (kf q).1
theorem xv_icmp_eq (E : xE G p R s m args c cc own z0 y0 zf yf nL) {x y : Int32} {off : Int} (tgt : Nat) (hdg : decode cc pc = .ok (.if_icmp .eq off, 3)) (ht : (pc : Int) + off = (tgt : Int)) (kt : x = y → xV G p l e R s m args below meth c z0 y0 zf yf nL Q tgt lv st M) (kf : ¬ x = y → xV G p l e R s m args below meth c z0 y0 zf yf nL Q (pc + 3) lv st M) : xV G p l e R s m args below meth c z0 y0 zf yf nL Q pc lv (.inl y :: .inl x :: st) M := by
  refine ⟨?_, fun H locs ls h1 h2 h3 h4 h5 => lv_icmp_eq E.1 E.2.1 hdg ht (fun q => (kt q).2 H locs ls h1 h2 h3 h4 h5) (fun q => (kf q).2 H locs ls h1 h2 h3 h4 h5)⟩
  by_cases q : x = y
  · exact (kt q).1
  · exact (kf q).1
theorem xv_if_ne (E : xE G p R s m args c cc own z0 y0 zf yf nL) {x : Int32} {off : Int} (tgt : Nat) (hdg : decode cc pc = .ok (.ifCond .ne off, 3)) (ht : (pc : Int) + off = (tgt : Int)) (kt : ¬ x = 0 → xV G p l e R s m args below meth c z0 y0 zf yf nL Q tgt lv st M) (kf : x = 0 → xV G p l e R s m args below meth c z0 y0 zf yf nL Q (pc + 3) lv st M) : xV G p l e R s m args below meth c z0 y0 zf yf nL Q pc lv (.inl x :: st) M := by
  refine ⟨?_, fun H locs ls h1 h2 h3 h4 h5 => lv_if_ne E.1 E.2.1 hdg ht (fun q => (kt q).2 H locs ls h1 h2 h3 h4 h5) (fun q => (kf q).2 H locs ls h1 h2 h3 h4 h5)⟩
  by_cases q : x = 0
  · exact (kf q).1
  · exact (kt q).1
theorem xv_icmp_ne (E : xE G p R s m args c cc own z0 y0 zf yf nL) {x y : Int32} {off : Int} (tgt : Nat) (hdg : decode cc pc = .ok (.if_icmp .ne off, 3)) (ht : (pc : Int) + off = (tgt : Int)) (kt : ¬ x = y → xV G p l e R s m args below meth c z0 y0 zf yf nL Q tgt lv st M) (kf : x = y → xV G p l e R s m args below meth c z0 y0 zf yf nL Q (pc + 3) lv st M) : xV G p l e R s m args below meth c z0 y0 zf yf nL Q pc lv (.inl y :: .inl x :: st) M := by
  refine ⟨?_, fun H locs ls h1 h2 h3 h4 h5 => lv_icmp_ne E.1 E.2.1 hdg ht (fun q => (kt q).2 H locs ls h1 h2 h3 h4 h5) (fun q => (kf q).2 H locs ls h1 h2 h3 h4 h5)⟩
  by_cases q : x = y
  · exact (kf q).1
  · exact (kt q).1
theorem xv_if_lt (E : xE G p R s m args c cc own z0 y0 zf yf nL) {x : Int32} {off : Int} (tgt : Nat) (hdg : decode cc pc = .ok (.ifCond .lt off, 3)) (ht : (pc : Int) + off = (tgt : Int)) (kt : x < 0 → xV G p l e R s m args below meth c z0 y0 zf yf nL Q tgt lv st M) (kf : ¬ x < 0 → xV G p l e R s m args below meth c z0 y0 zf yf nL Q (pc + 3) lv st M) : xV G p l e R s m args below meth c z0 y0 zf yf nL Q pc lv (.inl x :: st) M := by
  refine ⟨?_, fun H locs ls h1 h2 h3 h4 h5 => lv_if_lt E.1 E.2.1 hdg ht (fun q => (kt q).2 H locs ls h1 h2 h3 h4 h5) (fun q => (kf q).2 H locs ls h1 h2 h3 h4 h5)⟩
  by_cases q : x < 0
  · exact (kt q).1
  · exact (kf q).1
theorem xv_icmp_lt (E : xE G p R s m args c cc own z0 y0 zf yf nL) {x y : Int32} {off : Int} (tgt : Nat) (hdg : decode cc pc = .ok (.if_icmp .lt off, 3)) (ht : (pc : Int) + off = (tgt : Int)) (kt : x < y → xV G p l e R s m args below meth c z0 y0 zf yf nL Q tgt lv st M) (kf : ¬ x < y → xV G p l e R s m args below meth c z0 y0 zf yf nL Q (pc + 3) lv st M) : xV G p l e R s m args below meth c z0 y0 zf yf nL Q pc lv (.inl y :: .inl x :: st) M := by
  refine ⟨?_, fun H locs ls h1 h2 h3 h4 h5 => lv_icmp_lt E.1 E.2.1 hdg ht (fun q => (kt q).2 H locs ls h1 h2 h3 h4 h5) (fun q => (kf q).2 H locs ls h1 h2 h3 h4 h5)⟩
  by_cases q : x < y
  · exact (kt q).1
  · exact (kf q).1
theorem xv_if_ge (E : xE G p R s m args c cc own z0 y0 zf yf nL) {x : Int32} {off : Int} (tgt : Nat) (hdg : decode cc pc = .ok (.ifCond .ge off, 3)) (ht : (pc : Int) + off = (tgt : Int)) (kt : 0 ≤ x → xV G p l e R s m args below meth c z0 y0 zf yf nL Q tgt lv st M) (kf : ¬ 0 ≤ x → xV G p l e R s m args below meth c z0 y0 zf yf nL Q (pc + 3) lv st M) : xV G p l e R s m args below meth c z0 y0 zf yf nL Q pc lv (.inl x :: st) M := by
  refine ⟨?_, fun H locs ls h1 h2 h3 h4 h5 => lv_if_ge E.1 E.2.1 hdg ht (fun q => (kt q).2 H locs ls h1 h2 h3 h4 h5) (fun q => (kf q).2 H locs ls h1 h2 h3 h4 h5)⟩
  by_cases q : 0 ≤ x
  · exact (kt q).1
  · exact (kf q).1
theorem xv_icmp_ge (E : xE G p R s m args c cc own z0 y0 zf yf nL) {x y : Int32} {off : Int} (tgt : Nat) (hdg : decode cc pc = .ok (.if_icmp .ge off, 3)) (ht : (pc : Int) + off = (tgt : Int)) (kt : y ≤ x → xV G p l e R s m args below meth c z0 y0 zf yf nL Q tgt lv st M) (kf : ¬ y ≤ x → xV G p l e R s m args below meth c z0 y0 zf yf nL Q (pc + 3) lv st M) : xV G p l e R s m args below meth c z0 y0 zf yf nL Q pc lv (.inl y :: .inl x :: st) M := by
  refine ⟨?_, fun H locs ls h1 h2 h3 h4 h5 => lv_icmp_ge E.1 E.2.1 hdg ht (fun q => (kt q).2 H locs ls h1 h2 h3 h4 h5) (fun q => (kf q).2 H locs ls h1 h2 h3 h4 h5)⟩
  by_cases q : y ≤ x
  · exact (kt q).1
  · exact (kf q).1
theorem xv_if_gt (E : xE G p R s m args c cc own z0 y0 zf yf nL) {x : Int32} {off : Int} (tgt : Nat) (hdg : decode cc pc = .ok (.ifCond .gt off, 3)) (ht : (pc : Int) + off = (tgt : Int)) (kt : 0 < x → xV G p l e R s m args below meth c z0 y0 zf yf nL Q tgt lv st M) (kf : ¬ 0 < x → xV G p l e R s m args below meth c z0 y0 zf yf nL Q (pc + 3) lv st M) : xV G p l e R s m args below meth c z0 y0 zf yf nL Q pc lv (.inl x :: st) M := by
  refine ⟨?_, fun H locs ls h1 h2 h3 h4 h5 => lv_if_gt E.1 E.2.1 hdg ht (fun q => (kt q).2 H locs ls h1 h2 h3 h4 h5) (fun q => (kf q).2 H locs ls h1 h2 h3 h4 h5)⟩
  by_cases q : 0 < x
  · exact (kt q).1
  · exact (kf q).1
theorem xv_icmp_gt (E : xE G p R s m args c cc own z0 y0 zf yf nL) {x y : Int32} {off : Int} (tgt : Nat) (hdg : decode cc pc = .ok (.if_icmp .gt off, 3)) (ht : (pc : Int) + off = (tgt : Int)) (kt : y < x → xV G p l e R s m args below meth c z0 y0 zf yf nL Q tgt lv st M) (kf : ¬ y < x → xV G p l e R s m args below meth c z0 y0 zf yf nL Q (pc + 3) lv st M) : xV G p l e R s m args below meth c z0 y0 zf yf nL Q pc lv (.inl y :: .inl x :: st) M := by
  refine ⟨?_, fun H locs ls h1 h2 h3 h4 h5 => lv_icmp_gt E.1 E.2.1 hdg ht (fun q => (kt q).2 H locs ls h1 h2 h3 h4 h5) (fun q => (kf q).2 H locs ls h1 h2 h3 h4 h5)⟩
  by_cases q : y < x
  · exact (kt q).1
  · exact (kf q).1
theorem xv_if_le (E : xE G p R s m args c cc own z0 y0 zf yf nL) {x : Int32} {off : Int} (tgt : Nat) (hdg : decode cc pc = .ok (.ifCond .le off, 3)) (ht : (pc : Int) + off = (tgt : Int)) (kt : x ≤ 0 → xV G p l e R s m args below meth c z0 y0 zf yf nL Q tgt lv st M) (kf : ¬ x ≤ 0 → xV G p l e R s m args below meth c z0 y0 zf yf nL Q (pc + 3) lv st M) : xV G p l e R s m args below meth c z0 y0 zf yf nL Q pc lv (.inl x :: st) M := by
  refine ⟨?_, fun H locs ls h1 h2 h3 h4 h5 => lv_if_le E.1 E.2.1 hdg ht (fun q => (kt q).2 H locs ls h1 h2 h3 h4 h5) (fun q => (kf q).2 H locs ls h1 h2 h3 h4 h5)⟩
  by_cases q : x ≤ 0
  · exact (kt q).1
  · exact (kf q).1
theorem xv_icmp_le (E : xE G p R s m args c cc own z0 y0 zf yf nL) {x y : Int32} {off : Int} (tgt : Nat) (hdg : decode cc pc = .ok (.if_icmp .le off, 3)) (ht : (pc : Int) + off = (tgt : Int)) (kt : x ≤ y → xV G p l e R s m args below meth c z0 y0 zf yf nL Q tgt lv st M) (kf : ¬ x ≤ y → xV G p l e R s m args below meth c z0 y0 zf yf nL Q (pc + 3) lv st M) : xV G p l e R s m args below meth c z0 y0 zf yf nL Q pc lv (.inl y :: .inl x :: st) M := by
  refine ⟨?_, fun H locs ls h1 h2 h3 h4 h5 => lv_icmp_le E.1 E.2.1 hdg ht (fun q => (kt q).2 H locs ls h1 h2 h3 h4 h5) (fun q => (kf q).2 H locs ls h1 h2 h3 h4 h5)⟩
  by_cases q : x ≤ y
  · exact (kt q).1
  · exact (kf q).1
theorem xv_ifnull_n (E : xE G p R s m args c cc own z0 y0 zf yf nL) {off : Int} (tgt : Nat) (hdg : decode cc pc = .ok (.ifnull off, 3)) (ht : (pc : Int) + off = (tgt : Int)) (k : xV G p l e R s m args below meth c z0 y0 zf yf nL Q tgt lv st M) : xV G p l e R s m args below meth c z0 y0 zf yf nL Q pc lv (.inr (.inr none) :: st) M :=
  ⟨k.1, fun H locs ls h1 h2 h3 h4 h5 => lv_ifnullN E.1 E.2.1 hdg ht (k.2 H locs ls h1 h2 h3 h4 h5)⟩
theorem xv_ifnull_s (E : xE G p R s m args c cc own z0 y0 zf yf nL) {off : Int} {x : Nat} (tgt : Nat) (hdg : decode cc pc = .ok (.ifnull off, 3)) (ht : (pc : Int) + off = (tgt : Int)) (k : xV G p l e R s m args below meth c z0 y0 zf yf nL Q (pc + 3) lv st M) : xV G p l e R s m args below meth c z0 y0 zf yf nL Q pc lv (.inr (.inr (some x)) :: st) M :=
  ⟨k.1, fun H locs ls h1 h2 h3 h4 h5 => lv_ifnull E.1 E.2.1 hdg (k.2 H locs ls h1 h2 h3 h4 h5)⟩
theorem xv_ifnonnull_n (E : xE G p R s m args c cc own z0 y0 zf yf nL) {off : Int} (tgt : Nat) (hdg : decode cc pc = .ok (.ifnonnull off, 3)) (ht : (pc : Int) + off = (tgt : Int)) (k : xV G p l e R s m args below meth c z0 y0 zf yf nL Q (pc + 3) lv st M) : xV G p l e R s m args below meth c z0 y0 zf yf nL Q pc lv (.inr (.inr none) :: st) M :=
  ⟨k.1, fun H locs ls h1 h2 h3 h4 h5 => lv_ifnonnullN E.1 E.2.1 hdg (k.2 H locs ls h1 h2 h3 h4 h5)⟩
theorem xv_ifnonnull_s (E : xE G p R s m args c cc own z0 y0 zf yf nL) {off : Int} {x : Nat} (tgt : Nat) (hdg : decode cc pc = .ok (.ifnonnull off, 3)) (ht : (pc : Int) + off = (tgt : Int)) (k : xV G p l e R s m args below meth c z0 y0 zf yf nL Q tgt lv st M) : xV G p l e R s m args below meth c z0 y0 zf yf nL Q pc lv (.inr (.inr (some x)) :: st) M :=
  ⟨k.1, fun H locs ls h1 h2 h3 h4 h5 => lv_ifnonnull E.1 E.2.1 hdg ht (k.2 H locs ls h1 h2 h3 h4 h5)⟩
theorem xv_goto (E : xE G p R s m args c cc own z0 y0 zf yf nL) {off : Int} (tgt : Nat) (hdg : decode cc pc = .ok (.goto off, 3)) (ht : (pc : Int) + off = (tgt : Int)) (k : xV G p l e R s m args below meth c z0 y0 zf yf nL Q tgt lv st M) : xV G p l e R s m args below meth c z0 y0 zf yf nL Q pc lv st M :=
  ⟨k.1, fun H locs ls h1 h2 h3 h4 h5 => lv_goto E.1 E.2.1 hdg ht (k.2 H locs ls h1 h2 h3 h4 h5)⟩
theorem xv_tabOut (E : xE G p R s m args c cc own z0 y0 zf yf nL) {dflt lo hi : Int} {offs : Array Int} {len : Nat} {x : Int32} (tgt : Nat) (hdg : decode cc pc = .ok (.tableswitch dflt lo hi offs, len)) (h : x.toInt < lo ∨ hi < x.toInt) (ht : (pc : Int) + dflt = (tgt : Int)) (k : xV G p l e R s m args below meth c z0 y0 zf yf nL Q tgt lv st M) : xV G p l e R s m args below meth c z0 y0 zf yf nL Q pc lv (.inl x :: st) M :=
  ⟨k.1, fun H locs ls h1 h2 h3 h4 h5 => lv_tableOut E.1 E.2.1 hdg h ht (k.2 H locs ls h1 h2 h3 h4 h5)⟩
theorem xv_tabIn (E : xE G p R s m args c cc own z0 y0 zf yf nL) {dflt lo hi : Int} {offs : Array Int} {len : Nat} {x : Int32} {off : Int} (tgt : Nat) (hdg : decode cc pc = .ok (.tableswitch dflt lo hi offs, len)) (g1 : ¬ x.toInt < lo) (g2 : ¬ hi < x.toInt) (ho : offs[(x.toInt - lo).toNat]? = some off) (ht : (pc : Int) + off = (tgt : Int)) (k : xV G p l e R s m args below meth c z0 y0 zf yf nL Q tgt lv st M) : xV G p l e R s m args below meth c z0 y0 zf yf nL Q pc lv (.inl x :: st) M :=
  ⟨k.1, fun H locs ls h1 h2 h3 h4 h5 => lv_tableIn E.1 E.2.1 hdg g1 g2 ho ht (k.2 H locs ls h1 h2 h3 h4 h5)⟩
theorem xv_look (E : xE G p R s m args c cc own z0 y0 zf yf nL) {dflt : Int} {ps : Array (Int × Int)} {len : Nat} {x : Int32} {off : Int} (tgt : Nat) (hdg : decode cc pc = .ok (.lookupswitch dflt ps, len)) (hp : (ps.toList.zip (ps.toList.drop 1)).all (fun (a, next) => a.1 < next.1) = true) (ho : Op.lookupswitch.offset ps.toList dflt x.toInt = off) (ht : (pc : Int) + off = (tgt : Int)) (k : xV G p l e R s m args below meth c z0 y0 zf yf nL Q tgt lv st M) : xV G p l e R s m args below meth c z0 y0 zf yf nL Q pc lv (.inl x :: st) M :=
  ⟨k.1, fun H locs ls h1 h2 h3 h4 h5 => lv_lookup E.1 E.2.1 hdg hp ho ht (k.2 H locs ls h1 h2 h3 h4 h5)⟩
/-! ===== numbers that may fail, constants ===== -/
theorem xv_idiv (E : xE G p R s m args c cc own z0 y0 zf yf nL) {x y : Int32} (hdg : decode cc pc = .ok (.idiv, 1)) (hne : ¬ y = 0) (k : xV G p l e R s m args below meth c z0 y0 zf yf nL Q (pc + 1) lv (.inl (x / y) :: st) M) : xV G p l e R s m args below meth c z0 y0 zf yf nL Q pc lv (.inl y :: .inl x :: st) M :=
  ⟨k.1, fun H locs ls h1 h2 h3 h4 h5 => lv_idiv E.1 E.2.1 hdg hne (k.2 H locs ls h1 h2 h3 h4 h5)⟩
theorem xv_irem (E : xE G p R s m args c cc own z0 y0 zf yf nL) {x y : Int32} (hdg : decode cc pc = .ok (.irem, 1)) (hne : ¬ y = 0) (k : xV G p l e R s m args below meth c z0 y0 zf yf nL Q (pc + 1) lv (.inl (x - x / y * y) :: st) M) : xV G p l e R s m args below meth c z0 y0 zf yf nL Q pc lv (.inl y :: .inl x :: st) M :=
  ⟨k.1, fun H locs ls h1 h2 h3 h4 h5 => lv_irem E.1 E.2.1 hdg hne (k.2 H locs ls h1 h2 h3 h4 h5)⟩
theorem xv_lcmp (E : xE G p R s m args c cc own z0 y0 zf yf nL) {x y : Int64} (hdg : decode cc pc = .ok (.lcmp, 1)) (k : xV G p l e R s m args below meth c z0 y0 zf yf nL Q (pc + 1) lv (.inl (lg_cmp x y) :: st) M) : xV G p l e R s m args below meth c z0 y0 zf yf nL Q pc lv (.inr (.inl y) :: .inr (.inl x) :: st) M :=
  ⟨k.1, fun H locs ls h1 h2 h3 h4 h5 => W.lcmp E.1 E.2.1 hdg (k.2 H locs ls h1 h2 h3 h4 h5)⟩
theorem xv_ldc (E : xE G p R s m args c cc own z0 y0 zf yf nL) {idx : Nat} (v : Int32) (hlk : Cond.constant own idx v ∈ xTs) (hdg : decode cc pc = .ok (.ldc idx, 2)) (k : xV G p l e R s m args below meth c z0 y0 zf yf nL Q (pc + 2) lv (.inl v :: st) M) : xV G p l e R s m args below meth c z0 y0 zf yf nL Q pc lv st M :=
  ⟨k.1, fun H locs ls h1 h2 h3 h4 h5 => lv_ldc E.1 E.2.1 E.2.2.2.1 (E.2.2.2.2.1 _ hlk) hdg (k.2 H locs ls h1 h2 h3 h4 h5)⟩
theorem xv_ldcw (E : xE G p R s m args c cc own z0 y0 zf yf nL) {idx : Nat} (v : Int32) (hlk : Cond.constant own idx v ∈ xTs) (hdg : decode cc pc = .ok (.ldc_w idx, 3)) (k : xV G p l e R s m args below meth c z0 y0 zf yf nL Q (pc + 3) lv (.inl v :: st) M) : xV G p l e R s m args below meth c z0 y0 zf yf nL Q pc lv st M :=
  ⟨k.1, fun H locs ls h1 h2 h3 h4 h5 => lv_ldcw E.1 E.2.1 E.2.2.2.1 (E.2.2.2.2.1 _ hlk) hdg (k.2 H locs ls h1 h2 h3 h4 h5)⟩
theorem xv_ldc2 (E : xE G p R s m args c cc own z0 y0 zf yf nL) {idx : Nat} (v : Int64) (hlk : Cond.constantLong own idx v ∈ xTs) (hdg : decode cc pc = .ok (.ldc2_w idx, 3)) (k : xV G p l e R s m args below meth c z0 y0 zf yf nL Q (pc + 3) lv (.inr (.inl v) :: st) M) : xV G p l e R s m args below meth c z0 y0 zf yf nL Q pc lv st M :=
  ⟨k.1, fun H locs ls h1 h2 h3 h4 h5 => lv_ldc2 E.1 E.2.1 E.2.2.2.1 (E.2.2.2.2.1 _ hlk) hdg (k.2 H locs ls h1 h2 h3 h4 h5)⟩
/-! ===== the two static tables ===== -/
theorem xv_gs (E : xE G p R s m args c cc own z0 y0 zf yf nL) {idx : Nat} (n : String) (t : Nat) (w : Cond) (hZ : va_Z "ZonedFabric" n "[I" (.ref t) (fun q => G.2.1.size ≤ q) s G.2.1) (hw : w = .fieldLinkNest own idx "ZonedFabric" n "[I" "ZonedFabric") (hN : va_Nw w s) (hdg : decode cc pc = .ok (.getstatic idx, 3))
    (k : xV G p l e R s m args below meth c z0 y0 zf yf nL Q (pc + 3) lv (.inr (.inr (some t)) :: st) M) : xV G p l e R s m args below meth c z0 y0 zf yf nL Q pc lv st M := by
  refine ⟨k.1, fun H locs ls h1 h2 h3 h4 h5 => ?_⟩
  obtain ⟨cf, kf, fi, f, a, cell, q1, q2, q3, q4, q5, q6, q7, q8⟩ := hZ
  subst hw
  exact va_WgetsN E.1 E.2.1 E.2.2.2.1 (va_Nw.use (A := args) rfl hN) q1 q2 q3 q4 (by rw [h3.2.2.1 a (Nat.not_le.mp q8)]; exact q5) (fun e => by rw [e] at q6; cases q6) q7 rfl hdg (k.2 H locs ls h1 h2 h3 h4 h5)
theorem xv_tab (E : xE G p R s m args c cc own z0 y0 zf yf nL) {t N : Nat} {f : Nat → Int32} (hT : va_T .int t N (fun j => .int (f j)) (fun q => G.2.1.size ≤ q) s G.2.1) {i : Int32} (hin : vp_in i N) (hdg : decode cc pc = .ok (.iaload, 1))
    (k : xV G p l e R s m args below meth c z0 y0 zf yf nL Q (pc + 1) lv (.inl (f i.toNatClampNeg) :: st) M) : xV G p l e R s m args below meth c z0 y0 zf yf nL Q pc lv (.inl i :: .inr (.inr (some t)) :: st) M := by
  refine ⟨k.1, fun H locs ls h1 h2 h3 h4 h5 => ?_⟩
  obtain ⟨cell, q1, q2, q3, q4, q5, q6, q7⟩ := hT
  have hlt : i.toNatClampNeg < N := Nat.not_le.mp fun q => hin (Or.inr q)
  have hin' : ¬ (i < 0 ∨ cell.slots.size ≤ i.toNatClampNeg) := by
    intro q
    rcases q with q | q
    · exact hin (Or.inl q)
    · omega
  exact W.iald (v := .int (f i.toNatClampNeg)) E.1 E.2.1 (by rw [h3.2.2.1 t (Nat.not_le.mp q7)]; exact q1) q2 q3 hin' (by rw [q6 _ hlt]) rfl rfl hdg (k.2 H locs ls h1 h2 h3 h4 h5)
/-! ===== new objects and arrays ===== -/
theorem h_val_new {ci n f : Nat} {ty : FieldType} (h : xkt ty ≠ 9) : h_val (h_no M ci n) (xkt ty) f (h_sz M) = defaultValue ty := by
  have e1 : h_fi (h_no M ci n) f (h_sz M) = 0 := if_pos rfl
  have e2 : h_fl (h_no M ci n) f (h_sz M) = 0 := if_pos rfl
  have e3 : h_fr (h_no M ci n) f (h_sz M) = none := if_pos rfl
  unfold h_val
  rw [e1, e2, e3]
  cases ty <;> first | rfl | exact absurd rfl h
theorem xv_new (E : xE G p R s m args c cc own z0 y0 zf yf nL) (ci : Nat) {idx : Nat} (hcl : Cond.classLink own idx (xRR ci) ∈ xTs) (hinst : Cond.instantiable (xRR ci) (xNN ci) ∈ xTs) (hini : Cond.initialized (xRR ci) ∈ xTs) (hdg : decode cc pc = .ok (.new idx, 3))
    (k : xV G p l e R s m args below meth c z0 y0 zf yf nL Q (pc + 3) lv (.inr (.inr (some (h_sz M))) :: st) (h_no M ci (xNN ci))) (hc : ci < 13 := by decide) : xV G p l e R s m args below meth c z0 y0 zf yf nL Q pc lv st M := by
  have k1 : h_sz M + 1 ≤ zf ∧ h_sl M + xNN ci ≤ yf := k.1
  refine ⟨by omega, fun H locs ls h1 h2 h3 h4 h5 => ?_⟩
  obtain ⟨hx, hb, -, hown, hts, hK, hR1, hR2⟩ := E
  have hKn := hK.1.1 ci _ (xcl_at hc)
  refine W.newcK hx hb hown (hts _ hcl) (hts _ hinst) (hts _ hini) rfl hdg (by omega) (by omega) hKn.2.1 (h := h_sz M) h3.1 fun H1 kC hkC e1 z1 o1 => ?_
  have hW : xW G (h_no M ci (xNN ci)) H1 := by
    refine xW.born h3 rfl (fun x hx => ?_) (fun x hx => if_neg hx) (by rw [h3.1]; exact z1) (fun q hq => o1 q (by rw [← h3.1]; exact hq)) ?_
    · exact h_cell_of_eq (if_neg hx) rfl rfl rfl rfl (fun _ => if_neg hx) (fun _ => if_neg hx) (fun _ => if_neg hx)
    · rw [h_cell_obj (ci := ci) (M := h_no M ci (xNN ci)) (if_pos rfl) hc]
      refine ⟨_, xcl_at hc, (u_born (xYY ci) hts (xin_at hc) hKn hkC e1 (xty_at hc)).to (fun j hj => ?_)⟩
      unfold vp_V
      rw [List.getD_eq_getElem?_getD, h_fls_get hj, xk_ty hc hj]
      exact (h_val_new (xkt_at hc j hj).2).symm
  have := k.2 H1 locs ls (by show z0 ≤ h_sz M + 1; omega) (by show y0 ≤ h_sl M + xNN ci; omega) hW h4 h5
  exact W.cs (by show _ = h_sz M + 1 - z0; omega) (by show _ = h_sl M + xNN ci - y0; omega) this
theorem h_cell_na {t n x : Nat} (h : x ≠ h_sz M) : h_cell G (h_na M t n) x = h_cell G M x := h_cell_of_eq (if_neg h) (if_neg h) (funext fun _ => if_neg h) (funext fun _ => if_neg h) (funext fun _ => if_neg h) (fun _ => rfl) (fun _ => rfl) (fun _ => rfl)
/-- a new array's cell -/
theorem h_cell_na0 {t n : Nat} (ht : 20 ≤ t) : ∃ a0 : vp_A, h_cell G (h_na M t n) (h_sz M) = .inl (G.1.2 t, a0) ∧ (t < 23 → vp_cell (G.1.2 t) a0 = arrV (G.1.2 t) n (fun _ => .int 0)) ∧ (t = 23 → vp_cell (G.1.2 t) a0 = arrV (G.1.2 t) n (fun _ => .long 0)) ∧ (23 < t → vp_cell (G.1.2 t) a0 = arrV (G.1.2 t) n (fun _ => .null)) := by
  have htg : h_tg (h_na M t n) (h_sz M) = t := if_pos rfl
  have hln : h_ln (h_na M t n) (h_sz M) = n := if_pos rfl
  have e1 : h_ai (h_na M t n) (h_sz M) = fun _ => 0 := funext fun _ => if_pos rfl
  have e2 : h_al (h_na M t n) (h_sz M) = fun _ => 0 := funext fun _ => if_pos rfl
  have e3 : h_ar (h_na M t n) (h_sz M) = fun _ => none := funext fun _ => if_pos rfl
  by_cases q1 : t < 23
  · refine ⟨_, h_cell_i htg ht q1, fun _ => ?_, fun q => by omega, fun q => by omega⟩
    rw [hln, e1]; rfl
  · by_cases q2 : t = 23
    · subst q2
      refine ⟨_, h_cell_l htg, fun q => by omega, fun _ => ?_, fun q => by omega⟩
      rw [hln, e2]; rfl
    · refine ⟨_, h_cell_r htg (by omega), fun q => by omega, fun q => by omega, fun _ => ?_⟩
      rw [hln, e3]; rfl
theorem xv_na0 {t n : Nat} {H H1 : Heap} {locs : List Loc} {ls : Array Slot} {v : Value} (ht : 20 ≤ t) (hv : (t < 23 → v = .int 0) ∧ (t = 23 → v = .long 0) ∧ (23 < t → v = .null)) (h1 : z0 ≤ h_sz M) (h2 : y0 ≤ h_sl M) (h3 : xW G M H) (h4 : ∀ q ∈ locs, G.2.1.size ≤ q.base) (h5 : lv_has ls nL (a_lv lv)) (e1 : H1[h_sz M]? = some (arrV (G.1.2 t) n (fun _ => v))) (z1 : H1.size = h_sz M + 1) (o1 : ∀ q, q < h_sz M → H1[q]? = H[q]?)
    (k : xV G p l e R s m args below meth c z0 y0 zf yf nL Q pc lv st (h_na M t n)) : W p l e R s m args below meth c H1 locs (h_sz M - z0 + 1) (h_sl M - y0 + n) Q (F0 m pc ls (a_st st)) := by
  have hW : xW G (h_na M t n) H1 := by
    refine xW.born h3 rfl (fun x hx => h_cell_na hx) (fun x hx => if_neg hx) (by rw [h3.1]; exact z1) (fun q hq => o1 q (by rw [← h3.1]; exact hq)) ?_
    obtain ⟨a0, q1, q2, q3, q4⟩ := h_cell_na0 (G := G) (M := M) (n := n) ht
    rw [q1]
    show H1[h_sz M]? = some (vp_cell _ _)
    rw [e1]
    by_cases r1 : t < 23
    · rw [q2 r1, hv.1 r1]
    · by_cases r2 : t = 23
      · rw [q3 r2, hv.2.1 r2]
      · rw [q4 (by omega), hv.2.2 (by omega)]
  have := k.2 H1 locs ls (by show z0 ≤ h_sz M + 1; omega) (by show y0 ≤ h_sl M + n; omega) hW h4 h5
  exact W.cs (by show _ = h_sz M + 1 - z0; omega) (by show _ = h_sl M + n - y0; omega) this
/-- newarray: t its tag -/
theorem xv_newa (E : xE G p R s m args c cc own z0 y0 zf yf nL) (t : Nat) {n : Int32} {atype : ArrayType} (harr : Cond.arrayClass (xTA t) ∈ xTs) (hdg : decode cc pc = .ok (.newarray atype, 2)) (hn : ¬ n < 0) (hsm : n.toNatClampNeg ≤ 1000000)
    (k : xV G p l e R s m args below meth c z0 y0 zf yf nL Q (pc + 2) lv (.inr (.inr (some (h_sz M))) :: st) (h_na M t n.toNatClampNeg)) (hh : t ∈ [20, 21, 22, 23] ∧ newarray.typeOf atype = xTA t := by decide) : xV G p l e R s m args below meth c z0 y0 zf yf nL Q pc lv (.inl n :: st) M := by
  have k1 : h_sz M + 1 ≤ zf ∧ h_sl M + n.toNatClampNeg ≤ yf := k.1
  refine ⟨by omega, fun H locs ls h1 h2 h3 h4 h5 => ?_⟩
  obtain ⟨hx, hb, -, hown, hts, hK, hR1, hR2⟩ := E
  obtain ⟨ht, hty⟩ := hh
  have ht' : t ∈ xTags ∧ 20 ≤ t ∧ t ≤ 23 ∧ componentBytes (xTA t) ≤ 8 ∧ (t < 23 → defaultValue (xTA t) = .int 0) ∧ (t = 23 → defaultValue (xTA t) = .long 0) := by
    have : ∀ t ∈ [20, 21, 22, 23], t ∈ xTags ∧ 20 ≤ t ∧ t ≤ 23 ∧ componentBytes (xTA t) ≤ 8 ∧ (t < 23 → defaultValue (xTA t) = .int 0) ∧ (t = 23 → defaultValue (xTA t) = .long 0) := by decide
    exact this t ht
  obtain ⟨j, hj⟩ := xTys_at (G := G) ht'.1
  have hra := (hK.1.2 j _ hj).2
  refine va_newaK hx hb (by rw [hty]; exact hts _ harr) rfl hdg rfl hn rfl (Nat.le_trans (Nat.mul_le_mul hsm (by rw [hty]; exact ht'.2.2.2.1)) (by omega)) (by omega) (by omega) h3.1 fun H1 cA e1 z1 o1 hAr hNm => ?_
  have hcA : cA = G.1.2 t := by
    rw [hty] at hNm
    have hnm : s.vm.findClass ("[" ++ (xTA t).toString) = some (G.1.2 t) := by
      have : t = 20 ∨ t = 21 ∨ t = 22 ∨ t = 23 := by simpa using ht
      rcases this with rfl | rfl | rfl | rfl <;> exact hra
    exact Option.some.inj (hNm.symm.trans hnm)
  subst hcA
  rw [hty] at e1
  exact xv_na0 (t := t) (v := defaultValue (xTA t)) ht'.2.1 ⟨ht'.2.2.2.2.1, ht'.2.2.2.2.2, fun q => by omega⟩ h1 h2 h3 h4 h5 e1 z1 o1 k
/-- anewarray of objects numbered ci -/
theorem xv_newq (E : xE G p R s m args c cc own z0 y0 zf yf nL) (ci : Nat) {n : Int32} {idx : Nat} (hcl : Cond.classLink own idx (xRR ci) ∈ xTs) (hov : va_AO (xRR ci) s) (hdg : decode cc pc = .ok (.anewarray idx, 3)) (hn : ¬ n < 0) (hsm : n.toNatClampNeg ≤ 1000000)
    (k : xV G p l e R s m args below meth c z0 y0 zf yf nL Q (pc + 3) lv (.inr (.inr (some (h_sz M))) :: st) (h_na M (30 + ci) n.toNatClampNeg)) (hh : 30 + ci ∈ xTags ∧ xTA (30 + ci) = .object (xRR ci) := by decide) : xV G p l e R s m args below meth c z0 y0 zf yf nL Q pc lv (.inl n :: st) M := by
  have k1 : h_sz M + 1 ≤ zf ∧ h_sl M + n.toNatClampNeg ≤ yf := k.1
  refine ⟨by omega, fun H locs ls h1 h2 h3 h4 h5 => ?_⟩
  obtain ⟨hx, hb, -, hown, hts, hK, hR1, hR2⟩ := E
  obtain ⟨j, hj⟩ := xTys_at (G := G) hh.1
  rw [hh.2] at hj
  obtain ⟨kA', comp', r1, r2, r3, r4⟩ := (hK.1.2 j _ hj).2
  refine W.anew hx hb hown (hts _ hcl) (va_AO.use hov) rfl hdg rfl hn (by omega) (by omega) (by omega) fun cA kA comp f1 f2 f3 f4 => ?_
  have hcA : cA = G.1.2 (30 + ci) := Option.some.inj (f1.symm.trans r4)
  subst hcA
  have hz := h3.1
  generalize hH1 : H.push ({ cls := G.1.2 (30 + ci), slots := Array.replicate n.toNatClampNeg .null, vm := .none } : Cell) = H1
  have z1 : H1.size = h_sz M + 1 := by rw [← hH1, Array.size_push, hz]
  have e1 : H1[h_sz M]? = some (arrV (G.1.2 (30 + ci)) n.toNatClampNeg (fun _ => .null)) := by rw [← hH1, ← hz, Array.getElem?_push_size, ← arrV_new]
  have o1 : ∀ q, q < h_sz M → H1[q]? = H[q]? := fun q hq => by rw [← hH1, Array.getElem?_push, if_neg (by omega)]
  rw [hz]
  exact xv_na0 (t := 30 + ci) (v := .null) (by omega) ⟨fun q => by omega, fun q => by omega, fun _ => rfl⟩ h1 h2 h3 h4 h5 e1 z1 o1 k
end XB
