/-! ===== takeData of a disc ===== -/
section DE
variable {sw nd rm : Nat} {M M' N : hM} {S S' T : sT} {ia ib : Nat → Nat → Int32} {w t x y zb sb a f n nc fus dk j lm s k0 : Nat} {pe : Nat → Option Nat} {wo : Nat → Nat} {fl fm : Nat → List (List Int32)} {hc hc' : List (Nat × Int32 × List Int32)} {hs hs' : List (Nat × List Int32)} {L Lr : List Int32} {kR : Nat → rK} {ka : Nat → Nat → Nat} {tog : Nat → Bool} {ca hh : Nat → Nat} {lv : Nat → Bool} {jj : Nat → Nat} {G : Nat → nG} {R : List Nat} {g : Int32} {OL : List oE}
theorem pw_ne {α : Type} {r : α → α → Prop} {l : List α} {d : α} (h : l.Pairwise r) {i j : Nat} (hi : i < l.length) (hj : j < l.length) (hne : i ≠ j) : r (l.getD i d) (l.getD j d) ∨ r (l.getD j d) (l.getD i d) := by
  have gi : ∀ k (hk : k < l.length), l.getD k d = l[k] := fun k hk => by rw [List.getD_eq_getElem?_getD, List.getElem?_eq_getElem hk]; rfl
  rw [gi i hi, gi j hj]
  rcases Nat.lt_or_gt_of_ne hne with q | q
  · exact Or.inl (List.pairwise_iff_getElem.mp h i j hi hj q)
  · exact Or.inr (List.pairwise_iff_getElem.mp h j i hj hi q)
theorem mem_D {α : Type} {l : List α} {d : α} {k : Nat} (hk : k < l.length) : l.getD k d ∈ l := by
  rw [List.getD_eq_getElem?_getD, List.getElem?_eq_getElem hk]
  exact List.getElem_mem hk
theorem D_mem {α : Type} {l : List α} {d x : α} (h : x ∈ l) : ∃ k, k < l.length ∧ l.getD k d = x := by
  obtain ⟨k, hk, e⟩ := List.getElem_of_mem h
  exact ⟨k, hk, by rw [List.getD_eq_getElem?_getD, List.getElem?_eq_getElem hk]; exact e⟩
/-- only one open WRITE has this number -/
theorem rx_one {lr : Nat} (h : olR M S t n dk OL lr j) {i k : Nat} (hi : i < OL.length) (hk : k < OL.length) (e : (OL.getD i oE0).2.1 2 = (OL.getD k oE0).2.1 2) : i = k := by
  by_cases z : i = k
  · exact z
  · have := pw_ne (d := oE0) h.2.2.2.2.2 hi hk z
    unfold rxN at this
    rw [e] at this
    omega
theorem slot_mt {lr : Nat} (h : olR M S t n dk OL lr j) {i : Nat} (hi : i < 6) (hm : mtS M dk i L) : ∃ k, k < OL.length ∧ (OL.getD k oE0).1 = i ∧ mtE (OL.getD k oE0) L := by
  have hin : i ∈ OL.map (fun e => e.1) := Classical.byContradiction (fun q => hm.1 (h.2.2.2.2.1 i hi q))
  obtain ⟨e, e1, e2⟩ := List.mem_map.mp hin
  obtain ⟨k, hk, e3⟩ := D_mem (d := oE0) e1
  refine ⟨k, hk, by rw [e3]; exact e2, ?_⟩
  obtain ⟨u, b, m, bits, o, r, a1, ⟨a2, a3, a4, a5, -⟩, -⟩ := h.2.2.2.1 e e1
  rw [e3]
  subst e2
  exact ⟨by rw [← a4]; exact hm.2.2.1, by rw [← a3]; exact hm.2.1, by rw [← a5]; exact hm.2.2.2⟩
theorem getD_set {l : List oE} {k q : Nat} {e : oE} (hk : k < l.length) : (l.set k e).getD q oE0 = if q = k then e else l.getD q oE0 := by
  rw [List.getD_eq_getElem?_getD, List.getElem?_set]
  by_cases z : q = k
  · subst z; rw [if_pos rfl, if_pos rfl, if_pos hk]; rfl
  · rw [if_neg (Ne.symm z), if_neg z, List.getD_eq_getElem?_getD]
/-- a value has come: the reference's list -/
theorem olS_val {p : Nat} {v : Int64} {bv : Int32} (hn : n < 8) (h : olS S n OL) (hk : k0 < OL.length) (hp : p < 4) : olS (s_u (s_ul S 45 (24 * n + 4 * k0 + p) v) 44 (48 * n + 8 * k0 + 6) bv) n (OL.set k0 ((OL.getD k0 oE0).1, u1 (OL.getD k0 oE0).2.1 6 bv, u1 (OL.getD k0 oE0).2.2 p v)) := by
  obtain ⟨⟨h1, h2⟩, h3⟩ := h
  refine ⟨⟨?_, by rw [List.length_set]; exact h2⟩, fun q hq => ?_⟩
  · rw [List.length_set, su_ne (by decide)]; exact h1
  · rw [List.length_set] at hq
    rw [getD_set hk]
    obtain ⟨y1, y2⟩ := h3 q hq
    by_cases z : q = k0
    · subst z
      rw [if_pos rfl]
      refine ⟨fun i hi => ?_, fun i hi => ?_⟩
      · by_cases zi : i = 6
        · subst zi
          rw [s_u_at]
          show bv = u1 (OL.getD q oE0).2.1 6 bv 6
          rw [u1_eq]
        · rw [s_u_o (by omega)]
          show S.1 44 _ = u1 _ 6 bv i
          rw [u1_ne zi]; exact y1 i hi
      · show (s_ul S 45 (24 * n + 4 * q + p) v).2 45 (24 * n + 4 * q + i) = u1 _ p v i
        by_cases zi : i = p
        · subst zi; rw [sul_eq, u1_eq]
        · rw [sul_ne (by omega), u1_ne zi]; exact y2 i hi
    · rw [if_neg z]
      refine ⟨fun i hi => ?_, fun i hi => ?_⟩
      · rw [s_u_o (by omega)]; exact y1 i hi
      · show (s_ul S 45 (24 * n + 4 * k0 + p) v).2 45 (24 * n + 4 * q + i) = _
        rw [sul_ne (by omega)]; exact y2 i hi
/-- both keep a value -/
theorem P_kv {p bits : Nat} {v : Int64} (h : HB sw nd rm M S ia w pe wo t zb sb fl hc hs kR ka tog) (hN : NR nd M S t nc ca hh lv jj G) (hn : n < nd) (hG : G n = .inr (dk, OL)) (hk : k0 < OL.length) (hp : p < 4) (hbits : (OL.getD k0 oE0).2.1 6 = nI bits) (hb16 : bits < 16) : ∃ ib OL', HB sw nd rm (h_pi (h_ql M (dk + 5 + 2 * (OL.getD k0 oE0).1) p v) 707 (dk + 4 + 2 * (OL.getD k0 oE0).1) (nI (bits ||| (1 <<< p)))) (s_u (s_ul S 45 (24 * n + 4 * k0 + p) v) 44 (48 * n + 8 * k0 + 6) (nI (bits ||| (1 <<< p)))) ib w pe wo t zb sb fl hc hs kR ka tog ∧ NR nd (h_pi (h_ql M (dk + 5 + 2 * (OL.getD k0 oE0).1) p v) 707 (dk + 4 + 2 * (OL.getD k0 oE0).1) (nI (bits ||| (1 <<< p)))) (s_u (s_ul S 45 (24 * n + 4 * k0 + p) v) 44 (48 * n + 8 * k0 + 6) (nI (bits ||| (1 <<< p)))) t nc ca hh lv jj (u1 G n (.inr (dk, OL'))) ∧ OL' = OL.set k0 ((OL.getD k0 oE0).1, u1 (OL.getD k0 oE0).2.1 6 (nI (bits ||| (1 <<< p))), u1 (OL.getD k0 oE0).2.2 p v) := by
  have hI := h.I
  have hnd := hI.bs.2.1.2
  obtain ⟨h1, h2, h3, ⟨lm, l1, l2, l3, l4⟩, lr, r1, r2, r3, hol⟩ := hN.dd hn hG
  have hol' := hol
  obtain ⟨⟨o1, o1'⟩, o2, o3, o4, o5, o6⟩ := hol
  have he := mem_D (d := oE0) hk
  obtain ⟨u, b, m, bt, o, r, a1, a2, a3, ⟨a4, a4', a4''⟩, a5, a6, a7, a8⟩ := o4 _ he
  have hbt : bt = bits := (nI_eq (by omega) (by omega)).mp (by rw [← a4, hbits])
  subst hbt
  obtain ⟨t1, t2', t3, t4, t5⟩ := h2.2.2.2 _ a1
  obtain ⟨y1, y2, y3⟩ := or4 bt a4' p hp
  generalize he0 : OL.getD k0 oE0 = e at *
  generalize hbb : bt ||| (1 <<< p) = bb at *
  have kM1 := k_hql (i := p) (v := v) h.bk t4 (by decide)
  have kM2 := k_hpi (f := 707) (a := dk + 4 + 2 * e.1) (v := nI bb) kM1.1 (show h_tg M (dk + 4 + 2 * e.1) ≠ 0 by rw [t2']; decide)
  have kk := ((kp.rf h.bk : kp [707] [23] M M).tr kM1 rfl rfl).tr kM2 rfl rfl
  have l1' : ks [45] S (s_ul S 45 (24 * n + 4 * k0 + p) v) := k_sul
  have ll := (ks.rf.tr l1' rfl : ks [44, 45] S _).tr (k_su : ks [44] _ (s_u (s_ul S 45 (24 * n + 4 * k0 + p) v) 44 (48 * n + 8 * k0 + 6) (nI bb))) rfl
  have hS := olS_val (v := v) (bv := nI bb) (show n < 8 by omega) hol'.s hk hp
  rw [he0] at hS
  have hw : dW n dk M (h_pi (h_ql M (dk + 5 + 2 * e.1) p v) 707 (dk + 4 + 2 * e.1) (nI bb)) S (s_u (s_ul S 45 (24 * n + 4 * k0 + p) v) 44 (48 * n + 8 * k0 + 6) (nI bb)) := by
    have w1 : dW n dk M (h_ql M (dk + 5 + 2 * e.1) p v) S S := dW_ql (by omega)
    have w2 : dW n dk (h_ql M (dk + 5 + 2 * e.1) p v) (h_pi (h_ql M (dk + 5 + 2 * e.1) p v) 707 (dk + 4 + 2 * e.1) (nI bb)) S S := dW_pi (Or.inr (Or.inr (by omega))) (by omega)
    have w3 : dW n dk (h_pi (h_ql M (dk + 5 + 2 * e.1) p v) 707 (dk + 4 + 2 * e.1) (nI bb)) (h_pi (h_ql M (dk + 5 + 2 * e.1) p v) 707 (dk + 4 + 2 * e.1) (nI bb)) S (s_ul S 45 (24 * n + 4 * k0 + p) v) := dW_sul (Or.inr (Or.inr (Or.inr (Or.inr ⟨rfl, by omega, by omega⟩))))
    have w4 : dW n dk (h_pi (h_ql M (dk + 5 + 2 * e.1) p v) 707 (dk + 4 + 2 * e.1) (nI bb)) (h_pi (h_ql M (dk + 5 + 2 * e.1) p v) 707 (dk + 4 + 2 * e.1) (nI bb)) (s_ul S 45 (24 * n + 4 * k0 + p) v) (s_u (s_ul S 45 (24 * n + 4 * k0 + p) v) 44 (48 * n + 8 * k0 + 6) (nI bb)) := dW_su (Or.inr (Or.inr (Or.inr (Or.inl ⟨rfl, by omega, by omega⟩))))
    exact dW_tr (dW_tr (dW_tr w1 w2) w3) w4
  have hbN := h.cw kk (by decide) (by decide) (fun _ _ => rfl) ll (by decide)
  have F : ∀ k a', (k ≠ 707 ∨ a' ≠ dk + 4 + 2 * e.1) → h_fi (h_pi (h_ql M (dk + 5 + 2 * e.1) p v) 707 (dk + 4 + 2 * e.1) (nI bb)) k a' = h_fi M k a' := fun k a' q => by rw [h_pi_o (by omega)]; rfl
  have AL : ∀ a', a' ≠ dk + 5 + 2 * e.1 → h_al (h_pi (h_ql M (dk + 5 + 2 * e.1) p v) 707 (dk + 4 + 2 * e.1) (nI bb)) a' = h_al M a' := fun a' q => ql_nk q
  have F7 : h_fi (h_pi (h_ql M (dk + 5 + 2 * e.1) p v) 707 (dk + 4 + 2 * e.1) (nI bb)) 707 (dk + 4 + 2 * e.1) = nI bb := by rw [fi_eq, u1_eq]
  have AP : ∀ x, h_al (h_pi (h_ql M (dk + 5 + 2 * e.1) p v) 707 (dk + 4 + 2 * e.1) (nI bb)) (dk + 5 + 2 * e.1) x = u1 (h_al M (dk + 5 + 2 * e.1)) p v x := fun x => by
    show h_al (h_ql M (dk + 5 + 2 * e.1) p v) (dk + 5 + 2 * e.1) x = _
    by_cases z : x = p
    · subst z; rw [ql_eq, u1_eq]
    · rw [ql_ne z, u1_ne z]
  have dN := h2.kp kk (by decide) (by decide)
  have f504 : h_fr (h_pi (h_ql M (dk + 5 + 2 * e.1) p v) 707 (dk + 4 + 2 * e.1) (nI bb)) = h_fr M := rfl
  have fai : h_ai (h_pi (h_ql M (dk + 5 + 2 * e.1) p v) 707 (dk + 4 + 2 * e.1) (nI bb)) = h_ai M := rfl
  refine ⟨_, _, hbN, ?_, rfl⟩
  clear hbN
  generalize h_pi (h_ql M (dk + 5 + 2 * e.1) p v) 707 (dk + 4 + 2 * e.1) (nI bb) = N at *
  generalize s_u (s_ul S 45 (24 * n + 4 * k0 + p) v) 44 (48 * n + 8 * k0 + 6) (nI bb) = T at *
  have hset : ∀ x, x ∈ OL.set k0 (e.1, u1 e.2.1 6 (nI bb), u1 e.2.2 p v) → ∃ q, q < OL.length ∧ x = (if q = k0 then (e.1, u1 e.2.1 6 (nI bb), u1 e.2.2 p v) else OL.getD q oE0) := fun x hx => by
    obtain ⟨q, hq, e'⟩ := D_mem (d := oE0) hx
    rw [List.length_set] at hq
    rw [getD_set hk] at e'
    exact ⟨q, hq, e'.symm⟩
  have hmap : (OL.set k0 (e.1, u1 e.2.1 6 (nI bb), u1 e.2.2 p v)).map (fun e => e.1) = OL.map (fun e => e.1) := by
    rw [List.map_set]
    refine List.ext_getElem? (fun q => ?_)
    rw [List.getElem?_set]
    by_cases z : k0 = q
    · subst z
      rw [if_pos rfl, if_pos (by rw [List.length_map]; exact hk), List.getElem?_map, List.getElem?_eq_getElem hk]
      have : OL[k0] = e := by
        rw [← he0, List.getD_eq_getElem?_getD, List.getElem?_eq_getElem hk]; rfl
      rw [this]; rfl
    · rw [if_neg z]
  have hd : diR N T t n dk (OL.set k0 (e.1, u1 e.2.1 6 (nI bb), u1 e.2.2 p v)) (jj n) := by
    refine ⟨?_, dN, fun i hi => ?_, ⟨lm, l1, ?_, ?_, fun i hi => ?_⟩, lr, r1, ?_, ?_, hS.1, hS.2, by rw [hmap]; exact o3, fun x hx => ?_, fun i hi q => ?_, ?_⟩
    · rw [f504, ll.i (by decide)]; exact h1
    · rw [AL _ (by omega), (ll 42 (by decide)).2]; exact h3 i hi
    · rw [F 104 _ (by omega)]; exact l2
    · rw [ll.i (by decide)]; exact l3
    · rw [fai, ll.i (by decide)]; exact l4 i hi
    · rw [F 106 _ (by omega)]; exact r2
    · rw [ll.i (by decide)]; exact r3
    · obtain ⟨q, hq, e'⟩ := hset x hx
      by_cases z : q = k0
      · rw [if_pos z] at e'
        subst e'
        have e66 : u1 e.2.1 6 (nI bb) 6 = nI bb := u1_eq
        refine ⟨u, b, m, bb, o, r, a1, ?_, a3, ⟨e66, y2, fun p' hp' q' => ?_⟩, ?_, ?_, a7, a8⟩
        · show (h_fi N 700 (dk + 4 + 2 * e.1) = 1 ∧ h_fi N 701 (dk + 4 + 2 * e.1) = u1 e.2.1 6 (nI bb) 1 ∧ h_fi N 702 (dk + 4 + 2 * e.1) = u1 e.2.1 6 (nI bb) 0 ∧ h_fi N 703 (dk + 4 + 2 * e.1) = u1 e.2.1 6 (nI bb) 2 ∧ h_fi N 704 (dk + 4 + 2 * e.1) = nI (16 * u + b) ∧ h_fi N 705 (dk + 4 + 2 * e.1) = u1 e.2.1 6 (nI bb) 5 ∧ h_fi N 706 (dk + 4 + 2 * e.1) = u1 e.2.1 6 (nI bb) 7 ∧ h_fi N 707 (dk + 4 + 2 * e.1) = u1 e.2.1 6 (nI bb) 6)
          rw [F 700 _ (by omega), F 701 _ (by omega), F 702 _ (by omega), F 703 _ (by omega), F 704 _ (by omega), F 705 _ (by omega), F 706 _ (by omega), F7, u1_ne (by decide), u1_ne (by decide), u1_ne (by decide), u1_ne (by decide), u1_ne (by decide), u1_eq]
          exact ⟨a2.1, a2.2.1, a2.2.2.1, a2.2.2.2.1, a2.2.2.2.2.1, a2.2.2.2.2.2.1, a2.2.2.2.2.2.2.1, rfl⟩
        · show h_al N (dk + 5 + 2 * e.1) p' = u1 e.2.2 p v p'
          rw [AP]
          by_cases zp : p' = p
          · subst zp; rw [u1_eq, u1_eq]
          · rw [u1_ne zp, u1_ne zp]
            refine a4'' p' hp' ?_
            rcases (y3 p' hp').mp q' with q'' | q''
            · exact q''
            · exact absurd q'' zp
        · show u1 e.2.1 6 (nI bb) 7 = nI o ∧ _
          rw [u1_ne (by decide)]; exact a5
        · show u1 e.2.1 6 (nI bb) 2 = nI r
          rw [u1_ne (by decide)]; exact a6
      · rw [if_neg z] at e'
        subst e'
        have hx' := mem_D (d := oE0) hq
        have q0 := o4 _ hx'
        have hs : (OL.getD q oE0).1 < 6 := by obtain ⟨u, b, m, bits, o, r, a1, -⟩ := q0; exact a1
        have hne : (OL.getD q oE0).1 ≠ e.1 := fun zz => by
          have nd' := o3
          rw [List.nodup_iff_pairwise_ne, List.pairwise_map] at nd'
          rcases pw_ne (d := oE0) nd' hq hk z with y | y
          · exact y (by rw [he0]; exact zz)
          · exact y (by rw [he0]; exact zz.symm)
        exact q0.cg (fun k k1 k2 => F k _ (Or.inr (by omega))) (AL _ (by omega))
    · rw [hmap] at q
      rw [F 700 _ (by omega)]; exact o5 i hi q
    · refine List.pairwise_iff_getElem.mpr (fun i j' hi hj hij => ?_)
      have gx : ∀ q (hq : q < (OL.set k0 (e.1, u1 e.2.1 6 (nI bb), u1 e.2.2 p v)).length), rxN ((OL.set k0 (e.1, u1 e.2.1 6 (nI bb), u1 e.2.2 p v))[q]) = rxN (OL.getD q oE0) := fun q hq => by
        have : (OL.set k0 (e.1, u1 e.2.1 6 (nI bb), u1 e.2.2 p v))[q] = (OL.set k0 (e.1, u1 e.2.1 6 (nI bb), u1 e.2.2 p v)).getD q oE0 := by
          rw [List.getD_eq_getElem?_getD, List.getElem?_eq_getElem hq]; rfl
        rw [this, getD_set hk]
        by_cases z : q = k0
        · rw [if_pos z, z, he0]
          show (u1 e.2.1 6 (nI bb) 2).toNatClampNeg = _
          rw [u1_ne (by decide)]; rfl
        · rw [if_neg z]
      rw [gx i hi, gx j' hj]
      rw [List.length_set] at hi hj
      have := List.pairwise_iff_getElem.mp o6 i j' hi hj hij
      have gi : ∀ k (hk : k < OL.length), OL.getD k oE0 = OL[k] := fun k hk => by rw [List.getD_eq_getElem?_getD, List.getElem?_eq_getElem hk]; rfl
      rw [gi i hi, gi j' hj]; exact this
  have := hN.di hI hn hG hw hd
  rw [u1_id] at this
  exact this
end DE
