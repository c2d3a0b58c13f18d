/-! ===== what was sent arrives ===== -/
def dlF (fl : Nat → List (List Int32)) (pe : Nat → Option Nat) (P : Nat → Bool) (p : Nat) : List (List Int32) := if p < 48 then (if P p = true then [] else fl p) else if p < 96 then (match pe (p - 48) with | some y => if P y = true then fl p ++ fl y else fl p | none => fl p) else fl p
def cn (p : Nat → Bool) : Nat → Nat
  | 0 => 0
  | k + 1 => cn p k + if p k = true then 1 else 0
theorem cn_eq {p q : Nat → Bool} : ∀ k, (∀ z, z < k → p z = q z) → cn p k = cn q k
  | 0, _ => rfl
  | k + 1, h => by
    show cn p k + _ = cn q k + _
    rw [cn_eq k (fun z hz => h z (by omega)), h k (by omega)]
theorem cn_add {p : Nat → Bool} {x : Nat} (hx : p x = false) : ∀ k, x < k → cn (u1 p x true) k = cn p k + 1
  | 0, h => by omega
  | k + 1, h => by
    show cn (u1 p x true) k + (if u1 p x true k = true then 1 else 0) = cn p k + (if p k = true then 1 else 0) + 1
    by_cases z : x = k
    · subst z
      rw [u1_eq, hx, if_pos rfl, if_neg (by decide), cn_eq x (fun z hz => u1_ne (by omega))]
    · rw [u1_ne (Ne.symm z), cn_add hx k (by omega)]; omega
theorem cn_le {p : Nat → Bool} : ∀ k, cn p k ≤ k
  | 0 => Nat.le_refl _
  | k + 1 => by
    show cn p k + _ ≤ k + 1
    have := cn_le (p := p) k
    split <;> omega
/-- how many have come -/
def arN (fl : Nat → List (List Int32)) (P : Nat → Bool) : Nat := cn (fun x => P x && ! (fl x).isEmpty) 48
def ne1 (l : List (List Int32)) : Nat := if l = [] then 0 else 1
section DV
variable {sw nd rm : Nat} {M N : hM} {S T : sT} {ia : Nat → Nat → Int32} {ct : Nat → Int32} {w t x y zb sb : Nat} {pe : Nat → Option Nat} {wo : Nat → Nat} {fl : Nat → List (List Int32)} {P : Nat → Bool} {L : List Int32} {kR : Nat → rK} {ka : Nat → Nat → Nat} {tog : Nat → Bool}
theorem arN_st (hx : x < 48) (hP : P x = false) : arN fl (u1 P x true) = arN fl P + ne1 (fl x) := by
  unfold arN ne1
  by_cases z : fl x = []
  · rw [if_pos z, Nat.add_zero]
    refine cn_eq 48 (fun q _ => ?_)
    by_cases y : q = x
    · subst y; rw [z]; simp
    · show (u1 P x true q && _) = (P q && _)
      rw [u1_ne y]
  · rw [if_neg z]
    have e : (fun q => u1 P x true q && ! (fl q).isEmpty) = u1 (fun q => P q && ! (fl q).isEmpty) x true := funext fun q => by
      by_cases y : q = x
      · subst y
        show (u1 P q true q && _) = _
        rw [u1_eq, u1_eq]
        cases hq : fl q with
        | nil => exact absurd hq z
        | cons a l => rfl
      · show (u1 P x true q && _) = _
        rw [u1_ne y, u1_ne y]
    rw [e]
    exact cn_add (show (P x && ! (fl x).isEmpty) = false by rw [hP]; rfl) 48 hx
theorem dlF_st (hsym : ∀ a b, pe a = some b → pe b = some a) (e : pe x = some y) (hx : x < 48) (hy : y < 48) (hP : P x = false) : u1 (u1 (dlF fl pe P) x []) (48 + y) (dlF fl pe P (48 + y) ++ fl x) = dlF fl pe (u1 P x true) := funext fun p => by
  have ey := hsym x y e
  by_cases z1 : p = 48 + y
  · subst z1
    rw [u1_eq]
    unfold dlF
    rw [if_neg (by omega), if_pos (by omega), if_neg (by omega), if_pos (by omega), show 48 + y - 48 = y by omega, ey]
    show (if P x = true then fl (48 + y) ++ fl x else fl (48 + y)) ++ fl x = (if u1 P x true x = true then fl (48 + y) ++ fl x else fl (48 + y))
    rw [hP, u1_eq, if_neg (by decide), if_pos rfl]
  rw [u1_ne z1]
  by_cases z2 : p = x
  · subst z2
    rw [u1_eq]
    unfold dlF
    rw [if_pos hx, u1_eq, if_pos rfl]
  rw [u1_ne z2]
  unfold dlF
  by_cases z3 : p < 48
  · rw [if_pos z3, if_pos z3, u1_ne z2]
  rw [if_neg z3, if_neg z3]
  by_cases z4 : p < 96
  · rw [if_pos z4, if_pos z4]
    cases q : pe (p - 48) with
    | none => rfl
    | some v =>
      have : v ≠ x := fun z => by
        have := hsym _ _ q
        rw [z, e] at this
        have := Option.some.inj this
        omega
      show (if P v = true then _ else _) = (if u1 P x true v = true then _ else _)
      rw [u1_ne this]
  · rw [if_neg z4, if_neg z4]
theorem dlF_no (hx : fl x = []) (hpe : ∀ z, pe z ≠ some x) : dlF fl pe (u1 P x true) = dlF fl pe P := funext fun p => by
  unfold dlF
  by_cases z3 : p < 48
  · rw [if_pos z3, if_pos z3]
    by_cases z : p = x
    · subst z
      rw [u1_eq, if_pos rfl, hx]
      split <;> rfl
    · rw [u1_ne z]
  rw [if_neg z3, if_neg z3]
  by_cases z4 : p < 96
  · rw [if_pos z4, if_pos z4]
    cases q : pe (p - 48) with
    | none => rfl
    | some v =>
      have : v ≠ x := fun z => hpe _ (by rw [← z]; exact q)
      show (if u1 P x true v = true then _ else _) = (if P v = true then _ else _)
      rw [u1_ne this]
  · rw [if_neg z4, if_neg z4]
/-- the class so far -/
def clD (sw nd : Nat) (M : hM) (ia : Nat → Nat → Int32) (ct : Nat → Int32) (zb sb : Nat) (fl : Nat → List (List Int32)) (pe : Nat → Option Nat) (P : Nat → Bool) (N : hM) : Prop :=
  FC (tru sw nd) sw nd N ia ct zb sb (dlF fl pe P) [] ∧ (∀ x, sd sw nd x → h_fi N 806 (200 + x) = (if P x = true then h_fi M 806 (200 + x) + h_fi M 807 (200 + x) else h_fi M 806 (200 + x)) ∧ h_fi N 807 (200 + x) = (if P x = true then 0 else h_fi M 807 (200 + x))) ∧ kp [203, 300, 301, 302, 806, 807, 808] [] M N
theorem clD_st (hI : cI sw nd rm M) (hW : WI sw nd M S w pe wo) (h : clD sw nd M ia ct zb sb fl pe P N) (hB : FLb fl) (e : pe x = some y) (hP : P x = false) : ∃ N', f139 [.inr (.inr (some (200 + x)))] N = some (some (.inl (nI (ne1 (fl x)))), N') ∧ clD sw nd M ia ct zb sb fl pe (u1 P x true) N' := by
  obtain ⟨h1, h2, h3⟩ := h
  obtain ⟨hx, hy, ey⟩ := hW.sds e
  have hx8 := hI.x8 hx
  have hy8 := hI.x8 hy
  have hIN := hI.keep h3 (by decide) (by decide)
  have hsym : ∀ a b, pe a = some b → pe b = some a := fun a b q => (hW.sds q).2.2
  have hp : h_fr N 803 (200 + x) = some (200 + y) := by rw [h3.fr (by decide)]; exact hW.pr e
  have e806 := (h2 x hx).1
  have e807 := (h2 x hx).2
  rw [hP, if_neg (by decide)] at e806 e807
  have hwx : dlF fl pe P x = fl x := by
    unfold dlF
    rw [if_pos hx8, hP, if_neg (by decide)]
  have st := dlF_st (fl := fl) hsym e hx8 hy8 hP
  have last : ∀ N' : hM, h_fi N' 806 = u1 (h_fi N 806) (200 + x) (h_fi N 806 (200 + x) + h_fi N 807 (200 + x)) → h_fi N' 807 = u1 (h_fi N 807) (200 + x) 0 → ∀ z, sd sw nd z → h_fi N' 806 (200 + z) = (if u1 P x true z = true then h_fi M 806 (200 + z) + h_fi M 807 (200 + z) else h_fi M 806 (200 + z)) ∧ h_fi N' 807 (200 + z) = (if u1 P x true z = true then 0 else h_fi M 807 (200 + z)) := fun N' q1 q2 z hz => by
    rw [q1, q2]
    by_cases zx : z = x
    · subst zx
      rw [u1_eq, u1_eq, u1_eq, if_pos rfl, if_pos rfl, e806, e807]
      exact ⟨rfl, rfl⟩
    · rw [u1_ne zx, u1_ne (show 200 + z ≠ 200 + x by omega), u1_ne (show 200 + z ≠ 200 + x by omega)]
      exact h2 z hz
  cases hf : fl x with
  | nil =>
    have hw0 : dlF fl pe P x = [] := by rw [hwx, hf]
    have d0 := FC_del0 hIN h1 hx hw0
    have k1 := k_hpi (f := 806) (a := 200 + x) (v := h_fi N 806 (200 + x) + h_fi N 807 (200 + x)) h3.1 (by rw [hIN.po0 hx]; decide)
    have k2 := k_hpi (f := 807) (a := 200 + x) (v := 0) k1.1 (show h_tg N (200 + x) ≠ 0 by rw [hIN.po0 hx]; decide)
    have kk : kp [806, 807] [] N (h_pi (h_pi N 806 (200 + x) (h_fi N 806 (200 + x) + h_fi N 807 (200 + x))) 807 (200 + x) 0) := ((kp.rf h3.1 : kp [806, 807] [] N N).tr k1 rfl rfl).tr k2 rfl rfl
    have hs : dlF fl pe (u1 P x true) = dlF fl pe P := by
      rw [← st, hf]
      rw [List.append_nil]
      refine funext fun p => ?_
      by_cases z1 : p = 48 + y
      · subst z1; rw [u1_eq]
      · rw [u1_ne z1]
        by_cases z2 : p = x
        · subst z2; rw [u1_eq, hw0]
        · rw [u1_ne z2]
    refine ⟨_, ?_, ?_, last _ ?_ ?_, h3.tr kk rfl rfl⟩
    · rw [d0]; rfl
    · rw [hs]; exact h1.cg kk (by decide)
    · rw [fi_ne (by decide), fi_eq]
    · rw [fi_eq, fi_ne (by decide)]
  | cons L r =>
    have hr : r = [] := by
      have := (hB x hx8).1
      rw [hf, List.length_cons] at this
      exact List.eq_nil_of_length_eq_zero (by omega)
    subst hr
    obtain ⟨N', d1, d2, d3, d4⟩ := FC_del hIN h1 hx hy hp (by rw [hwx, hf])
    have kk := kf139 d1 h3.1
    rw [hf] at st
    rw [st] at d2
    refine ⟨N', ?_, d2, last N' d3 d4, h3.tr kk rfl rfl⟩
    rw [d1]; rfl
end DV
