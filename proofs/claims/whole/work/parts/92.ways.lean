/-! ===== ways, as records tell them ===== -/
abbrev rK : Type := Nat → Option (List Nat)
def rgo (o : Option (List Nat)) (i : Nat) : Nat := match o with
  | some L => L.getD i 0
  | none => 0
/-- the least cost to b among d neighbours from k on -/
def tlo (o : Option (List Nat)) (b : Nat) : Nat → Nat → Nat → Nat
  | _, 0, acc => acc
  | k, d + 1, acc => tlo o b (k + 1) d (if rgo o (7 + 3 * k) = b ∧ rgo o (8 + 3 * k) < acc then rgo o (8 + 3 * k) else acc)
def tlK (K : rK) (a b : Nat) : Nat := tlo (K a) b 0 (rgo (K a) 5) 1000000
def jnK (K : rK) (a b : Nat) : Prop := tlK K a b < 1000000 ∧ tlK K b a < 1000000
def wK (K : rK) (a b : Nat) : Nat := if a = b then 0 else if tlK K a b < 1000000 ∧ tlK K b a < 1000000 then tlK K a b else 1000000
def dK (n : Nat) (K : rK) : Nat → Nat → Nat := phs n n (wK K)
/-- good records -/
def rKo (n : Nat) (K : rK) : Prop := ∀ a, (K a ≠ none → a < n) ∧ ∀ k, k < rgo (K a) 5 → rgo (K a) (7 + 3 * k) < n ∧ 1 ≤ rgo (K a) (8 + 3 * k) ∧ rgo (K a) (8 + 3 * k) ≤ 9 ∧ rgo (K a) (6 + 3 * k) < 8
theorem tlo_le {o : Option (List Nat)} {b : Nat} : ∀ d k acc, tlo o b k d acc ≤ acc
  | 0, _, _ => Nat.le_refl _
  | d + 1, k, acc => by
    refine Nat.le_trans (tlo_le d (k + 1) _) ?_
    split
    · rename_i q; exact Nat.le_of_lt q.2
    · exact Nat.le_refl _
theorem tlo_of {o : Option (List Nat)} {b : Nat} : ∀ d k acc j, k ≤ j → j < k + d → rgo o (7 + 3 * j) = b → tlo o b k d acc ≤ rgo o (8 + 3 * j)
  | 0, k, acc, j, h1, h2, _ => by omega
  | d + 1, k, acc, j, h1, h2, h3 => by
    by_cases q : j = k
    · subst q
      refine Nat.le_trans (tlo_le d (j + 1) _) ?_
      split
      · exact Nat.le_refl _
      · rename_i z
        have : ¬ rgo o (8 + 3 * j) < acc := fun y => z ⟨h3, y⟩
        omega
    · exact tlo_of d (k + 1) _ j (by omega) (by omega) h3
theorem tlo_in {o : Option (List Nat)} {b : Nat} : ∀ d k acc, tlo o b k d acc < acc → ∃ j, k ≤ j ∧ j < k + d ∧ rgo o (7 + 3 * j) = b ∧ rgo o (8 + 3 * j) = tlo o b k d acc
  | 0, k, acc, h => by
    have : acc < acc := h
    omega
  | d + 1, k, acc, h => by
    have h' : tlo o b (k + 1) d (if rgo o (7 + 3 * k) = b ∧ rgo o (8 + 3 * k) < acc then rgo o (8 + 3 * k) else acc) < acc := h
    show ∃ j, _ ∧ _ ∧ _ ∧ _ = tlo o b (k + 1) d (if rgo o (7 + 3 * k) = b ∧ rgo o (8 + 3 * k) < acc then rgo o (8 + 3 * k) else acc)
    by_cases q : rgo o (7 + 3 * k) = b ∧ rgo o (8 + 3 * k) < acc
    · rw [if_pos q] at h' ⊢
      by_cases z : tlo o b (k + 1) d (rgo o (8 + 3 * k)) < rgo o (8 + 3 * k)
      · obtain ⟨j, j1, j2, j3, j4⟩ := tlo_in d (k + 1) _ z
        exact ⟨j, by omega, by omega, j3, j4⟩
      · have := tlo_le (o := o) (b := b) d (k + 1) (rgo o (8 + 3 * k))
        exact ⟨k, by omega, by omega, q.1, by omega⟩
    · rw [if_neg q] at h' ⊢
      obtain ⟨j, j1, j2, j3, j4⟩ := tlo_in d (k + 1) _ h'
      exact ⟨j, by omega, by omega, j3, j4⟩
theorem wK_dg (K : rK) : ∀ a, wK K a a = 0 := fun a => if_pos rfl
theorem tlK_le {K : rK} {a b : Nat} : tlK K a b ≤ 1000000 := tlo_le _ _ _
theorem wK_le {K : rK} {a b : Nat} : wK K a b ≤ 1000000 := by
  unfold wK
  split
  · omega
  · split
    · exact tlK_le
    · omega
theorem dK_le {n : Nat} {K : rK} {a b : Nat} : dK n K a b ≤ 1000000 := Nat.le_trans (phs_le n) wK_le
theorem dK_tri {n : Nat} {K : rK} {a m b : Nat} (ha : a < n) (hm : m < n) (hb : b < n) : dK n K a b ≤ dK n K a m + dK n K m b := phs_tri (wK_dg K) n (Nat.le_refl _) m a b hm ha hb
/-- the port of the first of d neighbours from k on by which it is no farther -/
def wyc (n : Nat) (K : rK) (s t : Nat) : Nat → Nat → Int32
  | _, 0 => -1
  | k, d + 1 => if rgo (K s) (7 + 3 * k) < n ∧ (tlK K s (rgo (K s) (7 + 3 * k)) < 1000000 ∧ tlK K (rgo (K s) (7 + 3 * k)) s < 1000000) ∧ rgo (K s) (8 + 3 * k) + dK n K (rgo (K s) (7 + 3 * k)) t = dK n K s t then nI (rgo (K s) (6 + 3 * k)) else wyc n K s t (k + 1) d
/-- the class's way from s to t -/
def wyK (n : Nat) (K : rK) (s t : Nat) : Int32 := if t = s then -1 else if 1000000 ≤ dK n K s t then -1 else wyc n K s t 0 (rgo (K s) 5)
/-- the reference's: best, port -/
def wyr (n : Nat) (K : rK) (s t : Nat) : Nat → Nat → Nat → Int32 → Int32
  | _, 0, _, port => port
  | k, d + 1, best, port =>
    if rgo (K s) (7 + 3 * k) = s then wyr n K s t (k + 1) d best port
    else if tlK K s (rgo (K s) (7 + 3 * k)) < 1000000 ∧ tlK K (rgo (K s) (7 + 3 * k)) s < 1000000 then
      (if rgo (K s) (8 + 3 * k) + dK n K (rgo (K s) (7 + 3 * k)) t < best then wyr n K s t (k + 1) d (rgo (K s) (8 + 3 * k) + dK n K (rgo (K s) (7 + 3 * k)) t) (nI (rgo (K s) (6 + 3 * k))) else wyr n K s t (k + 1) d best port)
    else wyr n K s t (k + 1) d best port
section WY
variable {n : Nat} {K : rK} {s t : Nat}
theorem cand_ge (hK : rKo n K) (hs : s < n) (ht : t < n) {k : Nat} (hk : k < rgo (K s) 5) (hj : tlK K s (rgo (K s) (7 + 3 * k)) < 1000000 ∧ tlK K (rgo (K s) (7 + 3 * k)) s < 1000000) (hns : rgo (K s) (7 + 3 * k) ≠ s) : dK n K s t ≤ rgo (K s) (8 + 3 * k) + dK n K (rgo (K s) (7 + 3 * k)) t := by
  obtain ⟨b1, b2, b3, b4⟩ := (hK s).2 k hk
  have t1 := dK_tri (K := K) hs b1 ht
  have t2 : dK n K s (rgo (K s) (7 + 3 * k)) ≤ wK K s (rgo (K s) (7 + 3 * k)) := phs_le n
  have t3 : wK K s (rgo (K s) (7 + 3 * k)) = tlK K s (rgo (K s) (7 + 3 * k)) := by
    unfold wK
    rw [if_neg (Ne.symm hns), if_pos hj]
  have t4 : tlK K s (rgo (K s) (7 + 3 * k)) ≤ rgo (K s) (8 + 3 * k) := tlo_of _ 0 _ k (by omega) (by omega) rfl
  omega
theorem cand_ex (hs : s < n) (ht : t < n) (hst : t ≠ s) (hv : dK n K s t < 1000000) : ∃ k, k < rgo (K s) 5 ∧ (tlK K s (rgo (K s) (7 + 3 * k)) < 1000000 ∧ tlK K (rgo (K s) (7 + 3 * k)) s < 1000000) ∧ rgo (K s) (7 + 3 * k) ≠ s ∧ rgo (K s) (7 + 3 * k) < n ∧ rgo (K s) (8 + 3 * k) + dK n K (rgo (K s) (7 + 3 * k)) t ≤ dK n K s t := by
  have hle : ∀ k, k ≤ n → ∀ a b, a < n → b < n → dK n K a b ≤ phs n k (wK K) a b := by
    intro k hk a b _ _
    have : ∀ d, phs n (k + d) (wK K) a b ≤ phs n k (wK K) a b := by
      intro d
      induction d with
      | zero => exact Nat.le_refl _
      | succ d ih => exact Nat.le_trans ph_le ih
    have := this (n - k)
    rw [show k + (n - k) = n by omega] at this
    exact this
  obtain ⟨c, c1, c2, c3, c4⟩ := phs_hop (F := 1000000) (E := dK n K) (wK_dg K) (fun _ _ _ _ => Nat.le_refl _) (fun a m b ha hm hb => dK_tri ha hm hb) hle n (Nat.le_refl _) s t hs ht (Ne.symm hst) hv
  have hj : tlK K s c < 1000000 ∧ tlK K c s < 1000000 := by
    by_cases z : tlK K s c < 1000000 ∧ tlK K c s < 1000000
    · exact z
    · unfold wK at c3
      rw [if_neg (Ne.symm c2), if_neg z] at c3
      omega
  have ew : wK K s c = tlK K s c := by
    unfold wK
    rw [if_neg (Ne.symm c2), if_pos hj]
  obtain ⟨j, j1, j2, j3, j4⟩ := tlo_in (rgo (K s) 5) 0 1000000 hj.1
  refine ⟨j, by omega, by rw [j3]; exact hj, by rw [j3]; exact c2, by rw [j3]; exact c1, ?_⟩
  rw [j3, j4]
  have : tlo (K s) c 0 (rgo (K s) 5) 1000000 = wK K s c := ew.symm
  rw [this]
  exact c4
/-- too far for both -/
theorem wyr_far (hK : rKo n K) (hs : s < n) (ht : t < n) (hv : 1000000 ≤ dK n K s t) : ∀ d k port, k + d = rgo (K s) 5 → wyr n K s t k d 1000000 port = port
  | 0, _, _, _ => rfl
  | d + 1, k, port, hk => by
    unfold wyr
    by_cases q : rgo (K s) (7 + 3 * k) = s
    · rw [if_pos q]; exact wyr_far hK hs ht hv d (k + 1) port (by omega)
    · rw [if_neg q]
      by_cases z : tlK K s (rgo (K s) (7 + 3 * k)) < 1000000 ∧ tlK K (rgo (K s) (7 + 3 * k)) s < 1000000
      · rw [if_pos z]
        have := cand_ge hK hs ht (k := k) (by omega) z q
        rw [if_neg (by omega)]
        exact wyr_far hK hs ht hv d (k + 1) port (by omega)
      · rw [if_neg z]; exact wyr_far hK hs ht hv d (k + 1) port (by omega)
/-- once the best is there it stays -/
theorem wyr_best (hK : rKo n K) (hs : s < n) (ht : t < n) : ∀ d k port, k + d = rgo (K s) 5 → wyr n K s t k d (dK n K s t) port = port
  | 0, _, _, _ => rfl
  | d + 1, k, port, hk => by
    unfold wyr
    by_cases q : rgo (K s) (7 + 3 * k) = s
    · rw [if_pos q]; exact wyr_best hK hs ht d (k + 1) port (by omega)
    · rw [if_neg q]
      by_cases z : tlK K s (rgo (K s) (7 + 3 * k)) < 1000000 ∧ tlK K (rgo (K s) (7 + 3 * k)) s < 1000000
      · rw [if_pos z]
        have := cand_ge hK hs ht (k := k) (by omega) z q
        rw [if_neg (by omega)]
        exact wyr_best hK hs ht d (k + 1) port (by omega)
      · rw [if_neg z]; exact wyr_best hK hs ht d (k + 1) port (by omega)
theorem wyr_near (hK : rKo n K) (hs : s < n) (ht : t < n) : ∀ d k best port, k + d = rgo (K s) 5 → dK n K s t < best → (∃ j, k ≤ j ∧ j < k + d ∧ (tlK K s (rgo (K s) (7 + 3 * j)) < 1000000 ∧ tlK K (rgo (K s) (7 + 3 * j)) s < 1000000) ∧ rgo (K s) (7 + 3 * j) ≠ s ∧ rgo (K s) (7 + 3 * j) < n ∧ rgo (K s) (8 + 3 * j) + dK n K (rgo (K s) (7 + 3 * j)) t ≤ dK n K s t) → wyr n K s t k d best port = wyc n K s t k d
  | 0, k, best, port, hk, hb, ⟨j, j1, j2, _⟩ => by omega
  | d + 1, k, best, port, hk, hb, ⟨j, j1, j2, j3, j4, j5, j6⟩ => by
    unfold wyr wyc
    have next : j ≠ k → ∃ j, k + 1 ≤ j ∧ j < k + 1 + d ∧ (tlK K s (rgo (K s) (7 + 3 * j)) < 1000000 ∧ tlK K (rgo (K s) (7 + 3 * j)) s < 1000000) ∧ rgo (K s) (7 + 3 * j) ≠ s ∧ rgo (K s) (7 + 3 * j) < n ∧ rgo (K s) (8 + 3 * j) + dK n K (rgo (K s) (7 + 3 * j)) t ≤ dK n K s t := fun q => ⟨j, by omega, by omega, j3, j4, j5, j6⟩
    obtain ⟨b1, b2, b3, b4⟩ := (hK s).2 k (by omega)
    by_cases q : rgo (K s) (7 + 3 * k) = s
    · have hjk : j ≠ k := fun z => j4 (z ▸ q)
      have c1 : ¬ (rgo (K s) (7 + 3 * k) < n ∧ (tlK K s (rgo (K s) (7 + 3 * k)) < 1000000 ∧ tlK K (rgo (K s) (7 + 3 * k)) s < 1000000) ∧ rgo (K s) (8 + 3 * k) + dK n K (rgo (K s) (7 + 3 * k)) t = dK n K s t) := by
        rintro ⟨-, -, z⟩
        rw [q] at z
        omega
      rw [if_pos q, if_neg c1]
      exact wyr_near hK hs ht d (k + 1) best port (by omega) hb (next hjk)
    · rw [if_neg q]
      by_cases z : tlK K s (rgo (K s) (7 + 3 * k)) < 1000000 ∧ tlK K (rgo (K s) (7 + 3 * k)) s < 1000000
      · rw [if_pos z]
        have hge := cand_ge hK hs ht (k := k) (by omega) z q
        by_cases y : rgo (K s) (8 + 3 * k) + dK n K (rgo (K s) (7 + 3 * k)) t = dK n K s t
        · rw [if_pos (by omega), if_pos ⟨b1, z, y⟩, y]
          exact wyr_best hK hs ht d (k + 1) _ (by omega)
        · have hjk : j ≠ k := fun x => by subst x; omega
          have cN : ¬ (rgo (K s) (7 + 3 * k) < n ∧ (tlK K s (rgo (K s) (7 + 3 * k)) < 1000000 ∧ tlK K (rgo (K s) (7 + 3 * k)) s < 1000000) ∧ rgo (K s) (8 + 3 * k) + dK n K (rgo (K s) (7 + 3 * k)) t = dK n K s t) := fun x => y x.2.2
          by_cases x : rgo (K s) (8 + 3 * k) + dK n K (rgo (K s) (7 + 3 * k)) t < best
          · rw [if_pos x, if_neg cN]
            exact wyr_near hK hs ht d (k + 1) _ _ (by omega) (by omega) (next hjk)
          · rw [if_neg x, if_neg cN]
            exact wyr_near hK hs ht d (k + 1) best port (by omega) hb (next hjk)
      · have hjk : j ≠ k := fun x => z (x ▸ j3)
        rw [if_neg z, if_neg (fun x => z x.2.1)]
        exact wyr_near hK hs ht d (k + 1) best port (by omega) hb (next hjk)
/-- both find the same port -/
theorem wy_same (hK : rKo n K) (hs : s < n) (ht : t < n) (hst : t ≠ s) : wyr n K s t 0 (rgo (K s) 5) 1000000 (-1) = wyK n K s t := by
  unfold wyK
  rw [if_neg hst]
  by_cases c : 1000000 ≤ dK n K s t
  · rw [if_pos c]
    exact wyr_far hK hs ht c _ 0 _ (by omega)
  · rw [if_neg c]
    obtain ⟨k, k1, k2, k3, k4, k5⟩ := cand_ex (K := K) hs ht hst (by omega)
    exact wyr_near hK hs ht _ 0 _ _ (by omega) (by omega) ⟨k, by omega, by omega, k2, k3, k4, k5⟩
/-- a way is a port below 8, or -1 -/
theorem wyc_rg (hK : rKo n K) : ∀ d k, k + d = rgo (K s) 5 → wyc n K s t k d = -1 ∨ ∃ j, j < rgo (K s) 5 ∧ wyc n K s t k d = nI (rgo (K s) (6 + 3 * j)) ∧ rgo (K s) (6 + 3 * j) < 8
  | 0, _, _ => Or.inl rfl
  | d + 1, k, hk => by
    unfold wyc
    split
    · exact Or.inr ⟨k, by omega, rfl, ((hK s).2 k (by omega)).2.2.2⟩
    · exact wyc_rg hK d (k + 1) (by omega)
theorem wyK_rg (hK : rKo n K) : wyK n K s t = -1 ∨ ∃ j, j < rgo (K s) 5 ∧ wyK n K s t = nI (rgo (K s) (6 + 3 * j)) ∧ rgo (K s) (6 + 3 * j) < 8 := by
  unfold wyK
  split
  · exact Or.inl rfl
  · split
    · exact Or.inl rfl
    · exact wyc_rg hK _ 0 (by omega)
end WY
