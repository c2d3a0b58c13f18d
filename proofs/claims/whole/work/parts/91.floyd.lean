/-! ===== sums of costs ===== -/
/-- one step of the sums -/
def fs1 (m a b : Nat) (D : Nat → Nat → Nat) : Nat → Nat → Nat := u2 D a b (min (D a b) (D a m + D m b))
def fsb (m a : Nat) : Nat → Nat → (Nat → Nat → Nat) → Nat → Nat → Nat
  | _, 0, D => D
  | b, d + 1, D => fsb m a (b + 1) d (fs1 m a b D)
def fsa (n m : Nat) : Nat → Nat → (Nat → Nat → Nat) → Nat → Nat → Nat
  | _, 0, D => D
  | a, d + 1, D => fsa n m (a + 1) d (fsb m a 0 n D)
def fsm (n : Nat) : Nat → Nat → (Nat → Nat → Nat) → Nat → Nat → Nat
  | _, 0, D => D
  | m, d + 1, D => fsm n (m + 1) d (fsa n m 0 n D)
/-- a whole turn over m -/
def ph (n m : Nat) (D : Nat → Nat → Nat) : Nat → Nat → Nat := fun a b => if a < n ∧ b < n then min (D a b) (D a m + D m b) else D a b
/-- how far a turn has come: rows below a0, and in row a0 the columns below b0 -/
def phI (n m a0 b0 : Nat) (D : Nat → Nat → Nat) : Nat → Nat → Nat := fun a b => if (a < n ∧ b < n) ∧ (a < a0 ∨ (a = a0 ∧ b < b0)) then min (D a b) (D a m + D m b) else D a b
section FW
variable {n m : Nat} {D : Nat → Nat → Nat}
theorem ph_m (h0 : D m m = 0) {a : Nat} : min (D a m) (D a m + D m m) = D a m := by rw [h0]; simp
theorem ph_m2 (h0 : D m m = 0) {b : Nat} : min (D m b) (D m m + D m b) = D m b := by rw [h0]; simp
theorem phI_am (h0 : D m m = 0) {a0 b0 a : Nat} : phI n m a0 b0 D a m = D a m := by
  unfold phI
  split
  · exact ph_m h0
  · rfl
theorem phI_mb (h0 : D m m = 0) {a0 b0 b : Nat} : phI n m a0 b0 D m b = D m b := by
  unfold phI
  split
  · exact ph_m2 h0
  · rfl
theorem fs1_I (h0 : D m m = 0) {a b : Nat} (ha : a < n) (hb : b < n) : fs1 m a b (phI n m a b D) = phI n m a (b + 1) D := by
  funext x y
  unfold fs1
  rw [phI_am h0, phI_mb h0]
  have e0 : phI n m a b D a b = D a b := by
    unfold phI
    rw [if_neg (by omega)]
  rw [e0]
  unfold u2
  by_cases q : x = a ∧ y = b
  · rw [if_pos q, q.1, q.2]
    unfold phI
    rw [if_pos (by omega)]
  · rw [if_neg q]
    unfold phI
    by_cases c : (x < n ∧ y < n) ∧ (x < a ∨ (x = a ∧ y < b))
    · rw [if_pos c, if_pos (by omega)]
    · rw [if_neg c, if_neg (by omega)]
theorem fsb_I (h0 : D m m = 0) {a : Nat} (ha : a < n) : ∀ d b, b + d = n → fsb m a b d (phI n m a b D) = phI n m a n D
  | 0, b, hb => by
    have : b = n := by omega
    subst this
    rfl
  | d + 1, b, hb => by
    show fsb m a (b + 1) d (fs1 m a b (phI n m a b D)) = _
    rw [fs1_I h0 ha (by omega)]
    exact fsb_I h0 ha d (b + 1) (by omega)
theorem phI_next {a : Nat} : phI n m a n D = phI n m (a + 1) 0 D := by
  funext x y
  unfold phI
  by_cases c : (x < n ∧ y < n) ∧ (x < a ∨ (x = a ∧ y < n))
  · rw [if_pos c, if_pos (by omega)]
  · rw [if_neg c, if_neg (by omega)]
theorem fsa_I (h0 : D m m = 0) : ∀ d a, a + d = n → fsa n m a d (phI n m a 0 D) = ph n m D
  | 0, a, ha => by
    have : a = n := by omega
    subst this
    funext x y
    show phI a m a 0 D x y = ph a m D x y
    unfold phI ph
    by_cases c : x < a ∧ y < a
    · rw [if_pos (by omega), if_pos c]
    · rw [if_neg (by omega), if_neg c]
  | d + 1, a, ha => by
    show fsa n m (a + 1) d (fsb m a 0 n (phI n m a 0 D)) = _
    rw [fsb_I h0 (by omega) n 0 (by omega), phI_next]
    exact fsa_I h0 d (a + 1) (by omega)
theorem fsa_eq (h0 : D m m = 0) : fsa n m 0 n D = ph n m D := by
  have : D = phI n m 0 0 D := by
    funext x y
    unfold phI
    rw [if_neg (by omega)]
  rw [this, fsa_I (D := D) h0 n 0 (by omega)]
  rw [← this]
/-- the turns one behind another -/
def phs (n : Nat) : Nat → (Nat → Nat → Nat) → Nat → Nat → Nat
  | 0, D => D
  | k + 1, D => ph n k (phs n k D)
theorem ph_dg {k : Nat} (h : ∀ a, D a a = 0) : ∀ a, ph n k D a a = 0 := fun a => by
  unfold ph
  split
  · rw [h a]; simp
  · exact h a
theorem phs_dg (h : ∀ a, D a a = 0) : ∀ k a, phs n k D a a = 0
  | 0, a => h a
  | k + 1, a => ph_dg (phs_dg h k) a
theorem fsm_eq (h : ∀ a, D a a = 0) : ∀ d m, m + d = n → fsm n m d (phs n m D) = phs n n D
  | 0, m, hm => by
    have : m = n := by omega
    subst this
    rfl
  | d + 1, m, hm => by
    show fsm n (m + 1) d (fsa n m 0 n (phs n m D)) = _
    rw [fsa_eq (phs_dg h m m)]
    exact fsm_eq h d (m + 1) (by omega)
theorem fw_eq (h : ∀ a, D a a = 0) : fsm n 0 n D = phs n n D := fsm_eq h n 0 (by omega)
theorem ph_le {k a b : Nat} : ph n k D a b ≤ D a b := by
  unfold ph
  split
  · exact Nat.min_le_left _ _
  · exact Nat.le_refl _
theorem phs_le {a b : Nat} : ∀ k, phs n k D a b ≤ D a b
  | 0 => Nat.le_refl _
  | k + 1 => Nat.le_trans ph_le (phs_le k)
/-- no detour over m < k is shorter -/
theorem phs_tri (h : ∀ a, D a a = 0) : ∀ k, k ≤ n → ∀ m a b, m < k → a < n → b < n → phs n k D a b ≤ phs n k D a m + phs n k D m b
  | 0, _, _, _, _, hm, _, _ => by omega
  | k + 1, hk, m, a, b, hm, ha, hb => by
    have dg := phs_dg (n := n) h k k
    have ih := phs_tri h k (by omega)
    show ph n k (phs n k D) a b ≤ ph n k (phs n k D) a m + ph n k (phs n k D) m b
    have e1 : ph n k (phs n k D) a b = min (phs n k D a b) (phs n k D a k + phs n k D k b) := if_pos ⟨ha, hb⟩
    have e2 : ph n k (phs n k D) a m = min (phs n k D a m) (phs n k D a k + phs n k D k m) := if_pos ⟨ha, by omega⟩
    have e3 : ph n k (phs n k D) m b = min (phs n k D m b) (phs n k D m k + phs n k D k b) := if_pos ⟨by omega, hb⟩
    rw [e1, e2, e3]
    by_cases q : m = k
    · subst q
      rw [dg]
      omega
    · have t1 := ih m a b (by omega) ha hb
      have t2 := ih m a k (by omega) ha (by omega)
      have t3 := ih m k b (by omega) (by omega) hb
      omega
/-- the first hop of a shortest way: E the last sums -/
theorem phs_hop {E : Nat → Nat → Nat} {F : Nat} (h : ∀ a, D a a = 0) (hE : ∀ a b, a < n → b < n → E a b ≤ phs n n D a b) (ht : ∀ a m b, a < n → m < n → b < n → E a b ≤ E a m + E m b) (hle : ∀ k, k ≤ n → ∀ a b, a < n → b < n → E a b ≤ phs n k D a b) : ∀ k, k ≤ n → ∀ a b, a < n → b < n → a ≠ b → phs n k D a b < F → ∃ c, c < n ∧ c ≠ a ∧ D a c < F ∧ D a c + E c b ≤ phs n k D a b
  | 0, _, a, b, ha, hb, hab, hF => by
    have : E b b ≤ 0 := by
      have := hE b b hb hb
      rw [phs_dg h] at this
      exact this
    exact ⟨b, hb, Ne.symm hab, hF, by show D a b + E b b ≤ D a b; omega⟩
  | k + 1, hk, a, b, ha, hb, hab, hF => by
    have ih := phs_hop (F := F) h hE ht hle k (by omega)
    have e1 : phs n (k + 1) D a b = min (phs n k D a b) (phs n k D a k + phs n k D k b) := if_pos ⟨ha, hb⟩
    rw [e1] at hF ⊢
    by_cases q : phs n k D a b ≤ phs n k D a k + phs n k D k b
    · rw [Nat.min_eq_left q] at hF ⊢
      exact ih a b ha hb hab hF
    · rw [Nat.min_eq_right (by omega)] at hF ⊢
      by_cases z : a = k
      · subst z
        rw [phs_dg h] at q
        omega
      · obtain ⟨c, c1, c2, c3, c4⟩ := ih a k ha (by omega) z (by omega)
        refine ⟨c, c1, c2, c3, ?_⟩
        have t1 := ht c k b c1 (by omega) hb
        have t2 := hle k (by omega) k b (by omega) hb
        omega
/-- more rows, of which nothing is known -/
theorem phs_more {n5 F : Nat} {D5 : Nat → Nat → Nat} (hn : n ≤ n5) (h : ∀ a, D a a = 0) (h5 : ∀ a, D5 a a = 0) (he : ∀ a b, a < n → b < n → D5 a b = D a b) (hf : ∀ a b, a < n5 → b < n5 → a ≠ b → (n ≤ a ∨ n ≤ b) → D5 a b = F) (hF : ∀ a b, a < n → b < n → D a b ≤ F) : ∀ k, k ≤ n5 → (∀ a b, a < n → b < n → phs n5 k D5 a b = phs n (min k n) D a b) ∧ (∀ a b, a < n5 → b < n5 → a ≠ b → (n ≤ a ∨ n ≤ b) → phs n5 k D5 a b = F)
  | 0, _ => ⟨fun a b ha hb => by show D5 a b = phs n (min 0 n) D a b; rw [Nat.zero_min]; exact he a b ha hb, hf⟩
  | k + 1, hk => by
    obtain ⟨i1, i2⟩ := phs_more hn h h5 he hf hF k (by omega)
    have ej : ∀ a b, a < n5 → b < n5 → phs n5 (k + 1) D5 a b = min (phs n5 k D5 a b) (phs n5 k D5 a k + phs n5 k D5 k b) := fun a b ha hb => if_pos ⟨ha, hb⟩
    have le5 : ∀ a b, a < n → b < n → phs n5 k D5 a b ≤ F := fun a b ha hb => by
      rw [i1 a b ha hb]
      exact Nat.le_trans (phs_le _) (hF a b ha hb)
    refine ⟨fun a b ha hb => ?_, fun a b ha hb hab hz => ?_⟩
    · rw [ej a b (by omega) (by omega)]
      by_cases q : k < n
      · rw [show min (k + 1) n = k + 1 by omega]
        have e : phs n (k + 1) D a b = min (phs n k D a b) (phs n k D a k + phs n k D k b) := if_pos ⟨ha, hb⟩
        rw [e, i1 a b ha hb, i1 a k ha q, i1 k b q hb, show min k n = k by omega]
      · rw [show min (k + 1) n = min k n by omega, ← i1 a b ha hb]
        have := i2 a k (by omega) (by omega) (by omega) (Or.inr (by omega))
        have := le5 a b ha hb
        omega
    · rw [ej a b ha hb, i2 a b ha hb hab hz]
      by_cases q : a = k
      · subst q
        rw [phs_dg h5, i2 a b ha hb hab hz]
        omega
      · by_cases q2 : k = b
        · subst q2
          rw [phs_dg h5, i2 a k ha hb hab hz]
          omega
        · rcases hz with hz | hz
          · rw [i2 a k ha (by omega) q (Or.inl hz)]
            omega
          · rw [i2 k b (by omega) hb q2 (Or.inr hz)]
            omega
end FW
