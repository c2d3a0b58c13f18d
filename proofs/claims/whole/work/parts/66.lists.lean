/-! ===== lists by places ===== -/
/-- how many lie in the places below n -/
def sumL {α : Type} (f : Nat → List α) : Nat → Nat
  | 0 => 0
  | n + 1 => sumL f n + (f n).length
theorem sumL_ge {α : Type} {f g : Nat → List α} : ∀ n, (∀ p, p < n → f p = g p) → sumL f n = sumL g n
  | 0, _ => rfl
  | n + 1, h => by
    show sumL f n + (f n).length = sumL g n + (g n).length
    rw [sumL_ge n (fun p hp => h p (by omega)), h n (by omega)]
theorem sumL_u1 {α : Type} {f : Nat → List α} {p : Nat} {l : List α} : ∀ n, sumL (u1 f p l) n + (if p < n then (f p).length else 0) = sumL f n + (if p < n then l.length else 0)
  | 0 => rfl
  | n + 1 => by
    have ih := sumL_u1 (f := f) (p := p) (l := l) n
    show sumL (u1 f p l) n + (u1 f p l n).length + _ = sumL f n + (f n).length + _
    by_cases q : n = p
    · subst q
      rw [show u1 f n l n = l from if_pos rfl, if_pos (by omega), if_pos (by omega)]
      rw [if_neg (by omega), if_neg (by omega)] at ih
      omega
    · rw [show u1 f p l n = f n from if_neg q]
      by_cases q2 : p < n
      · rw [if_pos q2, if_pos q2] at ih
        rw [if_pos (by omega), if_pos (by omega)]
        omega
      · rw [if_neg q2, if_neg q2] at ih
        rw [if_neg (by omega), if_neg (by omega)]
        omega
/-- one is moved from place p to place q -/
theorem sumL_mv {α : Type} {f : Nat → List α} {p q n : Nat} {l m : List α} (hpq : p ≠ q) (hp : p < n) (hq : q < n) (h1 : (f p).length = l.length + 1) (h2 : m.length = (f q).length + 1) : sumL (u1 (u1 f p l) q m) n = sumL f n := by
  have a := sumL_u1 (f := f) (p := p) (l := l) n
  have b := sumL_u1 (f := u1 f p l) (p := q) (l := m) n
  rw [if_pos hp, if_pos hp] at a
  rw [if_pos hq, if_pos hq, show u1 f p l q = f q from if_neg (Ne.symm hpq)] at b
  omega
theorem sumL_le {α : Type} {f : Nat → List α} {k : Nat} : ∀ n, (∀ p, p < n → (f p).length ≤ k) → sumL f n ≤ k * n
  | 0, _ => by show 0 ≤ _; omega
  | n + 1, h => by
    have := sumL_le n (fun p hp => h p (by omega))
    have := h n (by omega)
    show sumL f n + (f n).length ≤ k * (n + 1)
    rw [Nat.mul_succ]
    omega
theorem sumL_ap {α : Type} {f : Nat → List α} : ∀ m n, sumL f (m + n) = sumL f m + sumL (fun p => f (m + p)) n
  | m, 0 => rfl
  | m, n + 1 => by
    show sumL f (m + n) + (f (m + n)).length = sumL f m + (sumL (fun p => f (m + p)) n + (f (m + n)).length)
    rw [sumL_ap m n]
    omega
theorem u1_eq {α : Type} {f : Nat → α} {a : Nat} {v : α} : u1 f a v a = v := if_pos rfl
theorem u1_ne {α : Type} {f : Nat → α} {a b : Nat} {v : α} (h : b ≠ a) : u1 f a v b = f b := if_neg h
/-! ===== chains ===== -/
def ch (nx : Nat → Option Nat) : Option Nat → List Nat → Prop
  | o, [] => o = none
  | o, a :: l => o = some a ∧ ch nx (nx a) l
theorem ch_cg {nx ny : Nat → Option Nat} : ∀ {o : Option Nat} {l : List Nat}, (∀ a, a ∈ l → ny a = nx a) → ch nx o l → ch ny o l
  | _, [], _, h => h
  | _, a :: l, he, h => ⟨h.1, by
    rw [he a (List.mem_cons_self)]
    exact ch_cg (fun b hb => he b (List.mem_cons_of_mem _ hb)) h.2⟩
theorem ch_hd {nx : Nat → Option Nat} {o : Option Nat} {l : List Nat} (h : ch nx o l) : o = l.head? := by
  cases l with
  | nil => exact h
  | cons a l => exact h.1
/-- one more behind the last -/
theorem ch_ad {nx ny : Nat → Option Nat} {a : Nat} (h0 : ny a = none) : ∀ {o : Option Nat} {l : List Nat}, l ≠ [] → l.Nodup → (∀ b, b ∈ l → l.getLast? ≠ some b → ny b = nx b) → (∀ b, l.getLast? = some b → ny b = some a) → ch nx o l → ch ny o (l ++ [a])
  | _, [], hne, _, _, _, _ => absurd rfl hne
  | _, [b], _, _, _, hl, h => ⟨h.1, by rw [hl b rfl]; exact ⟨rfl, h0⟩⟩
  | _, b :: c :: l, _, hn, he, hl, h => by
    have hn2 := (List.nodup_cons.mp hn)
    refine ⟨h.1, ?_⟩
    have e : (b :: c :: l).getLast? = (c :: l).getLast? := List.getLast?_cons_cons
    rw [he b List.mem_cons_self (by
      rw [e]
      intro q
      exact hn2.1 (List.mem_of_getLast? q))]
    exact ch_ad h0 (by intro q; cases q) hn2.2 (fun x hx q => he x (List.mem_cons_of_mem _ hx) (by rw [e]; exact q)) (fun x q => hl x (by rw [e]; exact q)) h.2
