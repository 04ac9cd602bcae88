/-! what holds of the model's deeds: no day is ahead, closings are of different CHARGES, oaths are counted; so there is room -/
def nOa (M : Mm) : Nat → Int
  | 0 => 0
  | n + 1 => nOa M n + (if 0 ≤ M 86 n then 1 else 0)
def nCl (M : Mm) (c : Nat) : Nat → Int
  | 0 => 0
  | n + 1 => nCl M c n + (if M 86 n < 0 ∧ M 87 n = (c : Int) then 1 else 0)
def sumC (f : Nat → Int) : Nat → Int
  | 0 => 0
  | n + 1 => sumC f n + f n
theorem sumC_one {c : Nat} (g : Nat → Int) : ∀ n : Nat, sumC (fun k => g k + (if c = k then 1 else 0)) n = sumC g n + (if c < n then 1 else 0) := by
  intro n
  induction n with
  | zero => rfl
  | succ n ih =>
    show sumC _ n + (g n + (if c = n then 1 else 0)) = sumC g n + g n + (if c < n + 1 then 1 else 0)
    rw [ih]
    by_cases h1 : c < n
    · rw [if_pos h1, if_neg (by omega), if_pos (by omega)]
      omega
    · by_cases h2 : c = n
      · rw [if_neg h1, if_pos h2, if_pos (by omega)]
        omega
      · rw [if_neg h1, if_neg h2, if_neg (by omega)]
        omega
theorem sumC_congr {f g : Nat → Int} (h : ∀ k, f k = g k) : ∀ n, sumC f n = sumC g n := by
  intro n
  induction n with
  | zero => rfl
  | succ n ih => show sumC f n + f n = sumC g n + g n; rw [ih, h]
theorem sumC_le {f : Nat → Int} {n : Nat} (h : ∀ k, k < n → f k ≤ 1) : sumC f n ≤ n := by
  induction n with
  | zero => exact Int.le_refl _
  | succ n ih =>
    have a := ih (fun k hk => h k (by omega))
    have b := h n (by omega)
    show sumC f n + f n ≤ ((n + 1 : Nat) : Int)
    omega
theorem sumC_lt {f : Nat → Int} {n c : Nat} (h : ∀ k, k < n → f k ≤ 1) (hc : c < n) (h0 : f c = 0) : sumC f n + 1 ≤ n := by
  induction n with
  | zero => omega
  | succ n ih =>
    show sumC f n + f n + 1 ≤ ((n + 1 : Nat) : Int)
    by_cases e : c = n
    · subst e
      have := sumC_le (f := f) (n := c) (fun k hk => h k (by omega))
      omega
    · have a := ih (fun k hk => h k (by omega)) (by omega)
      have b := h n (by omega)
      omega
/-- every deed is an oath or a closing of one CHARGE -/
theorem deeds_sum {M : Mm} (hc : ∀ j : Nat, 0 ≤ M 87 j ∧ M 87 j ≤ 19) : ∀ n : Nat, (n : Int) = nOa M n + sumC (fun c => nCl M c n) 20 := by
  intro n
  induction n with
  | zero => rfl
  | succ n ih =>
    by_cases h : 0 ≤ M 86 n
    · have e : sumC (fun c => nCl M c (n + 1)) 20 = sumC (fun c => nCl M c n) 20 := sumC_congr (fun k => by
        show nCl M k n + (if M 86 n < 0 ∧ M 87 n = (k : Int) then 1 else 0) = nCl M k n
        rw [if_neg (by omega)]
        omega) 20
      show ((n + 1 : Nat) : Int) = nOa M n + (if 0 ≤ M 86 n then 1 else 0) + _
      rw [e, if_pos h]
      omega
    · obtain ⟨c1, c2⟩ := hc n
      have e : sumC (fun c => nCl M c (n + 1)) 20 = sumC (fun c => nCl M c n) 20 + 1 := by
        have e1 := sumC_one (c := (M 87 n).toNat) (fun c => nCl M c n) 20
        rw [if_pos (by omega)] at e1
        rw [← e1]
        refine sumC_congr (fun k => ?_) 20
        show nCl M k n + (if M 86 n < 0 ∧ M 87 n = (k : Int) then 1 else 0) = nCl M k n + (if (M 87 n).toNat = k then 1 else 0)
        congr 1
        by_cases q : (M 87 n).toNat = k
        · rw [if_pos q, if_pos ⟨by omega, by omega⟩]
        · rw [if_neg q, if_neg (by omega)]
      show ((n + 1 : Nat) : Int) = nOa M n + (if 0 ≤ M 86 n then 1 else 0) + _
      rw [e, if_neg h]
      omega
theorem nCl_none {M : Mm} {c : Nat} : ∀ {n : Nat}, (∀ j : Nat, j < n → M 86 j < 0 → M 87 j ≠ (c : Int)) → nCl M c n = 0 := by
  intro n
  induction n with
  | zero => intro _; rfl
  | succ n ih =>
    intro h
    show nCl M c n + (if M 86 n < 0 ∧ M 87 n = (c : Int) then 1 else 0) = 0
    rw [ih (fun j hj => h j (by omega)), if_neg (fun q => h n (by omega) q.1 q.2)]
    rfl
theorem nCl_one {M : Mm} {c : Nat} : ∀ {n : Nat}, (∀ i j : Nat, i < n → j < n → M 86 i < 0 → M 86 j < 0 → M 87 i = M 87 j → i = j) → nCl M c n ≤ 1 := by
  intro n
  induction n with
  | zero => intro _; show (0 : Int) ≤ 1; omega
  | succ n ih =>
    intro h
    show nCl M c n + (if M 86 n < 0 ∧ M 87 n = (c : Int) then 1 else 0) ≤ 1
    by_cases q : M 86 n < 0 ∧ M 87 n = (c : Int)
    · rw [if_pos q, nCl_none (fun j hj h1 h2 => by
        have := h j n (by omega) (by omega) h1 q.1 (by rw [h2, q.2])
        omega)]
      omega
    · rw [if_neg q]
      have := ih (fun i j hi hj => h i j (by omega) (by omega))
      omega
def JM (M : Mm) : Prop := (∀ j : Nat, (j : Int) < M 65 28 → M 88 j ≤ M 65 0) ∧ (∀ i j : Nat, (i : Int) < M 65 28 → (j : Int) < M 65 28 → M 86 i < 0 → M 86 j < 0 → M 87 i = M 87 j → i = j) ∧ nOa M (M 65 28).toNat = M 65 34 ∧ M 65 34 ≤ 100
theorem JM_c {M : Mm} (hT : okTT M) (j : Nat) : 0 ≤ M 87 j ∧ M 87 j ≤ 19 := by
  have := hT 87 j
  rw [tiv_a (i := (0, 19)) rfl] at this
  exact this
/-- room for an oath -/
theorem room_o {M : Mm} (hT : okTT M) (hJ : JM M) (ho : M 65 34 ≤ 99) : M 65 28 ≤ 119 := by
  obtain ⟨-, j2, j3, j4⟩ := hJ
  have b : 0 ≤ M 65 28 ∧ M 65 28 ≤ 120 := hT 65 28
  have s := deeds_sum (JM_c hT) (M 65 28).toNat
  have l := sumC_le (f := fun c => nCl M c (M 65 28).toNat) (n := 20) (fun k _ => nCl_one (fun i j hi hj => j2 i j (by omega) (by omega)))
  have l : sumC (fun c => nCl M c (M 65 28).toNat) 20 ≤ 20 := l
  omega
/-- room for a closing of a CHARGE that was not closed -/
theorem room_c {M : Mm} (hT : okTT M) (hJ : JM M) {c : Nat} (hc : c < 20) (hn : ∀ j : Nat, (j : Int) < M 65 28 → M 86 j < 0 → M 87 j ≠ (c : Int)) : M 65 28 ≤ 119 := by
  obtain ⟨-, j2, j3, j4⟩ := hJ
  have b : 0 ≤ M 65 28 ∧ M 65 28 ≤ 120 := hT 65 28
  have s := deeds_sum (JM_c hT) (M 65 28).toNat
  have l := sumC_lt (f := fun c => nCl M c (M 65 28).toNat) (n := 20) (c := c) (fun k _ => nCl_one (fun i j hi hj => j2 i j (by omega) (by omega))) hc (nCl_none (fun j hj => hn j (by omega)))
  have l : sumC (fun c => nCl M c (M 65 28).toNat) 20 + 1 ≤ 20 := l
  omega
