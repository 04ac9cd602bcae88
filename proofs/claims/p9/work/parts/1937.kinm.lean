/-! the ways up: a table of steps that is learnt row by row, and the same found by climbing -/
def viT (T : Nat → Nat → Int) (x : Int) (q : Nat) : Int := if x < 0 then -1 else T x.toNat q
def nxT (u v : Int) : Int := if u = -1 ∨ (v ≠ -1 ∧ v < u) then (if v = -1 then -1 else v + 1) else u + 1
/-- the first n rows are as learnt -/
def TBn (F G : Nat → Int) (T : Nat → Nat → Int) (n : Nat) : Prop := ∀ p : Nat, p < n → (-1 ≤ F p ∧ F p < p) ∧ (-1 ≤ G p ∧ G p < p) ∧ T p p = 0 ∧ ∀ q : Nat, q < 30 → q ≠ p → T p q = nxT (viT T (F p) q) (viT T (G p) q)
def eT (T : Nat → Nat → Int) (p q : Nat) : Int := if T p q = -1 then 99 else T p q
section TBL
variable {F G : Nat → Int} {T : Nat → Nat → Int} {n : Nat}
theorem tb_rng (h : TBn F G T n) (hn : n ≤ 30) : ∀ p : Nat, p < n → ∀ q : Nat, q < 30 → T p q = -1 ∨ (0 ≤ T p q ∧ (q : Int) + T p q ≤ p) := by
  intro p
  induction p using Nat.strongRecOn with
  | _ p ih =>
    intro hp q hq
    obtain ⟨⟨f1, f2⟩, ⟨g1, g2⟩, h0, h1⟩ := h p hp
    by_cases e : q = p
    · subst e
      exact Or.inr ⟨by omega, by omega⟩
    · rw [h1 q hq e]
      have a : ∀ x : Int, -1 ≤ x → x < p → viT T x q = -1 ∨ (0 ≤ viT T x q ∧ (q : Int) + viT T x q ≤ (p : Int) - 1) := fun x x1 x2 => by
        unfold viT
        by_cases hx : x < 0
        · rw [if_pos hx]; exact Or.inl rfl
        · rw [if_neg hx]
          rcases ih x.toNat (by omega) (by omega) q hq with r | r
          · exact Or.inl r
          · exact Or.inr ⟨r.1, by omega⟩
      have a1 := a (F p) f1 f2
      have a2 := a (G p) g1 g2
      unfold nxT
      split
      · split <;> omega
      · omega
theorem eT_b (h : TBn F G T n) (hn : n ≤ 30) {p q : Nat} (hp : p < n) (hq : q < 30) : 0 ≤ eT T p q ∧ eT T p q ≤ 99 ∧ (eT T p q < 99 → T p q = eT T p q ∧ (q : Int) + eT T p q ≤ p) ∧ (eT T p q = 99 → T p q = -1) := by
  have r := tb_rng h hn p hp q hq
  unfold eT
  split <;> omega
/-- the row of a parent, as far as it is one -/
def eV (T : Nat → Nat → Int) (x : Int) (q : Nat) : Int := if x < 0 then 99 else eT T x.toNat q
theorem eV_b (h : TBn F G T n) (hn : n ≤ 30) {x : Int} {q : Nat} (hx : x < n) (hq : q < 30) : 0 ≤ eV T x q ∧ eV T x q ≤ 99 ∧ (eV T x q < 99 → eV T x q ≤ 29 ∧ viT T x q = eV T x q) ∧ (eV T x q = 99 → viT T x q = -1) := by
  unfold eV viT
  by_cases hx0 : x < 0
  · rw [if_pos hx0, if_pos hx0]
    omega
  · rw [if_neg hx0, if_neg hx0]
    have b := eT_b h hn (p := x.toNat) (q := q) (by omega) hq
    exact ⟨b.1, b.2.1, fun g => ⟨by have := (b.2.2.1 g).2; omega, (b.2.2.1 g).1⟩, b.2.2.2⟩
theorem eT_rec (h : TBn F G T n) (hn : n ≤ 30) {p q : Nat} (hp : p < n) (hq : q < 30) (e : q ≠ p) : (eT T p q = 99 ∧ eV T (F p) q = 99 ∧ eV T (G p) q = 99) ∨ (eT T p q < 99 ∧ eT T p q ≤ eV T (F p) q + 1 ∧ eT T p q ≤ eV T (G p) q + 1 ∧ (eT T p q = eV T (F p) q + 1 ∨ eT T p q = eV T (G p) q + 1)) := by
  obtain ⟨⟨f1, f2⟩, ⟨g1, g2⟩, -, h1⟩ := h p hp
  have a1 := eV_b h hn (x := F p) (q := q) (by omega) hq
  have a2 := eV_b h hn (x := G p) (q := q) (by omega) hq
  have t := h1 q hq e
  unfold nxT at t
  have et : eT T p q = if T p q = -1 then 99 else T p q := rfl
  generalize eV T (F p) q = x at a1 ⊢
  generalize eV T (G p) q = y at a2 ⊢
  generalize viT T (F p) q = u at a1 t
  generalize viT T (G p) q = v at a2 t
  generalize T p q = w at t et
  generalize eT T p q = z at et ⊢
  by_cases hx : x < 99
  · have hu := (a1.2.2.1 hx)
    by_cases hy : y < 99
    · have hv := (a2.2.2.1 hy)
      by_cases c : u = -1 ∨ (v ≠ -1 ∧ v < u)
      · rw [if_pos c, if_neg (by omega)] at t
        rw [if_neg (by omega)] at et
        exact Or.inr (by omega)
      · rw [if_neg c] at t
        rw [if_neg (by omega)] at et
        exact Or.inr (by omega)
    · have hv := a2.2.2.2 (by omega)
      rw [if_neg (by omega)] at t
      rw [if_neg (by omega)] at et
      exact Or.inr (by omega)
  · have hu := a1.2.2.2 (by omega)
    rw [if_pos (Or.inl hu)] at t
    by_cases hy : y < 99
    · have hv := (a2.2.2.1 hy)
      rw [if_neg (by omega)] at t
      rw [if_neg (by omega)] at et
      exact Or.inr (by omega)
    · have hv := a2.2.2.2 (by omega)
      rw [if_pos hv] at t
      rw [if_pos t] at et
      exact Or.inl (by omega)
theorem eT_self (h : TBn F G T n) {p : Nat} (hp : p < n) : eT T p p = 0 := by
  unfold eT
  rw [(h p hp).2.2.1]
  rfl
/-- a parent of k is at most one step on -/
theorem eT_tri (h : TBn F G T n) (hn : n ≤ 30) {k j : Nat} (hk : k < n) (hj : (j : Int) = F k ∨ (j : Int) = G k) : ∀ p : Nat, p < n → eT T p k < 99 → eT T p j ≤ eT T p k + 1 := by
  have hjk : j < k := by
    have := h k hk
    omega
  intro p
  induction p using Nat.strongRecOn with
  | _ p ih =>
    intro hp hl
    obtain ⟨⟨f1, f2⟩, ⟨g1, g2⟩, -, -⟩ := h p hp
    have bk := eT_b h hn (p := p) (q := k) hp (by omega)
    by_cases ej : j = p
    · subst ej
      rw [eT_self h hp]
      omega
    have rj := eT_rec h hn (p := p) (q := j) hp (by omega) ej
    by_cases ek : k = p
    · subst ek
      rw [eT_self h hp]
      have vj : eV T (j : Int) j = 0 := by
        unfold eV
        rw [if_neg (by omega)]
        exact eT_self h (by omega)
      rcases hj with hj | hj
      · rw [← hj, vj] at rj
        omega
      · rw [← hj, vj] at rj
        omega
    · have rk := eT_rec h hn (p := p) (q := k) hp (by omega) ek
      have st : ∀ x : Int, x < p → eV T x k < 99 → eV T x j ≤ eV T x k + 1 := fun x hx hl2 => by
        unfold eV at hl2 ⊢
        by_cases x0 : x < 0
        · rw [if_pos x0] at hl2
          omega
        · rw [if_neg x0] at hl2 ⊢
          rw [if_neg x0]
          exact ih x.toNat (by omega) (by omega) hl2
      have s1 := st (F p) f2
      have s2 := st (G p) g2
      have bj1 := eV_b h hn (x := F p) (q := j) (by omega) (by omega)
      have bj2 := eV_b h hn (x := G p) (q := j) (by omega) (by omega)
      omega
/-- the last step of a way -/
theorem eT_last (h : TBn F G T n) (hn : n ≤ 30) {j : Nat} (hj : j < 30) : ∀ p : Nat, p < n → j ≠ p → eT T p j < 99 → ∃ c : Nat, c ≤ p ∧ j < c ∧ ((j : Int) = F c ∨ (j : Int) = G c) ∧ eT T p c + 1 = eT T p j := by
  intro p
  induction p using Nat.strongRecOn with
  | _ p ih =>
    intro hp hne hl
    obtain ⟨⟨f1, f2⟩, ⟨g1, g2⟩, -, -⟩ := h p hp
    have rj := eT_rec h hn (p := p) (q := j) hp hj hne
    have go : ∀ x : Int, -1 ≤ x → x < p → (x = F p ∨ x = G p) → eT T p j = eV T x j + 1 → ∃ c : Nat, c ≤ p ∧ j < c ∧ ((j : Int) = F c ∨ (j : Int) = G c) ∧ eT T p c + 1 = eT T p j := fun x x1 x2 hx he => by
      unfold eV at he
      by_cases x0 : x < 0
      · rw [if_pos x0] at he
        omega
      · rw [if_neg x0] at he
        by_cases ex : j = x.toNat
        · refine ⟨p, Nat.le_refl _, by omega, by omega, ?_⟩
          rw [eT_self h hp]
          rw [← ex, eT_self h (by omega)] at he
          omega
        · obtain ⟨c, c1, c2, c3, c4⟩ := ih x.toNat (by omega) (by omega) ex (by omega)
          refine ⟨c, by omega, c2, c3, ?_⟩
          have bc := eT_b h hn (p := x.toNat) (q := c) (by omega) (by omega)
          have rc := eT_rec h hn (p := p) (q := c) hp (by omega) (by omega)
          have tr := eT_tri h hn (k := c) (j := j) (by omega) c3 p hp
          have vc : eV T x c = eT T x.toNat c := by unfold eV; rw [if_neg x0]
          rcases hx with hx | hx
          · rw [← hx, vc] at rc
            omega
          · rw [← hx, vc] at rc
            omega
    rcases rj with ⟨r1, -, -⟩ | ⟨-, -, -, r | r⟩
    · omega
    · exact go (F p) f1 f2 (Or.inl rfl) r
    · exact go (G p) g1 g2 (Or.inr rfl) r
/-- what holds while climbing from p, when all above i have been gone through -/
def clI (F G : Nat → Int) (T : Nat → Nat → Int) (p : Nat) (i : Int) (U : Nat → Int) : Prop := (∀ j : Nat, j < 30 → eT T p j ≤ U j ∧ U j ≤ 99) ∧ U p = 0 ∧ ∀ c : Nat, i < c → c ≤ p → ∀ j : Nat, ((j : Int) = F c ∨ (j : Int) = G c) → eT T p c < 99 → U j ≤ eT T p c + 1
theorem clI_at (h : TBn F G T n) (hn : n ≤ 30) {p : Nat} (hp : p < n) {i : Int} {U : Nat → Int} (hI : clI F G T p i U) {k : Nat} (hk : k < 30) (hi : i ≤ k) : U k = eT T p k := by
  obtain ⟨i1, i2, i3⟩ := hI
  have b := i1 k hk
  by_cases e : k = p
  · subst e
    rw [i2, eT_self h hp]
  by_cases hl : eT T p k < 99
  · obtain ⟨c, c1, c2, c3, c4⟩ := eT_last h hn hk p hp e hl
    have := i3 c (by omega) c1 k c3 (by omega)
    omega
  · omega
theorem clI_0 (h : TBn F G T n) (hn : n ≤ 30) {p : Nat} (hp : p < n) {U : Nat → Int} (hU : ∀ j : Nat, j < 30 → U j = if j = p then 0 else 99) : clI F G T p p U := by
  refine ⟨fun j hj => ?_, by rw [hU p (by omega), if_pos rfl], fun c c1 c2 => by omega⟩
  rw [hU j hj]
  by_cases e : j = p
  · subst e
    rw [if_pos rfl, eT_self h hp]
    omega
  · rw [if_neg e]
    have := eT_b h hn (p := p) (q := j) hp hj
    omega
/-- one is gone through -/
theorem clI_s (h : TBn F G T n) (hn : n ≤ 30) {p : Nat} (hp : p < n) {k : Nat} (hk : k ≤ p) {U V : Nat → Int} (hI : clI F G T p k U) (hV : ∀ j : Nat, j < 30 → V j ≤ U j ∧ (V j = U j ∨ (U k < 99 ∧ ((j : Int) = F k ∨ (j : Int) = G k) ∧ V j = U k + 1)) ∧ (U k < 99 → ((j : Int) = F k ∨ (j : Int) = G k) → V j ≤ U k + 1)) : clI F G T p ((k : Int) - 1) V := by
  have ek := clI_at h hn hp hI (k := k) (by omega) (Int.le_refl _)
  obtain ⟨i1, i2, i3⟩ := hI
  have hpk := h k (by omega)
  refine ⟨fun j hj => ?_, ?_, fun c c1 c2 j hj hl => ?_⟩
  · obtain ⟨v1, v2, v3⟩ := hV j hj
    have b := i1 j hj
    refine ⟨?_, by omega⟩
    rcases v2 with v2 | ⟨v2, v4, v5⟩
    · omega
    · have t := eT_tri h hn (k := k) (j := j) (by omega) v4 p hp (by omega)
      omega
  · obtain ⟨v1, v2, v3⟩ := hV p (by omega)
    have b := i1 p (by omega)
    rcases v2 with v2 | ⟨v2, v4, v5⟩
    · omega
    · omega
  · have hpc := h c (by omega)
    obtain ⟨v1, v2, v3⟩ := hV j (by omega)
    by_cases e : c = k
    · subst e
      have := v3 (by omega) hj
      omega
    · have := i3 c (by omega) c2 j hj hl
      omega
end TBL
/-! the nearest of both: by either look -/
def mStep (s n : Int) (m : Int × Int × Int) : Int × Int × Int := (if s < m.1 then s else m.1, if s < m.1 then n else m.2.1, if s < m.1 then 1 else if s = m.1 then m.2.2 + 1 else m.2.2)
def cStep (x y n : Int) (d : Int × Int × Int) : Int × Int × Int := if x = -1 ∨ y = -1 ∨ 8 < x + y then d else if d.1 = -1 ∨ x + y < d.1 then (x + y, n, 1) else if x + y = d.1 then (d.1, d.2.1, d.2.2 + 1) else d
def mF (S : Nat → Int) : Nat → Int × Int × Int
  | 0 => (99, -1, 0)
  | n + 1 => mStep (S n) n (mF S n)
def cF (A B : Nat → Int) : Nat → Int × Int × Int
  | 0 => (-1, -1, 0)
  | n + 1 => cStep (A n) (B n) n (cF A B n)
def rMC (m d : Int × Int × Int) : Prop := 0 ≤ m.1 ∧ -1 ≤ d.1 ∧ ((8 < m.1 ∧ d.1 = -1 ∧ d.2.1 = -1 ∧ d.2.2 = 0) ∨ (m.1 ≤ 8 ∧ d.1 = m.1 ∧ d.2.1 = m.2.1 ∧ d.2.2 = m.2.2))
theorem rMC_s {m d : Int × Int × Int} (h : rMC m d) {s x y n : Int} (hx : -1 ≤ x) (hy : -1 ≤ y) (h1 : (x = -1 ∨ y = -1) → 99 ≤ s) (h2 : x ≠ -1 → y ≠ -1 → s = x + y) : rMC (mStep s n m) (cStep x y n d) := by
  obtain ⟨m1, m2, m3⟩ := m
  obtain ⟨d1, d2, d3⟩ := d
  unfold rMC at h ⊢
  unfold mStep cStep
  dsimp only at h ⊢
  by_cases c1 : x = -1 ∨ y = -1 ∨ 8 < x + y
  · rw [if_pos c1]
    have hs : 8 < s := by omega
    by_cases c2 : s < m1
    · rw [if_pos c2, if_pos c2, if_pos c2]
      dsimp only
      omega
    · rw [if_neg c2, if_neg c2, if_neg c2]
      by_cases c3 : s = m1
      · rw [if_pos c3]
        dsimp only
        omega
      · rw [if_neg c3]
        exact h
  · rw [if_neg c1]
    have hs := h2 (by omega) (by omega)
    by_cases c2 : d1 = -1 ∨ x + y < d1
    · rw [if_pos c2]
      have c3 : s < m1 := by omega
      rw [if_pos c3, if_pos c3, if_pos c3]
      dsimp only
      omega
    · rw [if_neg c2]
      have c3 : ¬ s < m1 := by omega
      rw [if_neg c3, if_neg c3, if_neg c3]
      by_cases c4 : x + y = d1
      · have c5 : s = m1 := by omega
        rw [if_pos c4, if_pos c5]
        dsimp only
        omega
      · have c5 : ¬ s = m1 := by omega
        rw [if_neg c4, if_neg c5]
        exact h
theorem mF_cF {A B S : Nat → Int} {c : Nat} (h : ∀ k : Nat, k < c → -1 ≤ A k ∧ -1 ≤ B k ∧ ((A k = -1 ∨ B k = -1) → 99 ≤ S k) ∧ (A k ≠ -1 → B k ≠ -1 → S k = A k + B k)) : ∀ n : Nat, n ≤ c → rMC (mF S n) (cF A B n) := by
  intro n
  induction n with
  | zero => intro _; exact ⟨(by decide : (0 : Int) ≤ 99), (by decide : (-1 : Int) ≤ -1), Or.inl ⟨(by decide : (8 : Int) < 99), rfl, rfl, rfl⟩⟩
  | succ n ih =>
    intro hn
    obtain ⟨h1, h2, h3, h4⟩ := h n (by omega)
    exact rMC_s (ih (by omega)) h1 h2 h3 h4
theorem cF_stay {A B : Nat → Int} {l : Nat} : ∀ n : Nat, (∀ k : Nat, l ≤ k → k < l + n → A k = -1 ∨ B k = -1) → cF A B (l + n) = cF A B l := by
  intro n
  induction n with
  | zero => intro _; rfl
  | succ n ih =>
    intro h
    show cStep (A (l + n)) (B (l + n)) _ (cF A B (l + n)) = cF A B l
    rw [ih (fun k h1 h2 => h k h1 (by omega))]
    unfold cStep
    rw [if_pos (by
      have := h (l + n) (by omega) (by omega)
      omega)]
