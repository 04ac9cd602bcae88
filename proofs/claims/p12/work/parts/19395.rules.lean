/-! the rules of a part, up to the semicolon -/
abbrev RO : Type := Int × Nat × Nat × (Nat → Int)
abbrev RO.f (r : RO) : Int := r.1
abbrev RO.pl (r : RO) : Nat := r.2.1
abbrev RO.en (r : RO) : Nat := r.2.2.1
abbrev RO.row (r : RO) : Nat → Int := r.2.2.2
def rwN (t : Nat → Int) (L a : Nat) (row : Nat → Int) : Nat → Int := fun s => if (s : Int) = slM (rR t L a) (rKy t L a) then nV t L (rA t L a) else row s
def rls (t : Nat → Int) (L : Nat) : Nat → Nat → (Nat → Int) → RO
  | 0, x, row => ⟨1, skB t L x, x, row⟩
  | n + 1, x, row => if skB t L x < L ∧ t (skB t L x) = 59 then ⟨0, skB t L x, skB t L x + 1, row⟩ else if rFt t L (skB t L x) ≠ 0 then ⟨rFt t L (skB t L x), rPl t L (skB t L x), skB t L x, row⟩ else rls t L n (nG t L (rA t L (skB t L x))) (rwN t L (skB t L x) row)
section RLS
variable {t : Nat → Int} {L n x a : Nat} {row : Nat → Int}
theorem rR_gt (h : rR t L a ≠ -1) : a < wdE t L a := by
  have q : a ≤ wdE t L a := goF_ge _ _
  by_cases e : wdE t L a = a
  · exfalso
    apply h
    unfold rR
    rw [e, Nat.sub_self]
    rfl
  · omega
theorem rA_b (haL : a ≤ L) : wdE t L a ≤ rA t L a ∧ rA t L a ≤ L := by
  have b := wdE_b (t := t) haL
  have c := nG_b (t := t) b.2
  unfold rA rwE
  split <;> omega
theorem rFt_R (h : rFt t L a = 0) : rR t L a ≠ -1 := by
  intro e
  unfold rFt at h
  rw [if_pos e] at h
  exact absurd h (by decide)
theorem rFt_gt (haL : a ≤ L) (h : rFt t L a = 0) : a < nG t L (rA t L a) ∧ nG t L (rA t L a) ≤ L := by
  have g := rR_gt (rFt_R h)
  have b := rA_b (t := t) haL
  have c := nG_b (t := t) b.2
  omega
theorem rFt_L : rFt t L L = 1 ∧ rPl t L L = L := by
  have e : rR t L L = -1 := by
    by_cases h : rR t L L = -1
    · exact h
    · have := rR_gt h
      have r : wdE t L L ≤ L := goF_le _ _ (Nat.le_refl _)
      exact absurd r (by omega)
  unfold rFt rPl
  rw [if_pos e, if_pos e]
  exact ⟨rfl, rfl⟩
theorem rls_semi (hn : L ≤ x + n) (hx : x ≤ L) (h : skB t L x < L ∧ t (skB t L x) = 59) : rls t L n x row = ⟨0, skB t L x, skB t L x + 1, row⟩ := by
  have b := skB_b (t := t) hx
  match n with
  | 0 => exact absurd h.1 (by omega)
  | n + 1 => exact if_pos h
theorem rls_fault (hn : L ≤ x + n) (hx : x ≤ L) (h : ¬ (skB t L x < L ∧ t (skB t L x) = 59)) (g : rFt t L (skB t L x) ≠ 0) : (rls t L n x row).f = rFt t L (skB t L x) ∧ (rls t L n x row).pl = rPl t L (skB t L x) := by
  have b := skB_b (t := t) hx
  match n with
  | 0 =>
    have e : skB t L x = L := by omega
    have q := rFt_L (t := t) (L := L)
    rw [e, q.1, q.2]
    exact ⟨rfl, e⟩
  | n + 1 =>
    have q : rls t L (n + 1) x row = ⟨rFt t L (skB t L x), rPl t L (skB t L x), skB t L x, row⟩ := (if_neg h).trans (if_pos g)
    rw [q]
    exact ⟨rfl, rfl⟩
theorem rls_go (hn : L ≤ x + n) (hx : x ≤ L) (h : ¬ (skB t L x < L ∧ t (skB t L x) = 59)) (g : rFt t L (skB t L x) = 0) : ∃ m : Nat, n = m + 1 ∧ rls t L n x row = rls t L m (nG t L (rA t L (skB t L x))) (rwN t L (skB t L x) row) := by
  have b := skB_b (t := t) hx
  match n with
  | 0 =>
    have e : skB t L x = L := by omega
    have q := rFt_L (t := t) (L := L)
    rw [e, q.1] at g
    exact absurd g (by decide)
  | n + 1 => exact ⟨n, rfl, (if_neg h).trans (if_neg (fun k => k g))⟩
end RLS
section RLT
variable {t : Nat → Int} {L n x a p : Nat} {row : Nat → Int} {prev : Int}
theorem rls_en : ∀ (n x : Nat) (row : Nat → Int), x ≤ L → (rls t L n x row).f = 0 → (rls t L n x row).en ≤ L := by
  intro n
  induction n with
  | zero => intro x row _ h; exact absurd (show (1 : Int) = 0 from h) (by decide)
  | succ n ih =>
    intro x row hx h
    have b := skB_b (t := t) hx
    by_cases c1 : skB t L x < L ∧ t (skB t L x) = 59
    · have e : rls t L (n + 1) x row = ⟨0, skB t L x, skB t L x + 1, row⟩ := if_pos c1
      rw [e]
      exact c1.1
    · by_cases c2 : rFt t L (skB t L x) ≠ 0
      · have e : rls t L (n + 1) x row = ⟨rFt t L (skB t L x), rPl t L (skB t L x), skB t L x, row⟩ := (if_neg c1).trans (if_pos c2)
        rw [e] at h
        exact absurd h c2
      · have e : rls t L (n + 1) x row = rls t L n (nG t L (rA t L (skB t L x))) (rwN t L (skB t L x) row) := (if_neg c1).trans (if_neg c2)
        rw [e] at h ⊢
        have g := rFt_gt b.2 (show rFt t L (skB t L x) = 0 by omega)
        exact ih _ _ g.2 h
theorem skB_sk (hx : x ≤ L) (hL : L ≤ 240) : skB t L (skB t L x) = skB t L x := goF_no (goF_end 240 x (by omega)) 240
theorem nG_sk (hx : x ≤ L) (hL : L ≤ 240) : nG t L (skB t L x) = nG t L x := by
  unfold nG
  rw [skB_sk hx hL]
theorem nV_sk (hx : x ≤ L) (hL : L ≤ 240) : nV t L (skB t L x) = nV t L x := by
  unfold nV
  rw [nG_sk hx hL, skB_sk hx hL]
theorem nf_sk {lim : Int} (hx : x ≤ L) (hL : L ≤ 240) : nf t L lim (skB t L x) = nf t L lim x := by
  unfold nf
  rw [nG_sk hx hL, skB_sk hx hL]
/-! a part's head: the word, the day -/
abbrev isF (t : Nat → Int) (L a : Nat) : Prop := wvF t a (wdE t L a - a) = 131638
def hdF (t : Nat → Int) (L a p : Nat) (prev : Int) : Int := if isF t L a then (if 8 ≤ p then 4 else if nf t L 9999 (wdE t L a) ≠ 0 then nf t L 9999 (wdE t L a) else if 0 < p ∧ nV t L (wdE t L a) ≤ prev then 3 else 0) else 1
def hdP (t : Nat → Int) (L a p : Nat) : Nat := if isF t L a then (if 8 ≤ p then a else skB t L (wdE t L a)) else a
theorem hdF_1 (h : ¬ isF t L a) : hdF t L a p prev = 1 ∧ hdP t L a p = a := ⟨if_neg h, if_neg h⟩
theorem hdF_4 (h : isF t L a) (h8 : 8 ≤ p) : hdF t L a p prev = 4 ∧ hdP t L a p = a := ⟨(if_pos h).trans (if_pos h8), (if_pos h).trans (if_pos h8)⟩
theorem hdF_n (h : isF t L a) (h8 : ¬ 8 ≤ p) (hn : nf t L 9999 (wdE t L a) ≠ 0) : hdF t L a p prev = nf t L 9999 (wdE t L a) ∧ hdP t L a p = skB t L (wdE t L a) := ⟨(if_pos h).trans ((if_neg h8).trans (if_pos hn)), (if_pos h).trans (if_neg h8)⟩
theorem hdF_3 (h : isF t L a) (h8 : ¬ 8 ≤ p) (hn : nf t L 9999 (wdE t L a) = 0) (h3 : 0 < p ∧ nV t L (wdE t L a) ≤ prev) : hdF t L a p prev = 3 ∧ hdP t L a p = skB t L (wdE t L a) := ⟨(if_pos h).trans ((if_neg h8).trans ((if_neg (fun k => k hn)).trans (if_pos h3))), (if_pos h).trans (if_neg h8)⟩
theorem hdF_0 (h : isF t L a) (h8 : ¬ 8 ≤ p) (hn : nf t L 9999 (wdE t L a) = 0) (h3 : ¬ (0 < p ∧ nV t L (wdE t L a) ≤ prev)) : hdF t L a p prev = 0 := (if_pos h).trans ((if_neg h8).trans ((if_neg (fun k => k hn)).trans (if_neg h3)))
theorem hdF_prev {prev' : Int} (h : p = 0 ∨ prev = prev') : hdF t L a p prev = hdF t L a p prev' := by
  rcases h with h | h
  · subst h
    unfold hdF
    rw [if_neg (show ¬ (0 < 0 ∧ nV t L (wdE t L a) ≤ prev) from fun k => absurd k.1 (by decide)), if_neg (show ¬ (0 < 0 ∧ nV t L (wdE t L a) ≤ prev') from fun k => absurd k.1 (by decide))]
  · rw [h]
theorem hdF_8 (h : hdF t L a 8 prev = 0) : False := by
  by_cases c : isF t L a
  · rw [(hdF_4 c (Nat.le_refl 8)).1] at h
    exact absurd h (by decide)
  · rw [(hdF_1 (p := 8) (prev := prev) c).1] at h
    exact absurd h (by decide)
end RLT
/-- a part's rules; its fault; the fault's place; a at its first letter -/
def ptR (t : Nat → Int) (L a : Nat) : RO := rls t L 240 (nG t L (wdE t L a)) (fun _ => -1)
def ptF (t : Nat → Int) (L a p : Nat) (prev : Int) : Int := if hdF t L a p prev ≠ 0 then hdF t L a p prev else (ptR t L a).f
def ptP (t : Nat → Int) (L a p : Nat) (prev : Int) : Nat := if hdF t L a p prev ≠ 0 then hdP t L a p else (ptR t L a).pl
theorem ptF_h {t : Nat → Int} {L a p : Nat} {prev : Int} (h : hdF t L a p prev ≠ 0) : ptF t L a p prev = hdF t L a p prev ∧ ptP t L a p prev = hdP t L a p := ⟨if_pos h, if_pos h⟩
theorem ptF_r {t : Nat → Int} {L a p : Nat} {prev : Int} (h : hdF t L a p prev = 0) : ptF t L a p prev = (ptR t L a).f ∧ ptP t L a p prev = (ptR t L a).pl := ⟨if_neg (fun k => k h), if_neg (fun k => k h)⟩
theorem ptF_prev {t : Nat → Int} {L a p : Nat} {prev prev' : Int} (h : p = 0 ∨ prev = prev') : ptF t L a p prev = ptF t L a p prev' ∧ ptP t L a p prev = ptP t L a p prev' := by
  unfold ptF ptP
  rw [hdF_prev h]
  exact ⟨rfl, rfl⟩
/-! the whole text: where part p begins, its day, its fault -/
def psN (t : Nat → Int) (L : Nat) : Nat → Nat
  | 0 => 0
  | p + 1 => (ptR t L (skB t L (psN t L p))).en
def dyN (t : Nat → Int) (L p : Nat) : Int := nV t L (wdE t L (skB t L (psN t L p)))
def pvN (t : Nat → Int) (L : Nat) : Nat → Int
  | 0 => 0
  | p + 1 => dyN t L p
def pfN (t : Nat → Int) (L p : Nat) : Int := ptF t L (skB t L (psN t L p)) p (pvN t L p)
def ppN (t : Nat → Int) (L p : Nat) : Nat := ptP t L (skB t L (psN t L p)) p (pvN t L p)
def rwR (t : Nat → Int) (L p : Nat) : Nat → Int := (ptR t L (skB t L (psN t L p))).row
theorem psN_le {t : Nat → Int} {L : Nat} : ∀ p : Nat, (∀ q : Nat, q < p → pfN t L q = 0) → psN t L p ≤ L := by
  intro p
  induction p with
  | zero => intro _; exact Nat.zero_le _
  | succ p ih =>
    intro h
    have b := skB_b (t := t) (ih fun q hq => h q (by omega))
    have bg := wdE_b (t := t) b.2
    have bn := nG_b (t := t) bg.2
    have f := h p (by omega)
    unfold pfN at f
    by_cases c : hdF t L (skB t L (psN t L p)) p (pvN t L p) = 0
    · rw [(ptF_r c).1] at f
      exact rls_en 240 _ _ bn.2.1 f
    · rw [(ptF_h c).1] at f
      exact absurd f c
/-- how far the text goes well: n parts; then it ends, or the next has a fault -/
def OutH (t : Nat → Int) (L n : Nat) : Prop := (∀ q : Nat, q < n → pfN t L q = 0) ∧ ∀ q : Nat, 0 < q → q < n → skB t L (psN t L q) < L
def OutG (t : Nat → Int) (L n : Nat) : Prop := 0 < n ∧ ¬ skB t L (psN t L n) < L
def OutB (t : Nat → Int) (L n : Nat) : Prop := (n = 0 ∨ skB t L (psN t L n) < L) ∧ pfN t L n ≠ 0
theorem Out_lt {t : Nat → Int} {L n m : Nat} (h : OutG t L n ∨ OutB t L n) (k : OutH t L m) : ¬ n < m := by
  intro c
  rcases h with h | h
  · exact h.2 (k.2 n h.1 c)
  · exact h.2 (k.1 n c)
theorem Out_eq {t : Nat → Int} {L n m : Nat} (h1 : OutH t L n) (h2 : OutG t L n ∨ OutB t L n) (k1 : OutH t L m) (k2 : OutG t L m ∨ OutB t L m) : n = m := by
  have a := Out_lt h2 k1
  have b := Out_lt k2 h1
  omega
theorem OutGB {t : Nat → Int} {L n : Nat} (g : OutG t L n) (b : OutB t L n) : False := by
  rcases b.1 with c | c
  · have := g.1; omega
  · exact g.2 c
/-! a row of the class over a row of the model -/
def piN (s : Nat) : Nat := if s < 8 then s else if s < 14 then s + 4 else if s < 18 then s - 6 else s
theorem pi_c {s : Nat} : (s < 8 ∧ piN s = s) ∨ (8 ≤ s ∧ s < 14 ∧ piN s = s + 4) ∨ (14 ≤ s ∧ s < 18 ∧ piN s = s - 6) ∨ (18 ≤ s ∧ piN s = s) := by
  unfold piN
  split
  · omega
  · split
    · omega
    · split <;> omega
theorem slv {r k : Int} (hr : 0 ≤ r ∧ r ≤ 10) : (r = 0 ∧ slM r k = k ∧ slX r = 0) ∨ (r = 1 ∧ slM r k = 4 + k ∧ slX r = 4) ∨ (r = 8 ∧ slM r k = 8 + k ∧ slX r = 14) ∨ (r ≠ 0 ∧ r ≠ 1 ∧ r ≠ 8 ∧ r < 8 ∧ slM r k = 10 + r ∧ slX r = r + 6) ∨ (r ≠ 0 ∧ r ≠ 1 ∧ r ≠ 8 ∧ ¬ r < 8 ∧ slM r k = 9 + r ∧ slX r = r + 9) := by
  unfold slM slX
  by_cases c0 : r = 0
  · rw [if_pos c0, if_pos c0]; exact Or.inl ⟨c0, rfl, rfl⟩
  by_cases c1 : r = 1
  · rw [if_neg c0, if_neg c0, if_pos c1, if_pos c1]; exact Or.inr (Or.inl ⟨c1, rfl, rfl⟩)
  by_cases c8 : r = 8
  · rw [if_neg c0, if_neg c0, if_neg c1, if_neg c1, if_pos c8, if_pos c8]; exact Or.inr (Or.inr (Or.inl ⟨c8, rfl, rfl⟩))
  by_cases c9 : r < 8
  · rw [if_neg c0, if_neg c0, if_neg c1, if_neg c1, if_neg c8, if_neg c8, if_pos c9, if_pos c9]; exact Or.inr (Or.inr (Or.inr (Or.inl ⟨c0, c1, c8, c9, rfl, rfl⟩)))
  · rw [if_neg c0, if_neg c0, if_neg c1, if_neg c1, if_neg c8, if_neg c8, if_neg c9, if_neg c9]; exact Or.inr (Or.inr (Or.inr (Or.inr ⟨c0, c1, c8, c9, rfl, rfl⟩)))
theorem pi_sl {r k : Int} {s : Nat} (hs : s < 20) (hr : 0 ≤ r ∧ r ≤ 10) (h1 : kyR r → 0 ≤ k ∧ k ≤ 3) (h2 : ¬ kyR r → k = 0) : ((piN s : Nat) : Int) = slM r k ↔ (s : Int) = slX r + k := by
  have hc : (r = 0 ∨ r = 1 ∨ r = 8) ∧ (0 ≤ k ∧ k ≤ 3) ∨ (r ≠ 0 ∧ r ≠ 1 ∧ r ≠ 8) ∧ k = 0 := by
    by_cases c : kyR r
    · exact Or.inl ⟨c, h1 c⟩
    · refine Or.inr ⟨⟨fun e => c (Or.inl e), fun e => c (Or.inr (Or.inl e)), fun e => c (Or.inr (Or.inr e))⟩, h2 c⟩
  have p := pi_c (s := s)
  have q := slv (r := r) (k := k) hr
  omega
theorem rKy_b {t : Nat → Int} {L a : Nat} (h : rFt t L a = 0) : (0 ≤ rR t L a ∧ rR t L a ≤ 10) ∧ (kyR (rR t L a) → 0 ≤ rKy t L a ∧ rKy t L a ≤ 3) ∧ (¬ kyR (rR t L a) → rKy t L a = 0) := by
  have hR := rFt_R h
  have b := rnW_b (rF_ok (wvF t a (wdE t L a - a)))
  have b : -1 ≤ rR t L a ∧ rR t L a ≤ 10 := b
  refine ⟨by omega, fun c => ?_, fun c => if_neg c⟩
  have e : rKy t L a = nV t L (rwE t L a) := if_pos c
  have e2 : rKf t L a = nf t L 3 (rwE t L a) := if_pos c
  have bv := nV_b (t := t) (L := L) (a := rwE t L a)
  have k0 : rKf t L a = 0 := by
    by_cases g : rKf t L a = 0
    · exact g
    · have q : rFt t L a = rKf t L a := (if_neg hR).trans (if_pos g)
      omega
  rw [e2] at k0
  have bl := nV_lim k0
  rw [e]
  omega
def ovl (B : Nat → Int) (p : Nat) (row : Nat → Int) (j : Nat) : Int := if 20 * p ≤ j ∧ j < 20 * p + 20 ∧ 0 ≤ row (piN (j - 20 * p)) then row (piN (j - 20 * p)) else B j
theorem ovl_m1 {B : Nat → Int} {p j : Nat} : ovl B p (fun _ => -1) j = B j := if_neg (fun h => absurd h.2.2 (show ¬ ((0 : Int) ≤ -1) by decide))
theorem ovl_lo {B : Nat → Int} {p j : Nat} {row : Nat → Int} (h : j < 20 * p) : ovl B p row j = B j := if_neg (by omega)
theorem slk_b {r k : Int} (hr : 0 ≤ r ∧ r ≤ 10) (h1 : kyR r → 0 ≤ k ∧ k ≤ 3) (h2 : ¬ kyR r → k = 0) : 0 ≤ slX r + k ∧ slX r + k ≤ 19 ∧ 0 ≤ slM r k ∧ slM r k ≤ 19 := by
  have hc : (r = 0 ∨ r = 1 ∨ r = 8) ∧ (0 ≤ k ∧ k ≤ 3) ∨ (r ≠ 0 ∧ r ≠ 1 ∧ r ≠ 8) ∧ k = 0 := by
    by_cases c : kyR r
    · exact Or.inl ⟨c, h1 c⟩
    · refine Or.inr ⟨⟨fun e => c (Or.inl e), fun e => c (Or.inr (Or.inl e)), fun e => c (Or.inr (Or.inr e))⟩, h2 c⟩
  have q := slv (r := r) (k := k) hr
  omega
theorem ovl_rw {t : Nat → Int} {L a p j : Nat} {B row : Nat → Int} (h : rFt t L a = 0) : (if (j : Int) = (p : Int) * 20 + (slX (rR t L a) + rKy t L a) then nV t L (rA t L a) else ovl B p row j) = ovl B p (rwN t L a row) j := by
  obtain ⟨hr, h1, h2⟩ := rKy_b h
  have bs := slk_b hr h1 h2
  have bv := nV_b (t := t) (L := L) (a := rA t L a)
  by_cases hj : 20 * p ≤ j ∧ j < 20 * p + 20
  · have key := pi_sl (r := rR t L a) (k := rKy t L a) (s := j - 20 * p) (by omega) hr h1 h2
    by_cases e : ((j - 20 * p : Nat) : Int) = slX (rR t L a) + rKy t L a
    · rw [if_pos (by omega)]
      have q : rwN t L a row (piN (j - 20 * p)) = nV t L (rA t L a) := if_pos (key.2 e)
      unfold ovl
      rw [q, if_pos ⟨hj.1, hj.2, bv.1⟩]
    · rw [if_neg (by omega)]
      have q : rwN t L a row (piN (j - 20 * p)) = row (piN (j - 20 * p)) := if_neg (fun k => e (key.1 k))
      unfold ovl
      rw [q]
  · rw [if_neg (by omega)]
    unfold ovl
    rw [if_neg (fun k => hj ⟨k.1, k.2.1⟩), if_neg (fun k => hj ⟨k.1, k.2.1⟩)]
def rwM (B : Nat → Int) (p : Nat) (row : Nat → Int) (j : Nat) : Int := if 20 * p ≤ j ∧ j < 20 * p + 20 then row (j - 20 * p) else B j
theorem rwM_rw {t : Nat → Int} {L a p j : Nat} {B row : Nat → Int} (h : rFt t L a = 0) : (if (j : Int) = 20 * (p : Int) + slM (rR t L a) (rKy t L a) then nV t L (rA t L a) else rwM B p row j) = rwM B p (rwN t L a row) j := by
  obtain ⟨hr, h1, h2⟩ := rKy_b h
  have bs := slk_b hr h1 h2
  by_cases hj : 20 * p ≤ j ∧ j < 20 * p + 20
  · unfold rwM
    rw [if_pos hj, if_pos hj]
    unfold rwN
    by_cases e : ((j - 20 * p : Nat) : Int) = slM (rR t L a) (rKy t L a)
    · rw [if_pos e, if_pos (by omega)]
    · rw [if_neg e, if_neg (by omega)]
  · rw [if_neg (by omega)]
    unfold rwM
    rw [if_neg hj, if_neg hj]
/-- the rows of the class behind n parts -/
def RWS (t : Nat → Int) (L n : Nat) (F : Nat → Int) : Prop := ∀ q : Nat, q < n → ∀ s : Nat, s < 20 → F (20 * (q + 1) + s) = if 0 ≤ rwR t L q (piN s) then rwR t L q (piN s) else F (20 * q + s)
theorem RWS_next {t : Nat → Int} {L n : Nat} {F G : Nat → Int} (h : RWS t L n F) (hG : ∀ j : Nat, G j = ovl (fun j => if 20 * (n + 1) ≤ j ∧ j < 20 * (n + 1) + 20 then F (j - 20) else F j) (n + 1) (rwR t L n) j) : RWS t L (n + 1) G := by
  have lo : ∀ j : Nat, j < 20 * (n + 1) → G j = F j := fun j hj => by
    rw [hG]
    unfold ovl
    rw [if_neg (by omega)]
    exact if_neg (by omega)
  intro q hq s hs
  by_cases c : q = n
  · subst c
    rw [lo (20 * q + s) (by omega), hG]
    unfold ovl
    rw [show 20 * (q + 1) + s - 20 * (q + 1) = s by omega]
    by_cases g : 0 ≤ rwR t L q (piN s)
    · rw [if_pos ⟨by omega, by omega, g⟩, if_pos g]
    · rw [if_neg (fun k => g k.2.2), if_neg g]
      show (if _ then _ else _) = _
      rw [if_pos (by omega), show 20 * (q + 1) + s - 20 = 20 * q + s by omega]
  · rw [lo _ (by omega), lo _ (by omega)]
    exact h q (by omega) s hs
