/-! a number's fault, the same of both sides -/
def nG (t : Nat → Int) (L a : Nat) : Nat := dgE t L (skB t L a)
def nV (t : Nat → Int) (L a : Nat) : Int := vV t (skB t L a) (nG t L a)
def nf (t : Nat → Int) (L : Nat) (lim : Int) (a : Nat) : Int := if nG t L a = skB t L a then 1 else if bdN t lim (skB t L a) (nG t L a) then 2 else 0
theorem nf_b {t : Nat → Int} {L : Nat} {lim : Int} {a : Nat} : nf t L lim a = 0 ∨ nf t L lim a = 1 ∨ nf t L lim a = 2 := by
  unfold nf
  split
  · exact Or.inr (Or.inl rfl)
  · split
    · exact Or.inr (Or.inr rfl)
    · exact Or.inl rfl
theorem nV_b {t : Nat → Int} {L a : Nat} : 0 ≤ nV t L a ∧ nV t L a ≤ 9999 := vV_b fun k h1 h2 => (goF_in 240 (skB t L a) k h1 h2).2
theorem nV_lim {t : Nat → Int} {L : Nat} {lim : Int} {a : Nat} (h : nf t L lim a = 0) : nV t L a ≤ lim := by
  unfold nf at h
  split at h
  · exact absurd h (by decide)
  · split at h
    · exact absurd h (by decide)
    next q =>
      unfold bdN at q
      unfold nV
      omega
theorem nG_b {t : Nat → Int} {L a : Nat} (h : a ≤ L) : a ≤ nG t L a ∧ nG t L a ≤ L ∧ skB t L a ≤ nG t L a := by
  have b1 := skB_b (t := t) h
  have b2 := dgE_b (t := t) b1.2
  unfold nG
  omega
theorem q55_f {t : Nat → Int} {L : Nat} {lim : Int} {a : Nat} {M : Mm} {v : Option V} {M' : Mm} (h : q55 t lim (skB t L a) (dgE t L (skB t L a)) M v M') : (nf t L lim a ≠ 0 ∧ v = some (vI (-1)) ∧ M' = up (up (up M 22 3 ((skB t L a : Nat) : Int)) 22 4 (nf t L lim a)) 22 5 ((skB t L a : Nat) : Int)) ∨ (nf t L lim a = 0 ∧ v = some (vI (nV t L a)) ∧ M' = up M 22 3 ((nG t L a : Nat) : Int)) := by
  rcases h with ⟨h1, h2, h3⟩ | ⟨h1, h2, h3, h4⟩ | ⟨h1, h2, h3, h4⟩
  · have e : nf t L lim a = 1 := if_pos h1
    rw [e]
    exact Or.inl ⟨by decide, h2, h3⟩
  · have e : nf t L lim a = 2 := (if_neg h1).trans (if_pos h2)
    rw [e]
    exact Or.inl ⟨by decide, h3, h4⟩
  · have e : nf t L lim a = 0 := (if_neg h1).trans (if_neg h2)
    exact Or.inr ⟨e, h3, h4⟩
theorem q148_f {t : Nat → Int} {L : Nat} {lim : Int} {a : Nat} {M : Mm} {v : Option V} {M' : Mm} (h : q148 t lim (skB t L a) (dgE t L (skB t L a)) M v M') : v = some (vI (nf t L lim a)) ∧ ((nf t L lim a ≠ 0 ∧ M' 65 15 = ((skB t L a : Nat) : Int)) ∨ (nf t L lim a = 0 ∧ M' 65 43 = ((nG t L a : Nat) : Int) ∧ M' 65 46 = ((skB t L a : Nat) : Int) ∧ M' 65 47 = nV t L a ∧ M' 65 15 = M 65 15)) ∧ FrM [(65, 16), (65, 44), (65, 47), (65, 48)] M M' := by
  rcases h with ⟨h1, h2, h3⟩ | ⟨h1, h2, h3, h4⟩ | ⟨h1, h2, h3, h4⟩
  · have e : nf t L lim a = 1 := if_pos h1
    rw [e, h3]
    exact ⟨h2, Or.inl ⟨by decide, rfl⟩, FrM_up (FrM_up frm0 (by decide)) (by decide)⟩
  · have e : nf t L lim a = 2 := (if_neg h1).trans (if_pos h2)
    rw [e, h4]
    exact ⟨h3, Or.inl ⟨by decide, rfl⟩, FrM_up (FrM_up (FrM_up (FrM_up (FrM_up (FrM_up frm0 (by decide)) (by decide)) (by decide)) (by decide)) (by decide)) (by decide)⟩
  · have e : nf t L lim a = 0 := (if_neg h1).trans (if_neg h2)
    rw [h4]
    exact ⟨by rw [e]; exact h3, Or.inr ⟨e, rfl, rfl, rfl, rfl⟩, FrM_up (FrM_up (FrM_up (FrM_up (FrM_up frm0 (by decide)) (by decide)) (by decide)) (by decide)) (by decide)⟩
/-! a rule's place in a row of the class; what a rule says, from its word at a on -/
theorem fsl_ok : ∀ z : Fin 11, (FSL.getD z.val 0).toInt = slX z.val ∧ 0 ≤ slX z.val ∧ slX z.val ≤ 19 := by decide +kernel
section TXF
variable {X : Xs} {D : Nat} {CT : Nat → List V → Mm → Prop} {Q : Option V → Mm → Prop} {F n : Nat} {r : List Node} {σ : Nat → Int} {M : Mm}
theorem d_fsl {b : Nat} {x : AV} {z : Int} (e : nm σ x = z) (hz : 0 ≤ z ∧ z ≤ 10) (h : den X (CPd X D) CT Q F r (n + 1) (us σ n (slX z)) M) : den X (CPd X D) CT Q (F + 1) ((8, b, [x]) :: r) n σ M := by
  refine den_lt (by show (8 : Nat) < 15; decide) ⟨by rw [e]; exact hz.1, by rw [e]; omega, ?_⟩
  have q := (fsl_ok ⟨z.toNat, by omega⟩).1
  have q : (FSL.getD z.toNat 0).toInt = slX (z.toNat : Int) := q
  rw [e, q, show ((z.toNat : Nat) : Int) = z by omega]
  exact h
end TXF
def rF (W : Int) : Int := if W = 279346 then 0 else if W = 1905275 then 1 else if W = 8276 then 2 else if W = 158523 then 3 else if W = 122314 then 4 else if W = 3217595 then 5 else if W = 247664 then 6 else if W = 923 then 7 else if W = 125042 then 8 else if W = 10266284 then 9 else if W = 296522 then 10 else -1
theorem rF_ok (W : Int) : rnW W (rF W) := by
  unfold rF
  by_cases h0 : W = 279346
  · rw [if_pos h0]
    exact rn_0 h0
  by_cases h1 : W = 1905275
  · rw [if_neg h0, if_pos h1]
    exact rn_1 h1
  by_cases h2 : W = 8276
  · rw [if_neg h0, if_neg h1, if_pos h2]
    exact rn_2 h2
  by_cases h3 : W = 158523
  · rw [if_neg h0, if_neg h1, if_neg h2, if_pos h3]
    exact rn_3 h3
  by_cases h4 : W = 122314
  · rw [if_neg h0, if_neg h1, if_neg h2, if_neg h3, if_pos h4]
    exact rn_4 h4
  by_cases h5 : W = 3217595
  · rw [if_neg h0, if_neg h1, if_neg h2, if_neg h3, if_neg h4, if_pos h5]
    exact rn_5 h5
  by_cases h6 : W = 247664
  · rw [if_neg h0, if_neg h1, if_neg h2, if_neg h3, if_neg h4, if_neg h5, if_pos h6]
    exact rn_6 h6
  by_cases h7 : W = 923
  · rw [if_neg h0, if_neg h1, if_neg h2, if_neg h3, if_neg h4, if_neg h5, if_neg h6, if_pos h7]
    exact rn_7 h7
  by_cases h8 : W = 125042
  · rw [if_neg h0, if_neg h1, if_neg h2, if_neg h3, if_neg h4, if_neg h5, if_neg h6, if_neg h7, if_pos h8]
    exact rn_8 h8
  by_cases h9 : W = 10266284
  · rw [if_neg h0, if_neg h1, if_neg h2, if_neg h3, if_neg h4, if_neg h5, if_neg h6, if_neg h7, if_neg h8, if_pos h9]
    exact rn_9 h9
  by_cases h10 : W = 296522
  · rw [if_neg h0, if_neg h1, if_neg h2, if_neg h3, if_neg h4, if_neg h5, if_neg h6, if_neg h7, if_neg h8, if_neg h9, if_pos h10]
    exact rn_10 h10
  rw [if_neg h0, if_neg h1, if_neg h2, if_neg h3, if_neg h4, if_neg h5, if_neg h6, if_neg h7, if_neg h8, if_neg h9, if_neg h10]
  exact Or.inl ⟨rfl, h0, h1, h2, h3, h4, h5, h6, h7, h8, h9, h10⟩
theorem rF_eq {W z : Int} (h : rnW W z) : z = rF W := rnW_eq h (rF_ok W)
/-- the end of the word at a; where its value stands; its kind; what it says; its fault; the fault's place -/
def rwE (t : Nat → Int) (L a : Nat) : Nat := wdE t L a
def rR (t : Nat → Int) (L a : Nat) : Int := rF (wvF t a (wdE t L a - a))
def rA (t : Nat → Int) (L a : Nat) : Nat := if kyR (rR t L a) then nG t L (rwE t L a) else rwE t L a
def rKy (t : Nat → Int) (L a : Nat) : Int := if kyR (rR t L a) then nV t L (rwE t L a) else 0
def rKf (t : Nat → Int) (L a : Nat) : Int := if kyR (rR t L a) then nf t L 3 (rwE t L a) else 0
def rFt (t : Nat → Int) (L a : Nat) : Int := if rR t L a = -1 then 1 else if rKf t L a ≠ 0 then rKf t L a else nf t L (lmR (rR t L a)) (rA t L a)
def rPl (t : Nat → Int) (L a : Nat) : Nat := if rR t L a = -1 then a else if rKf t L a ≠ 0 then skB t L (rwE t L a) else skB t L (rA t L a)
theorem q148_ok {t : Nat → Int} {L : Nat} {lim : Int} {a : Nat} {M : Mm} {v : Option V} {M' : Mm} (hT : okTT M) (hL : L ≤ 240) (haL : a ≤ L) (h : q148 t lim (skB t L a) (dgE t L (skB t L a)) M v M') : okTT M' := by
  have b1 := skB_b (t := t) haL
  have b2 := dgE_b (t := t) b1.2
  have bv := nV_b (t := t) (L := L) (a := a)
  have bv : 0 ≤ vV t (skB t L a) (dgE t L (skB t L a)) ∧ vV t (skB t L a) (dgE t L (skB t L a)) ≤ 9999 := bv
  have k0 : okTT (up M 65 43 ((skB t L a : Nat) : Int)) := okTT_up hT (show (0 : Int) ≤ ((skB t L a : Nat) : Int) ∧ ((skB t L a : Nat) : Int) ≤ 240 by omega)
  have k4 : okTT (up (up (up (up (up M 65 43 ((skB t L a : Nat) : Int)) 65 46 ((skB t L a : Nat) : Int)) 65 47 0) 65 47 (vV t (skB t L a) (dgE t L (skB t L a)))) 65 43 ((dgE t L (skB t L a) : Nat) : Int)) := okTT_up (okTT_up (okTT_up (okTT_up k0 (show (-2147483648 : Int) ≤ ((skB t L a : Nat) : Int) ∧ ((skB t L a : Nat) : Int) ≤ 2147483647 by omega)) (show (-2147483648 : Int) ≤ 0 ∧ (0 : Int) ≤ 2147483647 by omega)) (show (-2147483648 : Int) ≤ vV t (skB t L a) (dgE t L (skB t L a)) ∧ vV t (skB t L a) (dgE t L (skB t L a)) ≤ 2147483647 by omega)) (show (0 : Int) ≤ ((dgE t L (skB t L a) : Nat) : Int) ∧ ((dgE t L (skB t L a) : Nat) : Int) ≤ 240 by omega)
  rcases h with ⟨_, _, h3⟩ | ⟨_, _, _, h4⟩ | ⟨_, _, _, h4⟩
  · rw [h3]
    exact okTT_up k0 (show (-2147483648 : Int) ≤ ((skB t L a : Nat) : Int) ∧ ((skB t L a : Nat) : Int) ≤ 2147483647 by omega)
  · rw [h4]
    exact okTT_up k4 (show (-2147483648 : Int) ≤ ((skB t L a : Nat) : Int) ∧ ((skB t L a : Nat) : Int) ≤ 2147483647 by omega)
  · rw [h4]
    exact k4
