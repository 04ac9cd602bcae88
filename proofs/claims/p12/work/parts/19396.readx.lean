theorem rbv54 : rb 54 = 1 := by decide +kernel
theorem rbv53 : rb 53 = 1 := by decide +kernel
theorem rbv52 : rb 52 = 1 := by decide +kernel
theorem rbv51 : rb 51 = 1 := by decide +kernel
theorem FrM_cp {W : Wl} {M0 M : Mm} {j1 j2 sp dp q : Nat} (h : FrM W M0 M) (hw : W.any (fun q => Nat.beq q.1 j2 && Nat.beq q.2 0) = true) : FrM W M0 (cpM M j1 j2 sp dp q) := by
  intro j s hn
  unfold cpM
  split
  next e =>
    rw [e.1, wOf_a hw] at hn
    cases hn
  next => exact h j s hn
section CPY
variable {X : Xs} {CP : Nat → List V → Mm → (Option V → Mm → Prop) → Prop} {CT : Nat → List V → Mm → Prop} {Q : Option V → Mm → Prop} {F n : Nat} {r : List Node} {σ : Nat → Int} {M : Mm}
theorem d_cpw {j1 : Nat} {j2 sp dp q : AV} {M2 : Mm} (e : cpM M j1 j2.2.toNat (nm σ sp).toNat (nm σ dp).toNat (nm σ q).toNat = M2) (h0 : 0 ≤ nm σ sp ∧ 0 ≤ nm σ dp ∧ 0 ≤ nm σ q) (h1 : nm σ sp + nm σ q ≤ alen j1) (h2 : nm σ dp + nm σ q ≤ alen j2.2.toNat) (h : den X CP CT Q F r n σ M2) : den X CP CT Q (F + 1) ((14, j1, [j2, sp, dp, q]) :: r) n σ M := den_lt (by show (14 : Nat) < 15; decide) ⟨h0, h1, h2, by rw [e]; exact h⟩
end CPY
set_option maxHeartbeats 4000000 in
theorem l53 {X : Xs} {t : Nat → Int} {L p : Nat} {M0 : Mm} {B : Nat → Int} (hL : L ≤ 240) (ht0 : ∀ k : Nat, M0 23 k = t k) (hl0 : M0 22 2 = L) (hp0 : M0 24 2 = p) : ∀ (n i x : Nat) (row : Nat → Int) (M : Mm), L ≤ x + n → i ≤ x → x ≤ L → okTT M → FrM sp53_0.2.2.2.1 M0 M → M 22 3 = x → M 22 5 = M0 22 5 → (∀ j : Nat, M 26 j = ovl B p row j) → Wp X 50 53 2 ([0, 1].zip [vR 0 22, vI (i : Int)]) [] M (fun v M' => okTT M' ∧ FrM sp53_0.2.2.2.1 M0 M' ∧ (((rls t L n x row).f ≠ 0 ∧ v = some (vI 0) ∧ M' 22 4 = (rls t L n x row).f ∧ M' 22 5 = (((rls t L n x row).pl : Nat) : Int) ∧ ∀ j : Nat, j < 20 * p → M' 26 j = B j) ∨ ((rls t L n x row).f = 0 ∧ v = some (vI 1) ∧ M' 22 3 = (((rls t L n x row).en : Nat) : Int) ∧ M' 22 5 = M0 22 5 ∧ ∀ j : Nat, M' 26 j = ovl B p (rls t L n x row).row j))) := by
  intro n
  induction n using Nat.strongRecOn with
  | _ n ih =>
  intro i x row M hn hix hx hT hF h3 h5 h26
  have ht : ∀ k : Nat, M 23 k = t k := fun k => (hF 23 k (wOf_no rfl k)).trans (ht0 k)
  have hl : M 22 2 = L := (hF 22 2 (by decide)).trans hl0
  have hp : M 24 2 = p := (hF 24 2 (by decide)).trans hp0
  have bs := skB_b (t := t) hx
  refine Wp_seg (cut := cutL [(2, [0, 1])]) (CT := fun i' as M' => i' = 2 ∧ as = [vR 0 22, vI ((i : Int) + 1)] ∧ ¬ (skB t L x < L ∧ t (skB t L x) = 59) ∧ rFt t L (skB t L x) = 0 ∧ okTT M' ∧ FrM sp53_0.2.2.2.1 M0 M' ∧ M' 22 3 = ((nG t L (rA t L (skB t L x)) : Nat) : Int) ∧ M' 22 5 = M0 22 5 ∧ ∀ j : Nat, M' 26 j = ovl B p (rwN t L (skB t L x) row) j) 1 60 [(4, 22), (1, 0)] (us (fun _ => 0) 0 (i : Int)) [(15, 4, [(1, 0), (0, 240), (0, 1)]), (19, 0, [(0, 0)]), (16, 57, [(4, 22)]), (4, 22, [(0, 3)]), (4, 22, [(0, 2)]), (15, 3, [(1, 1), (1, 2), (0, 5)]), (16, 54, [(4, 22)]), (15, 1, [(1, 3), (0, 0), (0, 2)]), (0, 0, [(1, 0), (0, 1)]), (17, 2, [(4, 22), (1, 4)]), (19, 0, [(0, 0)]), (4, 22, [(0, 3)]), (5, 23, [(1, 3)]), (15, 1, [(1, 4), (0, 59), (0, 5)]), (16, 54, [(4, 22)]), (15, 1, [(1, 5), (0, 0), (0, 2)]), (0, 0, [(1, 0), (0, 1)]), (17, 2, [(4, 22), (1, 6)]), (19, 0, [(0, 0)]), (4, 22, [(0, 3)]), (0, 0, [(1, 5), (0, 1)]), (10, 22, [(0, 3), (1, 6)]), (19, 0, [(0, 1)])] (by decide +kernel) rfl rfl (by decide) (fun i' dl as M' hi _ h => ?_) ?_
  · obtain ⟨rfl, rfl, c1, c2, g1, g2, g3, g4, g5⟩ := h
    obtain rfl : [0, 1] = dl := Option.some.inj hi
    obtain ⟨m, hm, er⟩ := rls_go (row := row) hn hx c1 c2
    have gt := rFt_gt bs.2 c2
    rw [er]
    exact ih m (by omega) (i + 1) _ _ M' (by omega) (by omega) gt.2 g1 g2 g3 g4 g5
  refine d_br (fun (h : (240 : Int) < (i : Int)) => absurd h (by omega)) fun _ => ?_
  refine d_ca ⟨10, by decide, (e57 (X := X) (t := t) (L := L) (a := x) (M := M) hL ht hl h3).mono fun _ M1 q _ _ _ => ?_⟩
  rw [q, rbv57]
  refine d_ldw (v := ((skB t L x : Nat) : Int)) rfl (d_ldw (v := (L : Int)) hl ?_)
  have ok1 : okTT (up M 22 3 ((skB t L x : Nat) : Int)) := okTT_up hT (show (0 : Int) ≤ ((skB t L x : Nat) : Int) ∧ ((skB t L x : Nat) : Int) ≤ 240 by omega)
  have fr1 : FrM sp53_0.2.2.2.1 M0 (up M 22 3 ((skB t L x : Nat) : Int)) := FrM_up hF (by decide)
  have go54 : ¬ (skB t L x < L ∧ t (skB t L x) = 59) → Wp X 40 54 0 (eL 0 [vR 0 22]) [] (up M 22 3 ((skB t L x : Nat) : Int)) (fun v M' => (v = some (vI 0) ∧ okTT M' ∧ FrM sp53_0.2.2.2.1 M0 M' ∧ (((rls t L n x row).f ≠ 0 ∧ some (vI 0) = some (vI 0) ∧ M' 22 4 = (rls t L n x row).f ∧ M' 22 5 = (((rls t L n x row).pl : Nat) : Int) ∧ ∀ j : Nat, j < 20 * p → M' 26 j = B j) ∨ ((rls t L n x row).f = 0 ∧ some (vI 0) = some (vI 1) ∧ M' 22 3 = (((rls t L n x row).en : Nat) : Int) ∧ M' 22 5 = M0 22 5 ∧ ∀ j : Nat, M' 26 j = ovl B p (rls t L n x row).row j))) ∨ (v = some (vI 1) ∧ ¬ (skB t L x < L ∧ t (skB t L x) = 59) ∧ rFt t L (skB t L x) = 0 ∧ okTT M' ∧ FrM sp53_0.2.2.2.1 M0 M' ∧ M' 22 3 = ((nG t L (rA t L (skB t L x)) : Nat) : Int) ∧ M' 22 5 = M0 22 5 ∧ ∀ j : Nat, M' 26 j = ovl B p (rwN t L (skB t L x) row) j)) := fun hc =>
    (e54 (X := X) (t := t) (L := L) (a := skB t L x) (M := up M 22 3 ((skB t L x : Nat) : Int)) ok1 hL ht hl rfl bs.2).mono fun v M' q => by
      obtain ⟨q1, q2, q3⟩ := q
      have fr : FrM sp53_0.2.2.2.1 M0 M' := FrM_sub fr1 (by decide) q2
      rcases q3 with ⟨f, e, r4, r5, r26⟩ | ⟨f, e, r3, r5, r26⟩
      · have rf := rls_fault (row := row) hn hx hc f
        exact Or.inl ⟨e, q1, fr, Or.inl ⟨by rw [rf.1]; exact f, rfl, r4.trans rf.1.symm, by rw [rf.2]; exact r5, fun j hj => (r26 j).trans ((h26 j).trans (ovl_lo hj))⟩⟩
      · refine Or.inr ⟨e, hc, f, q1, fr, r3, r5.trans h5, fun j => ?_⟩
        rw [r26 j]
        show (if (j : Int) = M 24 2 * 20 + (slX (rR t L (skB t L x)) + rKy t L (skB t L x)) then nV t L (rA t L (skB t L x)) else M 26 j) = _
        rw [hp, h26 j]
        exact ovl_rw f
  by_cases hL1 : L ≤ skB t L x
  · refine d_br (fun _ => ?_) fun (h : ¬ ((L : Int) ≤ ((skB t L x : Nat) : Int))) => absurd (show (L : Int) ≤ ((skB t L x : Nat) : Int) by omega) h
    have hc : ¬ (skB t L x < L ∧ t (skB t L x) = 59) := fun k => absurd k.1 (by omega)
    refine d_ca ⟨40, by decide, (go54 hc).mono fun v5 M5 q5 _ _ _ => ?_⟩
    rcases q5 with ⟨e5, q5⟩ | ⟨e5, q5⟩
    · rw [e5, rbv54]
      refine d_br (fun (h : (0 : Int) ≠ 0) => absurd rfl h) fun _ => ?_
      exact d_r1 q5
    · rw [e5, rbv54]
      refine d_br (fun _ => ?_) fun (h : ¬ ((1 : Int) ≠ 0)) => absurd (by decide) h
      exact d_ibw (w := (i : Int) + 1) (ib0 (x := (i : Int)) (y := 1) (by unfold in32; omega)) (d_ct ⟨rfl, rfl, q5⟩)
  · refine d_br (fun (h : (L : Int) ≤ ((skB t L x : Nat) : Int)) => absurd h (by omega)) fun _ => ?_
    refine d_ldw (v := ((skB t L x : Nat) : Int)) rfl (d_law2 (v := t (skB t L x)) (show 0 ≤ ((skB t L x : Nat) : Int) ∧ ((skB t L x : Nat) : Int) < ((240 : Nat) : Int) by omega) (ht (skB t L x)) ?_)
    by_cases h59 : t (skB t L x) = 59
    · refine d_br (fun (h : t (skB t L x) ≠ 59) => absurd h59 h) fun _ => ?_
      have rs := rls_semi (row := row) hn hx ⟨by omega, h59⟩
      have e3 : (((skB t L x : Nat) : Int) + 1 : Int) = ((skB t L x + 1 : Nat) : Int) := by omega
      refine d_ldw (v := ((skB t L x : Nat) : Int)) rfl (d_ibw (w := ((skB t L x : Nat) : Int) + 1) (ib0 (x := ((skB t L x : Nat) : Int)) (y := 1) (by unfold in32; omega)) (d_st (d_r1 ?_)))
      rw [rs]
      exact ⟨okTT_up ok1 (show (0 : Int) ≤ ((skB t L x : Nat) : Int) + 1 ∧ ((skB t L x : Nat) : Int) + 1 ≤ 240 by omega), FrM_up fr1 (by decide), Or.inr ⟨rfl, rfl, e3, h5, h26⟩⟩
    · refine d_br (fun _ => ?_) fun (h : ¬ (t (skB t L x) ≠ 59)) => absurd h59 h
      have hc : ¬ (skB t L x < L ∧ t (skB t L x) = 59) := fun k => h59 k.2
      refine d_ca ⟨40, by decide, (go54 hc).mono fun v5 M5 q5 _ _ _ => ?_⟩
      rcases q5 with ⟨e5, q5⟩ | ⟨e5, q5⟩
      · rw [e5, rbv54]
        refine d_br (fun (h : (0 : Int) ≠ 0) => absurd rfl h) fun _ => ?_
        exact d_r1 q5
      · rw [e5, rbv54]
        refine d_br (fun _ => ?_) fun (h : ¬ ((1 : Int) ≠ 0)) => absurd (by decide) h
        exact d_ibw (w := (i : Int) + 1) (ib0 (x := (i : Int)) (y := 1) (by unfold in32; omega)) (d_ct ⟨rfl, rfl, q5⟩)
theorem e53 {X : Xs} {t : Nat → Int} {L p x : Nat} {M0 : Mm} (hT : okTT M0) (hL : L ≤ 240) (ht0 : ∀ k : Nat, M0 23 k = t k) (hl0 : M0 22 2 = L) (hp0 : M0 24 2 = p) (h3 : M0 22 3 = x) (hx : x ≤ L) : Wp X 50 53 0 (eL 0 [vR 0 22]) [] M0 (fun v M' => okTT M' ∧ FrM sp53_0.2.2.2.1 M0 M' ∧ (((rls t L 240 x (fun _ => -1)).f ≠ 0 ∧ v = some (vI 0) ∧ M' 22 4 = (rls t L 240 x (fun _ => -1)).f ∧ M' 22 5 = (((rls t L 240 x (fun _ => -1)).pl : Nat) : Int) ∧ ∀ j : Nat, j < 20 * p → M' 26 j = (fun j => M0 26 j) j) ∨ ((rls t L 240 x (fun _ => -1)).f = 0 ∧ v = some (vI 1) ∧ M' 22 3 = (((rls t L 240 x (fun _ => -1)).en : Nat) : Int) ∧ M' 22 5 = M0 22 5 ∧ ∀ j : Nat, M' 26 j = ovl (fun j => M0 26 j) p (rls t L 240 x (fun _ => -1)).row j))) := by
  refine Wp_ent (cut := cutL [(2, [0, 1])]) (CT := fun i as M' => i = 2 ∧ as = [vR 0 22, vI 0] ∧ M' = M0) 0 10 [(4, 22)] (fun _ => 0) [(17, 2, [(4, 22), (0, 0)])] (by decide +kernel) rfl rfl (by decide) (fun i dl as M' hi _ h => ?_) (d_ct ⟨rfl, rfl, rfl⟩)
  obtain ⟨rfl, rfl, rfl⟩ := h
  obtain rfl : [0, 1] = dl := Option.some.inj hi
  exact l53 (B := fun j => M' 26 j) hL ht0 hl0 hp0 240 0 x (fun _ => -1) M' (by omega) (Nat.zero_le _) hx hT frm0 h3 rfl (fun j => ovl_m1.symm)
set_option maxHeartbeats 4000000 in
theorem e52 {X : Xs} {t : Nat → Int} {L a p : Nat} {M : Mm} (hT : okTT M) (hL : L ≤ 240) (ht : ∀ k : Nat, M 23 k = t k) (hl : M 22 2 = L) (ha : M 22 3 = a) (haL : a ≤ L) (hp : M 24 2 = p) (hp8 : p ≤ 8) : Wp X 40 52 0 (eL 0 [vR 0 22]) [] M (fun v M' => okTT M' ∧ FrM sp52_0.2.2.2.1 M M' ∧ ((hdF t L a p (M 25 p) ≠ 0 ∧ v = some (vI 0) ∧ M' 22 4 = hdF t L a p (M 25 p) ∧ M' 22 5 = ((hdP t L a p : Nat) : Int) ∧ ∀ j : Nat, M' 26 j = M 26 j) ∨ (hdF t L a p (M 25 p) = 0 ∧ v = some (vI 1) ∧ M' 22 3 = ((nG t L (wdE t L a) : Nat) : Int) ∧ M' 22 5 = M 22 5 ∧ M' 24 2 = (p : Int) + 1 ∧ (∀ j : Nat, M' 25 j = if j = p + 1 then nV t L (wdE t L a) else M 25 j) ∧ ∀ j : Nat, M' 26 j = if 20 * (p + 1) ≤ j ∧ j < 20 * (p + 1) + 20 then M 26 (j - 20) else M 26 j))) := by
  have bg := wdE_b (t := t) haL
  have bs := skB_b (t := t) bg.2
  have hin : ∀ k : Nat, a ≤ k → k < wdE t L a → 97 ≤ t k ∧ t k ≤ 122 := fun k h1 h2 => (goF_in 240 a k h1 h2).2
  refine Wp_den 0 100 [(4, 22)] (fun _ => 0) [(4, 22, [(0, 3)]), (16, 58, [(4, 22), (1, 0)]), (16, 59, [(4, 22), (1, 0), (1, 1), (6, 0)]), (15, 1, [(1, 2), (0, 0), (0, 49)]), (4, 24, [(0, 2)]), (15, 2, [(1, 3), (0, 8), (0, 44)]), (10, 22, [(0, 3), (1, 1)]), (16, 57, [(4, 22)]), (4, 22, [(0, 3)]), (16, 55, [(4, 22), (0, 9999)]), (15, 1, [(1, 5), (0, -1), (0, 38)]), (4, 24, [(0, 2)]), (15, 5, [(1, 6), (0, 0), (0, 15)]), (4, 24, [(0, 2)]), (15, 2, [(1, 7), (0, 8), (0, 12)]), (4, 24, [(0, 2)]), (0, 2, [(1, 8), (0, 20)]), (4, 24, [(0, 2)]), (0, 0, [(1, 10), (0, 1)]), (0, 2, [(1, 11), (0, 20)]), (14, 26, [(4, 26), (1, 9), (1, 12), (0, 20)]), (4, 24, [(0, 2)]), (0, 0, [(1, 13), (0, 1)]), (10, 24, [(0, 2), (1, 14)]), (4, 24, [(0, 2)]), (11, 25, [(1, 15), (1, 5)]), (19, 0, [(0, 1)]), (19, 0, [(0, 1)]), (4, 24, [(0, 2)]), (5, 25, [(1, 7)]), (15, 4, [(1, 5), (1, 8), (0, 15)]), (4, 24, [(0, 2)]), (15, 2, [(1, 9), (0, 8), (0, 12)]), (4, 24, [(0, 2)]), (0, 2, [(1, 10), (0, 20)]), (4, 24, [(0, 2)]), (0, 0, [(1, 12), (0, 1)]), (0, 2, [(1, 13), (0, 20)]), (14, 26, [(4, 26), (1, 11), (1, 14), (0, 20)]), (4, 24, [(0, 2)]), (0, 0, [(1, 15), (0, 1)]), (10, 24, [(0, 2), (1, 16)]), (4, 24, [(0, 2)]), (11, 25, [(1, 17), (1, 5)]), (19, 0, [(0, 1)]), (19, 0, [(0, 1)]), (10, 22, [(0, 4), (0, 3)]), (10, 22, [(0, 5), (1, 4)]), (19, 0, [(0, 0)]), (19, 0, [(0, 0)]), (10, 22, [(0, 4), (0, 4)]), (10, 22, [(0, 5), (1, 0)]), (19, 0, [(0, 0)]), (10, 22, [(0, 4), (0, 1)]), (10, 22, [(0, 5), (1, 0)]), (19, 0, [(0, 0)])] (by decide +kernel) rfl rfl (by decide) ?_
  refine d_ldw (v := (a : Int)) ha ?_
  refine d_cx (d := 10) (z := ((wdE t L a : Nat) : Int)) (by decide) rbv58 rfl (e58 (a := a) hL ht hl) ?_
  refine d_ca ⟨20, by decide, (e59_0 (X := X) (t := t) (L := L) (b := a) (g := wdE t L a) (M := M) hL ht hl bg.1 bg.2).mono fun v1 M1 q _ _ _ => ?_⟩
  obtain ⟨e1, q⟩ := q
  rw [e1]
  rcases q with ⟨e2, q⟩ | ⟨e2, q⟩
  · rw [e2, rbv59]
    have hF : isF t L a := (wn_0 bg.1 hin).2 q
    refine d_br (fun _ => ?_) fun (h : ¬ ((1 : Int) ≠ 0)) => absurd (by decide) h
    refine d_ldw (v := (p : Int)) hp ?_
    by_cases h8 : 8 ≤ p
    · refine d_br (fun (h : (p : Int) < 8) => absurd h (by omega)) fun _ => ?_
      have f4 := hdF_4 (prev := M 25 p) hF h8
      exact d_st (d_st (d_r1 ⟨okTT_up (okTT_up hT (show (-2147483648 : Int) ≤ (4 : Int) ∧ (4 : Int) ≤ 2147483647 by omega)) (show (-2147483648 : Int) ≤ (a : Int) ∧ (a : Int) ≤ 2147483647 by omega), FrM_up (FrM_up frm0 (by decide)) (by decide), Or.inl ⟨by rw [f4.1]; decide, rfl, f4.1.symm, by rw [f4.2]; rfl, fun _ => rfl⟩⟩))
    · refine d_br (fun _ => ?_) fun (h : ¬ ((p : Int) < 8)) => absurd (show (p : Int) < 8 by omega) h
      refine d_st ?_
      refine d_ca ⟨10, by decide, (e57 (X := X) (t := t) (L := L) (a := wdE t L a) (M := (up M 22 3 ((wdE t L a : Nat) : Int))) hL ht hl rfl).mono fun _ M2 q2 _ _ _ => ?_⟩
      rw [q2, rbv57]
      have ok1 : okTT (up M 22 3 ((wdE t L a : Nat) : Int)) := okTT_up hT (show (0 : Int) ≤ ((wdE t L a : Nat) : Int) ∧ ((wdE t L a : Nat) : Int) ≤ 240 by omega)
      have ok2 : okTT (up (up M 22 3 ((wdE t L a : Nat) : Int)) 22 3 ((skB t L (wdE t L a) : Nat) : Int)) := okTT_up ok1 (show (0 : Int) ≤ ((skB t L (wdE t L a) : Nat) : Int) ∧ ((skB t L (wdE t L a) : Nat) : Int) ≤ 240 by omega)
      have fr2 : FrM sp52_0.2.2.2.1 M (up (up M 22 3 ((wdE t L a : Nat) : Int)) 22 3 ((skB t L (wdE t L a) : Nat) : Int)) := FrM_up (FrM_up frm0 (by decide)) (by decide)
      refine d_ldw (v := ((skB t L (wdE t L a) : Nat) : Int)) rfl ?_
      refine d_ca ⟨20, by decide, (e55 (X := X) (t := t) (L := L) (a := skB t L (wdE t L a)) (M := (up (up M 22 3 ((wdE t L a : Nat) : Int)) 22 3 ((skB t L (wdE t L a) : Nat) : Int))) (lim := 9999) hL ht hl rfl bs.2).mono fun v5 M5 q5 _ _ _ => ?_⟩
      have q5 := q55_f q5
      rw [nf_sk bg.2 hL, nV_sk bg.2 hL, nG_sk bg.2 hL, skB_sk bg.2 hL] at q5
      rcases q5 with ⟨n1, e5, e6⟩ | ⟨n1, e5, e6⟩
      · rw [e5, e6, rbv55]
        have fn := hdF_n (prev := M 25 p) hF h8 n1
        have bf := nf_b (t := t) (L := L) (lim := 9999) (a := wdE t L a)
        exact d_br (fun (h : (-1 : Int) ≠ -1) => absurd rfl h) fun _ => d_r1 ⟨okTT_up (okTT_up (okTT_up ok2 (show (0 : Int) ≤ ((skB t L (wdE t L a) : Nat) : Int) ∧ ((skB t L (wdE t L a) : Nat) : Int) ≤ 240 by omega)) (show (-2147483648 : Int) ≤ nf t L 9999 (wdE t L a) ∧ nf t L 9999 (wdE t L a) ≤ 2147483647 by omega)) (show (-2147483648 : Int) ≤ ((skB t L (wdE t L a) : Nat) : Int) ∧ ((skB t L (wdE t L a) : Nat) : Int) ≤ 2147483647 by omega), FrM_up (FrM_up (FrM_up fr2 (by decide)) (by decide)) (by decide), Or.inl ⟨by rw [fn.1]; exact n1, rfl, fn.1.symm, by rw [fn.2]; rfl, fun _ => rfl⟩⟩
      · rw [e5, e6, rbv55]
        have bv := nV_b (t := t) (L := L) (a := wdE t L a)
        have bG := nG_b (t := t) bg.2
        refine d_br (fun _ => ?_) fun (h : ¬ (nV t L (wdE t L a) ≠ -1)) => absurd (show nV t L (wdE t L a) ≠ -1 by omega) h
        refine d_ldw (v := (p : Int)) hp ?_
        by_cases p0 : p = 0
        · refine d_br (fun _ => ?_) fun (h : ¬ ((p : Int) ≤ 0)) => absurd (show (p : Int) ≤ 0 by omega) h
          have f0 := hdF_0 (prev := M 25 p) hF h8 n1 (fun k => absurd k.1 (by omega))
          refine d_ldw (v := (p : Int)) hp (d_br (fun _ => ?_) fun (h : ¬ ((p : Int) < 8)) => absurd (show (p : Int) < 8 by omega) h)
          refine d_ldw (v := (p : Int)) hp (d_ibw (w := (p : Int) * 20) (ib2 (x := (p : Int)) (y := 20) (by unfold in32; omega)) (d_ldw (v := (p : Int)) hp (d_ibw (w := (p : Int) + 1) (ib0 (x := (p : Int)) (y := 1) (by unfold in32; omega)) (d_ibw (w := ((p : Int) + 1) * 20) (ib2 (x := (p : Int) + 1) (y := 20) (by unfold in32; omega)) (d_cpw (M2 := (cpM (up (up (up M 22 3 ((wdE t L a : Nat) : Int)) 22 3 ((skB t L (wdE t L a) : Nat) : Int)) 22 3 ((nG t L (wdE t L a) : Nat) : Int)) 26 26 (20 * p) (20 * (p + 1)) 20)) (show cpM (up (up (up M 22 3 ((wdE t L a : Nat) : Int)) 22 3 ((skB t L (wdE t L a) : Nat) : Int)) 22 3 ((nG t L (wdE t L a) : Nat) : Int)) 26 26 ((p : Int) * 20).toNat (((p : Int) + 1) * 20).toNat (20 : Int).toNat = _ by rw [show ((p : Int) * 20).toNat = 20 * p by omega, show (((p : Int) + 1) * 20).toNat = 20 * (p + 1) by omega]; rfl) (show 0 ≤ (p : Int) * 20 ∧ 0 ≤ ((p : Int) + 1) * 20 ∧ (0 : Int) ≤ 20 by omega) (show (p : Int) * 20 + 20 ≤ ((180 : Nat) : Int) by omega) (show ((p : Int) + 1) * 20 + 20 ≤ ((180 : Nat) : Int) by omega) ?_)))))
          have hc : ∀ j s : Nat, j ≠ 26 → (cpM (up (up (up M 22 3 ((wdE t L a : Nat) : Int)) 22 3 ((skB t L (wdE t L a) : Nat) : Int)) 22 3 ((nG t L (wdE t L a) : Nat) : Int)) 26 26 (20 * p) (20 * (p + 1)) 20) j s = (up (up (up M 22 3 ((wdE t L a : Nat) : Int)) 22 3 ((skB t L (wdE t L a) : Nat) : Int)) 22 3 ((nG t L (wdE t L a) : Nat) : Int)) j s := fun j s h => if_neg (fun q => h q.1)
          have okC : okTT (cpM (up (up (up M 22 3 ((wdE t L a : Nat) : Int)) 22 3 ((skB t L (wdE t L a) : Nat) : Int)) 22 3 ((nG t L (wdE t L a) : Nat) : Int)) 26 26 (20 * p) (20 * (p + 1)) 20) := okTT_cp (okTT_up ok2 (show (0 : Int) ≤ ((nG t L (wdE t L a) : Nat) : Int) ∧ ((nG t L (wdE t L a) : Nat) : Int) ≤ 240 by omega)) rfl rfl (by decide)
          have frC : FrM sp52_0.2.2.2.1 M (cpM (up (up (up M 22 3 ((wdE t L a : Nat) : Int)) 22 3 ((skB t L (wdE t L a) : Nat) : Int)) 22 3 ((nG t L (wdE t L a) : Nat) : Int)) 26 26 (20 * p) (20 * (p + 1)) 20) := FrM_cp (FrM_up fr2 (by decide)) (by decide)
          refine d_ldw (v := (p : Int)) ((hc 24 2 (by decide)).trans hp) (d_ibw (w := (p : Int) + 1) (ib0 (x := (p : Int)) (y := 1) (by unfold in32; omega)) (d_st (d_ldw (v := (p : Int) + 1) rfl (d_sa (show 0 ≤ (p : Int) + 1 ∧ (p : Int) + 1 < ((9 : Nat) : Int) by omega) (d_r1 ?_)))))
          refine ⟨okTT_ua (i := (-2147483648, 2147483647)) (okTT_up okC (show (0 : Int) ≤ (p : Int) + 1 ∧ (p : Int) + 1 ≤ 8 by omega)) rfl (show (-2147483648 : Int) ≤ nV t L (wdE t L a) ∧ nV t L (wdE t L a) ≤ 2147483647 by omega), FrM_up (FrM_up frC (by decide)) (wOf_a (by decide)), Or.inr ⟨f0, rfl, hc 22 3 (by decide), hc 22 5 (by decide), rfl, fun j => ?_, fun j => ?_⟩⟩
          · show up (up (cpM (up (up (up M 22 3 ((wdE t L a : Nat) : Int)) 22 3 ((skB t L (wdE t L a) : Nat) : Int)) 22 3 ((nG t L (wdE t L a) : Nat) : Int)) 26 26 (20 * p) (20 * (p + 1)) 20) 24 2 ((p : Int) + 1)) 25 ((p : Int) + 1).toNat (nV t L (wdE t L a)) 25 j = _
            rw [up_eq, show ((p : Int) + 1).toNat = p + 1 by omega]
            by_cases e : j = p + 1
            · rw [if_pos e, if_pos e]
            · rw [if_neg e, if_neg e]
              exact hc 25 j (by decide)
          · show (if 26 = 26 ∧ 20 * (p + 1) ≤ j ∧ j < 20 * (p + 1) + 20 then M 26 (20 * p + (j - 20 * (p + 1))) else M 26 j) = _
            by_cases e : 20 * (p + 1) ≤ j ∧ j < 20 * (p + 1) + 20
            · rw [if_pos ⟨rfl, e⟩, if_pos e, show 20 * p + (j - 20 * (p + 1)) = j - 20 by omega]
            · rw [if_neg (fun k => e k.2), if_neg e]
        · refine d_br (fun (h : (p : Int) ≤ 0) => absurd h (by omega)) fun _ => ?_
          refine d_ldw (v := (p : Int)) hp (d_law2 (v := M 25 p) (show 0 ≤ (p : Int) ∧ (p : Int) < ((9 : Nat) : Int) by omega) rfl ?_)
          by_cases c3 : nV t L (wdE t L a) ≤ M 25 p
          · refine d_br (fun (h : M 25 p < nV t L (wdE t L a)) => absurd h (by omega)) fun _ => ?_
            have f3 := hdF_3 (prev := M 25 p) hF h8 n1 ⟨by omega, c3⟩
            exact d_st (d_st (d_r1 ⟨okTT_up (okTT_up (okTT_up ok2 (show (0 : Int) ≤ ((nG t L (wdE t L a) : Nat) : Int) ∧ ((nG t L (wdE t L a) : Nat) : Int) ≤ 240 by omega)) (show (-2147483648 : Int) ≤ (3 : Int) ∧ (3 : Int) ≤ 2147483647 by omega)) (show (-2147483648 : Int) ≤ ((skB t L (wdE t L a) : Nat) : Int) ∧ ((skB t L (wdE t L a) : Nat) : Int) ≤ 2147483647 by omega), FrM_up (FrM_up (FrM_up fr2 (by decide)) (by decide)) (by decide), Or.inl ⟨by rw [f3.1]; decide, rfl, f3.1.symm, by rw [f3.2]; rfl, fun _ => rfl⟩⟩))
          · refine d_br (fun _ => ?_) fun (h : ¬ (M 25 p < nV t L (wdE t L a))) => absurd (show M 25 p < nV t L (wdE t L a) by omega) h
            have f0 := hdF_0 (prev := M 25 p) hF h8 n1 (fun k => c3 k.2)
            refine d_ldw (v := (p : Int)) hp (d_br (fun _ => ?_) fun (h : ¬ ((p : Int) < 8)) => absurd (show (p : Int) < 8 by omega) h)
            refine d_ldw (v := (p : Int)) hp (d_ibw (w := (p : Int) * 20) (ib2 (x := (p : Int)) (y := 20) (by unfold in32; omega)) (d_ldw (v := (p : Int)) hp (d_ibw (w := (p : Int) + 1) (ib0 (x := (p : Int)) (y := 1) (by unfold in32; omega)) (d_ibw (w := ((p : Int) + 1) * 20) (ib2 (x := (p : Int) + 1) (y := 20) (by unfold in32; omega)) (d_cpw (M2 := (cpM (up (up (up M 22 3 ((wdE t L a : Nat) : Int)) 22 3 ((skB t L (wdE t L a) : Nat) : Int)) 22 3 ((nG t L (wdE t L a) : Nat) : Int)) 26 26 (20 * p) (20 * (p + 1)) 20)) (show cpM (up (up (up M 22 3 ((wdE t L a : Nat) : Int)) 22 3 ((skB t L (wdE t L a) : Nat) : Int)) 22 3 ((nG t L (wdE t L a) : Nat) : Int)) 26 26 ((p : Int) * 20).toNat (((p : Int) + 1) * 20).toNat (20 : Int).toNat = _ by rw [show ((p : Int) * 20).toNat = 20 * p by omega, show (((p : Int) + 1) * 20).toNat = 20 * (p + 1) by omega]; rfl) (show 0 ≤ (p : Int) * 20 ∧ 0 ≤ ((p : Int) + 1) * 20 ∧ (0 : Int) ≤ 20 by omega) (show (p : Int) * 20 + 20 ≤ ((180 : Nat) : Int) by omega) (show ((p : Int) + 1) * 20 + 20 ≤ ((180 : Nat) : Int) by omega) ?_)))))
            have hc : ∀ j s : Nat, j ≠ 26 → (cpM (up (up (up M 22 3 ((wdE t L a : Nat) : Int)) 22 3 ((skB t L (wdE t L a) : Nat) : Int)) 22 3 ((nG t L (wdE t L a) : Nat) : Int)) 26 26 (20 * p) (20 * (p + 1)) 20) j s = (up (up (up M 22 3 ((wdE t L a : Nat) : Int)) 22 3 ((skB t L (wdE t L a) : Nat) : Int)) 22 3 ((nG t L (wdE t L a) : Nat) : Int)) j s := fun j s h => if_neg (fun q => h q.1)
            have okC : okTT (cpM (up (up (up M 22 3 ((wdE t L a : Nat) : Int)) 22 3 ((skB t L (wdE t L a) : Nat) : Int)) 22 3 ((nG t L (wdE t L a) : Nat) : Int)) 26 26 (20 * p) (20 * (p + 1)) 20) := okTT_cp (okTT_up ok2 (show (0 : Int) ≤ ((nG t L (wdE t L a) : Nat) : Int) ∧ ((nG t L (wdE t L a) : Nat) : Int) ≤ 240 by omega)) rfl rfl (by decide)
            have frC : FrM sp52_0.2.2.2.1 M (cpM (up (up (up M 22 3 ((wdE t L a : Nat) : Int)) 22 3 ((skB t L (wdE t L a) : Nat) : Int)) 22 3 ((nG t L (wdE t L a) : Nat) : Int)) 26 26 (20 * p) (20 * (p + 1)) 20) := FrM_cp (FrM_up fr2 (by decide)) (by decide)
            refine d_ldw (v := (p : Int)) ((hc 24 2 (by decide)).trans hp) (d_ibw (w := (p : Int) + 1) (ib0 (x := (p : Int)) (y := 1) (by unfold in32; omega)) (d_st (d_ldw (v := (p : Int) + 1) rfl (d_sa (show 0 ≤ (p : Int) + 1 ∧ (p : Int) + 1 < ((9 : Nat) : Int) by omega) (d_r1 ?_)))))
            refine ⟨okTT_ua (i := (-2147483648, 2147483647)) (okTT_up okC (show (0 : Int) ≤ (p : Int) + 1 ∧ (p : Int) + 1 ≤ 8 by omega)) rfl (show (-2147483648 : Int) ≤ nV t L (wdE t L a) ∧ nV t L (wdE t L a) ≤ 2147483647 by omega), FrM_up (FrM_up frC (by decide)) (wOf_a (by decide)), Or.inr ⟨f0, rfl, hc 22 3 (by decide), hc 22 5 (by decide), rfl, fun j => ?_, fun j => ?_⟩⟩
            · show up (up (cpM (up (up (up M 22 3 ((wdE t L a : Nat) : Int)) 22 3 ((skB t L (wdE t L a) : Nat) : Int)) 22 3 ((nG t L (wdE t L a) : Nat) : Int)) 26 26 (20 * p) (20 * (p + 1)) 20) 24 2 ((p : Int) + 1)) 25 ((p : Int) + 1).toNat (nV t L (wdE t L a)) 25 j = _
              rw [up_eq, show ((p : Int) + 1).toNat = p + 1 by omega]
              by_cases e : j = p + 1
              · rw [if_pos e, if_pos e]
              · rw [if_neg e, if_neg e]
                exact hc 25 j (by decide)
            · show (if 26 = 26 ∧ 20 * (p + 1) ≤ j ∧ j < 20 * (p + 1) + 20 then M 26 (20 * p + (j - 20 * (p + 1))) else M 26 j) = _
              by_cases e : 20 * (p + 1) ≤ j ∧ j < 20 * (p + 1) + 20
              · rw [if_pos ⟨rfl, e⟩, if_pos e, show 20 * p + (j - 20 * (p + 1)) = j - 20 by omega]
              · rw [if_neg (fun k => e k.2), if_neg e]
  · rw [e2, rbv59]
    refine d_br (fun (h : (0 : Int) ≠ 0) => absurd rfl h) fun _ => ?_
    have f1 := hdF_1 (p := p) (prev := M 25 p) (show ¬ isF t L a from fun k => q ((wn_0 bg.1 hin).1 k))
    exact d_st (d_st (d_r1 ⟨okTT_up (okTT_up hT (show (-2147483648 : Int) ≤ (1 : Int) ∧ (1 : Int) ≤ 2147483647 by omega)) (show (-2147483648 : Int) ≤ (a : Int) ∧ (a : Int) ≤ 2147483647 by omega), FrM_up (FrM_up frm0 (by decide)) (by decide), Or.inl ⟨by rw [f1.1]; decide, rfl, f1.1.symm, by rw [f1.2]; rfl, fun _ => rfl⟩⟩))
theorem OutH_le {t : Nat → Int} {L n : Nat} (h : OutH t L n) : n ≤ 8 := by
  by_cases c : n ≤ 8
  · exact c
  · exfalso
    have f := h.1 8 (by omega)
    unfold pfN at f
    by_cases e : hdF t L (skB t L (psN t L 8)) 8 (pvN t L 8) = 0
    · exact hdF_8 e
    · rw [(ptF_h e).1] at f
      exact e f
def IV51 (t : Nat → Int) (L : Nat) (M0 : Mm) (i : Nat) (M : Mm) : Prop := okTT M ∧ FrM sp51_0.2.2.2.1 M0 M ∧ (∀ j : Nat, j < 20 → M 26 j = M0 26 j) ∧ M 22 3 = ((psN t L i : Nat) : Int) ∧ M 22 5 = -1 ∧ M 24 2 = i ∧ OutH t L i ∧ (∀ q : Nat, q < i → M 25 (q + 1) = dyN t L q) ∧ RWS t L i (M 26)
set_option maxHeartbeats 4000000 in
theorem l51 {X : Xs} {t : Nat → Int} {L : Nat} {M0 : Mm} (hL : L ≤ 240) (ht0 : ∀ k : Nat, M0 23 k = t k) (hl0 : M0 22 2 = L) : ∀ (m i : Nat) (M : Mm), i + m = 9 → IV51 t L M0 i M → Wp X 60 51 15 ([0, 1].zip [vR 0 22, vI (i : Int)]) [] M (fun v M' => okTT M' ∧ FrM sp51_0.2.2.2.1 M0 M' ∧ (∀ j : Nat, j < 20 → M' 26 j = M0 26 j) ∧ ∃ n : Nat, n ≤ 8 ∧ OutH t L n ∧ ((OutG t L n ∧ v = some (vI 1) ∧ M' 22 5 = -1 ∧ M' 24 2 = n ∧ (∀ q : Nat, q < n → M' 25 (q + 1) = dyN t L q) ∧ RWS t L n (M' 26)) ∨ (OutB t L n ∧ v = some (vI 0) ∧ M' 22 4 = pfN t L n ∧ M' 22 5 = ((ppN t L n : Nat) : Int)))) := by
  intro m
  induction m with
  | zero =>
    intro i M hm hI
    have := OutH_le hI.2.2.2.2.2.2.1
    exact absurd hm (by omega)
  | succ m ih =>
  intro i M hm hI
  obtain ⟨hT, hF, c26, h3, h5, h24, hO, c25, hR⟩ := hI
  have i8 := OutH_le hO
  have bp := psN_le i hO.1
  have bs := skB_b (t := t) bp
  have bg := wdE_b (t := t) bs.2
  have bn := nG_b (t := t) bg.2
  have ht : ∀ k : Nat, M 23 k = t k := fun k => (hF 23 k (wOf_no rfl k)).trans (ht0 k)
  have hl : M 22 2 = L := (hF 22 2 (by decide)).trans hl0
  refine Wp_seg (cut := cutL [(15, [0, 1])]) (CT := fun i' as M' => i' = 15 ∧ as = [vR 0 22, vI ((i : Int) + 1)] ∧ IV51 t L M0 (i + 1) M') 1 60 [(4, 22), (1, 0)] (us (fun _ => 0) 0 (i : Int)) [(15, 4, [(1, 0), (0, 8), (0, 1)]), (19, 0, [(0, 0)]), (16, 57, [(4, 22)]), (4, 22, [(0, 3)]), (4, 22, [(0, 2)]), (15, 2, [(1, 1), (1, 2), (0, 8)]), (16, 52, [(4, 22)]), (15, 0, [(1, 3), (0, 0), (0, 1)]), (19, 0, [(0, 0)]), (16, 53, [(4, 22)]), (15, 1, [(1, 4), (0, 0), (0, 2)]), (0, 0, [(1, 0), (0, 1)]), (17, 15, [(4, 22), (1, 5)]), (19, 0, [(0, 0)]), (4, 24, [(0, 2)]), (15, 5, [(1, 3), (0, 0), (0, 8)]), (16, 52, [(4, 22)]), (15, 0, [(1, 4), (0, 0), (0, 1)]), (19, 0, [(0, 0)]), (16, 53, [(4, 22)]), (15, 1, [(1, 5), (0, 0), (0, 2)]), (0, 0, [(1, 0), (0, 1)]), (17, 15, [(4, 22), (1, 6)]), (19, 0, [(0, 0)]), (19, 0, [(0, 1)])] (by decide +kernel) rfl rfl (by decide) (fun i' dl as M' hi _ h => ?_) ?_
  · obtain ⟨rfl, rfl, g⟩ := h
    obtain rfl : [0, 1] = dl := Option.some.inj hi
    exact ih (i + 1) M' (by omega) g
  refine d_br (fun (h : (8 : Int) < (i : Int)) => absurd h (by omega)) fun _ => ?_
  refine d_ca ⟨10, by decide, (e57 (X := X) (t := t) (L := L) (a := psN t L i) (M := M) hL ht hl h3).mono fun _ M1 q _ _ _ => ?_⟩
  rw [q, rbv57]
  refine d_ldw (v := ((skB t L (psN t L i) : Nat) : Int)) rfl (d_ldw (v := (L : Int)) hl ?_)
  have ok1 : okTT (up M 22 3 ((skB t L (psN t L i) : Nat) : Int)) := okTT_up hT (show (0 : Int) ≤ ((skB t L (psN t L i) : Nat) : Int) ∧ ((skB t L (psN t L i) : Nat) : Int) ≤ 240 by omega)
  have fr1 : FrM sp51_0.2.2.2.1 M0 (up M 22 3 ((skB t L (psN t L i) : Nat) : Int)) := FrM_up hF (by decide)
  have go52 : (i = 0 ∨ (skB t L (psN t L i)) < L) → Wp X 40 52 0 (eL 0 [vR 0 22]) [] (up M 22 3 ((skB t L (psN t L i) : Nat) : Int)) (fun v M' => (v = some (vI 0) ∧ okTT M' ∧ FrM sp51_0.2.2.2.1 M0 M' ∧ (∀ j : Nat, j < 20 → M' 26 j = M0 26 j) ∧ ∃ n : Nat, n ≤ 8 ∧ OutH t L n ∧ ((OutG t L n ∧ some (vI 0) = some (vI 1) ∧ M' 22 5 = -1 ∧ M' 24 2 = n ∧ (∀ q : Nat, q < n → M' 25 (q + 1) = dyN t L q) ∧ RWS t L n (M' 26)) ∨ (OutB t L n ∧ some (vI 0) = some (vI 0) ∧ M' 22 4 = pfN t L n ∧ M' 22 5 = ((ppN t L n : Nat) : Int)))) ∨ (v = some (vI 1) ∧ Wp X 50 53 0 (eL 0 [vR 0 22]) [] M' (fun v M' => (v = some (vI 0) ∧ okTT M' ∧ FrM sp51_0.2.2.2.1 M0 M' ∧ (∀ j : Nat, j < 20 → M' 26 j = M0 26 j) ∧ ∃ n : Nat, n ≤ 8 ∧ OutH t L n ∧ ((OutG t L n ∧ some (vI 0) = some (vI 1) ∧ M' 22 5 = -1 ∧ M' 24 2 = n ∧ (∀ q : Nat, q < n → M' 25 (q + 1) = dyN t L q) ∧ RWS t L n (M' 26)) ∨ (OutB t L n ∧ some (vI 0) = some (vI 0) ∧ M' 22 4 = pfN t L n ∧ M' 22 5 = ((ppN t L n : Nat) : Int)))) ∨ (v = some (vI 1) ∧ IV51 t L M0 (i + 1) M')))) := fun hc =>
    (e52 (X := X) (t := t) (L := L) (a := (skB t L (psN t L i))) (p := i) (M := (up M 22 3 ((skB t L (psN t L i) : Nat) : Int))) ok1 hL ht hl rfl bs.2 h24 i8).mono fun v M2 q => by
      obtain ⟨q1, q2, q3⟩ := q
      have fr2 : FrM sp51_0.2.2.2.1 M0 M2 := FrM_sub fr1 (by decide) q2
      have ep : hdF t L (skB t L (psN t L i)) i ((up M 22 3 ((skB t L (psN t L i) : Nat) : Int)) 25 i) = hdF t L (skB t L (psN t L i)) i (pvN t L i) := hdF_prev (by
        match i, c25 with
        | 0, _ => exact Or.inl rfl
        | q + 1, c25 => exact Or.inr (c25 q (Nat.lt_succ_self q)))
      rw [ep] at q3
      rcases q3 with ⟨f, e, r4, r5, r26⟩ | ⟨f, e, r3, r5, r24, r25, r26⟩
      · have F := ptF_h f
        have F1 : pfN t L i = hdF t L (skB t L (psN t L i)) i (pvN t L i) := F.1
        have F2 : ppN t L i = hdP t L (skB t L (psN t L i)) i := F.2
        exact Or.inl ⟨e, q1, fr2, fun j hj => (r26 j).trans (c26 j hj), i, i8, hO, Or.inr ⟨⟨hc, by rw [F1]; exact f⟩, rfl, by rw [F1]; exact r4, by rw [F2]; exact r5⟩⟩
      · have F := ptF_r f
        have F1 : pfN t L i = (ptR t L (skB t L (psN t L i))).f := F.1
        have F2 : ppN t L i = (ptR t L (skB t L (psN t L i))).pl := F.2
        have ht2 : ∀ k : Nat, M2 23 k = t k := fun k => (fr2 23 k (wOf_no rfl k)).trans (ht0 k)
        have hl2 : M2 22 2 = L := (fr2 22 2 (by decide)).trans hl0
        refine Or.inr ⟨e, (e53 (X := X) (t := t) (L := L) (p := i + 1) (x := nG t L (wdE t L (skB t L (psN t L i)))) (M0 := M2) q1 hL ht2 hl2 (r24.trans (show (i : Int) + 1 = ((i + 1 : Nat) : Int) by omega)) r3 bn.2.1).mono fun v M3 s => ?_⟩
        obtain ⟨s1, s2, s3⟩ := s
        have fr3 : FrM sp51_0.2.2.2.1 M0 M3 := FrM_sub fr2 (by decide) s2
        rcases s3 with ⟨g, e', u4, u5, u26⟩ | ⟨g, e', u3, u5, u26⟩
        · refine Or.inl ⟨e', s1, fr3, fun j hj => ?_, i, i8, hO, Or.inr ⟨⟨hc, by rw [F1]; exact g⟩, rfl, by rw [F1]; exact u4, by rw [F2]; exact u5⟩⟩
          refine (u26 j (by omega)).trans ?_
          show M2 26 j = _
          rw [r26 j, if_neg (by omega)]
          exact c26 j hj
        · refine Or.inr ⟨e', s1, fr3, fun j hj => ?_, u3, ?_, ?_, ⟨fun q hq => ?_, fun q h1 h2 => ?_⟩, fun q hq => ?_, ?_⟩
          · refine (u26 j).trans ((ovl_lo (by omega)).trans ?_)
            show M2 26 j = _
            rw [r26 j, if_neg (by omega)]
            exact c26 j hj
          · exact u5.trans (r5.trans h5)
          · exact (s2 24 2 (by decide)).trans (r24.trans (show (i : Int) + 1 = ((i + 1 : Nat) : Int) by omega))
          · by_cases e9 : q = i
            · rw [e9, F1]; exact g
            · exact hO.1 q (by omega)
          · by_cases e9 : q = i
            · rw [e9]
              rcases hc with h0 | h0
              · omega
              · exact h0
            · exact hO.2 q h1 (by omega)
          · rw [s2 25 (q + 1) (wOf_no rfl _), r25 (q + 1)]
            by_cases e9 : q = i
            · rw [if_pos (by omega), e9]; rfl
            · rw [if_neg (by omega)]
              exact c25 q (by omega)
          · refine RWS_next hR (fun j => ?_)
            rw [u26 j]
            show ovl (fun j => M2 26 j) (i + 1) (rwR t L i) j = _
            rw [show (fun j => M2 26 j) = (fun j : Nat => if 20 * (i + 1) ≤ j ∧ j < 20 * (i + 1) + 20 then M 26 (j - 20) else M 26 j) from funext r26]
  by_cases hA : (skB t L (psN t L i)) < L
  · refine d_br (fun _ => ?_) fun (h : ¬ (((skB t L (psN t L i) : Nat) : Int) < (L : Int))) => absurd (show ((skB t L (psN t L i) : Nat) : Int) < (L : Int) by omega) h
    refine d_ca ⟨40, by decide, (go52 (Or.inr hA)).mono fun v5 M5 q5 _ _ _ => ?_⟩
    rcases q5 with ⟨e5, q5⟩ | ⟨e5, q5⟩
    · rw [e5, rbv52]
      refine d_br (fun _ => ?_) fun (h : ¬ ((0 : Int) = 0)) => absurd rfl h
      exact d_r1 q5
    · rw [e5, rbv52]
      refine d_br (fun (h : (1 : Int) = 0) => absurd h (by decide)) fun _ => ?_
      refine d_ca ⟨50, by decide, q5.mono fun v6 M6 q6 _ _ _ => ?_⟩
      rcases q6 with ⟨e6, q6⟩ | ⟨e6, q6⟩
      · rw [e6, rbv53]
        refine d_br (fun (h : (0 : Int) ≠ 0) => absurd rfl h) fun _ => ?_
        exact d_r1 q6
      · rw [e6, rbv53]
        refine d_br (fun _ => ?_) fun (h : ¬ ((1 : Int) ≠ 0)) => absurd (by decide) h
        exact d_ibw (w := (i : Int) + 1) (ib0 (x := (i : Int)) (y := 1) (by unfold in32; omega)) (d_ct ⟨rfl, rfl, q6⟩)
  · refine d_br (fun (h : ((skB t L (psN t L i) : Nat) : Int) < (L : Int)) => absurd h (by omega)) fun _ => ?_
    refine d_ldw (v := (i : Int)) h24 ?_
    by_cases i0 : i = 0
    · refine d_br (fun _ => ?_) fun (h : ¬ ((i : Int) ≤ 0)) => absurd (show (i : Int) ≤ 0 by omega) h
      refine d_ca ⟨40, by decide, (go52 (Or.inl i0)).mono fun v5 M5 q5 _ _ _ => ?_⟩
      rcases q5 with ⟨e5, q5⟩ | ⟨e5, q5⟩
      · rw [e5, rbv52]
        refine d_br (fun _ => ?_) fun (h : ¬ ((0 : Int) = 0)) => absurd rfl h
        exact d_r1 q5
      · rw [e5, rbv52]
        refine d_br (fun (h : (1 : Int) = 0) => absurd h (by decide)) fun _ => ?_
        refine d_ca ⟨50, by decide, q5.mono fun v6 M6 q6 _ _ _ => ?_⟩
        rcases q6 with ⟨e6, q6⟩ | ⟨e6, q6⟩
        · rw [e6, rbv53]
          refine d_br (fun (h : (0 : Int) ≠ 0) => absurd rfl h) fun _ => ?_
          exact d_r1 q6
        · rw [e6, rbv53]
          refine d_br (fun _ => ?_) fun (h : ¬ ((1 : Int) ≠ 0)) => absurd (by decide) h
          exact d_ibw (w := (i : Int) + 1) (ib0 (x := (i : Int)) (y := 1) (by unfold in32; omega)) (d_ct ⟨rfl, rfl, q6⟩)
    · refine d_br (fun (h : (i : Int) ≤ 0) => absurd h (by omega)) fun _ => ?_
      exact d_r1 ⟨ok1, fr1, c26, i, i8, hO, Or.inl ⟨⟨by omega, hA⟩, rfl, h5, h24, c25, hR⟩⟩
theorem e51 {X : Xs} {t : Nat → Int} {L : Nat} {M0 : Mm} (hT : okTT M0) (hL : L ≤ 240) (ht0 : ∀ k : Nat, M0 23 k = t k) (hl0 : M0 22 2 = L) : Wp X 60 51 0 (eL 0 [vR 0 22]) [] M0 (fun v M' => okTT M' ∧ FrM sp51_0.2.2.2.1 M0 M' ∧ (∀ j : Nat, j < 20 → M' 26 j = M0 26 j) ∧ ∃ n : Nat, n ≤ 8 ∧ OutH t L n ∧ ((OutG t L n ∧ v = some (vI 1) ∧ M' 22 5 = -1 ∧ M' 24 2 = n ∧ (∀ q : Nat, q < n → M' 25 (q + 1) = dyN t L q) ∧ RWS t L n (M' 26)) ∨ (OutB t L n ∧ v = some (vI 0) ∧ M' 22 4 = pfN t L n ∧ M' 22 5 = ((ppN t L n : Nat) : Int)))) := by
  refine Wp_ent (cut := cutL [(15, [0, 1])]) (CT := fun i as M' => i = 15 ∧ as = [vR 0 22, vI 0] ∧ M' = up (up (up (up M0 22 3 0) 22 4 0) 22 5 (-1)) 24 2 0) 0 10 [(4, 22)] (fun _ => 0) [(10, 22, [(0, 3), (0, 0)]), (10, 22, [(0, 4), (0, 0)]), (10, 22, [(0, 5), (0, -1)]), (10, 24, [(0, 2), (0, 0)]), (17, 15, [(4, 22), (0, 0)])] (by decide +kernel) rfl rfl (by decide) (fun i dl as M' hi _ h => ?_) (d_st (d_st (d_st (d_st (d_ct ⟨rfl, rfl, rfl⟩)))))
  obtain ⟨rfl, rfl, rfl⟩ := h
  obtain rfl : [0, 1] = dl := Option.some.inj hi
  exact l51 hL ht0 hl0 9 0 _ rfl ⟨okTT_up (okTT_up (okTT_up (okTT_up hT (show (0 : Int) ≤ 0 ∧ (0 : Int) ≤ 240 by decide)) (show (-2147483648 : Int) ≤ 0 ∧ (0 : Int) ≤ 2147483647 by decide)) (show (-2147483648 : Int) ≤ -1 ∧ (-1 : Int) ≤ 2147483647 by decide)) (show (0 : Int) ≤ 0 ∧ (0 : Int) ≤ 8 by decide), FrM_up (FrM_up (FrM_up (FrM_up frm0 (by decide)) (by decide)) (by decide)) (by decide), fun _ _ => rfl, rfl, rfl, rfl, ⟨fun q hq => absurd hq (Nat.not_lt_zero q), fun q _ hq => absurd hq (Nat.not_lt_zero q)⟩, fun q hq => absurd hq (Nat.not_lt_zero q), fun q hq => absurd hq (Nat.not_lt_zero q)⟩
theorem pfN_b {t : Nat → Int} {L p : Nat} : 0 ≤ pfN t L p ∧ pfN t L p ≤ 4 := by
  have key : ∀ (n x : Nat) (row : Nat → Int), 0 ≤ (rls t L n x row).f ∧ (rls t L n x row).f ≤ 4 := by
    intro n
    induction n with
    | zero => intro x row; exact ⟨show (0 : Int) ≤ 1 by decide, show (1 : Int) ≤ 4 by decide⟩
    | succ n ih =>
      intro x row
      show 0 ≤ (if _ then _ else _ : RO).f ∧ (if _ then _ else _ : RO).f ≤ 4
      split
      · exact ⟨show (0 : Int) ≤ 0 by decide, show (0 : Int) ≤ 4 by decide⟩
      · split
        · show 0 ≤ rFt t L (skB t L x) ∧ rFt t L (skB t L x) ≤ 4
          have b1 := nf_b (t := t) (L := L) (lim := 3) (a := rwE t L (skB t L x))
          have b2 := nf_b (t := t) (L := L) (lim := lmR (rR t L (skB t L x))) (a := rA t L (skB t L x))
          unfold rFt rKf
          split
          · omega
          · split
            · split <;> omega
            · omega
        · exact ih _ _
  unfold pfN ptF
  split
  · unfold hdF
    have b := nf_b (t := t) (L := L) (lim := 9999) (a := wdE t L (skB t L (psN t L p)))
    split
    · split
      · omega
      · split
        · omega
        · split <;> omega
    · omega
  · exact key _ _ _
set_option maxHeartbeats 4000000 in
theorem e91 {X : Xs} {t : Nat → Int} {L : Nat} {M : Mm} (hT : okTT M) (hL : L ≤ 240) (ht : ∀ k : Nat, M 23 k = t k) (hl : M 22 2 = L) : Wp X 70 91 0 (eL 0 [vR 0 0]) [] M (fun v M' => okTT M' ∧ FrM sp91_0.2.2.2.1 M M' ∧ ((1 ≤ M 27 14 ∧ v = some (vI (-100003)) ∧ M' = M) ∨ (M 27 14 ≤ 0 ∧ M' 22 2 = 0 ∧ (∀ j : Nat, j < 20 → M' 26 j = M 26 j) ∧ ∃ n : Nat, n ≤ 8 ∧ OutH t L n ∧ ((OutG t L n ∧ v = some (vI (n : Int)) ∧ M' 22 5 = -1 ∧ M' 19 2 = n ∧ (∀ q : Nat, q < n → M' 20 (q + 1) = dyN t L q) ∧ (∀ j : Nat, j < 20 → M' 21 j = M 26 j) ∧ RWS t L n (M' 21)) ∨ (OutB t L n ∧ v = some (vI (-10 - pfN t L n)) ∧ M' 22 5 = ((ppN t L n : Nat) : Int) ∧ M' 19 2 = M 19 2 ∧ (∀ j : Nat, M' 20 j = M 20 j) ∧ ∀ j : Nat, M' 21 j = M 21 j))))) := by
  refine Wp_den 0 40 [(4, 0)] (fun _ => 0) [(4, 27, [(0, 14)]), (15, 5, [(1, 0), (0, 0), (0, 12)]), (16, 51, [(4, 22)]), (10, 22, [(0, 2), (0, 0)]), (15, 1, [(1, 1), (0, 0), (0, 6)]), (14, 25, [(4, 20), (0, 0), (0, 0), (0, 9)]), (14, 26, [(4, 21), (0, 0), (0, 0), (0, 180)]), (4, 24, [(0, 2)]), (10, 19, [(0, 2), (1, 2)]), (4, 19, [(0, 2)]), (19, 0, [(1, 3)]), (4, 22, [(0, 4)]), (0, 1, [(0, -10), (1, 2)]), (19, 0, [(1, 3)]), (19, 0, [(0, -100003)])] (by decide +kernel) rfl rfl (by decide) ?_
  refine d_ldw (v := M 27 14) rfl ?_
  by_cases h1 : 1 ≤ M 27 14
  · exact d_br (fun (h : M 27 14 ≤ 0) => absurd h (by omega)) fun _ => d_r1 ⟨hT, frm0, Or.inl ⟨h1, rfl, rfl⟩⟩
  refine d_br (fun _ => ?_) fun (h : ¬ (M 27 14 ≤ 0)) => absurd (show M 27 14 ≤ 0 by omega) h
  refine d_ca ⟨60, by decide, (e51 (X := X) (t := t) (L := L) (M0 := M) hT hL ht hl).mono fun v1 M1 q _ _ _ => ?_⟩
  obtain ⟨t1, f1, c26, n, n8, hO, q⟩ := q
  have okU : okTT (up M1 22 2 0) := okTT_up t1 (show (0 : Int) ≤ 0 ∧ (0 : Int) ≤ 240 by decide)
  have frU : FrM sp91_0.2.2.2.1 M (up M1 22 2 0) := FrM_up (FrM_sub frm0 (by decide) f1) (by decide)
  rcases q with ⟨hG, e, r5, r24, r25, rR⟩ | ⟨hB, e, r4, r5⟩
  · rw [e, rbv51]
    refine d_st (d_br (fun _ => ?_) fun (h : ¬ ((1 : Int) ≠ 0)) => absurd (by decide) h)
    refine d_cpw (M2 := (cpM (up M1 22 2 0) 25 20 0 0 9)) rfl (show (0 : Int) ≤ 0 ∧ (0 : Int) ≤ 0 ∧ (0 : Int) ≤ 9 by decide) (show (0 : Int) + 9 ≤ ((9 : Nat) : Int) by decide) (show (0 : Int) + 9 ≤ ((9 : Nat) : Int) by decide) ?_
    refine d_cpw (M2 := (cpM (cpM (up M1 22 2 0) 25 20 0 0 9) 26 21 0 0 180)) rfl (show (0 : Int) ≤ 0 ∧ (0 : Int) ≤ 0 ∧ (0 : Int) ≤ 180 by decide) (show (0 : Int) + 180 ≤ ((180 : Nat) : Int) by decide) (show (0 : Int) + 180 ≤ ((180 : Nat) : Int) by decide) ?_
    have hc : ∀ j s : Nat, j ≠ 20 → j ≠ 21 → (cpM (cpM (up M1 22 2 0) 25 20 0 0 9) 26 21 0 0 180) j s = (up M1 22 2 0) j s := fun j s h2 h3 => (if_neg (fun q => h3 q.1)).trans (if_neg (fun q => h2 q.1))
    have ok3 : okTT (cpM (cpM (up M1 22 2 0) 25 20 0 0 9) 26 21 0 0 180) := okTT_cp (okTT_cp okU rfl rfl (by decide)) rfl rfl (by decide)
    have fr3 : FrM sp91_0.2.2.2.1 M (cpM (cpM (up M1 22 2 0) 25 20 0 0 9) 26 21 0 0 180) := FrM_cp (FrM_cp frU (by decide)) (by decide)
    have v20 : ∀ j : Nat, j < 9 → (cpM (cpM (up M1 22 2 0) 25 20 0 0 9) 26 21 0 0 180) 20 j = M1 25 j := fun j hj => (if_neg (fun q => absurd q.1 (by decide))).trans ((if_pos ⟨rfl, Nat.zero_le _, by omega⟩).trans (show M1 25 (0 + (j - 0)) = M1 25 j by rw [Nat.sub_zero, Nat.zero_add]))
    have v21 : ∀ j : Nat, j < 180 → (cpM (cpM (up M1 22 2 0) 25 20 0 0 9) 26 21 0 0 180) 21 j = M1 26 j := fun j hj => (if_pos ⟨rfl, Nat.zero_le _, by omega⟩).trans ((if_neg (fun q => absurd q.1 (by decide))).trans (show M1 26 (0 + (j - 0)) = M1 26 j by rw [Nat.sub_zero, Nat.zero_add]))
    refine d_ldw (v := (n : Int)) ((hc 24 2 (by decide) (by decide)).trans r24) (d_st (d_ldw (v := (n : Int)) rfl (d_r1 ?_)))
    refine ⟨okTT_up ok3 (show (0 : Int) ≤ (n : Int) ∧ (n : Int) ≤ 8 by omega), FrM_up fr3 (by decide), Or.inr ⟨by omega, (hc 22 2 (by decide) (by decide)), fun j hj => (hc 26 j (by decide) (by decide)).trans (c26 j hj), n, n8, hO, Or.inl ⟨hG, rfl, (hc 22 5 (by decide) (by decide)).trans r5, rfl, fun q hq => (v20 (q + 1) (by omega)).trans (r25 q hq), fun j hj => (v21 j (by omega)).trans (c26 j hj), fun q hq s hs => ?_⟩⟩⟩
    have a1 := v21 (20 * (q + 1) + s) (by omega)
    have a2 := v21 (20 * q + s) (by omega)
    show (cpM (cpM (up M1 22 2 0) 25 20 0 0 9) 26 21 0 0 180) 21 _ = if _ then _ else (cpM (cpM (up M1 22 2 0) 25 20 0 0 9) 26 21 0 0 180) 21 _
    rw [a1, a2]
    exact rR q hq s hs
  · rw [e, rbv51]
    refine d_st (d_br (fun (h : (0 : Int) ≠ 0) => absurd rfl h) fun _ => ?_)
    have b := pfN_b (t := t) (L := L) (p := n)
    refine d_ldw (v := pfN t L n) r4 (d_ibw (w := -10 - pfN t L n) (ib1 (x := -10) (y := pfN t L n) (by unfold in32; omega)) (d_r1 ?_))
    exact ⟨okU, frU, Or.inr ⟨by omega, rfl, c26, n, n8, hO, Or.inr ⟨hB, rfl, r5, f1 19 2 (by decide), fun j => f1 20 j (wOf_no rfl j), fun j => f1 21 j (wOf_no rfl j)⟩⟩⟩
