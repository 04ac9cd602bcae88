/-! kin, by the machine -/
section LAW
variable {X : Xs} {CP : Nat → List V → Mm → (Option V → Mm → Prop) → Prop} {CT : Nat → List V → Mm → Prop} {Q : Option V → Mm → Prop} {F n : Nat} {r : List Node} {σ : Nat → Int} {M : Mm}
theorem d_law {j : Nat} {x : AV} {w : Int} (h0 : 0 ≤ nm σ x ∧ nm σ x < alen j) (e : M j (nm σ x).toNat = w) (h : den X CP CT Q F r (n + 1) (us σ n w) M) : den X CP CT Q (F + 1) ((5, j, [x]) :: r) n σ M := d_la h0 fun _ => by rw [e]; exact h
end LAW
def tbM (M : Mm) : Nat → Nat → Int := fun a b => M 18 (30 * a + b)
def sOf (M : Mm) (x q : Int) : Int := if x < 0 ∨ 30 ≤ x ∨ q < 0 ∨ 30 ≤ q then -1 else M 18 (x * 30 + q).toNat
theorem rbv48 : rb 48 = 1 := by decide +kernel
set_option maxHeartbeats 4000000 in
theorem e48 {X : Xs} {M : Mm} {x q : Int} (hT : okTT M) : Wp X 10 48 0 (eL 0 [vR 0 17, vI x, vI q]) [] M (fun v M' => M' = M ∧ v = some (vI (sOf M x q))) := by
  refine Wp_den 2 17 [(4, 17), (1, 0), (1, 1)] (us (us (fun _ => 0) 0 x) 1 q) [(15, 2, [(1, 0), (0, 0), (0, 1)]), (19, 0, [(0, -1)]), (15, 3, [(1, 0), (0, 30), (0, 1)]), (19, 0, [(0, -1)]), (15, 2, [(1, 1), (0, 0), (0, 1)]), (19, 0, [(0, -1)]), (15, 2, [(1, 1), (0, 30), (0, 4)]), (0, 2, [(1, 0), (0, 30)]), (0, 0, [(1, 2), (1, 1)]), (5, 18, [(1, 3)]), (19, 0, [(1, 4)]), (19, 0, [(0, -1)])] (by decide +kernel) rfl rfl (by decide) ?_
  exact d_br (fun (h1 : x < 0) => d_r1 (⟨rfl, congrArg (fun z => some (vI z)) (show ((-1) : Int) = _ by unfold sOf; rw [if_pos (by omega)])⟩)) (fun (h1 : ¬ (x < 0)) => d_br (fun (h2 : 30 ≤ x) => d_r1 (⟨rfl, congrArg (fun z => some (vI z)) (show ((-1) : Int) = _ by unfold sOf; rw [if_pos (by omega)])⟩)) (fun (h2 : ¬ (30 ≤ x)) => d_br (fun (h3 : q < 0) => d_r1 (⟨rfl, congrArg (fun z => some (vI z)) (show ((-1) : Int) = _ by unfold sOf; rw [if_pos (by omega)])⟩)) (fun (h3 : ¬ (q < 0)) => d_br (fun (h4 : q < 30) => d_ibw (w := x * 30) (ib2 (x := x) (y := 30) (by unfold in32; omega)) (d_ibw (w := (x * 30) + q) (ib0 (x := (x * 30)) (y := q) (by unfold in32; omega)) (d_la (show 0 ≤ ((x * 30) + q) ∧ ((x * 30) + q) < ((900 : Nat) : Int) by omega) fun _ => d_r1 (⟨rfl, congrArg (fun z => some (vI z)) (show ((M 18 (((x * 30) + q)).toNat) : Int) = _ by unfold sOf; rw [if_neg (by omega)])⟩)))) (fun (h4 : ¬ (q < 30)) => d_r1 (⟨rfl, congrArg (fun z => some (vI z)) (show ((-1) : Int) = _ by unfold sOf; rw [if_pos (by omega)])⟩)))))
theorem sOf_vi {M M0 : Mm} {x : Int} {p k : Nat} (hp : p ≤ 29) (hx : -1 ≤ x ∧ x < p) (hk : k < 30) (h : ∀ i : Nat, ¬ (30 * p ≤ i ∧ i < 30 * p + 30) → M 18 i = M0 18 i) : sOf M x (k : Int) = viT (tbM M0) x k := by
  unfold sOf viT tbM
  by_cases h0 : x < 0
  · rw [if_pos (by omega), if_pos h0]
  · rw [if_neg (by omega), if_neg h0, show (x * 30 + (k : Int)).toNat = 30 * x.toNat + k by omega]
    exact h _ (by omega)
def rowV (M0 : Mm) (p : Nat) (f g : Int) (i : Nat) : Int := if 30 * p ≤ i ∧ i < 30 * p + 30 then (if i = 30 * p + p then 0 else nxT (viT (tbM M0) f (i - 30 * p)) (viT (tbM M0) g (i - 30 * p))) else M0 18 i
theorem l47 {X : Xs} {p : Nat} {f g : Int} {M0 : Mm} (hp : p ≤ 29) (hf : -1 ≤ f ∧ f < p) (hg : -1 ≤ g ∧ g < p) (hu : ∀ q : Nat, q < 30 → -1 ≤ viT (tbM M0) f q ∧ viT (tbM M0) f q ≤ 29) (hv : ∀ q : Nat, q < 30 → -1 ≤ viT (tbM M0) g q ∧ viT (tbM M0) g q ≤ 29) : ∀ (m n : Nat) (M : Mm), m + n = 30 → okTT M → FrM sp47_0.2.2.2.1 M0 M → (∀ i : Nat, ¬ (30 * p ≤ i ∧ i < 30 * p + 30) → M 18 i = M0 18 i) → (∀ q : Nat, q < n → M 18 (30 * p + q) = nxT (viT (tbM M0) f q) (viT (tbM M0) g q)) → Wp X 20 47 8 ([0, 1, 2, 3, 4].zip [vR 0 17, vI p, vI f, vI g, vI n]) [] M (fun _ M' => okTT M' ∧ FrM sp47_0.2.2.2.1 M0 M' ∧ ∀ i : Nat, M' 18 i = rowV M0 p f g i) := by
  intro m
  induction m with
  | zero =>
    intro n M hn hT hF h1 h2
    obtain rfl : n = 30 := by omega
    refine Wp_seg (cut := cutL [(8, [0, 1, 2, 3, 4])]) (CT := fun _ _ _ => False) 4 60 [(4, 17), (1, 0), (1, 1), (1, 2), (1, 3)] (us (us (us (us (fun _ => 0) 0 (p : Int)) 1 f) 2 g) 3 (30 : Nat)) [(15, 3, [(1, 3), (0, 30), (0, 4)]), (0, 2, [(1, 0), (0, 30)]), (0, 0, [(1, 4), (1, 0)]), (11, 18, [(1, 5), (0, 0)]), (18, 0, []), (16, 48, [(4, 17), (1, 1), (1, 3)]), (16, 48, [(4, 17), (1, 2), (1, 3)]), (15, 0, [(1, 4), (0, -1), (0, 10)]), (0, 2, [(1, 0), (0, 30)]), (0, 0, [(1, 6), (1, 3)]), (15, 1, [(1, 5), (0, -1), (0, 4)]), (0, 0, [(1, 5), (0, 1)]), (11, 18, [(1, 7), (1, 8)]), (0, 0, [(1, 3), (0, 1)]), (17, 8, [(4, 17), (1, 0), (1, 1), (1, 2), (1, 9)]), (11, 18, [(1, 7), (0, -1)]), (0, 0, [(1, 3), (0, 1)]), (17, 8, [(4, 17), (1, 0), (1, 1), (1, 2), (1, 8)]), (15, 0, [(1, 5), (0, -1), (0, 10)]), (0, 2, [(1, 0), (0, 30)]), (0, 0, [(1, 6), (1, 3)]), (15, 1, [(1, 4), (0, -1), (0, 4)]), (0, 0, [(1, 4), (0, 1)]), (11, 18, [(1, 7), (1, 8)]), (0, 0, [(1, 3), (0, 1)]), (17, 8, [(4, 17), (1, 0), (1, 1), (1, 2), (1, 9)]), (11, 18, [(1, 7), (0, -1)]), (0, 0, [(1, 3), (0, 1)]), (17, 8, [(4, 17), (1, 0), (1, 1), (1, 2), (1, 8)]), (15, 3, [(1, 5), (1, 4), (0, 10)]), (0, 2, [(1, 0), (0, 30)]), (0, 0, [(1, 6), (1, 3)]), (15, 1, [(1, 4), (0, -1), (0, 4)]), (0, 0, [(1, 4), (0, 1)]), (11, 18, [(1, 7), (1, 8)]), (0, 0, [(1, 3), (0, 1)]), (17, 8, [(4, 17), (1, 0), (1, 1), (1, 2), (1, 9)]), (11, 18, [(1, 7), (0, -1)]), (0, 0, [(1, 3), (0, 1)]), (17, 8, [(4, 17), (1, 0), (1, 1), (1, 2), (1, 8)]), (0, 2, [(1, 0), (0, 30)]), (0, 0, [(1, 6), (1, 3)]), (15, 1, [(1, 5), (0, -1), (0, 4)]), (0, 0, [(1, 5), (0, 1)]), (11, 18, [(1, 7), (1, 8)]), (0, 0, [(1, 3), (0, 1)]), (17, 8, [(4, 17), (1, 0), (1, 1), (1, 2), (1, 9)]), (11, 18, [(1, 7), (0, -1)]), (0, 0, [(1, 3), (0, 1)]), (17, 8, [(4, 17), (1, 0), (1, 1), (1, 2), (1, 8)])] (by decide +kernel) rfl rfl (by decide) (fun _ _ _ _ _ _ h => h.elim) ?_
    refine d_br (fun _ => d_ibw (w := (p : Int) * 30) (ib2 (x := (p : Int)) (y := 30) (by unfold in32; omega)) (d_ibw (w := (p : Int) * 30 + p) (ib0 (x := (p : Int) * 30) (y := p) (by unfold in32; omega)) (d_sa (show 0 ≤ (p : Int) * 30 + p ∧ (p : Int) * 30 + p < ((900 : Nat) : Int) by omega) (d_r0 ⟨okTT_ua (i := (-2147483648, 2147483647)) hT rfl (show (-2147483648 : Int) ≤ 0 ∧ (0 : Int) ≤ 2147483647 by omega), FrM_up hF (wOf_a (by decide)), fun i => ?_⟩)))) (fun (h : ¬ ((30 : Int) ≤ ((30 : Nat) : Int))) => absurd h (by omega))
    show up M 18 ((p : Int) * 30 + p).toNat 0 18 i = _
    rw [up_eq, show ((p : Int) * 30 + p).toNat = 30 * p + p by omega]
    unfold rowV
    by_cases r : 30 * p ≤ i ∧ i < 30 * p + 30
    · rw [if_pos r]
      by_cases q : i = 30 * p + p
      · rw [if_pos q, if_pos q]
      · rw [if_neg q, if_neg q]
        have := h2 (i - 30 * p) (by omega)
        rw [show 30 * p + (i - 30 * p) = i by omega] at this
        exact this
    · rw [if_neg r, if_neg (by omega)]
      exact h1 i r
  | succ m ih =>
    intro n M hn hT hF h1 h2
    have hn2 : n < 30 := by omega
    have eu := sOf_vi hp hf hn2 h1
    have ev := sOf_vi hp hg hn2 h1
    have bu := hu n hn2
    have bv := hv n hn2
    obtain ⟨u, hu2⟩ : ∃ u, viT (tbM M0) f n = u := ⟨_, rfl⟩
    obtain ⟨v, hv2⟩ : ∃ v, viT (tbM M0) g n = v := ⟨_, rfl⟩
    rw [hu2] at eu bu
    rw [hv2] at ev bv
    refine Wp_seg (cut := cutL [(8, [0, 1, 2, 3, 4])]) (CT := fun i' as M' => i' = 8 ∧ as = [vR 0 17, vI p, vI f, vI g, vI ((n : Int) + 1)] ∧ ∃ y : Int, y = nxT u v ∧ M' = up M 18 ((p : Int) * 30 + (n : Int)).toNat y) 4 60 [(4, 17), (1, 0), (1, 1), (1, 2), (1, 3)] (us (us (us (us (fun _ => 0) 0 (p : Int)) 1 f) 2 g) 3 (n : Int)) [(15, 3, [(1, 3), (0, 30), (0, 4)]), (0, 2, [(1, 0), (0, 30)]), (0, 0, [(1, 4), (1, 0)]), (11, 18, [(1, 5), (0, 0)]), (18, 0, []), (16, 48, [(4, 17), (1, 1), (1, 3)]), (16, 48, [(4, 17), (1, 2), (1, 3)]), (15, 0, [(1, 4), (0, -1), (0, 10)]), (0, 2, [(1, 0), (0, 30)]), (0, 0, [(1, 6), (1, 3)]), (15, 1, [(1, 5), (0, -1), (0, 4)]), (0, 0, [(1, 5), (0, 1)]), (11, 18, [(1, 7), (1, 8)]), (0, 0, [(1, 3), (0, 1)]), (17, 8, [(4, 17), (1, 0), (1, 1), (1, 2), (1, 9)]), (11, 18, [(1, 7), (0, -1)]), (0, 0, [(1, 3), (0, 1)]), (17, 8, [(4, 17), (1, 0), (1, 1), (1, 2), (1, 8)]), (15, 0, [(1, 5), (0, -1), (0, 10)]), (0, 2, [(1, 0), (0, 30)]), (0, 0, [(1, 6), (1, 3)]), (15, 1, [(1, 4), (0, -1), (0, 4)]), (0, 0, [(1, 4), (0, 1)]), (11, 18, [(1, 7), (1, 8)]), (0, 0, [(1, 3), (0, 1)]), (17, 8, [(4, 17), (1, 0), (1, 1), (1, 2), (1, 9)]), (11, 18, [(1, 7), (0, -1)]), (0, 0, [(1, 3), (0, 1)]), (17, 8, [(4, 17), (1, 0), (1, 1), (1, 2), (1, 8)]), (15, 3, [(1, 5), (1, 4), (0, 10)]), (0, 2, [(1, 0), (0, 30)]), (0, 0, [(1, 6), (1, 3)]), (15, 1, [(1, 4), (0, -1), (0, 4)]), (0, 0, [(1, 4), (0, 1)]), (11, 18, [(1, 7), (1, 8)]), (0, 0, [(1, 3), (0, 1)]), (17, 8, [(4, 17), (1, 0), (1, 1), (1, 2), (1, 9)]), (11, 18, [(1, 7), (0, -1)]), (0, 0, [(1, 3), (0, 1)]), (17, 8, [(4, 17), (1, 0), (1, 1), (1, 2), (1, 8)]), (0, 2, [(1, 0), (0, 30)]), (0, 0, [(1, 6), (1, 3)]), (15, 1, [(1, 5), (0, -1), (0, 4)]), (0, 0, [(1, 5), (0, 1)]), (11, 18, [(1, 7), (1, 8)]), (0, 0, [(1, 3), (0, 1)]), (17, 8, [(4, 17), (1, 0), (1, 1), (1, 2), (1, 9)]), (11, 18, [(1, 7), (0, -1)]), (0, 0, [(1, 3), (0, 1)]), (17, 8, [(4, 17), (1, 0), (1, 1), (1, 2), (1, 8)])] (by decide +kernel) rfl rfl (by decide) (fun i' dl as M' hi' _ h => ?_) ?_
    · obtain ⟨rfl, rfl, y, hy, rfl⟩ := h
      obtain rfl : [0, 1, 2, 3, 4] = dl := Option.some.inj hi'
      have ei : ((p : Int) * 30 + (n : Int)).toNat = 30 * p + n := by omega
      have by1 : -2147483648 ≤ y ∧ y ≤ 2147483647 := by
        rw [hy]
        unfold nxT
        split
        · split <;> omega
        · omega
      rw [ei]
      refine ih (n + 1) _ (by omega) (okTT_ua (i := (-2147483648, 2147483647)) hT rfl by1) (FrM_up hF (wOf_a (by decide))) (fun i hi => ?_) (fun q hq => ?_)
      · rw [up_eq, if_neg (by omega)]
        exact h1 i hi
      · rw [up_eq]
        by_cases e : q = n
        · rw [if_pos (by omega), hy, e, hu2, hv2]
        · rw [if_neg (by omega)]
          exact h2 q (by omega)
    · exact d_br (fun (h : (30 : Int) ≤ (n : Int)) => absurd h (by omega)) fun _ => d_ca ⟨_, by decide, (e48 (X := X) (x := f) (q := (n : Int)) (M := M) hT).mono fun v3 M3 q3 _ _ _ => (by
      obtain ⟨e1, rfl⟩ := q3
      rw [e1, rbv48, eu]
      exact d_ca ⟨_, by decide, (e48 (X := X) (x := g) (q := (n : Int)) (M := M) hT).mono fun v3 M3 q3 _ _ _ => (by
      obtain ⟨e1, rfl⟩ := q3
      rw [e1, rbv48, ev]
      exact d_br (fun (h1 : u = (-1)) => d_ibw (w := (p : Int) * 30) (ib2 (x := (p : Int)) (y := 30) (by unfold in32; omega)) (d_ibw (w := ((p : Int) * 30) + (n : Int)) (ib0 (x := ((p : Int) * 30)) (y := (n : Int)) (by unfold in32; omega)) (d_br (fun (h2 : v ≠ (-1)) => d_ibw (w := v + 1) (ib0 (x := v) (y := 1) (by unfold in32; omega)) (d_sa (show 0 ≤ (((p : Int) * 30) + (n : Int)) ∧ (((p : Int) * 30) + (n : Int)) < ((900 : Nat) : Int) by omega) (d_ibw (w := (n : Int) + 1) (ib0 (x := (n : Int)) (y := 1) (by unfold in32; omega)) (d_ct (⟨rfl, rfl, (v + 1), (by unfold nxT; first | (rw [if_pos (by omega), if_pos (by omega)]) | (rw [if_pos (by omega), if_neg (by omega)]) | (rw [if_neg (by omega)]) | (exfalso; omega)), rfl⟩))))) (fun (h2 : ¬ (v ≠ (-1))) => d_sa (show 0 ≤ (((p : Int) * 30) + (n : Int)) ∧ (((p : Int) * 30) + (n : Int)) < ((900 : Nat) : Int) by omega) (d_ibw (w := (n : Int) + 1) (ib0 (x := (n : Int)) (y := 1) (by unfold in32; omega)) (d_ct (⟨rfl, rfl, (-1), (by unfold nxT; first | (rw [if_pos (by omega), if_pos (by omega)]) | (rw [if_pos (by omega), if_neg (by omega)]) | (rw [if_neg (by omega)]) | (exfalso; omega)), rfl⟩))))))) (fun (h1 : ¬ (u = (-1))) => d_br (fun (h3 : v = (-1)) => d_ibw (w := (p : Int) * 30) (ib2 (x := (p : Int)) (y := 30) (by unfold in32; omega)) (d_ibw (w := ((p : Int) * 30) + (n : Int)) (ib0 (x := ((p : Int) * 30)) (y := (n : Int)) (by unfold in32; omega)) (d_br (fun (h4 : u ≠ (-1)) => d_ibw (w := u + 1) (ib0 (x := u) (y := 1) (by unfold in32; omega)) (d_sa (show 0 ≤ (((p : Int) * 30) + (n : Int)) ∧ (((p : Int) * 30) + (n : Int)) < ((900 : Nat) : Int) by omega) (d_ibw (w := (n : Int) + 1) (ib0 (x := (n : Int)) (y := 1) (by unfold in32; omega)) (d_ct (⟨rfl, rfl, (u + 1), (by unfold nxT; first | (rw [if_pos (by omega), if_pos (by omega)]) | (rw [if_pos (by omega), if_neg (by omega)]) | (rw [if_neg (by omega)]) | (exfalso; omega)), rfl⟩))))) (fun (h4 : ¬ (u ≠ (-1))) => d_sa (show 0 ≤ (((p : Int) * 30) + (n : Int)) ∧ (((p : Int) * 30) + (n : Int)) < ((900 : Nat) : Int) by omega) (d_ibw (w := (n : Int) + 1) (ib0 (x := (n : Int)) (y := 1) (by unfold in32; omega)) (d_ct (⟨rfl, rfl, (-1), (by unfold nxT; first | (rw [if_pos (by omega), if_pos (by omega)]) | (rw [if_pos (by omega), if_neg (by omega)]) | (rw [if_neg (by omega)]) | (exfalso; omega)), rfl⟩))))))) (fun (h3 : ¬ (v = (-1))) => d_br (fun (h5 : u ≤ v) => d_ibw (w := (p : Int) * 30) (ib2 (x := (p : Int)) (y := 30) (by unfold in32; omega)) (d_ibw (w := ((p : Int) * 30) + (n : Int)) (ib0 (x := ((p : Int) * 30)) (y := (n : Int)) (by unfold in32; omega)) (d_br (fun (h6 : u ≠ (-1)) => d_ibw (w := u + 1) (ib0 (x := u) (y := 1) (by unfold in32; omega)) (d_sa (show 0 ≤ (((p : Int) * 30) + (n : Int)) ∧ (((p : Int) * 30) + (n : Int)) < ((900 : Nat) : Int) by omega) (d_ibw (w := (n : Int) + 1) (ib0 (x := (n : Int)) (y := 1) (by unfold in32; omega)) (d_ct (⟨rfl, rfl, (u + 1), (by unfold nxT; first | (rw [if_pos (by omega), if_pos (by omega)]) | (rw [if_pos (by omega), if_neg (by omega)]) | (rw [if_neg (by omega)]) | (exfalso; omega)), rfl⟩))))) (fun (h6 : ¬ (u ≠ (-1))) => d_sa (show 0 ≤ (((p : Int) * 30) + (n : Int)) ∧ (((p : Int) * 30) + (n : Int)) < ((900 : Nat) : Int) by omega) (d_ibw (w := (n : Int) + 1) (ib0 (x := (n : Int)) (y := 1) (by unfold in32; omega)) (d_ct (⟨rfl, rfl, (-1), (by unfold nxT; first | (rw [if_pos (by omega), if_pos (by omega)]) | (rw [if_pos (by omega), if_neg (by omega)]) | (rw [if_neg (by omega)]) | (exfalso; omega)), rfl⟩))))))) (fun (h5 : ¬ (u ≤ v)) => d_ibw (w := (p : Int) * 30) (ib2 (x := (p : Int)) (y := 30) (by unfold in32; omega)) (d_ibw (w := ((p : Int) * 30) + (n : Int)) (ib0 (x := ((p : Int) * 30)) (y := (n : Int)) (by unfold in32; omega)) (d_br (fun (h7 : v ≠ (-1)) => d_ibw (w := v + 1) (ib0 (x := v) (y := 1) (by unfold in32; omega)) (d_sa (show 0 ≤ (((p : Int) * 30) + (n : Int)) ∧ (((p : Int) * 30) + (n : Int)) < ((900 : Nat) : Int) by omega) (d_ibw (w := (n : Int) + 1) (ib0 (x := (n : Int)) (y := 1) (by unfold in32; omega)) (d_ct (⟨rfl, rfl, (v + 1), (by unfold nxT; first | (rw [if_pos (by omega), if_pos (by omega)]) | (rw [if_pos (by omega), if_neg (by omega)]) | (rw [if_neg (by omega)]) | (exfalso; omega)), rfl⟩))))) (fun (h7 : ¬ (v ≠ (-1))) => d_sa (show 0 ≤ (((p : Int) * 30) + (n : Int)) ∧ (((p : Int) * 30) + (n : Int)) < ((900 : Nat) : Int) by omega) (d_ibw (w := (n : Int) + 1) (ib0 (x := (n : Int)) (y := 1) (by unfold in32; omega)) (d_ct (⟨rfl, rfl, (-1), (by unfold nxT; first | (rw [if_pos (by omega), if_pos (by omega)]) | (rw [if_pos (by omega), if_neg (by omega)]) | (rw [if_neg (by omega)]) | (exfalso; omega)), rfl⟩))))))))))⟩)⟩
theorem e47 {X : Xs} {p : Nat} {f g : Int} {M : Mm} (hT : okTT M) (hp : p ≤ 29) (hf : -1 ≤ f ∧ f < p) (hg : -1 ≤ g ∧ g < p) (hu : ∀ q : Nat, q < 30 → -1 ≤ viT (tbM M) f q ∧ viT (tbM M) f q ≤ 29) (hv : ∀ q : Nat, q < 30 → -1 ≤ viT (tbM M) g q ∧ viT (tbM M) g q ≤ 29) : Wp X 20 47 0 (eL 0 [vR 0 17, vI p, vI f, vI g]) [] M (fun _ M' => okTT M' ∧ FrM sp47_0.2.2.2.1 M M' ∧ ∀ i : Nat, M' 18 i = rowV M p f g i) := by
  refine Wp_ent (cut := cutL [(8, [0, 1, 2, 3, 4])]) (CT := fun i as M' => i = 8 ∧ as = [vR 0 17, vI p, vI f, vI g, vI 0] ∧ M' = M) 3 20 [(4, 17), (1, 0), (1, 1), (1, 2)] (us (us (us (fun _ => 0) 0 (p : Int)) 1 f) 2 g) [(15, 2, [(1, 0), (0, 0), (0, 1)]), (18, 0, []), (15, 2, [(1, 0), (0, 30), (0, 1)]), (17, 8, [(4, 17), (1, 0), (1, 1), (1, 2), (0, 0)]), (18, 0, [])] (by decide +kernel) rfl rfl (by decide) (fun i dl as M' hi _ h => ?_) ?_
  · obtain ⟨rfl, rfl, rfl⟩ := h
    obtain rfl : [0, 1, 2, 3, 4] = dl := Option.some.inj hi
    exact l47 hp hf hg hu hv 30 0 M' rfl hT frm0 (fun _ _ => rfl) (fun q hq => by omega)
  · exact d_br (fun (h : (p : Int) < 0) => absurd h (by omega)) fun _ => d_br (fun _ => d_ct ⟨rfl, rfl, rfl⟩) fun (h : ¬ ((p : Int) < 30)) => absurd h (by omega)
/-! one side looks for the nearest of both -/
theorem l49 {X : Xs} {a b : Nat} {M0 : Mm} (ha : a ≤ 29) (hb : b ≤ 29) (hA : ∀ q : Nat, q < 30 → -1 ≤ tbM M0 a q ∧ tbM M0 a q ≤ 29) (hB : ∀ q : Nat, q < 30 → -1 ≤ tbM M0 b q ∧ tbM M0 b q ≤ 29) : ∀ (m n : Nat) (g : Int) (M : Mm), m + n = min a b + 1 → okTT M → FrM sp49_0.2.2.2.1 M0 M → 0 ≤ g ∧ g ≤ n → cF (tbM M0 a) (tbM M0 b) n = (M 17 1, M 17 2, g) → Wp X 10 49 10 ([0, 1, 2, 3, 4].zip [vR 0 17, vI a, vI b, vI g, vI n]) [] M (fun _ M' => okTT M' ∧ FrM sp49_0.2.2.2.1 M0 M' ∧ M' 17 1 = (cF (tbM M0 a) (tbM M0 b) (min a b + 1)).1 ∧ M' 17 2 = (cF (tbM M0 a) (tbM M0 b) (min a b + 1)).2.1 ∧ ((M' 17 3 = 1 ∧ (cF (tbM M0 a) (tbM M0 b) (min a b + 1)).2.2 = 1 ∧ (cF (tbM M0 a) (tbM M0 b) (min a b + 1)).2.1 ≠ a ∧ (cF (tbM M0 a) (tbM M0 b) (min a b + 1)).2.1 ≠ b) ∨ (M' 17 3 = 0 ∧ ¬ ((cF (tbM M0 a) (tbM M0 b) (min a b + 1)).2.2 = 1 ∧ (cF (tbM M0 a) (tbM M0 b) (min a b + 1)).2.1 ≠ a ∧ (cF (tbM M0 a) (tbM M0 b) (min a b + 1)).2.1 ≠ b)))) := by
  intro m
  induction m with
  | zero =>
    intro n g M hn hT hF hg hI
    obtain rfl : n = min a b + 1 := by omega
    rw [hI]
    dsimp only
    have fin : ∀ z : Int, (z = 1 ∧ (g = 1 ∧ M 17 2 ≠ a ∧ M 17 2 ≠ b)) ∨ (z = 0 ∧ ¬ (g = 1 ∧ M 17 2 ≠ a ∧ M 17 2 ≠ b)) → okTT (up M 17 3 z) ∧ FrM sp49_0.2.2.2.1 M0 (up M 17 3 z) ∧ (up M 17 3 z) 17 1 = M 17 1 ∧ (up M 17 3 z) 17 2 = M 17 2 ∧ (((up M 17 3 z) 17 3 = 1 ∧ g = 1 ∧ M 17 2 ≠ a ∧ M 17 2 ≠ b) ∨ ((up M 17 3 z) 17 3 = 0 ∧ ¬ (g = 1 ∧ M 17 2 ≠ a ∧ M 17 2 ≠ b))) := fun z hz => by
      refine ⟨okTT_up hT (show (0 : Int) ≤ z ∧ z ≤ 1 by omega), FrM_up hF (by decide), rfl, rfl, ?_⟩
      rw [show (up M 17 3 z) 17 3 = z from rfl]
      omega
    have hmn : ((min a b + 1 : Nat) : Int) = (min a b : Nat) + 1 := by omega
    generalize min a b + 1 = n at hmn
    refine Wp_seg (cut := cutL [(10, [0, 1, 2, 3, 4])]) (CT := fun _ _ _ => False) 4 90 [(4, 17), (1, 0), (1, 1), (1, 2), (1, 3)] (us (us (us (us (fun _ => 0) 0 (a : Int)) 1 (b : Int)) 2 g) 3 (n : Int)) [(15, 4, [(1, 3), (1, 0), (0, 17)]), (15, 1, [(1, 2), (0, 1), (0, 3)]), (12, 0, [(0, 0)]), (10, 17, [(0, 3), (0, 0)]), (18, 0, []), (4, 17, [(0, 2)]), (15, 0, [(1, 4), (1, 0), (0, 3)]), (12, 0, [(0, 0)]), (10, 17, [(0, 3), (0, 0)]), (18, 0, []), (4, 17, [(0, 2)]), (15, 0, [(1, 5), (1, 1), (0, 3)]), (12, 0, [(0, 0)]), (10, 17, [(0, 3), (0, 0)]), (18, 0, []), (12, 0, [(0, 1)]), (10, 17, [(0, 3), (0, 1)]), (18, 0, []), (15, 4, [(1, 3), (1, 1), (0, 17)]), (15, 1, [(1, 2), (0, 1), (0, 3)]), (12, 0, [(0, 0)]), (10, 17, [(0, 3), (0, 0)]), (18, 0, []), (4, 17, [(0, 2)]), (15, 0, [(1, 4), (1, 0), (0, 3)]), (12, 0, [(0, 0)]), (10, 17, [(0, 3), (0, 0)]), (18, 0, []), (4, 17, [(0, 2)]), (15, 0, [(1, 5), (1, 1), (0, 3)]), (12, 0, [(0, 0)]), (10, 17, [(0, 3), (0, 0)]), (18, 0, []), (12, 0, [(0, 1)]), (10, 17, [(0, 3), (0, 1)]), (18, 0, []), (0, 2, [(1, 0), (0, 30)]), (0, 0, [(1, 4), (1, 3)]), (5, 18, [(1, 5)]), (0, 2, [(1, 1), (0, 30)]), (0, 0, [(1, 7), (1, 3)]), (5, 18, [(1, 8)]), (15, 0, [(1, 6), (0, -1), (0, 2)]), (0, 0, [(1, 3), (0, 1)]), (17, 10, [(4, 17), (1, 0), (1, 1), (1, 2), (1, 10)]), (15, 0, [(1, 9), (0, -1), (0, 2)]), (0, 0, [(1, 3), (0, 1)]), (17, 10, [(4, 17), (1, 0), (1, 1), (1, 2), (1, 10)]), (0, 0, [(1, 6), (1, 9)]), (15, 5, [(1, 10), (0, 8), (0, 23)]), (4, 17, [(0, 1)]), (15, 0, [(1, 11), (0, -1), (0, 5)]), (0, 0, [(1, 6), (1, 9)]), (10, 17, [(0, 1), (1, 12)]), (10, 17, [(0, 2), (1, 3)]), (0, 0, [(1, 3), (0, 1)]), (17, 10, [(4, 17), (1, 0), (1, 1), (0, 1), (1, 13)]), (0, 0, [(1, 6), (1, 9)]), (4, 17, [(0, 1)]), (15, 3, [(1, 12), (1, 13), (0, 8)]), (0, 0, [(1, 6), (1, 9)]), (4, 17, [(0, 1)]), (15, 1, [(1, 14), (1, 15), (0, 2)]), (0, 0, [(1, 3), (0, 1)]), (17, 10, [(4, 17), (1, 0), (1, 1), (1, 2), (1, 16)]), (0, 0, [(1, 2), (0, 1)]), (0, 0, [(1, 3), (0, 1)]), (17, 10, [(4, 17), (1, 0), (1, 1), (1, 16), (1, 17)]), (0, 0, [(1, 6), (1, 9)]), (10, 17, [(0, 1), (1, 14)]), (10, 17, [(0, 2), (1, 3)]), (0, 0, [(1, 3), (0, 1)]), (17, 10, [(4, 17), (1, 0), (1, 1), (0, 1), (1, 15)]), (0, 0, [(1, 3), (0, 1)]), (17, 10, [(4, 17), (1, 0), (1, 1), (1, 2), (1, 11)])] (by decide +kernel) rfl rfl (by decide) (fun _ _ _ _ _ _ h => h.elim) ?_
    exact d_br (fun (ha1 : (a : Int) < (n : Int)) => d_br (fun (h1 : g ≠ 1) => d_bo (Or.inl rfl) (d_st (d_r0 (fin 0 (by omega))))) (fun (h1 : ¬ (g ≠ 1)) => d_ld fun _ => d_br (fun (h2 : (M 17 2) = (a : Int)) => d_bo (Or.inl rfl) (d_st (d_r0 (fin 0 (by omega))))) (fun (h2 : ¬ ((M 17 2) = (a : Int))) => d_ld fun _ => d_br (fun (h3 : (M 17 2) = (b : Int)) => d_bo (Or.inl rfl) (d_st (d_r0 (fin 0 (by omega))))) (fun (h3 : ¬ ((M 17 2) = (b : Int))) => d_bo (Or.inr rfl) (d_st (d_r0 (fin 1 (by omega)))))))) fun (ha1 : ¬ ((a : Int) < (n : Int))) => d_br (fun (hb1 : (b : Int) < (n : Int)) => d_br (fun (h1 : g ≠ 1) => d_bo (Or.inl rfl) (d_st (d_r0 (fin 0 (by omega))))) (fun (h1 : ¬ (g ≠ 1)) => d_ld fun _ => d_br (fun (h2 : (M 17 2) = (a : Int)) => d_bo (Or.inl rfl) (d_st (d_r0 (fin 0 (by omega))))) (fun (h2 : ¬ ((M 17 2) = (a : Int))) => d_ld fun _ => d_br (fun (h3 : (M 17 2) = (b : Int)) => d_bo (Or.inl rfl) (d_st (d_r0 (fin 0 (by omega))))) (fun (h3 : ¬ ((M 17 2) = (b : Int))) => d_bo (Or.inr rfl) (d_st (d_r0 (fin 1 (by omega)))))))) fun (hb1 : ¬ ((b : Int) < (n : Int))) => False.elim (by omega)
  | succ m ih =>
    intro n g M hn hT hF hg hI
    have bx := hA n (by omega)
    have by1 := hB n (by omega)
    obtain ⟨x, hx⟩ : ∃ x, tbM M0 a n = x := ⟨_, rfl⟩
    obtain ⟨y, hy⟩ : ∃ y, tbM M0 b n = y := ⟨_, rfl⟩
    have ex : M 18 ((a : Int) * 30 + (n : Int)).toNat = x := by
      rw [← hx, show ((a : Int) * 30 + (n : Int)).toNat = 30 * a + n by omega]
      exact hF 18 _ (wOf_no rfl _)
    have ey : M 18 ((b : Int) * 30 + (n : Int)).toNat = y := by
      rw [← hy, show ((b : Int) * 30 + (n : Int)).toNat = 30 * b + n by omega]
      exact hF 18 _ (wOf_no rfl _)
    rw [hx] at bx
    rw [hy] at by1
    refine Wp_seg (cut := cutL [(10, [0, 1, 2, 3, 4])]) (CT := fun i' as M' => i' = 10 ∧ ∃ (g' : Int) (M2 : Mm), as = [vR 0 17, vI a, vI b, vI g', vI ((n : Int) + 1)] ∧ M' = M2 ∧ okTT M2 ∧ FrM sp49_0.2.2.2.1 M0 M2 ∧ cStep x y n (M 17 1, M 17 2, g) = (M2 17 1, M2 17 2, g')) 4 90 [(4, 17), (1, 0), (1, 1), (1, 2), (1, 3)] (us (us (us (us (fun _ => 0) 0 (a : Int)) 1 (b : Int)) 2 g) 3 (n : Int)) [(15, 4, [(1, 3), (1, 0), (0, 17)]), (15, 1, [(1, 2), (0, 1), (0, 3)]), (12, 0, [(0, 0)]), (10, 17, [(0, 3), (0, 0)]), (18, 0, []), (4, 17, [(0, 2)]), (15, 0, [(1, 4), (1, 0), (0, 3)]), (12, 0, [(0, 0)]), (10, 17, [(0, 3), (0, 0)]), (18, 0, []), (4, 17, [(0, 2)]), (15, 0, [(1, 5), (1, 1), (0, 3)]), (12, 0, [(0, 0)]), (10, 17, [(0, 3), (0, 0)]), (18, 0, []), (12, 0, [(0, 1)]), (10, 17, [(0, 3), (0, 1)]), (18, 0, []), (15, 4, [(1, 3), (1, 1), (0, 17)]), (15, 1, [(1, 2), (0, 1), (0, 3)]), (12, 0, [(0, 0)]), (10, 17, [(0, 3), (0, 0)]), (18, 0, []), (4, 17, [(0, 2)]), (15, 0, [(1, 4), (1, 0), (0, 3)]), (12, 0, [(0, 0)]), (10, 17, [(0, 3), (0, 0)]), (18, 0, []), (4, 17, [(0, 2)]), (15, 0, [(1, 5), (1, 1), (0, 3)]), (12, 0, [(0, 0)]), (10, 17, [(0, 3), (0, 0)]), (18, 0, []), (12, 0, [(0, 1)]), (10, 17, [(0, 3), (0, 1)]), (18, 0, []), (0, 2, [(1, 0), (0, 30)]), (0, 0, [(1, 4), (1, 3)]), (5, 18, [(1, 5)]), (0, 2, [(1, 1), (0, 30)]), (0, 0, [(1, 7), (1, 3)]), (5, 18, [(1, 8)]), (15, 0, [(1, 6), (0, -1), (0, 2)]), (0, 0, [(1, 3), (0, 1)]), (17, 10, [(4, 17), (1, 0), (1, 1), (1, 2), (1, 10)]), (15, 0, [(1, 9), (0, -1), (0, 2)]), (0, 0, [(1, 3), (0, 1)]), (17, 10, [(4, 17), (1, 0), (1, 1), (1, 2), (1, 10)]), (0, 0, [(1, 6), (1, 9)]), (15, 5, [(1, 10), (0, 8), (0, 23)]), (4, 17, [(0, 1)]), (15, 0, [(1, 11), (0, -1), (0, 5)]), (0, 0, [(1, 6), (1, 9)]), (10, 17, [(0, 1), (1, 12)]), (10, 17, [(0, 2), (1, 3)]), (0, 0, [(1, 3), (0, 1)]), (17, 10, [(4, 17), (1, 0), (1, 1), (0, 1), (1, 13)]), (0, 0, [(1, 6), (1, 9)]), (4, 17, [(0, 1)]), (15, 3, [(1, 12), (1, 13), (0, 8)]), (0, 0, [(1, 6), (1, 9)]), (4, 17, [(0, 1)]), (15, 1, [(1, 14), (1, 15), (0, 2)]), (0, 0, [(1, 3), (0, 1)]), (17, 10, [(4, 17), (1, 0), (1, 1), (1, 2), (1, 16)]), (0, 0, [(1, 2), (0, 1)]), (0, 0, [(1, 3), (0, 1)]), (17, 10, [(4, 17), (1, 0), (1, 1), (1, 16), (1, 17)]), (0, 0, [(1, 6), (1, 9)]), (10, 17, [(0, 1), (1, 14)]), (10, 17, [(0, 2), (1, 3)]), (0, 0, [(1, 3), (0, 1)]), (17, 10, [(4, 17), (1, 0), (1, 1), (0, 1), (1, 15)]), (0, 0, [(1, 3), (0, 1)]), (17, 10, [(4, 17), (1, 0), (1, 1), (1, 2), (1, 11)])] (by decide +kernel) rfl rfl (by decide) (fun i' dl as M' hi' _ h => ?_) ?_
    · obtain ⟨rfl, g', M2, rfl, rfl, g1, g2, g3⟩ := h
      obtain rfl : [0, 1, 2, 3, 4] = dl := Option.some.inj hi'
      refine ih (n + 1) g' _ (by omega) g1 g2 ?_ ?_
      · have := congrArg (fun z => z.2.2) g3
        dsimp only at this
        unfold cStep at this
        dsimp only at this
        split at this
        · dsimp only at this; omega
        · split at this
          · dsimp only at this; omega
          · split at this
            · dsimp only at this; omega
            · dsimp only at this; omega
      · show cStep (tbM M0 a n) (tbM M0 b n) n (cF (tbM M0 a) (tbM M0 b) n) = _
        rw [hI, hx, hy]
        exact g3
    · exact d_br (fun (h : (a : Int) < (n : Int)) => False.elim (by omega)) fun _ => d_br (fun (h : (b : Int) < (n : Int)) => False.elim (by omega)) fun _ => d_ibw (w := (a : Int) * 30) (ib2 (x := (a : Int)) (y := 30) (by unfold in32; omega)) (d_ibw (w := ((a : Int) * 30) + (n : Int)) (ib0 (x := ((a : Int) * 30)) (y := (n : Int)) (by unfold in32; omega)) (d_law (w := x) (show 0 ≤ (((a : Int) * 30) + (n : Int)) ∧ (((a : Int) * 30) + (n : Int)) < ((900 : Nat) : Int) by omega) ex (d_ibw (w := (b : Int) * 30) (ib2 (x := (b : Int)) (y := 30) (by unfold in32; omega)) (d_ibw (w := ((b : Int) * 30) + (n : Int)) (ib0 (x := ((b : Int) * 30)) (y := (n : Int)) (by unfold in32; omega)) (d_law (w := y) (show 0 ≤ (((b : Int) * 30) + (n : Int)) ∧ (((b : Int) * 30) + (n : Int)) < ((900 : Nat) : Int) by omega) ey (d_br (fun (h1 : x = (-1)) => d_ibw (w := (n : Int) + 1) (ib0 (x := (n : Int)) (y := 1) (by unfold in32; omega)) (d_ct (⟨rfl, g, M, rfl, rfl, hT, ⟨hF, (by unfold cStep; dsimp only; first | (rw [if_pos (by omega)]) | (rw [if_neg (by omega), if_pos (by omega)]; rfl) | (rw [if_neg (by omega), if_neg (by omega), if_pos (by omega)]) | (rw [if_neg (by omega), if_neg (by omega), if_neg (by omega)]) | (exfalso; omega))⟩⟩))) (fun (h1 : ¬ (x = (-1))) => d_br (fun (h2 : y = (-1)) => d_ibw (w := (n : Int) + 1) (ib0 (x := (n : Int)) (y := 1) (by unfold in32; omega)) (d_ct (⟨rfl, g, M, rfl, rfl, hT, ⟨hF, (by unfold cStep; dsimp only; first | (rw [if_pos (by omega)]) | (rw [if_neg (by omega), if_pos (by omega)]; rfl) | (rw [if_neg (by omega), if_neg (by omega), if_pos (by omega)]) | (rw [if_neg (by omega), if_neg (by omega), if_neg (by omega)]) | (exfalso; omega))⟩⟩))) (fun (h2 : ¬ (y = (-1))) => d_ibw (w := x + y) (ib0 (x := x) (y := y) (by unfold in32; omega)) (d_br (fun (h3 : (x + y) ≤ 8) => d_ld fun _ => d_br (fun (h4 : (M 17 1) = (-1)) => d_ibw (w := x + y) (ib0 (x := x) (y := y) (by unfold in32; omega)) (d_st (d_st (d_ibw (w := (n : Int) + 1) (ib0 (x := (n : Int)) (y := 1) (by unfold in32; omega)) (d_ct (⟨rfl, 1, up (up M 17 1 ((x + y))) 17 2 ((n : Int)), rfl, rfl, (okTT_up (okTT_up hT (show (-2147483648 : Int) ≤ (x + y) ∧ (x + y) ≤ (2147483647 : Int) by omega)) (show (-2147483648 : Int) ≤ (n : Int) ∧ (n : Int) ≤ (2147483647 : Int) by omega)), ⟨(FrM_up (FrM_up hF (by decide)) (by decide)), (by unfold cStep; dsimp only; first | (rw [if_pos (by omega)]) | (rw [if_neg (by omega), if_pos (by omega)]; rfl) | (rw [if_neg (by omega), if_neg (by omega), if_pos (by omega)]) | (rw [if_neg (by omega), if_neg (by omega), if_neg (by omega)]) | (exfalso; omega))⟩⟩)))))) (fun (h4 : ¬ ((M 17 1) = (-1))) => d_ibw (w := x + y) (ib0 (x := x) (y := y) (by unfold in32; omega)) (d_ld fun _ => d_br (fun (h5 : (M 17 1) ≤ (x + y)) => d_ibw (w := x + y) (ib0 (x := x) (y := y) (by unfold in32; omega)) (d_ld fun _ => d_br (fun (h6 : (x + y) ≠ (M 17 1)) => d_ibw (w := (n : Int) + 1) (ib0 (x := (n : Int)) (y := 1) (by unfold in32; omega)) (d_ct (⟨rfl, g, M, rfl, rfl, hT, ⟨hF, (by unfold cStep; dsimp only; first | (rw [if_pos (by omega)]) | (rw [if_neg (by omega), if_pos (by omega)]; rfl) | (rw [if_neg (by omega), if_neg (by omega), if_pos (by omega)]) | (rw [if_neg (by omega), if_neg (by omega), if_neg (by omega)]) | (exfalso; omega))⟩⟩))) (fun (h6 : ¬ ((x + y) ≠ (M 17 1))) => d_ibw (w := g + 1) (ib0 (x := g) (y := 1) (by unfold in32; omega)) (d_ibw (w := (n : Int) + 1) (ib0 (x := (n : Int)) (y := 1) (by unfold in32; omega)) (d_ct (⟨rfl, (g + 1), M, rfl, rfl, hT, ⟨hF, (by unfold cStep; dsimp only; first | (rw [if_pos (by omega)]) | (rw [if_neg (by omega), if_pos (by omega)]; rfl) | (rw [if_neg (by omega), if_neg (by omega), if_pos (by omega)]) | (rw [if_neg (by omega), if_neg (by omega), if_neg (by omega)]) | (exfalso; omega))⟩⟩)))))) (fun (h5 : ¬ ((M 17 1) ≤ (x + y))) => d_ibw (w := x + y) (ib0 (x := x) (y := y) (by unfold in32; omega)) (d_st (d_st (d_ibw (w := (n : Int) + 1) (ib0 (x := (n : Int)) (y := 1) (by unfold in32; omega)) (d_ct (⟨rfl, 1, up (up M 17 1 ((x + y))) 17 2 ((n : Int)), rfl, rfl, (okTT_up (okTT_up hT (show (-2147483648 : Int) ≤ (x + y) ∧ (x + y) ≤ (2147483647 : Int) by omega)) (show (-2147483648 : Int) ≤ (n : Int) ∧ (n : Int) ≤ (2147483647 : Int) by omega)), ⟨(FrM_up (FrM_up hF (by decide)) (by decide)), (by unfold cStep; dsimp only; first | (rw [if_pos (by omega)]) | (rw [if_neg (by omega), if_pos (by omega)]; rfl) | (rw [if_neg (by omega), if_neg (by omega), if_pos (by omega)]) | (rw [if_neg (by omega), if_neg (by omega), if_neg (by omega)]) | (exfalso; omega))⟩⟩))))))))) (fun (h3 : ¬ ((x + y) ≤ 8)) => d_ibw (w := (n : Int) + 1) (ib0 (x := (n : Int)) (y := 1) (by unfold in32; omega)) (d_ct (⟨rfl, g, M, rfl, rfl, hT, ⟨hF, (by unfold cStep; dsimp only; first | (rw [if_pos (by omega)]) | (rw [if_neg (by omega), if_pos (by omega)]; rfl) | (rw [if_neg (by omega), if_neg (by omega), if_pos (by omega)]) | (rw [if_neg (by omega), if_neg (by omega), if_neg (by omega)]) | (exfalso; omega))⟩⟩))))))))))))
theorem e49 {X : Xs} {a b : Nat} {M : Mm} (hT : okTT M) (ha : a ≤ 29) (hb : b ≤ 29) (hA : ∀ q : Nat, q < 30 → -1 ≤ tbM M a q ∧ tbM M a q ≤ 29) (hB : ∀ q : Nat, q < 30 → -1 ≤ tbM M b q ∧ tbM M b q ≤ 29) : Wp X 10 49 0 (eL 0 [vR 0 17, vI a, vI b]) [] M (fun _ M' => okTT M' ∧ FrM sp49_0.2.2.2.1 M M' ∧ M' 17 1 = (cF (tbM M a) (tbM M b) (min a b + 1)).1 ∧ M' 17 2 = (cF (tbM M a) (tbM M b) (min a b + 1)).2.1 ∧ ((M' 17 3 = 1 ∧ (cF (tbM M a) (tbM M b) (min a b + 1)).2.2 = 1 ∧ (cF (tbM M a) (tbM M b) (min a b + 1)).2.1 ≠ a ∧ (cF (tbM M a) (tbM M b) (min a b + 1)).2.1 ≠ b) ∨ (M' 17 3 = 0 ∧ ¬ ((cF (tbM M a) (tbM M b) (min a b + 1)).2.2 = 1 ∧ (cF (tbM M a) (tbM M b) (min a b + 1)).2.1 ≠ a ∧ (cF (tbM M a) (tbM M b) (min a b + 1)).2.1 ≠ b)))) := by
  refine Wp_ent (cut := cutL [(10, [0, 1, 2, 3, 4])]) (CT := fun i as M' => i = 10 ∧ as = [vR 0 17, vI a, vI b, vI 0, vI 0] ∧ M' = up (up M 17 1 (-1)) 17 2 (-1)) 2 20 [(4, 17), (1, 0), (1, 1)] (us (us (fun _ => 0) 0 (a : Int)) 1 (b : Int)) [(10, 17, [(0, 1), (0, -1)]), (10, 17, [(0, 2), (0, -1)]), (17, 10, [(4, 17), (1, 0), (1, 1), (0, 0), (0, 0)])] (by decide +kernel) rfl rfl (by decide) (fun i dl as M' hi _ h => ?_) ?_
  · obtain ⟨rfl, rfl, rfl⟩ := h
    obtain rfl : [0, 1, 2, 3, 4] = dl := Option.some.inj hi
    exact l49 ha hb hA hB (min a b + 1) 0 0 _ rfl (okTT_up (okTT_up hT (show (-2147483648 : Int) ≤ -1 ∧ (-1 : Int) ≤ 2147483647 by omega)) (show (-2147483648 : Int) ≤ -1 ∧ (-1 : Int) ≤ 2147483647 by omega)) (FrM_up (FrM_up frm0 (by decide)) (by decide)) ⟨Int.le_refl _, Int.le_refl _⟩ rfl
  · exact d_st (d_st (d_ct ⟨rfl, rfl, rfl⟩))
/-! climbing -/
def rl (U : Nat → Int) (k : Nat) (x : Int) (V : Nat → Int) : Prop := ∀ j : Nat, j < 30 → V j ≤ U j ∧ (V j = U j ∨ (U k < 99 ∧ (j : Int) = x ∧ V j = U k + 1)) ∧ (U k < 99 → (j : Int) = x → V j ≤ U k + 1)
theorem rl_same {U : Nat → Int} {k : Nat} {x : Int} (h : 99 ≤ U k ∨ x < 0) : rl U k x U := fun j hj => ⟨Int.le_refl _, Or.inl rfl, fun h1 h2 => by omega⟩
theorem rl_up {M : Mm} {a k : Nat} {x y : Int} (hx : 0 ≤ x) (hk : M a k < 99) (hy : y ≤ M a x.toNat ∧ y ≤ M a k + 1 ∧ (y = M a x.toNat ∨ y = M a k + 1)) : rl (M a) k x (up M a x.toNat y a) := by
  intro j hj
  rw [up_eq]
  by_cases e : j = x.toNat
  · rw [if_pos e, e]
    exact ⟨hy.1, by rcases hy.2.2 with q | q
                    · exact Or.inl q
                    · exact Or.inr ⟨hk, by omega, q⟩, fun _ _ => hy.2.1⟩
  · rw [if_neg e]
    exact ⟨Int.le_refl _, Or.inl rfl, fun _ h2 => by omega⟩
theorem c18_92 {X : Xs} {p k : Nat} {x : Int} {M M0 : Mm} {Q : Option V → Mm → Prop} (hk : k ≤ 29) (hx : -1 ≤ x ∧ x < 30) (ex : M 69 ((k : Int)).toNat = x) (hT : okTT M) (hF : FrM [(92, 0)] M0 M) (bk : 0 ≤ M 92 k ∧ M 92 k ≤ 99) (bg : 0 ≤ x → 0 ≤ M 92 x.toNat ∧ M 92 x.toNat ≤ 99) (nx : ∀ M1 : Mm, okTT M1 → FrM [(92, 0)] M0 M1 → rl (M 92) k x (M1 92) → Wp X 10 135 60 ([0, 1, 2, 3].zip [vR 0 65, vI p, vR 0 92, vI (k)]) [] M1 Q) : Wp X 10 135 18 ([0, 1, 2, 3].zip [vR 0 65, vI p, vR 0 92, vI k]) [] M Q := by
  have ek0 : M 92 ((k : Int)).toNat = M 92 k := rfl
  refine Wp_seg (cut := cutL [(2, [0, 1, 2, 3]), (18, [0, 1, 2, 3]), (60, [0, 1, 2, 3])]) (CT := fun i' as M' => i' = 60 ∧ ∃ M2 : Mm, as = [vR 0 65, vI p, vR 0 92, vI (k)] ∧ M' = M2 ∧ okTT M2 ∧ FrM [(92, 0)] M0 M2 ∧ rl (M 92) k x (M2 92)) 2 40 [(4, 65), (1, 0), (4, 92), (1, 1)] (us (us (fun _ => 0) 0 p) 1 k) [(15, 2, [(1, 1), (0, 0), (0, 1)]), (18, 0, []), (5, 92, [(1, 1)]), (15, 3, [(1, 2), (0, 99), (0, 1)]), (17, 60, [(4, 65), (1, 0), (4, 92), (1, 1)]), (5, 69, [(1, 1)]), (15, 2, [(1, 3), (0, 0), (0, 1)]), (17, 60, [(4, 65), (1, 0), (4, 92), (1, 1)]), (5, 69, [(1, 1)]), (5, 92, [(1, 1)]), (0, 0, [(1, 5), (0, 1)]), (5, 69, [(1, 1)]), (5, 92, [(1, 7)]), (15, 3, [(1, 6), (1, 8), (0, 4)]), (5, 69, [(1, 1)]), (5, 92, [(1, 9)]), (11, 92, [(1, 4), (1, 10)]), (17, 60, [(4, 65), (1, 0), (4, 92), (1, 1)]), (5, 92, [(1, 1)]), (0, 0, [(1, 9), (0, 1)]), (11, 92, [(1, 4), (1, 10)]), (17, 60, [(4, 65), (1, 0), (4, 92), (1, 1)])] (by decide +kernel) rfl rfl (by decide) (fun i' dl as M' hi' _ h => ?_) ?_
  · obtain ⟨rfl, M2, rfl, rfl, g1, g2, g3⟩ := h
    obtain rfl : [0, 1, 2, 3] = dl := Option.some.inj hi'
    exact nx _ g1 g2 g3
  · exact d_br (fun (h : (k : Int) < 0) => False.elim (by omega)) fun _ => d_la (show 0 ≤ (k : Int) ∧ (k : Int) < ((30 : Nat) : Int) by omega) fun _ => d_br (fun (h1 : 99 ≤ (M 92 ((k : Int)).toNat)) => d_ct (⟨rfl, M, rfl, rfl, hT, hF, rl_same (by omega)⟩)) (fun (h1 : ¬ (99 ≤ (M 92 ((k : Int)).toNat))) => d_law (w := x) (show 0 ≤ (k : Int) ∧ (k : Int) < ((30 : Nat) : Int) by omega) ex (d_br (fun (h2 : x < 0) => d_ct (⟨rfl, M, rfl, rfl, hT, hF, rl_same (by omega)⟩)) (fun (h2 : ¬ (x < 0)) => d_law (w := x) (show 0 ≤ (k : Int) ∧ (k : Int) < ((30 : Nat) : Int) by omega) ex (d_la (show 0 ≤ (k : Int) ∧ (k : Int) < ((30 : Nat) : Int) by omega) fun _ => d_ibw (w := (M 92 ((k : Int)).toNat) + 1) (ib0 (x := (M 92 ((k : Int)).toNat)) (y := 1) (by unfold in32; omega)) (d_law (w := x) (show 0 ≤ (k : Int) ∧ (k : Int) < ((30 : Nat) : Int) by omega) ex (d_la (show 0 ≤ x ∧ x < ((30 : Nat) : Int) by omega) fun _ => d_br (fun (h3 : (M 92 (x).toNat) ≤ ((M 92 ((k : Int)).toNat) + 1)) => d_law (w := x) (show 0 ≤ (k : Int) ∧ (k : Int) < ((30 : Nat) : Int) by omega) ex (d_la (show 0 ≤ x ∧ x < ((30 : Nat) : Int) by omega) fun _ => d_sa (show 0 ≤ x ∧ x < ((30 : Nat) : Int) by omega) (d_ct (⟨rfl, (up M 92 (x).toNat ((M 92 (x).toNat))), rfl, rfl, okTT_ua (i := (-2147483648, 2147483647)) hT rfl (show (-2147483648 : Int) ≤ (M 92 (x).toNat) ∧ (M 92 (x).toNat) ≤ 2147483647 by omega), FrM_up hF (wOf_a (by decide)), rl_up (by omega) (by omega) (by omega)⟩)))) (fun (h3 : ¬ ((M 92 (x).toNat) ≤ ((M 92 ((k : Int)).toNat) + 1))) => d_la (show 0 ≤ (k : Int) ∧ (k : Int) < ((30 : Nat) : Int) by omega) fun _ => d_ibw (w := (M 92 ((k : Int)).toNat) + 1) (ib0 (x := (M 92 ((k : Int)).toNat)) (y := 1) (by unfold in32; omega)) (d_sa (show 0 ≤ x ∧ x < ((30 : Nat) : Int) by omega) (d_ct (⟨rfl, (up M 92 (x).toNat (((M 92 ((k : Int)).toNat) + 1))), rfl, rfl, okTT_ua (i := (-2147483648, 2147483647)) hT rfl (show (-2147483648 : Int) ≤ ((M 92 ((k : Int)).toNat) + 1) ∧ ((M 92 ((k : Int)).toNat) + 1) ≤ 2147483647 by omega), FrM_up hF (wOf_a (by decide)), rl_up (by omega) (by omega) (by omega)⟩))))))))))
theorem c60_92 {X : Xs} {p k : Nat} {x : Int} {M M0 : Mm} {Q : Option V → Mm → Prop} (hk : k ≤ 29) (hx : -1 ≤ x ∧ x < 30) (ex : M 70 ((k : Int)).toNat = x) (hT : okTT M) (hF : FrM [(92, 0)] M0 M) (bk : 0 ≤ M 92 k ∧ M 92 k ≤ 99) (bg : 0 ≤ x → 0 ≤ M 92 x.toNat ∧ M 92 x.toNat ≤ 99) (nx : ∀ M1 : Mm, okTT M1 → FrM [(92, 0)] M0 M1 → rl (M 92) k x (M1 92) → Wp X 10 135 18 ([0, 1, 2, 3].zip [vR 0 65, vI p, vR 0 92, vI ((k : Int) + (-1))]) [] M1 Q) : Wp X 10 135 60 ([0, 1, 2, 3].zip [vR 0 65, vI p, vR 0 92, vI k]) [] M Q := by
  have ek0 : M 92 ((k : Int)).toNat = M 92 k := rfl
  refine Wp_seg (cut := cutL [(2, [0, 1, 2, 3]), (18, [0, 1, 2, 3]), (60, [0, 1, 2, 3])]) (CT := fun i' as M' => i' = 18 ∧ ∃ M2 : Mm, as = [vR 0 65, vI p, vR 0 92, vI ((k : Int) + (-1))] ∧ M' = M2 ∧ okTT M2 ∧ FrM [(92, 0)] M0 M2 ∧ rl (M 92) k x (M2 92)) 2 40 [(4, 65), (1, 0), (4, 92), (1, 1)] (us (us (fun _ => 0) 0 p) 1 k) [(5, 92, [(1, 1)]), (15, 3, [(1, 2), (0, 99), (0, 2)]), (0, 0, [(1, 1), (0, -1)]), (17, 18, [(4, 65), (1, 0), (4, 92), (1, 3)]), (5, 70, [(1, 1)]), (15, 2, [(1, 3), (0, 0), (0, 2)]), (0, 0, [(1, 1), (0, -1)]), (17, 18, [(4, 65), (1, 0), (4, 92), (1, 4)]), (5, 70, [(1, 1)]), (5, 92, [(1, 1)]), (0, 0, [(1, 5), (0, 1)]), (5, 70, [(1, 1)]), (5, 92, [(1, 7)]), (15, 3, [(1, 6), (1, 8), (0, 5)]), (5, 70, [(1, 1)]), (5, 92, [(1, 9)]), (11, 92, [(1, 4), (1, 10)]), (0, 0, [(1, 1), (0, -1)]), (17, 18, [(4, 65), (1, 0), (4, 92), (1, 11)]), (5, 92, [(1, 1)]), (0, 0, [(1, 9), (0, 1)]), (11, 92, [(1, 4), (1, 10)]), (0, 0, [(1, 1), (0, -1)]), (17, 18, [(4, 65), (1, 0), (4, 92), (1, 11)])] (by decide +kernel) rfl rfl (by decide) (fun i' dl as M' hi' _ h => ?_) ?_
  · obtain ⟨rfl, M2, rfl, rfl, g1, g2, g3⟩ := h
    obtain rfl : [0, 1, 2, 3] = dl := Option.some.inj hi'
    exact nx _ g1 g2 g3
  · exact d_la (show 0 ≤ (k : Int) ∧ (k : Int) < ((30 : Nat) : Int) by omega) fun _ => d_br (fun (h1 : 99 ≤ (M 92 ((k : Int)).toNat)) => d_ibw (w := (k : Int) + (-1)) (ib0 (x := (k : Int)) (y := (-1)) (by unfold in32; omega)) (d_ct (⟨rfl, M, rfl, rfl, hT, hF, rl_same (by omega)⟩))) (fun (h1 : ¬ (99 ≤ (M 92 ((k : Int)).toNat))) => d_law (w := x) (show 0 ≤ (k : Int) ∧ (k : Int) < ((30 : Nat) : Int) by omega) ex (d_br (fun (h2 : x < 0) => d_ibw (w := (k : Int) + (-1)) (ib0 (x := (k : Int)) (y := (-1)) (by unfold in32; omega)) (d_ct (⟨rfl, M, rfl, rfl, hT, hF, rl_same (by omega)⟩))) (fun (h2 : ¬ (x < 0)) => d_law (w := x) (show 0 ≤ (k : Int) ∧ (k : Int) < ((30 : Nat) : Int) by omega) ex (d_la (show 0 ≤ (k : Int) ∧ (k : Int) < ((30 : Nat) : Int) by omega) fun _ => d_ibw (w := (M 92 ((k : Int)).toNat) + 1) (ib0 (x := (M 92 ((k : Int)).toNat)) (y := 1) (by unfold in32; omega)) (d_law (w := x) (show 0 ≤ (k : Int) ∧ (k : Int) < ((30 : Nat) : Int) by omega) ex (d_la (show 0 ≤ x ∧ x < ((30 : Nat) : Int) by omega) fun _ => d_br (fun (h3 : (M 92 (x).toNat) ≤ ((M 92 ((k : Int)).toNat) + 1)) => d_law (w := x) (show 0 ≤ (k : Int) ∧ (k : Int) < ((30 : Nat) : Int) by omega) ex (d_la (show 0 ≤ x ∧ x < ((30 : Nat) : Int) by omega) fun _ => d_sa (show 0 ≤ x ∧ x < ((30 : Nat) : Int) by omega) (d_ibw (w := (k : Int) + (-1)) (ib0 (x := (k : Int)) (y := (-1)) (by unfold in32; omega)) (d_ct (⟨rfl, (up M 92 (x).toNat ((M 92 (x).toNat))), rfl, rfl, okTT_ua (i := (-2147483648, 2147483647)) hT rfl (show (-2147483648 : Int) ≤ (M 92 (x).toNat) ∧ (M 92 (x).toNat) ≤ 2147483647 by omega), FrM_up hF (wOf_a (by decide)), rl_up (by omega) (by omega) (by omega)⟩))))) (fun (h3 : ¬ ((M 92 (x).toNat) ≤ ((M 92 ((k : Int)).toNat) + 1))) => d_la (show 0 ≤ (k : Int) ∧ (k : Int) < ((30 : Nat) : Int) by omega) fun _ => d_ibw (w := (M 92 ((k : Int)).toNat) + 1) (ib0 (x := (M 92 ((k : Int)).toNat)) (y := 1) (by unfold in32; omega)) (d_sa (show 0 ≤ x ∧ x < ((30 : Nat) : Int) by omega) (d_ibw (w := (k : Int) + (-1)) (ib0 (x := (k : Int)) (y := (-1)) (by unfold in32; omega)) (d_ct (⟨rfl, (up M 92 (x).toNat (((M 92 ((k : Int)).toNat) + 1))), rfl, rfl, okTT_ua (i := (-2147483648, 2147483647)) hT rfl (show (-2147483648 : Int) ≤ ((M 92 ((k : Int)).toNat) + 1) ∧ ((M 92 ((k : Int)).toNat) + 1) ≤ 2147483647 by omega), FrM_up hF (wOf_a (by decide)), rl_up (by omega) (by omega) (by omega)⟩)))))))))))
theorem l135b_92 {X : Xs} {F G : Nat → Int} {T : Nat → Nat → Int} {c p : Nat} {M0 : Mm} (hTB : TBn F G T c) (hc : c ≤ 30) (hp : p < c) (hFa : ∀ k : Nat, k < c → M0 69 k = F k) (hGa : ∀ k : Nat, k < c → M0 70 k = G k) : ∀ (m : Nat) (i : Int) (M : Mm), i + 1 = m → i ≤ p → okTT M → FrM [(92, 0)] M0 M → clI F G T p i (M 92) → Wp X 10 135 18 ([0, 1, 2, 3].zip [vR 0 65, vI p, vR 0 92, vI i]) [] M (fun _ M' => okTT M' ∧ FrM [(92, 0)] M0 M' ∧ ∀ j : Nat, j < 30 → M' 92 j = eT T p j) := by
  intro m
  induction m with
  | zero =>
    intro i M hi hip hT hF hI
    refine Wp_seg (cut := cutL [(2, [0, 1, 2, 3]), (18, [0, 1, 2, 3]), (60, [0, 1, 2, 3])]) (CT := fun _ _ _ => False) 2 40 [(4, 65), (1, 0), (4, 92), (1, 1)] (us (us (fun _ => 0) 0 p) 1 i) [(15, 2, [(1, 1), (0, 0), (0, 1)]), (18, 0, []), (5, 92, [(1, 1)]), (15, 3, [(1, 2), (0, 99), (0, 1)]), (17, 60, [(4, 65), (1, 0), (4, 92), (1, 1)]), (5, 69, [(1, 1)]), (15, 2, [(1, 3), (0, 0), (0, 1)]), (17, 60, [(4, 65), (1, 0), (4, 92), (1, 1)]), (5, 69, [(1, 1)]), (5, 92, [(1, 1)]), (0, 0, [(1, 5), (0, 1)]), (5, 69, [(1, 1)]), (5, 92, [(1, 7)]), (15, 3, [(1, 6), (1, 8), (0, 4)]), (5, 69, [(1, 1)]), (5, 92, [(1, 9)]), (11, 92, [(1, 4), (1, 10)]), (17, 60, [(4, 65), (1, 0), (4, 92), (1, 1)]), (5, 92, [(1, 1)]), (0, 0, [(1, 9), (0, 1)]), (11, 92, [(1, 4), (1, 10)]), (17, 60, [(4, 65), (1, 0), (4, 92), (1, 1)])] (by decide +kernel) rfl rfl (by decide) (fun _ _ _ _ _ _ h => h.elim) ?_
    exact d_br (fun _ => d_r0 ⟨hT, hF, fun j hj => clI_at hTB hc hp hI hj (by omega)⟩) (fun (h : ¬ (i < 0)) => False.elim (by omega))
  | succ m ih =>
    intro i M hi hip hT hF hI
    obtain ⟨k, rfl⟩ : ∃ k : Nat, i = k := ⟨i.toNat, by omega⟩
    have hk : k < c := by omega
    obtain ⟨⟨f1, f2⟩, ⟨g1, g2⟩, -, -⟩ := hTB k hk
    have bU : ∀ j : Nat, j < 30 → 0 ≤ M 92 j ∧ M 92 j ≤ 99 := fun j hj => by
      have q2 := hI.1 j hj
      have q3 := eT_b hTB hc (p := p) (q := j) hp hj
      omega
    refine c18_92 (x := F k) (by omega) (by omega) ((hF 69 k (wOf_no rfl _)).trans (hFa k hk)) hT hF (bU k (by omega)) (fun h => bU _ (by omega)) fun M1 hT1 hF1 hR => ?_
    have ek : M1 92 k = M 92 k := by
      have := hR k (by omega)
      omega
    have bV : ∀ j : Nat, j < 30 → 0 ≤ M1 92 j ∧ M1 92 j ≤ 99 := fun j hj => by
      have q1 := hR j hj
      have q2 := bU j hj
      have q3 := bU k (by omega)
      omega
    refine c60_92 (x := G k) (by omega) (by omega) ((hF1 70 k (wOf_no rfl _)).trans (hGa k hk)) hT1 hF1 (bV k (by omega)) (fun h => bV _ (by omega)) fun M2 hT2 hF2 hR2 => ?_
    refine ih ((k : Int) + (-1)) M2 (by omega) (by omega) hT2 hF2 ?_
    have e : (k : Int) + (-1) = (k : Int) - 1 := by omega
    rw [e]
    refine clI_s hTB hc hp (by omega) hI fun j hj => ?_
    have q1 := hR j hj
    have q2 := hR2 j hj
    rw [ek] at q2
    omega
theorem l135a_92 {X : Xs} {F G : Nat → Int} {T : Nat → Nat → Int} {c p : Nat} {M0 : Mm} (hTB : TBn F G T c) (hc : c ≤ 30) (hp : p < c) (hFa : ∀ k : Nat, k < c → M0 69 k = F k) (hGa : ∀ k : Nat, k < c → M0 70 k = G k) : ∀ (m q : Nat) (M : Mm), m + q = 30 → okTT M → FrM [(92, 0)] M0 M → (∀ j : Nat, j < q → M 92 j = if j = p then 0 else 99) → Wp X 10 135 2 ([0, 1, 2, 3].zip [vR 0 65, vI p, vR 0 92, vI q]) [] M (fun _ M' => okTT M' ∧ FrM [(92, 0)] M0 M' ∧ ∀ j : Nat, j < 30 → M' 92 j = eT T p j) := by
  intro m
  induction m with
  | zero =>
    intro q M hq hT hF hI
    obtain rfl : q = 30 := by omega
    refine Wp_seg (cut := cutL [(2, [0, 1, 2, 3]), (18, [0, 1, 2, 3]), (60, [0, 1, 2, 3])]) (CT := fun i' as M' => i' = 18 ∧ as = [vR 0 65, vI p, vR 0 92, vI p] ∧ M' = M) 2 40 [(4, 65), (1, 0), (4, 92), (1, 1)] (us (us (fun _ => 0) 0 p) 1 (30 : Nat)) [(15, 3, [(1, 1), (0, 30), (0, 1)]), (17, 18, [(4, 65), (1, 0), (4, 92), (1, 0)]), (15, 1, [(1, 1), (1, 0), (0, 3)]), (11, 92, [(1, 1), (0, 99)]), (0, 0, [(1, 1), (0, 1)]), (17, 2, [(4, 65), (1, 0), (4, 92), (1, 2)]), (11, 92, [(1, 1), (0, 0)]), (0, 0, [(1, 1), (0, 1)]), (17, 2, [(4, 65), (1, 0), (4, 92), (1, 2)])] (by decide +kernel) rfl rfl (by decide) (fun i' dl as M' hi' _ h => ?_) ?_
    · obtain ⟨rfl, rfl, rfl⟩ := h
      obtain rfl : [0, 1, 2, 3] = dl := Option.some.inj hi'
      exact l135b_92 hTB hc hp hFa hGa (p + 1) p M' (by omega) (Int.le_refl _) hT hF (clI_0 hTB hc hp hI)
    · exact d_br (fun _ => d_ct ⟨rfl, rfl, rfl⟩) (fun (h : ¬ ((30 : Int) ≤ ((30 : Nat) : Int))) => False.elim (by omega))
  | succ m ih =>
    intro q M hq hT hF hI
    have eq1 : ib 0 (q : Int) 1 = ((q + 1 : Nat) : Int) := ib0 (by unfold in32; omega)
    have ix : 0 ≤ (q : Int) ∧ (q : Int) < ((30 : Nat) : Int) := by omega
    refine Wp_seg (cut := cutL [(2, [0, 1, 2, 3]), (18, [0, 1, 2, 3]), (60, [0, 1, 2, 3])]) (CT := fun i' as M' => i' = 2 ∧ as = [vR 0 65, vI p, vR 0 92, vI ((q + 1 : Nat) : Int)] ∧ M' = up M 92 q (if q = p then 0 else 99)) 2 40 [(4, 65), (1, 0), (4, 92), (1, 1)] (us (us (fun _ => 0) 0 p) 1 q) [(15, 3, [(1, 1), (0, 30), (0, 1)]), (17, 18, [(4, 65), (1, 0), (4, 92), (1, 0)]), (15, 1, [(1, 1), (1, 0), (0, 3)]), (11, 92, [(1, 1), (0, 99)]), (0, 0, [(1, 1), (0, 1)]), (17, 2, [(4, 65), (1, 0), (4, 92), (1, 2)]), (11, 92, [(1, 1), (0, 0)]), (0, 0, [(1, 1), (0, 1)]), (17, 2, [(4, 65), (1, 0), (4, 92), (1, 2)])] (by decide +kernel) rfl rfl (by decide) (fun i' dl as M' hi' _ h => ?_) ?_
    · obtain ⟨rfl, rfl, rfl⟩ := h
      obtain rfl : [0, 1, 2, 3] = dl := Option.some.inj hi'
      refine ih (q + 1) _ (by omega) (okTT_ua (i := (-2147483648, 2147483647)) hT rfl (by split <;> exact ⟨by decide, by decide⟩)) (FrM_up hF (wOf_a (by decide))) (fun j hj => ?_)
      rw [up_eq]
      by_cases e : j = q
      · rw [if_pos e, e]
      · rw [if_neg e]
        exact hI j (by omega)
    · exact d_br (fun (h : (30 : Int) ≤ (q : Int)) => False.elim (by omega)) fun _ => d_br (fun (h : (q : Int) ≠ (p : Int)) => d_sa ix (d_ibw eq1 (d_ct ⟨rfl, rfl, by rw [if_neg (by omega)]; rfl⟩))) (fun (h : ¬ ((q : Int) ≠ (p : Int))) => d_sa ix (d_ibw eq1 (d_ct ⟨rfl, rfl, by rw [if_pos (by omega)]; rfl⟩)))
theorem e135_92 {X : Xs} {F G : Nat → Int} {T : Nat → Nat → Int} {c p : Nat} {M : Mm} (hT : okTT M) (hTB : TBn F G T c) (hc : c ≤ 30) (hp : p < c) (hFa : ∀ k : Nat, k < c → M 69 k = F k) (hGa : ∀ k : Nat, k < c → M 70 k = G k) : Wp X 10 135 0 (eL 0 [vR 0 65, vI p, vR 0 92]) [] M (fun _ M' => okTT M' ∧ FrM [(92, 0)] M M' ∧ ∀ j : Nat, j < 30 → M' 92 j = eT T p j) := by
  refine Wp_ent (cut := cutL [(2, [0, 1, 2, 3]), (18, [0, 1, 2, 3]), (60, [0, 1, 2, 3])]) (CT := fun i as M' => i = 2 ∧ as = [vR 0 65, vI p, vR 0 92, vI 0] ∧ M' = M) 1 20 [(4, 65), (1, 0), (4, 92)] (us (fun _ => 0) 0 p) [(17, 2, [(4, 65), (1, 0), (4, 92), (0, 0)])] (by decide +kernel) rfl rfl (by decide) (fun i dl as M' hi _ h => ?_) ?_
  · obtain ⟨rfl, rfl, rfl⟩ := h
    obtain rfl : [0, 1, 2, 3] = dl := Option.some.inj hi
    exact l135a_92 hTB hc hp hFa hGa 30 0 M' rfl hT frm0 (fun j hj => by omega)
  · exact d_ct ⟨rfl, rfl, rfl⟩
theorem c18_93 {X : Xs} {p k : Nat} {x : Int} {M M0 : Mm} {Q : Option V → Mm → Prop} (hk : k ≤ 29) (hx : -1 ≤ x ∧ x < 30) (ex : M 69 ((k : Int)).toNat = x) (hT : okTT M) (hF : FrM [(93, 0)] M0 M) (bk : 0 ≤ M 93 k ∧ M 93 k ≤ 99) (bg : 0 ≤ x → 0 ≤ M 93 x.toNat ∧ M 93 x.toNat ≤ 99) (nx : ∀ M1 : Mm, okTT M1 → FrM [(93, 0)] M0 M1 → rl (M 93) k x (M1 93) → Wp X 10 135 60 ([0, 1, 2, 3].zip [vR 0 65, vI p, vR 0 93, vI (k)]) [] M1 Q) : Wp X 10 135 18 ([0, 1, 2, 3].zip [vR 0 65, vI p, vR 0 93, vI k]) [] M Q := by
  have ek0 : M 93 ((k : Int)).toNat = M 93 k := rfl
  refine Wp_seg (cut := cutL [(2, [0, 1, 2, 3]), (18, [0, 1, 2, 3]), (60, [0, 1, 2, 3])]) (CT := fun i' as M' => i' = 60 ∧ ∃ M2 : Mm, as = [vR 0 65, vI p, vR 0 93, vI (k)] ∧ M' = M2 ∧ okTT M2 ∧ FrM [(93, 0)] M0 M2 ∧ rl (M 93) k x (M2 93)) 2 40 [(4, 65), (1, 0), (4, 93), (1, 1)] (us (us (fun _ => 0) 0 p) 1 k) [(15, 2, [(1, 1), (0, 0), (0, 1)]), (18, 0, []), (5, 93, [(1, 1)]), (15, 3, [(1, 2), (0, 99), (0, 1)]), (17, 60, [(4, 65), (1, 0), (4, 93), (1, 1)]), (5, 69, [(1, 1)]), (15, 2, [(1, 3), (0, 0), (0, 1)]), (17, 60, [(4, 65), (1, 0), (4, 93), (1, 1)]), (5, 69, [(1, 1)]), (5, 93, [(1, 1)]), (0, 0, [(1, 5), (0, 1)]), (5, 69, [(1, 1)]), (5, 93, [(1, 7)]), (15, 3, [(1, 6), (1, 8), (0, 4)]), (5, 69, [(1, 1)]), (5, 93, [(1, 9)]), (11, 93, [(1, 4), (1, 10)]), (17, 60, [(4, 65), (1, 0), (4, 93), (1, 1)]), (5, 93, [(1, 1)]), (0, 0, [(1, 9), (0, 1)]), (11, 93, [(1, 4), (1, 10)]), (17, 60, [(4, 65), (1, 0), (4, 93), (1, 1)])] (by decide +kernel) rfl rfl (by decide) (fun i' dl as M' hi' _ h => ?_) ?_
  · obtain ⟨rfl, M2, rfl, rfl, g1, g2, g3⟩ := h
    obtain rfl : [0, 1, 2, 3] = dl := Option.some.inj hi'
    exact nx _ g1 g2 g3
  · exact d_br (fun (h : (k : Int) < 0) => False.elim (by omega)) fun _ => d_la (show 0 ≤ (k : Int) ∧ (k : Int) < ((30 : Nat) : Int) by omega) fun _ => d_br (fun (h1 : 99 ≤ (M 93 ((k : Int)).toNat)) => d_ct (⟨rfl, M, rfl, rfl, hT, hF, rl_same (by omega)⟩)) (fun (h1 : ¬ (99 ≤ (M 93 ((k : Int)).toNat))) => d_law (w := x) (show 0 ≤ (k : Int) ∧ (k : Int) < ((30 : Nat) : Int) by omega) ex (d_br (fun (h2 : x < 0) => d_ct (⟨rfl, M, rfl, rfl, hT, hF, rl_same (by omega)⟩)) (fun (h2 : ¬ (x < 0)) => d_law (w := x) (show 0 ≤ (k : Int) ∧ (k : Int) < ((30 : Nat) : Int) by omega) ex (d_la (show 0 ≤ (k : Int) ∧ (k : Int) < ((30 : Nat) : Int) by omega) fun _ => d_ibw (w := (M 93 ((k : Int)).toNat) + 1) (ib0 (x := (M 93 ((k : Int)).toNat)) (y := 1) (by unfold in32; omega)) (d_law (w := x) (show 0 ≤ (k : Int) ∧ (k : Int) < ((30 : Nat) : Int) by omega) ex (d_la (show 0 ≤ x ∧ x < ((30 : Nat) : Int) by omega) fun _ => d_br (fun (h3 : (M 93 (x).toNat) ≤ ((M 93 ((k : Int)).toNat) + 1)) => d_law (w := x) (show 0 ≤ (k : Int) ∧ (k : Int) < ((30 : Nat) : Int) by omega) ex (d_la (show 0 ≤ x ∧ x < ((30 : Nat) : Int) by omega) fun _ => d_sa (show 0 ≤ x ∧ x < ((30 : Nat) : Int) by omega) (d_ct (⟨rfl, (up M 93 (x).toNat ((M 93 (x).toNat))), rfl, rfl, okTT_ua (i := (-2147483648, 2147483647)) hT rfl (show (-2147483648 : Int) ≤ (M 93 (x).toNat) ∧ (M 93 (x).toNat) ≤ 2147483647 by omega), FrM_up hF (wOf_a (by decide)), rl_up (by omega) (by omega) (by omega)⟩)))) (fun (h3 : ¬ ((M 93 (x).toNat) ≤ ((M 93 ((k : Int)).toNat) + 1))) => d_la (show 0 ≤ (k : Int) ∧ (k : Int) < ((30 : Nat) : Int) by omega) fun _ => d_ibw (w := (M 93 ((k : Int)).toNat) + 1) (ib0 (x := (M 93 ((k : Int)).toNat)) (y := 1) (by unfold in32; omega)) (d_sa (show 0 ≤ x ∧ x < ((30 : Nat) : Int) by omega) (d_ct (⟨rfl, (up M 93 (x).toNat (((M 93 ((k : Int)).toNat) + 1))), rfl, rfl, okTT_ua (i := (-2147483648, 2147483647)) hT rfl (show (-2147483648 : Int) ≤ ((M 93 ((k : Int)).toNat) + 1) ∧ ((M 93 ((k : Int)).toNat) + 1) ≤ 2147483647 by omega), FrM_up hF (wOf_a (by decide)), rl_up (by omega) (by omega) (by omega)⟩))))))))))
theorem c60_93 {X : Xs} {p k : Nat} {x : Int} {M M0 : Mm} {Q : Option V → Mm → Prop} (hk : k ≤ 29) (hx : -1 ≤ x ∧ x < 30) (ex : M 70 ((k : Int)).toNat = x) (hT : okTT M) (hF : FrM [(93, 0)] M0 M) (bk : 0 ≤ M 93 k ∧ M 93 k ≤ 99) (bg : 0 ≤ x → 0 ≤ M 93 x.toNat ∧ M 93 x.toNat ≤ 99) (nx : ∀ M1 : Mm, okTT M1 → FrM [(93, 0)] M0 M1 → rl (M 93) k x (M1 93) → Wp X 10 135 18 ([0, 1, 2, 3].zip [vR 0 65, vI p, vR 0 93, vI ((k : Int) + (-1))]) [] M1 Q) : Wp X 10 135 60 ([0, 1, 2, 3].zip [vR 0 65, vI p, vR 0 93, vI k]) [] M Q := by
  have ek0 : M 93 ((k : Int)).toNat = M 93 k := rfl
  refine Wp_seg (cut := cutL [(2, [0, 1, 2, 3]), (18, [0, 1, 2, 3]), (60, [0, 1, 2, 3])]) (CT := fun i' as M' => i' = 18 ∧ ∃ M2 : Mm, as = [vR 0 65, vI p, vR 0 93, vI ((k : Int) + (-1))] ∧ M' = M2 ∧ okTT M2 ∧ FrM [(93, 0)] M0 M2 ∧ rl (M 93) k x (M2 93)) 2 40 [(4, 65), (1, 0), (4, 93), (1, 1)] (us (us (fun _ => 0) 0 p) 1 k) [(5, 93, [(1, 1)]), (15, 3, [(1, 2), (0, 99), (0, 2)]), (0, 0, [(1, 1), (0, -1)]), (17, 18, [(4, 65), (1, 0), (4, 93), (1, 3)]), (5, 70, [(1, 1)]), (15, 2, [(1, 3), (0, 0), (0, 2)]), (0, 0, [(1, 1), (0, -1)]), (17, 18, [(4, 65), (1, 0), (4, 93), (1, 4)]), (5, 70, [(1, 1)]), (5, 93, [(1, 1)]), (0, 0, [(1, 5), (0, 1)]), (5, 70, [(1, 1)]), (5, 93, [(1, 7)]), (15, 3, [(1, 6), (1, 8), (0, 5)]), (5, 70, [(1, 1)]), (5, 93, [(1, 9)]), (11, 93, [(1, 4), (1, 10)]), (0, 0, [(1, 1), (0, -1)]), (17, 18, [(4, 65), (1, 0), (4, 93), (1, 11)]), (5, 93, [(1, 1)]), (0, 0, [(1, 9), (0, 1)]), (11, 93, [(1, 4), (1, 10)]), (0, 0, [(1, 1), (0, -1)]), (17, 18, [(4, 65), (1, 0), (4, 93), (1, 11)])] (by decide +kernel) rfl rfl (by decide) (fun i' dl as M' hi' _ h => ?_) ?_
  · obtain ⟨rfl, M2, rfl, rfl, g1, g2, g3⟩ := h
    obtain rfl : [0, 1, 2, 3] = dl := Option.some.inj hi'
    exact nx _ g1 g2 g3
  · exact d_la (show 0 ≤ (k : Int) ∧ (k : Int) < ((30 : Nat) : Int) by omega) fun _ => d_br (fun (h1 : 99 ≤ (M 93 ((k : Int)).toNat)) => d_ibw (w := (k : Int) + (-1)) (ib0 (x := (k : Int)) (y := (-1)) (by unfold in32; omega)) (d_ct (⟨rfl, M, rfl, rfl, hT, hF, rl_same (by omega)⟩))) (fun (h1 : ¬ (99 ≤ (M 93 ((k : Int)).toNat))) => d_law (w := x) (show 0 ≤ (k : Int) ∧ (k : Int) < ((30 : Nat) : Int) by omega) ex (d_br (fun (h2 : x < 0) => d_ibw (w := (k : Int) + (-1)) (ib0 (x := (k : Int)) (y := (-1)) (by unfold in32; omega)) (d_ct (⟨rfl, M, rfl, rfl, hT, hF, rl_same (by omega)⟩))) (fun (h2 : ¬ (x < 0)) => d_law (w := x) (show 0 ≤ (k : Int) ∧ (k : Int) < ((30 : Nat) : Int) by omega) ex (d_la (show 0 ≤ (k : Int) ∧ (k : Int) < ((30 : Nat) : Int) by omega) fun _ => d_ibw (w := (M 93 ((k : Int)).toNat) + 1) (ib0 (x := (M 93 ((k : Int)).toNat)) (y := 1) (by unfold in32; omega)) (d_law (w := x) (show 0 ≤ (k : Int) ∧ (k : Int) < ((30 : Nat) : Int) by omega) ex (d_la (show 0 ≤ x ∧ x < ((30 : Nat) : Int) by omega) fun _ => d_br (fun (h3 : (M 93 (x).toNat) ≤ ((M 93 ((k : Int)).toNat) + 1)) => d_law (w := x) (show 0 ≤ (k : Int) ∧ (k : Int) < ((30 : Nat) : Int) by omega) ex (d_la (show 0 ≤ x ∧ x < ((30 : Nat) : Int) by omega) fun _ => d_sa (show 0 ≤ x ∧ x < ((30 : Nat) : Int) by omega) (d_ibw (w := (k : Int) + (-1)) (ib0 (x := (k : Int)) (y := (-1)) (by unfold in32; omega)) (d_ct (⟨rfl, (up M 93 (x).toNat ((M 93 (x).toNat))), rfl, rfl, okTT_ua (i := (-2147483648, 2147483647)) hT rfl (show (-2147483648 : Int) ≤ (M 93 (x).toNat) ∧ (M 93 (x).toNat) ≤ 2147483647 by omega), FrM_up hF (wOf_a (by decide)), rl_up (by omega) (by omega) (by omega)⟩))))) (fun (h3 : ¬ ((M 93 (x).toNat) ≤ ((M 93 ((k : Int)).toNat) + 1))) => d_la (show 0 ≤ (k : Int) ∧ (k : Int) < ((30 : Nat) : Int) by omega) fun _ => d_ibw (w := (M 93 ((k : Int)).toNat) + 1) (ib0 (x := (M 93 ((k : Int)).toNat)) (y := 1) (by unfold in32; omega)) (d_sa (show 0 ≤ x ∧ x < ((30 : Nat) : Int) by omega) (d_ibw (w := (k : Int) + (-1)) (ib0 (x := (k : Int)) (y := (-1)) (by unfold in32; omega)) (d_ct (⟨rfl, (up M 93 (x).toNat (((M 93 ((k : Int)).toNat) + 1))), rfl, rfl, okTT_ua (i := (-2147483648, 2147483647)) hT rfl (show (-2147483648 : Int) ≤ ((M 93 ((k : Int)).toNat) + 1) ∧ ((M 93 ((k : Int)).toNat) + 1) ≤ 2147483647 by omega), FrM_up hF (wOf_a (by decide)), rl_up (by omega) (by omega) (by omega)⟩)))))))))))
theorem l135b_93 {X : Xs} {F G : Nat → Int} {T : Nat → Nat → Int} {c p : Nat} {M0 : Mm} (hTB : TBn F G T c) (hc : c ≤ 30) (hp : p < c) (hFa : ∀ k : Nat, k < c → M0 69 k = F k) (hGa : ∀ k : Nat, k < c → M0 70 k = G k) : ∀ (m : Nat) (i : Int) (M : Mm), i + 1 = m → i ≤ p → okTT M → FrM [(93, 0)] M0 M → clI F G T p i (M 93) → Wp X 10 135 18 ([0, 1, 2, 3].zip [vR 0 65, vI p, vR 0 93, vI i]) [] M (fun _ M' => okTT M' ∧ FrM [(93, 0)] M0 M' ∧ ∀ j : Nat, j < 30 → M' 93 j = eT T p j) := by
  intro m
  induction m with
  | zero =>
    intro i M hi hip hT hF hI
    refine Wp_seg (cut := cutL [(2, [0, 1, 2, 3]), (18, [0, 1, 2, 3]), (60, [0, 1, 2, 3])]) (CT := fun _ _ _ => False) 2 40 [(4, 65), (1, 0), (4, 93), (1, 1)] (us (us (fun _ => 0) 0 p) 1 i) [(15, 2, [(1, 1), (0, 0), (0, 1)]), (18, 0, []), (5, 93, [(1, 1)]), (15, 3, [(1, 2), (0, 99), (0, 1)]), (17, 60, [(4, 65), (1, 0), (4, 93), (1, 1)]), (5, 69, [(1, 1)]), (15, 2, [(1, 3), (0, 0), (0, 1)]), (17, 60, [(4, 65), (1, 0), (4, 93), (1, 1)]), (5, 69, [(1, 1)]), (5, 93, [(1, 1)]), (0, 0, [(1, 5), (0, 1)]), (5, 69, [(1, 1)]), (5, 93, [(1, 7)]), (15, 3, [(1, 6), (1, 8), (0, 4)]), (5, 69, [(1, 1)]), (5, 93, [(1, 9)]), (11, 93, [(1, 4), (1, 10)]), (17, 60, [(4, 65), (1, 0), (4, 93), (1, 1)]), (5, 93, [(1, 1)]), (0, 0, [(1, 9), (0, 1)]), (11, 93, [(1, 4), (1, 10)]), (17, 60, [(4, 65), (1, 0), (4, 93), (1, 1)])] (by decide +kernel) rfl rfl (by decide) (fun _ _ _ _ _ _ h => h.elim) ?_
    exact d_br (fun _ => d_r0 ⟨hT, hF, fun j hj => clI_at hTB hc hp hI hj (by omega)⟩) (fun (h : ¬ (i < 0)) => False.elim (by omega))
  | succ m ih =>
    intro i M hi hip hT hF hI
    obtain ⟨k, rfl⟩ : ∃ k : Nat, i = k := ⟨i.toNat, by omega⟩
    have hk : k < c := by omega
    obtain ⟨⟨f1, f2⟩, ⟨g1, g2⟩, -, -⟩ := hTB k hk
    have bU : ∀ j : Nat, j < 30 → 0 ≤ M 93 j ∧ M 93 j ≤ 99 := fun j hj => by
      have q2 := hI.1 j hj
      have q3 := eT_b hTB hc (p := p) (q := j) hp hj
      omega
    refine c18_93 (x := F k) (by omega) (by omega) ((hF 69 k (wOf_no rfl _)).trans (hFa k hk)) hT hF (bU k (by omega)) (fun h => bU _ (by omega)) fun M1 hT1 hF1 hR => ?_
    have ek : M1 93 k = M 93 k := by
      have := hR k (by omega)
      omega
    have bV : ∀ j : Nat, j < 30 → 0 ≤ M1 93 j ∧ M1 93 j ≤ 99 := fun j hj => by
      have q1 := hR j hj
      have q2 := bU j hj
      have q3 := bU k (by omega)
      omega
    refine c60_93 (x := G k) (by omega) (by omega) ((hF1 70 k (wOf_no rfl _)).trans (hGa k hk)) hT1 hF1 (bV k (by omega)) (fun h => bV _ (by omega)) fun M2 hT2 hF2 hR2 => ?_
    refine ih ((k : Int) + (-1)) M2 (by omega) (by omega) hT2 hF2 ?_
    have e : (k : Int) + (-1) = (k : Int) - 1 := by omega
    rw [e]
    refine clI_s hTB hc hp (by omega) hI fun j hj => ?_
    have q1 := hR j hj
    have q2 := hR2 j hj
    rw [ek] at q2
    omega
theorem l135a_93 {X : Xs} {F G : Nat → Int} {T : Nat → Nat → Int} {c p : Nat} {M0 : Mm} (hTB : TBn F G T c) (hc : c ≤ 30) (hp : p < c) (hFa : ∀ k : Nat, k < c → M0 69 k = F k) (hGa : ∀ k : Nat, k < c → M0 70 k = G k) : ∀ (m q : Nat) (M : Mm), m + q = 30 → okTT M → FrM [(93, 0)] M0 M → (∀ j : Nat, j < q → M 93 j = if j = p then 0 else 99) → Wp X 10 135 2 ([0, 1, 2, 3].zip [vR 0 65, vI p, vR 0 93, vI q]) [] M (fun _ M' => okTT M' ∧ FrM [(93, 0)] M0 M' ∧ ∀ j : Nat, j < 30 → M' 93 j = eT T p j) := by
  intro m
  induction m with
  | zero =>
    intro q M hq hT hF hI
    obtain rfl : q = 30 := by omega
    refine Wp_seg (cut := cutL [(2, [0, 1, 2, 3]), (18, [0, 1, 2, 3]), (60, [0, 1, 2, 3])]) (CT := fun i' as M' => i' = 18 ∧ as = [vR 0 65, vI p, vR 0 93, vI p] ∧ M' = M) 2 40 [(4, 65), (1, 0), (4, 93), (1, 1)] (us (us (fun _ => 0) 0 p) 1 (30 : Nat)) [(15, 3, [(1, 1), (0, 30), (0, 1)]), (17, 18, [(4, 65), (1, 0), (4, 93), (1, 0)]), (15, 1, [(1, 1), (1, 0), (0, 3)]), (11, 93, [(1, 1), (0, 99)]), (0, 0, [(1, 1), (0, 1)]), (17, 2, [(4, 65), (1, 0), (4, 93), (1, 2)]), (11, 93, [(1, 1), (0, 0)]), (0, 0, [(1, 1), (0, 1)]), (17, 2, [(4, 65), (1, 0), (4, 93), (1, 2)])] (by decide +kernel) rfl rfl (by decide) (fun i' dl as M' hi' _ h => ?_) ?_
    · obtain ⟨rfl, rfl, rfl⟩ := h
      obtain rfl : [0, 1, 2, 3] = dl := Option.some.inj hi'
      exact l135b_93 hTB hc hp hFa hGa (p + 1) p M' (by omega) (Int.le_refl _) hT hF (clI_0 hTB hc hp hI)
    · exact d_br (fun _ => d_ct ⟨rfl, rfl, rfl⟩) (fun (h : ¬ ((30 : Int) ≤ ((30 : Nat) : Int))) => False.elim (by omega))
  | succ m ih =>
    intro q M hq hT hF hI
    have eq1 : ib 0 (q : Int) 1 = ((q + 1 : Nat) : Int) := ib0 (by unfold in32; omega)
    have ix : 0 ≤ (q : Int) ∧ (q : Int) < ((30 : Nat) : Int) := by omega
    refine Wp_seg (cut := cutL [(2, [0, 1, 2, 3]), (18, [0, 1, 2, 3]), (60, [0, 1, 2, 3])]) (CT := fun i' as M' => i' = 2 ∧ as = [vR 0 65, vI p, vR 0 93, vI ((q + 1 : Nat) : Int)] ∧ M' = up M 93 q (if q = p then 0 else 99)) 2 40 [(4, 65), (1, 0), (4, 93), (1, 1)] (us (us (fun _ => 0) 0 p) 1 q) [(15, 3, [(1, 1), (0, 30), (0, 1)]), (17, 18, [(4, 65), (1, 0), (4, 93), (1, 0)]), (15, 1, [(1, 1), (1, 0), (0, 3)]), (11, 93, [(1, 1), (0, 99)]), (0, 0, [(1, 1), (0, 1)]), (17, 2, [(4, 65), (1, 0), (4, 93), (1, 2)]), (11, 93, [(1, 1), (0, 0)]), (0, 0, [(1, 1), (0, 1)]), (17, 2, [(4, 65), (1, 0), (4, 93), (1, 2)])] (by decide +kernel) rfl rfl (by decide) (fun i' dl as M' hi' _ h => ?_) ?_
    · obtain ⟨rfl, rfl, rfl⟩ := h
      obtain rfl : [0, 1, 2, 3] = dl := Option.some.inj hi'
      refine ih (q + 1) _ (by omega) (okTT_ua (i := (-2147483648, 2147483647)) hT rfl (by split <;> exact ⟨by decide, by decide⟩)) (FrM_up hF (wOf_a (by decide))) (fun j hj => ?_)
      rw [up_eq]
      by_cases e : j = q
      · rw [if_pos e, e]
      · rw [if_neg e]
        exact hI j (by omega)
    · exact d_br (fun (h : (30 : Int) ≤ (q : Int)) => False.elim (by omega)) fun _ => d_br (fun (h : (q : Int) ≠ (p : Int)) => d_sa ix (d_ibw eq1 (d_ct ⟨rfl, rfl, by rw [if_neg (by omega)]; rfl⟩))) (fun (h : ¬ ((q : Int) ≠ (p : Int))) => d_sa ix (d_ibw eq1 (d_ct ⟨rfl, rfl, by rw [if_pos (by omega)]; rfl⟩)))
theorem e135_93 {X : Xs} {F G : Nat → Int} {T : Nat → Nat → Int} {c p : Nat} {M : Mm} (hT : okTT M) (hTB : TBn F G T c) (hc : c ≤ 30) (hp : p < c) (hFa : ∀ k : Nat, k < c → M 69 k = F k) (hGa : ∀ k : Nat, k < c → M 70 k = G k) : Wp X 10 135 0 (eL 0 [vR 0 65, vI p, vR 0 93]) [] M (fun _ M' => okTT M' ∧ FrM [(93, 0)] M M' ∧ ∀ j : Nat, j < 30 → M' 93 j = eT T p j) := by
  refine Wp_ent (cut := cutL [(2, [0, 1, 2, 3]), (18, [0, 1, 2, 3]), (60, [0, 1, 2, 3])]) (CT := fun i as M' => i = 2 ∧ as = [vR 0 65, vI p, vR 0 93, vI 0] ∧ M' = M) 1 20 [(4, 65), (1, 0), (4, 93)] (us (fun _ => 0) 0 p) [(17, 2, [(4, 65), (1, 0), (4, 93), (0, 0)])] (by decide +kernel) rfl rfl (by decide) (fun i dl as M' hi _ h => ?_) ?_
  · obtain ⟨rfl, rfl, rfl⟩ := h
    obtain rfl : [0, 1, 2, 3] = dl := Option.some.inj hi
    exact l135a_93 hTB hc hp hFa hGa 30 0 M' rfl hT frm0 (fun j hj => by omega)
  · exact d_ct ⟨rfl, rfl, rfl⟩
/-! the model looks for the nearest of both -/
def kOut (a b : Nat) (d : Int × Int × Int) (M : Mm) : Prop := M 65 40 = (if 8 < d.1 then -1 else d.1) ∧ M 65 41 = (if 8 < d.1 then -1 else d.2.1) ∧ ((M 65 42 = 1 ∧ ¬ 8 < d.1 ∧ d.2.1 ≠ a ∧ d.2.1 ≠ b ∧ d.2.2 = 1) ∨ (M 65 42 = 0 ∧ ¬ (¬ 8 < d.1 ∧ d.2.1 ≠ a ∧ d.2.1 ≠ b ∧ d.2.2 = 1)))
theorem l136 {X : Xs} {a b c : Nat} {M0 : Mm} {S : Nat → Int} (ha : a ≤ 29) (hb : b ≤ 29) (hc : M0 65 1 = c) (hc2 : c ≤ 30) (hS : ∀ k : Nat, k < 30 → S k = M0 92 k + M0 93 k) (hU : ∀ k : Nat, k < 30 → (0 ≤ M0 92 k ∧ M0 92 k ≤ 99) ∧ 0 ≤ M0 93 k ∧ M0 93 k ≤ 99) : ∀ (m n : Nat) (g : Int) (M : Mm), m + n = c → okTT M → FrM [(65, 41), (65, 42), (65, 43)] M0 M → 0 ≤ g ∧ g ≤ n → (0 ≤ M 65 40 ∧ M 65 40 ≤ 198) → (-1 ≤ M 65 41 ∧ M 65 41 ≤ 30) → mF S n = (M 65 40, M 65 41, g) → Wp X 20 136 20 ([0, 1, 2, 3, 4].zip [vR 0 65, vI a, vI b, vI g, vI n]) [] M (fun _ M' => okTT M' ∧ FrM [(65, 41), (65, 42), (65, 43)] M0 M' ∧ kOut a b (mF S c) M') := by
  intro m
  induction m with
  | zero =>
    intro n g M hn hT hF hg hd ht hI
    obtain rfl : n = c := by omega
    have e1 : M 65 1 = M0 65 1 := hF 65 1 rfl
    rw [hI]
    obtain ⟨d, hdd⟩ : ∃ d, M 65 40 = d := ⟨_, rfl⟩
    obtain ⟨t, htt⟩ : ∃ t, M 65 41 = t := ⟨_, rfl⟩
    rw [hdd, htt]
    rw [hdd] at hd
    rw [htt] at ht
    have s96 : ∀ (z : Int) (M : Mm), okTT M → FrM [(65, 41), (65, 42), (65, 43)] M0 M → ((z = 0 ∧ d ≤ 8) ∨ (z = 1 ∧ 8 < d)) → M 65 40 = (if 8 < d then -1 else d) → M 65 41 = (if 8 < d then -1 else t) → Wp X 20 136 96 ([0, 1, 2, 3, 4].zip [vR 0 65, vI a, vI b, vI g, vI z]) [] M (fun _ M' => okTT M' ∧ FrM [(65, 41), (65, 42), (65, 43)] M0 M' ∧ kOut a b (d, t, g) M') := fun z M hT hF hz h40 h41 => by
      have fin : ∀ h : Int, (h = 1 ∧ z = 0 ∧ M 65 41 ≠ a ∧ M 65 41 ≠ b ∧ g = 1) ∨ (h = 0 ∧ ¬ (z = 0 ∧ M 65 41 ≠ a ∧ M 65 41 ≠ b ∧ g = 1)) → okTT (up M 65 42 h) ∧ FrM [(65, 41), (65, 42), (65, 43)] M0 (up M 65 42 h) ∧ kOut a b (d, t, g) (up M 65 42 h) := fun h hh => by
        refine ⟨okTT_up hT (show (0 : Int) ≤ h ∧ h ≤ 1 by omega), FrM_up hF (by decide), h40, h41, ?_⟩
        rw [show (up M 65 42 h) 65 42 = h from rfl]
        dsimp only
        by_cases q : 8 < d
        · rw [if_pos q] at h41
          omega
        · rw [if_neg q] at h41
          omega
      refine Wp_seg (cut := cutL [(20, [0, 1, 2, 3, 4]), (50, [0, 1, 2, 3, 4, 5]), (60, [0, 1, 2, 3, 4, 5]), (70, [0, 1, 2, 3, 4]), (80, [0, 1, 2, 3, 4]), (88, [0, 1, 2, 3, 4]), (96, [0, 1, 2, 3, 4])]) (CT := fun _ _ _ => False) 4 40 [(4, 65), (1, 0), (1, 1), (1, 2), (1, 3)] (us (us (us (us (fun _ => 0) 0 a) 1 b) 2 g) 3 z) [(15, 1, [(1, 3), (0, 0), (0, 3)]), (12, 0, [(0, 0)]), (10, 65, [(0, 42), (0, 0)]), (18, 0, []), (4, 65, [(0, 41)]), (15, 0, [(1, 4), (1, 0), (0, 3)]), (12, 0, [(0, 0)]), (10, 65, [(0, 42), (0, 0)]), (18, 0, []), (4, 65, [(0, 41)]), (15, 0, [(1, 5), (1, 1), (0, 3)]), (12, 0, [(0, 0)]), (10, 65, [(0, 42), (0, 0)]), (18, 0, []), (15, 1, [(1, 2), (0, 1), (0, 3)]), (12, 0, [(0, 0)]), (10, 65, [(0, 42), (0, 0)]), (18, 0, []), (12, 0, [(0, 1)]), (10, 65, [(0, 42), (0, 1)]), (18, 0, [])] (by decide +kernel) rfl rfl (by decide) (fun _ _ _ _ _ _ h => h.elim) ?_
      exact d_br (fun (h1 : z ≠ 0) => d_bo (Or.inl rfl) (d_st (d_r0 (fin 0 (by omega))))) (fun (h1 : ¬ (z ≠ 0)) => d_ld fun _ => d_br (fun (h2 : (M 65 41) = (a : Int)) => d_bo (Or.inl rfl) (d_st (d_r0 (fin 0 (by omega))))) (fun (h2 : ¬ ((M 65 41) = (a : Int))) => d_ld fun _ => d_br (fun (h3 : (M 65 41) = (b : Int)) => d_bo (Or.inl rfl) (d_st (d_r0 (fin 0 (by omega))))) (fun (h3 : ¬ ((M 65 41) = (b : Int))) => d_br (fun (h4 : g ≠ 1) => d_bo (Or.inl rfl) (d_st (d_r0 (fin 0 (by omega))))) (fun (h4 : ¬ (g ≠ 1)) => d_bo (Or.inr rfl) (d_st (d_r0 (fin 1 (by omega))))))))
    have s88 : ∀ (z : Int) (M : Mm), okTT M → FrM [(65, 41), (65, 42), (65, 43)] M0 M → ((z = 0 ∧ d ≤ 8) ∨ (z = 1 ∧ 8 < d)) → M 65 40 = (if 8 < d then -1 else d) → M 65 41 = t → Wp X 20 136 88 ([0, 1, 2, 3, 4].zip [vR 0 65, vI a, vI b, vI g, vI z]) [] M (fun _ M' => okTT M' ∧ FrM [(65, 41), (65, 42), (65, 43)] M0 M' ∧ kOut a b (d, t, g) M') := fun z M hT hF hz h40 h41 => by
      refine Wp_seg (cut := cutL [(20, [0, 1, 2, 3, 4]), (50, [0, 1, 2, 3, 4, 5]), (60, [0, 1, 2, 3, 4, 5]), (70, [0, 1, 2, 3, 4]), (80, [0, 1, 2, 3, 4]), (88, [0, 1, 2, 3, 4]), (96, [0, 1, 2, 3, 4])]) (CT := fun i' as M' => i' = 96 ∧ as = [vR 0 65, vI a, vI b, vI g, vI z] ∧ M' = up M 65 41 (if 8 < d then -1 else t)) 4 40 [(4, 65), (1, 0), (1, 1), (1, 2), (1, 3)] (us (us (us (us (fun _ => 0) 0 a) 1 b) 2 g) 3 z) [(15, 0, [(1, 3), (0, 0), (0, 3)]), (4, 65, [(0, 41)]), (10, 65, [(0, 41), (1, 4)]), (17, 96, [(4, 65), (1, 0), (1, 1), (1, 2), (1, 3)]), (10, 65, [(0, 41), (0, -1)]), (17, 96, [(4, 65), (1, 0), (1, 1), (1, 2), (1, 3)])] (by decide +kernel) rfl rfl (by decide) (fun i' dl as M' hi' _ h => ?_) ?_
      · obtain ⟨rfl, rfl, rfl⟩ := h
        obtain rfl : [0, 1, 2, 3, 4] = dl := Option.some.inj hi'
        exact s96 z _ (okTT_up hT (by split <;> exact (show (-2147483648 : Int) ≤ _ ∧ _ ≤ 2147483647 by omega))) (FrM_up hF (by decide)) hz h40 rfl
      · exact d_br (fun (h : z = 0) => d_ld fun _ => d_st (d_ct ⟨rfl, rfl, by rw [if_neg (by omega), ← h41]; rfl⟩)) (fun (h : ¬ (z = 0)) => d_st (d_ct ⟨rfl, rfl, by rw [if_pos (by omega)]; rfl⟩))
    have s80 : ∀ z : Int, ((z = 0 ∧ d ≤ 8) ∨ (z = 1 ∧ 8 < d)) → Wp X 20 136 80 ([0, 1, 2, 3, 4].zip [vR 0 65, vI a, vI b, vI g, vI z]) [] M (fun _ M' => okTT M' ∧ FrM [(65, 41), (65, 42), (65, 43)] M0 M' ∧ kOut a b (d, t, g) M') := fun z hz => by
      refine Wp_seg (cut := cutL [(20, [0, 1, 2, 3, 4]), (50, [0, 1, 2, 3, 4, 5]), (60, [0, 1, 2, 3, 4, 5]), (70, [0, 1, 2, 3, 4]), (80, [0, 1, 2, 3, 4]), (88, [0, 1, 2, 3, 4]), (96, [0, 1, 2, 3, 4])]) (CT := fun i' as M' => i' = 88 ∧ as = [vR 0 65, vI a, vI b, vI g, vI z] ∧ M' = up M 65 40 (if 8 < d then -1 else d)) 4 40 [(4, 65), (1, 0), (1, 1), (1, 2), (1, 3)] (us (us (us (us (fun _ => 0) 0 a) 1 b) 2 g) 3 z) [(15, 0, [(1, 3), (0, 0), (0, 3)]), (4, 65, [(0, 40)]), (10, 65, [(0, 40), (1, 4)]), (17, 88, [(4, 65), (1, 0), (1, 1), (1, 2), (1, 3)]), (10, 65, [(0, 40), (0, -1)]), (17, 88, [(4, 65), (1, 0), (1, 1), (1, 2), (1, 3)])] (by decide +kernel) rfl rfl (by decide) (fun i' dl as M' hi' _ h => ?_) ?_
      · obtain ⟨rfl, rfl, rfl⟩ := h
        obtain rfl : [0, 1, 2, 3, 4] = dl := Option.some.inj hi'
        exact s88 z _ (okTT_up hT (by split <;> exact (show (-2147483648 : Int) ≤ _ ∧ _ ≤ 2147483647 by omega))) (FrM_up hF (by decide)) hz rfl htt
      · exact d_br (fun (h : z = 0) => d_ld fun _ => d_st (d_ct ⟨rfl, rfl, by rw [if_neg (by omega), ← hdd]; rfl⟩)) (fun (h : ¬ (z = 0)) => d_st (d_ct ⟨rfl, rfl, by rw [if_pos (by omega)]; rfl⟩))
    refine Wp_seg (cut := cutL [(20, [0, 1, 2, 3, 4]), (50, [0, 1, 2, 3, 4, 5]), (60, [0, 1, 2, 3, 4, 5]), (70, [0, 1, 2, 3, 4]), (80, [0, 1, 2, 3, 4]), (88, [0, 1, 2, 3, 4]), (96, [0, 1, 2, 3, 4])]) (CT := fun i' as M' => i' = 80 ∧ M' = M ∧ ∃ z : Int, as = [vR 0 65, vI a, vI b, vI g, vI z] ∧ ((z = 0 ∧ d ≤ 8) ∨ (z = 1 ∧ 8 < d))) 4 40 [(4, 65), (1, 0), (1, 1), (1, 2), (1, 3)] (us (us (us (us (fun _ => 0) 0 a) 1 b) 2 g) 3 n) [(4, 65, [(0, 1)]), (15, 3, [(1, 3), (1, 4), (0, 4)]), (4, 65, [(0, 40)]), (15, 5, [(1, 5), (0, 8), (0, 1)]), (17, 80, [(4, 65), (1, 0), (1, 1), (1, 2), (0, 0)]), (17, 80, [(4, 65), (1, 0), (1, 1), (1, 2), (0, 1)]), (5, 92, [(1, 3)]), (5, 93, [(1, 3)]), (0, 0, [(1, 5), (1, 6)]), (4, 65, [(0, 40)]), (15, 3, [(1, 7), (1, 8), (0, 5)]), (4, 65, [(0, 40)]), (15, 1, [(1, 7), (1, 9), (0, 1)]), (17, 50, [(4, 65), (1, 0), (1, 1), (1, 2), (1, 3), (1, 7)]), (0, 0, [(1, 2), (0, 1)]), (17, 50, [(4, 65), (1, 0), (1, 1), (1, 10), (1, 3), (1, 7)]), (17, 50, [(4, 65), (1, 0), (1, 1), (0, 1), (1, 3), (1, 7)])] (by decide +kernel) rfl rfl (by decide) (fun i' dl as M' hi' _ h => ?_) ?_
    · obtain ⟨rfl, rfl, z, rfl, hz⟩ := h
      obtain rfl : [0, 1, 2, 3, 4] = dl := Option.some.inj hi'
      exact s80 z hz
    · exact d_ld fun _ => d_br (fun _ => d_ld fun _ => d_br (fun (h : M 65 40 ≤ 8) => d_ct ⟨rfl, rfl, 0, rfl, by omega⟩) (fun (h : ¬ (M 65 40 ≤ 8)) => d_ct ⟨rfl, rfl, 1, rfl, by omega⟩)) (fun (h : ¬ (M 65 1 ≤ (n : Int))) => False.elim (by omega))
  | succ m ih =>
    intro n g M hn hT hF hg hd ht hI
    have e1 : M 65 1 = M0 65 1 := hF 65 1 rfl
    have ix : 0 ≤ (n : Int) ∧ (n : Int) < ((30 : Nat) : Int) := by omega
    have bn := hU n (by omega)
    have x1 : M 92 ((n : Int)).toNat = M0 92 n := hF 92 n (wOf_no rfl _)
    have x2 : M 93 ((n : Int)).toNat = M0 93 n := hF 93 n (wOf_no rfl _)
    obtain ⟨s, hs⟩ : ∃ s, S n = s := ⟨_, rfl⟩
    have es : ib 0 (M0 92 n) (M0 93 n) = s := by
      rw [ib0 (by unfold in32; omega), ← hs, hS n (by omega)]
    have bs : 0 ≤ s ∧ s ≤ 198 := by
      rw [← hs, hS n (by omega)]
      omega
    obtain ⟨d, hdd⟩ : ∃ d, M 65 40 = d := ⟨_, rfl⟩
    obtain ⟨t, htt⟩ : ∃ t, M 65 41 = t := ⟨_, rfl⟩
    rw [hdd] at hd
    rw [htt] at ht
    have eI : mF S (n + 1) = (if s < d then s else d, if s < d then (n : Int) else t, if s < d then 1 else if s = d then g + 1 else g) := by
      show mStep (S n) n (mF S n) = _
      rw [hI, hs, hdd, htt]
      rfl
    have en : ib 0 (n : Int) 1 = ((n + 1 : Nat) : Int) := ib0 (by unfold in32; omega)
    have s70 : ∀ (g' : Int) (M : Mm), okTT M → FrM [(65, 41), (65, 42), (65, 43)] M0 M → g' = (if s < d then 1 else if s = d then g + 1 else g) → M 65 40 = (if s < d then s else d) → M 65 41 = (if s < d then (n : Int) else t) → Wp X 20 136 70 ([0, 1, 2, 3, 4].zip [vR 0 65, vI a, vI b, vI g', vI n]) [] M (fun _ M' => okTT M' ∧ FrM [(65, 41), (65, 42), (65, 43)] M0 M' ∧ kOut a b (mF S c) M') := fun g' M hT hF hg' h40 h41 => by
      refine Wp_seg (cut := cutL [(20, [0, 1, 2, 3, 4]), (50, [0, 1, 2, 3, 4, 5]), (60, [0, 1, 2, 3, 4, 5]), (70, [0, 1, 2, 3, 4]), (80, [0, 1, 2, 3, 4]), (88, [0, 1, 2, 3, 4]), (96, [0, 1, 2, 3, 4])]) (CT := fun i' as M' => i' = 20 ∧ as = [vR 0 65, vI a, vI b, vI g', vI ((n + 1 : Nat) : Int)] ∧ M' = M) 4 20 [(4, 65), (1, 0), (1, 1), (1, 2), (1, 3)] (us (us (us (us (fun _ => 0) 0 a) 1 b) 2 g') 3 n) [(0, 0, [(1, 3), (0, 1)]), (17, 20, [(4, 65), (1, 0), (1, 1), (1, 2), (1, 4)])] (by decide +kernel) rfl rfl (by decide) (fun i' dl as M' hi' _ h => ?_) ?_
      · obtain ⟨rfl, rfl, rfl⟩ := h
        obtain rfl : [0, 1, 2, 3, 4] = dl := Option.some.inj hi'
        refine ih (n + 1) g' _ (by omega) hT hF ?_ ?_ ?_ ?_
        · rw [hg']
          split
          · omega
          · split <;> omega
        · rw [h40]
          split <;> omega
        · rw [h41]
          split <;> omega
        · rw [eI, h40, h41, hg']
      · exact d_ibw en (d_ct ⟨rfl, rfl, rfl⟩)
    have s60 : ∀ (g' : Int) (M : Mm), okTT M → FrM [(65, 41), (65, 42), (65, 43)] M0 M → g' = (if s < d then 1 else if s = d then g + 1 else g) → M 65 40 = d → M 65 41 = (if s < d then (n : Int) else t) → Wp X 20 136 60 ([0, 1, 2, 3, 4, 5].zip [vR 0 65, vI a, vI b, vI g', vI n, vI s]) [] M (fun _ M' => okTT M' ∧ FrM [(65, 41), (65, 42), (65, 43)] M0 M' ∧ kOut a b (mF S c) M') := fun g' M hT hF hg' h40 h41 => by
      refine Wp_seg (cut := cutL [(20, [0, 1, 2, 3, 4]), (50, [0, 1, 2, 3, 4, 5]), (60, [0, 1, 2, 3, 4, 5]), (70, [0, 1, 2, 3, 4]), (80, [0, 1, 2, 3, 4]), (88, [0, 1, 2, 3, 4]), (96, [0, 1, 2, 3, 4])]) (CT := fun i' as M' => i' = 70 ∧ as = [vR 0 65, vI a, vI b, vI g', vI n] ∧ M' = up M 65 40 (if s < d then s else d)) 5 20 [(4, 65), (1, 0), (1, 1), (1, 2), (1, 3), (1, 4)] (us (us (us (us (us (fun _ => 0) 0 a) 1 b) 2 g') 3 n) 4 s) [(4, 65, [(0, 40)]), (15, 3, [(1, 4), (1, 5), (0, 3)]), (4, 65, [(0, 40)]), (10, 65, [(0, 40), (1, 6)]), (17, 70, [(4, 65), (1, 0), (1, 1), (1, 2), (1, 3)]), (10, 65, [(0, 40), (1, 4)]), (17, 70, [(4, 65), (1, 0), (1, 1), (1, 2), (1, 3)])] (by decide +kernel) rfl rfl (by decide) (fun i' dl as M' hi' _ h => ?_) ?_
      · obtain ⟨rfl, rfl, rfl⟩ := h
        obtain rfl : [0, 1, 2, 3, 4] = dl := Option.some.inj hi'
        exact s70 g' _ (okTT_up hT (by split <;> exact (show (-2147483648 : Int) ≤ _ ∧ _ ≤ 2147483647 by omega))) (FrM_up hF (by decide)) hg' rfl h41
      · exact d_ld fun _ => d_br (fun (h : M 65 40 ≤ s) => d_ld fun _ => d_st (d_ct ⟨rfl, rfl, by rw [if_neg (by omega), ← h40]; rfl⟩)) (fun (h : ¬ (M 65 40 ≤ s)) => d_st (d_ct ⟨rfl, rfl, by rw [if_pos (by omega)]; rfl⟩))
    have s50 : ∀ g' : Int, g' = (if s < d then 1 else if s = d then g + 1 else g) → Wp X 20 136 50 ([0, 1, 2, 3, 4, 5].zip [vR 0 65, vI a, vI b, vI g', vI n, vI s]) [] M (fun _ M' => okTT M' ∧ FrM [(65, 41), (65, 42), (65, 43)] M0 M' ∧ kOut a b (mF S c) M') := fun g' hg' => by
      refine Wp_seg (cut := cutL [(20, [0, 1, 2, 3, 4]), (50, [0, 1, 2, 3, 4, 5]), (60, [0, 1, 2, 3, 4, 5]), (70, [0, 1, 2, 3, 4]), (80, [0, 1, 2, 3, 4]), (88, [0, 1, 2, 3, 4]), (96, [0, 1, 2, 3, 4])]) (CT := fun i' as M' => i' = 60 ∧ as = [vR 0 65, vI a, vI b, vI g', vI n, vI s] ∧ M' = up M 65 41 (if s < d then (n : Int) else t)) 5 20 [(4, 65), (1, 0), (1, 1), (1, 2), (1, 3), (1, 4)] (us (us (us (us (us (fun _ => 0) 0 a) 1 b) 2 g') 3 n) 4 s) [(4, 65, [(0, 40)]), (15, 3, [(1, 4), (1, 5), (0, 3)]), (4, 65, [(0, 41)]), (10, 65, [(0, 41), (1, 6)]), (17, 60, [(4, 65), (1, 0), (1, 1), (1, 2), (1, 3), (1, 4)]), (10, 65, [(0, 41), (1, 3)]), (17, 60, [(4, 65), (1, 0), (1, 1), (1, 2), (1, 3), (1, 4)])] (by decide +kernel) rfl rfl (by decide) (fun i' dl as M' hi' _ h => ?_) ?_
      · obtain ⟨rfl, rfl, rfl⟩ := h
        obtain rfl : [0, 1, 2, 3, 4, 5] = dl := Option.some.inj hi'
        exact s60 g' _ (okTT_up hT (by split <;> exact (show (-2147483648 : Int) ≤ _ ∧ _ ≤ 2147483647 by omega))) (FrM_up hF (by decide)) hg' hdd rfl
      · exact d_ld fun _ => d_br (fun (h : M 65 40 ≤ s) => d_ld fun _ => d_st (d_ct ⟨rfl, rfl, by rw [if_neg (by omega), ← htt]; rfl⟩)) (fun (h : ¬ (M 65 40 ≤ s)) => d_st (d_ct ⟨rfl, rfl, by rw [if_pos (by omega)]; rfl⟩))
    refine Wp_seg (cut := cutL [(20, [0, 1, 2, 3, 4]), (50, [0, 1, 2, 3, 4, 5]), (60, [0, 1, 2, 3, 4, 5]), (70, [0, 1, 2, 3, 4]), (80, [0, 1, 2, 3, 4]), (88, [0, 1, 2, 3, 4]), (96, [0, 1, 2, 3, 4])]) (CT := fun i' as M' => i' = 50 ∧ M' = M ∧ ∃ g' : Int, as = [vR 0 65, vI a, vI b, vI g', vI n, vI s] ∧ g' = (if s < d then 1 else if s = d then g + 1 else g)) 4 40 [(4, 65), (1, 0), (1, 1), (1, 2), (1, 3)] (us (us (us (us (fun _ => 0) 0 a) 1 b) 2 g) 3 n) [(4, 65, [(0, 1)]), (15, 3, [(1, 3), (1, 4), (0, 4)]), (4, 65, [(0, 40)]), (15, 5, [(1, 5), (0, 8), (0, 1)]), (17, 80, [(4, 65), (1, 0), (1, 1), (1, 2), (0, 0)]), (17, 80, [(4, 65), (1, 0), (1, 1), (1, 2), (0, 1)]), (5, 92, [(1, 3)]), (5, 93, [(1, 3)]), (0, 0, [(1, 5), (1, 6)]), (4, 65, [(0, 40)]), (15, 3, [(1, 7), (1, 8), (0, 5)]), (4, 65, [(0, 40)]), (15, 1, [(1, 7), (1, 9), (0, 1)]), (17, 50, [(4, 65), (1, 0), (1, 1), (1, 2), (1, 3), (1, 7)]), (0, 0, [(1, 2), (0, 1)]), (17, 50, [(4, 65), (1, 0), (1, 1), (1, 10), (1, 3), (1, 7)]), (17, 50, [(4, 65), (1, 0), (1, 1), (0, 1), (1, 3), (1, 7)])] (by decide +kernel) rfl rfl (by decide) (fun i' dl as M' hi' _ h => ?_) ?_
    · obtain ⟨rfl, rfl, g', rfl, hz⟩ := h
      obtain rfl : [0, 1, 2, 3, 4, 5] = dl := Option.some.inj hi'
      exact s50 g' hz
    · exact d_ld fun _ => d_br (fun (h : M 65 1 ≤ (n : Int)) => False.elim (by omega)) fun _ => d_law (w := M0 92 n) ix x1 (d_law (w := M0 93 n) ix x2 (d_ibw es (d_ld fun _ => d_br (fun (h : M 65 40 ≤ s) => d_ld fun _ => d_br (fun (h2 : s ≠ M 65 40) => d_ct ⟨rfl, rfl, g, rfl, by rw [if_neg (by omega), if_neg (by omega)]⟩) (fun (h2 : ¬ (s ≠ M 65 40)) => d_ibw (w := g + 1) (ib0 (x := g) (y := 1) (by unfold in32; omega)) (d_ct ⟨rfl, rfl, g + 1, rfl, by rw [if_neg (by omega), if_pos (by omega)]⟩))) (fun (h : ¬ (M 65 40 ≤ s)) => d_ct ⟨rfl, rfl, 1, rfl, by rw [if_pos (by omega)]⟩))))
