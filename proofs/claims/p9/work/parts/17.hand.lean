/-! methods by hand, over their steps -/
theorem wS_b {n : Nat} {S : List AV} (h : S.all (wAb n) = true) : wS n S := by
  intro a ha
  have h := List.all_eq_true.mp h a ha
  obtain ⟨t, c⟩ := a
  match t, h with
  | 0, _ => exact wA_k (by decide)
  | 1, h => exact fun _ => blt_lt h
  | 2, _ => exact wA_k (by decide)
  | 3, h => exact fun _ => blt_lt h
  | n + 4, _ => exact wA_k (by omega)
theorem Wp_den {X : Xs} {d k : Nat} {as : List V} {M : Mm} {Q : Option V → Mm → Prop} (n F : Nat) (avs : List AV) (σ : Nat → Int) (t : List Node) (ht : cmp inlF (fun _ => none) 4000 false n k 0 (eLA 0 avs) [] [] = t) (has : avs.map (ev σ) = as) (hw : avs.all (wAb n) = true) (hd : 10 ≤ d) (h : den X (CPd X d) (fun _ _ _ => False) Q F t n σ M) : Wp X d k 0 (eL 0 as) [] M Q := by
  subst ht
  have hw := wS_b hw
  have := cmp_sound (d := d) (k0 := k) (cut := fun _ => none) (CT := fun _ _ _ => False) (CP := CPd X d) (fun k' as M Q' hq => hq) (fun i dl as' M' hi _ hct => hct.elim) hd 4000 false n k 0 _ [] [] F σ M rfl (Nat.zero_le _) (wL_eLA hw) (fun a ha => (by cases ha)) (fun a ha => (by cases ha)) h
  rw [eLA_ev, has] at this
  exact this
section STEPS
variable {X : Xs} {CP : Nat → List V → Mm → (Option V → Mm → Prop) → Prop} {CT : Nat → List V → Mm → Prop} {Q : Option V → Mm → Prop} {F n : Nat} {r : List Node} {σ : Nat → Int} {M : Mm}
theorem d_ib {b : Nat} {x y : AV} (h : den X CP CT Q F r (n + 1) (us σ n (ib b (nm σ x) (nm σ y))) M) : den X CP CT Q (F + 1) ((0, b, [x, y]) :: r) n σ M := den_lt (by show (0 : Nat) < 15; decide) h
theorem d_lb {b : Nat} {x y : AV} (h : den X CP CT Q F r (n + 1) (us σ n (lb b (nm σ x) (nm σ y))) M) : den X CP CT Q (F + 1) ((1, b, [x, y]) :: r) n σ M := den_lt (by show (1 : Nat) < 15; decide) h
theorem d_sb {b : Nat} {x y : AV} (h : den X CP CT Q F r (n + 1) (us σ n (sb b (nm σ x) (nm σ y))) M) : den X CP CT Q (F + 1) ((2, b, [x, y]) :: r) n σ M := den_lt (by show (2 : Nat) < 15; decide) h
theorem d_lo {x : AV} (h : den X CP CT Q F r (n + 1) (us σ n (lo32 (nm σ x))) M) : den X CP CT Q (F + 1) ((3, 0, [x]) :: r) n σ M := den_lt (by show (3 : Nat) < 15; decide) h
theorem d_ld {j : Nat} {s : AV} (h : rK (kd j s.2.toNat) (M j s.2.toNat) → den X CP CT Q F r (n + 1) (us σ n (M j s.2.toNat)) M) : den X CP CT Q (F + 1) ((4, j, [s]) :: r) n σ M := den_lt (by show (4 : Nat) < 15; decide) h
theorem d_la {j : Nat} {x : AV} (h0 : 0 ≤ nm σ x ∧ nm σ x < alen j) (h : rK (kd j (nm σ x).toNat) (M j (nm σ x).toNat) → den X CP CT Q F r (n + 1) (us σ n (M j (nm σ x).toNat)) M) : den X CP CT Q (F + 1) ((5, j, [x]) :: r) n σ M := den_lt (by show (5 : Nat) < 15; decide) ⟨h0.1, h0.2, h⟩
theorem d_sc {b : Nat} {x : AV} (h0 : 0 ≤ nm σ x ∧ nm σ x < X.1) (h : den X CP CT Q F r (n + 1) (us σ n (X.2 (nm σ x).toNat)) M) : den X CP CT Q (F + 1) ((6, b, [x]) :: r) n σ M := den_lt (by show (6 : Nat) < 15; decide) ⟨h0.1, h0.2, h⟩
theorem d_sl {b : Nat} (h : den X CP CT Q F r (n + 1) (us σ n X.1) M) : den X CP CT Q (F + 1) ((7, b, []) :: r) n σ M := den_lt (by show (7 : Nat) < 15; decide) h
theorem d_st {j : Nat} {s v : AV} (h : den X CP CT Q F r n σ (up M j s.2.toNat (nm σ v))) : den X CP CT Q (F + 1) ((10, j, [s, v]) :: r) n σ M := den_lt (by show (10 : Nat) < 15; decide) h
theorem d_sa {j : Nat} {x v : AV} (h0 : 0 ≤ nm σ x ∧ nm σ x < alen j) (h : den X CP CT Q F r n σ (up M j (nm σ x).toNat (nm σ v))) : den X CP CT Q (F + 1) ((11, j, [x, v]) :: r) n σ M := den_lt (by show (11 : Nat) < 15; decide) ⟨h0.1, h0.2, h⟩
theorem d_bo {b : Nat} {v : AV} (h0 : nm σ v = 0 ∨ nm σ v = 1) (h : den X CP CT Q F r n σ M) : den X CP CT Q (F + 1) ((12, b, [v]) :: r) n σ M := den_lt (by show (12 : Nat) < 15; decide) ⟨h0, h⟩
theorem d_br {c : Nat} {a b z : AV} (h1 : icP c (nm σ a) (nm σ b) → den X CP CT Q F (r.take z.2.toNat) n σ M) (h2 : ¬ icP c (nm σ a) (nm σ b) → den X CP CT Q F (r.drop z.2.toNat) n σ M) : den X CP CT Q (F + 1) ((15, c, [a, b, z]) :: r) n σ M := ⟨h1, h2⟩
theorem d_ca {k' : Nat} {as : List AV} (h : CP k' (as.map (ev σ)) M (fun v M' => retOK (mR k') v → (∀ y, v = some y → rV y) → okM M' → den X CP CT Q F r (n + rb k') (us σ n (oz v)) M')) : den X CP CT Q (F + 1) ((16, k', as) :: r) n σ M := h
theorem d_ct {i : Nat} {as : List AV} (h : CT i (as.map (ev σ)) M) : den X CP CT Q (F + 1) ((17, i, as) :: r) n σ M := h
theorem d_r0 {b : Nat} {as : List AV} (h : Q none M) : den X CP CT Q (F + 1) ((18, b, as) :: r) n σ M := h
theorem d_r1 {b : Nat} {a : AV} (h : Q (some (ev σ a)) M) : den X CP CT Q (F + 1) ((19, b, [a]) :: r) n σ M := h
end STEPS
/-! bound -/
theorem bound_x {X : Xs} {z : Int} {M : Mm} : Wp X 10 104 0 (eL 0 [vR 0 0, vI z]) [] M (fun v M' => (z < 100 ∨ 3000 < z) ∧ v = some (vI (-100002)) ∧ M' = M ∨ (100 ≤ z ∧ z ≤ 3000) ∧ v = some (vI (M 52 13)) ∧ M' = up M 52 13 z) := by
  refine Wp_den 1 20 [(4, 0), (1, 0)] (us (fun _ => 0) 0 z) [(15, 2, [(1, 0), (0, 100), (0, 1)]), (19, 0, [(0, -100002)]), (15, 4, [(1, 0), (0, 3000), (0, 1)]), (19, 0, [(0, -100002)]), (4, 52, [(0, 13)]), (10, 52, [(0, 13), (1, 0)]), (19, 0, [(1, 1)])] (by decide +kernel) rfl rfl (by decide) ?_
  refine d_br (fun h => d_r1 ?_) fun h => d_br (fun h2 => d_r1 ?_) fun h2 => d_ld fun _ => d_st (d_r1 ?_)
  · exact Or.inl ⟨Or.inl h, rfl, rfl⟩
  · exact Or.inl ⟨Or.inr h2, rfl, rfl⟩
  · have h : ¬ z < 100 := h
    have h2 : ¬ 3000 < z := h2
    exact Or.inr ⟨by omega, rfl, rfl⟩
theorem bound_m {X : Xs} {z : Int} {M : Mm} : Wp X 10 176 0 (eL 0 [vR 0 65, vI z]) [] M (fun v M' => (z < 100 ∨ 3000 < z) ∧ v = some (vI (-100002)) ∧ M' = M ∨ (100 ≤ z ∧ z ≤ 3000) ∧ v = some (vI (M 65 37)) ∧ M' = up M 65 37 z) := by
  refine Wp_den 1 20 [(4, 65), (1, 0)] (us (fun _ => 0) 0 z) [(15, 2, [(3, 0), (2, 100), (0, 1)]), (19, 0, [(0, -100002)]), (15, 4, [(3, 0), (2, 3000), (0, 1)]), (19, 0, [(0, -100002)]), (4, 65, [(0, 37)]), (10, 65, [(0, 37), (1, 0)]), (19, 0, [(1, 1)])] (by decide +kernel) rfl rfl (by decide) ?_
  refine d_br (fun h => d_r1 ?_) fun h => d_br (fun h2 => d_r1 ?_) fun h2 => d_ld fun _ => d_st (d_r1 ?_)
  · exact Or.inl ⟨Or.inl h, rfl, rfl⟩
  · exact Or.inl ⟨Or.inr h2, rfl, rfl⟩
  · have h : ¬ z < 100 := h
    have h2 : ¬ 3000 < z := h2
    exact Or.inr ⟨by omega, rfl, rfl⟩
