/-! go, both sides -/
def goP (j s : Nat) (n : Int) (M : Mm) (v : Option V) (M' : Mm) : Prop := (n < 0 ∨ 1000 < n) ∧ v = some (vI (-100002)) ∧ M' = M ∨ (0 ≤ n ∧ n ≤ 1000) ∧ 9000 < M j s + n ∧ v = some (vI (-100003)) ∧ M' = M ∨ (0 ≤ n ∧ n ≤ 1000) ∧ M j s + n ≤ 9000 ∧ v = some (vI (M j s + n)) ∧ M' = up M j s (M j s + n)
theorem go_m {X : Xs} {n : Int} {M : Mm} (hT : okTT M) : Wp X 10 133 0 (eL 0 [vR 0 65, vI n]) [] M (goP 65 0 n M) := by
  have b : 0 ≤ M 65 0 ∧ M 65 0 ≤ 9000 := hT 65 0
  refine Wp_den 1 30 [(4, 65), (1, 0)] (us (fun _ => 0) 0 n) [(15, 2, [(3, 0), (2, 0), (0, 1)]), (19, 0, [(0, -100002)]), (15, 4, [(3, 0), (2, 1000), (0, 1)]), (19, 0, [(0, -100002)]), (4, 65, [(0, 0)]), (0, 0, [(1, 1), (1, 0)]), (15, 5, [(1, 2), (0, 9000), (0, 5)]), (4, 65, [(0, 0)]), (0, 0, [(1, 3), (1, 0)]), (10, 65, [(0, 0), (1, 4)]), (4, 65, [(0, 0)]), (19, 0, [(1, 5)]), (19, 0, [(0, -100003)])] (by decide +kernel) rfl rfl (by decide) ?_
  refine d_br (fun h => d_r1 (Or.inl ⟨Or.inl h, rfl, rfl⟩)) fun h1 => d_br (fun h => d_r1 (Or.inl ⟨Or.inr h, rfl, rfl⟩)) fun h2 => d_ld fun _ => d_ib (d_br (fun h => d_ld fun _ => d_ib (d_st (d_ld fun _ => d_r1 ?_))) fun h => d_r1 ?_)
  all_goals have h1 : ¬ n < 0 := h1
  all_goals have h2 : ¬ 1000 < n := h2
  all_goals have e : ib 0 (M 65 0) n = M 65 0 + n := ib0 (by unfold in32; omega)
  · have h : ib 0 (M 65 0) n ≤ 9000 := h
    refine Or.inr (Or.inr ⟨by omega, by omega, ?_, ?_⟩)
    · show some (vI (ib 0 (M 65 0) n)) = _
      rw [e]
    · show up M 65 0 (ib 0 (M 65 0) n) = _
      rw [e]
  · have h : ¬ ib 0 (M 65 0) n ≤ 9000 := h
    exact Or.inr (Or.inl ⟨by omega, by omega, rfl, rfl⟩)
theorem go_x {X : Xs} {n : Int} {M : Mm} (hT : okTT M) : Wp X 10 87 0 (eL 0 [vR 0 0, vI n]) [] M (goP 0 10 n M) := by
  have b : 0 ≤ M 0 10 ∧ M 0 10 ≤ 9000 := hT 0 10
  refine Wp_den 1 30 [(4, 0), (1, 0)] (us (fun _ => 0) 0 n) [(15, 2, [(1, 0), (0, 0), (0, 1)]), (19, 0, [(0, -100002)]), (15, 4, [(1, 0), (0, 1000), (0, 1)]), (19, 0, [(0, -100002)]), (4, 0, [(0, 10)]), (0, 0, [(1, 1), (1, 0)]), (15, 5, [(1, 2), (0, 9000), (0, 5)]), (4, 0, [(0, 10)]), (0, 0, [(1, 3), (1, 0)]), (10, 0, [(0, 10), (1, 4)]), (4, 0, [(0, 10)]), (19, 0, [(1, 5)]), (19, 0, [(0, -100003)])] (by decide +kernel) rfl rfl (by decide) ?_
  refine d_br (fun h => d_r1 (Or.inl ⟨Or.inl h, rfl, rfl⟩)) fun h1 => d_br (fun h => d_r1 (Or.inl ⟨Or.inr h, rfl, rfl⟩)) fun h2 => d_ld fun _ => d_ib (d_br (fun h => d_ld fun _ => d_ib (d_st (d_ld fun _ => d_r1 ?_))) fun h => d_r1 ?_)
  all_goals have h1 : ¬ n < 0 := h1
  all_goals have h2 : ¬ 1000 < n := h2
  all_goals have e : ib 0 (M 0 10) n = M 0 10 + n := ib0 (by unfold in32; omega)
  · have h : ib 0 (M 0 10) n ≤ 9000 := h
    refine Or.inr (Or.inr ⟨by omega, by omega, ?_, ?_⟩)
    · show some (vI (ib 0 (M 0 10) n)) = _
      rw [e]
    · show up M 0 10 (ib 0 (M 0 10) n) = _
      rw [e]
  · have h : ¬ ib 0 (M 0 10) n ≤ 9000 := h
    exact Or.inr (Or.inl ⟨by omega, by omega, rfl, rfl⟩)
theorem go_J {X : Xs} {n : Int} {M : Mm} (hT : okTT M) (hJ : JM M) : Wp X 10 133 0 (eL 0 [vR 0 65, vI n]) [] M (fun _ M' => okTT M' ∧ FrM [(65, 1)] M M' ∧ JM M') := by
  have b : 0 ≤ M 65 0 ∧ M 65 0 ≤ 9000 := hT 65 0
  refine (go_m hT).mono fun v M' q => ?_
  rcases q with ⟨-, -, rfl⟩ | ⟨-, -, -, rfl⟩ | ⟨h1, h2, -, rfl⟩
  · exact ⟨hT, fun _ _ _ => rfl, hJ⟩
  · exact ⟨hT, fun _ _ _ => rfl, hJ⟩
  · exact ⟨okTT_up hT (by show 0 ≤ M 65 0 + n ∧ M 65 0 + n ≤ 9000; omega), FrM_up (fun _ _ _ => rfl) rfl, JM_same hJ rfl (fun _ => rfl) (fun _ => rfl) (fun _ => rfl) rfl (by show M 65 0 ≤ M 65 0 + n; omega)⟩
