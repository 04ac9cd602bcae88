/-! close -/
theorem nOa_congr {M M' : Mm} : ∀ {n : Nat}, (∀ j : Nat, j < n → M' 86 j = M 86 j) → nOa M' n = nOa M n := by
  intro n
  induction n with
  | zero => intro _; rfl
  | succ n ih =>
    intro h
    show nOa M' n + (if 0 ≤ M' 86 n then 1 else 0) = nOa M n + (if 0 ≤ M 86 n then 1 else 0)
    rw [ih (fun j hj => h j (by omega)), h n (by omega)]
theorem JM_same {M M' : Mm} (hJ : JM M) (h1 : M' 65 28 = M 65 28) (h2 : ∀ j, M' 86 j = M 86 j) (h3 : ∀ j, M' 87 j = M 87 j) (h4 : ∀ j, M' 88 j = M 88 j) (h5 : M' 65 34 = M 65 34) (h6 : M 65 0 ≤ M' 65 0) : JM M' := by
  obtain ⟨j1, j2, j3, j4⟩ := hJ
  refine ⟨fun j hj => ?_, fun i j hi hj a b c => ?_, ?_, by omega⟩
  · rw [h4]
    have := j1 j (by omega)
    omega
  · rw [h1] at hi hj
    rw [h2] at a b
    rw [h3, h3] at c
    exact j2 i j hi hj a b c
  · rw [h1, h5, nOa_congr (M := M) (fun j _ => h2 j)]
    exact j3
theorem TE_J {M M' : Mm} {p c : Int} (hT : okTT M) (hJ : JM M) (h : TE M p c M') (hn : p < 0 → ∀ j : Nat, (j : Int) < M 65 28 → M 86 j < 0 → M 87 j ≠ c) : (∀ j : Nat, (j : Int) < M' 65 28 → M' 88 j ≤ M' 65 0) ∧ (∀ i j : Nat, (i : Int) < M' 65 28 → (j : Int) < M' 65 28 → M' 86 i < 0 → M' 86 j < 0 → M' 87 i = M' 87 j → i = j) ∧ nOa M' (M' 65 28).toNat = M 65 34 + (if 0 ≤ p then 1 else 0) ∧ M' 65 34 = M 65 34 ∧ M' 65 0 = M 65 0 := by
  obtain ⟨j1, j2, j3, j4⟩ := hJ
  obtain ⟨t1, t2, t3, t4, t5, t6⟩ := h
  have b : 0 ≤ M 65 28 ∧ M 65 28 ≤ 120 := hT 65 28
  have e0 : M' 65 0 = M 65 0 := t2 65 0 rfl
  have e34 : M' 65 34 = M 65 34 := t2 65 34 rfl
  refine ⟨fun j hj => ?_, fun i j hi hj h1 h2 h3 => ?_, ?_, e34, e0⟩
  · rw [t6, e0]
    by_cases q : (j : Int) = M 65 28
    · rw [if_pos q]
      omega
    · rw [if_neg q]
      exact j1 j (by omega)
  · rw [t4] at h1 h2
    rw [t5, t5] at h3
    by_cases qi : (i : Int) = M 65 28
    · by_cases qj : (j : Int) = M 65 28
      · omega
      · rw [if_pos qi] at h1 h3
        rw [if_neg qj] at h2 h3
        exact absurd h3.symm (hn h1 j (by omega) h2)
    · by_cases qj : (j : Int) = M 65 28
      · rw [if_neg qi] at h1 h3
        rw [if_pos qj] at h2 h3
        exact absurd h3 (hn h2 i (by omega) h1)
      · rw [if_neg qi] at h1 h3
        rw [if_neg qj] at h2 h3
        exact j2 i j (by omega) (by omega) h1 h2 h3
  · have eD : (M' 65 28).toNat = (M 65 28).toNat + 1 := by omega
    rw [eD]
    show nOa M' (M 65 28).toNat + (if 0 ≤ M' 86 (M 65 28).toNat then 1 else 0) = _
    have e86 : M' 86 (M 65 28).toNat = p := by rw [t4, if_pos (by omega)]
    rw [nOa_congr (M := M) (fun j hj => by rw [t4, if_neg (by omega)]), j3, e86]
theorem work_J {X : Xs} {M : Mm} (hT : okTT M) (hJ : JM M) : Wp X 50 160 0 (eL 0 [vR 0 65, vI (M 65 0)]) [] M (fun v M' => okTT M' ∧ FrM W160 M M' ∧ JM M' ∧ ∀ j : Nat, (j : Int) < M' 65 28 → 0 ≤ M' 86 j ∨ M' 94 (M' 87 j).toNat ≠ 0) := by
  have n : 0 ≤ M 65 0 ∧ M 65 0 ≤ 9000 := hT 65 0
  refine (work_m (by omega) hT hJ.1).mono fun v M' q => ?_
  obtain ⟨q1, q2, q3⟩ := q
  obtain ⟨w1, w2, w3, w4⟩ := W160_no q2
  exact ⟨q1, q2, JM_same hJ w1 w2 w3 w4 (q2 65 34 rfl) (by rw [q2 65 0 rfl]; exact Int.le_refl _), q3⟩
def W167 : Wl := W160 ++ W165
theorem W167_a {M0 M M' : Mm} (h0 : FrM W167 M0 M) (h : FrM W160 M M') : FrM W167 M0 M' := FrM_sub h0 (by decide) h
theorem W167_b {M0 M M' : Mm} (h0 : FrM W167 M0 M) (h : FrM W165 M M') : FrM W167 M0 M' := FrM_sub h0 (by decide) h
theorem rb160 : rb 160 = 0 := by decide +kernel
theorem rb165 : rb 165 = 0 := by decide +kernel
theorem close_m {X : Xs} {M : Mm} {c : Int} (hT : okTT M) (hJ : JM M) : Wp X 70 167 0 (eL 0 [vR 0 65, vI c]) [] M (fun _ M' => okTT M' ∧ JM M' ∧ FrM W167 M M') := by
  have F0 : FrM W167 M M := fun _ _ _ => rfl
  have b : 0 ≤ M 65 21 ∧ M 65 21 ≤ 20 := hT 65 21
  refine Wp_den 1 60 [(4, 65), (1, 0)] (us (fun _ => 0) 0 c) [(4, 65, [(0, 21)]), (0, 1, [(1, 1), (0, 1)]), (15, 2, [(3, 0), (2, 0), (0, 1)]), (19, 0, [(0, -100001)]), (15, 4, [(3, 0), (3, 2), (0, 1)]), (19, 0, [(0, -100001)]), (4, 65, [(0, 0)]), (16, 160, [(4, 65), (1, 3)]), (5, 94, [(1, 0)]), (15, 0, [(1, 4), (0, 0), (0, 3)]), (16, 165, [(4, 65), (0, -1), (1, 0)]), (16, 161, [(4, 65), (1, 0)]), (19, 0, [(1, 5)]), (19, 0, [(0, -100003)])] (by decide +kernel) rfl rfl (by decide) ?_
  refine d_ld fun _ => d_ib (d_br (fun h => d_r1 ⟨hT, hJ, F0⟩) fun h1 => d_br (fun h => d_r1 ⟨hT, hJ, F0⟩) fun h2 => d_ld fun _ => d_ca ⟨50, by decide, (work_J hT hJ).mono fun v1 M1 q _ _ _ => ?_⟩)
  obtain ⟨t1, f1, g1, d1⟩ := q
  have es : ib 1 (M 65 21) 1 = M 65 21 - 1 := by
    show (Int32.ofInt (M 65 21) - Int32.ofInt 1).toInt = _
    rw [← Int32.ofInt_sub]
    exact i32_to (by unfold in32; omega)
  have h1 : ¬ c < 0 := h1
  have h2 : ¬ ib 1 (M 65 21) 1 < c := h2
  rw [es] at h2
  rw [rb160]
  have F1 := W167_a F0 f1
  refine d_la ?_ fun _ => d_br (fun h3 => d_ca ⟨20, by decide, ?_⟩) fun h3 => d_r1 ⟨t1, g1, F1⟩
  · show 0 ≤ c ∧ c < ((20 : Nat) : Int)
    omega
  · have h3 : M1 94 c.toNat = 0 := h3
    have hn : ∀ j : Nat, (j : Int) < M1 65 28 → M1 86 j < 0 → M1 87 j ≠ c := fun j hj ha hb => by
      rcases d1 j hj with q | q
      · omega
      · rw [hb] at q
        exact q h3
    have hr := room_c t1 g1 (c := c.toNat) (by omega) (fun j hj ha hb => hn j hj ha (by omega))
    refine (tell_m (p := -1) (c := c) t1 hr (by decide) (by omega)).mono fun v2 M2 q _ _ _ => ?_
    obtain ⟨-, q⟩ := q
    obtain ⟨k1, k2, k3, k4, k5⟩ := TE_J t1 g1 q (fun _ => hn)
    have g2 : JM M2 := ⟨k1, k2, by rw [k3, k4, if_neg (by decide), Int.add_zero], by rw [k4]; exact g1.2.2.2⟩
    have F2 := W167_b F1 q.2.1
    rw [rb165]
    refine d_ca ⟨40, by decide, (ok161_0 X [vR 0 65, vI c] M2 ⟨rfl, ⟨c, rfl, by show (0 : Int) ≤ c; omega, by show c ≤ (19 : Int); omega⟩, trivial⟩ q.1 trivial).mono fun v3 M3 r _ _ _ => d_r1 ?_⟩
    obtain ⟨r1, r2, -, -⟩ := r
    have r2 : FrM [] M2 M3 := r2
    refine ⟨r1, JM_same g2 (r2 65 28 rfl) (fun j => r2 86 j rfl) (fun j => r2 87 j rfl) (fun j => r2 88 j rfl) (r2 65 34 rfl) (by rw [r2 65 0 rfl]; exact Int.le_refl _), FrM_sub F2 (by decide) r2⟩
