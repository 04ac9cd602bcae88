/-! the cases of the law: two calls, and on -/
theorem rbc89 : rb 89 = 1 := by decide +kernel
theorem rbc137 : rb 137 = 1 := by decide +kernel
abbrev l4 (i : Int) : List V := [vR 1 0, vR 0 0, vR 0 65, vI i]
def cutLaw : List (Nat × List Nat) := [(10, [0, 1, 2, 3]), (933, [0, 1, 2, 3]), (22, [0, 1, 2, 3]), (89, [0, 1, 2, 3]), (116, [0, 1, 2, 3]), (133, [0, 1, 2, 3]), (160, [0, 1, 2, 3]), (187, [0, 1, 2, 3]), (204, [0, 1, 2, 3]), (241, [0, 1, 2, 3]), (278, [0, 1, 2, 3]), (329, [0, 1, 2, 3]), (336, [0, 1, 2, 3]), (343, [0, 1, 2, 3]), (380, [0, 1, 2, 3]), (427, [0, 1, 2, 3]), (474, [0, 1, 2, 3]), (501, [0, 1, 2, 3]), (518, [0, 1, 2, 3]), (535, [0, 1, 2, 3]), (562, [0, 1, 2, 3]), (599, [0, 1, 2, 3]), (626, [0, 1, 2, 3]), (653, [0, 1, 2, 3]), (690, [0, 1, 2, 3]), (707, [0, 1, 2, 3]), (734, [0, 1, 2, 3]), (761, [0, 1, 2, 3]), (778, [0, 1, 2, 3]), (815, [0, 1, 2, 3]), (842, [0, 1, 2, 3]), (879, [0, 1, 2, 3]), (916, [0, 1, 2, 3])]
section STG
variable {X : Xs} {CP : Nat → List V → Mm → (Option V → Mm → Prop) → Prop} {CT : Nat → List V → Mm → Prop} {Q : Option V → Mm → Prop} {F n : Nat} {r : List Node} {σ : Nat → Int} {M : Mm}
theorem d_lbw {b : Nat} {x y : AV} {w : Int} (e : lb b (nm σ x) (nm σ y) = w) (h : den X CP CT Q F r (n + 1) (us σ n w) M) : den X CP CT Q (F + 1) ((1, b, [x, y]) :: r) n σ M := d_lb (by rw [e]; exact h)
theorem d_sbw {b : Nat} {x y : AV} {w : Int} (e : sb b (nm σ x) (nm σ y) = w) (h : den X CP CT Q F r (n + 1) (us σ n w) M) : den X CP CT Q (F + 1) ((2, b, [x, y]) :: r) n σ M := d_sb (by rw [e]; exact h)
end STG
theorem law_0 {X : Xs} {P : Mm → Prop} {i : Int} {M : Mm} {Q : Option V → Mm → Prop} (hx : ∀ c : Int, 0 ≤ c ∧ c ≤ 6 → 0 ≤ ib 0 i c ∧ ib 0 i c < X.1) (hT : okTT M) (hP : P M) (hp : Pr X P 82 30 125 30 [vI (X.2 (ib 0 i 1).toNat), vI (X.2 (ib 0 i 2).toNat), vI (X.2 (ib 0 i 3).toNat), vI (X.2 (ib 0 i 4).toNat), vI (X.2 (ib 0 i 5).toNat), vI (X.2 (ib 0 i 6).toNat)] False) (nx : ∀ M', okTT M' → P M' → Wp X 120 0 933 ([0, 1, 2, 3].zip (l4 i)) [] M' Q) : Wp X 120 0 22 ([0, 1, 2, 3].zip (l4 i)) [] M Q := by
  refine Wp_seg (cut := cutL cutLaw) (CT := fun i' as M' => i' = 933 ∧ as = l4 i ∧ okTT M' ∧ P M') 1 60 [(5, 0), (4, 0), (4, 65), (1, 0)] (us (fun _ => 0) 0 i) [(0, 0, [(1, 0), (0, 1)]), (6, 0, [(1, 1)]), (0, 0, [(1, 0), (0, 2)]), (6, 0, [(1, 3)]), (0, 0, [(1, 0), (0, 3)]), (6, 0, [(1, 5)]), (0, 0, [(1, 0), (0, 4)]), (6, 0, [(1, 7)]), (0, 0, [(1, 0), (0, 5)]), (6, 0, [(1, 9)]), (0, 0, [(1, 0), (0, 6)]), (6, 0, [(1, 11)]), (16, 82, [(4, 0), (1, 2), (1, 4), (1, 6), (1, 8), (1, 10), (1, 12)]), (0, 0, [(1, 0), (0, 1)]), (6, 0, [(1, 14)]), (0, 0, [(1, 0), (0, 2)]), (6, 0, [(1, 16)]), (0, 0, [(1, 0), (0, 3)]), (6, 0, [(1, 18)]), (0, 0, [(1, 0), (0, 4)]), (6, 0, [(1, 20)]), (0, 0, [(1, 0), (0, 5)]), (6, 0, [(1, 22)]), (0, 0, [(1, 0), (0, 6)]), (6, 0, [(1, 24)]), (16, 125, [(4, 65), (1, 15), (1, 17), (1, 19), (1, 21), (1, 23), (1, 25)]), (17, 933, [(5, 0), (4, 0), (4, 65), (1, 0)])] (by decide +kernel) rfl rfl (by decide) (fun i' dl as M' hi _ h => ?_) ?_
  · obtain ⟨rfl, rfl, g1, g2⟩ := h
    obtain rfl : [0, 1, 2, 3] = dl := Option.some.inj hi
    exact nx M' g1 g2
  · refine d_ib (d_sc (hx 1 (by decide)) (d_ib (d_sc (hx 2 (by decide)) (d_ib (d_sc (hx 3 (by decide)) (d_ib (d_sc (hx 4 (by decide)) (d_ib (d_sc (hx 5 (by decide)) (d_ib (d_sc (hx 6 (by decide)) (d_ca ⟨30, by decide, (hp M hT hP).mono fun v1 M1 q1 _ _ _ => ?_⟩))))))))))))
    obtain ⟨t1, w2⟩ := q1
    exact d_ib (d_sc (hx 1 (by decide)) (d_ib (d_sc (hx 2 (by decide)) (d_ib (d_sc (hx 3 (by decide)) (d_ib (d_sc (hx 4 (by decide)) (d_ib (d_sc (hx 5 (by decide)) (d_ib (d_sc (hx 6 (by decide)) (d_ca ⟨30, by decide, w2.mono fun v2 M2 q2 _ _ _ => d_ct ⟨rfl, rfl, q2.1, q2.2.1⟩⟩))))))))))))
theorem law_1 {X : Xs} {P : Mm → Prop} {i : Int} {M : Mm} {Q : Option V → Mm → Prop} (hx : ∀ c : Int, 0 ≤ c ∧ c ≤ 6 → 0 ≤ ib 0 i c ∧ ib 0 i c < X.1) (hT : okTT M) (hP : P M) (hp : Pr X P 83 30 127 30 [vI (X.2 (ib 0 i 1).toNat), vI (X.2 (ib 0 i 2).toNat)] False) (nx : ∀ M', okTT M' → P M' → Wp X 120 0 933 ([0, 1, 2, 3].zip (l4 i)) [] M' Q) : Wp X 120 0 89 ([0, 1, 2, 3].zip (l4 i)) [] M Q := by
  refine Wp_seg (cut := cutL cutLaw) (CT := fun i' as M' => i' = 933 ∧ as = l4 i ∧ okTT M' ∧ P M') 1 60 [(5, 0), (4, 0), (4, 65), (1, 0)] (us (fun _ => 0) 0 i) [(0, 0, [(1, 0), (0, 1)]), (6, 0, [(1, 1)]), (0, 0, [(1, 0), (0, 2)]), (6, 0, [(1, 3)]), (16, 83, [(4, 0), (1, 2), (1, 4)]), (0, 0, [(1, 0), (0, 1)]), (6, 0, [(1, 6)]), (0, 0, [(1, 0), (0, 2)]), (6, 0, [(1, 8)]), (16, 127, [(4, 65), (1, 7), (1, 9)]), (17, 933, [(5, 0), (4, 0), (4, 65), (1, 0)])] (by decide +kernel) rfl rfl (by decide) (fun i' dl as M' hi _ h => ?_) ?_
  · obtain ⟨rfl, rfl, g1, g2⟩ := h
    obtain rfl : [0, 1, 2, 3] = dl := Option.some.inj hi
    exact nx M' g1 g2
  · refine d_ib (d_sc (hx 1 (by decide)) (d_ib (d_sc (hx 2 (by decide)) (d_ca ⟨30, by decide, (hp M hT hP).mono fun v1 M1 q1 _ _ _ => ?_⟩))))
    obtain ⟨t1, w2⟩ := q1
    exact d_ib (d_sc (hx 1 (by decide)) (d_ib (d_sc (hx 2 (by decide)) (d_ca ⟨30, by decide, w2.mono fun v2 M2 q2 _ _ _ => d_ct ⟨rfl, rfl, q2.1, q2.2.1⟩⟩))))
theorem law_2 {X : Xs} {P : Mm → Prop} {i : Int} {M : Mm} {Q : Option V → Mm → Prop} (hx : ∀ c : Int, 0 ≤ c ∧ c ≤ 6 → 0 ≤ ib 0 i c ∧ ib 0 i c < X.1) (hT : okTT M) (hP : P M) (hp : Pr X P 84 30 128 30 [vI (X.2 (ib 0 i 1).toNat)] False) (nx : ∀ M', okTT M' → P M' → Wp X 120 0 933 ([0, 1, 2, 3].zip (l4 i)) [] M' Q) : Wp X 120 0 116 ([0, 1, 2, 3].zip (l4 i)) [] M Q := by
  refine Wp_seg (cut := cutL cutLaw) (CT := fun i' as M' => i' = 933 ∧ as = l4 i ∧ okTT M' ∧ P M') 1 60 [(5, 0), (4, 0), (4, 65), (1, 0)] (us (fun _ => 0) 0 i) [(0, 0, [(1, 0), (0, 1)]), (6, 0, [(1, 1)]), (16, 84, [(4, 0), (1, 2)]), (0, 0, [(1, 0), (0, 1)]), (6, 0, [(1, 4)]), (16, 128, [(4, 65), (1, 5)]), (17, 933, [(5, 0), (4, 0), (4, 65), (1, 0)])] (by decide +kernel) rfl rfl (by decide) (fun i' dl as M' hi _ h => ?_) ?_
  · obtain ⟨rfl, rfl, g1, g2⟩ := h
    obtain rfl : [0, 1, 2, 3] = dl := Option.some.inj hi
    exact nx M' g1 g2
  · refine d_ib (d_sc (hx 1 (by decide)) (d_ca ⟨30, by decide, (hp M hT hP).mono fun v1 M1 q1 _ _ _ => ?_⟩))
    obtain ⟨t1, w2⟩ := q1
    exact d_ib (d_sc (hx 1 (by decide)) (d_ca ⟨30, by decide, w2.mono fun v2 M2 q2 _ _ _ => d_ct ⟨rfl, rfl, q2.1, q2.2.1⟩⟩))
theorem law_3 {X : Xs} {P : Mm → Prop} {i : Int} {M : Mm} {Q : Option V → Mm → Prop} (hx : ∀ c : Int, 0 ≤ c ∧ c ≤ 6 → 0 ≤ ib 0 i c ∧ ib 0 i c < X.1) (hT : okTT M) (hP : P M) (hp : Pr X P 85 30 131 30 [vI (X.2 (ib 0 i 1).toNat), vI (X.2 (ib 0 i 2).toNat)] False) (nx : ∀ M', okTT M' → P M' → Wp X 120 0 933 ([0, 1, 2, 3].zip (l4 i)) [] M' Q) : Wp X 120 0 133 ([0, 1, 2, 3].zip (l4 i)) [] M Q := by
  refine Wp_seg (cut := cutL cutLaw) (CT := fun i' as M' => i' = 933 ∧ as = l4 i ∧ okTT M' ∧ P M') 1 60 [(5, 0), (4, 0), (4, 65), (1, 0)] (us (fun _ => 0) 0 i) [(0, 0, [(1, 0), (0, 1)]), (6, 0, [(1, 1)]), (0, 0, [(1, 0), (0, 2)]), (6, 0, [(1, 3)]), (16, 85, [(4, 0), (1, 2), (1, 4)]), (0, 0, [(1, 0), (0, 1)]), (6, 0, [(1, 6)]), (0, 0, [(1, 0), (0, 2)]), (6, 0, [(1, 8)]), (16, 131, [(4, 65), (1, 7), (1, 9)]), (17, 933, [(5, 0), (4, 0), (4, 65), (1, 0)])] (by decide +kernel) rfl rfl (by decide) (fun i' dl as M' hi _ h => ?_) ?_
  · obtain ⟨rfl, rfl, g1, g2⟩ := h
    obtain rfl : [0, 1, 2, 3] = dl := Option.some.inj hi
    exact nx M' g1 g2
  · refine d_ib (d_sc (hx 1 (by decide)) (d_ib (d_sc (hx 2 (by decide)) (d_ca ⟨30, by decide, (hp M hT hP).mono fun v1 M1 q1 _ _ _ => ?_⟩))))
    obtain ⟨t1, w2⟩ := q1
    exact d_ib (d_sc (hx 1 (by decide)) (d_ib (d_sc (hx 2 (by decide)) (d_ca ⟨30, by decide, w2.mono fun v2 M2 q2 _ _ _ => d_ct ⟨rfl, rfl, q2.1, q2.2.1⟩⟩))))
theorem law_4 {X : Xs} {P : Mm → Prop} {i : Int} {M : Mm} {Q : Option V → Mm → Prop} (hx : ∀ c : Int, 0 ≤ c ∧ c ≤ 6 → 0 ≤ ib 0 i c ∧ ib 0 i c < X.1) (hT : okTT M) (hP : P M) (hp : Pr X P 86 30 132 30 [vI (X.2 (ib 0 i 1).toNat), vI (X.2 (ib 0 i 2).toNat)] False) (nx : ∀ M', okTT M' → P M' → Wp X 120 0 933 ([0, 1, 2, 3].zip (l4 i)) [] M' Q) : Wp X 120 0 160 ([0, 1, 2, 3].zip (l4 i)) [] M Q := by
  refine Wp_seg (cut := cutL cutLaw) (CT := fun i' as M' => i' = 933 ∧ as = l4 i ∧ okTT M' ∧ P M') 1 60 [(5, 0), (4, 0), (4, 65), (1, 0)] (us (fun _ => 0) 0 i) [(0, 0, [(1, 0), (0, 1)]), (6, 0, [(1, 1)]), (0, 0, [(1, 0), (0, 2)]), (6, 0, [(1, 3)]), (16, 86, [(4, 0), (1, 2), (1, 4)]), (0, 0, [(1, 0), (0, 1)]), (6, 0, [(1, 6)]), (0, 0, [(1, 0), (0, 2)]), (6, 0, [(1, 8)]), (16, 132, [(4, 65), (1, 7), (1, 9)]), (17, 933, [(5, 0), (4, 0), (4, 65), (1, 0)])] (by decide +kernel) rfl rfl (by decide) (fun i' dl as M' hi _ h => ?_) ?_
  · obtain ⟨rfl, rfl, g1, g2⟩ := h
    obtain rfl : [0, 1, 2, 3] = dl := Option.some.inj hi
    exact nx M' g1 g2
  · refine d_ib (d_sc (hx 1 (by decide)) (d_ib (d_sc (hx 2 (by decide)) (d_ca ⟨30, by decide, (hp M hT hP).mono fun v1 M1 q1 _ _ _ => ?_⟩))))
    obtain ⟨t1, w2⟩ := q1
    exact d_ib (d_sc (hx 1 (by decide)) (d_ib (d_sc (hx 2 (by decide)) (d_ca ⟨30, by decide, w2.mono fun v2 M2 q2 _ _ _ => d_ct ⟨rfl, rfl, q2.1, q2.2.1⟩⟩))))
theorem law_5 {X : Xs} {P : Mm → Prop} {i : Int} {M : Mm} {Q : Option V → Mm → Prop} (hx : ∀ c : Int, 0 ≤ c ∧ c ≤ 6 → 0 ≤ ib 0 i c ∧ ib 0 i c < X.1) (hT : okTT M) (hP : P M) (hp : Pr X P 87 10 133 10 [vI (X.2 (ib 0 i 1).toNat)] False) (nx : ∀ M', okTT M' → P M' → Wp X 120 0 933 ([0, 1, 2, 3].zip (l4 i)) [] M' Q) : Wp X 120 0 187 ([0, 1, 2, 3].zip (l4 i)) [] M Q := by
  refine Wp_seg (cut := cutL cutLaw) (CT := fun i' as M' => i' = 933 ∧ as = l4 i ∧ okTT M' ∧ P M') 1 60 [(5, 0), (4, 0), (4, 65), (1, 0)] (us (fun _ => 0) 0 i) [(0, 0, [(1, 0), (0, 1)]), (6, 0, [(1, 1)]), (16, 87, [(4, 0), (1, 2)]), (0, 0, [(1, 0), (0, 1)]), (6, 0, [(1, 4)]), (16, 133, [(4, 65), (1, 5)]), (17, 933, [(5, 0), (4, 0), (4, 65), (1, 0)])] (by decide +kernel) rfl rfl (by decide) (fun i' dl as M' hi _ h => ?_) ?_
  · obtain ⟨rfl, rfl, g1, g2⟩ := h
    obtain rfl : [0, 1, 2, 3] = dl := Option.some.inj hi
    exact nx M' g1 g2
  · refine d_ib (d_sc (hx 1 (by decide)) (d_ca ⟨10, by decide, (hp M hT hP).mono fun v1 M1 q1 _ _ _ => ?_⟩))
    obtain ⟨t1, w2⟩ := q1
    exact d_ib (d_sc (hx 1 (by decide)) (d_ca ⟨10, by decide, w2.mono fun v2 M2 q2 _ _ _ => d_ct ⟨rfl, rfl, q2.1, q2.2.1⟩⟩))
theorem law_6 {X : Xs} {P : Mm → Prop} {i : Int} {M : Mm} {Q : Option V → Mm → Prop} (hx : ∀ c : Int, 0 ≤ c ∧ c ≤ 6 → 0 ≤ ib 0 i c ∧ ib 0 i c < X.1) (hT : okTT M) (hP : P M) (hp : Pr X P 88 30 134 30 [vI (X.2 (ib 0 i 1).toNat), vI (X.2 (ib 0 i 2).toNat), vI (X.2 (ib 0 i 3).toNat)] False) (nx : ∀ M', okTT M' → P M' → Wp X 120 0 933 ([0, 1, 2, 3].zip (l4 i)) [] M' Q) : Wp X 120 0 204 ([0, 1, 2, 3].zip (l4 i)) [] M Q := by
  refine Wp_seg (cut := cutL cutLaw) (CT := fun i' as M' => i' = 933 ∧ as = l4 i ∧ okTT M' ∧ P M') 1 60 [(5, 0), (4, 0), (4, 65), (1, 0)] (us (fun _ => 0) 0 i) [(0, 0, [(1, 0), (0, 1)]), (6, 0, [(1, 1)]), (0, 0, [(1, 0), (0, 2)]), (6, 0, [(1, 3)]), (0, 0, [(1, 0), (0, 3)]), (6, 0, [(1, 5)]), (16, 88, [(4, 0), (1, 2), (1, 4), (1, 6)]), (0, 0, [(1, 0), (0, 1)]), (6, 0, [(1, 8)]), (0, 0, [(1, 0), (0, 2)]), (6, 0, [(1, 10)]), (0, 0, [(1, 0), (0, 3)]), (6, 0, [(1, 12)]), (16, 134, [(4, 65), (1, 9), (1, 11), (1, 13)]), (17, 933, [(5, 0), (4, 0), (4, 65), (1, 0)])] (by decide +kernel) rfl rfl (by decide) (fun i' dl as M' hi _ h => ?_) ?_
  · obtain ⟨rfl, rfl, g1, g2⟩ := h
    obtain rfl : [0, 1, 2, 3] = dl := Option.some.inj hi
    exact nx M' g1 g2
  · refine d_ib (d_sc (hx 1 (by decide)) (d_ib (d_sc (hx 2 (by decide)) (d_ib (d_sc (hx 3 (by decide)) (d_ca ⟨30, by decide, (hp M hT hP).mono fun v1 M1 q1 _ _ _ => ?_⟩))))))
    obtain ⟨t1, w2⟩ := q1
    exact d_ib (d_sc (hx 1 (by decide)) (d_ib (d_sc (hx 2 (by decide)) (d_ib (d_sc (hx 3 (by decide)) (d_ca ⟨30, by decide, w2.mono fun v2 M2 q2 _ _ _ => d_ct ⟨rfl, rfl, q2.1, q2.2.1⟩⟩))))))
theorem law_7 {X : Xs} {P : Mm → Prop} {i : Int} {M : Mm} {Q : Option V → Mm → Prop} (hx : ∀ c : Int, 0 ≤ c ∧ c ≤ 6 → 0 ≤ ib 0 i c ∧ ib 0 i c < X.1) (hT : okTT M) (hP : P M) (hp : Pr X P 89 30 137 30 [vI (X.2 (ib 0 i 1).toNat), vI (X.2 (ib 0 i 2).toNat), vI (X.2 (ib 0 i 3).toNat)] True) (nx : ∀ M', okTT M' → P M' → Wp X 120 0 933 ([0, 1, 2, 3].zip (l4 i)) [] M' Q) : Wp X 120 0 241 ([0, 1, 2, 3].zip (l4 i)) [] M Q := by
  refine Wp_seg (cut := cutL cutLaw) (CT := fun i' as M' => i' = 933 ∧ as = l4 i ∧ okTT M' ∧ P M') 1 60 [(5, 0), (4, 0), (4, 65), (1, 0)] (us (fun _ => 0) 0 i) [(0, 0, [(1, 0), (0, 1)]), (6, 0, [(1, 1)]), (0, 0, [(1, 0), (0, 2)]), (6, 0, [(1, 3)]), (0, 0, [(1, 0), (0, 3)]), (6, 0, [(1, 5)]), (16, 89, [(4, 0), (1, 2), (1, 4), (1, 6)]), (0, 0, [(1, 0), (0, 1)]), (6, 0, [(1, 8)]), (0, 0, [(1, 0), (0, 2)]), (6, 0, [(1, 10)]), (0, 0, [(1, 0), (0, 3)]), (6, 0, [(1, 12)]), (16, 137, [(4, 65), (1, 9), (1, 11), (1, 13)]), (15, 0, [(1, 7), (1, 14), (0, 1)]), (17, 933, [(5, 0), (4, 0), (4, 65), (1, 0)]), (19, 0, [(0, 0)])] (by decide +kernel) rfl rfl (by decide) (fun i' dl as M' hi _ h => ?_) ?_
  · obtain ⟨rfl, rfl, g1, g2⟩ := h
    obtain rfl : [0, 1, 2, 3] = dl := Option.some.inj hi
    exact nx M' g1 g2
  · refine d_ib (d_sc (hx 1 (by decide)) (d_ib (d_sc (hx 2 (by decide)) (d_ib (d_sc (hx 3 (by decide)) (d_ca ⟨30, by decide, (hp M hT hP).mono fun v1 M1 q1 _ _ _ => ?_⟩))))))
    obtain ⟨t1, w2⟩ := q1
    refine d_ib (d_sc (hx 1 (by decide)) (d_ib (d_sc (hx 2 (by decide)) (d_ib (d_sc (hx 3 (by decide)) (d_ca ⟨30, by decide, w2.mono fun v2 M2 q2 _ _ _ => ?_⟩))))))
    exact d_br (fun _ => d_ct ⟨rfl, rfl, q2.1, q2.2.1⟩) fun h => (h (q2.2.2 trivial)).elim
theorem law_8 {X : Xs} {P : Mm → Prop} {i : Int} {M : Mm} {Q : Option V → Mm → Prop} (hx : ∀ c : Int, 0 ≤ c ∧ c ≤ 6 → 0 ≤ ib 0 i c ∧ ib 0 i c < X.1) (hT : okTT M) (hP : P M) (hp : ∀ b : Int, in64 b → Pr X P 90 30 138 30 [vI (X.2 (ib 0 i 1).toNat), vL b] False) (nx : ∀ M', okTT M' → P M' → Wp X 120 0 933 ([0, 1, 2, 3].zip (l4 i)) [] M' Q) : Wp X 120 0 278 ([0, 1, 2, 3].zip (l4 i)) [] M Q := by
  obtain ⟨s1, hs1⟩ : ∃ s1, sb 0 (X.2 (ib 0 i 2).toNat) 32 = s1 := ⟨_, rfl⟩
  obtain ⟨s2, hs2⟩ : ∃ s2, lb 3 (X.2 (ib 0 i 3).toNat) 4294967295 = s2 := ⟨_, rfl⟩
  obtain ⟨s3, hs3⟩ : ∃ s3, lb 4 s1 s2 = s3 := ⟨_, rfl⟩
  have h64 : in64 s3 := by rw [← hs3]; exact lb_in _ _ _
  refine Wp_seg (cut := cutL cutLaw) (CT := fun i' as M' => i' = 933 ∧ as = l4 i ∧ okTT M' ∧ P M') 1 60 [(5, 0), (4, 0), (4, 65), (1, 0)] (us (fun _ => 0) 0 i) [(0, 0, [(1, 0), (0, 1)]), (6, 0, [(1, 1)]), (0, 0, [(1, 0), (0, 2)]), (6, 0, [(1, 3)]), (2, 0, [(3, 4), (0, 32)]), (0, 0, [(1, 0), (0, 3)]), (6, 0, [(1, 6)]), (1, 3, [(3, 7), (2, 4294967295)]), (1, 4, [(3, 5), (3, 8)]), (16, 90, [(4, 0), (1, 2), (3, 9)]), (0, 0, [(1, 0), (0, 1)]), (6, 0, [(1, 11)]), (0, 0, [(1, 0), (0, 2)]), (6, 0, [(1, 13)]), (2, 0, [(3, 14), (0, 32)]), (0, 0, [(1, 0), (0, 3)]), (6, 0, [(1, 16)]), (1, 3, [(3, 17), (2, 4294967295)]), (1, 4, [(3, 15), (3, 18)]), (16, 138, [(4, 65), (1, 12), (3, 19)]), (17, 933, [(5, 0), (4, 0), (4, 65), (1, 0)])] (by decide +kernel) rfl rfl (by decide) (fun i' dl as M' hi _ h => ?_) ?_
  · obtain ⟨rfl, rfl, g1, g2⟩ := h
    obtain rfl : [0, 1, 2, 3] = dl := Option.some.inj hi
    exact nx M' g1 g2
  · refine d_ib (d_sc (hx 1 (by decide)) (d_ib (d_sc (hx 2 (by decide)) (d_sbw hs1 (d_ib (d_sc (hx 3 (by decide)) (d_lbw hs2 (d_lbw hs3 (d_ca ⟨30, by decide, (hp s3 h64 M hT hP).mono fun v1 M1 q1 _ _ _ => ?_⟩)))))))))
    obtain ⟨t1, w2⟩ := q1
    exact d_ib (d_sc (hx 1 (by decide)) (d_ib (d_sc (hx 2 (by decide)) (d_sbw hs1 (d_ib (d_sc (hx 3 (by decide)) (d_lbw hs2 (d_lbw hs3 (d_ca ⟨30, by decide, w2.mono fun v2 M2 q2 _ _ _ => d_ct ⟨rfl, rfl, q2.1, q2.2.1⟩⟩)))))))))
theorem law_9 {X : Xs} {P : Mm → Prop} {i : Int} {M : Mm} {Q : Option V → Mm → Prop} (hx : ∀ c : Int, 0 ≤ c ∧ c ≤ 6 → 0 ≤ ib 0 i c ∧ ib 0 i c < X.1) (hT : okTT M) (hP : P M) (hp : Pr X P 91 70 151 70 [] False) (nx : ∀ M', okTT M' → P M' → Wp X 120 0 933 ([0, 1, 2, 3].zip (l4 i)) [] M' Q) : Wp X 120 0 329 ([0, 1, 2, 3].zip (l4 i)) [] M Q := by
  refine Wp_seg (cut := cutL cutLaw) (CT := fun i' as M' => i' = 933 ∧ as = l4 i ∧ okTT M' ∧ P M') 1 60 [(5, 0), (4, 0), (4, 65), (1, 0)] (us (fun _ => 0) 0 i) [(16, 91, [(4, 0)]), (16, 151, [(4, 65)]), (17, 933, [(5, 0), (4, 0), (4, 65), (1, 0)])] (by decide +kernel) rfl rfl (by decide) (fun i' dl as M' hi _ h => ?_) ?_
  · obtain ⟨rfl, rfl, g1, g2⟩ := h
    obtain rfl : [0, 1, 2, 3] = dl := Option.some.inj hi
    exact nx M' g1 g2
  · refine d_ca ⟨70, by decide, (hp M hT hP).mono fun v1 M1 q1 _ _ _ => ?_⟩
    obtain ⟨t1, w2⟩ := q1
    exact d_ca ⟨70, by decide, w2.mono fun v2 M2 q2 _ _ _ => d_ct ⟨rfl, rfl, q2.1, q2.2.1⟩⟩
theorem law_10 {X : Xs} {P : Mm → Prop} {i : Int} {M : Mm} {Q : Option V → Mm → Prop} (hT : okTT M) (hP : P M) (nx : ∀ M', okTT M' → P M' → Wp X 120 0 933 ([0, 1, 2, 3].zip (l4 i)) [] M' Q) : Wp X 120 0 336 ([0, 1, 2, 3].zip (l4 i)) [] M Q := by
  refine Wp_seg (cut := cutL cutLaw) (CT := fun i' as M' => i' = 933 ∧ as = l4 i ∧ okTT M' ∧ P M') 1 60 [(5, 0), (4, 0), (4, 65), (1, 0)] (us (fun _ => 0) 0 i) [(4, 22, [(0, 5)]), (4, 65, [(0, 15)]), (17, 933, [(5, 0), (4, 0), (4, 65), (1, 0)])] (by decide +kernel) rfl rfl (by decide) (fun i' dl as M' hi _ h => ?_) ?_
  · obtain ⟨rfl, rfl, g1, g2⟩ := h
    obtain rfl : [0, 1, 2, 3] = dl := Option.some.inj hi
    exact nx M' g1 g2
  · exact d_ld fun _ => d_ld fun _ => d_ct ⟨rfl, rfl, hT, hP⟩
theorem law_11 {X : Xs} {P : Mm → Prop} {i : Int} {M : Mm} {Q : Option V → Mm → Prop} (hx : ∀ c : Int, 0 ≤ c ∧ c ≤ 6 → 0 ≤ ib 0 i c ∧ ib 0 i c < X.1) (hT : okTT M) (hP : P M) (hp : Pr X P 93 20 153 30 [vI (X.2 (ib 0 i 1).toNat), vI (X.2 (ib 0 i 2).toNat), vI (X.2 (ib 0 i 3).toNat)] False) (nx : ∀ M', okTT M' → P M' → Wp X 120 0 933 ([0, 1, 2, 3].zip (l4 i)) [] M' Q) : Wp X 120 0 343 ([0, 1, 2, 3].zip (l4 i)) [] M Q := by
  refine Wp_seg (cut := cutL cutLaw) (CT := fun i' as M' => i' = 933 ∧ as = l4 i ∧ okTT M' ∧ P M') 1 60 [(5, 0), (4, 0), (4, 65), (1, 0)] (us (fun _ => 0) 0 i) [(0, 0, [(1, 0), (0, 1)]), (6, 0, [(1, 1)]), (0, 0, [(1, 0), (0, 2)]), (6, 0, [(1, 3)]), (0, 0, [(1, 0), (0, 3)]), (6, 0, [(1, 5)]), (16, 93, [(4, 0), (1, 2), (1, 4), (1, 6)]), (0, 0, [(1, 0), (0, 1)]), (6, 0, [(1, 8)]), (0, 0, [(1, 0), (0, 2)]), (6, 0, [(1, 10)]), (0, 0, [(1, 0), (0, 3)]), (6, 0, [(1, 12)]), (16, 153, [(4, 65), (1, 9), (1, 11), (1, 13)]), (17, 933, [(5, 0), (4, 0), (4, 65), (1, 0)])] (by decide +kernel) rfl rfl (by decide) (fun i' dl as M' hi _ h => ?_) ?_
  · obtain ⟨rfl, rfl, g1, g2⟩ := h
    obtain rfl : [0, 1, 2, 3] = dl := Option.some.inj hi
    exact nx M' g1 g2
  · refine d_ib (d_sc (hx 1 (by decide)) (d_ib (d_sc (hx 2 (by decide)) (d_ib (d_sc (hx 3 (by decide)) (d_ca ⟨20, by decide, (hp M hT hP).mono fun v1 M1 q1 _ _ _ => ?_⟩))))))
    obtain ⟨t1, w2⟩ := q1
    exact d_ib (d_sc (hx 1 (by decide)) (d_ib (d_sc (hx 2 (by decide)) (d_ib (d_sc (hx 3 (by decide)) (d_ca ⟨30, by decide, w2.mono fun v2 M2 q2 _ _ _ => d_ct ⟨rfl, rfl, q2.1, q2.2.1⟩⟩))))))
theorem law_12 {X : Xs} {P : Mm → Prop} {i : Int} {M : Mm} {Q : Option V → Mm → Prop} (hx : ∀ c : Int, 0 ≤ c ∧ c ≤ 6 → 0 ≤ ib 0 i c ∧ ib 0 i c < X.1) (hT : okTT M) (hP : P M) (hp : Pr X P 94 30 154 30 [vI (X.2 (ib 0 i 1).toNat), vI (X.2 (ib 0 i 2).toNat), vI (X.2 (ib 0 i 3).toNat), vI (X.2 (ib 0 i 4).toNat)] False) (nx : ∀ M', okTT M' → P M' → Wp X 120 0 933 ([0, 1, 2, 3].zip (l4 i)) [] M' Q) : Wp X 120 0 380 ([0, 1, 2, 3].zip (l4 i)) [] M Q := by
  refine Wp_seg (cut := cutL cutLaw) (CT := fun i' as M' => i' = 933 ∧ as = l4 i ∧ okTT M' ∧ P M') 1 60 [(5, 0), (4, 0), (4, 65), (1, 0)] (us (fun _ => 0) 0 i) [(0, 0, [(1, 0), (0, 1)]), (6, 0, [(1, 1)]), (0, 0, [(1, 0), (0, 2)]), (6, 0, [(1, 3)]), (0, 0, [(1, 0), (0, 3)]), (6, 0, [(1, 5)]), (0, 0, [(1, 0), (0, 4)]), (6, 0, [(1, 7)]), (16, 94, [(4, 0), (1, 2), (1, 4), (1, 6), (1, 8)]), (0, 0, [(1, 0), (0, 1)]), (6, 0, [(1, 10)]), (0, 0, [(1, 0), (0, 2)]), (6, 0, [(1, 12)]), (0, 0, [(1, 0), (0, 3)]), (6, 0, [(1, 14)]), (0, 0, [(1, 0), (0, 4)]), (6, 0, [(1, 16)]), (16, 154, [(4, 65), (1, 11), (1, 13), (1, 15), (1, 17)]), (17, 933, [(5, 0), (4, 0), (4, 65), (1, 0)])] (by decide +kernel) rfl rfl (by decide) (fun i' dl as M' hi _ h => ?_) ?_
  · obtain ⟨rfl, rfl, g1, g2⟩ := h
    obtain rfl : [0, 1, 2, 3] = dl := Option.some.inj hi
    exact nx M' g1 g2
  · refine d_ib (d_sc (hx 1 (by decide)) (d_ib (d_sc (hx 2 (by decide)) (d_ib (d_sc (hx 3 (by decide)) (d_ib (d_sc (hx 4 (by decide)) (d_ca ⟨30, by decide, (hp M hT hP).mono fun v1 M1 q1 _ _ _ => ?_⟩))))))))
    obtain ⟨t1, w2⟩ := q1
    exact d_ib (d_sc (hx 1 (by decide)) (d_ib (d_sc (hx 2 (by decide)) (d_ib (d_sc (hx 3 (by decide)) (d_ib (d_sc (hx 4 (by decide)) (d_ca ⟨30, by decide, w2.mono fun v2 M2 q2 _ _ _ => d_ct ⟨rfl, rfl, q2.1, q2.2.1⟩⟩))))))))
theorem law_13 {X : Xs} {P : Mm → Prop} {i : Int} {M : Mm} {Q : Option V → Mm → Prop} (hx : ∀ c : Int, 0 ≤ c ∧ c ≤ 6 → 0 ≤ ib 0 i c ∧ ib 0 i c < X.1) (hT : okTT M) (hP : P M) (hp : Pr X P 95 70 162 60 [vI (X.2 (ib 0 i 1).toNat), vI (X.2 (ib 0 i 2).toNat), vI (X.2 (ib 0 i 3).toNat), vI (X.2 (ib 0 i 4).toNat)] False) (nx : ∀ M', okTT M' → P M' → Wp X 120 0 933 ([0, 1, 2, 3].zip (l4 i)) [] M' Q) : Wp X 120 0 427 ([0, 1, 2, 3].zip (l4 i)) [] M Q := by
  refine Wp_seg (cut := cutL cutLaw) (CT := fun i' as M' => i' = 933 ∧ as = l4 i ∧ okTT M' ∧ P M') 1 60 [(5, 0), (4, 0), (4, 65), (1, 0)] (us (fun _ => 0) 0 i) [(0, 0, [(1, 0), (0, 1)]), (6, 0, [(1, 1)]), (0, 0, [(1, 0), (0, 2)]), (6, 0, [(1, 3)]), (0, 0, [(1, 0), (0, 3)]), (6, 0, [(1, 5)]), (0, 0, [(1, 0), (0, 4)]), (6, 0, [(1, 7)]), (16, 95, [(4, 0), (1, 2), (1, 4), (1, 6), (1, 8)]), (0, 0, [(1, 0), (0, 1)]), (6, 0, [(1, 10)]), (0, 0, [(1, 0), (0, 2)]), (6, 0, [(1, 12)]), (0, 0, [(1, 0), (0, 3)]), (6, 0, [(1, 14)]), (0, 0, [(1, 0), (0, 4)]), (6, 0, [(1, 16)]), (16, 162, [(4, 65), (1, 11), (1, 13), (1, 15), (1, 17)]), (17, 933, [(5, 0), (4, 0), (4, 65), (1, 0)])] (by decide +kernel) rfl rfl (by decide) (fun i' dl as M' hi _ h => ?_) ?_
  · obtain ⟨rfl, rfl, g1, g2⟩ := h
    obtain rfl : [0, 1, 2, 3] = dl := Option.some.inj hi
    exact nx M' g1 g2
  · refine d_ib (d_sc (hx 1 (by decide)) (d_ib (d_sc (hx 2 (by decide)) (d_ib (d_sc (hx 3 (by decide)) (d_ib (d_sc (hx 4 (by decide)) (d_ca ⟨70, by decide, (hp M hT hP).mono fun v1 M1 q1 _ _ _ => ?_⟩))))))))
    obtain ⟨t1, w2⟩ := q1
    exact d_ib (d_sc (hx 1 (by decide)) (d_ib (d_sc (hx 2 (by decide)) (d_ib (d_sc (hx 3 (by decide)) (d_ib (d_sc (hx 4 (by decide)) (d_ca ⟨60, by decide, w2.mono fun v2 M2 q2 _ _ _ => d_ct ⟨rfl, rfl, q2.1, q2.2.1⟩⟩))))))))
theorem law_14 {X : Xs} {P : Mm → Prop} {i : Int} {M : Mm} {Q : Option V → Mm → Prop} (hx : ∀ c : Int, 0 ≤ c ∧ c ≤ 6 → 0 ≤ ib 0 i c ∧ ib 0 i c < X.1) (hT : okTT M) (hP : P M) (hp : Pr X P 96 70 166 70 [vI (X.2 (ib 0 i 1).toNat), vI (X.2 (ib 0 i 2).toNat)] False) (nx : ∀ M', okTT M' → P M' → Wp X 120 0 933 ([0, 1, 2, 3].zip (l4 i)) [] M' Q) : Wp X 120 0 474 ([0, 1, 2, 3].zip (l4 i)) [] M Q := by
  refine Wp_seg (cut := cutL cutLaw) (CT := fun i' as M' => i' = 933 ∧ as = l4 i ∧ okTT M' ∧ P M') 1 60 [(5, 0), (4, 0), (4, 65), (1, 0)] (us (fun _ => 0) 0 i) [(0, 0, [(1, 0), (0, 1)]), (6, 0, [(1, 1)]), (0, 0, [(1, 0), (0, 2)]), (6, 0, [(1, 3)]), (16, 96, [(4, 0), (1, 2), (1, 4)]), (0, 0, [(1, 0), (0, 1)]), (6, 0, [(1, 6)]), (0, 0, [(1, 0), (0, 2)]), (6, 0, [(1, 8)]), (16, 166, [(4, 65), (1, 7), (1, 9)]), (17, 933, [(5, 0), (4, 0), (4, 65), (1, 0)])] (by decide +kernel) rfl rfl (by decide) (fun i' dl as M' hi _ h => ?_) ?_
  · obtain ⟨rfl, rfl, g1, g2⟩ := h
    obtain rfl : [0, 1, 2, 3] = dl := Option.some.inj hi
    exact nx M' g1 g2
  · refine d_ib (d_sc (hx 1 (by decide)) (d_ib (d_sc (hx 2 (by decide)) (d_ca ⟨70, by decide, (hp M hT hP).mono fun v1 M1 q1 _ _ _ => ?_⟩))))
    obtain ⟨t1, w2⟩ := q1
    exact d_ib (d_sc (hx 1 (by decide)) (d_ib (d_sc (hx 2 (by decide)) (d_ca ⟨70, by decide, w2.mono fun v2 M2 q2 _ _ _ => d_ct ⟨rfl, rfl, q2.1, q2.2.1⟩⟩))))
theorem law_15 {X : Xs} {P : Mm → Prop} {i : Int} {M : Mm} {Q : Option V → Mm → Prop} (hx : ∀ c : Int, 0 ≤ c ∧ c ≤ 6 → 0 ≤ ib 0 i c ∧ ib 0 i c < X.1) (hT : okTT M) (hP : P M) (hp : Pr X P 97 70 167 70 [vI (X.2 (ib 0 i 1).toNat)] False) (nx : ∀ M', okTT M' → P M' → Wp X 120 0 933 ([0, 1, 2, 3].zip (l4 i)) [] M' Q) : Wp X 120 0 501 ([0, 1, 2, 3].zip (l4 i)) [] M Q := by
  refine Wp_seg (cut := cutL cutLaw) (CT := fun i' as M' => i' = 933 ∧ as = l4 i ∧ okTT M' ∧ P M') 1 60 [(5, 0), (4, 0), (4, 65), (1, 0)] (us (fun _ => 0) 0 i) [(0, 0, [(1, 0), (0, 1)]), (6, 0, [(1, 1)]), (16, 97, [(4, 0), (1, 2)]), (0, 0, [(1, 0), (0, 1)]), (6, 0, [(1, 4)]), (16, 167, [(4, 65), (1, 5)]), (17, 933, [(5, 0), (4, 0), (4, 65), (1, 0)])] (by decide +kernel) rfl rfl (by decide) (fun i' dl as M' hi _ h => ?_) ?_
  · obtain ⟨rfl, rfl, g1, g2⟩ := h
    obtain rfl : [0, 1, 2, 3] = dl := Option.some.inj hi
    exact nx M' g1 g2
  · refine d_ib (d_sc (hx 1 (by decide)) (d_ca ⟨70, by decide, (hp M hT hP).mono fun v1 M1 q1 _ _ _ => ?_⟩))
    obtain ⟨t1, w2⟩ := q1
    exact d_ib (d_sc (hx 1 (by decide)) (d_ca ⟨70, by decide, w2.mono fun v2 M2 q2 _ _ _ => d_ct ⟨rfl, rfl, q2.1, q2.2.1⟩⟩))
theorem law_16 {X : Xs} {P : Mm → Prop} {i : Int} {M : Mm} {Q : Option V → Mm → Prop} (hx : ∀ c : Int, 0 ≤ c ∧ c ≤ 6 → 0 ≤ ib 0 i c ∧ ib 0 i c < X.1) (hT : okTT M) (hP : P M) (hp : Pr X P 98 70 168 60 [vI (X.2 (ib 0 i 1).toNat)] False) (nx : ∀ M', okTT M' → P M' → Wp X 120 0 933 ([0, 1, 2, 3].zip (l4 i)) [] M' Q) : Wp X 120 0 518 ([0, 1, 2, 3].zip (l4 i)) [] M Q := by
  refine Wp_seg (cut := cutL cutLaw) (CT := fun i' as M' => i' = 933 ∧ as = l4 i ∧ okTT M' ∧ P M') 1 60 [(5, 0), (4, 0), (4, 65), (1, 0)] (us (fun _ => 0) 0 i) [(0, 0, [(1, 0), (0, 1)]), (6, 0, [(1, 1)]), (16, 98, [(4, 0), (1, 2)]), (0, 0, [(1, 0), (0, 1)]), (6, 0, [(1, 4)]), (16, 168, [(4, 65), (1, 5)]), (17, 933, [(5, 0), (4, 0), (4, 65), (1, 0)])] (by decide +kernel) rfl rfl (by decide) (fun i' dl as M' hi _ h => ?_) ?_
  · obtain ⟨rfl, rfl, g1, g2⟩ := h
    obtain rfl : [0, 1, 2, 3] = dl := Option.some.inj hi
    exact nx M' g1 g2
  · refine d_ib (d_sc (hx 1 (by decide)) (d_ca ⟨70, by decide, (hp M hT hP).mono fun v1 M1 q1 _ _ _ => ?_⟩))
    obtain ⟨t1, w2⟩ := q1
    exact d_ib (d_sc (hx 1 (by decide)) (d_ca ⟨60, by decide, w2.mono fun v2 M2 q2 _ _ _ => d_ct ⟨rfl, rfl, q2.1, q2.2.1⟩⟩))
theorem law_17 {X : Xs} {P : Mm → Prop} {i : Int} {M : Mm} {Q : Option V → Mm → Prop} (hx : ∀ c : Int, 0 ≤ c ∧ c ≤ 6 → 0 ≤ ib 0 i c ∧ ib 0 i c < X.1) (hT : okTT M) (hP : P M) (hp : Pr X P 99 70 169 60 [vI (X.2 (ib 0 i 1).toNat), vI (X.2 (ib 0 i 2).toNat)] False) (nx : ∀ M', okTT M' → P M' → Wp X 120 0 933 ([0, 1, 2, 3].zip (l4 i)) [] M' Q) : Wp X 120 0 535 ([0, 1, 2, 3].zip (l4 i)) [] M Q := by
  refine Wp_seg (cut := cutL cutLaw) (CT := fun i' as M' => i' = 933 ∧ as = l4 i ∧ okTT M' ∧ P M') 1 60 [(5, 0), (4, 0), (4, 65), (1, 0)] (us (fun _ => 0) 0 i) [(0, 0, [(1, 0), (0, 1)]), (6, 0, [(1, 1)]), (0, 0, [(1, 0), (0, 2)]), (6, 0, [(1, 3)]), (16, 99, [(4, 0), (1, 2), (1, 4)]), (0, 0, [(1, 0), (0, 1)]), (6, 0, [(1, 6)]), (0, 0, [(1, 0), (0, 2)]), (6, 0, [(1, 8)]), (16, 169, [(4, 65), (1, 7), (1, 9)]), (17, 933, [(5, 0), (4, 0), (4, 65), (1, 0)])] (by decide +kernel) rfl rfl (by decide) (fun i' dl as M' hi _ h => ?_) ?_
  · obtain ⟨rfl, rfl, g1, g2⟩ := h
    obtain rfl : [0, 1, 2, 3] = dl := Option.some.inj hi
    exact nx M' g1 g2
  · refine d_ib (d_sc (hx 1 (by decide)) (d_ib (d_sc (hx 2 (by decide)) (d_ca ⟨70, by decide, (hp M hT hP).mono fun v1 M1 q1 _ _ _ => ?_⟩))))
    obtain ⟨t1, w2⟩ := q1
    exact d_ib (d_sc (hx 1 (by decide)) (d_ib (d_sc (hx 2 (by decide)) (d_ca ⟨60, by decide, w2.mono fun v2 M2 q2 _ _ _ => d_ct ⟨rfl, rfl, q2.1, q2.2.1⟩⟩))))
theorem law_18 {X : Xs} {P : Mm → Prop} {i : Int} {M : Mm} {Q : Option V → Mm → Prop} (hx : ∀ c : Int, 0 ≤ c ∧ c ≤ 6 → 0 ≤ ib 0 i c ∧ ib 0 i c < X.1) (hT : okTT M) (hP : P M) (hp : Pr X P 100 70 170 60 [vI (X.2 (ib 0 i 1).toNat), vI (X.2 (ib 0 i 2).toNat), vI (X.2 (ib 0 i 3).toNat)] False) (nx : ∀ M', okTT M' → P M' → Wp X 120 0 933 ([0, 1, 2, 3].zip (l4 i)) [] M' Q) : Wp X 120 0 562 ([0, 1, 2, 3].zip (l4 i)) [] M Q := by
  refine Wp_seg (cut := cutL cutLaw) (CT := fun i' as M' => i' = 933 ∧ as = l4 i ∧ okTT M' ∧ P M') 1 60 [(5, 0), (4, 0), (4, 65), (1, 0)] (us (fun _ => 0) 0 i) [(0, 0, [(1, 0), (0, 1)]), (6, 0, [(1, 1)]), (0, 0, [(1, 0), (0, 2)]), (6, 0, [(1, 3)]), (0, 0, [(1, 0), (0, 3)]), (6, 0, [(1, 5)]), (16, 100, [(4, 0), (1, 2), (1, 4), (1, 6)]), (0, 0, [(1, 0), (0, 1)]), (6, 0, [(1, 8)]), (0, 0, [(1, 0), (0, 2)]), (6, 0, [(1, 10)]), (0, 0, [(1, 0), (0, 3)]), (6, 0, [(1, 12)]), (16, 170, [(4, 65), (1, 9), (1, 11), (1, 13)]), (17, 933, [(5, 0), (4, 0), (4, 65), (1, 0)])] (by decide +kernel) rfl rfl (by decide) (fun i' dl as M' hi _ h => ?_) ?_
  · obtain ⟨rfl, rfl, g1, g2⟩ := h
    obtain rfl : [0, 1, 2, 3] = dl := Option.some.inj hi
    exact nx M' g1 g2
  · refine d_ib (d_sc (hx 1 (by decide)) (d_ib (d_sc (hx 2 (by decide)) (d_ib (d_sc (hx 3 (by decide)) (d_ca ⟨70, by decide, (hp M hT hP).mono fun v1 M1 q1 _ _ _ => ?_⟩))))))
    obtain ⟨t1, w2⟩ := q1
    exact d_ib (d_sc (hx 1 (by decide)) (d_ib (d_sc (hx 2 (by decide)) (d_ib (d_sc (hx 3 (by decide)) (d_ca ⟨60, by decide, w2.mono fun v2 M2 q2 _ _ _ => d_ct ⟨rfl, rfl, q2.1, q2.2.1⟩⟩))))))
theorem law_19 {X : Xs} {P : Mm → Prop} {i : Int} {M : Mm} {Q : Option V → Mm → Prop} (hx : ∀ c : Int, 0 ≤ c ∧ c ≤ 6 → 0 ≤ ib 0 i c ∧ ib 0 i c < X.1) (hT : okTT M) (hP : P M) (hp : Pr X P 101 70 171 60 [vI (X.2 (ib 0 i 1).toNat), vI (X.2 (ib 0 i 2).toNat)] False) (nx : ∀ M', okTT M' → P M' → Wp X 120 0 933 ([0, 1, 2, 3].zip (l4 i)) [] M' Q) : Wp X 120 0 599 ([0, 1, 2, 3].zip (l4 i)) [] M Q := by
  refine Wp_seg (cut := cutL cutLaw) (CT := fun i' as M' => i' = 933 ∧ as = l4 i ∧ okTT M' ∧ P M') 1 60 [(5, 0), (4, 0), (4, 65), (1, 0)] (us (fun _ => 0) 0 i) [(0, 0, [(1, 0), (0, 1)]), (6, 0, [(1, 1)]), (0, 0, [(1, 0), (0, 2)]), (6, 0, [(1, 3)]), (16, 101, [(4, 0), (1, 2), (1, 4)]), (0, 0, [(1, 0), (0, 1)]), (6, 0, [(1, 6)]), (0, 0, [(1, 0), (0, 2)]), (6, 0, [(1, 8)]), (16, 171, [(4, 65), (1, 7), (1, 9)]), (17, 933, [(5, 0), (4, 0), (4, 65), (1, 0)])] (by decide +kernel) rfl rfl (by decide) (fun i' dl as M' hi _ h => ?_) ?_
  · obtain ⟨rfl, rfl, g1, g2⟩ := h
    obtain rfl : [0, 1, 2, 3] = dl := Option.some.inj hi
    exact nx M' g1 g2
  · refine d_ib (d_sc (hx 1 (by decide)) (d_ib (d_sc (hx 2 (by decide)) (d_ca ⟨70, by decide, (hp M hT hP).mono fun v1 M1 q1 _ _ _ => ?_⟩))))
    obtain ⟨t1, w2⟩ := q1
    exact d_ib (d_sc (hx 1 (by decide)) (d_ib (d_sc (hx 2 (by decide)) (d_ca ⟨60, by decide, w2.mono fun v2 M2 q2 _ _ _ => d_ct ⟨rfl, rfl, q2.1, q2.2.1⟩⟩))))
theorem law_20 {X : Xs} {P : Mm → Prop} {i : Int} {M : Mm} {Q : Option V → Mm → Prop} (hx : ∀ c : Int, 0 ≤ c ∧ c ≤ 6 → 0 ≤ ib 0 i c ∧ ib 0 i c < X.1) (hT : okTT M) (hP : P M) (hp : Pr X P 102 70 174 60 [vI (X.2 (ib 0 i 1).toNat), vI (X.2 (ib 0 i 2).toNat)] False) (nx : ∀ M', okTT M' → P M' → Wp X 120 0 933 ([0, 1, 2, 3].zip (l4 i)) [] M' Q) : Wp X 120 0 626 ([0, 1, 2, 3].zip (l4 i)) [] M Q := by
  refine Wp_seg (cut := cutL cutLaw) (CT := fun i' as M' => i' = 933 ∧ as = l4 i ∧ okTT M' ∧ P M') 1 60 [(5, 0), (4, 0), (4, 65), (1, 0)] (us (fun _ => 0) 0 i) [(0, 0, [(1, 0), (0, 1)]), (6, 0, [(1, 1)]), (0, 0, [(1, 0), (0, 2)]), (6, 0, [(1, 3)]), (16, 102, [(4, 0), (1, 2), (1, 4)]), (0, 0, [(1, 0), (0, 1)]), (6, 0, [(1, 6)]), (0, 0, [(1, 0), (0, 2)]), (6, 0, [(1, 8)]), (16, 174, [(4, 65), (1, 7), (1, 9)]), (17, 933, [(5, 0), (4, 0), (4, 65), (1, 0)])] (by decide +kernel) rfl rfl (by decide) (fun i' dl as M' hi _ h => ?_) ?_
  · obtain ⟨rfl, rfl, g1, g2⟩ := h
    obtain rfl : [0, 1, 2, 3] = dl := Option.some.inj hi
    exact nx M' g1 g2
  · refine d_ib (d_sc (hx 1 (by decide)) (d_ib (d_sc (hx 2 (by decide)) (d_ca ⟨70, by decide, (hp M hT hP).mono fun v1 M1 q1 _ _ _ => ?_⟩))))
    obtain ⟨t1, w2⟩ := q1
    exact d_ib (d_sc (hx 1 (by decide)) (d_ib (d_sc (hx 2 (by decide)) (d_ca ⟨60, by decide, w2.mono fun v2 M2 q2 _ _ _ => d_ct ⟨rfl, rfl, q2.1, q2.2.1⟩⟩))))
theorem law_21 {X : Xs} {P : Mm → Prop} {i : Int} {M : Mm} {Q : Option V → Mm → Prop} (hx : ∀ c : Int, 0 ≤ c ∧ c ≤ 6 → 0 ≤ ib 0 i c ∧ ib 0 i c < X.1) (hT : okTT M) (hP : P M) (hp : Pr X P 103 70 175 60 [vI (X.2 (ib 0 i 1).toNat), vI (X.2 (ib 0 i 2).toNat), vI (X.2 (ib 0 i 3).toNat)] False) (nx : ∀ M', okTT M' → P M' → Wp X 120 0 933 ([0, 1, 2, 3].zip (l4 i)) [] M' Q) : Wp X 120 0 653 ([0, 1, 2, 3].zip (l4 i)) [] M Q := by
  refine Wp_seg (cut := cutL cutLaw) (CT := fun i' as M' => i' = 933 ∧ as = l4 i ∧ okTT M' ∧ P M') 1 60 [(5, 0), (4, 0), (4, 65), (1, 0)] (us (fun _ => 0) 0 i) [(0, 0, [(1, 0), (0, 1)]), (6, 0, [(1, 1)]), (0, 0, [(1, 0), (0, 2)]), (6, 0, [(1, 3)]), (0, 0, [(1, 0), (0, 3)]), (6, 0, [(1, 5)]), (16, 103, [(4, 0), (1, 2), (1, 4), (1, 6)]), (0, 0, [(1, 0), (0, 1)]), (6, 0, [(1, 8)]), (0, 0, [(1, 0), (0, 2)]), (6, 0, [(1, 10)]), (0, 0, [(1, 0), (0, 3)]), (6, 0, [(1, 12)]), (16, 175, [(4, 65), (1, 9), (1, 11), (1, 13)]), (17, 933, [(5, 0), (4, 0), (4, 65), (1, 0)])] (by decide +kernel) rfl rfl (by decide) (fun i' dl as M' hi _ h => ?_) ?_
  · obtain ⟨rfl, rfl, g1, g2⟩ := h
    obtain rfl : [0, 1, 2, 3] = dl := Option.some.inj hi
    exact nx M' g1 g2
  · refine d_ib (d_sc (hx 1 (by decide)) (d_ib (d_sc (hx 2 (by decide)) (d_ib (d_sc (hx 3 (by decide)) (d_ca ⟨70, by decide, (hp M hT hP).mono fun v1 M1 q1 _ _ _ => ?_⟩))))))
    obtain ⟨t1, w2⟩ := q1
    exact d_ib (d_sc (hx 1 (by decide)) (d_ib (d_sc (hx 2 (by decide)) (d_ib (d_sc (hx 3 (by decide)) (d_ca ⟨60, by decide, w2.mono fun v2 M2 q2 _ _ _ => d_ct ⟨rfl, rfl, q2.1, q2.2.1⟩⟩))))))
theorem law_22 {X : Xs} {P : Mm → Prop} {i : Int} {M : Mm} {Q : Option V → Mm → Prop} (hx : ∀ c : Int, 0 ≤ c ∧ c ≤ 6 → 0 ≤ ib 0 i c ∧ ib 0 i c < X.1) (hT : okTT M) (hP : P M) (hp : Pr X P 104 10 176 10 [vI (X.2 (ib 0 i 1).toNat)] False) (nx : ∀ M', okTT M' → P M' → Wp X 120 0 933 ([0, 1, 2, 3].zip (l4 i)) [] M' Q) : Wp X 120 0 690 ([0, 1, 2, 3].zip (l4 i)) [] M Q := by
  refine Wp_seg (cut := cutL cutLaw) (CT := fun i' as M' => i' = 933 ∧ as = l4 i ∧ okTT M' ∧ P M') 1 60 [(5, 0), (4, 0), (4, 65), (1, 0)] (us (fun _ => 0) 0 i) [(0, 0, [(1, 0), (0, 1)]), (6, 0, [(1, 1)]), (16, 104, [(4, 0), (1, 2)]), (0, 0, [(1, 0), (0, 1)]), (6, 0, [(1, 4)]), (16, 176, [(4, 65), (1, 5)]), (17, 933, [(5, 0), (4, 0), (4, 65), (1, 0)])] (by decide +kernel) rfl rfl (by decide) (fun i' dl as M' hi _ h => ?_) ?_
  · obtain ⟨rfl, rfl, g1, g2⟩ := h
    obtain rfl : [0, 1, 2, 3] = dl := Option.some.inj hi
    exact nx M' g1 g2
  · refine d_ib (d_sc (hx 1 (by decide)) (d_ca ⟨10, by decide, (hp M hT hP).mono fun v1 M1 q1 _ _ _ => ?_⟩))
    obtain ⟨t1, w2⟩ := q1
    exact d_ib (d_sc (hx 1 (by decide)) (d_ca ⟨10, by decide, w2.mono fun v2 M2 q2 _ _ _ => d_ct ⟨rfl, rfl, q2.1, q2.2.1⟩⟩))
theorem law_23 {X : Xs} {P : Mm → Prop} {i : Int} {M : Mm} {Q : Option V → Mm → Prop} (hx : ∀ c : Int, 0 ≤ c ∧ c ≤ 6 → 0 ≤ ib 0 i c ∧ ib 0 i c < X.1) (hT : okTT M) (hP : P M) (hp : Pr X P 105 90 184 100 [vI (X.2 (ib 0 i 1).toNat), vI (X.2 (ib 0 i 2).toNat)] False) (nx : ∀ M', okTT M' → P M' → Wp X 120 0 933 ([0, 1, 2, 3].zip (l4 i)) [] M' Q) : Wp X 120 0 707 ([0, 1, 2, 3].zip (l4 i)) [] M Q := by
  refine Wp_seg (cut := cutL cutLaw) (CT := fun i' as M' => i' = 933 ∧ as = l4 i ∧ okTT M' ∧ P M') 1 60 [(5, 0), (4, 0), (4, 65), (1, 0)] (us (fun _ => 0) 0 i) [(0, 0, [(1, 0), (0, 1)]), (6, 0, [(1, 1)]), (0, 0, [(1, 0), (0, 2)]), (6, 0, [(1, 3)]), (16, 105, [(4, 0), (1, 2), (1, 4)]), (0, 0, [(1, 0), (0, 1)]), (6, 0, [(1, 6)]), (0, 0, [(1, 0), (0, 2)]), (6, 0, [(1, 8)]), (16, 184, [(4, 65), (1, 7), (1, 9)]), (17, 933, [(5, 0), (4, 0), (4, 65), (1, 0)])] (by decide +kernel) rfl rfl (by decide) (fun i' dl as M' hi _ h => ?_) ?_
  · obtain ⟨rfl, rfl, g1, g2⟩ := h
    obtain rfl : [0, 1, 2, 3] = dl := Option.some.inj hi
    exact nx M' g1 g2
  · refine d_ib (d_sc (hx 1 (by decide)) (d_ib (d_sc (hx 2 (by decide)) (d_ca ⟨90, by decide, (hp M hT hP).mono fun v1 M1 q1 _ _ _ => ?_⟩))))
    obtain ⟨t1, w2⟩ := q1
    exact d_ib (d_sc (hx 1 (by decide)) (d_ib (d_sc (hx 2 (by decide)) (d_ca ⟨100, by decide, w2.mono fun v2 M2 q2 _ _ _ => d_ct ⟨rfl, rfl, q2.1, q2.2.1⟩⟩))))
theorem law_24 {X : Xs} {P : Mm → Prop} {i : Int} {M : Mm} {Q : Option V → Mm → Prop} (hx : ∀ c : Int, 0 ≤ c ∧ c ≤ 6 → 0 ≤ ib 0 i c ∧ ib 0 i c < X.1) (hT : okTT M) (hP : P M) (hp : Pr X P 106 90 185 100 [vI (X.2 (ib 0 i 1).toNat), vI (X.2 (ib 0 i 2).toNat)] False) (nx : ∀ M', okTT M' → P M' → Wp X 120 0 933 ([0, 1, 2, 3].zip (l4 i)) [] M' Q) : Wp X 120 0 734 ([0, 1, 2, 3].zip (l4 i)) [] M Q := by
  refine Wp_seg (cut := cutL cutLaw) (CT := fun i' as M' => i' = 933 ∧ as = l4 i ∧ okTT M' ∧ P M') 1 60 [(5, 0), (4, 0), (4, 65), (1, 0)] (us (fun _ => 0) 0 i) [(0, 0, [(1, 0), (0, 1)]), (6, 0, [(1, 1)]), (0, 0, [(1, 0), (0, 2)]), (6, 0, [(1, 3)]), (16, 106, [(4, 0), (1, 2), (1, 4)]), (0, 0, [(1, 0), (0, 1)]), (6, 0, [(1, 6)]), (0, 0, [(1, 0), (0, 2)]), (6, 0, [(1, 8)]), (16, 185, [(4, 65), (1, 7), (1, 9)]), (17, 933, [(5, 0), (4, 0), (4, 65), (1, 0)])] (by decide +kernel) rfl rfl (by decide) (fun i' dl as M' hi _ h => ?_) ?_
  · obtain ⟨rfl, rfl, g1, g2⟩ := h
    obtain rfl : [0, 1, 2, 3] = dl := Option.some.inj hi
    exact nx M' g1 g2
  · refine d_ib (d_sc (hx 1 (by decide)) (d_ib (d_sc (hx 2 (by decide)) (d_ca ⟨90, by decide, (hp M hT hP).mono fun v1 M1 q1 _ _ _ => ?_⟩))))
    obtain ⟨t1, w2⟩ := q1
    exact d_ib (d_sc (hx 1 (by decide)) (d_ib (d_sc (hx 2 (by decide)) (d_ca ⟨100, by decide, w2.mono fun v2 M2 q2 _ _ _ => d_ct ⟨rfl, rfl, q2.1, q2.2.1⟩⟩))))
theorem law_25 {X : Xs} {P : Mm → Prop} {i : Int} {M : Mm} {Q : Option V → Mm → Prop} (hx : ∀ c : Int, 0 ≤ c ∧ c ≤ 6 → 0 ≤ ib 0 i c ∧ ib 0 i c < X.1) (hT : okTT M) (hP : P M) (hp : Pr X P 107 70 186 60 [vI (X.2 (ib 0 i 1).toNat)] False) (nx : ∀ M', okTT M' → P M' → Wp X 120 0 933 ([0, 1, 2, 3].zip (l4 i)) [] M' Q) : Wp X 120 0 761 ([0, 1, 2, 3].zip (l4 i)) [] M Q := by
  refine Wp_seg (cut := cutL cutLaw) (CT := fun i' as M' => i' = 933 ∧ as = l4 i ∧ okTT M' ∧ P M') 1 60 [(5, 0), (4, 0), (4, 65), (1, 0)] (us (fun _ => 0) 0 i) [(0, 0, [(1, 0), (0, 1)]), (6, 0, [(1, 1)]), (16, 107, [(4, 0), (1, 2)]), (0, 0, [(1, 0), (0, 1)]), (6, 0, [(1, 4)]), (16, 186, [(4, 65), (1, 5)]), (17, 933, [(5, 0), (4, 0), (4, 65), (1, 0)])] (by decide +kernel) rfl rfl (by decide) (fun i' dl as M' hi _ h => ?_) ?_
  · obtain ⟨rfl, rfl, g1, g2⟩ := h
    obtain rfl : [0, 1, 2, 3] = dl := Option.some.inj hi
    exact nx M' g1 g2
  · refine d_ib (d_sc (hx 1 (by decide)) (d_ca ⟨70, by decide, (hp M hT hP).mono fun v1 M1 q1 _ _ _ => ?_⟩))
    obtain ⟨t1, w2⟩ := q1
    exact d_ib (d_sc (hx 1 (by decide)) (d_ca ⟨60, by decide, w2.mono fun v2 M2 q2 _ _ _ => d_ct ⟨rfl, rfl, q2.1, q2.2.1⟩⟩))
theorem law_26 {X : Xs} {P : Mm → Prop} {i : Int} {M : Mm} {Q : Option V → Mm → Prop} (hx : ∀ c : Int, 0 ≤ c ∧ c ≤ 6 → 0 ≤ ib 0 i c ∧ ib 0 i c < X.1) (hT : okTT M) (hP : P M) (hp : Pr X P 108 20 188 20 [vI (X.2 (ib 0 i 1).toNat), vI (X.2 (ib 0 i 2).toNat), vI (X.2 (ib 0 i 3).toNat)] False) (nx : ∀ M', okTT M' → P M' → Wp X 120 0 933 ([0, 1, 2, 3].zip (l4 i)) [] M' Q) : Wp X 120 0 778 ([0, 1, 2, 3].zip (l4 i)) [] M Q := by
  refine Wp_seg (cut := cutL cutLaw) (CT := fun i' as M' => i' = 933 ∧ as = l4 i ∧ okTT M' ∧ P M') 1 60 [(5, 0), (4, 0), (4, 65), (1, 0)] (us (fun _ => 0) 0 i) [(0, 0, [(1, 0), (0, 1)]), (6, 0, [(1, 1)]), (0, 0, [(1, 0), (0, 2)]), (6, 0, [(1, 3)]), (0, 0, [(1, 0), (0, 3)]), (6, 0, [(1, 5)]), (16, 108, [(4, 0), (1, 2), (1, 4), (1, 6)]), (0, 0, [(1, 0), (0, 1)]), (6, 0, [(1, 8)]), (0, 0, [(1, 0), (0, 2)]), (6, 0, [(1, 10)]), (0, 0, [(1, 0), (0, 3)]), (6, 0, [(1, 12)]), (16, 188, [(4, 65), (1, 9), (1, 11), (1, 13)]), (17, 933, [(5, 0), (4, 0), (4, 65), (1, 0)])] (by decide +kernel) rfl rfl (by decide) (fun i' dl as M' hi _ h => ?_) ?_
  · obtain ⟨rfl, rfl, g1, g2⟩ := h
    obtain rfl : [0, 1, 2, 3] = dl := Option.some.inj hi
    exact nx M' g1 g2
  · refine d_ib (d_sc (hx 1 (by decide)) (d_ib (d_sc (hx 2 (by decide)) (d_ib (d_sc (hx 3 (by decide)) (d_ca ⟨20, by decide, (hp M hT hP).mono fun v1 M1 q1 _ _ _ => ?_⟩))))))
    obtain ⟨t1, w2⟩ := q1
    exact d_ib (d_sc (hx 1 (by decide)) (d_ib (d_sc (hx 2 (by decide)) (d_ib (d_sc (hx 3 (by decide)) (d_ca ⟨20, by decide, w2.mono fun v2 M2 q2 _ _ _ => d_ct ⟨rfl, rfl, q2.1, q2.2.1⟩⟩))))))
theorem law_27 {X : Xs} {P : Mm → Prop} {i : Int} {M : Mm} {Q : Option V → Mm → Prop} (hx : ∀ c : Int, 0 ≤ c ∧ c ≤ 6 → 0 ≤ ib 0 i c ∧ ib 0 i c < X.1) (hT : okTT M) (hP : P M) (hp : Pr X P 109 30 189 20 [vI (X.2 (ib 0 i 1).toNat), vI (X.2 (ib 0 i 2).toNat)] False) (nx : ∀ M', okTT M' → P M' → Wp X 120 0 933 ([0, 1, 2, 3].zip (l4 i)) [] M' Q) : Wp X 120 0 815 ([0, 1, 2, 3].zip (l4 i)) [] M Q := by
  refine Wp_seg (cut := cutL cutLaw) (CT := fun i' as M' => i' = 933 ∧ as = l4 i ∧ okTT M' ∧ P M') 1 60 [(5, 0), (4, 0), (4, 65), (1, 0)] (us (fun _ => 0) 0 i) [(0, 0, [(1, 0), (0, 1)]), (6, 0, [(1, 1)]), (0, 0, [(1, 0), (0, 2)]), (6, 0, [(1, 3)]), (16, 109, [(4, 0), (1, 2), (1, 4)]), (0, 0, [(1, 0), (0, 1)]), (6, 0, [(1, 6)]), (0, 0, [(1, 0), (0, 2)]), (6, 0, [(1, 8)]), (16, 189, [(4, 65), (1, 7), (1, 9)]), (17, 933, [(5, 0), (4, 0), (4, 65), (1, 0)])] (by decide +kernel) rfl rfl (by decide) (fun i' dl as M' hi _ h => ?_) ?_
  · obtain ⟨rfl, rfl, g1, g2⟩ := h
    obtain rfl : [0, 1, 2, 3] = dl := Option.some.inj hi
    exact nx M' g1 g2
  · refine d_ib (d_sc (hx 1 (by decide)) (d_ib (d_sc (hx 2 (by decide)) (d_ca ⟨30, by decide, (hp M hT hP).mono fun v1 M1 q1 _ _ _ => ?_⟩))))
    obtain ⟨t1, w2⟩ := q1
    exact d_ib (d_sc (hx 1 (by decide)) (d_ib (d_sc (hx 2 (by decide)) (d_ca ⟨20, by decide, w2.mono fun v2 M2 q2 _ _ _ => d_ct ⟨rfl, rfl, q2.1, q2.2.1⟩⟩))))
theorem law_28 {X : Xs} {P : Mm → Prop} {i : Int} {M : Mm} {Q : Option V → Mm → Prop} (hx : ∀ c : Int, 0 ≤ c ∧ c ≤ 6 → 0 ≤ ib 0 i c ∧ ib 0 i c < X.1) (hT : okTT M) (hP : P M) (hp : Pr X P 110 70 191 60 [vI (X.2 (ib 0 i 1).toNat), vI (X.2 (ib 0 i 2).toNat), vI (X.2 (ib 0 i 3).toNat)] False) (nx : ∀ M', okTT M' → P M' → Wp X 120 0 933 ([0, 1, 2, 3].zip (l4 i)) [] M' Q) : Wp X 120 0 842 ([0, 1, 2, 3].zip (l4 i)) [] M Q := by
  refine Wp_seg (cut := cutL cutLaw) (CT := fun i' as M' => i' = 933 ∧ as = l4 i ∧ okTT M' ∧ P M') 1 60 [(5, 0), (4, 0), (4, 65), (1, 0)] (us (fun _ => 0) 0 i) [(0, 0, [(1, 0), (0, 1)]), (6, 0, [(1, 1)]), (0, 0, [(1, 0), (0, 2)]), (6, 0, [(1, 3)]), (0, 0, [(1, 0), (0, 3)]), (6, 0, [(1, 5)]), (16, 110, [(4, 0), (1, 2), (1, 4), (1, 6)]), (0, 0, [(1, 0), (0, 1)]), (6, 0, [(1, 8)]), (0, 0, [(1, 0), (0, 2)]), (6, 0, [(1, 10)]), (0, 0, [(1, 0), (0, 3)]), (6, 0, [(1, 12)]), (16, 191, [(4, 65), (1, 9), (1, 11), (1, 13)]), (17, 933, [(5, 0), (4, 0), (4, 65), (1, 0)])] (by decide +kernel) rfl rfl (by decide) (fun i' dl as M' hi _ h => ?_) ?_
  · obtain ⟨rfl, rfl, g1, g2⟩ := h
    obtain rfl : [0, 1, 2, 3] = dl := Option.some.inj hi
    exact nx M' g1 g2
  · refine d_ib (d_sc (hx 1 (by decide)) (d_ib (d_sc (hx 2 (by decide)) (d_ib (d_sc (hx 3 (by decide)) (d_ca ⟨70, by decide, (hp M hT hP).mono fun v1 M1 q1 _ _ _ => ?_⟩))))))
    obtain ⟨t1, w2⟩ := q1
    exact d_ib (d_sc (hx 1 (by decide)) (d_ib (d_sc (hx 2 (by decide)) (d_ib (d_sc (hx 3 (by decide)) (d_ca ⟨60, by decide, w2.mono fun v2 M2 q2 _ _ _ => d_ct ⟨rfl, rfl, q2.1, q2.2.1⟩⟩))))))
theorem law_29 {X : Xs} {P : Mm → Prop} {i : Int} {M : Mm} {Q : Option V → Mm → Prop} (hx : ∀ c : Int, 0 ≤ c ∧ c ≤ 6 → 0 ≤ ib 0 i c ∧ ib 0 i c < X.1) (hT : okTT M) (hP : P M) (hp : Pr X P 111 70 192 60 [vI (X.2 (ib 0 i 1).toNat), vI (X.2 (ib 0 i 2).toNat), vI (X.2 (ib 0 i 3).toNat)] False) (nx : ∀ M', okTT M' → P M' → Wp X 120 0 933 ([0, 1, 2, 3].zip (l4 i)) [] M' Q) : Wp X 120 0 879 ([0, 1, 2, 3].zip (l4 i)) [] M Q := by
  refine Wp_seg (cut := cutL cutLaw) (CT := fun i' as M' => i' = 933 ∧ as = l4 i ∧ okTT M' ∧ P M') 1 60 [(5, 0), (4, 0), (4, 65), (1, 0)] (us (fun _ => 0) 0 i) [(0, 0, [(1, 0), (0, 1)]), (6, 0, [(1, 1)]), (0, 0, [(1, 0), (0, 2)]), (6, 0, [(1, 3)]), (0, 0, [(1, 0), (0, 3)]), (6, 0, [(1, 5)]), (16, 111, [(4, 0), (1, 2), (1, 4), (1, 6)]), (0, 0, [(1, 0), (0, 1)]), (6, 0, [(1, 8)]), (0, 0, [(1, 0), (0, 2)]), (6, 0, [(1, 10)]), (0, 0, [(1, 0), (0, 3)]), (6, 0, [(1, 12)]), (16, 192, [(4, 65), (1, 9), (1, 11), (1, 13)]), (17, 933, [(5, 0), (4, 0), (4, 65), (1, 0)])] (by decide +kernel) rfl rfl (by decide) (fun i' dl as M' hi _ h => ?_) ?_
  · obtain ⟨rfl, rfl, g1, g2⟩ := h
    obtain rfl : [0, 1, 2, 3] = dl := Option.some.inj hi
    exact nx M' g1 g2
  · refine d_ib (d_sc (hx 1 (by decide)) (d_ib (d_sc (hx 2 (by decide)) (d_ib (d_sc (hx 3 (by decide)) (d_ca ⟨70, by decide, (hp M hT hP).mono fun v1 M1 q1 _ _ _ => ?_⟩))))))
    obtain ⟨t1, w2⟩ := q1
    exact d_ib (d_sc (hx 1 (by decide)) (d_ib (d_sc (hx 2 (by decide)) (d_ib (d_sc (hx 3 (by decide)) (d_ca ⟨60, by decide, w2.mono fun v2 M2 q2 _ _ _ => d_ct ⟨rfl, rfl, q2.1, q2.2.1⟩⟩))))))
theorem law_30 {X : Xs} {P : Mm → Prop} {i : Int} {M : Mm} {Q : Option V → Mm → Prop} (hx : ∀ c : Int, 0 ≤ c ∧ c ≤ 6 → 0 ≤ ib 0 i c ∧ ib 0 i c < X.1) (hT : okTT M) (hP : P M) (hp : Pr X P 112 70 193 60 [vI (X.2 (ib 0 i 1).toNat)] False) (nx : ∀ M', okTT M' → P M' → Wp X 120 0 933 ([0, 1, 2, 3].zip (l4 i)) [] M' Q) : Wp X 120 0 916 ([0, 1, 2, 3].zip (l4 i)) [] M Q := by
  refine Wp_seg (cut := cutL cutLaw) (CT := fun i' as M' => i' = 933 ∧ as = l4 i ∧ okTT M' ∧ P M') 1 60 [(5, 0), (4, 0), (4, 65), (1, 0)] (us (fun _ => 0) 0 i) [(0, 0, [(1, 0), (0, 1)]), (6, 0, [(1, 1)]), (16, 112, [(4, 0), (1, 2)]), (0, 0, [(1, 0), (0, 1)]), (6, 0, [(1, 4)]), (16, 193, [(4, 65), (1, 5)]), (17, 933, [(5, 0), (4, 0), (4, 65), (1, 0)])] (by decide +kernel) rfl rfl (by decide) (fun i' dl as M' hi _ h => ?_) ?_
  · obtain ⟨rfl, rfl, g1, g2⟩ := h
    obtain rfl : [0, 1, 2, 3] = dl := Option.some.inj hi
    exact nx M' g1 g2
  · refine d_ib (d_sc (hx 1 (by decide)) (d_ca ⟨70, by decide, (hp M hT hP).mono fun v1 M1 q1 _ _ _ => ?_⟩))
    obtain ⟨t1, w2⟩ := q1
    exact d_ib (d_sc (hx 1 (by decide)) (d_ca ⟨60, by decide, w2.mono fun v2 M2 q2 _ _ _ => d_ct ⟨rfl, rfl, q2.1, q2.2.1⟩⟩))
