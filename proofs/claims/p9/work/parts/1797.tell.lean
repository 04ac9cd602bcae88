/-! tell -/
def W165 : Wl := [(65, 29), (86, 0), (87, 0), (88, 0), (89, 0), (90, 0)]
def TE (M : Mm) (p c : Int) (M' : Mm) : Prop := okTT M' ∧ FrM W165 M M' ∧ M' 65 28 = M 65 28 + 1 ∧ (∀ j : Nat, M' 86 j = if (j : Int) = M 65 28 then p else M 86 j) ∧ (∀ j : Nat, M' 87 j = if (j : Int) = M 65 28 then c else M 87 j) ∧ ∀ j : Nat, M' 88 j = if (j : Int) = M 65 28 then M 65 0 else M 88 j
def te4 (M : Mm) (p c : Int) : Mm := up (up (up (up M 86 (M 65 28).toNat p) 87 (M 65 28).toNat c) 88 (M 65 28).toNat (M 65 0)) 89 (M 65 28).toNat 0
theorem te_fin {M M2 : Mm} {p c r : Int} (hT : okTT M) (hD : M 65 28 ≤ 119) (hp : -1 ≤ p ∧ p ≤ 29) (hc : 0 ≤ c ∧ c ≤ 19) (hr : 0 ≤ r ∧ r ≤ 3) (h2 : ∀ a b, M2 a b = te4 M p c a b) : TE M p c (up (up M2 90 (M 65 28).toNat r) 65 28 (M 65 28 + 1)) := by
  have e : M2 = te4 M p c := funext fun a => funext fun b => h2 a b
  subst e
  have b : 0 ≤ M 65 28 ∧ M 65 28 ≤ 120 := hT 65 28
  have n : 0 ≤ M 65 0 ∧ M 65 0 ≤ 9000 := hT 65 0
  refine ⟨okTT_up (okTT_up (okTT_up (okTT_up (okTT_up (okTT_up hT ?_) ?_) ?_) ?_) ?_) ?_, FrM_up (FrM_up (FrM_up (FrM_up (FrM_up (FrM_up (fun _ _ _ => rfl) (wOf_a rfl)) (wOf_a rfl)) (wOf_a rfl)) (wOf_a rfl)) (wOf_a rfl)) rfl, rfl, fun j => ?_, fun j => ?_, fun j => ?_⟩
  · rw [tiv_a (i := (-1, 29)) rfl]; exact hp
  · rw [tiv_a (i := (0, 19)) rfl]; exact hc
  · rw [tiv_a (i := (0, 9000)) rfl]; exact n
  · rw [tiv_a (i := (0, 1)) rfl]; decide
  · rw [tiv_a (i := (0, 3)) rfl]; exact hr
  · show 0 ≤ M 65 28 + 1 ∧ M 65 28 + 1 ≤ 120
    omega
  · show (if 86 = 86 ∧ j = (M 65 28).toNat then p else M 86 j) = _
    by_cases q : (j : Int) = M 65 28
    · rw [if_pos ⟨rfl, by omega⟩, if_pos q]
    · rw [if_neg (by omega), if_neg q]
  · show (if 87 = 87 ∧ j = (M 65 28).toNat then c else M 87 j) = _
    by_cases q : (j : Int) = M 65 28
    · rw [if_pos ⟨rfl, by omega⟩, if_pos q]
    · rw [if_neg (by omega), if_neg q]
  · show (if 88 = 88 ∧ j = (M 65 28).toNat then M 65 0 else M 88 j) = _
    by_cases q : (j : Int) = M 65 28
    · rw [if_pos ⟨rfl, by omega⟩, if_pos q]
    · rw [if_neg (by omega), if_neg q]
theorem te4_T {M : Mm} {p c : Int} (hT : okTT M) (hp : -1 ≤ p ∧ p ≤ 29) (hc : 0 ≤ c ∧ c ≤ 19) : okTT (te4 M p c) := by
  have n : 0 ≤ M 65 0 ∧ M 65 0 ≤ 9000 := hT 65 0
  refine okTT_up (okTT_up (okTT_up (okTT_up hT ?_) ?_) ?_) ?_
  · rw [tiv_a (i := (-1, 29)) rfl]; exact hp
  · rw [tiv_a (i := (0, 19)) rfl]; exact hc
  · rw [tiv_a (i := (0, 9000)) rfl]; exact n
  · rw [tiv_a (i := (0, 1)) rfl]; decide
theorem rb126 : rb 126 = 1 := by decide +kernel
theorem mR126 : mR 126 ≠ none := by decide +kernel
theorem tell_m {X : Xs} {M : Mm} {p c : Int} (hT : okTT M) (hD : M 65 28 ≤ 119) (hp : -1 ≤ p ∧ p ≤ 29) (hc : 0 ≤ c ∧ c ≤ 19) : Wp X 20 165 0 (eL 0 [vR 0 65, vI p, vI c]) [] M (fun v M' => v = none ∧ TE M p c M') := by
  have b : 0 ≤ M 65 28 ∧ M 65 28 ≤ 120 := hT 65 28
  have n : 0 ≤ M 65 0 ∧ M 65 0 ≤ 9000 := hT 65 0
  have e1 : ib 0 (M 65 28) 1 = M 65 28 + 1 := ib0 (by unfold in32; omega)
  refine Wp_den 2 60 [(4, 65), (1, 0), (1, 1)] (us (us (fun _ => 0) 0 p) 1 c) [(4, 65, [(0, 28)]), (11, 86, [(1, 2), (1, 0)]), (4, 65, [(0, 28)]), (11, 87, [(1, 3), (1, 1)]), (4, 65, [(0, 28)]), (4, 65, [(0, 0)]), (11, 88, [(1, 4), (1, 5)]), (4, 65, [(0, 28)]), (12, 0, [(0, 0)]), (11, 89, [(1, 6), (0, 0)]), (4, 65, [(0, 28)]), (15, 3, [(1, 0), (0, 0), (0, 7)]), (4, 65, [(0, 0)]), (16, 126, [(4, 65), (1, 0), (1, 8)]), (11, 90, [(1, 7), (1, 9)]), (4, 65, [(0, 28)]), (0, 0, [(1, 10), (0, 1)]), (10, 65, [(0, 28), (1, 11)]), (18, 0, []), (11, 90, [(1, 7), (0, 0)]), (4, 65, [(0, 28)]), (0, 0, [(1, 8), (0, 1)]), (10, 65, [(0, 28), (1, 9)]), (18, 0, [])] (by decide +kernel) rfl rfl (by decide) ?_
  have ix : 0 ≤ M 65 28 ∧ M 65 28 < ((120 : Nat) : Int) := by omega
  refine d_ld fun _ => d_sa ix (d_ld fun _ => d_sa ix (d_ld fun _ => d_ld fun _ => d_sa ix (d_ld fun _ => d_bo (Or.inl rfl) (d_sa ix (d_ld fun _ => d_br (fun h => d_ld fun _ => ?_) fun h => ?_)))))
  · have h : 0 ≤ p := h
    refine d_ca ⟨10, by decide, (ok126_0 X [vR 0 65, vI p, vI (M 65 0)] (te4 M p c) ⟨rfl, ⟨p, rfl, h, hp.2⟩, ⟨_, rfl, n.1, n.2⟩, trivial⟩ (te4_T hT hp hc) trivial).mono fun v M2 q hro _ _ => ?_⟩
    obtain ⟨q1, q2, ⟨o, ho, h3, -⟩, -⟩ := q
    obtain ⟨x, hx⟩ := ret_some hro mR126
    obtain rfl := List.mem_singleton.mp ho
    have h3 : 0 ≤ oz v ∧ oz v ≤ 3 := h3 x hx
    have q2 : FrM [] (te4 M p c) M2 := q2
    have e2 : ∀ a b, M2 a b = te4 M p c a b := fun a b => q2 a b rfl
    have e3 : M2 65 28 = M 65 28 := e2 65 28
    rw [rb126]
    refine d_sa ix (d_ld fun _ => d_ib (d_st (d_r0 ⟨rfl, ?_⟩)))
    show TE M p c (up (up M2 90 (M 65 28).toNat (oz v)) 65 28 (ib 0 (M2 65 28) 1))
    rw [e3, e1]
    exact te_fin hT hD hp hc h3 e2
  · refine d_sa ix (d_ld fun _ => d_ib (d_st (d_r0 ⟨rfl, ?_⟩)))
    show TE M p c (up (up (te4 M p c) 90 (M 65 28).toNat 0) 65 28 (ib 0 (M 65 28) 1))
    rw [e1]
    exact te_fin hT hD hp hc (by decide) (fun _ _ => rfl)
