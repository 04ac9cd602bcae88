/-! what both sides hold alike -/
theorem Wp.retd {X : Xs} {d k i : Nat} {L : List (Nat × V)} {S : List V} {M : Mm} {Q : Option V → Mm → Prop} (h : Wp X d k i L S M (fun v M' => retOK (mR k) v → (∀ x, v = some x → rV x) → Q v M')) : Wp X d k i L S M Q := by
  intro p l e R s m args below meth c g A cells slots QQ C hr hk
  exact h p l e R s m args below meth c g A cells slots QQ C hr (fun i' ls' v M' H' locs' h1 h2 h3 h4 => hk i' ls' v M' H' locs' h1 (h2 h3 h4) h3 h4)
def CR (M : Mm) : Prop := ∀ k : Nat, (k : Int) < M 1 11 → M 9 k = M 73 (3 * k) ∧ M 11 k = M 73 (3 * k + 1) ∧ M 10 k = M 73 (3 * k + 2) ∧ M 11 k ≤ M 0 10 ∧ ∀ l : Nat, l ≤ k → M 11 l ≤ M 11 k
theorem CR_same {M M' : Mm} (h : CR M) (h1 : M' 1 11 = M 1 11) (h2 : ∀ i : Nat, M' 9 i = M 9 i) (h3 : ∀ i : Nat, M' 10 i = M 10 i) (h4 : ∀ i : Nat, M' 11 i = M 11 i) (h5 : ∀ i : Nat, M' 73 i = M 73 i) (h6 : M 0 10 ≤ M' 0 10) : CR M' := by
  intro k hk
  rw [h1] at hk
  obtain ⟨a1, a2, a3, a4, a5⟩ := h k hk
  rw [h2, h3, h4, h5, h5, h5]
  exact ⟨a1, a2, a3, by omega, fun l hl => by rw [h4]; exact a5 l hl⟩
def CF (M : Mm) : Prop := ∀ k : Nat, (k : Int) < M 12 4 → (M 13 k = M 74 (4 * k) ∧ M 14 k = M 74 (4 * k + 1) ∧ M 15 k = M 74 (4 * k + 2) ∧ M 16 k = M 74 (4 * k + 3)) ∧ (M 15 k ≤ M 0 10 ∧ M 16 k ≤ M 0 10) ∧ ∀ l : Nat, (l : Int) < M 12 4 → M 16 k = -1 → M 16 l = -1 → ((M 13 k = M 13 l ∧ M 14 k = M 14 l) ∨ (M 13 k = M 14 l ∧ M 14 k = M 13 l)) → k = l
theorem CF_same {M M' : Mm} (h : CF M) (h1 : M' 12 4 = M 12 4) (h2 : ∀ i : Nat, M' 13 i = M 13 i) (h3 : ∀ i : Nat, M' 14 i = M 14 i) (h4 : ∀ i : Nat, M' 15 i = M 15 i) (h5 : ∀ i : Nat, M' 16 i = M 16 i) (h7 : ∀ i : Nat, M' 74 i = M 74 i) (h6 : M 0 10 ≤ M' 0 10) : CF M' := by
  intro k hk
  rw [h1] at hk
  obtain ⟨a, ⟨b1, b2⟩, c⟩ := h k hk
  rw [h2, h3, h4, h5, h7, h7, h7, h7]
  refine ⟨a, ⟨by omega, by omega⟩, fun l hl => ?_⟩
  rw [h1] at hl
  rw [h5 l, h2 l, h3 l]
  exact c l hl
theorem cXM {M M1 : Mm} (hT : okTT M) (h7 : ∀ i : Nat, M1 74 i = M 74 i) (hF : CF M) {k : Nat} (hk : (k : Int) < M 12 4) {a b : Int} : cX M a b k ↔ cM M1 a b (M 0 10) k := by
  obtain ⟨⟨a1, a2, a3, a4⟩, ⟨b1, b2⟩, -⟩ := hF k hk
  have b16 : (-1 : Int) ≤ M 16 k ∧ M 16 k ≤ 9000 := by
    have := hT 16 k
    rw [tiv_a (i := (-1, 9000)) rfl] at this
    exact this
  unfold cX cM
  rw [h7, h7, h7, h7, ← a1, ← a2, ← a3, ← a4]
  exact ⟨fun ⟨g1, g2⟩ => ⟨g2, b1, Or.inl (by omega)⟩, fun ⟨g1, g2, g3⟩ => ⟨by omega, g1⟩⟩
def CK (M : Mm) : Prop := TBn (fun k => M 5 k) (fun k => M 6 k) (tbM M) (M 1 10).toNat
theorem CK_same {M M' : Mm} (h : CK M) (h1 : M' 1 10 = M 1 10) (h2 : ∀ i : Nat, M' 5 i = M 5 i) (h3 : ∀ i : Nat, M' 6 i = M 6 i) (h4 : ∀ i : Nat, M' 18 i = M 18 i) : CK M' := by
  have e1 : (fun k : Nat => M' 5 k) = fun k => M 5 k := funext fun k => h2 k
  have e2 : (fun k : Nat => M' 6 k) = fun k => M 6 k := funext fun k => h3 k
  have e3 : tbM M' = tbM M := funext fun a => funext fun b => h4 _
  unfold CK
  rw [e1, e2, e3, h1]
  exact h
theorem CK_new {M M' : Mm} {d e : Int} (h : CK M) (hS : 0 ≤ M 1 10 ∧ M 1 10 < 30) (hd : -1 ≤ d ∧ d < M 1 10) (he : -1 ≤ e ∧ e < M 1 10) (h1 : M' 1 10 = M 1 10 + 1) (h5 : ∀ i : Nat, M' 5 i = if i = (M 1 10).toNat then d else M 5 i) (h6 : ∀ i : Nat, M' 6 i = if i = (M 1 10).toNat then e else M 6 i) (h18 : ∀ i : Nat, M' 18 i = rowV M (M 1 10).toNat d e i) : CK M' := by
  have eT : ∀ a q : Nat, a < (M 1 10).toNat → q < 30 → tbM M' a q = tbM M a q := fun a q ha hq => by
    show M' 18 (30 * a + q) = M 18 (30 * a + q)
    rw [h18]
    unfold rowV
    rw [if_neg (by omega)]
  have ev : ∀ x : Int, x < M 1 10 → ∀ q : Nat, q < 30 → viT (tbM M') x q = viT (tbM M) x q := fun x hx q hq => by
    unfold viT
    by_cases x0 : x < 0
    · rw [if_pos x0, if_pos x0]
    · rw [if_neg x0, if_neg x0]
      exact eT _ _ (by omega) hq
  intro p hp
  rw [h1] at hp
  by_cases q0 : p = (M 1 10).toNat
  · have f5 : M' 5 p = d := by rw [h5, if_pos q0]
    have f6 : M' 6 p = e := by rw [h6, if_pos q0]
    dsimp only
    rw [f5, f6]
    refine ⟨by omega, by omega, ?_, fun q hq hne => ?_⟩
    · show M' 18 (30 * p + p) = 0
      rw [h18]
      unfold rowV
      rw [if_pos (by omega), if_pos (by omega)]
    · rw [ev d hd.2 q hq, ev e he.2 q hq]
      show M' 18 (30 * p + q) = _
      rw [h18]
      unfold rowV
      rw [if_pos (by omega), if_neg (by omega), show 30 * p + q - 30 * (M 1 10).toNat = q by omega]
  · have f5 : M' 5 p = M 5 p := by rw [h5, if_neg q0]
    have f6 : M' 6 p = M 6 p := by rw [h6, if_neg q0]
    obtain ⟨a1, a2, a3, a4⟩ := h p (by omega)
    dsimp only at a1 a2 a4 ⊢
    rw [f5, f6]
    refine ⟨a1, a2, (eT p p (by omega) (by omega)).trans a3, fun q hq hne => ?_⟩
    rw [eT p q (by omega) hq, ev _ (by omega) q hq, ev _ (by omega) q hq]
    exact a4 q hq hne
def PJ (M : Mm) : Prop := JM M ∧ M 0 10 = M 65 0 ∧ M 1 10 = M 65 1 ∧ M 27 14 = M 65 21 ∧ M 22 2 = M 65 14 ∧ M 52 13 = M 65 37 ∧ M 1 11 = M 65 9 ∧ M 12 4 = M 65 11 ∧ (∀ i : Nat, M 2 i = M 66 i) ∧ (∀ i : Nat, M 3 i = M 67 i) ∧ (∀ i : Nat, M 4 i = M 68 i) ∧ (∀ i : Nat, M 5 i = M 69 i) ∧ (∀ i : Nat, M 6 i = M 70 i) ∧ (∀ i : Nat, M 7 i = M 71 i) ∧ (∀ i : Nat, M 8 i = M 72 i) ∧ CR M ∧ CF M ∧ CK M
def kjS : List (Nat × Nat) := [(0, 10), (65, 0), (1, 10), (65, 1), (27, 14), (65, 21), (22, 2), (65, 14), (52, 13), (65, 37), (1, 11), (65, 9), (12, 4), (65, 11), (65, 28), (65, 34)]
def kjR : List Nat := [2, 66, 3, 67, 4, 68, 5, 69, 6, 70, 7, 71, 8, 72, 86, 87, 88, 9, 10, 11, 73, 13, 14, 15, 16, 74, 18]
def kjW (W : Wl) : Bool := kjS.all (fun q => !(wOf W q.1 q.2)) && kjR.all (fun a => W.all (fun q => !(Nat.beq q.1 a)))
theorem bnf {b : Bool} (h : (!b) = true) : b = false := by cases b with
  | false => rfl
  | true => cases h
theorem kp_s {W : Wl} {M M' : Mm} (hw : kjW W = true) (h : FrM W M M') {j s : Nat} (hm : (j, s) ∈ kjS) : M' j s = M j s := by
  unfold kjW at hw
  rw [Bool.and_eq_true] at hw
  exact h j s (bnf (List.all_eq_true.mp hw.1 (j, s) hm))
theorem kp_r {W : Wl} {M M' : Mm} (hw : kjW W = true) (h : FrM W M M') {a : Nat} (hm : a ∈ kjR) (i : Nat) : M' a i = M a i := by
  unfold kjW at hw
  rw [Bool.and_eq_true] at hw
  exact h a i (wOf_no (List.all_eq_true.mp hw.2 a hm) i)
theorem PJ_fr {W : Wl} {M M' : Mm} (hw : kjW W = true) (h : FrM W M M') (hP : PJ M) : PJ M' := by
  obtain ⟨hJ, h_now, h_siz, h_chg, h_len, h_bnd, h_rkn, h_fds, h_a2, h_a3, h_a4, h_a5, h_a6, h_a7, h_a8, h_cr, h_cf, h_ck⟩ := hP
  refine ⟨JM_same hJ (kp_s hw h (by decide)) (kp_r hw h (by decide)) (kp_r hw h (by decide)) (kp_r hw h (by decide)) (kp_s hw h (by decide)) (by rw [kp_s hw h (j := 65) (s := 0) (by decide)]; exact Int.le_refl _), ?_, ?_, ?_, ?_, ?_, ?_, ?_, ?_, ?_, ?_, ?_, ?_, ?_, ?_, ?_, ?_, ?_⟩
  · rw [kp_s hw h (j := 0) (s := 10) (by decide), kp_s hw h (j := 65) (s := 0) (by decide)]; exact h_now
  · rw [kp_s hw h (j := 1) (s := 10) (by decide), kp_s hw h (j := 65) (s := 1) (by decide)]; exact h_siz
  · rw [kp_s hw h (j := 27) (s := 14) (by decide), kp_s hw h (j := 65) (s := 21) (by decide)]; exact h_chg
  · rw [kp_s hw h (j := 22) (s := 2) (by decide), kp_s hw h (j := 65) (s := 14) (by decide)]; exact h_len
  · rw [kp_s hw h (j := 52) (s := 13) (by decide), kp_s hw h (j := 65) (s := 37) (by decide)]; exact h_bnd
  · rw [kp_s hw h (j := 1) (s := 11) (by decide), kp_s hw h (j := 65) (s := 9) (by decide)]; exact h_rkn
  · rw [kp_s hw h (j := 12) (s := 4) (by decide), kp_s hw h (j := 65) (s := 11) (by decide)]; exact h_fds
  · intro i; rw [kp_r hw h (a := 2) (by decide), kp_r hw h (a := 66) (by decide)]; exact h_a2 i
  · intro i; rw [kp_r hw h (a := 3) (by decide), kp_r hw h (a := 67) (by decide)]; exact h_a3 i
  · intro i; rw [kp_r hw h (a := 4) (by decide), kp_r hw h (a := 68) (by decide)]; exact h_a4 i
  · intro i; rw [kp_r hw h (a := 5) (by decide), kp_r hw h (a := 69) (by decide)]; exact h_a5 i
  · intro i; rw [kp_r hw h (a := 6) (by decide), kp_r hw h (a := 70) (by decide)]; exact h_a6 i
  · intro i; rw [kp_r hw h (a := 7) (by decide), kp_r hw h (a := 71) (by decide)]; exact h_a7 i
  · intro i; rw [kp_r hw h (a := 8) (by decide), kp_r hw h (a := 72) (by decide)]; exact h_a8 i
  · exact CR_same h_cr (kp_s hw h (by decide)) (kp_r hw h (by decide)) (kp_r hw h (by decide)) (kp_r hw h (by decide)) (kp_r hw h (by decide)) (by rw [kp_s hw h (j := 0) (s := 10) (by decide)]; exact Int.le_refl _)
  · exact CF_same h_cf (kp_s hw h (by decide)) (kp_r hw h (by decide)) (kp_r hw h (by decide)) (kp_r hw h (by decide)) (kp_r hw h (by decide)) (kp_r hw h (by decide)) (by rw [kp_s hw h (j := 0) (s := 10) (by decide)]; exact Int.le_refl _)
  · exact CK_same h_ck (kp_s hw h (by decide)) (kp_r hw h (by decide)) (kp_r hw h (by decide)) (kp_r hw h (by decide))
/-- a method of either side with the same words, one behind the other -/
def Pr (X : Xs) (P : Mm → Prop) (k1 d1 k2 d2 : Nat) (as : List V) (E : Prop) : Prop := ∀ M, okTT M → P M → Wp X d1 k1 0 (eL 0 (vR 0 0 :: as)) [] M (fun v1 M1 => okTT M1 ∧ Wp X d2 k2 0 (eL 0 (vR 0 65 :: as)) [] M1 (fun v2 M2 => okTT M2 ∧ P M2 ∧ (E → oz v1 = oz v2)))
theorem pr_fr {X : Xs} {sp1 sp2 : Spec} (h1 : SpecOK X sp1) (h2 : SpecOK X sp2) (w1 : kjW sp1.2.2.2.1 = true) (w2 : kjW sp2.2.2.2.1 = true) (as : List V) (p1 : patsV sp1.2.1 (vR 0 0 :: as)) (p2 : patsV sp2.2.1 (vR 0 65 :: as)) : Pr X PJ sp1.1 sp1.2.2.2.2 sp2.1 sp2.2.2.2.2 as False := fun M hT hP =>
  (h1 _ M p1 hT trivial).mono fun v1 M1 q1 => ⟨q1.1, (h2 _ M1 p2 q1.1 trivial).mono fun v2 M2 q2 => ⟨q2.1, PJ_fr w2 q2.2.1 (PJ_fr w1 q1.2.1 hP), fun h => h.elim⟩⟩
theorem pr_person {X : Xs} {a b c d e f : Int} : Pr X PJ 82 30 125 30 [vI a, vI b, vI c, vI d, vI e, vI f] True := by
  intro M hT hP
  obtain ⟨hJ, h_now, h_siz, h_chg, h_len, h_bnd, h_rkn, h_fds, h_a2, h_a3, h_a4, h_a5, h_a6, h_a7, h_a8, h_cr, h_cf, h_ck⟩ := hP
  refine (px82k (a := a) (b := b) (c := c) (d := d) (e := e) (f := f) (hTB := h_ck) hT).mono fun v1 M1 q1 => ⟨q1.1, (px125 (a := a) (b := b) (c := c) (d := d) (e := e) (f := f) q1.1).mono fun v2 M2 q2 => ?_⟩
  obtain ⟨t1, f1, x1⟩ := q1
  obtain ⟨t2, f2, x2⟩ := q2
  rw [f1 65 1 (by decide), f1 65 0 (by decide), ← h_siz, ← h_now] at x2
  obtain ⟨ev, er⟩ := qper_eq x1 x2
  refine ⟨t2, ?_, fun _ => by rw [ev]⟩
  rcases er with ⟨rfl, rfl⟩ | ⟨s1, s2⟩
  · exact ⟨hJ, h_now, h_siz, h_chg, h_len, h_bnd, h_rkn, h_fds, h_a2, h_a3, h_a4, h_a5, h_a6, h_a7, h_a8, h_cr, h_cf, h_ck⟩
  refine ⟨JM_same hJ (by rw [f2 65 28 (by decide), f1 65 28 (by decide)]) (fun i => by rw [f2 86 i (wOf_no rfl i), f1 86 i (wOf_no rfl i)]) (fun i => by rw [f2 87 i (wOf_no rfl i), f1 87 i (wOf_no rfl i)]) (fun i => by rw [f2 88 i (wOf_no rfl i), f1 88 i (wOf_no rfl i)]) (by rw [f2 65 34 (by decide), f1 65 34 (by decide)]) (by rw [f2 65 0 (by decide), f1 65 0 (by decide)]; exact Int.le_refl _), ?_, ?_, ?_, ?_, ?_, ?_, ?_, ?_, ?_, ?_, ?_, ?_, ?_, ?_, ?_, ?_, ?_⟩
  · rw [f2 0 10 (by decide), f1 0 10 (by decide), f2 65 0 (by decide), f1 65 0 (by decide)]; exact h_now
  · rw [f2 1 10 (by decide), s1.1, s2.1]
  · rw [f2 27 14 (by decide), f1 27 14 (by decide), f2 65 21 (by decide), f1 65 21 (by decide)]; exact h_chg
  · rw [f2 22 2 (by decide), f1 22 2 (by decide), f2 65 14 (by decide), f1 65 14 (by decide)]; exact h_len
  · rw [f2 52 13 (by decide), f1 52 13 (by decide), f2 65 37 (by decide), f1 65 37 (by decide)]; exact h_bnd
  · rw [f2 1 11 (by decide), f1 1 11 (by decide), f2 65 9 (by decide), f1 65 9 (by decide)]; exact h_rkn
  · rw [f2 12 4 (by decide), f1 12 4 (by decide), f2 65 11 (by decide), f1 65 11 (by decide)]; exact h_fds
  · intro i; rw [f2 2 i (wOf_no rfl i), s1.2.2.1 i, s2.2.1 i, f1 66 i (wOf_no rfl i), h_a2 i]
  · intro i; rw [f2 3 i (wOf_no rfl i), s1.2.2.2.1 i, s2.2.2.1 i, f1 67 i (wOf_no rfl i), h_a3 i]
  · intro i; rw [f2 4 i (wOf_no rfl i), s1.2.2.2.2.1 i, s2.2.2.2.1 i, f1 68 i (wOf_no rfl i), h_a4 i]
  · intro i; rw [f2 5 i (wOf_no rfl i), s1.2.2.2.2.2.1 i, s2.2.2.2.2.1 i, f1 69 i (wOf_no rfl i), h_a5 i]
  · intro i; rw [f2 6 i (wOf_no rfl i), s1.2.2.2.2.2.2.1 i, s2.2.2.2.2.2.1 i, f1 70 i (wOf_no rfl i), h_a6 i]
  · intro i; rw [f2 7 i (wOf_no rfl i), s1.2.2.2.2.2.2.2.1 i, s2.2.2.2.2.2.2.1 i, f1 71 i (wOf_no rfl i), h_a7 i]
  · intro i; rw [f2 8 i (wOf_no rfl i), s1.2.2.2.2.2.2.2.2 i, s2.2.2.2.2.2.2.2 i, f1 72 i (wOf_no rfl i), h_a8 i]
  · exact CR_same h_cr (by rw [f2 1 11 (by decide), f1 1 11 (by decide)]) (fun i => by rw [f2 9 i (wOf_no rfl i), f1 9 i (wOf_no rfl i)]) (fun i => by rw [f2 10 i (wOf_no rfl i), f1 10 i (wOf_no rfl i)]) (fun i => by rw [f2 11 i (wOf_no rfl i), f1 11 i (wOf_no rfl i)]) (fun i => by rw [f2 73 i (wOf_no rfl i), f1 73 i (wOf_no rfl i)]) (by rw [f2 0 10 (by decide), f1 0 10 (by decide)]; exact Int.le_refl _)
  · exact CF_same h_cf (by rw [f2 12 4 (by decide), f1 12 4 (by decide)]) (fun i => by rw [f2 13 i (wOf_no rfl i), f1 13 i (wOf_no rfl i)]) (fun i => by rw [f2 14 i (wOf_no rfl i), f1 14 i (wOf_no rfl i)]) (fun i => by rw [f2 15 i (wOf_no rfl i), f1 15 i (wOf_no rfl i)]) (fun i => by rw [f2 16 i (wOf_no rfl i), f1 16 i (wOf_no rfl i)]) (fun i => by rw [f2 74 i (wOf_no rfl i), f1 74 i (wOf_no rfl i)]) (by rw [f2 0 10 (by decide), f1 0 10 (by decide)]; exact Int.le_refl _)
  · exact CK_same (CK_new h_ck (by have b0 : 0 ≤ M 1 10 ∧ M 1 10 ≤ 30 := hT 1 10; have b1 : 0 ≤ M1 1 10 ∧ M1 1 10 ≤ 30 := t1 1 10; have := s1.1; omega) s1.2.1.1 s1.2.1.2.1 s1.1 s1.2.2.2.2.2.1 s1.2.2.2.2.2.2.1 s1.2.1.2.2) (f2 1 10 (by decide)) (fun i => f2 5 i (wOf_no rfl i)) (fun i => f2 6 i (wOf_no rfl i)) (fun i => f2 18 i (wOf_no rfl i))
theorem pr_die {X : Xs} {p : Int} : Pr X PJ 84 30 128 30 [vI p] True := by
  intro M hT hP
  obtain ⟨hJ, h_now, h_siz, h_chg, h_len, h_bnd, h_rkn, h_fds, h_a2, h_a3, h_a4, h_a5, h_a6, h_a7, h_a8, h_cr, h_cf, h_ck⟩ := hP
  refine (px84 (p := p) hT).mono fun v1 M1 q1 => ⟨q1.1, (px128 (p := p) q1.1).mono fun v2 M2 q2 => ?_⟩
  obtain ⟨t1, f1, x1⟩ := q1
  obtain ⟨t2, f2, x2⟩ := q2
  rw [f1 65 1 (by decide), f1 72 p.toNat (wOf_no rfl _), ← h_siz, ← h_a8] at x2
  obtain ⟨ev, er⟩ := qdie_eq x1 x2
  refine ⟨t2, ?_, fun _ => by rw [ev]⟩
  rcases er with ⟨rfl, rfl⟩ | ⟨s1, s2⟩
  · exact ⟨hJ, h_now, h_siz, h_chg, h_len, h_bnd, h_rkn, h_fds, h_a2, h_a3, h_a4, h_a5, h_a6, h_a7, h_a8, h_cr, h_cf, h_ck⟩
  refine ⟨JM_same hJ (by rw [f2 65 28 (by decide), f1 65 28 (by decide)]) (fun i => by rw [f2 86 i (wOf_no rfl i), f1 86 i (wOf_no rfl i)]) (fun i => by rw [f2 87 i (wOf_no rfl i), f1 87 i (wOf_no rfl i)]) (fun i => by rw [f2 88 i (wOf_no rfl i), f1 88 i (wOf_no rfl i)]) (by rw [f2 65 34 (by decide), f1 65 34 (by decide)]) (by rw [f2 65 0 (by decide), f1 65 0 (by decide)]; exact Int.le_refl _), ?_, ?_, ?_, ?_, ?_, ?_, ?_, ?_, ?_, ?_, ?_, ?_, ?_, ?_, ?_, ?_, ?_⟩
  · rw [f2 0 10 (by decide), f1 0 10 (by decide), f2 65 0 (by decide), f1 65 0 (by decide)]; exact h_now
  · rw [f2 1 10 (by decide), f1 1 10 (by decide), f2 65 1 (by decide), f1 65 1 (by decide)]; exact h_siz
  · rw [f2 27 14 (by decide), f1 27 14 (by decide), f2 65 21 (by decide), f1 65 21 (by decide)]; exact h_chg
  · rw [f2 22 2 (by decide), f1 22 2 (by decide), f2 65 14 (by decide), f1 65 14 (by decide)]; exact h_len
  · rw [f2 52 13 (by decide), f1 52 13 (by decide), f2 65 37 (by decide), f1 65 37 (by decide)]; exact h_bnd
  · rw [f2 1 11 (by decide), f1 1 11 (by decide), f2 65 9 (by decide), f1 65 9 (by decide)]; exact h_rkn
  · rw [f2 12 4 (by decide), f1 12 4 (by decide), f2 65 11 (by decide), f1 65 11 (by decide)]; exact h_fds
  · intro i; rw [f2 2 i (wOf_no rfl i), f1 2 i (wOf_no rfl i), f2 66 i (wOf_no rfl i), f1 66 i (wOf_no rfl i)]; exact h_a2 i
  · intro i; rw [f2 3 i (wOf_no rfl i), f1 3 i (wOf_no rfl i), f2 67 i (wOf_no rfl i), f1 67 i (wOf_no rfl i)]; exact h_a3 i
  · intro i; rw [f2 4 i (wOf_no rfl i), f1 4 i (wOf_no rfl i), f2 68 i (wOf_no rfl i), f1 68 i (wOf_no rfl i)]; exact h_a4 i
  · intro i; rw [f2 5 i (wOf_no rfl i), f1 5 i (wOf_no rfl i), f2 69 i (wOf_no rfl i), f1 69 i (wOf_no rfl i)]; exact h_a5 i
  · intro i; rw [f2 6 i (wOf_no rfl i), f1 6 i (wOf_no rfl i), f2 70 i (wOf_no rfl i), f1 70 i (wOf_no rfl i)]; exact h_a6 i
  · intro i; rw [f2 7 i (wOf_no rfl i), f1 7 i (wOf_no rfl i), f2 71 i (wOf_no rfl i), f1 71 i (wOf_no rfl i)]; exact h_a7 i
  · intro i; rw [f2 8 i (wOf_no rfl i), s1 i, s2 i, f1 72 i (wOf_no rfl i), f1 65 0 (by decide), h_now, h_a8 i]
  · exact CR_same h_cr (by rw [f2 1 11 (by decide), f1 1 11 (by decide)]) (fun i => by rw [f2 9 i (wOf_no rfl i), f1 9 i (wOf_no rfl i)]) (fun i => by rw [f2 10 i (wOf_no rfl i), f1 10 i (wOf_no rfl i)]) (fun i => by rw [f2 11 i (wOf_no rfl i), f1 11 i (wOf_no rfl i)]) (fun i => by rw [f2 73 i (wOf_no rfl i), f1 73 i (wOf_no rfl i)]) (by rw [f2 0 10 (by decide), f1 0 10 (by decide)]; exact Int.le_refl _)
  · exact CF_same h_cf (by rw [f2 12 4 (by decide), f1 12 4 (by decide)]) (fun i => by rw [f2 13 i (wOf_no rfl i), f1 13 i (wOf_no rfl i)]) (fun i => by rw [f2 14 i (wOf_no rfl i), f1 14 i (wOf_no rfl i)]) (fun i => by rw [f2 15 i (wOf_no rfl i), f1 15 i (wOf_no rfl i)]) (fun i => by rw [f2 16 i (wOf_no rfl i), f1 16 i (wOf_no rfl i)]) (fun i => by rw [f2 74 i (wOf_no rfl i), f1 74 i (wOf_no rfl i)]) (by rw [f2 0 10 (by decide), f1 0 10 (by decide)]; exact Int.le_refl _)
  · exact CK_same h_ck (by rw [f2 1 10 (by decide), f1 1 10 (by decide)]) (fun i => by rw [f2 5 i (wOf_no rfl i), f1 5 i (wOf_no rfl i)]) (fun i => by rw [f2 6 i (wOf_no rfl i), f1 6 i (wOf_no rfl i)]) (fun i => by rw [f2 18 i (wOf_no rfl i), f1 18 i (wOf_no rfl i)])
theorem pr_charge {X : Xs} {a b c d : Int} : Pr X PJ 94 30 154 30 [vI a, vI b, vI c, vI d] True := by
  intro M hT hP
  obtain ⟨hJ, h_now, h_siz, h_chg, h_len, h_bnd, h_rkn, h_fds, h_a2, h_a3, h_a4, h_a5, h_a6, h_a7, h_a8, h_cr, h_cf, h_ck⟩ := hP
  refine (px94 (a := a) (b := b) (c := c) (d := d) hT).mono fun v1 M1 q1 => ⟨q1.1, (px154 (a := a) (b := b) (c := c) (d := d) q1.1).mono fun v2 M2 q2 => ?_⟩
  obtain ⟨t1, f1, x1⟩ := q1
  obtain ⟨t2, f2, x2⟩ := q2
  rw [f1 65 1 (by decide), f1 65 0 (by decide), f1 65 21 (by decide), ← h_siz, ← h_now, ← h_chg] at x2
  obtain ⟨ev, er⟩ := qch_eq x1 x2
  refine ⟨t2, ?_, fun _ => by rw [ev]⟩
  rcases er with ⟨rfl, rfl⟩ | ⟨s1, s2⟩
  · exact ⟨hJ, h_now, h_siz, h_chg, h_len, h_bnd, h_rkn, h_fds, h_a2, h_a3, h_a4, h_a5, h_a6, h_a7, h_a8, h_cr, h_cf, h_ck⟩
  refine ⟨JM_same hJ (by rw [f2 65 28 (by decide), f1 65 28 (by decide)]) (fun i => by rw [f2 86 i (wOf_no rfl i), f1 86 i (wOf_no rfl i)]) (fun i => by rw [f2 87 i (wOf_no rfl i), f1 87 i (wOf_no rfl i)]) (fun i => by rw [f2 88 i (wOf_no rfl i), f1 88 i (wOf_no rfl i)]) (by rw [f2 65 34 (by decide), f1 65 34 (by decide)]) (by rw [f2 65 0 (by decide), f1 65 0 (by decide)]; exact Int.le_refl _), ?_, ?_, ?_, ?_, ?_, ?_, ?_, ?_, ?_, ?_, ?_, ?_, ?_, ?_, ?_, ?_, ?_⟩
  · rw [f2 0 10 (by decide), f1 0 10 (by decide), f2 65 0 (by decide), f1 65 0 (by decide)]; exact h_now
  · rw [f2 1 10 (by decide), f1 1 10 (by decide), f2 65 1 (by decide), f1 65 1 (by decide)]; exact h_siz
  · rw [f2 27 14 (by decide), s1, s2]
  · rw [f2 22 2 (by decide), f1 22 2 (by decide), f2 65 14 (by decide), f1 65 14 (by decide)]; exact h_len
  · rw [f2 52 13 (by decide), f1 52 13 (by decide), f2 65 37 (by decide), f1 65 37 (by decide)]; exact h_bnd
  · rw [f2 1 11 (by decide), f1 1 11 (by decide), f2 65 9 (by decide), f1 65 9 (by decide)]; exact h_rkn
  · rw [f2 12 4 (by decide), f1 12 4 (by decide), f2 65 11 (by decide), f1 65 11 (by decide)]; exact h_fds
  · intro i; rw [f2 2 i (wOf_no rfl i), f1 2 i (wOf_no rfl i), f2 66 i (wOf_no rfl i), f1 66 i (wOf_no rfl i)]; exact h_a2 i
  · intro i; rw [f2 3 i (wOf_no rfl i), f1 3 i (wOf_no rfl i), f2 67 i (wOf_no rfl i), f1 67 i (wOf_no rfl i)]; exact h_a3 i
  · intro i; rw [f2 4 i (wOf_no rfl i), f1 4 i (wOf_no rfl i), f2 68 i (wOf_no rfl i), f1 68 i (wOf_no rfl i)]; exact h_a4 i
  · intro i; rw [f2 5 i (wOf_no rfl i), f1 5 i (wOf_no rfl i), f2 69 i (wOf_no rfl i), f1 69 i (wOf_no rfl i)]; exact h_a5 i
  · intro i; rw [f2 6 i (wOf_no rfl i), f1 6 i (wOf_no rfl i), f2 70 i (wOf_no rfl i), f1 70 i (wOf_no rfl i)]; exact h_a6 i
  · intro i; rw [f2 7 i (wOf_no rfl i), f1 7 i (wOf_no rfl i), f2 71 i (wOf_no rfl i), f1 71 i (wOf_no rfl i)]; exact h_a7 i
  · intro i; rw [f2 8 i (wOf_no rfl i), f1 8 i (wOf_no rfl i), f2 72 i (wOf_no rfl i), f1 72 i (wOf_no rfl i)]; exact h_a8 i
  · exact CR_same h_cr (by rw [f2 1 11 (by decide), f1 1 11 (by decide)]) (fun i => by rw [f2 9 i (wOf_no rfl i), f1 9 i (wOf_no rfl i)]) (fun i => by rw [f2 10 i (wOf_no rfl i), f1 10 i (wOf_no rfl i)]) (fun i => by rw [f2 11 i (wOf_no rfl i), f1 11 i (wOf_no rfl i)]) (fun i => by rw [f2 73 i (wOf_no rfl i), f1 73 i (wOf_no rfl i)]) (by rw [f2 0 10 (by decide), f1 0 10 (by decide)]; exact Int.le_refl _)
  · exact CF_same h_cf (by rw [f2 12 4 (by decide), f1 12 4 (by decide)]) (fun i => by rw [f2 13 i (wOf_no rfl i), f1 13 i (wOf_no rfl i)]) (fun i => by rw [f2 14 i (wOf_no rfl i), f1 14 i (wOf_no rfl i)]) (fun i => by rw [f2 15 i (wOf_no rfl i), f1 15 i (wOf_no rfl i)]) (fun i => by rw [f2 16 i (wOf_no rfl i), f1 16 i (wOf_no rfl i)]) (fun i => by rw [f2 74 i (wOf_no rfl i), f1 74 i (wOf_no rfl i)]) (by rw [f2 0 10 (by decide), f1 0 10 (by decide)]; exact Int.le_refl _)
  · exact CK_same h_ck (by rw [f2 1 10 (by decide), f1 1 10 (by decide)]) (fun i => by rw [f2 5 i (wOf_no rfl i), f1 5 i (wOf_no rfl i)]) (fun i => by rw [f2 6 i (wOf_no rfl i), f1 6 i (wOf_no rfl i)]) (fun i => by rw [f2 18 i (wOf_no rfl i), f1 18 i (wOf_no rfl i)])
theorem pr_feed {X : Xs} {n b : Int} : Pr X PJ 90 30 138 30 [vI n, vL b] True := by
  intro M hT hP
  obtain ⟨hJ, h_now, h_siz, h_chg, h_len, h_bnd, h_rkn, h_fds, h_a2, h_a3, h_a4, h_a5, h_a6, h_a7, h_a8, h_cr, h_cf, h_ck⟩ := hP
  refine (px90 (n := n) (b := b) hT).mono fun v1 M1 q1 => ⟨q1.1, (px138 (n := n) (b := b) q1.1).mono fun v2 M2 q2 => ?_⟩
  obtain ⟨t1, f1, x1⟩ := q1
  obtain ⟨t2, f2, x2⟩ := q2
  rw [f1 65 14 (by decide), ← h_len] at x2
  obtain ⟨ev, er⟩ := qfe_eq x1 x2
  refine ⟨t2, ?_, fun _ => by rw [ev]⟩
  rcases er with ⟨rfl, rfl⟩ | ⟨s1, s2⟩
  · exact ⟨hJ, h_now, h_siz, h_chg, h_len, h_bnd, h_rkn, h_fds, h_a2, h_a3, h_a4, h_a5, h_a6, h_a7, h_a8, h_cr, h_cf, h_ck⟩
  refine ⟨JM_same hJ (by rw [f2 65 28 (by decide), f1 65 28 (by decide)]) (fun i => by rw [f2 86 i (wOf_no rfl i), f1 86 i (wOf_no rfl i)]) (fun i => by rw [f2 87 i (wOf_no rfl i), f1 87 i (wOf_no rfl i)]) (fun i => by rw [f2 88 i (wOf_no rfl i), f1 88 i (wOf_no rfl i)]) (by rw [f2 65 34 (by decide), f1 65 34 (by decide)]) (by rw [f2 65 0 (by decide), f1 65 0 (by decide)]; exact Int.le_refl _), ?_, ?_, ?_, ?_, ?_, ?_, ?_, ?_, ?_, ?_, ?_, ?_, ?_, ?_, ?_, ?_, ?_⟩
  · rw [f2 0 10 (by decide), f1 0 10 (by decide), f2 65 0 (by decide), f1 65 0 (by decide)]; exact h_now
  · rw [f2 1 10 (by decide), f1 1 10 (by decide), f2 65 1 (by decide), f1 65 1 (by decide)]; exact h_siz
  · rw [f2 27 14 (by decide), f1 27 14 (by decide), f2 65 21 (by decide), f1 65 21 (by decide)]; exact h_chg
  · rw [f2 22 2 (by decide), s1, s2]
  · rw [f2 52 13 (by decide), f1 52 13 (by decide), f2 65 37 (by decide), f1 65 37 (by decide)]; exact h_bnd
  · rw [f2 1 11 (by decide), f1 1 11 (by decide), f2 65 9 (by decide), f1 65 9 (by decide)]; exact h_rkn
  · rw [f2 12 4 (by decide), f1 12 4 (by decide), f2 65 11 (by decide), f1 65 11 (by decide)]; exact h_fds
  · intro i; rw [f2 2 i (wOf_no rfl i), f1 2 i (wOf_no rfl i), f2 66 i (wOf_no rfl i), f1 66 i (wOf_no rfl i)]; exact h_a2 i
  · intro i; rw [f2 3 i (wOf_no rfl i), f1 3 i (wOf_no rfl i), f2 67 i (wOf_no rfl i), f1 67 i (wOf_no rfl i)]; exact h_a3 i
  · intro i; rw [f2 4 i (wOf_no rfl i), f1 4 i (wOf_no rfl i), f2 68 i (wOf_no rfl i), f1 68 i (wOf_no rfl i)]; exact h_a4 i
  · intro i; rw [f2 5 i (wOf_no rfl i), f1 5 i (wOf_no rfl i), f2 69 i (wOf_no rfl i), f1 69 i (wOf_no rfl i)]; exact h_a5 i
  · intro i; rw [f2 6 i (wOf_no rfl i), f1 6 i (wOf_no rfl i), f2 70 i (wOf_no rfl i), f1 70 i (wOf_no rfl i)]; exact h_a6 i
  · intro i; rw [f2 7 i (wOf_no rfl i), f1 7 i (wOf_no rfl i), f2 71 i (wOf_no rfl i), f1 71 i (wOf_no rfl i)]; exact h_a7 i
  · intro i; rw [f2 8 i (wOf_no rfl i), f1 8 i (wOf_no rfl i), f2 72 i (wOf_no rfl i), f1 72 i (wOf_no rfl i)]; exact h_a8 i
  · exact CR_same h_cr (by rw [f2 1 11 (by decide), f1 1 11 (by decide)]) (fun i => by rw [f2 9 i (wOf_no rfl i), f1 9 i (wOf_no rfl i)]) (fun i => by rw [f2 10 i (wOf_no rfl i), f1 10 i (wOf_no rfl i)]) (fun i => by rw [f2 11 i (wOf_no rfl i), f1 11 i (wOf_no rfl i)]) (fun i => by rw [f2 73 i (wOf_no rfl i), f1 73 i (wOf_no rfl i)]) (by rw [f2 0 10 (by decide), f1 0 10 (by decide)]; exact Int.le_refl _)
  · exact CF_same h_cf (by rw [f2 12 4 (by decide), f1 12 4 (by decide)]) (fun i => by rw [f2 13 i (wOf_no rfl i), f1 13 i (wOf_no rfl i)]) (fun i => by rw [f2 14 i (wOf_no rfl i), f1 14 i (wOf_no rfl i)]) (fun i => by rw [f2 15 i (wOf_no rfl i), f1 15 i (wOf_no rfl i)]) (fun i => by rw [f2 16 i (wOf_no rfl i), f1 16 i (wOf_no rfl i)]) (fun i => by rw [f2 74 i (wOf_no rfl i), f1 74 i (wOf_no rfl i)]) (by rw [f2 0 10 (by decide), f1 0 10 (by decide)]; exact Int.le_refl _)
  · exact CK_same h_ck (by rw [f2 1 10 (by decide), f1 1 10 (by decide)]) (fun i => by rw [f2 5 i (wOf_no rfl i), f1 5 i (wOf_no rfl i)]) (fun i => by rw [f2 6 i (wOf_no rfl i), f1 6 i (wOf_no rfl i)]) (fun i => by rw [f2 18 i (wOf_no rfl i), f1 18 i (wOf_no rfl i)])
theorem pr_read {X : Xs} : Pr X PJ 91 70 151 70 [] False := by
  intro M hT hP
  obtain ⟨hJ, h_now, h_siz, h_chg, h_len, h_bnd, h_rkn, h_fds, h_a2, h_a3, h_a4, h_a5, h_a6, h_a7, h_a8, h_cr, h_cf, h_ck⟩ := hP
  refine (px91 hT).mono fun v1 M1 q1 => ⟨q1.1, (px151 q1.1).mono fun v2 M2 q2 => ?_⟩
  obtain ⟨t1, f1, x1⟩ := q1
  obtain ⟨t2, f2, x2⟩ := q2
  rw [f1 65 21 (by decide), ← h_chg] at x2
  refine ⟨t2, ?_, fun h => h.elim⟩
  rcases x1 with ⟨g1, rfl⟩ | ⟨g1, s1⟩
  · rcases x2 with ⟨g2, rfl⟩ | ⟨g2, s2⟩
    · exact ⟨hJ, h_now, h_siz, h_chg, h_len, h_bnd, h_rkn, h_fds, h_a2, h_a3, h_a4, h_a5, h_a6, h_a7, h_a8, h_cr, h_cf, h_ck⟩
    · exact absurd g1 (by omega)
  rcases x2 with ⟨g2, rfl⟩ | ⟨g2, s2⟩
  · exact absurd g1 (by omega)
  refine ⟨JM_same hJ (by rw [f2 65 28 (by decide), f1 65 28 (by decide)]) (fun i => by rw [f2 86 i (wOf_no rfl i), f1 86 i (wOf_no rfl i)]) (fun i => by rw [f2 87 i (wOf_no rfl i), f1 87 i (wOf_no rfl i)]) (fun i => by rw [f2 88 i (wOf_no rfl i), f1 88 i (wOf_no rfl i)]) (by rw [f2 65 34 (by decide), f1 65 34 (by decide)]) (by rw [f2 65 0 (by decide), f1 65 0 (by decide)]; exact Int.le_refl _), ?_, ?_, ?_, ?_, ?_, ?_, ?_, ?_, ?_, ?_, ?_, ?_, ?_, ?_, ?_, ?_, ?_⟩
  · rw [f2 0 10 (by decide), f1 0 10 (by decide), f2 65 0 (by decide), f1 65 0 (by decide)]; exact h_now
  · rw [f2 1 10 (by decide), f1 1 10 (by decide), f2 65 1 (by decide), f1 65 1 (by decide)]; exact h_siz
  · rw [f2 27 14 (by decide), f1 27 14 (by decide), f2 65 21 (by decide), f1 65 21 (by decide)]; exact h_chg
  · rw [f2 22 2 (by decide), s1, s2]
  · rw [f2 52 13 (by decide), f1 52 13 (by decide), f2 65 37 (by decide), f1 65 37 (by decide)]; exact h_bnd
  · rw [f2 1 11 (by decide), f1 1 11 (by decide), f2 65 9 (by decide), f1 65 9 (by decide)]; exact h_rkn
  · rw [f2 12 4 (by decide), f1 12 4 (by decide), f2 65 11 (by decide), f1 65 11 (by decide)]; exact h_fds
  · intro i; rw [f2 2 i (wOf_no rfl i), f1 2 i (wOf_no rfl i), f2 66 i (wOf_no rfl i), f1 66 i (wOf_no rfl i)]; exact h_a2 i
  · intro i; rw [f2 3 i (wOf_no rfl i), f1 3 i (wOf_no rfl i), f2 67 i (wOf_no rfl i), f1 67 i (wOf_no rfl i)]; exact h_a3 i
  · intro i; rw [f2 4 i (wOf_no rfl i), f1 4 i (wOf_no rfl i), f2 68 i (wOf_no rfl i), f1 68 i (wOf_no rfl i)]; exact h_a4 i
  · intro i; rw [f2 5 i (wOf_no rfl i), f1 5 i (wOf_no rfl i), f2 69 i (wOf_no rfl i), f1 69 i (wOf_no rfl i)]; exact h_a5 i
  · intro i; rw [f2 6 i (wOf_no rfl i), f1 6 i (wOf_no rfl i), f2 70 i (wOf_no rfl i), f1 70 i (wOf_no rfl i)]; exact h_a6 i
  · intro i; rw [f2 7 i (wOf_no rfl i), f1 7 i (wOf_no rfl i), f2 71 i (wOf_no rfl i), f1 71 i (wOf_no rfl i)]; exact h_a7 i
  · intro i; rw [f2 8 i (wOf_no rfl i), f1 8 i (wOf_no rfl i), f2 72 i (wOf_no rfl i), f1 72 i (wOf_no rfl i)]; exact h_a8 i
  · exact CR_same h_cr (by rw [f2 1 11 (by decide), f1 1 11 (by decide)]) (fun i => by rw [f2 9 i (wOf_no rfl i), f1 9 i (wOf_no rfl i)]) (fun i => by rw [f2 10 i (wOf_no rfl i), f1 10 i (wOf_no rfl i)]) (fun i => by rw [f2 11 i (wOf_no rfl i), f1 11 i (wOf_no rfl i)]) (fun i => by rw [f2 73 i (wOf_no rfl i), f1 73 i (wOf_no rfl i)]) (by rw [f2 0 10 (by decide), f1 0 10 (by decide)]; exact Int.le_refl _)
  · exact CF_same h_cf (by rw [f2 12 4 (by decide), f1 12 4 (by decide)]) (fun i => by rw [f2 13 i (wOf_no rfl i), f1 13 i (wOf_no rfl i)]) (fun i => by rw [f2 14 i (wOf_no rfl i), f1 14 i (wOf_no rfl i)]) (fun i => by rw [f2 15 i (wOf_no rfl i), f1 15 i (wOf_no rfl i)]) (fun i => by rw [f2 16 i (wOf_no rfl i), f1 16 i (wOf_no rfl i)]) (fun i => by rw [f2 74 i (wOf_no rfl i), f1 74 i (wOf_no rfl i)]) (by rw [f2 0 10 (by decide), f1 0 10 (by decide)]; exact Int.le_refl _)
  · exact CK_same h_ck (by rw [f2 1 10 (by decide), f1 1 10 (by decide)]) (fun i => by rw [f2 5 i (wOf_no rfl i), f1 5 i (wOf_no rfl i)]) (fun i => by rw [f2 6 i (wOf_no rfl i), f1 6 i (wOf_no rfl i)]) (fun i => by rw [f2 18 i (wOf_no rfl i), f1 18 i (wOf_no rfl i)])
theorem pr_go {X : Xs} {n : Int} : Pr X PJ 87 10 133 10 [vI n] True := by
  intro M hT hP
  obtain ⟨hJ, h_now, h_siz, h_chg, h_len, h_bnd, h_rkn, h_fds, h_a2, h_a3, h_a4, h_a5, h_a6, h_a7, h_a8, h_cr, h_cf, h_ck⟩ := hP
  have bn : 0 ≤ M 0 10 ∧ M 0 10 ≤ 9000 := hT 0 10
  refine (go_x hT).mono fun v1 M1 q1 => ?_
  rcases q1 with ⟨g1, rfl, rfl⟩ | ⟨g1, g2, rfl, rfl⟩ | ⟨g1, g2, rfl, rfl⟩
  · refine ⟨hT, (go_m hT).mono fun v2 M2 q2 => ?_⟩
    rcases q2 with ⟨k1, rfl, rfl⟩ | ⟨k1, k2, rfl, rfl⟩ | ⟨k1, k2, rfl, rfl⟩
    · exact ⟨hT, ⟨hJ, h_now, h_siz, h_chg, h_len, h_bnd, h_rkn, h_fds, h_a2, h_a3, h_a4, h_a5, h_a6, h_a7, h_a8, h_cr, h_cf, h_ck⟩, fun _ => rfl⟩
    · exact absurd g1 (by omega)
    · exact absurd g1 (by omega)
  · refine ⟨hT, (go_m hT).mono fun v2 M2 q2 => ?_⟩
    rcases q2 with ⟨k1, rfl, rfl⟩ | ⟨k1, k2, rfl, rfl⟩ | ⟨k1, k2, rfl, rfl⟩
    · exact absurd k1 (by omega)
    · exact ⟨hT, ⟨hJ, h_now, h_siz, h_chg, h_len, h_bnd, h_rkn, h_fds, h_a2, h_a3, h_a4, h_a5, h_a6, h_a7, h_a8, h_cr, h_cf, h_ck⟩, fun _ => rfl⟩
    · exact absurd k2 (by omega)
  · have t1 : okTT (up M 0 10 (M 0 10 + n)) := okTT_up hT (show 0 ≤ M 0 10 + n ∧ M 0 10 + n ≤ 9000 by omega)
    refine ⟨t1, (go_m t1).mono fun v2 M2 q2 => ?_⟩
    have e0 : (up M 0 10 (M 0 10 + n)) 65 0 = M 65 0 := rfl
    unfold goP at q2
    rw [e0] at q2
    rcases q2 with ⟨k1, rfl, rfl⟩ | ⟨k1, k2, rfl, rfl⟩ | ⟨k1, k2, rfl, rfl⟩
    · exact absurd k1 (by omega)
    · exact absurd k2 (by omega)
    · have en : M 0 10 + n = M 65 0 + n := by omega
      exact ⟨okTT_up t1 (show 0 ≤ M 65 0 + n ∧ M 65 0 + n ≤ 9000 by omega), ⟨JM_same hJ rfl (fun _ => rfl) (fun _ => rfl) (fun _ => rfl) rfl (show M 65 0 ≤ M 65 0 + n by omega), en, h_siz, h_chg, h_len, h_bnd, h_rkn, h_fds, h_a2, h_a3, h_a4, h_a5, h_a6, h_a7, h_a8, CR_same h_cr rfl (fun _ => rfl) (fun _ => rfl) (fun _ => rfl) (fun _ => rfl) (show M 0 10 ≤ M 0 10 + n by omega), CF_same h_cf rfl (fun _ => rfl) (fun _ => rfl) (fun _ => rfl) (fun _ => rfl) (fun _ => rfl) (show M 0 10 ≤ M 0 10 + n by omega), CK_same h_ck rfl (fun _ => rfl) (fun _ => rfl) (fun _ => rfl)⟩, fun _ => en⟩
theorem pr_bound {X : Xs} {z : Int} (hz : in32 z) : Pr X PJ 104 10 176 10 [vI z] True := by
  intro M hT hP
  obtain ⟨hJ, h_now, h_siz, h_chg, h_len, h_bnd, h_rkn, h_fds, h_a2, h_a3, h_a4, h_a5, h_a6, h_a7, h_a8, h_cr, h_cf, h_ck⟩ := hP
  refine bound_x.mono fun v1 M1 q1 => ?_
  rcases q1 with ⟨r, rfl, rfl⟩ | ⟨r, rfl, rfl⟩
  · refine ⟨hT, bound_m.mono fun v2 M2 q2 => ?_⟩
    rcases q2 with ⟨s, rfl, rfl⟩ | ⟨s, rfl, rfl⟩
    · exact ⟨hT, ⟨hJ, h_now, h_siz, h_chg, h_len, h_bnd, h_rkn, h_fds, h_a2, h_a3, h_a4, h_a5, h_a6, h_a7, h_a8, h_cr, h_cf, h_ck⟩, fun _ => rfl⟩
    · exact absurd r (by omega)
  · have t1 : okTT (up M 52 13 z) := okTT_up hT hz
    refine ⟨t1, bound_m.mono fun v2 M2 q2 => ?_⟩
    rcases q2 with ⟨s, rfl, rfl⟩ | ⟨s, rfl, rfl⟩
    · exact absurd r (by omega)
    · exact ⟨okTT_up t1 hz, ⟨JM_same hJ rfl (fun _ => rfl) (fun _ => rfl) (fun _ => rfl) rfl (Int.le_refl _), h_now, h_siz, h_chg, h_len, rfl, h_rkn, h_fds, h_a2, h_a3, h_a4, h_a5, h_a6, h_a7, h_a8, CR_same h_cr rfl (fun _ => rfl) (fun _ => rfl) (fun _ => rfl) (fun _ => rfl) (Int.le_refl _), CF_same h_cf rfl (fun _ => rfl) (fun _ => rfl) (fun _ => rfl) (fun _ => rfl) (fun _ => rfl) (Int.le_refl _), CK_same h_ck rfl (fun _ => rfl) (fun _ => rfl) (fun _ => rfl)⟩, fun _ => h_bnd⟩
theorem pr_swear {X : Xs} {p c : Int} (hp : in32 p) (hc : in32 c) : Pr X PJ 96 70 166 70 [vI p, vI c] False := by
  intro M hT hP
  refine (ok96_0 X [vR 0 0, vI p, vI c] M ⟨rfl, ⟨_, rfl, hp⟩, ⟨_, rfl, hc⟩, trivial⟩ hT trivial).mono fun v1 M1 q1 => ?_
  have hP1 := PJ_fr (by decide) q1.2.1 hP
  obtain ⟨hJ, h_now, h_siz, h_chg, h_len, h_bnd, h_rkn, h_fds, h_a2, h_a3, h_a4, h_a5, h_a6, h_a7, h_a8, h_cr, h_cf, h_ck⟩ := hP1
  refine ⟨q1.1, (swear_m (p := p) (c := c) q1.1 hJ).mono fun v2 M2 q2 => ⟨q2.1, ?_, fun h => h.elim⟩⟩
  refine ⟨q2.2.1, ?_, ?_, ?_, ?_, ?_, ?_, ?_, ?_, ?_, ?_, ?_, ?_, ?_, ?_, ?_, ?_, ?_⟩
  · rw [q2.2.2 0 10 (by decide), q2.2.2 65 0 (by decide)]; exact h_now
  · rw [q2.2.2 1 10 (by decide), q2.2.2 65 1 (by decide)]; exact h_siz
  · rw [q2.2.2 27 14 (by decide), q2.2.2 65 21 (by decide)]; exact h_chg
  · rw [q2.2.2 22 2 (by decide), q2.2.2 65 14 (by decide)]; exact h_len
  · rw [q2.2.2 52 13 (by decide), q2.2.2 65 37 (by decide)]; exact h_bnd
  · rw [q2.2.2 1 11 (by decide), q2.2.2 65 9 (by decide)]; exact h_rkn
  · rw [q2.2.2 12 4 (by decide), q2.2.2 65 11 (by decide)]; exact h_fds
  · intro i; rw [q2.2.2 2 i (wOf_no rfl i), q2.2.2 66 i (wOf_no rfl i)]; exact h_a2 i
  · intro i; rw [q2.2.2 3 i (wOf_no rfl i), q2.2.2 67 i (wOf_no rfl i)]; exact h_a3 i
  · intro i; rw [q2.2.2 4 i (wOf_no rfl i), q2.2.2 68 i (wOf_no rfl i)]; exact h_a4 i
  · intro i; rw [q2.2.2 5 i (wOf_no rfl i), q2.2.2 69 i (wOf_no rfl i)]; exact h_a5 i
  · intro i; rw [q2.2.2 6 i (wOf_no rfl i), q2.2.2 70 i (wOf_no rfl i)]; exact h_a6 i
  · intro i; rw [q2.2.2 7 i (wOf_no rfl i), q2.2.2 71 i (wOf_no rfl i)]; exact h_a7 i
  · intro i; rw [q2.2.2 8 i (wOf_no rfl i), q2.2.2 72 i (wOf_no rfl i)]; exact h_a8 i
  · exact CR_same h_cr (q2.2.2 1 11 (by decide)) (fun i => q2.2.2 9 i (wOf_no rfl i)) (fun i => q2.2.2 10 i (wOf_no rfl i)) (fun i => q2.2.2 11 i (wOf_no rfl i)) (fun i => q2.2.2 73 i (wOf_no rfl i)) (by rw [q2.2.2 0 10 (by decide)]; exact Int.le_refl _)
  · exact CF_same h_cf (q2.2.2 12 4 (by decide)) (fun i => q2.2.2 13 i (wOf_no rfl i)) (fun i => q2.2.2 14 i (wOf_no rfl i)) (fun i => q2.2.2 15 i (wOf_no rfl i)) (fun i => q2.2.2 16 i (wOf_no rfl i)) (fun i => q2.2.2 74 i (wOf_no rfl i)) (by rw [q2.2.2 0 10 (by decide)]; exact Int.le_refl _)
  · exact CK_same h_ck (q2.2.2 1 10 (by decide)) (fun i => q2.2.2 5 i (wOf_no rfl i)) (fun i => q2.2.2 6 i (wOf_no rfl i)) (fun i => q2.2.2 18 i (wOf_no rfl i))
theorem pr_close {X : Xs} {c : Int} (hc : in32 c) : Pr X PJ 97 70 167 70 [vI c] False := by
  intro M hT hP
  refine (ok97_0 X [vR 0 0, vI c] M ⟨rfl, ⟨_, rfl, hc⟩, trivial⟩ hT trivial).mono fun v1 M1 q1 => ?_
  have hP1 := PJ_fr (by decide) q1.2.1 hP
  obtain ⟨hJ, h_now, h_siz, h_chg, h_len, h_bnd, h_rkn, h_fds, h_a2, h_a3, h_a4, h_a5, h_a6, h_a7, h_a8, h_cr, h_cf, h_ck⟩ := hP1
  refine ⟨q1.1, (close_m (c := c) q1.1 hJ).mono fun v2 M2 q2 => ⟨q2.1, ?_, fun h => h.elim⟩⟩
  refine ⟨q2.2.1, ?_, ?_, ?_, ?_, ?_, ?_, ?_, ?_, ?_, ?_, ?_, ?_, ?_, ?_, ?_, ?_, ?_⟩
  · rw [q2.2.2 0 10 (by decide), q2.2.2 65 0 (by decide)]; exact h_now
  · rw [q2.2.2 1 10 (by decide), q2.2.2 65 1 (by decide)]; exact h_siz
  · rw [q2.2.2 27 14 (by decide), q2.2.2 65 21 (by decide)]; exact h_chg
  · rw [q2.2.2 22 2 (by decide), q2.2.2 65 14 (by decide)]; exact h_len
  · rw [q2.2.2 52 13 (by decide), q2.2.2 65 37 (by decide)]; exact h_bnd
  · rw [q2.2.2 1 11 (by decide), q2.2.2 65 9 (by decide)]; exact h_rkn
  · rw [q2.2.2 12 4 (by decide), q2.2.2 65 11 (by decide)]; exact h_fds
  · intro i; rw [q2.2.2 2 i (wOf_no rfl i), q2.2.2 66 i (wOf_no rfl i)]; exact h_a2 i
  · intro i; rw [q2.2.2 3 i (wOf_no rfl i), q2.2.2 67 i (wOf_no rfl i)]; exact h_a3 i
  · intro i; rw [q2.2.2 4 i (wOf_no rfl i), q2.2.2 68 i (wOf_no rfl i)]; exact h_a4 i
  · intro i; rw [q2.2.2 5 i (wOf_no rfl i), q2.2.2 69 i (wOf_no rfl i)]; exact h_a5 i
  · intro i; rw [q2.2.2 6 i (wOf_no rfl i), q2.2.2 70 i (wOf_no rfl i)]; exact h_a6 i
  · intro i; rw [q2.2.2 7 i (wOf_no rfl i), q2.2.2 71 i (wOf_no rfl i)]; exact h_a7 i
  · intro i; rw [q2.2.2 8 i (wOf_no rfl i), q2.2.2 72 i (wOf_no rfl i)]; exact h_a8 i
  · exact CR_same h_cr (q2.2.2 1 11 (by decide)) (fun i => q2.2.2 9 i (wOf_no rfl i)) (fun i => q2.2.2 10 i (wOf_no rfl i)) (fun i => q2.2.2 11 i (wOf_no rfl i)) (fun i => q2.2.2 73 i (wOf_no rfl i)) (by rw [q2.2.2 0 10 (by decide)]; exact Int.le_refl _)
  · exact CF_same h_cf (q2.2.2 12 4 (by decide)) (fun i => q2.2.2 13 i (wOf_no rfl i)) (fun i => q2.2.2 14 i (wOf_no rfl i)) (fun i => q2.2.2 15 i (wOf_no rfl i)) (fun i => q2.2.2 16 i (wOf_no rfl i)) (fun i => q2.2.2 74 i (wOf_no rfl i)) (by rw [q2.2.2 0 10 (by decide)]; exact Int.le_refl _)
  · exact CK_same h_ck (q2.2.2 1 10 (by decide)) (fun i => q2.2.2 5 i (wOf_no rfl i)) (fun i => q2.2.2 6 i (wOf_no rfl i)) (fun i => q2.2.2 18 i (wOf_no rfl i))
theorem pr_rank {X : Xs} {p b : Int} : Pr X PJ 83 30 127 30 [vI p, vI b] True := by
  intro M hT hP
  obtain ⟨hJ, h_now, h_siz, h_chg, h_len, h_bnd, h_rkn, h_fds, h_a2, h_a3, h_a4, h_a5, h_a6, h_a7, h_a8, h_cr, h_cf, h_ck⟩ := hP
  have bR : 0 ≤ M 1 11 ∧ M 1 11 ≤ 60 := hT 1 11
  refine (px83 (p := p) (b := b) hT).mono fun v1 M1 q1 => ⟨q1.1, ?_⟩
  obtain ⟨t1, f1, x1⟩ := q1
  have hm : ∀ l k : Nat, l ≤ k → (k : Int) < M1 65 9 → M1 73 (3 * l + 1) ≤ M1 73 (3 * k + 1) := fun l k hl hk => by
    rw [f1 73 (3 * l + 1) (wOf_no rfl _), f1 73 (3 * k + 1) (wOf_no rfl _)]
    rw [f1 65 9 (by decide), ← h_rkn] at hk
    have a := h_cr k (by omega)
    have c := h_cr l (by omega)
    rw [← a.2.1, ← c.2.1]
    exact a.2.2.2.2 l hl
  refine (px127 (p := p) (b := b) t1 hm).mono fun v2 M2 q2 => ?_
  obtain ⟨t2, f2, x2⟩ := q2
  have ex : reX M1 p (bsX M1 p (M1 65 0) (M1 65 9).toNat) = rkX M p (M 0 10) (M 1 11).toNat := by
    rw [f1 65 0 (by decide), f1 65 9 (by decide), ← h_now, ← h_rkn]
    exact (rk_bs (c := (M 1 11).toNat) (fun i => by rw [f1 68 i (wOf_no rfl i)]; exact h_a4 i) (fun k hk => by
      have a := h_cr k (by omega)
      rw [f1 73 (3 * k) (wOf_no rfl _), f1 73 (3 * k + 1) (wOf_no rfl _), f1 73 (3 * k + 2) (wOf_no rfl _)]
      exact ⟨a.1, a.2.1, a.2.2.1⟩) _ (Nat.le_refl _)).symm
  rw [ex, f1 65 1 (by decide), f1 65 9 (by decide), f1 65 0 (by decide), ← h_siz, ← h_rkn, ← h_now] at x2
  obtain ⟨ev, er⟩ := qrk_eq x1 x2
  refine ⟨t2, ?_, fun _ => by rw [ev]⟩
  rcases er with ⟨rfl, rfl⟩ | ⟨s1, s2⟩
  · exact ⟨hJ, h_now, h_siz, h_chg, h_len, h_bnd, h_rkn, h_fds, h_a2, h_a3, h_a4, h_a5, h_a6, h_a7, h_a8, h_cr, h_cf, h_ck⟩
  refine ⟨JM_same hJ (by rw [f2 65 28 (by decide), f1 65 28 (by decide)]) (fun i => by rw [f2 86 i (wOf_no rfl i), f1 86 i (wOf_no rfl i)]) (fun i => by rw [f2 87 i (wOf_no rfl i), f1 87 i (wOf_no rfl i)]) (fun i => by rw [f2 88 i (wOf_no rfl i), f1 88 i (wOf_no rfl i)]) (by rw [f2 65 34 (by decide), f1 65 34 (by decide)]) (by rw [f2 65 0 (by decide), f1 65 0 (by decide)]; exact Int.le_refl _), ?_, ?_, ?_, ?_, ?_, ?_, ?_, ?_, ?_, ?_, ?_, ?_, ?_, ?_, ?_, ?_, ?_⟩
  · rw [f2 0 10 (by decide), f1 0 10 (by decide), f2 65 0 (by decide), f1 65 0 (by decide)]; exact h_now
  · rw [f2 1 10 (by decide), f1 1 10 (by decide), f2 65 1 (by decide), f1 65 1 (by decide)]; exact h_siz
  · rw [f2 27 14 (by decide), f1 27 14 (by decide), f2 65 21 (by decide), f1 65 21 (by decide)]; exact h_chg
  · rw [f2 22 2 (by decide), f1 22 2 (by decide), f2 65 14 (by decide), f1 65 14 (by decide)]; exact h_len
  · rw [f2 52 13 (by decide), f1 52 13 (by decide), f2 65 37 (by decide), f1 65 37 (by decide)]; exact h_bnd
  · rw [f2 1 11 (by decide), s1.1, s2.1]
  · rw [f2 12 4 (by decide), f1 12 4 (by decide), f2 65 11 (by decide), f1 65 11 (by decide)]; exact h_fds
  · intro i; rw [f2 2 i (wOf_no rfl i), f1 2 i (wOf_no rfl i), f2 66 i (wOf_no rfl i), f1 66 i (wOf_no rfl i)]; exact h_a2 i
  · intro i; rw [f2 3 i (wOf_no rfl i), f1 3 i (wOf_no rfl i), f2 67 i (wOf_no rfl i), f1 67 i (wOf_no rfl i)]; exact h_a3 i
  · intro i; rw [f2 4 i (wOf_no rfl i), f1 4 i (wOf_no rfl i), f2 68 i (wOf_no rfl i), f1 68 i (wOf_no rfl i)]; exact h_a4 i
  · intro i; rw [f2 5 i (wOf_no rfl i), f1 5 i (wOf_no rfl i), f2 69 i (wOf_no rfl i), f1 69 i (wOf_no rfl i)]; exact h_a5 i
  · intro i; rw [f2 6 i (wOf_no rfl i), f1 6 i (wOf_no rfl i), f2 70 i (wOf_no rfl i), f1 70 i (wOf_no rfl i)]; exact h_a6 i
  · intro i; rw [f2 7 i (wOf_no rfl i), f1 7 i (wOf_no rfl i), f2 71 i (wOf_no rfl i), f1 71 i (wOf_no rfl i)]; exact h_a7 i
  · intro i; rw [f2 8 i (wOf_no rfl i), f1 8 i (wOf_no rfl i), f2 72 i (wOf_no rfl i), f1 72 i (wOf_no rfl i)]; exact h_a8 i
  · intro k hk
    have hk : (k : Int) < M 1 11 + 1 := by
      rw [f2 1 11 (by decide), s1.1] at hk
      exact hk
    rw [f2 9 k (wOf_no rfl k), f2 10 k (wOf_no rfl k), f2 11 k (wOf_no rfl k), s1.2.1 k, s1.2.2.1 k, s1.2.2.2 k, s2.2 (3 * k), s2.2 (3 * k + 1), s2.2 (3 * k + 2), f2 0 10 (by decide), f1 0 10 (by decide)]
    by_cases h : k = (M 1 11).toNat
    · rw [if_pos h, if_pos h, if_pos h, if_pos (by omega), if_neg (by omega), if_pos (by omega), if_neg (by omega), if_neg (by omega), if_pos (by omega)]
      refine ⟨rfl, rfl, rfl, Int.le_refl _, fun l hl => ?_⟩
      rw [f2 11 l (wOf_no rfl l), s1.2.2.2 l]
      by_cases h2 : l = (M 1 11).toNat
      · rw [if_pos h2]
        exact Int.le_refl _
      · rw [if_neg h2]
        exact (h_cr l (by omega)).2.2.2.1
    · rw [if_neg h, if_neg h, if_neg h, if_neg (by omega), if_neg (by omega), if_neg (by omega), if_neg (by omega), if_neg (by omega), if_neg (by omega), if_neg (by omega), if_neg (by omega), if_neg (by omega), f1 73 (3 * k) (wOf_no rfl _), f1 73 (3 * k + 1) (wOf_no rfl _), f1 73 (3 * k + 2) (wOf_no rfl _)]
      have a := h_cr k (by omega)
      refine ⟨a.1, a.2.1, a.2.2.1, a.2.2.2.1, fun l hl => ?_⟩
      rw [f2 11 l (wOf_no rfl l), s1.2.2.2 l, if_neg (by omega)]
      exact a.2.2.2.2 l hl
  · exact CF_same h_cf (by rw [f2 12 4 (by decide), f1 12 4 (by decide)]) (fun i => by rw [f2 13 i (wOf_no rfl i), f1 13 i (wOf_no rfl i)]) (fun i => by rw [f2 14 i (wOf_no rfl i), f1 14 i (wOf_no rfl i)]) (fun i => by rw [f2 15 i (wOf_no rfl i), f1 15 i (wOf_no rfl i)]) (fun i => by rw [f2 16 i (wOf_no rfl i), f1 16 i (wOf_no rfl i)]) (fun i => by rw [f2 74 i (wOf_no rfl i), f1 74 i (wOf_no rfl i)]) (by rw [f2 0 10 (by decide), f1 0 10 (by decide)]; exact Int.le_refl _)
  · exact CK_same h_ck (by rw [f2 1 10 (by decide), f1 1 10 (by decide)]) (fun i => by rw [f2 5 i (wOf_no rfl i), f1 5 i (wOf_no rfl i)]) (fun i => by rw [f2 6 i (wOf_no rfl i), f1 6 i (wOf_no rfl i)]) (fun i => by rw [f2 18 i (wOf_no rfl i), f1 18 i (wOf_no rfl i)])
theorem pr_told {X : Xs} {p d k : Int} : Pr X PJ 88 30 134 30 [vI p, vI d, vI k] True := by
  intro M1 hT hP
  have hP2 := hP
  obtain ⟨hJ, h_now, h_siz, h_chg, h_len, h_bnd, h_rkn, h_fds, h_a2, h_a3, h_a4, h_a5, h_a6, h_a7, h_a8, h_cr, h_cf, h_ck⟩ := hP
  refine (px88 (p := p) (d := d) (k := k) hT).mono fun v1 M2 q1 => ?_
  obtain ⟨rfl, rfl⟩ := q1
  refine ⟨hT, ?_⟩
  have hm : ∀ l k : Nat, l ≤ k → (k : Int) < M2 65 9 → M2 73 (3 * l + 1) ≤ M2 73 (3 * k + 1) := fun l k hl hk => by
    rw [← h_rkn] at hk
    have a := h_cr k (by omega)
    have c := h_cr l (by omega)
    rw [← a.2.1, ← c.2.1]
    exact a.2.2.2.2 l hl
  refine (px134 (p := p) (d := d) (k := k) hT hm).mono fun v2 M3 q2 => ?_
  obtain ⟨rfl, rfl⟩ := q2
  refine ⟨hT, hP2, fun _ => ?_⟩
  have ex := rk_bs (p := p) (day := d) (c := (M3 1 11).toNat) h_a4 (fun k hk => by
    have a := h_cr k (by omega)
    exact ⟨a.1, a.2.1, a.2.2.1⟩) _ (Nat.le_refl _)
  show tld _ _ _ _ _ _ _ _ _ _ _ _ = tld _ _ _ _ _ _ _ _ _ _ _ _
  rw [ex, h_siz, h_now, h_rkn, h_a2, h_a3, h_a5, h_a6, h_a7, h_a8]
theorem pr_feud {X : Xs} {a b : Int} : Pr X PJ 85 30 131 30 [vI a, vI b] True := by
  intro M hT hP
  obtain ⟨hJ, h_now, h_siz, h_chg, h_len, h_bnd, h_rkn, h_fds, h_a2, h_a3, h_a4, h_a5, h_a6, h_a7, h_a8, h_cr, h_cf, h_ck⟩ := hP
  have bF : 0 ≤ M 12 4 ∧ M 12 4 ≤ 20 := hT 12 4
  have bN : 0 ≤ M 0 10 ∧ M 0 10 ≤ 9000 := hT 0 10
  refine (px85 (a := a) (b := b) hT).mono fun v1 M1 q1 => ⟨q1.1, (px131 (a := a) (b := b) q1.1).mono fun v2 M2 q2 => ?_⟩
  obtain ⟨t1, f1, x1⟩ := q1
  obtain ⟨t2, f2, x2⟩ := q2
  have h7 : ∀ i : Nat, M1 74 i = M 74 i := fun i => f1 74 i (wOf_no rfl i)
  have eE : (∃ k : Nat, k < (M1 65 11).toNat ∧ cM M1 a b (M1 65 0) k) = (∃ k : Nat, k < (M 12 4).toNat ∧ cX M a b k) := by
    rw [f1 65 11 (by decide), f1 65 0 (by decide), ← h_fds, ← h_now]
    exact propext ⟨fun ⟨k, k1, k2⟩ => ⟨k, k1, (cXM hT h7 h_cf (by omega)).mpr k2⟩, fun ⟨k, k1, k2⟩ => ⟨k, k1, (cXM hT h7 h_cf (by omega)).mp k2⟩⟩
  rw [eE, f1 65 11 (by decide), f1 65 0 (by decide), ← h_fds, ← h_now] at x2
  obtain ⟨ev, er⟩ := qfd_eq x1 x2
  refine ⟨t2, ?_, fun _ => by rw [ev]⟩
  rcases er with ⟨rfl, rfl⟩ | ⟨hnE, hF20, s1, s2⟩
  · exact ⟨hJ, h_now, h_siz, h_chg, h_len, h_bnd, h_rkn, h_fds, h_a2, h_a3, h_a4, h_a5, h_a6, h_a7, h_a8, h_cr, h_cf, h_ck⟩
  refine ⟨JM_same hJ (by rw [f2 65 28 (by decide), f1 65 28 (by decide)]) (fun i => by rw [f2 86 i (wOf_no rfl i), f1 86 i (wOf_no rfl i)]) (fun i => by rw [f2 87 i (wOf_no rfl i), f1 87 i (wOf_no rfl i)]) (fun i => by rw [f2 88 i (wOf_no rfl i), f1 88 i (wOf_no rfl i)]) (by rw [f2 65 34 (by decide), f1 65 34 (by decide)]) (by rw [f2 65 0 (by decide), f1 65 0 (by decide)]; exact Int.le_refl _), ?_, ?_, ?_, ?_, ?_, ?_, ?_, ?_, ?_, ?_, ?_, ?_, ?_, ?_, ?_, ?_, ?_⟩
  · rw [f2 0 10 (by decide), f1 0 10 (by decide), f2 65 0 (by decide), f1 65 0 (by decide)]; exact h_now
  · rw [f2 1 10 (by decide), f1 1 10 (by decide), f2 65 1 (by decide), f1 65 1 (by decide)]; exact h_siz
  · rw [f2 27 14 (by decide), f1 27 14 (by decide), f2 65 21 (by decide), f1 65 21 (by decide)]; exact h_chg
  · rw [f2 22 2 (by decide), f1 22 2 (by decide), f2 65 14 (by decide), f1 65 14 (by decide)]; exact h_len
  · rw [f2 52 13 (by decide), f1 52 13 (by decide), f2 65 37 (by decide), f1 65 37 (by decide)]; exact h_bnd
  · rw [f2 1 11 (by decide), f1 1 11 (by decide), f2 65 9 (by decide), f1 65 9 (by decide)]; exact h_rkn
  · rw [f2 12 4 (by decide), s1.1, s2.1]
  · intro i; rw [f2 2 i (wOf_no rfl i), f1 2 i (wOf_no rfl i), f2 66 i (wOf_no rfl i), f1 66 i (wOf_no rfl i)]; exact h_a2 i
  · intro i; rw [f2 3 i (wOf_no rfl i), f1 3 i (wOf_no rfl i), f2 67 i (wOf_no rfl i), f1 67 i (wOf_no rfl i)]; exact h_a3 i
  · intro i; rw [f2 4 i (wOf_no rfl i), f1 4 i (wOf_no rfl i), f2 68 i (wOf_no rfl i), f1 68 i (wOf_no rfl i)]; exact h_a4 i
  · intro i; rw [f2 5 i (wOf_no rfl i), f1 5 i (wOf_no rfl i), f2 69 i (wOf_no rfl i), f1 69 i (wOf_no rfl i)]; exact h_a5 i
  · intro i; rw [f2 6 i (wOf_no rfl i), f1 6 i (wOf_no rfl i), f2 70 i (wOf_no rfl i), f1 70 i (wOf_no rfl i)]; exact h_a6 i
  · intro i; rw [f2 7 i (wOf_no rfl i), f1 7 i (wOf_no rfl i), f2 71 i (wOf_no rfl i), f1 71 i (wOf_no rfl i)]; exact h_a7 i
  · intro i; rw [f2 8 i (wOf_no rfl i), f1 8 i (wOf_no rfl i), f2 72 i (wOf_no rfl i), f1 72 i (wOf_no rfl i)]; exact h_a8 i
  · exact CR_same h_cr (by rw [f2 1 11 (by decide), f1 1 11 (by decide)]) (fun i => by rw [f2 9 i (wOf_no rfl i), f1 9 i (wOf_no rfl i)]) (fun i => by rw [f2 10 i (wOf_no rfl i), f1 10 i (wOf_no rfl i)]) (fun i => by rw [f2 11 i (wOf_no rfl i), f1 11 i (wOf_no rfl i)]) (fun i => by rw [f2 73 i (wOf_no rfl i), f1 73 i (wOf_no rfl i)]) (by rw [f2 0 10 (by decide), f1 0 10 (by decide)]; exact Int.le_refl _)
  · intro k hk
    have hk : (k : Int) < M 12 4 + 1 := by
      rw [f2 12 4 (by decide), s1.1] at hk
      exact hk
    rw [f2 13 k (wOf_no rfl k), f2 14 k (wOf_no rfl k), f2 15 k (wOf_no rfl k), f2 16 k (wOf_no rfl k), s1.2.1 k, s1.2.2.1 k, s1.2.2.2.1 k, s1.2.2.2.2 k, s2.2 (4 * k), s2.2 (4 * k + 1), s2.2 (4 * k + 2), s2.2 (4 * k + 3), f2 0 10 (by decide), f1 0 10 (by decide)]
    by_cases h : k = (M 12 4).toNat
    · rw [if_pos h, if_pos h, if_pos h, if_pos h, if_pos (by omega), if_neg (by omega), if_pos (by omega), if_neg (by omega), if_neg (by omega), if_pos (by omega), if_neg (by omega), if_neg (by omega), if_neg (by omega), if_pos (by omega)]
      refine ⟨⟨rfl, rfl, rfl, rfl⟩, ⟨Int.le_refl _, by omega⟩, fun l hl => ?_⟩
      have hl : (l : Int) < M 12 4 + 1 := by
        rw [f2 12 4 (by decide), s1.1] at hl
        exact hl
      rw [f2 13 l (wOf_no rfl l), f2 14 l (wOf_no rfl l), f2 16 l (wOf_no rfl l), s1.2.1 l, s1.2.2.1 l, s1.2.2.2.2 l]
      by_cases h2 : l = (M 12 4).toNat
      · intro _ _ _
        omega
      · rw [if_neg h2, if_neg h2, if_neg h2]
        intro _ g1 g2
        exact absurd ⟨l, by omega, g1, by omega⟩ hnE
    · rw [if_neg h, if_neg h, if_neg h, if_neg h, if_neg (by omega), if_neg (by omega), if_neg (by omega), if_neg (by omega), if_neg (by omega), if_neg (by omega), if_neg (by omega), if_neg (by omega), if_neg (by omega), if_neg (by omega), if_neg (by omega), if_neg (by omega), if_neg (by omega), if_neg (by omega), if_neg (by omega), if_neg (by omega), h7, h7, h7, h7]
      obtain ⟨a0, b0, c0⟩ := h_cf k (by omega)
      refine ⟨a0, b0, fun l hl => ?_⟩
      have hl : (l : Int) < M 12 4 + 1 := by
        rw [f2 12 4 (by decide), s1.1] at hl
        exact hl
      rw [f2 13 l (wOf_no rfl l), f2 14 l (wOf_no rfl l), f2 16 l (wOf_no rfl l), s1.2.1 l, s1.2.2.1 l, s1.2.2.2.2 l]
      by_cases h2 : l = (M 12 4).toNat
      · rw [if_pos h2, if_pos h2, if_pos h2]
        intro g0 _ g2
        exact absurd ⟨k, by omega, g0, by omega⟩ hnE
      · rw [if_neg h2, if_neg h2, if_neg h2]
        exact c0 l (by omega)
  · exact CK_same h_ck (by rw [f2 1 10 (by decide), f1 1 10 (by decide)]) (fun i => by rw [f2 5 i (wOf_no rfl i), f1 5 i (wOf_no rfl i)]) (fun i => by rw [f2 6 i (wOf_no rfl i), f1 6 i (wOf_no rfl i)]) (fun i => by rw [f2 18 i (wOf_no rfl i), f1 18 i (wOf_no rfl i)])
theorem pr_peace {X : Xs} {a b : Int} : Pr X PJ 86 30 132 30 [vI a, vI b] True := by
  intro M hT hP
  obtain ⟨hJ, h_now, h_siz, h_chg, h_len, h_bnd, h_rkn, h_fds, h_a2, h_a3, h_a4, h_a5, h_a6, h_a7, h_a8, h_cr, h_cf, h_ck⟩ := hP
  have bF : 0 ≤ M 12 4 ∧ M 12 4 ≤ 20 := hT 12 4
  have bN : 0 ≤ M 0 10 ∧ M 0 10 ≤ 9000 := hT 0 10
  refine (px86 (a := a) (b := b) hT).mono fun v1 M1 q1 => ⟨q1.1, (px132 (a := a) (b := b) q1.1).mono fun v2 M2 q2 => ?_⟩
  obtain ⟨t1, f1, x1⟩ := q1
  obtain ⟨t2, f2, x2⟩ := q2
  have h7 : ∀ i : Nat, M1 74 i = M 74 i := fun i => f1 74 i (wOf_no rfl i)
  have eE : (∃ k : Nat, k < (M1 65 11).toNat ∧ cM M1 a b (M1 65 0) k) = (∃ k : Nat, k < (M 12 4).toNat ∧ cX M a b k) := by
    rw [f1 65 11 (by decide), f1 65 0 (by decide), ← h_fds, ← h_now]
    exact propext ⟨fun ⟨k, k1, k2⟩ => ⟨k, k1, (cXM hT h7 h_cf (by omega)).mpr k2⟩, fun ⟨k, k1, k2⟩ => ⟨k, k1, (cXM hT h7 h_cf (by omega)).mp k2⟩⟩
  rw [eE, f1 65 11 (by decide), f1 65 0 (by decide), ← h_fds, ← h_now] at x2
  obtain ⟨ev, er⟩ := qpc_eq x1 x2
  refine ⟨t2, ?_, fun _ => by rw [ev]⟩
  rcases er with ⟨rfl, rfl⟩ | ⟨s1, s2⟩
  · exact ⟨hJ, h_now, h_siz, h_chg, h_len, h_bnd, h_rkn, h_fds, h_a2, h_a3, h_a4, h_a5, h_a6, h_a7, h_a8, h_cr, h_cf, h_ck⟩
  obtain ⟨k, k1, k2, s16⟩ := s1
  obtain ⟨k', k1', k2', s74⟩ := s2
  have k3 := (cXM hT h7 h_cf (k := k') (by omega)).mpr k2'
  have kk : k = k' := (h_cf k (by omega)).2.2 k' (by omega) k2.1 k3.1 (by
    have q1 := k2.2
    have q2 := k3.2
    omega)
  subst kk
  refine ⟨JM_same hJ (by rw [f2 65 28 (by decide), f1 65 28 (by decide)]) (fun i => by rw [f2 86 i (wOf_no rfl i), f1 86 i (wOf_no rfl i)]) (fun i => by rw [f2 87 i (wOf_no rfl i), f1 87 i (wOf_no rfl i)]) (fun i => by rw [f2 88 i (wOf_no rfl i), f1 88 i (wOf_no rfl i)]) (by rw [f2 65 34 (by decide), f1 65 34 (by decide)]) (by rw [f2 65 0 (by decide), f1 65 0 (by decide)]; exact Int.le_refl _), ?_, ?_, ?_, ?_, ?_, ?_, ?_, ?_, ?_, ?_, ?_, ?_, ?_, ?_, ?_, ?_, ?_⟩
  · rw [f2 0 10 (by decide), f1 0 10 (by decide), f2 65 0 (by decide), f1 65 0 (by decide)]; exact h_now
  · rw [f2 1 10 (by decide), f1 1 10 (by decide), f2 65 1 (by decide), f1 65 1 (by decide)]; exact h_siz
  · rw [f2 27 14 (by decide), f1 27 14 (by decide), f2 65 21 (by decide), f1 65 21 (by decide)]; exact h_chg
  · rw [f2 22 2 (by decide), f1 22 2 (by decide), f2 65 14 (by decide), f1 65 14 (by decide)]; exact h_len
  · rw [f2 52 13 (by decide), f1 52 13 (by decide), f2 65 37 (by decide), f1 65 37 (by decide)]; exact h_bnd
  · rw [f2 1 11 (by decide), f1 1 11 (by decide), f2 65 9 (by decide), f1 65 9 (by decide)]; exact h_rkn
  · rw [f2 12 4 (by decide), f1 12 4 (by decide), f2 65 11 (by decide), f1 65 11 (by decide)]; exact h_fds
  · intro i; rw [f2 2 i (wOf_no rfl i), f1 2 i (wOf_no rfl i), f2 66 i (wOf_no rfl i), f1 66 i (wOf_no rfl i)]; exact h_a2 i
  · intro i; rw [f2 3 i (wOf_no rfl i), f1 3 i (wOf_no rfl i), f2 67 i (wOf_no rfl i), f1 67 i (wOf_no rfl i)]; exact h_a3 i
  · intro i; rw [f2 4 i (wOf_no rfl i), f1 4 i (wOf_no rfl i), f2 68 i (wOf_no rfl i), f1 68 i (wOf_no rfl i)]; exact h_a4 i
  · intro i; rw [f2 5 i (wOf_no rfl i), f1 5 i (wOf_no rfl i), f2 69 i (wOf_no rfl i), f1 69 i (wOf_no rfl i)]; exact h_a5 i
  · intro i; rw [f2 6 i (wOf_no rfl i), f1 6 i (wOf_no rfl i), f2 70 i (wOf_no rfl i), f1 70 i (wOf_no rfl i)]; exact h_a6 i
  · intro i; rw [f2 7 i (wOf_no rfl i), f1 7 i (wOf_no rfl i), f2 71 i (wOf_no rfl i), f1 71 i (wOf_no rfl i)]; exact h_a7 i
  · intro i; rw [f2 8 i (wOf_no rfl i), f1 8 i (wOf_no rfl i), f2 72 i (wOf_no rfl i), f1 72 i (wOf_no rfl i)]; exact h_a8 i
  · exact CR_same h_cr (by rw [f2 1 11 (by decide), f1 1 11 (by decide)]) (fun i => by rw [f2 9 i (wOf_no rfl i), f1 9 i (wOf_no rfl i)]) (fun i => by rw [f2 10 i (wOf_no rfl i), f1 10 i (wOf_no rfl i)]) (fun i => by rw [f2 11 i (wOf_no rfl i), f1 11 i (wOf_no rfl i)]) (fun i => by rw [f2 73 i (wOf_no rfl i), f1 73 i (wOf_no rfl i)]) (by rw [f2 0 10 (by decide), f1 0 10 (by decide)]; exact Int.le_refl _)
  · intro j hj
    have hj : (j : Int) < M 12 4 := by
      rw [f2 12 4 (by decide), f1 12 4 (by decide)] at hj
      exact hj
    obtain ⟨⟨a1, a2, a3, a4⟩, ⟨b1, b2⟩, c0⟩ := h_cf j hj
    rw [f2 13 j (wOf_no rfl j), f1 13 j (wOf_no rfl j), f2 14 j (wOf_no rfl j), f1 14 j (wOf_no rfl j), f2 15 j (wOf_no rfl j), f1 15 j (wOf_no rfl j), f2 16 j (wOf_no rfl j), s16 j, s74 (4 * j), s74 (4 * j + 1), s74 (4 * j + 2), s74 (4 * j + 3), f2 0 10 (by decide), f1 0 10 (by decide), if_neg (by omega : ¬ 4 * j = 4 * k + 3), if_neg (by omega : ¬ 4 * j + 1 = 4 * k + 3), if_neg (by omega : ¬ 4 * j + 2 = 4 * k + 3), h7, h7, h7]
    by_cases h : j = k
    · rw [if_pos h, if_pos (by omega)]
      exact ⟨⟨a1, a2, a3, rfl⟩, ⟨b1, Int.le_refl _⟩, fun l hl g => absurd g (by omega)⟩
    · rw [if_neg h, if_neg (by omega), h7]
      refine ⟨⟨a1, a2, a3, a4⟩, ⟨b1, b2⟩, fun l hl => ?_⟩
      have hl : (l : Int) < M 12 4 := by
        rw [f2 12 4 (by decide), f1 12 4 (by decide)] at hl
        exact hl
      rw [f2 13 l (wOf_no rfl l), f1 13 l (wOf_no rfl l), f2 14 l (wOf_no rfl l), f1 14 l (wOf_no rfl l), f2 16 l (wOf_no rfl l), s16 l]
      by_cases h2 : l = k
      · rw [if_pos h2]
        intro _ g
        exact absurd g (by omega)
      · rw [if_neg h2]
        exact c0 l hl
  · exact CK_same h_ck (by rw [f2 1 10 (by decide), f1 1 10 (by decide)]) (fun i => by rw [f2 5 i (wOf_no rfl i), f1 5 i (wOf_no rfl i)]) (fun i => by rw [f2 6 i (wOf_no rfl i), f1 6 i (wOf_no rfl i)]) (fun i => by rw [f2 18 i (wOf_no rfl i), f1 18 i (wOf_no rfl i)])
theorem pr_kin {X : Xs} {a b w : Int} : Pr X PJ 89 30 137 30 [vI a, vI b, vI w] True := by
  intro M hT hP
  obtain ⟨hJ, h_now, h_siz, h_chg, h_len, h_bnd, h_rkn, h_fds, h_a2, h_a3, h_a4, h_a5, h_a6, h_a7, h_a8, h_cr, h_cf, h_ck⟩ := hP
  have bS : 0 ≤ M 1 10 ∧ M 1 10 ≤ 30 := hT 1 10
  refine (px89 (a := a) (b := b) (w := w) hT h_ck).mono fun v1 M1 q1 => ⟨q1.1, ?_⟩
  obtain ⟨t1, f1, x1⟩ := q1
  have hFa : ∀ k : Nat, k < (M1 65 1).toNat → M1 69 k = (fun k => M 5 k) k := fun k _ => by
    rw [f1 69 k (wOf_no rfl k)]
    exact (h_a5 k).symm
  have hGa : ∀ k : Nat, k < (M1 65 1).toNat → M1 70 k = (fun k => M 6 k) k := fun k _ => by
    rw [f1 70 k (wOf_no rfl k)]
    exact (h_a6 k).symm
  have hTB1 : TBn (fun k => M 5 k) (fun k => M 6 k) (tbM M) (M1 65 1).toNat := by
    rw [f1 65 1 (by decide), ← h_siz]
    exact h_ck
  refine (px137 (a := a) (b := b) (w := w) t1 hTB1 hFa hGa).mono fun v2 M2 q2 => ?_
  obtain ⟨t2, f2, x2⟩ := q2
  rw [f1 65 1 (by decide), ← h_siz] at x2
  refine ⟨t2, ?_, fun _ => ?_⟩
  · refine ⟨JM_same hJ (by rw [f2 65 28 (by decide), f1 65 28 (by decide)]) (fun i => by rw [f2 86 i (wOf_no rfl i), f1 86 i (wOf_no rfl i)]) (fun i => by rw [f2 87 i (wOf_no rfl i), f1 87 i (wOf_no rfl i)]) (fun i => by rw [f2 88 i (wOf_no rfl i), f1 88 i (wOf_no rfl i)]) (by rw [f2 65 34 (by decide), f1 65 34 (by decide)]) (by rw [f2 65 0 (by decide), f1 65 0 (by decide)]; exact Int.le_refl _), ?_, ?_, ?_, ?_, ?_, ?_, ?_, ?_, ?_, ?_, ?_, ?_, ?_, ?_, ?_, ?_, ?_⟩
    · rw [f2 0 10 (by decide), f1 0 10 (by decide), f2 65 0 (by decide), f1 65 0 (by decide)]; exact h_now
    · rw [f2 1 10 (by decide), f1 1 10 (by decide), f2 65 1 (by decide), f1 65 1 (by decide)]; exact h_siz
    · rw [f2 27 14 (by decide), f1 27 14 (by decide), f2 65 21 (by decide), f1 65 21 (by decide)]; exact h_chg
    · rw [f2 22 2 (by decide), f1 22 2 (by decide), f2 65 14 (by decide), f1 65 14 (by decide)]; exact h_len
    · rw [f2 52 13 (by decide), f1 52 13 (by decide), f2 65 37 (by decide), f1 65 37 (by decide)]; exact h_bnd
    · rw [f2 1 11 (by decide), f1 1 11 (by decide), f2 65 9 (by decide), f1 65 9 (by decide)]; exact h_rkn
    · rw [f2 12 4 (by decide), f1 12 4 (by decide), f2 65 11 (by decide), f1 65 11 (by decide)]; exact h_fds
    · intro i; rw [f2 2 i (wOf_no rfl i), f1 2 i (wOf_no rfl i), f2 66 i (wOf_no rfl i), f1 66 i (wOf_no rfl i)]; exact h_a2 i
    · intro i; rw [f2 3 i (wOf_no rfl i), f1 3 i (wOf_no rfl i), f2 67 i (wOf_no rfl i), f1 67 i (wOf_no rfl i)]; exact h_a3 i
    · intro i; rw [f2 4 i (wOf_no rfl i), f1 4 i (wOf_no rfl i), f2 68 i (wOf_no rfl i), f1 68 i (wOf_no rfl i)]; exact h_a4 i
    · intro i; rw [f2 5 i (wOf_no rfl i), f1 5 i (wOf_no rfl i), f2 69 i (wOf_no rfl i), f1 69 i (wOf_no rfl i)]; exact h_a5 i
    · intro i; rw [f2 6 i (wOf_no rfl i), f1 6 i (wOf_no rfl i), f2 70 i (wOf_no rfl i), f1 70 i (wOf_no rfl i)]; exact h_a6 i
    · intro i; rw [f2 7 i (wOf_no rfl i), f1 7 i (wOf_no rfl i), f2 71 i (wOf_no rfl i), f1 71 i (wOf_no rfl i)]; exact h_a7 i
    · intro i; rw [f2 8 i (wOf_no rfl i), f1 8 i (wOf_no rfl i), f2 72 i (wOf_no rfl i), f1 72 i (wOf_no rfl i)]; exact h_a8 i
    · exact CR_same h_cr (by rw [f2 1 11 (by decide), f1 1 11 (by decide)]) (fun i => by rw [f2 9 i (wOf_no rfl i), f1 9 i (wOf_no rfl i)]) (fun i => by rw [f2 10 i (wOf_no rfl i), f1 10 i (wOf_no rfl i)]) (fun i => by rw [f2 11 i (wOf_no rfl i), f1 11 i (wOf_no rfl i)]) (fun i => by rw [f2 73 i (wOf_no rfl i), f1 73 i (wOf_no rfl i)]) (by rw [f2 0 10 (by decide), f1 0 10 (by decide)]; exact Int.le_refl _)
    · exact CF_same h_cf (by rw [f2 12 4 (by decide), f1 12 4 (by decide)]) (fun i => by rw [f2 13 i (wOf_no rfl i), f1 13 i (wOf_no rfl i)]) (fun i => by rw [f2 14 i (wOf_no rfl i), f1 14 i (wOf_no rfl i)]) (fun i => by rw [f2 15 i (wOf_no rfl i), f1 15 i (wOf_no rfl i)]) (fun i => by rw [f2 16 i (wOf_no rfl i), f1 16 i (wOf_no rfl i)]) (fun i => by rw [f2 74 i (wOf_no rfl i), f1 74 i (wOf_no rfl i)]) (by rw [f2 0 10 (by decide), f1 0 10 (by decide)]; exact Int.le_refl _)
    · exact CK_same h_ck (by rw [f2 1 10 (by decide), f1 1 10 (by decide)]) (fun i => by rw [f2 5 i (wOf_no rfl i), f1 5 i (wOf_no rfl i)]) (fun i => by rw [f2 6 i (wOf_no rfl i), f1 6 i (wOf_no rfl i)]) (fun i => by rw [f2 18 i (wOf_no rfl i), f1 18 i (wOf_no rfl i)])
  rcases x1 with ⟨a1, rfl⟩ | ⟨a1, a2, rfl⟩ | ⟨a1, a2, d1, u1, h1, rfl, k1, k2, k3⟩
  · rcases x2 with ⟨b1, rfl⟩ | ⟨b1, b2, rfl⟩ | ⟨b1, b2, d2, u2, h2, rfl, l1, l2, l3⟩
    · rfl
    · exact absurd a1 b1
    · exact absurd a1 b1
  · rcases x2 with ⟨b1, rfl⟩ | ⟨b1, b2, rfl⟩ | ⟨b1, b2, d2, u2, h2, rfl, l1, l2, l3⟩
    · exact absurd b1 a1
    · rfl
    · exact absurd a2 b2
  · rcases x2 with ⟨b1, rfl⟩ | ⟨b1, b2, rfl⟩ | ⟨b1, b2, d2, u2, h2, rfl, l1, l2, l3⟩
    · exact absurd b1 a1
    · exact absurd b2 a2
    · have hn : (M 1 10).toNat ≤ 30 := by omega
      have pa : a.toNat < (M 1 10).toNat := by omega
      have pb : b.toNat < (M 1 10).toNat := by omega
      have r := mF_cF (A := tbM M a.toNat) (B := tbM M b.toNat) (S := fun k => eT (tbM M) a.toNat k + eT (tbM M) b.toNat k) (c := (M 1 10).toNat) (fun k hk => by
        have r1 := tb_rng h_ck hn a.toNat pa k (by omega)
        have r2 := tb_rng h_ck hn b.toNat pb k (by omega)
        unfold eT
        split <;> split <;> omega) _ (Nat.le_refl _)
      have st := cF_stay (A := tbM M a.toNat) (B := tbM M b.toNat) (l := min a.toNat b.toNat + 1) ((M 1 10).toNat - (min a.toNat b.toNat + 1)) (fun k g1 g2 => by
        have r1 := tb_rng h_ck hn a.toNat pa k (by omega)
        have r2 := tb_rng h_ck hn b.toNat pb k (by omega)
        omega)
      rw [show min a.toNat b.toNat + 1 + ((M 1 10).toNat - (min a.toNat b.toNat + 1)) = (M 1 10).toNat by omega] at st
      rw [st] at r
      unfold rMC at r
      generalize mF (fun k => eT (tbM M) a.toNat k + eT (tbM M) b.toNat k) (M 1 10).toNat = m at r l1 l2 l3
      generalize cF (tbM M a.toNat) (tbM M b.toNat) (min a.toNat b.toNat + 1) = c at r k1 k2 k3
      have e1 : d1 = d2 := by
        by_cases g : 8 < m.1
        · rw [if_pos g] at l1; omega
        · rw [if_neg g] at l1; omega
      have e2 : u1 = u2 := by
        by_cases g : 8 < m.1
        · rw [if_pos g] at l2; omega
        · rw [if_neg g] at l2; omega
      have e3 : h1 = h2 := by omega
      rw [e1, e2, e3]
