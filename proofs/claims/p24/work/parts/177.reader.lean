/-! the model's reader: where it reads never goes back, and a rule brings it on -/
theorem den_mono {X : Xs} {D : Nat} {CT CT' : Nat → List V → Mm → Prop} {Q Q' : Option V → Mm → Prop} (hC : ∀ i as M, CT i as M → CT' i as M) (hQ : ∀ v M, Q v M → Q' v M) : ∀ (F : Nat) (l : List Node) (n : Nat) (σ : Nat → Int) (M : Mm), den X (CPd X D) CT Q F l n σ M → den X (CPd X D) CT' Q' F l n σ M := by
  intro F
  induction F with
  | zero => intro l n σ M h; exact h
  | succ F ih =>
    intro l n σ M h
    cases l with
    | nil => exact h
    | cons x r =>
      by_cases hx : x.1 < 15
      · have h : (if x.1 < 15 then nd X x n σ M (fun τ M' => den X (CPd X D) CT Q F r (n + bn x) τ M') else _) := h
        rw [if_pos hx] at h
        exact den_lt hx (nd_mono (fun τ M' _ q => ih r _ τ M' q) h)
      · have h : (if x.1 < 15 then _ else _) := h
        rw [if_neg hx] at h
        show (if x.1 < 15 then _ else _)
        rw [if_neg hx]
        split at h
        · exact ⟨fun q => ih _ n σ M (h.1 q), fun q => ih _ n σ M (h.2 q)⟩
        · obtain ⟨d', h1, h2⟩ := h
          exact ⟨d', h1, h2.mono fun v M' q a b c => ih r _ _ M' (q a b c)⟩
        · exact hC _ _ _ h
        · exact hQ _ _ h
        · exact hQ _ _ h
        · exact h.elim
def hA : Hk := (fun cs j f g => bif Nat.beq j 65 then (bif Nat.beq f.1 0 then (bif decide (f.2 = 43) then (match kfind cs 65 (0, 43) with
    | some u => Nat.beq u.1 g.1 && decide (u.2 ≤ g.2)
    | none => false) else true) else false) else true, fun _ _ _ => true, fun j => !(Nat.beq j 65), fun _ _ => true)
def hR (v : Option AV) (cs : CS) : Bool := match kfind cs 65 (0, 43), kfind cs 65 (0, 45), kfind cs 65 (0, 44) with
  | some f, some g, some w => decide (0 ≤ (dfI cs 1 g f).1) && (decide (1 ≤ (dfI cs 1 g f).1) || (decide ((ivf cs w).1 = 0) && decide ((ivf cs w).2 = 0)))
  | _, _, _ => false
def hAR : Hk := (hA.1, hA.2.1, hA.2.2.1, hR)
def R145 (_ : Option V) (M : Mm) : Prop := M 65 43 ≤ M 65 45 ∧ (M 65 44 ≠ 0 → M 65 43 + 1 ≤ M 65 45)
theorem hA_st (a : Int) (cs : CS) (σ : Nat → Int) (M : Mm) (j : Nat) (f g : Fm) (h : Ok cs σ M) (h0 : 0 ≤ fv σ f) (hs : hA.1 cs j f g = true) (hP : a ≤ M 65 43) : a ≤ up M j (fv σ f).toNat (fv σ g) 65 43 := by
  unfold up
  split
  next e =>
    obtain ⟨e1, e2⟩ := e
    subst e1
    have hs : (bif Nat.beq f.1 0 then (bif decide (f.2 = 43) then (match kfind cs 65 (0, 43) with
      | some u => Nat.beq u.1 g.1 && decide (u.2 ≤ g.2)
      | none => false) else true) else false) = true := hs
    cases e3 : Nat.beq f.1 0 with
    | false => rw [e3] at hs; cases hs
    | true =>
      rw [e3] at hs
      have hs : (bif decide (f.2 = 43) then (match kfind cs 65 (0, 43) with
        | some u => Nat.beq u.1 g.1 && decide (u.2 ≤ g.2)
        | none => false) else true) = true := hs
      have e4 := fv_0 (σ := σ) (Nat.eq_of_beq_eq_true e3)
      have e5 : f.2 = 43 := by omega
      rw [decide_eq_true e5] at hs
      have hs : (match kfind cs 65 (0, 43) with
        | some u => Nat.beq u.1 g.1 && decide (u.2 ≤ g.2)
        | none => false) = true := hs
      split at hs
      next u hu =>
        rw [Bool.and_eq_true, decide_eq_true_eq] at hs
        obtain ⟨-, k2⟩ := kfind_ok h hu
        have k2 : M 65 43 = fv σ u := k2
        have := fv_base (σ := σ) (Nat.eq_of_beq_eq_true hs.1)
        omega
      next => cases hs
  next => exact hP
theorem hA_cp (a : Int) (M : Mm) (j1 j2 sp dp q : Nat) (hs : hA.2.2.1 j2 = true) (hP : a ≤ M 65 43) : a ≤ cpM M j1 j2 sp dp q 65 43 := by
  unfold cpM
  rw [if_neg]
  · exact hP
  · rintro ⟨e, -, -⟩
    subst e
    cases hs
theorem hA_ok (a : Int) : HkOK hA (fun M => a ≤ M 65 43) (fun _ _ _ => True) (fun _ _ => True) := ⟨fun cs σ M j f g h _ _ _ h0 hs hP => hA_st a cs σ M j f g h h0 hs hP, fun _ _ _ _ _ _ _ _ _ _ => trivial, fun M j1 j2 sp dp q _ hs hP => hA_cp a M j1 j2 sp dp q hs hP, fun _ _ _ _ _ _ _ _ _ => trivial⟩
theorem hAR_ok (a : Int) : HkOK hAR (fun M => a ≤ M 65 43) (fun _ _ _ => True) R145 := by
  refine ⟨fun cs σ M j f g h _ _ _ h0 hs hP => hA_st a cs σ M j f g h h0 hs hP, fun _ _ _ _ _ _ _ _ _ _ => trivial, fun M j1 j2 sp dp q _ hs hP => hA_cp a M j1 j2 sp dp q hs hP, fun cs σ M v h _ _ hs _ => ?_⟩
  have hs : hR v cs = true := hs
  unfold hR at hs
  split at hs
  next f g w hf hg hw =>
    obtain ⟨f1, f2⟩ := kfind_ok h hf
    obtain ⟨g1, g2⟩ := kfind_ok h hg
    obtain ⟨w1, w2⟩ := kfind_ok h hw
    have f2 : M 65 43 = fv σ f := f2
    have g2 : M 65 45 = fv σ g := g2
    have w2 : M 65 44 = fv σ w := w2
    have d : (dfI cs 1 g f).1 ≤ fv σ g - fv σ f ∧ fv σ g - fv σ f ≤ (dfI cs 1 g f).2 := dfI_ok (b := 1) h g1 f1
    have iw := ivf_ok h w1
    simp only [Bool.and_eq_true, Bool.or_eq_true, decide_eq_true_eq] at hs
    obtain ⟨s1, s2⟩ := hs
    show M 65 43 ≤ M 65 45 ∧ (M 65 44 ≠ 0 → M 65 43 + 1 ≤ M 65 45)
    omega
  next => cases hs
theorem os143A : okStart hA [] inlF [] [] cu143_0 4000 sp143_0 = true := by decide +kernel
theorem oc143A : cu143_0.all (okCut hA [] inlF [] cu143_0 4000 sp143_0) = true := by decide +kernel
theorem here_a (X : Xs) (a : Int) : SpecP X (fun M => a ≤ M 65 43) sp143_0 := sp_soundP (hA_ok a) sps_nil rfl os143A (List.all_eq_true.mp oc143A)
theorem sA_c {X : Xs} {P : Mm → Prop} {sp : Spec} {sps : List Spec} (h : SpecP X P sp) (hS : ∀ s ∈ sps, SpecP X P s) : ∀ s ∈ sp :: sps, SpecP X P s := List.forall_mem_cons.mpr ⟨h, hS⟩
theorem sA_n {X : Xs} {P : Mm → Prop} : ∀ s ∈ ([] : List Spec), SpecP X P s := fun s hs => (by cases hs)
theorem os148A0 : okStart hA [sp143_0] inlF [] [] cu148_0 4000 sp148_0 = true := by decide +kernel
theorem oc148A0 : cu148_0.all (okCut hA [sp143_0] inlF [] cu148_0 4000 sp148_0) = true := by decide +kernel
theorem number_a0 (X : Xs) (a : Int) : SpecP X (fun M => a ≤ M 65 43) sp148_0 := sp_soundP (hA_ok a) (sA_c (here_a X a) sA_n) rfl os148A0 (List.all_eq_true.mp oc148A0)
theorem os148A1 : okStart hA [sp143_0] inlF [] [] cu148_1 4000 sp148_1 = true := by decide +kernel
theorem oc148A1 : cu148_1.all (okCut hA [sp143_0] inlF [] cu148_1 4000 sp148_1) = true := by decide +kernel
theorem number_a1 (X : Xs) (a : Int) : SpecP X (fun M => a ≤ M 65 43) sp148_1 := sp_soundP (hA_ok a) (sA_c (here_a X a) sA_n) rfl os148A1 (List.all_eq_true.mp oc148A1)
theorem os148A2 : okStart hA [sp143_0] inlF [] [] cu148_2 4000 sp148_2 = true := by decide +kernel
theorem oc148A2 : cu148_2.all (okCut hA [sp143_0] inlF [] cu148_2 4000 sp148_2) = true := by decide +kernel
theorem number_a2 (X : Xs) (a : Int) : SpecP X (fun M => a ≤ M 65 43) sp148_2 := sp_soundP (hA_ok a) (sA_c (here_a X a) sA_n) rfl os148A2 (List.all_eq_true.mp oc148A2)
theorem os148A3 : okStart hA [sp143_0] inlF [] [] cu148_3 4000 sp148_3 = true := by decide +kernel
theorem oc148A3 : cu148_3.all (okCut hA [sp143_0] inlF [] cu148_3 4000 sp148_3) = true := by decide +kernel
theorem number_a3 (X : Xs) (a : Int) : SpecP X (fun M => a ≤ M 65 43) sp148_3 := sp_soundP (hA_ok a) (sA_c (here_a X a) sA_n) rfl os148A3 (List.all_eq_true.mp oc148A3)
def cu145 : List Cut := [(10, [0], [(2, 65, 0)], [(65, 43, 0, 240), (65, 45, 0, 240), (65, 44, 0, 0)], [(0, 0, 0), (-1, 2, 240)], [(1, 2, 1, 0, 0)]),
  (10, [0], [(2, 65, 0)], [(65, 43, 0, 239), (65, 45, 1, 240), (65, 44, 1, 2700000026)], [(0, 0, 0), (-1, 2, 240)], [(1, 2, 1, 1, 240)])]
theorem os145 : okStart hAR [sp143_0] inlF [] [] cu145 4000 sp145_0 = true := by decide +kernel
theorem oc145 : cu145.all (okCut hAR [sp143_0] inlF [] cu145 4000 sp145_0) = true := by decide +kernel
theorem word_r {X : Xs} {a : Int} {M : Mm} (hT : okTT M) (ha : a ≤ M 65 43) : Wp X 20 145 0 (eL 0 [vR 0 65]) [] M (Qp sp145_0.2.2.2.1 sp145_0.2.2.1 M (fun M => a ≤ M 65 43) R145) := sp_soundR (sp := sp145_0) (hAR_ok a) (sA_c (here_a X a) sA_n) rfl os145 (fun c h => Or.inl (List.all_eq_true.mp oc145 c h)) ⟨rfl, trivial⟩ hT ha
/-- ruleOf says none of an empty word -/
def W149 : Wl := sp149_0.2.2.2.1
def csR : CS := newB (newB (newB iniC 0 7 1) 0 10 1) 0 240 1
def spsR : List Spec := [sp139_0, sp140_0, sp148_0, sp148_1, sp148_2, sp148_3]
theorem restR : chk hA spsR W149 [((0, 2), [])] 30 [] [] none 200 [(16, 139, [(1, 1)]), (15, 0, [(1, 3), (0, 0), (0, 39)]), (15, 0, [(1, 1), (0, 0), (0, 7)]), (16, 148, [(4, 65), (0, 99)]), (0, 2, [(0, 20), (1, 0)]), (16, 140, [(1, 1), (0, 0)]), (0, 0, [(1, 5), (1, 6)]), (4, 65, [(0, 47)]), (11, 79, [(1, 7), (1, 8)]), (19, 0, [(1, 4)]), (15, 1, [(1, 1), (0, 1), (0, 23)]), (15, 0, [(1, 1), (0, 3), (0, 7)]), (16, 148, [(4, 65), (0, 1)]), (0, 2, [(0, 20), (1, 0)]), (16, 140, [(1, 1), (0, 0)]), (0, 0, [(1, 5), (1, 6)]), (4, 65, [(0, 47)]), (11, 79, [(1, 7), (1, 8)]), (19, 0, [(1, 4)]), (15, 1, [(1, 1), (0, 4), (0, 7)]), (16, 148, [(4, 65), (0, 9999)]), (0, 2, [(0, 20), (1, 0)]), (16, 140, [(1, 1), (0, 0)]), (0, 0, [(1, 5), (1, 6)]), (4, 65, [(0, 47)]), (11, 79, [(1, 7), (1, 8)]), (19, 0, [(1, 4)]), (16, 148, [(4, 65), (0, 1)]), (0, 2, [(0, 20), (1, 0)]), (16, 140, [(1, 1), (0, 0)]), (0, 0, [(1, 5), (1, 6)]), (4, 65, [(0, 47)]), (11, 79, [(1, 7), (1, 8)]), (19, 0, [(1, 4)]), (16, 148, [(4, 65), (0, 99)]), (0, 2, [(0, 20), (1, 0)]), (16, 140, [(1, 1), (0, 0)]), (0, 0, [(1, 5), (1, 6)]), (4, 65, [(0, 47)]), (11, 79, [(1, 7), (1, 8)]), (19, 0, [(1, 4)]), (16, 148, [(4, 65), (0, 3)]), (15, 5, [(1, 4), (0, 0), (0, 40)]), (4, 65, [(0, 47)]), (15, 0, [(1, 1), (0, 0), (0, 7)]), (16, 148, [(4, 65), (0, 99)]), (0, 2, [(0, 20), (1, 0)]), (16, 140, [(1, 1), (1, 5)]), (0, 0, [(1, 7), (1, 8)]), (4, 65, [(0, 47)]), (11, 79, [(1, 9), (1, 10)]), (19, 0, [(1, 6)]), (15, 1, [(1, 1), (0, 1), (0, 23)]), (15, 0, [(1, 1), (0, 3), (0, 7)]), (16, 148, [(4, 65), (0, 1)]), (0, 2, [(0, 20), (1, 0)]), (16, 140, [(1, 1), (1, 5)]), (0, 0, [(1, 7), (1, 8)]), (4, 65, [(0, 47)]), (11, 79, [(1, 9), (1, 10)]), (19, 0, [(1, 6)]), (15, 1, [(1, 1), (0, 4), (0, 7)]), (16, 148, [(4, 65), (0, 9999)]), (0, 2, [(0, 20), (1, 0)]), (16, 140, [(1, 1), (1, 5)]), (0, 0, [(1, 7), (1, 8)]), (4, 65, [(0, 47)]), (11, 79, [(1, 9), (1, 10)]), (19, 0, [(1, 6)]), (16, 148, [(4, 65), (0, 1)]), (0, 2, [(0, 20), (1, 0)]), (16, 140, [(1, 1), (1, 5)]), (0, 0, [(1, 7), (1, 8)]), (4, 65, [(0, 47)]), (11, 79, [(1, 9), (1, 10)]), (19, 0, [(1, 6)]), (16, 148, [(4, 65), (0, 99)]), (0, 2, [(0, 20), (1, 0)]), (16, 140, [(1, 1), (1, 5)]), (0, 0, [(1, 7), (1, 8)]), (4, 65, [(0, 47)]), (11, 79, [(1, 9), (1, 10)]), (19, 0, [(1, 6)]), (19, 0, [(1, 4)])] csR = true := by decide +kernel
theorem spsR_ok (X : Xs) (a : Int) : ∀ sp ∈ spsR, SpecP X (fun M => a ≤ M 65 43) sp := by
  have fr : ∀ {sp : Spec}, sp.2.2.2.1 = [] → SpecOK X sp → SpecP X (fun M => a ≤ M 65 43) sp := fun h hs => hs.frame fun M M' hf hp => by
    rw [h] at hf
    rw [hf 65 43 rfl]
    exact hp
  exact sA_c (fr rfl (ok139_0 X)) (sA_c (fr rfl (ok140_0 X)) (sA_c (number_a0 X a) (sA_c (number_a1 X a) (sA_c (number_a2 X a) (sA_c (number_a3 X a) sA_n)))))
