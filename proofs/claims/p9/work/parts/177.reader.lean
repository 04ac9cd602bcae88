/-! the model's reader: where it reads never goes back, and a rule brings it on -/
theorem den_mono {X : Xs} {D : Nat} {CT CT' : Nat → List V → Mm → Prop} {Q Q' : Option V → Mm → Prop} (hC : ∀ i as M, CT i as M → CT' i as M) (hQ : ∀ v M, Q v M → Q' v M) : ∀ (F : Nat) (l : List Node) (n : Nat) (σ : Nat → Int) (M : Mm), den X (CPd X D) CT Q F l n σ M → den X (CPd X D) CT' Q' F l n σ M := by
  intro F
  induction F with
  | zero => intro l n σ M h; exact h
  | succ F ih =>
    intro l n σ M h
    cases l with
    | nil => exact h
    | cons x r =>
      by_cases hx : x.1 < 15
      · have h : (if x.1 < 15 then nd X x n σ M (fun τ M' => den X (CPd X D) CT Q F r (n + bn x) τ M') else _) := h
        rw [if_pos hx] at h
        exact den_lt hx (nd_mono (fun τ M' _ q => ih r _ τ M' q) h)
      · have h : (if x.1 < 15 then _ else _) := h
        rw [if_neg hx] at h
        show (if x.1 < 15 then _ else _)
        rw [if_neg hx]
        split at h
        · exact ⟨fun q => ih _ n σ M (h.1 q), fun q => ih _ n σ M (h.2 q)⟩
        · obtain ⟨d', h1, h2⟩ := h
          exact ⟨d', h1, h2.mono fun v M' q a b c => ih r _ _ M' (q a b c)⟩
        · exact hC _ _ _ h
        · exact hQ _ _ h
        · exact hQ _ _ h
        · exact h.elim
def hA : Hk := (fun cs j f g => bif Nat.beq j 65 then (bif Nat.beq f.1 0 then (bif decide (f.2 = 43) then (match kfind cs 65 (0, 43) with
    | some u => Nat.beq u.1 g.1 && decide (u.2 ≤ g.2)
    | none => false) else true) else false) else true, fun _ _ _ => true, fun j => !(Nat.beq j 65), fun _ _ => true)
def hR (v : Option AV) (cs : CS) : Bool := match kfind cs 65 (0, 43), kfind cs 65 (0, 45), kfind cs 65 (0, 44) with
  | some f, some g, some w => decide (0 ≤ (dfI cs 1 g f).1) && (decide (1 ≤ (dfI cs 1 g f).1) || (decide ((ivf cs w).1 = 0) && decide ((ivf cs w).2 = 0)))
  | _, _, _ => false
def hAR : Hk := (hA.1, hA.2.1, hA.2.2.1, hR)
def R145 (_ : Option V) (M : Mm) : Prop := M 65 43 ≤ M 65 45 ∧ (M 65 44 ≠ 0 → M 65 43 + 1 ≤ M 65 45)
theorem hA_st (a : Int) (cs : CS) (σ : Nat → Int) (M : Mm) (j : Nat) (f g : Fm) (h : Ok cs σ M) (h0 : 0 ≤ fv σ f) (hs : hA.1 cs j f g = true) (hP : a ≤ M 65 43) : a ≤ up M j (fv σ f).toNat (fv σ g) 65 43 := by
  unfold up
  split
  next e =>
    obtain ⟨e1, e2⟩ := e
    subst e1
    have hs : (bif Nat.beq f.1 0 then (bif decide (f.2 = 43) then (match kfind cs 65 (0, 43) with
      | some u => Nat.beq u.1 g.1 && decide (u.2 ≤ g.2)
      | none => false) else true) else false) = true := hs
    cases e3 : Nat.beq f.1 0 with
    | false => rw [e3] at hs; cases hs
    | true =>
      rw [e3] at hs
      have hs : (bif decide (f.2 = 43) then (match kfind cs 65 (0, 43) with
        | some u => Nat.beq u.1 g.1 && decide (u.2 ≤ g.2)
        | none => false) else true) = true := hs
      have e4 := fv_0 (σ := σ) (Nat.eq_of_beq_eq_true e3)
      have e5 : f.2 = 43 := by omega
      rw [decide_eq_true e5] at hs
      have hs : (match kfind cs 65 (0, 43) with
        | some u => Nat.beq u.1 g.1 && decide (u.2 ≤ g.2)
        | none => false) = true := hs
      split at hs
      next u hu =>
        rw [Bool.and_eq_true, decide_eq_true_eq] at hs
        obtain ⟨-, k2⟩ := kfind_ok h hu
        have k2 : M 65 43 = fv σ u := k2
        have := fv_base (σ := σ) (Nat.eq_of_beq_eq_true hs.1)
        omega
      next => cases hs
  next => exact hP
theorem hA_cp (a : Int) (M : Mm) (j1 j2 sp dp q : Nat) (hs : hA.2.2.1 j2 = true) (hP : a ≤ M 65 43) : a ≤ cpM M j1 j2 sp dp q 65 43 := by
  unfold cpM
  rw [if_neg]
  · exact hP
  · rintro ⟨e, -, -⟩
    subst e
    cases hs
theorem hA_ok (a : Int) : HkOK hA (fun M => a ≤ M 65 43) (fun _ _ _ => True) (fun _ _ => True) := ⟨fun cs σ M j f g h _ _ _ h0 hs hP => hA_st a cs σ M j f g h h0 hs hP, fun _ _ _ _ _ _ _ _ _ _ => trivial, fun M j1 j2 sp dp q _ hs hP => hA_cp a M j1 j2 sp dp q hs hP, fun _ _ _ _ _ _ _ _ _ => trivial⟩
theorem hAR_ok (a : Int) : HkOK hAR (fun M => a ≤ M 65 43) (fun _ _ _ => True) R145 := by
  refine ⟨fun cs σ M j f g h _ _ _ h0 hs hP => hA_st a cs σ M j f g h h0 hs hP, fun _ _ _ _ _ _ _ _ _ _ => trivial, fun M j1 j2 sp dp q _ hs hP => hA_cp a M j1 j2 sp dp q hs hP, fun cs σ M v h _ _ hs _ => ?_⟩
  have hs : hR v cs = true := hs
  unfold hR at hs
  split at hs
  next f g w hf hg hw =>
    obtain ⟨f1, f2⟩ := kfind_ok h hf
    obtain ⟨g1, g2⟩ := kfind_ok h hg
    obtain ⟨w1, w2⟩ := kfind_ok h hw
    have f2 : M 65 43 = fv σ f := f2
    have g2 : M 65 45 = fv σ g := g2
    have w2 : M 65 44 = fv σ w := w2
    have d : (dfI cs 1 g f).1 ≤ fv σ g - fv σ f ∧ fv σ g - fv σ f ≤ (dfI cs 1 g f).2 := dfI_ok (b := 1) h g1 f1
    have iw := ivf_ok h w1
    simp only [Bool.and_eq_true, Bool.or_eq_true, decide_eq_true_eq] at hs
    obtain ⟨s1, s2⟩ := hs
    show M 65 43 ≤ M 65 45 ∧ (M 65 44 ≠ 0 → M 65 43 + 1 ≤ M 65 45)
    omega
  next => cases hs
theorem sA_c {X : Xs} {P : Mm → Prop} {sp : Spec} {sps : List Spec} (h : SpecP X P sp) (hS : ∀ s ∈ sps, SpecP X P s) : ∀ s ∈ sp :: sps, SpecP X P s := List.forall_mem_cons.mpr ⟨h, hS⟩
theorem sA_n {X : Xs} {P : Mm → Prop} : ∀ s ∈ ([] : List Spec), SpecP X P s := fun s hs => (by cases hs)
theorem os143A : okStart hA [] inlF [] [] cu143_0 4000 sp143_0 = true := by decide +kernel
theorem oc143A : cu143_0.all (okCut hA [] inlF [] cu143_0 4000 sp143_0) = true := by decide +kernel
theorem here_a (X : Xs) (a : Int) : SpecP X (fun M => a ≤ M 65 43) sp143_0 := sp_soundP (hA_ok a) sA_n rfl os143A (List.all_eq_true.mp oc143A)
theorem os148A0 : okStart hA [sp143_0] inlF [] [] cu148_0 4000 sp148_0 = true := by decide +kernel
theorem oc148A0 : cu148_0.all (okCut hA [sp143_0] inlF [] cu148_0 4000 sp148_0) = true := by decide +kernel
theorem number_a0 (X : Xs) (a : Int) : SpecP X (fun M => a ≤ M 65 43) sp148_0 := sp_soundP (hA_ok a) (sA_c (here_a X a) sA_n) rfl os148A0 (List.all_eq_true.mp oc148A0)
theorem os148A1 : okStart hA [sp143_0] inlF [] [] cu148_1 4000 sp148_1 = true := by decide +kernel
theorem oc148A1 : cu148_1.all (okCut hA [sp143_0] inlF [] cu148_1 4000 sp148_1) = true := by decide +kernel
theorem number_a1 (X : Xs) (a : Int) : SpecP X (fun M => a ≤ M 65 43) sp148_1 := sp_soundP (hA_ok a) (sA_c (here_a X a) sA_n) rfl os148A1 (List.all_eq_true.mp oc148A1)
theorem os148A2 : okStart hA [sp143_0] inlF [] [] cu148_2 4000 sp148_2 = true := by decide +kernel
theorem oc148A2 : cu148_2.all (okCut hA [sp143_0] inlF [] cu148_2 4000 sp148_2) = true := by decide +kernel
theorem number_a2 (X : Xs) (a : Int) : SpecP X (fun M => a ≤ M 65 43) sp148_2 := sp_soundP (hA_ok a) (sA_c (here_a X a) sA_n) rfl os148A2 (List.all_eq_true.mp oc148A2)
theorem os148A3 : okStart hA [sp143_0] inlF [] [] cu148_3 4000 sp148_3 = true := by decide +kernel
theorem oc148A3 : cu148_3.all (okCut hA [sp143_0] inlF [] cu148_3 4000 sp148_3) = true := by decide +kernel
theorem number_a3 (X : Xs) (a : Int) : SpecP X (fun M => a ≤ M 65 43) sp148_3 := sp_soundP (hA_ok a) (sA_c (here_a X a) sA_n) rfl os148A3 (List.all_eq_true.mp oc148A3)
def cu145 : List Cut := [(10, [0], [(2, 65, 0)], [(65, 43, 0, 240), (65, 45, 0, 240), (65, 44, 0, 0)], [(0, 0, 0), (-1, 2, 240)], [(1, 2, 1, 0, 0)]),
  (10, [0], [(2, 65, 0)], [(65, 43, 0, 239), (65, 45, 1, 240), (65, 44, 1, 2700000026)], [(0, 0, 0), (-1, 2, 240)], [(1, 2, 1, 1, 240)])]
theorem os145 : okStart hAR [sp143_0] inlF [] [] cu145 4000 sp145_0 = true := by decide +kernel
theorem oc145 : cu145.all (okCut hAR [sp143_0] inlF [] cu145 4000 sp145_0) = true := by decide +kernel
theorem word_r {X : Xs} {a : Int} {M : Mm} (hT : okTT M) (ha : a ≤ M 65 43) : Wp X 20 145 0 (eL 0 [vR 0 65]) [] M (Qp sp145_0.2.2.2.1 sp145_0.2.2.1 M (fun M => a ≤ M 65 43) R145) := sp_soundR (sp := sp145_0) (hAR_ok a) (sA_c (here_a X a) sA_n) rfl os145 (fun c h => Or.inl (List.all_eq_true.mp oc145 c h)) ⟨rfl, trivial⟩ hT ha
/-- ruleOf says none of an empty word -/
def W149 : Wl := sp149_0.2.2.2.1
def csR : CS := newB (newB (newB iniC 0 7 1) 0 10 1) 0 240 1
def spsR : List Spec := [sp139_0, sp140_0, sp148_0, sp148_1, sp148_2, sp148_3]
def lR : List Node := [(16, 139, [(1, 1)]), (15, 0, [(1, 3), (0, 0), (0, 39)]), (15, 0, [(1, 1), (0, 0), (0, 7)]), (16, 148, [(4, 65), (0, 99)]), (0, 2, [(0, 20), (1, 0)]), (16, 140, [(1, 1), (0, 0)]), (0, 0, [(1, 5), (1, 6)]), (4, 65, [(0, 47)]), (11, 79, [(1, 7), (1, 8)]), (19, 0, [(1, 4)]), (15, 1, [(1, 1), (0, 1), (0, 23)]), (15, 0, [(1, 1), (0, 3), (0, 7)]), (16, 148, [(4, 65), (0, 1)]), (0, 2, [(0, 20), (1, 0)]), (16, 140, [(1, 1), (0, 0)]), (0, 0, [(1, 5), (1, 6)]), (4, 65, [(0, 47)]), (11, 79, [(1, 7), (1, 8)]), (19, 0, [(1, 4)]), (15, 1, [(1, 1), (0, 4), (0, 7)]), (16, 148, [(4, 65), (0, 9999)]), (0, 2, [(0, 20), (1, 0)]), (16, 140, [(1, 1), (0, 0)]), (0, 0, [(1, 5), (1, 6)]), (4, 65, [(0, 47)]), (11, 79, [(1, 7), (1, 8)]), (19, 0, [(1, 4)]), (16, 148, [(4, 65), (0, 1)]), (0, 2, [(0, 20), (1, 0)]), (16, 140, [(1, 1), (0, 0)]), (0, 0, [(1, 5), (1, 6)]), (4, 65, [(0, 47)]), (11, 79, [(1, 7), (1, 8)]), (19, 0, [(1, 4)]), (16, 148, [(4, 65), (0, 99)]), (0, 2, [(0, 20), (1, 0)]), (16, 140, [(1, 1), (0, 0)]), (0, 0, [(1, 5), (1, 6)]), (4, 65, [(0, 47)]), (11, 79, [(1, 7), (1, 8)]), (19, 0, [(1, 4)]), (16, 148, [(4, 65), (0, 3)]), (15, 5, [(1, 4), (0, 0), (0, 40)]), (4, 65, [(0, 47)]), (15, 0, [(1, 1), (0, 0), (0, 7)]), (16, 148, [(4, 65), (0, 99)]), (0, 2, [(0, 20), (1, 0)]), (16, 140, [(1, 1), (1, 5)]), (0, 0, [(1, 7), (1, 8)]), (4, 65, [(0, 47)]), (11, 79, [(1, 9), (1, 10)]), (19, 0, [(1, 6)]), (15, 1, [(1, 1), (0, 1), (0, 23)]), (15, 0, [(1, 1), (0, 3), (0, 7)]), (16, 148, [(4, 65), (0, 1)]), (0, 2, [(0, 20), (1, 0)]), (16, 140, [(1, 1), (1, 5)]), (0, 0, [(1, 7), (1, 8)]), (4, 65, [(0, 47)]), (11, 79, [(1, 9), (1, 10)]), (19, 0, [(1, 6)]), (15, 1, [(1, 1), (0, 4), (0, 7)]), (16, 148, [(4, 65), (0, 9999)]), (0, 2, [(0, 20), (1, 0)]), (16, 140, [(1, 1), (1, 5)]), (0, 0, [(1, 7), (1, 8)]), (4, 65, [(0, 47)]), (11, 79, [(1, 9), (1, 10)]), (19, 0, [(1, 6)]), (16, 148, [(4, 65), (0, 1)]), (0, 2, [(0, 20), (1, 0)]), (16, 140, [(1, 1), (1, 5)]), (0, 0, [(1, 7), (1, 8)]), (4, 65, [(0, 47)]), (11, 79, [(1, 9), (1, 10)]), (19, 0, [(1, 6)]), (16, 148, [(4, 65), (0, 99)]), (0, 2, [(0, 20), (1, 0)]), (16, 140, [(1, 1), (1, 5)]), (0, 0, [(1, 7), (1, 8)]), (4, 65, [(0, 47)]), (11, 79, [(1, 9), (1, 10)]), (19, 0, [(1, 6)]), (19, 0, [(1, 4)])]
def tR : List Node := (4, 65, [(0, 45)]) :: (10, 65, [(0, 43), (1, 2)]) :: lR
def eR : List Node := [(4, 65, [(0, 43)]), (10, 65, [(0, 15), (1, 2)]), (19, 0, [(0, 1)])]
theorem d_brA {X : Xs} {CP : Nat → List V → Mm → (Option V → Mm → Prop) → Prop} {CT : Nat → List V → Mm → Prop} {Q : Option V → Mm → Prop} {F n c : Nat} {a b : AV} {t e : List Node} {σ : Nat → Int} {M : Mm} (h1 : icP c (nm σ a) (nm σ b) → den X CP CT Q F t n σ M) (h2 : ¬ icP c (nm σ a) (nm σ b) → den X CP CT Q F e n σ M) : den X CP CT Q (F + 1) ((15, c, [a, b, (0, (t.length : Int))]) :: (t ++ e)) n σ M := by
  refine ⟨fun q => ?_, fun q => ?_⟩
  · rw [Int.toNat_natCast, List.take_left]
    exact h1 q
  · rw [Int.toNat_natCast, List.drop_left]
    exact h2 q
theorem restR : chk hA spsR W149 [((0, 2), [])] 40 [] [] none 195 lR csR = true := by decide +kernel
theorem spsR_ok (X : Xs) (a : Int) : ∀ sp ∈ spsR, SpecP X (fun M => a ≤ M 65 43) sp := by
  have fr : ∀ {sp : Spec}, sp.2.2.2.1 = [] → SpecOK X sp → SpecP X (fun M => a ≤ M 65 43) sp := fun h hs => hs.frame fun M M' hf hp => by
    rw [h] at hf
    rw [hf 65 43 rfl]
    exact hp
  exact sA_c (fr rfl (ok139_0 X)) (sA_c (fr rfl (ok140_0 X)) (sA_c (number_a0 X a) (sA_c (number_a1 X a) (sA_c (number_a2 X a) (sA_c (number_a3 X a) sA_n)))))
def inlG (k : Nat) : Bool := inlF k || Nat.beq k 146
theorem rest0 : chk H0 [] [] [((-1, -1), [])] 30 [] [] none 4000 (cmp inlG (fun _ => none) 4000 false 0 147 0 (eLA 0 [(4, 65)]) [] []) (setB iniC [(65, 44, 0, 0)]) = true := by decide +kernel
theorem ruleOf_0 {X : Xs} {M : Mm} (hT : okTT M) (hw : M 65 44 = 0) : Wp X 30 147 0 (eL 0 [vR 0 65]) [] M (fun v M' => okTT M' ∧ FrM [] M M' ∧ ansIn [((-1, -1), [])] v M') := by
  have h := chk_sound H0_ok (X := X) sA_n (M0 := M) (T := none) 4000 _ (setB iniC [(65, 44, 0, 0)]) (fun _ => 0) M rest0 (setB_ok iniC_ok ?_) hT (fun _ _ _ => rfl) rfl trivial
  have := cmp_sound (d := 30) (k0 := 147) (cut := fun _ => none) (CT := CTp [] [] M none (fun _ => True) (fun _ _ _ => True)) (CP := CPd X 30) (fun k' as M Q' hq => hq) (fun i dl as' M' hi _ hct => (by cases hi)) (by decide) 4000 false 0 147 0 _ [] [] 4000 (fun _ => 0) M rfl (Nat.zero_le _) (wL_eLA (as := [(4, 65)]) (wS_b rfl)) (fun a ha => (by cases ha)) (fun a ha => (by cases ha)) h
  rw [eLA_ev] at this
  · exact this.mono fun v M' q => q.1
  · intro q hq
    obtain rfl := List.mem_singleton.mp hq
    show (0 : Int) ≤ M 65 44 ∧ M 65 44 ≤ 0
    omega
theorem ret_some {r : Option FieldType} {v : Option V} (h : retOK r v) (hr : r ≠ none) : ∃ x, v = some x := by
  cases v with
  | some x => exact ⟨x, rfl⟩
  | none =>
    exfalso
    unfold retOK at h
    split at h
    · exact hr rfl
    all_goals first | exact h | contradiction
theorem rb145 : rb 145 = 0 := by decide +kernel
theorem rb147 : rb 147 = 1 := by decide +kernel
theorem mR147 : mR 147 ≠ none := by decide +kernel
theorem rule_r {X : Xs} {a part : Int} {M : Mm} (hT : okTT M) (ha : a ≤ M 65 43) (hp : 0 ≤ part ∧ part ≤ 7) : Wp X 40 149 0 (eL 0 [vR 0 65, vI part]) [] M (fun v M' => okTT M' ∧ FrM W149 M M' ∧ a ≤ M' 65 43 ∧ ∀ x, v = some x → 0 ≤ oz v ∧ oz v ≤ 2 ∧ (oz v = 0 → a + 1 ≤ M' 65 43)) := by
  refine Wp_den 1 200 [(4, 65), (1, 0)] (us (fun _ => 0) 0 part) ((16, 145, [(4, 65)]) :: (16, 147, [(4, 65)]) :: (15, 3, [(1, 1), (0, 0), (0, (tR.length : Int))]) :: (tR ++ eR)) (by decide +kernel) rfl rfl (by decide) ?_
  refine d_ca ⟨20, by decide, (word_r hT ha).mono fun v1 M1 h1 _ _ _ => ?_⟩
  obtain ⟨⟨t1, f1, -⟩, a1, r1, r2⟩ := h1
  rw [rb145]
  have f1 : FrM W149 M M1 := FrM_sub (fun _ _ _ => rfl) (by decide) f1
  have bad : ∀ (F : Nat) (σ : Nat → Int) (M2 : Mm), okTT M2 → FrM W149 M M2 → a ≤ M2 65 43 → den X (CPd X 40) (fun _ _ _ => False) (fun v M' => okTT M' ∧ FrM W149 M M' ∧ a ≤ M' 65 43 ∧ ∀ x, v = some x → 0 ≤ oz v ∧ oz v ≤ 2 ∧ (oz v = 0 → a + 1 ≤ M' 65 43)) (F + 3) [(4, 65, [(0, 43)]), (10, 65, [(0, 15), (1, 2)]), (19, 0, [(0, 1)])] 2 σ M2 := by
    intro F σ M2 t2 f2 a2
    refine d_ld fun _ => d_st (d_r1 ⟨okTT_up t2 ?_, FrM_up f2 (by decide), a2, fun x hx => ?_⟩)
    · have := t2 65 43
      have : 0 ≤ M2 65 43 ∧ M2 65 43 ≤ 240 := this
      show (-2147483648 : Int) ≤ M2 65 43 ∧ M2 65 43 ≤ 2147483647
      omega
    · show (0 : Int) ≤ 1 ∧ (1 : Int) ≤ 2 ∧ ((1 : Int) = 0 → _)
      omega
  by_cases hw : M1 65 44 = 0
  · refine d_ca ⟨30, by decide, (ruleOf_0 t1 hw).mono fun v2 M2 h2 hro _ _ => ?_⟩
    obtain ⟨t2, f2, o, ho, h3, -⟩ := h2
    obtain ⟨x, hx⟩ := ret_some hro mR147
    obtain rfl := List.mem_singleton.mp ho
    have h3 : -1 ≤ oz v2 ∧ oz v2 ≤ -1 := h3 x hx
    have e2 : M2 65 43 = M1 65 43 := f2 65 43 rfl
    rw [rb147]
    refine d_brA (fun h => ?_) fun h => ?_
    · have h : (0 : Int) ≤ oz v2 := h
      omega
    · exact bad _ _ M2 t2 (FrM_sub f1 (by decide) f2) (by omega)
  · refine d_ca ⟨20, by decide, (ok147_0 X [vR 0 65] M1 ⟨rfl, trivial⟩ t1 trivial).mono fun v2 M2 h2 hro _ _ => ?_⟩
    obtain ⟨t2, f2, ⟨o, ho, h3, -⟩, -⟩ := h2
    obtain ⟨x, hx⟩ := ret_some hro mR147
    obtain rfl := List.mem_singleton.mp ho
    have h3 : -1 ≤ oz v2 ∧ oz v2 ≤ 10 := h3 x hx
    have f2 : FrM [] M1 M2 := f2
    have e2 : M2 65 43 = M1 65 43 := f2 65 43 rfl
    have e3 : M2 65 45 = M1 65 45 := f2 65 45 rfl
    have r3 := r2 hw
    have b3 : 0 ≤ M2 65 45 ∧ M2 65 45 ≤ 240 := t2 65 45
    rw [rb147]
    refine d_brA (fun h => d_ld fun _ => d_st ?_) fun h => ?_
    · have h : (0 : Int) ≤ oz v2 := h
      have e4 : ∀ z : Int, up M2 65 43 z 65 43 = z := fun z => by unfold up; rw [if_pos ⟨rfl, rfl⟩]
      have hok : Ok csR (us (us (us (fun _ => 0) 0 part) 1 (oz v2)) 2 (M2 65 45)) (up M2 65 43 (M2 65 45)) := newB1 (cs := newB (newB iniC 0 7 1) 0 10 1) (newB1 (cs := newB iniC 0 7 1) (newB1 (cs := iniC) iniC_ok hp) ⟨h, h3.2⟩) b3
      refine den_mono (fun i as M' h => ?_) (fun v M' h => ?_) 195 lR _ _ _ (chk_sound (hA_ok (a + 1)) (spsR_ok X (a + 1)) (M0 := M) (T := none) 195 lR csR _ _ restR (hok.agree ?_) (okTT_up t2 b3) (FrM_up (FrM_sub f1 (by decide) f2) (by decide)) rfl (by show a + 1 ≤ up M2 65 43 (M2 65 45) 65 43; rw [e4]; omega))
      · obtain ⟨⟨c, hc, -⟩, -⟩ := h
        cases hc
      · obtain ⟨⟨h1, h2, o, ho, h3, -⟩, h4, -⟩ := h
        obtain rfl := List.mem_singleton.mp ho
        have h4 : a + 1 ≤ M' 65 43 := h4
        refine ⟨h1, h2, by omega, fun x hx => ?_⟩
        have h3 : 0 ≤ oz v ∧ oz v ≤ 2 := h3 x hx
        exact ⟨h3.1, h3.2, fun _ => h4⟩
      · intro j hj
        have hj : j < 3 := hj
        match j, hj with
        | 0, _ => rfl
        | 1, _ => rfl
        | 2, _ => rfl
    · exact bad _ _ M2 t2 (FrM_sub f1 (by decide) f2) (by omega)
/-! readPart -/
def sp150s : Spec := (150, [(2, 65, 0), (0, 0, 7)], [((0, 4), [])], sp150_0.2.2.2.1, 60)
def cu150 : List Cut := [(64, [0, 1, 3], [(2, 65, 0), (0, 0, 7), (0, 0, 20)], [], [(0, 0, 1), (-1, 2, 20)], []), (78, [0, 1], [(2, 65, 0), (0, 0, 7)], [], [(0, 0, 0), (0, 0, 0)], [])]
def sps150 : List Spec := [sp145_0, sp146_0, sp148_0]
theorem os150 : okStart H0 sps150 inlF [] [] cu150 4000 sp150s = true := by decide +kernel
theorem oc150 : okCut H0 sps150 inlF [] cu150 4000 sp150s (64, [0, 1, 3], [(2, 65, 0), (0, 0, 7), (0, 0, 20)], [], [(0, 0, 1), (-1, 2, 20)], []) = true := by decide +kernel
theorem mR143 : mR 143 ≠ none := by decide +kernel
theorem mR149 : mR 149 ≠ none := by decide +kernel
theorem rb143 : rb 143 = 1 := by decide +kernel
theorem rb149 : rb 149 = 1 := by decide +kernel
abbrev Q150 (M0 : Mm) : Option V → Mm → Prop := Qp sp150s.2.2.2.1 sp150s.2.2.1 M0 (fun _ => True) (fun _ _ => True)
theorem part_78 {X : Xs} {part : Int} {M0 : Mm} (hp : 0 ≤ part ∧ part ≤ 7) : ∀ (t : Nat) (a : Int) (M : Mm), a + t = 241 → a ≤ M 65 43 → okTT M → FrM sp150s.2.2.2.1 M0 M → Wp X 60 150 78 ([0, 1].zip [vR 0 65, vI part]) [] M (Q150 M0) := by
  intro t
  induction t with
  | zero =>
    intro a M ha h1 hT hF
    have : 0 ≤ M 65 43 ∧ M 65 43 ≤ 240 := hT 65 43
    omega
  | succ t ih =>
    intro a M ha h1 hT hF
    refine Wp_seg (cut := cutL [(64, [0, 1, 3]), (78, [0, 1])]) (CT := fun i as M' => i = 78 ∧ as = [vR 0 65, vI part] ∧ a + 1 ≤ M' 65 43 ∧ okTT M' ∧ FrM sp150s.2.2.2.1 M0 M') 1 40 [(4, 65), (1, 0)] (us (fun _ => 0) 0 part) [(16, 143, [(4, 65)]), (15, 0, [(1, 1), (0, 59), (0, 4)]), (4, 65, [(0, 43)]), (0, 0, [(1, 2), (0, 1)]), (10, 65, [(0, 43), (1, 3)]), (19, 0, [(0, 0)]), (16, 149, [(4, 65), (1, 0)]), (15, 5, [(1, 2), (0, 0), (0, 1)]), (17, 78, [(4, 65), (1, 0)]), (19, 0, [(1, 2)])] (by decide +kernel) rfl rfl (by decide) (fun i dl as M' hi _ h => ?_) ?_
    · obtain ⟨rfl, rfl, g1, g2, g3⟩ := h
      obtain rfl : [0, 1] = dl := Option.some.inj hi
      exact ih (a + 1) M' (by omega) g1 g2 g3
    · refine d_ca ⟨10, by decide, (here_a X a [vR 0 65] M ⟨rfl, trivial⟩ hT h1).mono fun v1 M1 q1 hro _ _ => ?_⟩
      obtain ⟨t1, f1, ⟨o, ho, h3, h4⟩, a1⟩ := q1
      have a1 : a ≤ M1 65 43 := a1
      have f1 : FrM sp150s.2.2.2.1 M0 M1 := FrM_sub hF (by decide) f1
      obtain ⟨x, hx⟩ := ret_some hro mR143
      have h3 := h3 x hx
      rw [rb143]
      refine d_br (fun h => d_ld fun _ => d_ib (d_st (d_r1 ?_))) fun h => d_ca ⟨40, by decide, (rule_r t1 a1 hp).mono fun v2 M2 q2 hro2 _ _ => ?_⟩
      · have h : oz v1 = 59 := h
        have b : 0 ≤ M1 65 43 ∧ M1 65 43 ≤ 239 := by
          rcases List.mem_cons.mp ho with rfl | ho
          · have h3 : -1 ≤ oz v1 ∧ oz v1 ≤ -1 := h3
            omega
          · obtain rfl := List.mem_singleton.mp ho
            exact h4 (65, 43, 0, 239) List.mem_cons_self
        have e : ib 0 (M1 65 43) 1 = M1 65 43 + 1 := ib0 (by unfold in32; omega)
        show Q150 M0 (some (vI 0)) (up M1 65 43 (ib 0 (M1 65 43) 1))
        rw [e]
        exact ⟨⟨okTT_up t1 (by show 0 ≤ M1 65 43 + 1 ∧ M1 65 43 + 1 ≤ 240; omega), FrM_up f1 (by decide), _, List.mem_cons_self, fun x hx => (by show (0 : Int) ≤ 0 ∧ (0 : Int) ≤ 4; omega), fun q hq => (by cases hq)⟩, trivial, trivial⟩
      · obtain ⟨t2, f2, -, h5⟩ := q2
        obtain ⟨y, hy⟩ := ret_some hro2 mR149
        obtain ⟨h6, h7, h8⟩ := h5 y hy
        have f2 : FrM sp150s.2.2.2.1 M0 M2 := FrM_sub f1 (by decide) f2
        rw [rb149]
        refine d_br (fun h => d_ct ⟨rfl, rfl, ?_, t2, f2⟩) fun h => d_r1 ?_
        · have h : oz v2 ≤ 0 := h
          exact h8 (by omega)
        · show Q150 M0 (some (vI (oz v2))) M2
          exact ⟨⟨t2, f2, _, List.mem_cons_self, fun x hx => (by show 0 ≤ oz v2 ∧ oz v2 ≤ 4; omega), fun q hq => (by cases hq)⟩, trivial, trivial⟩
theorem ok150s (X : Xs) : SpecOK X sp150s := by
  intro as M hp hT _
  refine (sp_soundR (sp := sp150s) (R := fun _ _ => True) H0_ok (sps_cons (ok145_0 X) (sps_cons (ok146_0 X) (sps_cons (ok148_0 X) sps_nil))) rfl os150 (fun c hc => ?_) hp hT trivial).mono fun v M' q => ⟨q.1.1, q.1.2.1, q.1.2.2, trivial⟩
  rcases List.mem_cons.mp hc with rfl | hc
  · exact Or.inl oc150
  · obtain rfl := List.mem_singleton.mp hc
    refine Or.inr ⟨by decide, fun as M1 g1 _ _ g4 g5 _ => ?_⟩
    obtain ⟨r, as, rfl, hr, g1⟩ := patsV_c g1
    obtain ⟨z, as, rfl, hz, g1⟩ := patsV_c g1
    obtain rfl := patsV_n g1
    obtain ⟨part, rfl, hp2⟩ := hz
    obtain rfl : r = vR 0 65 := hr
    have b : 0 ≤ M1 65 43 ∧ M1 65 43 ≤ 240 := g4 65 43
    exact part_78 hp2 241 0 M1 (by omega) b.1 g4 g5
theorem ok150_0 (X : Xs) : SpecOK X sp150_0 := fun as M hp hT h => ok150s X as M (by
  obtain ⟨r, as, rfl, hr, hp⟩ := patsV_c hp
  obtain ⟨z, as, rfl, hz, hp⟩ := patsV_c hp
  obtain rfl := patsV_n hp
  obtain ⟨y, rfl, hz⟩ := hz
  have hz : 0 ≤ y ∧ y ≤ 0 := hz
  exact ⟨hr, ⟨y, rfl, by show (0 : Int) ≤ y; omega, by show y ≤ (7 : Int); omega⟩, trivial⟩) hT h
theorem ok150_1 (X : Xs) : SpecOK X sp150_1 := fun as M hp hT h => ok150s X as M (by
  obtain ⟨r, as, rfl, hr, hp⟩ := patsV_c hp
  obtain ⟨z, as, rfl, hz, hp⟩ := patsV_c hp
  obtain rfl := patsV_n hp
  obtain ⟨y, rfl, hz⟩ := hz
  have hz : 1 ≤ y ∧ y ≤ 1 := hz
  exact ⟨hr, ⟨y, rfl, by show (0 : Int) ≤ y; omega, by show y ≤ (7 : Int); omega⟩, trivial⟩) hT h
theorem ok150_2 (X : Xs) : SpecOK X sp150_2 := fun as M hp hT h => ok150s X as M (by
  obtain ⟨r, as, rfl, hr, hp⟩ := patsV_c hp
  obtain ⟨z, as, rfl, hz, hp⟩ := patsV_c hp
  obtain rfl := patsV_n hp
  obtain ⟨y, rfl, hz⟩ := hz
  have hz : 2 ≤ y ∧ y ≤ 2 := hz
  exact ⟨hr, ⟨y, rfl, by show (0 : Int) ≤ y; omega, by show y ≤ (7 : Int); omega⟩, trivial⟩) hT h
theorem ok150_3 (X : Xs) : SpecOK X sp150_3 := fun as M hp hT h => ok150s X as M (by
  obtain ⟨r, as, rfl, hr, hp⟩ := patsV_c hp
  obtain ⟨z, as, rfl, hz, hp⟩ := patsV_c hp
  obtain rfl := patsV_n hp
  obtain ⟨y, rfl, hz⟩ := hz
  have hz : 3 ≤ y ∧ y ≤ 3 := hz
  exact ⟨hr, ⟨y, rfl, by show (0 : Int) ≤ y; omega, by show y ≤ (7 : Int); omega⟩, trivial⟩) hT h
theorem ok150_4 (X : Xs) : SpecOK X sp150_4 := fun as M hp hT h => ok150s X as M (by
  obtain ⟨r, as, rfl, hr, hp⟩ := patsV_c hp
  obtain ⟨z, as, rfl, hz, hp⟩ := patsV_c hp
  obtain rfl := patsV_n hp
  obtain ⟨y, rfl, hz⟩ := hz
  have hz : 4 ≤ y ∧ y ≤ 4 := hz
  exact ⟨hr, ⟨y, rfl, by show (0 : Int) ≤ y; omega, by show y ≤ (7 : Int); omega⟩, trivial⟩) hT h
theorem ok150_5 (X : Xs) : SpecOK X sp150_5 := fun as M hp hT h => ok150s X as M (by
  obtain ⟨r, as, rfl, hr, hp⟩ := patsV_c hp
  obtain ⟨z, as, rfl, hz, hp⟩ := patsV_c hp
  obtain rfl := patsV_n hp
  obtain ⟨y, rfl, hz⟩ := hz
  have hz : 5 ≤ y ∧ y ≤ 5 := hz
  exact ⟨hr, ⟨y, rfl, by show (0 : Int) ≤ y; omega, by show y ≤ (7 : Int); omega⟩, trivial⟩) hT h
theorem ok150_6 (X : Xs) : SpecOK X sp150_6 := fun as M hp hT h => ok150s X as M (by
  obtain ⟨r, as, rfl, hr, hp⟩ := patsV_c hp
  obtain ⟨z, as, rfl, hz, hp⟩ := patsV_c hp
  obtain rfl := patsV_n hp
  obtain ⟨y, rfl, hz⟩ := hz
  have hz : 6 ≤ y ∧ y ≤ 6 := hz
  exact ⟨hr, ⟨y, rfl, by show (0 : Int) ≤ y; omega, by show y ≤ (7 : Int); omega⟩, trivial⟩) hT h
theorem ok150_7 (X : Xs) : SpecOK X sp150_7 := fun as M hp hT h => ok150s X as M (by
  obtain ⟨r, as, rfl, hr, hp⟩ := patsV_c hp
  obtain ⟨z, as, rfl, hz, hp⟩ := patsV_c hp
  obtain rfl := patsV_n hp
  obtain ⟨y, rfl, hz⟩ := hz
  have hz : 7 ≤ y ∧ y ≤ 7 := hz
  exact ⟨hr, ⟨y, rfl, by show (0 : Int) ≤ y; omega, by show y ≤ (7 : Int); omega⟩, trivial⟩) hT h
