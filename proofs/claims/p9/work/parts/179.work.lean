/-! work of the model: behind it the CHARGE of each closing is decided -/
def W160 : Wl := sp160_0.2.2.2.1
def hWc (_ : Nat) (as : List AV) (cs : CS) : Bool := match as with
  | [a0, a1, a2] => decide (a0 = (4, 65)) && (decide (a1 = (1, 0)) && (isI a2 && (eqF (af cs a2) (2, 1) && (match kfind cs 86 (2, 0), kfind cs 87 (2, 0) with
    | some p, some c => decide (0 ≤ (ivf cs p).1) || (match kfind cs 94 c with
      | some s => decide (1 ≤ (ivf cs s).1)
      | none => false)
    | _, _ => false))))
  | _ => false
def hW : Hk := (fun cs j _ g => bif Nat.beq j 94 then decide (1 ≤ (ivf cs g).1) else true, hWc, fun j => !(Nat.beq j 94), fun _ _ => false)
def PW (Mi M : Mm) : Prop := ∀ c : Nat, Mi 94 c ≠ 0 → M 94 c ≠ 0
def EW (known : Int) (i : Nat) (_ : Nat) (as : List V) (M : Mm) : Prop := as = [vR 0 65, vI known, vI ((i + 1 : Nat) : Int)] ∧ (0 ≤ M 86 i ∨ M 94 (M 87 i).toNat ≠ 0)
theorem hW_ok (Mi : Mm) (known : Int) (i : Nat) : HkZ hW 2 (us (us (fun _ => 0) 0 known) 1 i) (PW Mi) (EW known i) (fun _ _ => False) := by
  refine ⟨fun cs σ M j f g _ h _ _ hg _ hs hP => ?_, fun cs σ M i' as hz h _ hw hs _ => ?_, fun M j1 j2 sp dp q _ hs hP => ?_, fun _ _ _ _ _ _ _ _ hs _ => absurd hs (by show ¬ (false = true); decide)⟩
  · intro c hc
    unfold up
    split
    next e =>
      obtain ⟨e1, -⟩ := e
      subst e1
      have hs : decide (1 ≤ (ivf cs g).1) = true := hs
      have := ivf_ok h hg
      have := of_decide_eq_true hs
      omega
    next => exact hP c hc
  · have hs : hWc i' as cs = true := hs
    have z0 : σ 0 = known := hz.2 0 (by decide)
    have z1 : σ 1 = (i : Int) := hz.2 1 (by decide)
    unfold hWc at hs
    split at hs
    next a0 a1 a2 _ =>
      simp only [Bool.and_eq_true, decide_eq_true_eq] at hs
      obtain ⟨e0, e1, e2, e3, hs⟩ := hs
      obtain ⟨-, n2⟩ := af_ok h (hw a2 (by simp))
      rw [eqF_ok e3] at n2
      have n2 : σ 1 + 1 = nm σ a2 := n2
      have ei : fv σ (2, 0) = (i : Int) := by show σ 1 + 0 = (i : Int); omega
      have key : ∀ (j : Nat) (u : Fm), kfind cs j (2, 0) = some u → u.1 ≤ cn cs ∧ M j i = fv σ u := fun j u hu => by
        have := kfind_ok h hu
        rw [ei, Int.toNat_natCast] at this
        exact this
      refine ⟨?_, ?_⟩
      · show [ev σ a0, ev σ a1, ev σ a2] = _
        rw [e0, e1, ev_I e2, ← n2, z1]
        show [vR 0 65, vI (σ 0), _] = _
        rw [z0]
        congr 1
      · split at hs
        next p c hp hc =>
          obtain ⟨p1, p2⟩ := key 86 p hp
          obtain ⟨c1, c2⟩ := key 87 c hc
          have ip := ivf_ok h p1
          rw [Bool.or_eq_true] at hs
          rcases hs with hs | hs
          · have := of_decide_eq_true hs
            left
            omega
          · right
            split at hs
            next s hk =>
              obtain ⟨s1, s2⟩ := kfind_ok h hk
              have is := ivf_ok h s1
              have := of_decide_eq_true hs
              rw [c2, s2]
              omega
            next => cases hs
        next => cases hs
    next => cases hs
  · intro c hc
    unfold cpM
    rw [if_neg]
    · exact hP c hc
    · rintro ⟨e, -, -⟩
      subst e
      cases hs
def lW : List Node := [(5, 87, [(1, 1)]), (11, 97, [(1, 1), (0, 0)]), (5, 86, [(1, 1)]), (15, 2, [(1, 5), (0, 0), (0, 23)]), (5, 94, [(1, 4)]), (15, 1, [(1, 6), (0, 0), (0, 2)]), (0, 0, [(1, 1), (0, 1)]), (17, 20, [(4, 65), (1, 0), (1, 7)]), (5, 85, [(1, 4)]), (15, 2, [(1, 7), (0, 0), (0, 5)]), (5, 88, [(1, 1)]), (11, 94, [(1, 4), (0, 2)]), (11, 95, [(1, 4), (1, 8)]), (0, 0, [(1, 1), (0, 1)]), (17, 20, [(4, 65), (1, 0), (1, 9)]), (5, 85, [(1, 4)]), (15, 4, [(1, 8), (1, 0), (0, 5)]), (5, 88, [(1, 1)]), (11, 94, [(1, 4), (0, 2)]), (11, 95, [(1, 4), (1, 9)]), (0, 0, [(1, 1), (0, 1)]), (17, 20, [(4, 65), (1, 0), (1, 10)]), (5, 88, [(1, 1)]), (11, 94, [(1, 4), (0, 3)]), (11, 95, [(1, 4), (1, 9)]), (0, 0, [(1, 1), (0, 1)]), (17, 20, [(4, 65), (1, 0), (1, 10)]), (5, 86, [(1, 1)]), (5, 88, [(1, 1)]), (16, 158, [(4, 65), (1, 6), (1, 4), (1, 7), (1, 0)]), (15, 5, [(1, 8), (0, 0), (0, 61)]), (5, 90, [(1, 1)]), (5, 83, [(1, 4)]), (16, 142, [(4, 65), (0, 1), (1, 9), (1, 10)]), (11, 97, [(1, 1), (1, 11)]), (5, 96, [(1, 4)]), (5, 97, [(1, 1)]), (0, 0, [(1, 12), (1, 13)]), (11, 96, [(1, 4), (1, 14)]), (5, 96, [(1, 4)]), (16, 155, [(4, 65), (1, 4), (0, 0)]), (15, 2, [(1, 15), (1, 16), (0, 27)]), (5, 94, [(1, 4)]), (15, 1, [(1, 17), (0, 0), (0, 2)]), (0, 0, [(1, 1), (0, 1)]), (17, 20, [(4, 65), (1, 0), (1, 18)]), (5, 89, [(1, 1)]), (15, 0, [(1, 18), (0, 0), (0, 2)]), (0, 0, [(1, 1), (0, 1)]), (17, 20, [(4, 65), (1, 0), (1, 19)]), (5, 85, [(1, 4)]), (15, 2, [(1, 19), (0, 0), (0, 5)]), (5, 88, [(1, 1)]), (11, 94, [(1, 4), (0, 2)]), (11, 95, [(1, 4), (1, 20)]), (0, 0, [(1, 1), (0, 1)]), (17, 20, [(4, 65), (1, 0), (1, 21)]), (5, 85, [(1, 4)]), (15, 4, [(1, 20), (1, 0), (0, 5)]), (5, 88, [(1, 1)]), (11, 94, [(1, 4), (0, 2)]), (11, 95, [(1, 4), (1, 21)]), (0, 0, [(1, 1), (0, 1)]), (17, 20, [(4, 65), (1, 0), (1, 22)]), (5, 88, [(1, 1)]), (11, 94, [(1, 4), (0, 3)]), (11, 95, [(1, 4), (1, 21)]), (0, 0, [(1, 1), (0, 1)]), (17, 20, [(4, 65), (1, 0), (1, 22)]), (5, 94, [(1, 4)]), (15, 1, [(1, 17), (0, 0), (0, 2)]), (0, 0, [(1, 1), (0, 1)]), (17, 20, [(4, 65), (1, 0), (1, 18)]), (5, 85, [(1, 4)]), (15, 2, [(1, 18), (0, 0), (0, 5)]), (5, 88, [(1, 1)]), (11, 94, [(1, 4), (0, 1)]), (11, 95, [(1, 4), (1, 19)]), (0, 0, [(1, 1), (0, 1)]), (17, 20, [(4, 65), (1, 0), (1, 20)]), (5, 85, [(1, 4)]), (15, 4, [(1, 19), (1, 0), (0, 5)]), (5, 88, [(1, 1)]), (11, 94, [(1, 4), (0, 1)]), (11, 95, [(1, 4), (1, 20)]), (0, 0, [(1, 1), (0, 1)]), (17, 20, [(4, 65), (1, 0), (1, 21)]), (5, 88, [(1, 1)]), (11, 94, [(1, 4), (0, 3)]), (11, 95, [(1, 4), (1, 20)]), (0, 0, [(1, 1), (0, 1)]), (17, 20, [(4, 65), (1, 0), (1, 21)]), (11, 97, [(1, 1), (0, 0)]), (5, 96, [(1, 4)]), (5, 97, [(1, 1)]), (0, 0, [(1, 9), (1, 10)]), (11, 96, [(1, 4), (1, 11)]), (5, 96, [(1, 4)]), (16, 155, [(4, 65), (1, 4), (0, 0)]), (15, 2, [(1, 12), (1, 13), (0, 27)]), (5, 94, [(1, 4)]), (15, 1, [(1, 14), (0, 0), (0, 2)]), (0, 0, [(1, 1), (0, 1)]), (17, 20, [(4, 65), (1, 0), (1, 15)]), (5, 89, [(1, 1)]), (15, 0, [(1, 15), (0, 0), (0, 2)]), (0, 0, [(1, 1), (0, 1)]), (17, 20, [(4, 65), (1, 0), (1, 16)]), (5, 85, [(1, 4)]), (15, 2, [(1, 16), (0, 0), (0, 5)]), (5, 88, [(1, 1)]), (11, 94, [(1, 4), (0, 2)]), (11, 95, [(1, 4), (1, 17)]), (0, 0, [(1, 1), (0, 1)]), (17, 20, [(4, 65), (1, 0), (1, 18)]), (5, 85, [(1, 4)]), (15, 4, [(1, 17), (1, 0), (0, 5)]), (5, 88, [(1, 1)]), (11, 94, [(1, 4), (0, 2)]), (11, 95, [(1, 4), (1, 18)]), (0, 0, [(1, 1), (0, 1)]), (17, 20, [(4, 65), (1, 0), (1, 19)]), (5, 88, [(1, 1)]), (11, 94, [(1, 4), (0, 3)]), (11, 95, [(1, 4), (1, 18)]), (0, 0, [(1, 1), (0, 1)]), (17, 20, [(4, 65), (1, 0), (1, 19)]), (5, 94, [(1, 4)]), (15, 1, [(1, 14), (0, 0), (0, 2)]), (0, 0, [(1, 1), (0, 1)]), (17, 20, [(4, 65), (1, 0), (1, 15)]), (5, 85, [(1, 4)]), (15, 2, [(1, 15), (0, 0), (0, 5)]), (5, 88, [(1, 1)]), (11, 94, [(1, 4), (0, 1)]), (11, 95, [(1, 4), (1, 16)]), (0, 0, [(1, 1), (0, 1)]), (17, 20, [(4, 65), (1, 0), (1, 17)]), (5, 85, [(1, 4)]), (15, 4, [(1, 16), (1, 0), (0, 5)]), (5, 88, [(1, 1)]), (11, 94, [(1, 4), (0, 1)]), (11, 95, [(1, 4), (1, 17)]), (0, 0, [(1, 1), (0, 1)]), (17, 20, [(4, 65), (1, 0), (1, 18)]), (5, 88, [(1, 1)]), (11, 94, [(1, 4), (0, 3)]), (11, 95, [(1, 4), (1, 17)]), (0, 0, [(1, 1), (0, 1)]), (17, 20, [(4, 65), (1, 0), (1, 18)])]
def csW : CS := newB (newB (newB (newB iniC 0 9000 1) 0 119 1) 0 120 1) 0 9000 1
def spsW : List Spec := [sp142_0, sp155_0, sp158_0]
def cuW : List Cut := [(20, [0, 1, 2], [(2, 65, 0), (0, -2147483648, 9000), (0, 0, 120)], [], [], [])]
theorem rest160 : chk hW spsW W160 [((0, 0), [])] 50 [] cuW none 396 lW csW = true := by decide +kernel
theorem wOf_no {W : Wl} {j : Nat} (h : W.all (fun q => !(Nat.beq q.1 j)) = true) (s : Nat) : wOf W j s = false := by
  cases e : wOf W j s with
  | false => rfl
  | true =>
    unfold wOf at e
    obtain ⟨q, hq, h2⟩ := List.any_eq_true.mp e
    have := List.all_eq_true.mp h q hq
    rw [Bool.and_eq_true] at h2
    rw [h2.1] at this
    cases this
theorem spsW_ok (X : Xs) (Mi : Mm) : ∀ sp ∈ spsW, SpecP X (PW Mi) sp := by
  have fr : ∀ {sp : Spec}, sp.2.2.2.1.all (fun q => !(Nat.beq q.1 94)) = true → SpecOK X sp → SpecP X (PW Mi) sp := fun h hs => hs.frame fun M M' hf hp c hc => by
    rw [hf 94 c (wOf_no h c)]
    exact hp c hc
  exact sA_c (fr (by decide) (ok142_0 X)) (sA_c (fr (by decide) (ok155_0 X)) (sA_c (fr (by decide) (ok158_0 X)) sA_n))
theorem work_it {X : Xs} {known : Int} {i : Nat} {M0 M : Mm} {Q : Option V → Mm → Prop} (hk : -2147483648 ≤ known ∧ known ≤ 9000) (hT : okTT M) (hF : FrM W160 M0 M) (ret : M 65 28 ≤ (i : Int) ∨ known < M 88 i → Q none M)
    (next : (i : Int) < M 65 28 → ∀ M', okTT M' → FrM W160 M0 M' → PW M M' → (0 ≤ M' 86 i ∨ M' 94 (M' 87 i).toNat ≠ 0) → Wp X 50 160 20 ([0, 1, 2].zip [vR 0 65, vI known, vI ((i + 1 : Nat) : Int)]) [] M' Q) : Wp X 50 160 20 ([0, 1, 2].zip [vR 0 65, vI known, vI (i : Int)]) [] M Q := by
  refine Wp_seg (cut := cutL [(2, [0, 1, 2]), (20, [0, 1, 2])]) (CT := fun i' as M' => i' = 20 ∧ as = [vR 0 65, vI known, vI ((i + 1 : Nat) : Int)] ∧ (i : Int) < M 65 28 ∧ okTT M' ∧ FrM W160 M0 M' ∧ PW M M' ∧ (0 ≤ M' 86 i ∨ M' 94 (M' 87 i).toNat ≠ 0)) 2 400 [(4, 65), (1, 0), (1, 1)] (us (us (fun _ => 0) 0 known) 1 i) ((4, 65, [(0, 28)]) :: (15, 3, [(1, 1), (1, 2), (0, 1)]) :: (18, 0, []) :: (5, 88, [(1, 1)]) :: (15, 4, [(1, 3), (1, 0), (0, 1)]) :: (18, 0, []) :: lW) (by decide +kernel) rfl rfl (by decide) (fun i' dl as M' hi _ h => ?_) ?_
  · obtain ⟨rfl, rfl, g0, g1, g2, g3, g4⟩ := h
    obtain rfl : [0, 1, 2] = dl := Option.some.inj hi
    exact next g0 M' g1 g2 g3 g4
  · have b1 : 0 ≤ M 65 28 ∧ M 65 28 ≤ 120 := hT 65 28
    refine d_ld fun _ => d_br (fun h => d_r0 (ret (Or.inl h))) fun h => d_la ?_ fun _ => d_br (fun h2 => d_r0 (ret (Or.inr h2))) fun h2 => ?_
    all_goals have h : ¬ M 65 28 ≤ (i : Int) := h
    · show 0 ≤ (i : Int) ∧ (i : Int) < ((120 : Nat) : Int)
      omega
    · have b2 : 0 ≤ M 88 i ∧ M 88 i ≤ 9000 := by
        have := hT 88 i
        rw [tiv_a (i := (0, 9000)) rfl] at this
        exact this
      have h2 : ¬ known < M 88 i := h2
      have hok : Ok csW (us (us (us (us (fun _ => 0) 0 known) 1 i) 2 (M 65 28)) 3 (M 88 i)) M := newB1 (cs := newB (newB (newB iniC 0 9000 1) 0 119 1) 0 120 1) (newB1 (cs := newB (newB iniC 0 9000 1) 0 119 1) (newB1 (cs := newB iniC 0 9000 1) (newB1 (cs := iniC) iniC_ok (by omega)) (by omega)) b1) b2
      refine den_mono (fun i' as M' h => ?_) (fun v M' h => h.2.2.elim) 396 lW _ _ _ (chk_soundz (hW_ok M known i) (spsW_ok X M) (M0 := M0) (T := none) 396 lW csW _ _ rest160 hok hT hF rfl (fun c hc => hc) ⟨by decide, fun j hj => ?_⟩)
      · obtain ⟨⟨c, hc, e, -, -, -, g4, g5, -⟩, g6, g7, g8⟩ := h
        obtain rfl := List.mem_singleton.mp hc
        exact ⟨e.symm, g7, by omega, g4, g5, g6, g8⟩
      · match j, hj with
        | 0, _ => rfl
        | 1, _ => rfl
/-- behind all deeds -/
def RW (v : Option V) (M : Mm) : Prop := v = none ∧ ∀ j : Nat, (j : Int) < M 65 28 → 0 ≤ M 86 j ∨ M 94 (M 87 j).toNat ≠ 0
theorem W160_no {M0 M : Mm} (h : FrM W160 M0 M) : M 65 28 = M0 65 28 ∧ (∀ j, M 86 j = M0 86 j) ∧ (∀ j, M 87 j = M0 87 j) ∧ ∀ j, M 88 j = M0 88 j := ⟨h 65 28 rfl, fun j => h 86 j (wOf_no rfl j), fun j => h 87 j (wOf_no rfl j), fun j => h 88 j (wOf_no rfl j)⟩
theorem work_20 {X : Xs} {known : Int} {M0 : Mm} (hk : -2147483648 ≤ known ∧ known ≤ 9000) (hJ : ∀ j : Nat, (j : Int) < M0 65 28 → M0 88 j ≤ known) : ∀ (t i : Nat) (M : Mm), i + t = 121 → okTT M → FrM W160 M0 M → (∀ j : Nat, j < i → 0 ≤ M 86 j ∨ M 94 (M 87 j).toNat ≠ 0) → Wp X 50 160 20 ([0, 1, 2].zip [vR 0 65, vI known, vI (i : Int)]) [] M (Qp W160 [((0, 0), [])] M0 (fun _ => True) RW) := by
  intro t
  have ret : ∀ (i : Nat) (M : Mm), okTT M → FrM W160 M0 M → (∀ j : Nat, j < i → 0 ≤ M 86 j ∨ M 94 (M 87 j).toNat ≠ 0) → (M 65 28 ≤ (i : Int) ∨ known < M 88 i) → Qp W160 [((0, 0), [])] M0 (fun _ => True) RW none M := by
    intro i M hT hF hd h
    obtain ⟨w1, w2, w3, w4⟩ := W160_no hF
    refine ⟨⟨hT, hF, _, List.mem_cons_self, fun x hx => (by cases hx), fun q hq => (by cases hq)⟩, trivial, rfl, fun j hj => hd j ?_⟩
    by_cases c : M 65 28 ≤ (i : Int)
    · omega
    · have h : known < M 88 i := by
        rcases h with h | h
        · exact absurd h c
        · exact h
      have := hJ i (by omega)
      rw [w4] at h
      omega
  induction t with
  | zero =>
    intro i M hi hT hF hd
    have b : 0 ≤ M 65 28 ∧ M 65 28 ≤ 120 := hT 65 28
    refine work_it hk hT hF (ret i M hT hF hd) fun h0 => by omega
  | succ t ih =>
    intro i M hi hT hF hd
    refine work_it hk hT hF (ret i M hT hF hd) fun _ M' h1 h2 h3 h4 => ih (i + 1) M' (by omega) h1 h2 fun j hj => ?_
    obtain ⟨a1, a2, a3, a4⟩ := W160_no hF
    obtain ⟨b1, b2, b3, b4⟩ := W160_no h2
    by_cases e : j = i
    · subst e
      exact h4
    · have := hd j (by omega)
      rw [a2, a3] at this
      rw [b2, b3]
      exact this.imp id (h3 _)
theorem work_2 {X : Xs} {known : Int} {M0 : Mm} (hk : -2147483648 ≤ known ∧ known ≤ 9000) (hJ : ∀ j : Nat, (j : Int) < M0 65 28 → M0 88 j ≤ known) : ∀ (t c : Nat) (M : Mm), c + t = 21 → okTT M → FrM W160 M0 M → Wp X 50 160 2 ([0, 1, 2].zip [vR 0 65, vI known, vI (c : Int)]) [] M (Qp W160 [((0, 0), [])] M0 (fun _ => True) RW) := by
  intro t
  induction t with
  | zero =>
    intro c M hc hT hF
    refine Wp_seg (cut := cutL [(2, [0, 1, 2]), (20, [0, 1, 2])]) (CT := fun i as M' => i = 20 ∧ as = [vR 0 65, vI known, vI 0] ∧ M' = M) 2 40 [(4, 65), (1, 0), (1, 1)] (us (us (fun _ => 0) 0 known) 1 c) [(4, 65, [(0, 21)]), (15, 3, [(1, 1), (1, 2), (0, 1)]), (17, 20, [(4, 65), (1, 0), (0, 0)]), (11, 94, [(1, 1), (0, 0)]), (11, 95, [(1, 1), (0, -1)]), (11, 96, [(1, 1), (0, 0)]), (0, 0, [(1, 1), (0, 1)]), (17, 2, [(4, 65), (1, 0), (1, 3)])] (by decide +kernel) rfl rfl (by decide) (fun i dl as M' hi _ h => ?_) ?_
    · obtain ⟨rfl, rfl, rfl⟩ := h
      obtain rfl : [0, 1, 2] = dl := Option.some.inj hi
      exact work_20 hk hJ 121 0 M' rfl hT hF (fun j hj => absurd hj (Nat.not_lt_zero j))
    · have b : 0 ≤ M 65 21 ∧ M 65 21 ≤ 20 := hT 65 21
      refine d_ld fun _ => d_br (fun h => d_ct ⟨rfl, rfl, rfl⟩) fun h => ?_
      have h : ¬ M 65 21 ≤ (c : Int) := h
      omega
  | succ t ih =>
    intro c M hc hT hF
    refine Wp_seg (cut := cutL [(2, [0, 1, 2]), (20, [0, 1, 2])]) (CT := fun i as M' => okTT M' ∧ FrM W160 M0 M' ∧ ((i = 20 ∧ as = [vR 0 65, vI known, vI 0]) ∨ (i = 2 ∧ as = [vR 0 65, vI known, vI ((c + 1 : Nat) : Int)]))) 2 40 [(4, 65), (1, 0), (1, 1)] (us (us (fun _ => 0) 0 known) 1 c) [(4, 65, [(0, 21)]), (15, 3, [(1, 1), (1, 2), (0, 1)]), (17, 20, [(4, 65), (1, 0), (0, 0)]), (11, 94, [(1, 1), (0, 0)]), (11, 95, [(1, 1), (0, -1)]), (11, 96, [(1, 1), (0, 0)]), (0, 0, [(1, 1), (0, 1)]), (17, 2, [(4, 65), (1, 0), (1, 3)])] (by decide +kernel) rfl rfl (by decide) (fun i dl as M' hi _ h => ?_) ?_
    · obtain ⟨g1, g2, ⟨rfl, rfl⟩ | ⟨rfl, rfl⟩⟩ := h
      · obtain rfl : [0, 1, 2] = dl := Option.some.inj hi
        exact work_20 hk hJ 121 0 M' rfl g1 g2 (fun j hj => absurd hj (Nat.not_lt_zero j))
      · obtain rfl : [0, 1, 2] = dl := Option.some.inj hi
        exact ih (c + 1) M' (by omega) g1 g2
    · have b : 0 ≤ M 65 21 ∧ M 65 21 ≤ 20 := hT 65 21
      refine d_ld fun _ => d_br (fun h => d_ct ⟨hT, hF, Or.inl ⟨rfl, rfl⟩⟩) fun h => d_sa ?_ (d_sa ?_ (d_sa ?_ (d_ib (d_ct ⟨?_, ?_, Or.inr ⟨rfl, ?_⟩⟩))))
      all_goals have h : ¬ M 65 21 ≤ (c : Int) := h
      · show 0 ≤ (c : Int) ∧ (c : Int) < ((20 : Nat) : Int)
        omega
      · show 0 ≤ (c : Int) ∧ (c : Int) < ((20 : Nat) : Int)
        omega
      · show 0 ≤ (c : Int) ∧ (c : Int) < ((20 : Nat) : Int)
        omega
      · refine okTT_up (okTT_up (okTT_up hT ?_) ?_) ?_
        · rw [tiv_a (i := (0, 3)) rfl]
          show (0 : Int) ≤ 0 ∧ (0 : Int) ≤ 3
          omega
        · rw [tiv_a (i := I32) rfl]
          show (-2147483648 : Int) ≤ -1 ∧ (-1 : Int) ≤ 2147483647
          omega
        · rw [tiv_a (i := I32) rfl]
          show (-2147483648 : Int) ≤ 0 ∧ (0 : Int) ≤ 2147483647
          omega
      · exact FrM_up (FrM_up (FrM_up hF (wOf_a (by decide))) (wOf_a (by decide))) (wOf_a (by decide))
      · have ec : ib 0 (c : Int) 1 = ((c + 1 : Nat) : Int) := by rw [ib0 (by unfold in32; omega)]; omega
        show [vR 0 65, vI known, vI (ib 0 (c : Int) 1)] = _
        rw [ec]
theorem work_m {X : Xs} {known : Int} {M : Mm} (hk : -2147483648 ≤ known ∧ known ≤ 9000) (hT : okTT M) (hJ : ∀ j : Nat, (j : Int) < M 65 28 → M 88 j ≤ known) : Wp X 50 160 0 (eL 0 [vR 0 65, vI known]) [] M (fun v M' => okTT M' ∧ FrM W160 M M' ∧ ∀ j : Nat, (j : Int) < M' 65 28 → 0 ≤ M' 86 j ∨ M' 94 (M' 87 j).toNat ≠ 0) := by
  refine (Wp_ent (cut := cutL [(2, [0, 1, 2]), (20, [0, 1, 2])]) (CT := fun i as M' => i = 2 ∧ as = [vR 0 65, vI known, vI 0] ∧ M' = M) (Q := Qp W160 [((0, 0), [])] M (fun _ => True) RW) 1 20 [(4, 65), (1, 0)] (us (fun _ => 0) 0 known) [(17, 2, [(4, 65), (1, 0), (0, 0)])] (by decide +kernel) rfl rfl (by decide) (fun i dl as M' hi _ h => ?_) (d_ct ⟨rfl, rfl, rfl⟩)).mono fun v M' q => ⟨q.1.1, q.1.2.1, q.2.2.2⟩
  obtain ⟨rfl, rfl, rfl⟩ := h
  obtain rfl : [0, 1, 2] = dl := Option.some.inj hi
  exact work_2 hk hJ 21 0 M' rfl hT (fun _ _ _ => rfl)
