/-! the law's loop -/
theorem Wp.retd {X : Xs} {d k i : Nat} {L : List (Nat × V)} {S : List V} {M : Mm} {Q : Option V → Mm → Prop} (h : Wp X d k i L S M (fun v M' => retOK (mR k) v → (∀ x, v = some x → rV x) → Q v M')) : Wp X d k i L S M Q := by
  intro p l e R s m args below meth c g A cells slots QQ C hr hk
  exact h p l e R s m args below meth c g A cells slots QQ C hr (fun i' ls' v M' H' locs' h1 h2 h3 h4 => hk i' ls' v M' H' locs' h1 (h2 h3 h4) h3 h4)
def PJ (M : Mm) : Prop := JM M ∧ M 52 13 = M 65 37
def kpJ (W : Wl) : Bool := (!(wOf W 65 0) && (!(wOf W 65 28) && (!(wOf W 65 34) && (!(wOf W 52 13) && !(wOf W 65 37))))) && (W.all (fun q => !(Nat.beq q.1 86)) && (W.all (fun q => !(Nat.beq q.1 87)) && W.all (fun q => !(Nat.beq q.1 88))))
theorem bnf {b : Bool} (h : (!b) = true) : b = false := by cases b with
  | false => rfl
  | true => cases h
theorem PJ_fr {W : Wl} {M M' : Mm} (hw : kpJ W = true) (h : FrM W M M') (hP : PJ M) : PJ M' := by
  unfold kpJ at hw
  simp only [Bool.and_eq_true] at hw
  obtain ⟨⟨a1, a2, a3, a4, a5⟩, a6, a7, a8⟩ := hw
  have e1 := h 65 0 (bnf a1)
  have e2 := h 65 28 (bnf a2)
  have e3 := h 65 34 (bnf a3)
  have e4 := h 52 13 (bnf a4)
  have e5 := h 65 37 (bnf a5)
  refine ⟨JM_same hP.1 e2 (fun j => h 86 j (wOf_no a6 j)) (fun j => h 87 j (wOf_no a7 j)) (fun j => h 88 j (wOf_no a8 j)) e3 (by rw [e1]; exact Int.le_refl _), ?_⟩
  rw [e4, e5]
  exact hP.2
theorem pj {X : Xs} {sp : Spec} (h : SpecOK X sp) (hw : kpJ sp.2.2.2.1 = true) : SpecP X PJ sp := h.frame fun _ _ hf hP => PJ_fr hw hf hP
theorem pv2 {p1 p2 : Pat} {as : List V} (h : patsV [p1, p2] as) : ∃ a b, as = [a, b] ∧ patV p1 a ∧ patV p2 b := by
  cases as with
  | nil => exact h.elim
  | cons a as => cases as with
    | nil => exact h.2.elim
    | cons b as => cases as with
      | nil => exact ⟨a, b, rfl, h.1, h.2.1⟩
      | cons c as => exact h.2.2.elim
theorem pv3 {p1 p2 p3 : Pat} {as : List V} (h : patsV [p1, p2, p3] as) : ∃ a b c, as = [a, b, c] ∧ patV p1 a ∧ patV p2 b ∧ patV p3 c := by
  cases as with
  | nil => exact h.elim
  | cons a as => cases as with
    | nil => exact h.2.elim
    | cons b as => cases as with
      | nil => exact h.2.2.elim
      | cons c as => cases as with
        | nil => exact ⟨a, b, c, rfl, h.1, h.2.1, h.2.2.1⟩
        | cons d as => exact h.2.2.2.elim
theorem pj133 (X : Xs) : SpecP X PJ sp133_0 := by
  intro as M hp hT hP
  obtain ⟨a, b, rfl, h1, ⟨z, rfl, -⟩⟩ := pv2 hp
  obtain rfl : a = vR 0 65 := h1
  have b0 : 0 ≤ M 65 0 ∧ M 65 0 ≤ 9000 := hT 65 0
  have inA : ∀ (y : Int) (M' : Mm), -100003 ≤ y ∧ y ≤ 9000 → ansIn sp133_0.2.2.1 (some (vI y)) M' := fun y M' hy => ⟨_, List.mem_cons_self, fun x _ => hy, fun q hq => (by cases hq)⟩
  refine (go_m hT).mono fun v M' q => ?_
  rcases q with ⟨-, rfl, rfl⟩ | ⟨-, -, rfl, rfl⟩ | ⟨h1, h2, rfl, rfl⟩
  · exact ⟨hT, fun _ _ _ => rfl, inA _ _ (by decide), hP⟩
  · exact ⟨hT, fun _ _ _ => rfl, inA _ _ (by decide), hP⟩
  · exact ⟨okTT_up hT (by show 0 ≤ M 65 0 + z ∧ M 65 0 + z ≤ 9000; omega), FrM_up (fun _ _ _ => rfl) rfl, inA _ _ (by omega), JM_same hP.1 rfl (fun _ => rfl) (fun _ => rfl) (fun _ => rfl) rfl (by show M 65 0 ≤ M 65 0 + z; omega), hP.2⟩
theorem ansAll {k : Nat} {v : Option V} {M : Mm} (hk : mR k = some .int) (h : retOK (mR k) v) (hr : ∀ x, v = some x → rV x) : ansIn [((-2147483648, 2147483647), [])] v M := by
  rw [hk] at h
  refine ⟨_, List.mem_cons_self, fun x hx => ?_, fun q hq => (by cases hq)⟩
  subst hx
  have r := hr x rfl
  match x, h, r with
  | .inl z, _, r => exact r
theorem pj166 (X : Xs) : SpecP X PJ sp166_0 := by
  intro as M hp hT hP
  obtain ⟨a, b, c, rfl, h1, ⟨y, rfl, -⟩, ⟨z, rfl, -⟩⟩ := pv3 hp
  obtain rfl : a = vR 0 65 := h1
  refine Wp.retd ((swear_m hT hP.1).mono fun v M' q h1 h2 => ⟨q.1, q.2.2, ansAll (by decide +kernel) h1 h2, q.2.1, ?_⟩)
  rw [q.2.2 52 13 (by decide), q.2.2 65 37 (by decide)]
  exact hP.2
theorem pj167 (X : Xs) : SpecP X PJ sp167_0 := by
  intro as M hp hT hP
  obtain ⟨a, b, rfl, h1, ⟨y, rfl, -⟩⟩ := pv2 hp
  obtain rfl : a = vR 0 65 := h1
  refine Wp.retd ((close_m hT hP.1).mono fun v M' q h1 h2 => ⟨q.1, q.2.2, ansAll (by decide +kernel) h1 h2, q.2.1, ?_⟩)
  rw [q.2.2 52 13 (by decide), q.2.2 65 37 (by decide)]
  exact hP.2
theorem pj82 (X : Xs) : SpecP X PJ sp82_0 := pj (ok82_0 X) (by decide)
theorem pj125 (X : Xs) : SpecP X PJ sp125_0 := pj (ok125_0 X) (by decide)
theorem pj83 (X : Xs) : SpecP X PJ sp83_0 := pj (ok83_0 X) (by decide)
theorem pj127 (X : Xs) : SpecP X PJ sp127_0 := pj (ok127_0 X) (by decide)
theorem pj84 (X : Xs) : SpecP X PJ sp84_0 := pj (ok84_0 X) (by decide)
theorem pj128 (X : Xs) : SpecP X PJ sp128_0 := pj (ok128_0 X) (by decide)
theorem pj85 (X : Xs) : SpecP X PJ sp85_0 := pj (ok85_0 X) (by decide)
theorem pj131 (X : Xs) : SpecP X PJ sp131_0 := pj (ok131_0 X) (by decide)
theorem pj86 (X : Xs) : SpecP X PJ sp86_0 := pj (ok86_0 X) (by decide)
theorem pj132 (X : Xs) : SpecP X PJ sp132_0 := pj (ok132_0 X) (by decide)
theorem pj87 (X : Xs) : SpecP X PJ sp87_0 := pj (ok87_0 X) (by decide)
theorem pj88 (X : Xs) : SpecP X PJ sp88_0 := pj (ok88_0 X) (by decide)
theorem pj134 (X : Xs) : SpecP X PJ sp134_0 := pj (ok134_0 X) (by decide)
theorem pj89 (X : Xs) : SpecP X PJ sp89_0 := pj (ok89_0 X) (by decide)
theorem pj137 (X : Xs) : SpecP X PJ sp137_0 := pj (ok137_0 X) (by decide)
theorem pj91 (X : Xs) : SpecP X PJ sp91_0 := pj (ok91_0 X) (by decide)
theorem pj151 (X : Xs) : SpecP X PJ sp151_0 := pj (ok151_0 X) (by decide)
theorem pj93 (X : Xs) : SpecP X PJ sp93_0 := pj (ok93_0 X) (by decide)
theorem pj153 (X : Xs) : SpecP X PJ sp153_0 := pj (ok153_0 X) (by decide)
theorem pj94 (X : Xs) : SpecP X PJ sp94_0 := pj (ok94_0 X) (by decide)
theorem pj154 (X : Xs) : SpecP X PJ sp154_0 := pj (ok154_0 X) (by decide)
theorem pj95 (X : Xs) : SpecP X PJ sp95_0 := pj (ok95_0 X) (by decide)
theorem pj162 (X : Xs) : SpecP X PJ sp162_0 := pj (ok162_0 X) (by decide)
theorem pj96 (X : Xs) : SpecP X PJ sp96_0 := pj (ok96_0 X) (by decide)
theorem pj97 (X : Xs) : SpecP X PJ sp97_0 := pj (ok97_0 X) (by decide)
theorem pj98 (X : Xs) : SpecP X PJ sp98_0 := pj (ok98_0 X) (by decide)
theorem pj168 (X : Xs) : SpecP X PJ sp168_0 := pj (ok168_0 X) (by decide)
theorem pj99 (X : Xs) : SpecP X PJ sp99_0 := pj (ok99_0 X) (by decide)
theorem pj169 (X : Xs) : SpecP X PJ sp169_0 := pj (ok169_0 X) (by decide)
theorem pj100 (X : Xs) : SpecP X PJ sp100_0 := pj (ok100_0 X) (by decide)
theorem pj170 (X : Xs) : SpecP X PJ sp170_0 := pj (ok170_0 X) (by decide)
theorem pj101 (X : Xs) : SpecP X PJ sp101_0 := pj (ok101_0 X) (by decide)
theorem pj171 (X : Xs) : SpecP X PJ sp171_0 := pj (ok171_0 X) (by decide)
theorem pj102 (X : Xs) : SpecP X PJ sp102_0 := pj (ok102_0 X) (by decide)
theorem pj174 (X : Xs) : SpecP X PJ sp174_0 := pj (ok174_0 X) (by decide)
theorem pj103 (X : Xs) : SpecP X PJ sp103_0 := pj (ok103_0 X) (by decide)
theorem pj175 (X : Xs) : SpecP X PJ sp175_0 := pj (ok175_0 X) (by decide)
theorem pj105 (X : Xs) : SpecP X PJ sp105_0 := pj (ok105_0 X) (by decide)
theorem pj184 (X : Xs) : SpecP X PJ sp184_0 := pj (ok184_0 X) (by decide)
theorem pj106 (X : Xs) : SpecP X PJ sp106_0 := pj (ok106_0 X) (by decide)
theorem pj185 (X : Xs) : SpecP X PJ sp185_0 := pj (ok185_0 X) (by decide)
theorem pj107 (X : Xs) : SpecP X PJ sp107_0 := pj (ok107_0 X) (by decide)
theorem pj186 (X : Xs) : SpecP X PJ sp186_0 := pj (ok186_0 X) (by decide)
theorem pj108 (X : Xs) : SpecP X PJ sp108_0 := pj (ok108_0 X) (by decide)
theorem pj188 (X : Xs) : SpecP X PJ sp188_0 := pj (ok188_0 X) (by decide)
theorem pj109 (X : Xs) : SpecP X PJ sp109_0 := pj (ok109_0 X) (by decide)
theorem pj189 (X : Xs) : SpecP X PJ sp189_0 := pj (ok189_0 X) (by decide)
theorem pj110 (X : Xs) : SpecP X PJ sp110_0 := pj (ok110_0 X) (by decide)
theorem pj191 (X : Xs) : SpecP X PJ sp191_0 := pj (ok191_0 X) (by decide)
theorem pj111 (X : Xs) : SpecP X PJ sp111_0 := pj (ok111_0 X) (by decide)
theorem pj192 (X : Xs) : SpecP X PJ sp192_0 := pj (ok192_0 X) (by decide)
theorem pj112 (X : Xs) : SpecP X PJ sp112_0 := pj (ok112_0 X) (by decide)
theorem pj193 (X : Xs) : SpecP X PJ sp193_0 := pj (ok193_0 X) (by decide)
theorem pj90 (X : Xs) : SpecP X PJ sp90_0 := pj (ok90_0 X) (by decide)
theorem pj138 (X : Xs) : SpecP X PJ sp138_0 := pj (ok138_0 X) (by decide)
section STG
variable {X : Xs} {CP : Nat → List V → Mm → (Option V → Mm → Prop) → Prop} {CT : Nat → List V → Mm → Prop} {Q : Option V → Mm → Prop} {F n : Nat} {r : List Node} {σ : Nat → Int} {M : Mm}
theorem d_lbg {b : Nat} {x y : AV} (h : ∀ w : Int, in64 w → den X CP CT Q F r (n + 1) (us σ n w) M) : den X CP CT Q (F + 1) ((1, b, [x, y]) :: r) n σ M := d_lb (h _ (lb_in _ _ _))
theorem d_sbg {b : Nat} {x y : AV} (h : ∀ w : Int, in64 w → den X CP CT Q F r (n + 1) (us σ n w) M) : den X CP CT Q (F + 1) ((2, b, [x, y]) :: r) n σ M := d_sb (h _ (sb_in _ _ _))
end STG
theorem law_8 {X : Xs} {P : Mm → Prop} {i : Int} {M : Mm} {Q : Option V → Mm → Prop} (hX : ∀ j, in32 (X.2 j)) (hx : ∀ c : Int, 0 ≤ c ∧ c ≤ 6 → 0 ≤ ib 0 i c ∧ ib 0 i c < X.1) (hT : okTT M) (hP : P M) (h1 : SpecP X P sp90_0) (h2 : SpecP X P sp138_0) (nx : ∀ M', okTT M' → P M' → Wp X 120 0 933 ([0, 1, 2, 3].zip (l4 i)) [] M' Q) : Wp X 120 0 278 ([0, 1, 2, 3].zip (l4 i)) [] M Q := by
  refine Wp_seg (cut := cutL cutLaw) (CT := fun i' as M' => i' = 933 ∧ as = l4 i ∧ okTT M' ∧ P M') 1 60 [(5, 0), (4, 0), (4, 65), (1, 0)] (us (fun _ => 0) 0 i) [(0, 0, [(1, 0), (0, 1)]), (6, 0, [(1, 1)]), (0, 0, [(1, 0), (0, 2)]), (6, 0, [(1, 3)]), (2, 0, [(3, 4), (0, 32)]), (0, 0, [(1, 0), (0, 3)]), (6, 0, [(1, 6)]), (1, 3, [(3, 7), (2, 4294967295)]), (1, 4, [(3, 5), (3, 8)]), (16, 90, [(4, 0), (1, 2), (3, 9)]), (0, 0, [(1, 0), (0, 1)]), (6, 0, [(1, 11)]), (0, 0, [(1, 0), (0, 2)]), (6, 0, [(1, 13)]), (2, 0, [(3, 14), (0, 32)]), (0, 0, [(1, 0), (0, 3)]), (6, 0, [(1, 16)]), (1, 3, [(3, 17), (2, 4294967295)]), (1, 4, [(3, 15), (3, 18)]), (16, 138, [(4, 65), (1, 12), (3, 19)]), (17, 933, [(5, 0), (4, 0), (4, 65), (1, 0)])] (by decide +kernel) rfl rfl (by decide) (fun i' dl as M' hi _ h => ?_) ?_
  · obtain ⟨rfl, rfl, g1, g2⟩ := h
    obtain rfl : [0, 1, 2, 3] = dl := Option.some.inj hi
    exact nx M' g1 g2
  · refine d_ib (d_sc (hx 1 (by decide)) (d_ib (d_sc (hx 2 (by decide)) (d_sbg fun _ _ => d_ib (d_sc (hx 3 (by decide)) (d_lbg fun _ _ => d_lbg fun w hw => d_ca ⟨_, by decide, (h1 [vR 0 0, vI (X.2 (ib 0 i 1).toNat), vL w] M ⟨rfl, ⟨_, rfl, hX _⟩, ⟨_, rfl, hw⟩, trivial⟩ hT hP).mono fun v1 M1 q1 _ _ _ => ?_⟩))))))
    obtain ⟨t1, -, -, p1⟩ := q1
    refine d_ib (d_sc (hx 1 (by decide)) (d_ib (d_sc (hx 2 (by decide)) (d_sbg fun _ _ => d_ib (d_sc (hx 3 (by decide)) (d_lbg fun _ _ => d_lbg fun w hw => d_ca ⟨_, by decide, (h2 [vR 0 65, vI (X.2 (ib 0 i 1).toNat), vL w] M1 ⟨rfl, ⟨_, rfl, hX _⟩, ⟨_, rfl, hw⟩, trivial⟩ t1 p1).mono fun v2 M2 q2 _ _ _ => d_ct ⟨rfl, rfl, q2.1, q2.2.2.2⟩⟩))))))
theorem law_10 {X : Xs} {P : Mm → Prop} {i : Int} {M : Mm} {Q : Option V → Mm → Prop} (hT : okTT M) (hP : P M) (nx : ∀ M', okTT M' → P M' → Wp X 120 0 933 ([0, 1, 2, 3].zip (l4 i)) [] M' Q) : Wp X 120 0 336 ([0, 1, 2, 3].zip (l4 i)) [] M Q := by
  refine Wp_seg (cut := cutL cutLaw) (CT := fun i' as M' => i' = 933 ∧ as = l4 i ∧ okTT M' ∧ P M') 1 60 [(5, 0), (4, 0), (4, 65), (1, 0)] (us (fun _ => 0) 0 i) [(4, 22, [(0, 5)]), (4, 65, [(0, 15)]), (17, 933, [(5, 0), (4, 0), (4, 65), (1, 0)])] (by decide +kernel) rfl rfl (by decide) (fun i' dl as M' hi _ h => ?_) ?_
  · obtain ⟨rfl, rfl, g1, g2⟩ := h
    obtain rfl : [0, 1, 2, 3] = dl := Option.some.inj hi
    exact nx M' g1 g2
  · exact d_ld fun _ => d_ld fun _ => d_ct ⟨rfl, rfl, hT, hP⟩
theorem rb104 : rb 104 = 1 := by decide +kernel
theorem rb176 : rb 176 = 1 := by decide +kernel
theorem PJ_bd {M : Mm} {z : Int} (hz : in32 z) (hT : okTT M) (hP : PJ M) : okTT (up (up M 52 13 z) 65 37 z) ∧ PJ (up (up M 52 13 z) 65 37 z) :=
  ⟨okTT_up (okTT_up hT hz) hz, JM_same hP.1 rfl (fun _ => rfl) (fun _ => rfl) (fun _ => rfl) rfl (Int.le_refl _), rfl⟩
theorem law_22 {X : Xs} {i : Int} {M : Mm} {Q : Option V → Mm → Prop} (hX : ∀ j, in32 (X.2 j)) (hx : ∀ c : Int, 0 ≤ c ∧ c ≤ 6 → 0 ≤ ib 0 i c ∧ ib 0 i c < X.1) (hT : okTT M) (hP : PJ M) (nx : ∀ M', okTT M' → PJ M' → Wp X 120 0 933 ([0, 1, 2, 3].zip (l4 i)) [] M' Q) : Wp X 120 0 690 ([0, 1, 2, 3].zip (l4 i)) [] M Q := by
  refine Wp_seg (cut := cutL cutLaw) (CT := fun i' as M' => i' = 933 ∧ as = l4 i ∧ okTT M' ∧ PJ M') 1 60 [(5, 0), (4, 0), (4, 65), (1, 0)] (us (fun _ => 0) 0 i) [(0, 0, [(1, 0), (0, 1)]), (6, 0, [(1, 1)]), (16, 104, [(4, 0), (1, 2)]), (0, 0, [(1, 0), (0, 1)]), (6, 0, [(1, 4)]), (16, 176, [(4, 65), (1, 5)]), (15, 0, [(1, 3), (1, 6), (0, 1)]), (17, 933, [(5, 0), (4, 0), (4, 65), (1, 0)]), (19, 0, [(0, 0)])] (by decide +kernel) rfl rfl (by decide) (fun i' dl as M' hi _ h => ?_) ?_
  · obtain ⟨rfl, rfl, g1, g2⟩ := h
    obtain rfl : [0, 1, 2, 3] = dl := Option.some.inj hi
    exact nx M' g1 g2
  · refine d_ib (d_sc (hx 1 (by decide)) (d_ca ⟨10, by decide, (bound_x (z := X.2 (ib 0 i 1).toNat)).mono fun v1 M1 q1 _ _ _ => ?_⟩))
    rw [rb104]
    refine d_ib (d_sc (hx 1 (by decide)) (d_ca ⟨10, by decide, (bound_m (z := X.2 (ib 0 i 1).toNat)).mono fun v2 M2 q2 _ _ _ => ?_⟩))
    rw [rb176]
    have hz : in32 (X.2 (ib 0 i 1).toNat) := hX _
    have key : oz v1 = oz v2 ∧ okTT M2 ∧ PJ M2 := by
      rcases q1 with ⟨r, rfl, rfl⟩ | ⟨r, rfl, rfl⟩
      · rcases q2 with ⟨s, rfl, rfl⟩ | ⟨s, rfl, rfl⟩
        · exact ⟨rfl, hT, hP⟩
        · exact absurd r (by omega)
      · rcases q2 with ⟨s, rfl, rfl⟩ | ⟨s, rfl, rfl⟩
        · exact absurd r (by omega)
        · exact ⟨hP.2, PJ_bd hz hT hP⟩
    exact d_br (fun _ => d_ct ⟨rfl, rfl, key.2.1, key.2.2⟩) fun h => (h key.1).elim
theorem law_31 {X : Xs} {i : Int} {M : Mm} {Q : Option V → Mm → Prop} (nx : Wp X 120 0 10 ([0, 1, 2, 3].zip (l4 (ib 0 i 7))) [] M Q) : Wp X 120 0 933 ([0, 1, 2, 3].zip (l4 i)) [] M Q := by
  refine Wp_seg (cut := cutL cutLaw) (CT := fun i' as M' => i' = 10 ∧ as = l4 (ib 0 i 7) ∧ M' = M) 1 60 [(5, 0), (4, 0), (4, 65), (1, 0)] (us (fun _ => 0) 0 i) [(0, 0, [(1, 0), (0, 7)]), (17, 10, [(5, 0), (4, 0), (4, 65), (1, 1)])] (by decide +kernel) rfl rfl (by decide) (fun i' dl as M' hi _ h => ?_) ?_
  · obtain ⟨rfl, rfl, rfl⟩ := h
    obtain rfl : [0, 1, 2, 3] = dl := Option.some.inj hi
    exact nx
  · exact d_ib (d_ct ⟨rfl, rfl, rfl⟩)
theorem d_cs {X : Xs} {CP : Nat → List V → Mm → (Option V → Mm → Prop) → Prop} {CT : Nat → List V → Mm → Prop} {Q : Option V → Mm → Prop} {F n : Nat} {r : List Node} {σ : Nat → Int} {M : Mm} {c t : Nat} {a b : AV} {as : List AV} (h1 : CT t (as.map (ev σ)) M) (h2 : den X CP CT Q (F + 1) r n σ M) : den X CP CT Q (F + 2) ((15, c, [a, b, (0, 1)]) :: (17, t, as) :: r) n σ M := d_br (fun _ => d_ct h1) (fun _ => h2)
def lawT : List Nat := [22, 89, 116, 133, 160, 187, 204, 241, 278, 329, 336, 343, 380, 427, 474, 501, 518, 535, 562, 599, 626, 653, 690, 707, 734, 761, 778, 815, 842, 879, 916, 933]
theorem law_all {X : Xs} {i : Int} {M : Mm} {Q : Option V → Mm → Prop} (hX : ∀ j, in32 (X.2 j)) (hx : ∀ c : Int, 0 ≤ c ∧ c ≤ 6 → 0 ≤ ib 0 i c ∧ ib 0 i c < X.1) (hT : okTT M) (hP : PJ M) (nx : ∀ M', okTT M' → PJ M' → Wp X 120 0 933 ([0, 1, 2, 3].zip (l4 i)) [] M' Q) : ∀ t ∈ lawT, Wp X 120 0 t ([0, 1, 2, 3].zip (l4 i)) [] M Q := by
  refine List.forall_mem_cons.mpr ⟨law_0 hX hx hT hP (pj82 X) (pj125 X) nx, ?_⟩
  refine List.forall_mem_cons.mpr ⟨law_1 hX hx hT hP (pj83 X) (pj127 X) nx, ?_⟩
  refine List.forall_mem_cons.mpr ⟨law_2 hX hx hT hP (pj84 X) (pj128 X) nx, ?_⟩
  refine List.forall_mem_cons.mpr ⟨law_3 hX hx hT hP (pj85 X) (pj131 X) nx, ?_⟩
  refine List.forall_mem_cons.mpr ⟨law_4 hX hx hT hP (pj86 X) (pj132 X) nx, ?_⟩
  refine List.forall_mem_cons.mpr ⟨law_5 hX hx hT hP (pj87 X) (pj133 X) nx, ?_⟩
  refine List.forall_mem_cons.mpr ⟨law_6 hX hx hT hP (pj88 X) (pj134 X) nx, ?_⟩
  refine List.forall_mem_cons.mpr ⟨law_7 hX hx hT hP (pj89 X) (pj137 X) nx, ?_⟩
  refine List.forall_mem_cons.mpr ⟨law_8 hX hx hT hP (pj90 X) (pj138 X) nx, ?_⟩
  refine List.forall_mem_cons.mpr ⟨law_9 hX hx hT hP (pj91 X) (pj151 X) nx, ?_⟩
  refine List.forall_mem_cons.mpr ⟨law_10 hT hP nx, ?_⟩
  refine List.forall_mem_cons.mpr ⟨law_11 hX hx hT hP (pj93 X) (pj153 X) nx, ?_⟩
  refine List.forall_mem_cons.mpr ⟨law_12 hX hx hT hP (pj94 X) (pj154 X) nx, ?_⟩
  refine List.forall_mem_cons.mpr ⟨law_13 hX hx hT hP (pj95 X) (pj162 X) nx, ?_⟩
  refine List.forall_mem_cons.mpr ⟨law_14 hX hx hT hP (pj96 X) (pj166 X) nx, ?_⟩
  refine List.forall_mem_cons.mpr ⟨law_15 hX hx hT hP (pj97 X) (pj167 X) nx, ?_⟩
  refine List.forall_mem_cons.mpr ⟨law_16 hX hx hT hP (pj98 X) (pj168 X) nx, ?_⟩
  refine List.forall_mem_cons.mpr ⟨law_17 hX hx hT hP (pj99 X) (pj169 X) nx, ?_⟩
  refine List.forall_mem_cons.mpr ⟨law_18 hX hx hT hP (pj100 X) (pj170 X) nx, ?_⟩
  refine List.forall_mem_cons.mpr ⟨law_19 hX hx hT hP (pj101 X) (pj171 X) nx, ?_⟩
  refine List.forall_mem_cons.mpr ⟨law_20 hX hx hT hP (pj102 X) (pj174 X) nx, ?_⟩
  refine List.forall_mem_cons.mpr ⟨law_21 hX hx hT hP (pj103 X) (pj175 X) nx, ?_⟩
  refine List.forall_mem_cons.mpr ⟨law_22 hX hx hT hP nx, ?_⟩
  refine List.forall_mem_cons.mpr ⟨law_23 hX hx hT hP (pj105 X) (pj184 X) nx, ?_⟩
  refine List.forall_mem_cons.mpr ⟨law_24 hX hx hT hP (pj106 X) (pj185 X) nx, ?_⟩
  refine List.forall_mem_cons.mpr ⟨law_25 hX hx hT hP (pj107 X) (pj186 X) nx, ?_⟩
  refine List.forall_mem_cons.mpr ⟨law_26 hX hx hT hP (pj108 X) (pj188 X) nx, ?_⟩
  refine List.forall_mem_cons.mpr ⟨law_27 hX hx hT hP (pj109 X) (pj189 X) nx, ?_⟩
  refine List.forall_mem_cons.mpr ⟨law_28 hX hx hT hP (pj110 X) (pj191 X) nx, ?_⟩
  refine List.forall_mem_cons.mpr ⟨law_29 hX hx hT hP (pj111 X) (pj192 X) nx, ?_⟩
  refine List.forall_mem_cons.mpr ⟨law_30 hX hx hT hP (pj112 X) (pj193 X) nx, ?_⟩
  refine List.forall_mem_cons.mpr ⟨nx M hT hP, ?_⟩
  exact fun t ht => (by cases ht)
/-- from the loop's head to the end: it answers 1 -/
theorem law_at {X : Xs} (hl : X.1 ≤ 2147483647) (hX : ∀ j, in32 (X.2 j)) : ∀ (n : Nat) (i : Int) (M : Mm), 0 ≤ i → (X.1 : Int) - i ≤ n → in32 i → okTT M → PJ M → Wp X 120 0 10 ([0, 1, 2, 3].zip (l4 i)) [] M (fun v _ => v = some (vI 1)) := by
  intro n
  induction n using Nat.strongRecOn with
  | _ n ih =>
    intro i M h0 hn hi hT hP
    have e7 : ib 1 X.1 7 = (X.1 : Int) - 7 := by
      show (Int32.ofInt (X.1 : Int) - Int32.ofInt 7).toInt = _
      rw [← Int32.ofInt_sub]
      exact i32_to (by unfold in32; omega)
    refine Wp_seg (cut := cutL cutLaw) (CT := fun i' as M' => i' ∈ lawT ∧ as = l4 i ∧ M' = M ∧ i ≤ (X.1 : Int) - 7) 1 100 [(5, 0), (4, 0), (4, 65), (1, 0)] (us (fun _ => 0) 0 i) [(7, 0, []), (0, 1, [(1, 1), (0, 7)]), (15, 4, [(1, 0), (1, 2), (0, 1)]), (19, 0, [(0, 1)]), (6, 0, [(1, 0)]), (0, 3, [(1, 3), (0, 31)]), (15, 0, [(1, 4), (0, 0), (0, 1)]), (17, 22, [(5, 0), (4, 0), (4, 65), (1, 0)]), (15, 0, [(1, 4), (0, 1), (0, 1)]), (17, 89, [(5, 0), (4, 0), (4, 65), (1, 0)]), (15, 0, [(1, 4), (0, 2), (0, 1)]), (17, 116, [(5, 0), (4, 0), (4, 65), (1, 0)]), (15, 0, [(1, 4), (0, 3), (0, 1)]), (17, 133, [(5, 0), (4, 0), (4, 65), (1, 0)]), (15, 0, [(1, 4), (0, 4), (0, 1)]), (17, 160, [(5, 0), (4, 0), (4, 65), (1, 0)]), (15, 0, [(1, 4), (0, 5), (0, 1)]), (17, 187, [(5, 0), (4, 0), (4, 65), (1, 0)]), (15, 0, [(1, 4), (0, 6), (0, 1)]), (17, 204, [(5, 0), (4, 0), (4, 65), (1, 0)]), (15, 0, [(1, 4), (0, 7), (0, 1)]), (17, 241, [(5, 0), (4, 0), (4, 65), (1, 0)]), (15, 0, [(1, 4), (0, 8), (0, 1)]), (17, 278, [(5, 0), (4, 0), (4, 65), (1, 0)]), (15, 0, [(1, 4), (0, 9), (0, 1)]), (17, 329, [(5, 0), (4, 0), (4, 65), (1, 0)]), (15, 0, [(1, 4), (0, 10), (0, 1)]), (17, 336, [(5, 0), (4, 0), (4, 65), (1, 0)]), (15, 0, [(1, 4), (0, 11), (0, 1)]), (17, 343, [(5, 0), (4, 0), (4, 65), (1, 0)]), (15, 0, [(1, 4), (0, 12), (0, 1)]), (17, 380, [(5, 0), (4, 0), (4, 65), (1, 0)]), (15, 0, [(1, 4), (0, 13), (0, 1)]), (17, 427, [(5, 0), (4, 0), (4, 65), (1, 0)]), (15, 0, [(1, 4), (0, 14), (0, 1)]), (17, 474, [(5, 0), (4, 0), (4, 65), (1, 0)]), (15, 0, [(1, 4), (0, 15), (0, 1)]), (17, 501, [(5, 0), (4, 0), (4, 65), (1, 0)]), (15, 0, [(1, 4), (0, 16), (0, 1)]), (17, 518, [(5, 0), (4, 0), (4, 65), (1, 0)]), (15, 0, [(1, 4), (0, 17), (0, 1)]), (17, 535, [(5, 0), (4, 0), (4, 65), (1, 0)]), (15, 0, [(1, 4), (0, 18), (0, 1)]), (17, 562, [(5, 0), (4, 0), (4, 65), (1, 0)]), (15, 0, [(1, 4), (0, 19), (0, 1)]), (17, 599, [(5, 0), (4, 0), (4, 65), (1, 0)]), (15, 0, [(1, 4), (0, 20), (0, 1)]), (17, 626, [(5, 0), (4, 0), (4, 65), (1, 0)]), (15, 0, [(1, 4), (0, 21), (0, 1)]), (17, 653, [(5, 0), (4, 0), (4, 65), (1, 0)]), (15, 0, [(1, 4), (0, 22), (0, 1)]), (17, 690, [(5, 0), (4, 0), (4, 65), (1, 0)]), (15, 0, [(1, 4), (0, 23), (0, 1)]), (17, 707, [(5, 0), (4, 0), (4, 65), (1, 0)]), (15, 0, [(1, 4), (0, 24), (0, 1)]), (17, 734, [(5, 0), (4, 0), (4, 65), (1, 0)]), (15, 0, [(1, 4), (0, 25), (0, 1)]), (17, 761, [(5, 0), (4, 0), (4, 65), (1, 0)]), (15, 0, [(1, 4), (0, 26), (0, 1)]), (17, 778, [(5, 0), (4, 0), (4, 65), (1, 0)]), (15, 0, [(1, 4), (0, 27), (0, 1)]), (17, 815, [(5, 0), (4, 0), (4, 65), (1, 0)]), (15, 0, [(1, 4), (0, 28), (0, 1)]), (17, 842, [(5, 0), (4, 0), (4, 65), (1, 0)]), (15, 0, [(1, 4), (0, 29), (0, 1)]), (17, 879, [(5, 0), (4, 0), (4, 65), (1, 0)]), (15, 0, [(1, 4), (0, 30), (0, 1)]), (17, 916, [(5, 0), (4, 0), (4, 65), (1, 0)]), (17, 933, [(5, 0), (4, 0), (4, 65), (1, 0)])] (by decide +kernel) rfl rfl (by decide) (fun i' dl as M' hi' _ h => ?_) ?_
    · obtain ⟨g1, rfl, rfl, g2⟩ := h
      obtain rfl : [0, 1, 2, 3] = dl := by
        have q := List.all_eq_true.mp (show lawT.all (fun t => decide (cutL cutLaw t = some [0, 1, 2, 3])) = true from rfl) i' g1
        rw [of_decide_eq_true q] at hi'
        exact Option.some.inj hi'
      refine law_all hX (fun c hc => ?_) hT hP (fun M' t1 p1 => ?_) i' g1
      · rw [ib0 (by unfold in32; omega)]
        omega
      · have e : ib 0 i 7 = i + 7 := ib0 (by unfold in32; omega)
        refine law_31 ?_
        rw [e]
        exact ih (n - 7) (by omega) (i + 7) M' (by omega) (by omega) (by unfold in32; omega) t1 p1
    · refine d_sl (d_ib (d_br (fun _ => d_r1 rfl) fun h => ?_))
      have h : ¬ ib 1 X.1 7 < i := h
      rw [e7] at h
      have g : i ≤ (X.1 : Int) - 7 := by omega
      refine d_sc ⟨h0, by show i < (X.1 : Int); omega⟩ (d_ib ?_)
      exact d_cs ⟨by decide, rfl, rfl, g⟩ (d_cs ⟨by decide, rfl, rfl, g⟩ (d_cs ⟨by decide, rfl, rfl, g⟩ (d_cs ⟨by decide, rfl, rfl, g⟩ (d_cs ⟨by decide, rfl, rfl, g⟩ (d_cs ⟨by decide, rfl, rfl, g⟩ (d_cs ⟨by decide, rfl, rfl, g⟩ (d_cs ⟨by decide, rfl, rfl, g⟩ (d_cs ⟨by decide, rfl, rfl, g⟩ (d_cs ⟨by decide, rfl, rfl, g⟩ (d_cs ⟨by decide, rfl, rfl, g⟩ (d_cs ⟨by decide, rfl, rfl, g⟩ (d_cs ⟨by decide, rfl, rfl, g⟩ (d_cs ⟨by decide, rfl, rfl, g⟩ (d_cs ⟨by decide, rfl, rfl, g⟩ (d_cs ⟨by decide, rfl, rfl, g⟩ (d_cs ⟨by decide, rfl, rfl, g⟩ (d_cs ⟨by decide, rfl, rfl, g⟩ (d_cs ⟨by decide, rfl, rfl, g⟩ (d_cs ⟨by decide, rfl, rfl, g⟩ (d_cs ⟨by decide, rfl, rfl, g⟩ (d_cs ⟨by decide, rfl, rfl, g⟩ (d_cs ⟨by decide, rfl, rfl, g⟩ (d_cs ⟨by decide, rfl, rfl, g⟩ (d_cs ⟨by decide, rfl, rfl, g⟩ (d_cs ⟨by decide, rfl, rfl, g⟩ (d_cs ⟨by decide, rfl, rfl, g⟩ (d_cs ⟨by decide, rfl, rfl, g⟩ (d_cs ⟨by decide, rfl, rfl, g⟩ (d_cs ⟨by decide, rfl, rfl, g⟩ (d_cs ⟨by decide, rfl, rfl, g⟩ (d_ct ⟨by decide, rfl, rfl, g⟩)))))))))))))))))))))))))))))))
