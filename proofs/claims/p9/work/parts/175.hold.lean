/-! a method by hand that has marked places -/
def cutL (l : List (Nat × List Nat)) (i : Nat) : Option (List Nat) := (l.find? (fun q => Nat.beq q.1 i)).map (fun q => q.2)
theorem Wp_seg {X : Xs} {d k i : Nat} {cut : Nat → Option (List Nat)} {CT : Nat → List V → Mm → Prop} {dl : List Nat} {as : List V} {M : Mm} {Q : Option V → Mm → Prop} (n F : Nat) (avs : List AV) (σ : Nat → Int) (t : List Node) (ht : cmp inlF cut 4000 false n k i (dl.zip avs) [] [] = t) (has : avs.map (ev σ) = as) (hw : avs.all (wAb n) = true) (hd : 10 ≤ d) (hCT : ∀ (i : Nat) (dl : List Nat) (as : List V) (M : Mm), cut i = some dl → as.length = dl.length → CT i as M → Wp X d k i (dl.zip as) [] M Q) (h : den X (CPd X d) CT Q F t n σ M) : Wp X d k i (dl.zip as) [] M Q := by
  subst ht
  have hw := wS_b hw
  have := cmp_sound (d := d) (k0 := k) (cut := cut) (CT := CT) (CP := CPd X d) (fun k' as M Q' hq => hq) hCT hd 4000 false n k i _ [] [] F σ M rfl (Nat.zero_le _) (wL_zip hw) (fun a ha => (by cases ha)) (fun a ha => (by cases ha)) h
  rw [evL_zip, has] at this
  exact this
theorem Wp_ent {X : Xs} {d k : Nat} {cut : Nat → Option (List Nat)} {CT : Nat → List V → Mm → Prop} {as : List V} {M : Mm} {Q : Option V → Mm → Prop} (n F : Nat) (avs : List AV) (σ : Nat → Int) (t : List Node) (ht : cmp inlF cut 4000 false n k 0 (eLA 0 avs) [] [] = t) (has : avs.map (ev σ) = as) (hw : avs.all (wAb n) = true) (hd : 10 ≤ d) (hCT : ∀ (i : Nat) (dl : List Nat) (as : List V) (M : Mm), cut i = some dl → as.length = dl.length → CT i as M → Wp X d k i (dl.zip as) [] M Q) (h : den X (CPd X d) CT Q F t n σ M) : Wp X d k 0 (eL 0 as) [] M Q := by
  subst ht
  have hw := wS_b hw
  have := cmp_sound (d := d) (k0 := k) (cut := cut) (CT := CT) (CP := CPd X d) (fun k' as M Q' hq => hq) hCT hd 4000 false n k 0 _ [] [] F σ M rfl (Nat.zero_le _) (wL_eLA hw) (fun a ha => (by cases ha)) (fun a ha => (by cases ha)) h
  rw [eLA_ev, has] at this
  exact this
theorem ib0 {x y : Int} (h : in32 (x + y)) : ib 0 x y = x + y := by
  show (Int32.ofInt x + Int32.ofInt y).toInt = x + y
  rw [← Int32.ofInt_add]
  exact i32_to h
theorem wOf_a {W : Wl} {j s : Nat} (h : W.any (fun q => Nat.beq q.1 j && Nat.beq q.2 0) = true) : wOf W j s = true := by
  unfold wOf
  rw [List.any_eq_true] at h ⊢
  obtain ⟨q, hq, h⟩ := h
  refine ⟨q, hq, ?_⟩
  simp only [Bool.and_eq_true, Bool.or_eq_true] at h ⊢
  exact ⟨h.1, Or.inl h.2⟩
theorem tiv_a {j s : Nat} {i : Iv} (h : TT[j]? = some (1, [i])) : tiv j s = i := by
  unfold tiv
  rw [h]
  show [i].getD (s % 1) I64 = i
  rw [Nat.mod_one]
  rfl
theorem patsV_c {p : Pat} {ps : List Pat} {as : List V} (h : patsV (p :: ps) as) : ∃ v vs, as = v :: vs ∧ patV p v ∧ patsV ps vs := by
  cases as with
  | nil => exact h.elim
  | cons v vs => exact ⟨v, vs, rfl, h.1, h.2⟩
theorem patsV_n {as : List V} (h : patsV [] as) : as = [] := by
  cases as with
  | nil => rfl
  | cons v vs => exact h.elim
/-! bits of a number -/
def btc (s : Int) (k : Nat) : Int := ib 3 (ib 7 s (k : Int)) 1
def sm (s : Int) : Nat → Int
  | 0 => 0
  | n + 1 => sm s n + btc s n
theorem btc_in (s : Int) (k : Nat) : 0 ≤ btc s k ∧ btc s k ≤ 1 := and32 (by unfold in32; omega) (by decide)
theorem sm_in (s : Int) (n : Nat) : 0 ≤ sm s n ∧ sm s n ≤ n := by
  induction n with
  | zero => exact ⟨Int.le_refl _, Int.le_refl _⟩
  | succ n ih => have := btc_in s n; show 0 ≤ sm s n + btc s n ∧ sm s n + btc s n ≤ ((n + 1 : Nat) : Int); omega
theorem sm_mono (s : Int) {m n : Nat} (h : m ≤ n) : sm s m ≤ sm s n := by
  induction h with
  | refl => exact Int.le_refl _
  | @step n h ih => have := btc_in s n; show sm s m ≤ sm s n + btc s n; omega
theorem bits_loop {X : Xs} {s : Int} {M : Mm} : ∀ (t k : Nat), k + t = 31 → Wp X 10 177 4 ([0, 1, 2].zip [vI s, vI (sm s k), vI (k : Int)]) [] M (fun v M' => M' = M ∧ v = some (vI (sm s 31))) := by
  intro t
  induction t with
  | zero =>
    intro k hk
    refine Wp_seg (cut := cutL [(4, [0, 1, 2])]) (CT := fun _ _ _ => False) 3 20 [(1, 0), (1, 1), (1, 2)] (us (us (us (fun _ => 0) 0 s) 1 (sm s k)) 2 k) [(15, 3, [(1, 2), (0, 31), (0, 1)]), (19, 0, [(1, 1)]), (0, 7, [(1, 0), (1, 2)]), (0, 3, [(1, 3), (0, 1)]), (0, 0, [(1, 1), (1, 4)]), (0, 0, [(1, 2), (0, 1)]), (17, 4, [(1, 0), (1, 5), (1, 6)])] (by decide +kernel) rfl rfl (by decide) (fun _ _ _ _ _ _ h => h.elim) ?_
    refine d_br (fun h => d_r1 ?_) fun h => ?_
    · have : k = 31 := by omega
      subst this
      exact ⟨rfl, rfl⟩
    · have h : ¬ (31 : Int) ≤ (k : Int) := h
      omega
  | succ t ih =>
    intro k hk
    refine Wp_seg (cut := cutL [(4, [0, 1, 2])]) (CT := fun i as M' => i = 4 ∧ as = [vI s, vI (sm s (k + 1)), vI ((k + 1 : Nat) : Int)] ∧ M' = M) 3 20 [(1, 0), (1, 1), (1, 2)] (us (us (us (fun _ => 0) 0 s) 1 (sm s k)) 2 k) [(15, 3, [(1, 2), (0, 31), (0, 1)]), (19, 0, [(1, 1)]), (0, 7, [(1, 0), (1, 2)]), (0, 3, [(1, 3), (0, 1)]), (0, 0, [(1, 1), (1, 4)]), (0, 0, [(1, 2), (0, 1)]), (17, 4, [(1, 0), (1, 5), (1, 6)])] (by decide +kernel) rfl rfl (by decide) (fun i dl as M' hi _ h => ?_) ?_
    · obtain ⟨rfl, rfl, rfl⟩ := h
      obtain rfl : [0, 1, 2] = dl := Option.some.inj hi
      exact ih (k + 1) (by omega)
    · refine d_br (fun h => ?_) fun h => d_ib (d_ib (d_ib (d_ib (d_ct ⟨rfl, ?_, rfl⟩))))
      · have h : (31 : Int) ≤ (k : Int) := h
        omega
      · have e1 : ib 0 (sm s k) (btc s k) = sm s (k + 1) := ib0 (by have := sm_in s (k + 1); have e : sm s (k + 1) = sm s k + btc s k := rfl; unfold in32; omega)
        have e2 : ib 0 (k : Int) 1 = ((k + 1 : Nat) : Int) := by rw [ib0 (by unfold in32; omega)]; omega
        show [vI s, vI (ib 0 (sm s k) (btc s k)), vI (ib 0 (k : Int) 1)] = _
        rw [e1, e2]
theorem bits_m {X : Xs} {s : Int} {M : Mm} : Wp X 10 177 0 (eL 0 [vI s]) [] M (fun v M' => M' = M ∧ v = some (vI (sm s 31))) := by
  refine Wp_ent (cut := cutL [(4, [0, 1, 2])]) (CT := fun i as M' => i = 4 ∧ as = [vI s, vI 0, vI 0] ∧ M' = M) 1 20 [(1, 0)] (us (fun _ => 0) 0 s) [(17, 4, [(1, 0), (0, 0), (0, 0)])] (by decide +kernel) rfl rfl (by decide) (fun i dl as M' hi _ h => ?_) (d_ct ⟨rfl, rfl, rfl⟩)
  obtain ⟨rfl, rfl, rfl⟩ := h
  obtain rfl : [0, 1, 2] = dl := Option.some.inj hi
  exact bits_loop 31 0 rfl
/-! hold -/
def cu183 : List Cut := [(60, [0, 2], [(2, 65, 0), (0, 0, 5)], [], [(-1, 1, 5)], [])]
theorem oc183 : cu183.all (okCut H0 [sp178_0, sp182_0] inlF [] cu183 4000 sp183_0) = true := by decide +kernel
theorem hold_60 {X : Xs} {M M0 : Mm} (hT : okTT M) (hF : FrM sp183_0.2.2.2.1 M0 M) : Wp X 90 183 60 ([0, 2].zip [vR 0 65, vI 0]) [] M (Qp sp183_0.2.2.2.1 sp183_0.2.2.1 M0 (fun _ => True) (fun _ _ => True)) :=
  cuts_sound (sp := sp183_0) H0_ok (sps_cons (ok178_0 X) (sps_cons (ok182_0 X) sps_nil)) (by decide) (fun c h => Or.inl (List.all_eq_true.mp oc183 c h)) _ (60, [0, 2], [(2, 65, 0), (0, 0, 5)], [], [(-1, 1, 5)], []) [vR 0 65, vI 0] M (by simp [cu183]) ⟨rfl, ⟨0, rfl, by decide, by decide⟩, trivial⟩ (fun q hq => (by cases hq)) (fun q hq => (by cases hq)) hT hF rfl trivial
theorem hold_st {X : Xs} {s : Int} {M0 : Mm} (h5 : sm s 31 ≤ 5) {c : Nat} {M : Mm} (hT : okTT M) (hF : FrM sp183_0.2.2.2.1 M0 M) (hm : M 65 53 = sm s c) (nx : c < 20 → ∀ M', okTT M' → FrM sp183_0.2.2.2.1 M0 M' → M' 65 53 = sm s (c + 1) → Wp X 90 183 26 ([0, 1, 2].zip [vR 0 65, vI s, vI ((c + 1 : Nat) : Int)]) [] M' (Qp sp183_0.2.2.2.1 sp183_0.2.2.1 M0 (fun _ => True) (fun _ _ => True))) : Wp X 90 183 26 ([0, 1, 2].zip [vR 0 65, vI s, vI (c : Int)]) [] M (Qp sp183_0.2.2.2.1 sp183_0.2.2.1 M0 (fun _ => True) (fun _ _ => True)) := by
  refine Wp_seg (cut := cutL [(26, [0, 1, 2]), (60, [0, 2])]) (CT := fun i as M' => okTT M' ∧ FrM sp183_0.2.2.2.1 M0 M' ∧ ((i = 60 ∧ as = [vR 0 65, vI 0]) ∨ (i = 26 ∧ c < 20 ∧ as = [vR 0 65, vI s, vI ((c + 1 : Nat) : Int)] ∧ M' 65 53 = sm s (c + 1)))) 2 40 [(4, 65), (1, 0), (1, 1)] (us (us (fun _ => 0) 0 s) 1 c) [(4, 65, [(0, 21)]), (15, 3, [(1, 1), (1, 2), (0, 1)]), (17, 60, [(4, 65), (0, 0)]), (0, 7, [(1, 0), (1, 1)]), (0, 3, [(1, 3), (0, 1)]), (15, 1, [(1, 4), (0, 1), (0, 2)]), (0, 0, [(1, 1), (0, 1)]), (17, 26, [(4, 65), (1, 0), (1, 5)]), (5, 94, [(1, 1)]), (15, 0, [(1, 5), (0, 0), (0, 7)]), (4, 65, [(0, 53)]), (11, 99, [(1, 6), (1, 1)]), (4, 65, [(0, 53)]), (0, 0, [(1, 7), (0, 1)]), (10, 65, [(0, 53), (1, 8)]), (0, 0, [(1, 1), (0, 1)]), (17, 26, [(4, 65), (1, 0), (1, 9)]), (19, 0, [(0, -100003)])] (by decide +kernel) rfl rfl (by decide) (fun i dl as M' hi _ h => ?_) ?_
  · obtain ⟨h1, h2, ⟨rfl, rfl⟩ | ⟨rfl, h3, rfl, h4⟩⟩ := h
    · obtain rfl : [0, 2] = dl := Option.some.inj hi
      exact hold_60 h1 h2
    · obtain rfl : [0, 1, 2] = dl := Option.some.inj hi
      exact nx h3 M' h1 h2 h4
  · have t1 : 0 ≤ M 65 21 ∧ M 65 21 ≤ 20 := hT 65 21
    have b := btc_in s c
    have e1 : sm s (c + 1) = sm s c + btc s c := rfl
    refine d_ld fun _ => d_br (fun h => d_ct ⟨hT, hF, Or.inl ⟨rfl, rfl⟩⟩) fun h => d_ib (d_ib (d_br (fun h2 => d_ib (d_ct ⟨hT, hF, Or.inr ⟨rfl, ?_, ?_, ?_⟩⟩)) fun h2 => d_la ?_ fun _ => d_br (fun h3 => d_ld fun _ => d_sa ?_ (d_ld fun _ => d_ib (d_st (d_ib (d_ct ⟨?_, ?_, Or.inr ⟨rfl, ?_, ?_, ?_⟩⟩))))) fun h3 => d_r1 ?_))
    all_goals have h : ¬ M 65 21 ≤ (c : Int) := h
    all_goals have ec : ib 0 (c : Int) 1 = ((c + 1 : Nat) : Int) := by rw [ib0 (by unfold in32; omega)]; omega
    · omega
    · show [vR 0 65, vI s, vI (ib 0 (c : Int) 1)] = _
      rw [ec]
    · have h2 : btc s c ≠ 1 := h2
      omega
    · show 0 ≤ (c : Int) ∧ (c : Int) < ((20 : Nat) : Int)
      omega
    all_goals have h2 : ¬ btc s c ≠ 1 := h2
    all_goals have m1 := sm_in s c
    all_goals have m2 : sm s (c + 1) ≤ sm s 31 := sm_mono s (by omega)
    · show 0 ≤ M 65 53 ∧ M 65 53 < ((5 : Nat) : Int)
      omega
    all_goals try have u1 : up M 99 (M 65 53).toNat (c : Int) 65 53 = M 65 53 := rfl
    all_goals try have e3 : ib 0 (M 65 53) 1 = M 65 53 + 1 := ib0 (by unfold in32; omega)
    · show okTT (up (up M 99 (M 65 53).toNat (c : Int)) 65 53 (ib 0 (M 65 53) 1))
      rw [e3]
      refine okTT_up (okTT_up hT ?_) ?_
      · rw [tiv_a (i := (0, 19)) rfl]
        show 0 ≤ (c : Int) ∧ (c : Int) ≤ 19
        omega
      · show 0 ≤ M 65 53 + 1 ∧ M 65 53 + 1 ≤ 5
        omega
    · show FrM _ M0 (up (up M 99 (M 65 53).toNat (c : Int)) 65 53 (ib 0 (M 65 53) 1))
      exact FrM_up (FrM_up hF (wOf_a (by decide))) (by decide)
    · omega
    · show [vR 0 65, vI s, vI (ib 0 (c : Int) 1)] = _
      rw [ec]
    · show ib 0 (M 65 53) 1 = sm s (c + 1)
      rw [e3]
      omega
    · exact ⟨⟨hT, hF, _, List.mem_cons_self, fun x hx => (by show (-100003 : Int) ≤ -100003 ∧ (-100003 : Int) ≤ 0; omega), fun q hq => (by cases hq)⟩, trivial, trivial⟩
theorem hold_26 {X : Xs} {s : Int} {M0 : Mm} (h5 : sm s 31 ≤ 5) : ∀ (t c : Nat) (M : Mm), c + t = 20 → okTT M → FrM sp183_0.2.2.2.1 M0 M → M 65 53 = sm s c → Wp X 90 183 26 ([0, 1, 2].zip [vR 0 65, vI s, vI (c : Int)]) [] M (Qp sp183_0.2.2.2.1 sp183_0.2.2.1 M0 (fun _ => True) (fun _ _ => True)) := by
  intro t
  induction t with
  | zero => intro c M hc hT hF hm; exact hold_st h5 hT hF hm fun h => by omega
  | succ t ih => intro c M hc hT hF hm; exact hold_st h5 hT hF hm fun h M' h1 h2 h3 => ih (c + 1) M' (by omega) h1 h2 h3
theorem ok183_0 (X : Xs) : SpecOK X sp183_0 := by
  intro as M hp hT _
  obtain ⟨r, as, rfl, hr, hp⟩ := patsV_c hp
  obtain ⟨a, as, rfl, ha, hp⟩ := patsV_c hp
  obtain rfl := patsV_n hp
  obtain ⟨s, rfl, hs⟩ := ha
  obtain rfl : r = vR 0 65 := hr
  clear hp
  have W1 : ∀ {M' : Mm}, FrM sp160_0.2.2.2.1 M M' → FrM sp183_0.2.2.2.1 M M' := fun h => FrM_sub (fun _ _ _ => rfl) (by decide) h
  have R : ∀ {M' : Mm} {z : Int}, okTT M' → FrM sp183_0.2.2.2.1 M M' → -100003 ≤ z ∧ z ≤ 0 → Qp sp183_0.2.2.2.1 sp183_0.2.2.1 M (fun _ => True) (fun _ _ => True) (some (vI z)) M' := fun h1 h2 h3 => ⟨⟨h1, h2, _, List.mem_cons_self, fun x hx => h3, fun q hq => (by cases hq)⟩, trivial, trivial⟩
  have F0 : FrM sp183_0.2.2.2.1 M M := fun _ _ _ => rfl
  have tail : ∀ (F n : Nat) (σ : Nat → Int), σ 0 = s → 0 < n → den X (CPd X 90) (fun i as M' => okTT M' ∧ FrM sp183_0.2.2.2.1 M M' ∧ sm s 31 ≤ 5 ∧ i = 26 ∧ as = [vR 0 65, vI s, vI 0] ∧ M' 65 53 = 0) (Qp sp183_0.2.2.2.1 sp183_0.2.2.1 M (fun _ => True) (fun _ _ => True)) (F + 7) [(16, 177, [(1, 0)]), (15, 5, [(1, (n : Int)), (0, 5), (0, 4)]), (4, 65, [(0, 0)]), (16, 160, [(4, 65), (1, ((n + 1 : Nat) : Int))]), (10, 65, [(0, 53), (0, 0)]), (17, 26, [(4, 65), (1, 0), (0, 0)]), (19, 0, [(0, -100002)])] n σ M := by
    intro F n σ h0 hn
    refine d_ca ⟨10, by decide, ?_⟩
    show Wp X 10 177 0 (eL 0 [vI (σ 0)]) [] M _
    rw [h0]
    refine bits_m.mono fun v M' hv _ _ _ => ?_
    obtain ⟨rfl, rfl⟩ := hv
    have en : us σ n (oz (some (vI (sm s 31)))) n = sm s 31 := us_at
    refine d_br (fun h => ?_) fun h => d_r1 (R hT F0 (by decide))
    have h : us σ n (oz (some (vI (sm s 31)))) ((n : Int)).toNat ≤ 5 := h
    rw [Int.toNat_natCast, en] at h
    show den X _ _ _ (F + 5) [(4, 65, [(0, 0)]), (16, 160, [(4, 65), (1, ((n + 1 : Nat) : Int))]), (10, 65, [(0, 53), (0, 0)]), (17, 26, [(4, 65), (1, 0), (0, 0)])] (n + 1) _ M'
    refine d_ld fun _ => d_ca ⟨50, by decide, ?_⟩
    have t0 : 0 ≤ M' 65 0 ∧ M' 65 0 ≤ 9000 := hT 65 0
    show Wp X 50 160 0 (eL 0 [vR 0 65, vI (us (us σ n _) (n + 1) (M' 65 0) (((n + 1 : Nat) : Int)).toNat)]) [] M' _
    rw [Int.toNat_natCast, us_at]
    refine (ok160_0 X [vR 0 65, vI (M' 65 0)] M' ⟨rfl, ⟨_, rfl, ?_, t0.2⟩, trivial⟩ hT trivial).mono fun v M2 hq _ _ _ => ?_
    · show (-2147483648 : Int) ≤ M' 65 0
      omega
    obtain ⟨q1, q2, -, -⟩ := hq
    refine d_st (d_ct ⟨okTT_up q1 (by show (0 : Int) ≤ 0 ∧ (0 : Int) ≤ 5; omega), FrM_up (W1 q2) (by decide), h, rfl, ?_, rfl⟩)
    show [vR 0 65, vI (us _ _ _ 0), vI 0] = _
    rw [us_ne (by omega), us_ne (by omega), us_ne hn, h0]
  refine (Wp_ent (cut := cutL [(26, [0, 1, 2]), (60, [0, 2])]) (CT := fun i as M' => okTT M' ∧ FrM sp183_0.2.2.2.1 M M' ∧ sm s 31 ≤ 5 ∧ i = 26 ∧ as = [vR 0 65, vI s, vI 0] ∧ M' 65 53 = 0) (Q := Qp sp183_0.2.2.2.1 sp183_0.2.2.1 M (fun _ => True) (fun _ _ => True)) 1 40 [(4, 65), (1, 0)] (us (fun _ => 0) 0 s) [(15, 5, [(1, 0), (0, 0), (0, 9)]), (15, 5, [(1, 0), (0, 0), (0, 1)]), (19, 0, [(0, -100002)]), (16, 177, [(1, 0)]), (15, 5, [(1, 1), (0, 5), (0, 4)]), (4, 65, [(0, 0)]), (16, 160, [(4, 65), (1, 2)]), (10, 65, [(0, 53), (0, 0)]), (17, 26, [(4, 65), (1, 0), (0, 0)]), (19, 0, [(0, -100002)]), (4, 65, [(0, 21)]), (0, 7, [(1, 0), (1, 1)]), (15, 0, [(1, 2), (0, 0), (0, 9)]), (15, 5, [(1, 0), (0, 0), (0, 1)]), (19, 0, [(0, -100002)]), (16, 177, [(1, 0)]), (15, 5, [(1, 3), (0, 5), (0, 4)]), (4, 65, [(0, 0)]), (16, 160, [(4, 65), (1, 4)]), (10, 65, [(0, 53), (0, 0)]), (17, 26, [(4, 65), (1, 0), (0, 0)]), (19, 0, [(0, -100002)]), (19, 0, [(0, -100001)])] (by decide +kernel) rfl rfl (by decide) (fun i dl as M' hi _ h => ?_) ?_).mono fun v M' q => ⟨q.1.1, q.1.2.1, q.1.2.2, trivial⟩
  · obtain ⟨h1, h2, h3, rfl, rfl, h4⟩ := h
    obtain rfl : [0, 1, 2] = dl := Option.some.inj hi
    exact hold_26 h3 20 0 M' rfl h1 h2 h4
  · refine d_br (fun h => d_br (fun h => d_r1 (R hT F0 (by decide))) fun h => ?_) fun h => d_ld fun _ => d_ib (d_br (fun h2 => d_br (fun h => d_r1 (R hT F0 (by decide))) fun h => ?_) fun h2 => d_r1 (R hT F0 (by decide)))
    · exact tail 31 1 _ rfl (by decide)
    · exact tail 29 3 _ rfl (by decide)
