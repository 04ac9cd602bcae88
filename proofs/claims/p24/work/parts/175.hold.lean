/-! a method by hand that has marked places -/
def cutL (l : List (Nat × List Nat)) (i : Nat) : Option (List Nat) := (l.find? (fun q => Nat.beq q.1 i)).map (fun q => q.2)
theorem Wp_seg {X : Xs} {d k i : Nat} {cut : Nat → Option (List Nat)} {CT : Nat → List V → Mm → Prop} {dl : List Nat} {as : List V} {M : Mm} {Q : Option V → Mm → Prop} (n F : Nat) (avs : List AV) (σ : Nat → Int) (t : List Node) (ht : cmp inlF cut 4000 false n k i (dl.zip avs) [] [] = t) (has : avs.map (ev σ) = as) (hw : avs.all (wAb n) = true) (hd : 10 ≤ d) (hCT : ∀ (i : Nat) (dl : List Nat) (as : List V) (M : Mm), cut i = some dl → as.length = dl.length → CT i as M → Wp X d k i (dl.zip as) [] M Q) (h : den X (CPd X d) CT Q F t n σ M) : Wp X d k i (dl.zip as) [] M Q := by
  subst ht
  have hw := wS_b hw
  have := cmp_sound (d := d) (k0 := k) (cut := cut) (CT := CT) (CP := CPd X d) (fun k' as M Q' hq => hq) hCT hd 4000 false n k i _ [] [] F σ M rfl (Nat.zero_le _) (wL_zip hw) (fun a ha => (by cases ha)) (fun a ha => (by cases ha)) h
  rw [evL_zip, has] at this
  exact this
theorem Wp_ent {X : Xs} {d k : Nat} {cut : Nat → Option (List Nat)} {CT : Nat → List V → Mm → Prop} {as : List V} {M : Mm} {Q : Option V → Mm → Prop} (n F : Nat) (avs : List AV) (σ : Nat → Int) (t : List Node) (ht : cmp inlF cut 4000 false n k 0 (eLA 0 avs) [] [] = t) (has : avs.map (ev σ) = as) (hw : avs.all (wAb n) = true) (hd : 10 ≤ d) (hCT : ∀ (i : Nat) (dl : List Nat) (as : List V) (M : Mm), cut i = some dl → as.length = dl.length → CT i as M → Wp X d k i (dl.zip as) [] M Q) (h : den X (CPd X d) CT Q F t n σ M) : Wp X d k 0 (eL 0 as) [] M Q := by
  subst ht
  have hw := wS_b hw
  have := cmp_sound (d := d) (k0 := k) (cut := cut) (CT := CT) (CP := CPd X d) (fun k' as M Q' hq => hq) hCT hd 4000 false n k 0 _ [] [] F σ M rfl (Nat.zero_le _) (wL_eLA hw) (fun a ha => (by cases ha)) (fun a ha => (by cases ha)) h
  rw [eLA_ev, has] at this
  exact this
theorem ib0 {x y : Int} (h : in32 (x + y)) : ib 0 x y = x + y := by
  show (Int32.ofInt x + Int32.ofInt y).toInt = x + y
  rw [← Int32.ofInt_add]
  exact i32_to h
theorem wOf_a {W : Wl} {j s : Nat} (h : W.any (fun q => Nat.beq q.1 j && Nat.beq q.2 0) = true) : wOf W j s = true := by
  unfold wOf
  rw [List.any_eq_true] at h ⊢
  obtain ⟨q, hq, h⟩ := h
  refine ⟨q, hq, ?_⟩
  simp only [Bool.and_eq_true, Bool.or_eq_true] at h ⊢
  exact ⟨h.1, Or.inl h.2⟩
/-! bits of a number -/
def btc (s : Int) (k : Nat) : Int := ib 3 (ib 7 s (k : Int)) 1
def sm (s : Int) : Nat → Int
  | 0 => 0
  | n + 1 => sm s n + btc s n
theorem btc_in (s : Int) (k : Nat) : 0 ≤ btc s k ∧ btc s k ≤ 1 := and32 (by unfold in32; omega) (by decide)
theorem sm_in (s : Int) (n : Nat) : 0 ≤ sm s n ∧ sm s n ≤ n := by
  induction n with
  | zero => exact ⟨Int.le_refl _, Int.le_refl _⟩
  | succ n ih => have := btc_in s n; show 0 ≤ sm s n + btc s n ∧ sm s n + btc s n ≤ ((n + 1 : Nat) : Int); omega
theorem sm_mono (s : Int) {m n : Nat} (h : m ≤ n) : sm s m ≤ sm s n := by
  induction h with
  | refl => exact Int.le_refl _
  | @step n h ih => have := btc_in s n; show sm s m ≤ sm s n + btc s n; omega
theorem bits_loop {X : Xs} {s : Int} {M : Mm} : ∀ (t k : Nat), k + t = 31 → Wp X 10 177 4 ([0, 1, 2].zip [vI s, vI (sm s k), vI (k : Int)]) [] M (fun v M' => M' = M ∧ v = some (vI (sm s 31))) := by
  intro t
  induction t with
  | zero =>
    intro k hk
    refine Wp_seg (cut := cutL [(4, [0, 1, 2])]) (CT := fun _ _ _ => False) 3 20 [(1, 0), (1, 1), (1, 2)] (us (us (us (fun _ => 0) 0 s) 1 (sm s k)) 2 k) [(15, 3, [(1, 2), (0, 31), (0, 1)]), (19, 0, [(1, 1)]), (0, 7, [(1, 0), (1, 2)]), (0, 3, [(1, 3), (0, 1)]), (0, 0, [(1, 1), (1, 4)]), (0, 0, [(1, 2), (0, 1)]), (17, 4, [(1, 0), (1, 5), (1, 6)])] (by decide +kernel) rfl rfl (by decide) (fun _ _ _ _ _ _ h => h.elim) ?_
    refine d_br (fun h => d_r1 ?_) fun h => ?_
    · have : k = 31 := by omega
      subst this
      exact ⟨rfl, rfl⟩
    · have h : ¬ (31 : Int) ≤ (k : Int) := h
      omega
  | succ t ih =>
    intro k hk
    refine Wp_seg (cut := cutL [(4, [0, 1, 2])]) (CT := fun i as M' => i = 4 ∧ as = [vI s, vI (sm s (k + 1)), vI ((k + 1 : Nat) : Int)] ∧ M' = M) 3 20 [(1, 0), (1, 1), (1, 2)] (us (us (us (fun _ => 0) 0 s) 1 (sm s k)) 2 k) [(15, 3, [(1, 2), (0, 31), (0, 1)]), (19, 0, [(1, 1)]), (0, 7, [(1, 0), (1, 2)]), (0, 3, [(1, 3), (0, 1)]), (0, 0, [(1, 1), (1, 4)]), (0, 0, [(1, 2), (0, 1)]), (17, 4, [(1, 0), (1, 5), (1, 6)])] (by decide +kernel) rfl rfl (by decide) (fun i dl as M' hi _ h => ?_) ?_
    · obtain ⟨rfl, rfl, rfl⟩ := h
      obtain rfl : [0, 1, 2] = dl := Option.some.inj hi
      exact ih (k + 1) (by omega)
    · refine d_br (fun h => ?_) fun h => d_ib (d_ib (d_ib (d_ib (d_ct ⟨rfl, ?_, rfl⟩))))
      · have h : (31 : Int) ≤ (k : Int) := h
        omega
      · have e1 : ib 0 (sm s k) (btc s k) = sm s (k + 1) := ib0 (by have := sm_in s (k + 1); have e : sm s (k + 1) = sm s k + btc s k := rfl; unfold in32; omega)
        have e2 : ib 0 (k : Int) 1 = ((k + 1 : Nat) : Int) := by rw [ib0 (by unfold in32; omega)]; omega
        show [vI s, vI (ib 0 (sm s k) (btc s k)), vI (ib 0 (k : Int) 1)] = _
        rw [e1, e2]
theorem bits_m {X : Xs} {s : Int} {M : Mm} : Wp X 10 177 0 (eL 0 [vI s]) [] M (fun v M' => M' = M ∧ v = some (vI (sm s 31))) := by
  refine Wp_ent (cut := cutL [(4, [0, 1, 2])]) (CT := fun i as M' => i = 4 ∧ as = [vI s, vI 0, vI 0] ∧ M' = M) 1 20 [(1, 0)] (us (fun _ => 0) 0 s) [(17, 4, [(1, 0), (0, 0), (0, 0)])] (by decide +kernel) rfl rfl (by decide) (fun i dl as M' hi _ h => ?_) (d_ct ⟨rfl, rfl, rfl⟩)
  obtain ⟨rfl, rfl, rfl⟩ := h
  obtain rfl : [0, 1, 2] = dl := Option.some.inj hi
  exact bits_loop 31 0 rfl
/-! hold -/
def cu183 : List Cut := [(60, [0, 2], [(2, 65, 0), (0, 0, 5)], [], [(-1, 1, 5)], [])]
theorem oc183 : cu183.all (okCut H0 [sp178_0, sp182_0] inlF [] cu183 4000 sp183_0) = true := by decide +kernel
theorem hold_60 {X : Xs} {M M0 : Mm} (hT : okTT M) (hF : FrM sp183_0.2.2.2.1 M0 M) : Wp X 90 183 60 ([0, 2].zip [vR 0 65, vI 0]) [] M (Qp sp183_0.2.2.2.1 sp183_0.2.2.1 M0 (fun _ => True) (fun _ _ => True)) :=
  cuts_sound (sp := sp183_0) H0_ok (sps_cons (ok178_0 X) (sps_cons (ok182_0 X) sps_nil)) (by decide) (List.all_eq_true.mp oc183) _ (60, [0, 2], [(2, 65, 0), (0, 0, 5)], [], [(-1, 1, 5)], []) [vR 0 65, vI 0] M (by simp [cu183]) ⟨rfl, ⟨0, rfl, by decide, by decide⟩, trivial⟩ (fun q hq => (by cases hq)) (fun q hq => (by cases hq)) hT hF rfl trivial
theorem hold_26 {X : Xs} {s : Int} {M0 : Mm} (h5 : sm s 31 ≤ 5) : ∀ (t c : Nat) (M : Mm), c + t = 21 → okTT M → FrM sp183_0.2.2.2.1 M0 M → M 65 53 = sm s c → Wp X 90 183 26 ([0, 1, 2].zip [vR 0 65, vI s, vI (c : Int)]) [] M (Qp sp183_0.2.2.2.1 sp183_0.2.2.1 M0 (fun _ => True) (fun _ _ => True)) := by
  intro t
  induction t with
  | zero =>
    intro c M hc hT hF hm
    sorry
  | succ t ih =>
    intro c M hc hT hF hm
    sorry
