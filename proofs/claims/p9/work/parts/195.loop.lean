/-! the law's loop -/
theorem pr_weak {X : Xs} {P : Mm → Prop} {k1 d1 k2 d2 : Nat} {as : List V} {E : Prop} (h : Pr X P k1 d1 k2 d2 as E) : Pr X P k1 d1 k2 d2 as False := fun M hT hP => (h M hT hP).mono fun v1 M1 q1 => ⟨q1.1, q1.2.mono fun v2 M2 q2 => ⟨q2.1, q2.2.1, fun h => h.elim⟩⟩
theorem law_31 {X : Xs} {i : Int} {M : Mm} {Q : Option V → Mm → Prop} (nx : Wp X 120 0 10 ([0, 1, 2, 3].zip (l4 (ib 0 i 7))) [] M Q) : Wp X 120 0 933 ([0, 1, 2, 3].zip (l4 i)) [] M Q := by
  refine Wp_seg (cut := cutL cutLaw) (CT := fun i' as M' => i' = 10 ∧ as = l4 (ib 0 i 7) ∧ M' = M) 1 60 [(5, 0), (4, 0), (4, 65), (1, 0)] (us (fun _ => 0) 0 i) [(0, 0, [(1, 0), (0, 7)]), (17, 10, [(5, 0), (4, 0), (4, 65), (1, 1)])] (by decide +kernel) rfl rfl (by decide) (fun i' dl as M' hi _ h => ?_) ?_
  · obtain ⟨rfl, rfl, rfl⟩ := h
    obtain rfl : [0, 1, 2, 3] = dl := Option.some.inj hi
    exact nx
  · exact d_ib (d_ct ⟨rfl, rfl, rfl⟩)
theorem d_cs {X : Xs} {CP : Nat → List V → Mm → (Option V → Mm → Prop) → Prop} {CT : Nat → List V → Mm → Prop} {Q : Option V → Mm → Prop} {F n : Nat} {r : List Node} {σ : Nat → Int} {M : Mm} {c t : Nat} {a b : AV} {as : List AV} (h1 : CT t (as.map (ev σ)) M) (h2 : den X CP CT Q (F + 1) r n σ M) : den X CP CT Q (F + 2) ((15, c, [a, b, (0, 1)]) :: (17, t, as) :: r) n σ M := d_br (fun _ => d_ct h1) (fun _ => h2)
def lawT : List Nat := [22, 89, 116, 133, 160, 187, 204, 241, 278, 329, 336, 343, 380, 427, 474, 501, 518, 535, 562, 599, 626, 653, 690, 707, 734, 761, 778, 815, 842, 879, 916, 933]
theorem law_all {X : Xs} {i : Int} {M : Mm} {Q : Option V → Mm → Prop} (hX : ∀ j, in32 (X.2 j)) (hx : ∀ c : Int, 0 ≤ c ∧ c ≤ 6 → 0 ≤ ib 0 i c ∧ ib 0 i c < X.1) (hT : okTT M) (hP : PJ M) (nx : ∀ M', okTT M' → PJ M' → Wp X 120 0 933 ([0, 1, 2, 3].zip (l4 i)) [] M' Q) : ∀ t ∈ lawT, Wp X 120 0 t ([0, 1, 2, 3].zip (l4 i)) [] M Q := by
  refine List.forall_mem_cons.mpr ⟨law_0 hx hT hP (pr_weak pr_person) nx, ?_⟩
  refine List.forall_mem_cons.mpr ⟨law_1 hx hT hP (pr_weak pr_rank) nx, ?_⟩
  refine List.forall_mem_cons.mpr ⟨law_2 hx hT hP (pr_weak pr_die) nx, ?_⟩
  refine List.forall_mem_cons.mpr ⟨law_3 hx hT hP (pr_weak pr_feud) nx, ?_⟩
  refine List.forall_mem_cons.mpr ⟨law_4 hx hT hP (pr_weak pr_peace) nx, ?_⟩
  refine List.forall_mem_cons.mpr ⟨law_5 hx hT hP (pr_weak pr_go) nx, ?_⟩
  refine List.forall_mem_cons.mpr ⟨law_6 hx hT hP (pr_weak pr_told) nx, ?_⟩
  refine List.forall_mem_cons.mpr ⟨law_7 hx hT hP pr_kin nx, ?_⟩
  refine List.forall_mem_cons.mpr ⟨law_8 hx hT hP (fun b _ => (pr_weak pr_feed)) nx, ?_⟩
  refine List.forall_mem_cons.mpr ⟨law_9 hx hT hP pr_read nx, ?_⟩
  refine List.forall_mem_cons.mpr ⟨law_10 hT hP nx, ?_⟩
  refine List.forall_mem_cons.mpr ⟨law_11 hx hT hP (pr_fr (ok93_0 X) (ok153_0 X) (by decide) (by decide) _ ⟨rfl, ⟨_, rfl, hX _⟩, ⟨_, rfl, hX _⟩, ⟨_, rfl, hX _⟩, trivial⟩ ⟨rfl, ⟨_, rfl, hX _⟩, ⟨_, rfl, hX _⟩, ⟨_, rfl, hX _⟩, trivial⟩) nx, ?_⟩
  refine List.forall_mem_cons.mpr ⟨law_12 hx hT hP (pr_weak pr_charge) nx, ?_⟩
  refine List.forall_mem_cons.mpr ⟨law_13 hx hT hP (pr_fr (ok95_0 X) (ok162_0 X) (by decide) (by decide) _ ⟨rfl, ⟨_, rfl, hX _⟩, ⟨_, rfl, hX _⟩, ⟨_, rfl, hX _⟩, ⟨_, rfl, hX _⟩, trivial⟩ ⟨rfl, ⟨_, rfl, hX _⟩, ⟨_, rfl, hX _⟩, ⟨_, rfl, hX _⟩, ⟨_, rfl, hX _⟩, trivial⟩) nx, ?_⟩
  refine List.forall_mem_cons.mpr ⟨law_14 hx hT hP (pr_swear (hX _) (hX _)) nx, ?_⟩
  refine List.forall_mem_cons.mpr ⟨law_15 hx hT hP (pr_close (hX _)) nx, ?_⟩
  refine List.forall_mem_cons.mpr ⟨law_16 hx hT hP (pr_fr (ok98_0 X) (ok168_0 X) (by decide) (by decide) _ ⟨rfl, ⟨_, rfl, hX _⟩, trivial⟩ ⟨rfl, ⟨_, rfl, hX _⟩, trivial⟩) nx, ?_⟩
  refine List.forall_mem_cons.mpr ⟨law_17 hx hT hP (pr_fr (ok99_0 X) (ok169_0 X) (by decide) (by decide) _ ⟨rfl, ⟨_, rfl, hX _⟩, ⟨_, rfl, hX _⟩, trivial⟩ ⟨rfl, ⟨_, rfl, hX _⟩, ⟨_, rfl, hX _⟩, trivial⟩) nx, ?_⟩
  refine List.forall_mem_cons.mpr ⟨law_18 hx hT hP (pr_fr (ok100_0 X) (ok170_0 X) (by decide) (by decide) _ ⟨rfl, ⟨_, rfl, hX _⟩, ⟨_, rfl, hX _⟩, ⟨_, rfl, hX _⟩, trivial⟩ ⟨rfl, ⟨_, rfl, hX _⟩, ⟨_, rfl, hX _⟩, ⟨_, rfl, hX _⟩, trivial⟩) nx, ?_⟩
  refine List.forall_mem_cons.mpr ⟨law_19 hx hT hP (pr_fr (ok101_0 X) (ok171_0 X) (by decide) (by decide) _ ⟨rfl, ⟨_, rfl, hX _⟩, ⟨_, rfl, hX _⟩, trivial⟩ ⟨rfl, ⟨_, rfl, hX _⟩, ⟨_, rfl, hX _⟩, trivial⟩) nx, ?_⟩
  refine List.forall_mem_cons.mpr ⟨law_20 hx hT hP (pr_fr (ok102_0 X) (ok174_0 X) (by decide) (by decide) _ ⟨rfl, ⟨_, rfl, hX _⟩, ⟨_, rfl, hX _⟩, trivial⟩ ⟨rfl, ⟨_, rfl, hX _⟩, ⟨_, rfl, hX _⟩, trivial⟩) nx, ?_⟩
  refine List.forall_mem_cons.mpr ⟨law_21 hx hT hP (pr_fr (ok103_0 X) (ok175_0 X) (by decide) (by decide) _ ⟨rfl, ⟨_, rfl, hX _⟩, ⟨_, rfl, hX _⟩, ⟨_, rfl, hX _⟩, trivial⟩ ⟨rfl, ⟨_, rfl, hX _⟩, ⟨_, rfl, hX _⟩, ⟨_, rfl, hX _⟩, trivial⟩) nx, ?_⟩
  refine List.forall_mem_cons.mpr ⟨law_22 hx hT hP (pr_weak (pr_bound (hX _))) nx, ?_⟩
  refine List.forall_mem_cons.mpr ⟨law_23 hx hT hP (pr_fr (ok105_0 X) (ok184_0 X) (by decide) (by decide) _ ⟨rfl, ⟨_, rfl, hX _⟩, ⟨_, rfl, hX _⟩, trivial⟩ ⟨rfl, ⟨_, rfl, hX _⟩, ⟨_, rfl, hX _⟩, trivial⟩) nx, ?_⟩
  refine List.forall_mem_cons.mpr ⟨law_24 hx hT hP (pr_fr (ok106_0 X) (ok185_0 X) (by decide) (by decide) _ ⟨rfl, ⟨_, rfl, hX _⟩, ⟨_, rfl, hX _⟩, trivial⟩ ⟨rfl, ⟨_, rfl, hX _⟩, ⟨_, rfl, hX _⟩, trivial⟩) nx, ?_⟩
  refine List.forall_mem_cons.mpr ⟨law_25 hx hT hP (pr_fr (ok107_0 X) (ok186_0 X) (by decide) (by decide) _ ⟨rfl, ⟨_, rfl, hX _⟩, trivial⟩ ⟨rfl, ⟨_, rfl, hX _⟩, trivial⟩) nx, ?_⟩
  refine List.forall_mem_cons.mpr ⟨law_26 hx hT hP (pr_fr (ok108_0 X) (ok188_0 X) (by decide) (by decide) _ ⟨rfl, ⟨_, rfl, hX _⟩, ⟨_, rfl, hX _⟩, ⟨_, rfl, hX _⟩, trivial⟩ ⟨rfl, ⟨_, rfl, hX _⟩, ⟨_, rfl, hX _⟩, ⟨_, rfl, hX _⟩, trivial⟩) nx, ?_⟩
  refine List.forall_mem_cons.mpr ⟨law_27 hx hT hP (pr_fr (ok109_0 X) (ok189_0 X) (by decide) (by decide) _ ⟨rfl, ⟨_, rfl, hX _⟩, ⟨_, rfl, hX _⟩, trivial⟩ ⟨rfl, ⟨_, rfl, hX _⟩, ⟨_, rfl, hX _⟩, trivial⟩) nx, ?_⟩
  refine List.forall_mem_cons.mpr ⟨law_28 hx hT hP (pr_fr (ok110_0 X) (ok191_0 X) (by decide) (by decide) _ ⟨rfl, ⟨_, rfl, hX _⟩, ⟨_, rfl, hX _⟩, ⟨_, rfl, hX _⟩, trivial⟩ ⟨rfl, ⟨_, rfl, hX _⟩, ⟨_, rfl, hX _⟩, ⟨_, rfl, hX _⟩, trivial⟩) nx, ?_⟩
  refine List.forall_mem_cons.mpr ⟨law_29 hx hT hP (pr_fr (ok111_0 X) (ok192_0 X) (by decide) (by decide) _ ⟨rfl, ⟨_, rfl, hX _⟩, ⟨_, rfl, hX _⟩, ⟨_, rfl, hX _⟩, trivial⟩ ⟨rfl, ⟨_, rfl, hX _⟩, ⟨_, rfl, hX _⟩, ⟨_, rfl, hX _⟩, trivial⟩) nx, ?_⟩
  refine List.forall_mem_cons.mpr ⟨law_30 hx hT hP (pr_fr (ok112_0 X) (ok193_0 X) (by decide) (by decide) _ ⟨rfl, ⟨_, rfl, hX _⟩, trivial⟩ ⟨rfl, ⟨_, rfl, hX _⟩, trivial⟩) nx, ?_⟩
  refine List.forall_mem_cons.mpr ⟨nx M hT hP, ?_⟩
  exact fun t ht => (by cases ht)
/-- from the loop's head to the end: it answers 1 -/
theorem law_at {X : Xs} (hl : X.1 ≤ 2147483647) (hX : ∀ j, in32 (X.2 j)) : ∀ (n : Nat) (i : Int) (M : Mm), 0 ≤ i → (X.1 : Int) - i ≤ n → in32 i → okTT M → PJ M → Wp X 120 0 10 ([0, 1, 2, 3].zip (l4 i)) [] M (fun v _ => v = some (vI 1)) := by
  intro n
  induction n using Nat.strongRecOn with
  | _ n ih =>
    intro i M h0 hn hi hT hP
    have e7 : ib 1 X.1 7 = (X.1 : Int) - 7 := by
      show (Int32.ofInt (X.1 : Int) - Int32.ofInt 7).toInt = _
      rw [← Int32.ofInt_sub]
      exact i32_to (by unfold in32; omega)
    refine Wp_seg (cut := cutL cutLaw) (CT := fun i' as M' => i' ∈ lawT ∧ as = l4 i ∧ M' = M ∧ i ≤ (X.1 : Int) - 7) 1 100 [(5, 0), (4, 0), (4, 65), (1, 0)] (us (fun _ => 0) 0 i) [(7, 0, []), (0, 1, [(1, 1), (0, 7)]), (15, 4, [(1, 0), (1, 2), (0, 1)]), (19, 0, [(0, 1)]), (6, 0, [(1, 0)]), (0, 3, [(1, 3), (0, 31)]), (15, 0, [(1, 4), (0, 0), (0, 1)]), (17, 22, [(5, 0), (4, 0), (4, 65), (1, 0)]), (15, 0, [(1, 4), (0, 1), (0, 1)]), (17, 89, [(5, 0), (4, 0), (4, 65), (1, 0)]), (15, 0, [(1, 4), (0, 2), (0, 1)]), (17, 116, [(5, 0), (4, 0), (4, 65), (1, 0)]), (15, 0, [(1, 4), (0, 3), (0, 1)]), (17, 133, [(5, 0), (4, 0), (4, 65), (1, 0)]), (15, 0, [(1, 4), (0, 4), (0, 1)]), (17, 160, [(5, 0), (4, 0), (4, 65), (1, 0)]), (15, 0, [(1, 4), (0, 5), (0, 1)]), (17, 187, [(5, 0), (4, 0), (4, 65), (1, 0)]), (15, 0, [(1, 4), (0, 6), (0, 1)]), (17, 204, [(5, 0), (4, 0), (4, 65), (1, 0)]), (15, 0, [(1, 4), (0, 7), (0, 1)]), (17, 241, [(5, 0), (4, 0), (4, 65), (1, 0)]), (15, 0, [(1, 4), (0, 8), (0, 1)]), (17, 278, [(5, 0), (4, 0), (4, 65), (1, 0)]), (15, 0, [(1, 4), (0, 9), (0, 1)]), (17, 329, [(5, 0), (4, 0), (4, 65), (1, 0)]), (15, 0, [(1, 4), (0, 10), (0, 1)]), (17, 336, [(5, 0), (4, 0), (4, 65), (1, 0)]), (15, 0, [(1, 4), (0, 11), (0, 1)]), (17, 343, [(5, 0), (4, 0), (4, 65), (1, 0)]), (15, 0, [(1, 4), (0, 12), (0, 1)]), (17, 380, [(5, 0), (4, 0), (4, 65), (1, 0)]), (15, 0, [(1, 4), (0, 13), (0, 1)]), (17, 427, [(5, 0), (4, 0), (4, 65), (1, 0)]), (15, 0, [(1, 4), (0, 14), (0, 1)]), (17, 474, [(5, 0), (4, 0), (4, 65), (1, 0)]), (15, 0, [(1, 4), (0, 15), (0, 1)]), (17, 501, [(5, 0), (4, 0), (4, 65), (1, 0)]), (15, 0, [(1, 4), (0, 16), (0, 1)]), (17, 518, [(5, 0), (4, 0), (4, 65), (1, 0)]), (15, 0, [(1, 4), (0, 17), (0, 1)]), (17, 535, [(5, 0), (4, 0), (4, 65), (1, 0)]), (15, 0, [(1, 4), (0, 18), (0, 1)]), (17, 562, [(5, 0), (4, 0), (4, 65), (1, 0)]), (15, 0, [(1, 4), (0, 19), (0, 1)]), (17, 599, [(5, 0), (4, 0), (4, 65), (1, 0)]), (15, 0, [(1, 4), (0, 20), (0, 1)]), (17, 626, [(5, 0), (4, 0), (4, 65), (1, 0)]), (15, 0, [(1, 4), (0, 21), (0, 1)]), (17, 653, [(5, 0), (4, 0), (4, 65), (1, 0)]), (15, 0, [(1, 4), (0, 22), (0, 1)]), (17, 690, [(5, 0), (4, 0), (4, 65), (1, 0)]), (15, 0, [(1, 4), (0, 23), (0, 1)]), (17, 707, [(5, 0), (4, 0), (4, 65), (1, 0)]), (15, 0, [(1, 4), (0, 24), (0, 1)]), (17, 734, [(5, 0), (4, 0), (4, 65), (1, 0)]), (15, 0, [(1, 4), (0, 25), (0, 1)]), (17, 761, [(5, 0), (4, 0), (4, 65), (1, 0)]), (15, 0, [(1, 4), (0, 26), (0, 1)]), (17, 778, [(5, 0), (4, 0), (4, 65), (1, 0)]), (15, 0, [(1, 4), (0, 27), (0, 1)]), (17, 815, [(5, 0), (4, 0), (4, 65), (1, 0)]), (15, 0, [(1, 4), (0, 28), (0, 1)]), (17, 842, [(5, 0), (4, 0), (4, 65), (1, 0)]), (15, 0, [(1, 4), (0, 29), (0, 1)]), (17, 879, [(5, 0), (4, 0), (4, 65), (1, 0)]), (15, 0, [(1, 4), (0, 30), (0, 1)]), (17, 916, [(5, 0), (4, 0), (4, 65), (1, 0)]), (17, 933, [(5, 0), (4, 0), (4, 65), (1, 0)])] (by decide +kernel) rfl rfl (by decide) (fun i' dl as M' hi' _ h => ?_) ?_
    · obtain ⟨g1, rfl, rfl, g2⟩ := h
      obtain rfl : [0, 1, 2, 3] = dl := by
        have q := List.all_eq_true.mp (show lawT.all (fun t => decide (cutL cutLaw t = some [0, 1, 2, 3])) = true from rfl) i' g1
        rw [of_decide_eq_true q] at hi'
        exact Option.some.inj hi'
      refine law_all hX (fun c hc => ?_) hT hP (fun M' t1 p1 => ?_) i' g1
      · rw [ib0 (by unfold in32; omega)]
        omega
      · have e : ib 0 i 7 = i + 7 := ib0 (by unfold in32; omega)
        refine law_31 ?_
        rw [e]
        exact ih (n - 7) (by omega) (i + 7) M' (by omega) (by omega) (by unfold in32; omega) t1 p1
    · refine d_sl (d_ib (d_br (fun _ => d_r1 rfl) fun h => ?_))
      have h : ¬ ib 1 X.1 7 < i := h
      rw [e7] at h
      have g : i ≤ (X.1 : Int) - 7 := by omega
      refine d_sc ⟨h0, by show i < (X.1 : Int); omega⟩ (d_ib ?_)
      exact d_cs ⟨by decide, rfl, rfl, g⟩ (d_cs ⟨by decide, rfl, rfl, g⟩ (d_cs ⟨by decide, rfl, rfl, g⟩ (d_cs ⟨by decide, rfl, rfl, g⟩ (d_cs ⟨by decide, rfl, rfl, g⟩ (d_cs ⟨by decide, rfl, rfl, g⟩ (d_cs ⟨by decide, rfl, rfl, g⟩ (d_cs ⟨by decide, rfl, rfl, g⟩ (d_cs ⟨by decide, rfl, rfl, g⟩ (d_cs ⟨by decide, rfl, rfl, g⟩ (d_cs ⟨by decide, rfl, rfl, g⟩ (d_cs ⟨by decide, rfl, rfl, g⟩ (d_cs ⟨by decide, rfl, rfl, g⟩ (d_cs ⟨by decide, rfl, rfl, g⟩ (d_cs ⟨by decide, rfl, rfl, g⟩ (d_cs ⟨by decide, rfl, rfl, g⟩ (d_cs ⟨by decide, rfl, rfl, g⟩ (d_cs ⟨by decide, rfl, rfl, g⟩ (d_cs ⟨by decide, rfl, rfl, g⟩ (d_cs ⟨by decide, rfl, rfl, g⟩ (d_cs ⟨by decide, rfl, rfl, g⟩ (d_cs ⟨by decide, rfl, rfl, g⟩ (d_cs ⟨by decide, rfl, rfl, g⟩ (d_cs ⟨by decide, rfl, rfl, g⟩ (d_cs ⟨by decide, rfl, rfl, g⟩ (d_cs ⟨by decide, rfl, rfl, g⟩ (d_cs ⟨by decide, rfl, rfl, g⟩ (d_cs ⟨by decide, rfl, rfl, g⟩ (d_cs ⟨by decide, rfl, rfl, g⟩ (d_cs ⟨by decide, rfl, rfl, g⟩ (d_cs ⟨by decide, rfl, rfl, g⟩ (d_ct ⟨by decide, rfl, rfl, g⟩)))))))))))))))))))))))))))))))
