/-! ranks: the last that was told on or before a day -/
def rkX (M : Mm) (p day : Int) : Nat → Int
  | 0 => M 4 p.toNat
  | n + 1 => if M 9 n = p ∧ M 11 n ≤ day then M 10 n else rkX M p day n
def bsX (M : Mm) (p day : Int) : Nat → Int
  | 0 => -1
  | n + 1 => if M 73 (3 * n) = p ∧ M 73 (3 * n + 1) ≤ day then (n : Int) else bsX M p day n
def reX (M : Mm) (p : Int) (b : Int) : Int := if b < 0 then M 68 p.toNat else M 73 (3 * b.toNat + 2)
theorem bsX_b (M : Mm) (p day : Int) : ∀ n : Nat, -1 ≤ bsX M p day n ∧ bsX M p day n < n := by
  intro n
  induction n with
  | zero => exact ⟨Int.le_refl _, by show (-1 : Int) < 0; omega⟩
  | succ n ih =>
    show -1 ≤ (if M 73 (3 * n) = p ∧ M 73 (3 * n + 1) ≤ day then (n : Int) else bsX M p day n) ∧ (if M 73 (3 * n) = p ∧ M 73 (3 * n + 1) ≤ day then (n : Int) else bsX M p day n) < ((n + 1 : Nat) : Int)
    split <;> omega
theorem ib2 {x y : Int} (h : in32 (x * y)) : ib 2 x y = x * y := by
  show (Int32.ofInt x * Int32.ofInt y).toInt = x * y
  rw [← Int32.ofInt_mul]
  exact i32_to h
theorem l74 {X : Xs} : ∀ (n : Nat) (p day i : Int) (M : Mm), i + 1 = n → n ≤ 60 → 0 ≤ p ∧ p ≤ 29 → Wp X 10 74 5 ([0, 1, 2, 3].zip [vR 0 1, vI p, vI day, vI i]) [] M (fun v M' => M' = M ∧ v = some (vI (rkX M p day n))) := by
  intro n
  induction n with
  | zero =>
    intro p day i M hi hn hp
    refine Wp_seg (cut := cutL [(5, [0, 1, 2, 3])]) (CT := fun _ _ _ => False) 3 20 [(4, 1), (1, 0), (1, 1), (1, 2)] (us (us (us (fun _ => 0) 0 p) 1 day) 2 i) [(15, 2, [(1, 2), (0, 0), (0, 2)]), (5, 4, [(1, 0)]), (19, 0, [(1, 3)]), (5, 9, [(1, 2)]), (15, 1, [(1, 3), (1, 0), (0, 2)]), (0, 0, [(1, 2), (0, -1)]), (17, 5, [(4, 1), (1, 0), (1, 1), (1, 4)]), (5, 11, [(1, 2)]), (15, 4, [(1, 4), (1, 1), (0, 2)]), (0, 0, [(1, 2), (0, -1)]), (17, 5, [(4, 1), (1, 0), (1, 1), (1, 5)]), (5, 10, [(1, 2)]), (19, 0, [(1, 5)])] (by decide +kernel) rfl rfl (by decide) (fun _ _ _ _ _ _ h => h.elim) ?_
    exact d_br (fun _ => d_la (show 0 ≤ p ∧ p < ((30 : Nat) : Int) by omega) fun _ => d_r1 ⟨rfl, rfl⟩) (fun (h : ¬ (i < 0)) => absurd h (by omega))
  | succ n ih =>
    intro p day i M hi hn hp
    obtain rfl : i = (n : Int) := by omega
    have ix : 0 ≤ (n : Int) ∧ (n : Int) < ((60 : Nat) : Int) := by omega
    have e1 : ib 0 (n : Int) (-1) = (n : Int) + (-1) := ib0 (by unfold in32; omega)
    refine Wp_seg (cut := cutL [(5, [0, 1, 2, 3])]) (CT := fun i' as M' => i' = 5 ∧ as = [vR 0 1, vI p, vI day, vI ((n : Int) + (-1))] ∧ M' = M ∧ ¬ (M 9 n = p ∧ M 11 n ≤ day)) 3 20 [(4, 1), (1, 0), (1, 1), (1, 2)] (us (us (us (fun _ => 0) 0 p) 1 day) 2 (n : Int)) [(15, 2, [(1, 2), (0, 0), (0, 2)]), (5, 4, [(1, 0)]), (19, 0, [(1, 3)]), (5, 9, [(1, 2)]), (15, 1, [(1, 3), (1, 0), (0, 2)]), (0, 0, [(1, 2), (0, -1)]), (17, 5, [(4, 1), (1, 0), (1, 1), (1, 4)]), (5, 11, [(1, 2)]), (15, 4, [(1, 4), (1, 1), (0, 2)]), (0, 0, [(1, 2), (0, -1)]), (17, 5, [(4, 1), (1, 0), (1, 1), (1, 5)]), (5, 10, [(1, 2)]), (19, 0, [(1, 5)])] (by decide +kernel) rfl rfl (by decide) (fun i' dl as M' hi' _ h => ?_) ?_
    · obtain ⟨rfl, rfl, rfl, hc⟩ := h
      obtain rfl : [0, 1, 2, 3] = dl := Option.some.inj hi'
      refine (ih p day ((n : Int) + (-1)) M' (by omega) (by omega) hp).mono fun v M2 q => ⟨q.1, ?_⟩
      rw [q.2]
      show _ = some (vI (if M' 9 n = p ∧ M' 11 n ≤ day then M' 10 n else rkX M' p day n))
      rw [if_neg hc]
    · refine d_br (fun (h : (n : Int) < 0) => absurd h (by omega)) fun _ => d_la ix fun _ => d_br (fun (h1 : M 9 n ≠ p) => d_ibw e1 (d_ct ⟨rfl, rfl, rfl, fun q => h1 q.1⟩)) fun (h1 : ¬ (M 9 n ≠ p)) => d_la ix fun _ => d_br (fun (h2 : day < M 11 n) => d_ibw e1 (d_ct ⟨rfl, rfl, rfl, fun q => by omega⟩)) fun (h2 : ¬ (day < M 11 n)) => d_la ix fun _ => d_r1 ⟨rfl, ?_⟩
      show _ = some (vI (if M 9 n = p ∧ M 11 n ≤ day then M 10 n else rkX M p day n))
      rw [if_pos ⟨by omega, by omega⟩]
      rfl
theorem e74 {X : Xs} {p day : Int} {M : Mm} (hT : okTT M) (hp : 0 ≤ p ∧ p ≤ 29) : Wp X 10 74 0 (eL 0 [vR 0 1, vI p, vI day]) [] M (fun v M' => M' = M ∧ v = some (vI (rkX M p day (M 1 11).toNat))) := by
  have b : 0 ≤ M 1 11 ∧ M 1 11 ≤ 60 := hT 1 11
  refine Wp_ent (cut := cutL [(5, [0, 1, 2, 3])]) (CT := fun i as M' => i = 5 ∧ as = [vR 0 1, vI p, vI day, vI (M 1 11 - 1)] ∧ M' = M) 2 20 [(4, 1), (1, 0), (1, 1)] (us (us (fun _ => 0) 0 p) 1 day) [(4, 1, [(0, 11)]), (0, 1, [(1, 2), (0, 1)]), (17, 5, [(4, 1), (1, 0), (1, 1), (1, 3)])] (by decide +kernel) rfl rfl (by decide) (fun i dl as M' hi _ h => ?_) ?_
  · obtain ⟨rfl, rfl, rfl⟩ := h
    obtain rfl : [0, 1, 2, 3] = dl := Option.some.inj hi
    exact l74 (M' 1 11).toNat p day (M' 1 11 - 1) M' (by omega) (by omega) hp
  · exact d_ld fun _ => d_ibw (w := M 1 11 - 1) (ib1 (x := M 1 11) (y := 1) (by unfold in32; omega)) (d_ct ⟨rfl, rfl, rfl⟩)
theorem l126 {X : Xs} {p day : Int} {M : Mm} {c : Nat} (hp : 0 ≤ p ∧ p ≤ 29) (hc : M 65 9 = c) (hc2 : c ≤ 60) (hm : ∀ l k : Nat, l ≤ k → k < c → M 73 (3 * l + 1) ≤ M 73 (3 * k + 1)) : ∀ (m n : Nat), m + n = c → Wp X 20 126 4 ([0, 1, 2, 3, 4].zip [vR 0 65, vI p, vI day, vI (bsX M p day n), vI n]) [] M (fun v M' => M' = M ∧ v = some (vI (reX M p (bsX M p day c)))) := by
  intro m
  induction m with
  | zero =>
    intro n hn
    obtain rfl : n = c := by omega
    have bb := bsX_b M p day n
    generalize bsX M p day n = b at bb
    refine Wp_seg (cut := cutL [(4, [0, 1, 2, 3, 4])]) (CT := fun _ _ _ => False) 4 50 [(4, 65), (1, 0), (1, 1), (1, 2), (1, 3)] (us (us (us (us (fun _ => 0) 0 p) 1 day) 2 b) 3 n) [(4, 65, [(0, 9)]), (15, 3, [(1, 3), (1, 4), (0, 7)]), (15, 3, [(1, 2), (0, 0), (0, 4)]), (0, 2, [(0, 3), (1, 2)]), (0, 0, [(1, 5), (0, 2)]), (5, 73, [(1, 6)]), (19, 0, [(1, 7)]), (5, 68, [(1, 0)]), (19, 0, [(1, 5)]), (0, 2, [(0, 3), (1, 3)]), (5, 73, [(1, 5)]), (15, 1, [(1, 6), (1, 0), (0, 2)]), (0, 0, [(1, 3), (0, 1)]), (17, 4, [(4, 65), (1, 0), (1, 1), (1, 2), (1, 7)]), (0, 2, [(0, 3), (1, 3)]), (0, 0, [(1, 7), (0, 1)]), (5, 73, [(1, 8)]), (15, 4, [(1, 9), (1, 1), (0, 2)]), (0, 0, [(1, 3), (0, 1)]), (17, 4, [(4, 65), (1, 0), (1, 1), (1, 2), (1, 10)]), (15, 2, [(1, 2), (0, 0), (0, 2)]), (0, 0, [(1, 3), (0, 1)]), (17, 4, [(4, 65), (1, 0), (1, 1), (1, 3), (1, 10)]), (0, 2, [(0, 3), (1, 3)]), (0, 0, [(1, 10), (0, 1)]), (5, 73, [(1, 11)]), (0, 2, [(0, 3), (1, 2)]), (0, 0, [(1, 13), (0, 1)]), (5, 73, [(1, 14)]), (15, 2, [(1, 12), (1, 15), (0, 2)]), (0, 0, [(1, 3), (0, 1)]), (17, 4, [(4, 65), (1, 0), (1, 1), (1, 2), (1, 16)]), (0, 0, [(1, 3), (0, 1)]), (17, 4, [(4, 65), (1, 0), (1, 1), (1, 3), (1, 16)])] (by decide +kernel) rfl rfl (by decide) (fun _ _ _ _ _ _ h => h.elim) ?_
    refine d_ld fun _ => d_br (fun _ => ?_) (fun (h : ¬ (M 65 9 ≤ (n : Int))) => absurd h (by omega))
    refine d_br (fun (h : 0 ≤ b) => ?_) (fun (h : ¬ (0 ≤ b)) => d_la (show 0 ≤ p ∧ p < ((30 : Nat) : Int) by omega) fun _ => d_r1 ⟨rfl, ?_⟩)
    · have e2 : ib 2 3 b = 3 * b := ib2 (by unfold in32; omega)
      refine d_ibw e2 (d_ibw (w := 3 * b + 2) (ib0 (x := 3 * b) (y := 2) (by unfold in32; omega)) (d_la (show 0 ≤ 3 * b + 2 ∧ 3 * b + 2 < ((180 : Nat) : Int) by omega) fun _ => d_r1 ⟨rfl, ?_⟩))
      have e : (3 * b + 2).toNat = 3 * b.toNat + 2 := by omega
      show some (vI (M 73 (3 * b + 2).toNat)) = some (vI (if b < 0 then M 68 p.toNat else M 73 (3 * b.toNat + 2)))
      rw [if_neg (by omega), e]
    · show some (vI (M 68 p.toNat)) = some (vI (if b < 0 then M 68 p.toNat else M 73 (3 * b.toNat + 2)))
      rw [if_pos (by omega)]
  | succ m ih =>
    intro n hn
    have bb := bsX_b M p day n
    have e3 : ib 2 3 (n : Int) = 3 * (n : Int) := ib2 (by unfold in32; omega)
    have e4 : ib 0 (3 * (n : Int)) 1 = 3 * (n : Int) + 1 := ib0 (by unfold in32; omega)
    have e5 : ib 0 (n : Int) 1 = ((n + 1 : Nat) : Int) := ib0 (by unfold in32; omega)
    have x0 : 0 ≤ 3 * (n : Int) ∧ 3 * (n : Int) < ((180 : Nat) : Int) := by omega
    have x1 : 0 ≤ 3 * (n : Int) + 1 ∧ 3 * (n : Int) + 1 < ((180 : Nat) : Int) := by omega
    have t0 : (3 * (n : Int)).toNat = 3 * n := by omega
    have t1 : (3 * (n : Int) + 1).toNat = 3 * n + 1 := by omega
    have go : ∀ z : Int, z = bsX M p day (n + 1) → Wp X 20 126 4 ([0, 1, 2, 3, 4].zip [vR 0 65, vI p, vI day, vI z, vI ((n + 1 : Nat) : Int)]) [] M (fun v M' => M' = M ∧ v = some (vI (reX M p (bsX M p day c)))) := fun z hz => by
      rw [hz]
      exact ih (n + 1) (by omega)
    have es : bsX M p day (n + 1) = if M 73 (3 * n) = p ∧ M 73 (3 * n + 1) ≤ day then (n : Int) else bsX M p day n := rfl
    generalize bsX M p day n = b at bb es
    refine Wp_seg (cut := cutL [(4, [0, 1, 2, 3, 4])]) (CT := fun i' as M' => i' = 4 ∧ M' = M ∧ ∃ z, as = [vR 0 65, vI p, vI day, vI z, vI ((n + 1 : Nat) : Int)] ∧ z = bsX M p day (n + 1)) 4 50 [(4, 65), (1, 0), (1, 1), (1, 2), (1, 3)] (us (us (us (us (fun _ => 0) 0 p) 1 day) 2 b) 3 n) [(4, 65, [(0, 9)]), (15, 3, [(1, 3), (1, 4), (0, 7)]), (15, 3, [(1, 2), (0, 0), (0, 4)]), (0, 2, [(0, 3), (1, 2)]), (0, 0, [(1, 5), (0, 2)]), (5, 73, [(1, 6)]), (19, 0, [(1, 7)]), (5, 68, [(1, 0)]), (19, 0, [(1, 5)]), (0, 2, [(0, 3), (1, 3)]), (5, 73, [(1, 5)]), (15, 1, [(1, 6), (1, 0), (0, 2)]), (0, 0, [(1, 3), (0, 1)]), (17, 4, [(4, 65), (1, 0), (1, 1), (1, 2), (1, 7)]), (0, 2, [(0, 3), (1, 3)]), (0, 0, [(1, 7), (0, 1)]), (5, 73, [(1, 8)]), (15, 4, [(1, 9), (1, 1), (0, 2)]), (0, 0, [(1, 3), (0, 1)]), (17, 4, [(4, 65), (1, 0), (1, 1), (1, 2), (1, 10)]), (15, 2, [(1, 2), (0, 0), (0, 2)]), (0, 0, [(1, 3), (0, 1)]), (17, 4, [(4, 65), (1, 0), (1, 1), (1, 3), (1, 10)]), (0, 2, [(0, 3), (1, 3)]), (0, 0, [(1, 10), (0, 1)]), (5, 73, [(1, 11)]), (0, 2, [(0, 3), (1, 2)]), (0, 0, [(1, 13), (0, 1)]), (5, 73, [(1, 14)]), (15, 2, [(1, 12), (1, 15), (0, 2)]), (0, 0, [(1, 3), (0, 1)]), (17, 4, [(4, 65), (1, 0), (1, 1), (1, 2), (1, 16)]), (0, 0, [(1, 3), (0, 1)]), (17, 4, [(4, 65), (1, 0), (1, 1), (1, 3), (1, 16)])] (by decide +kernel) rfl rfl (by decide) (fun i' dl as M' hi' _ h => ?_) ?_
    · obtain ⟨rfl, rfl, z, rfl, hz⟩ := h
      obtain rfl : [0, 1, 2, 3, 4] = dl := Option.some.inj hi'
      exact go z hz
    · refine d_ld fun _ => d_br (fun (h : M 65 9 ≤ (n : Int)) => absurd h (by omega)) fun _ => d_ibw e3 (d_la x0 fun _ => d_br (fun (h1 : M 73 (3 * (n : Int)).toNat ≠ p) => ?_) fun (h1 : ¬ (M 73 (3 * (n : Int)).toNat ≠ p)) => d_ibw e3 (d_ibw e4 (d_la x1 fun _ => d_br (fun (h2 : day < M 73 (3 * (n : Int) + 1).toNat) => ?_) fun (h2 : ¬ (day < M 73 (3 * (n : Int) + 1).toNat)) => d_br (fun (h3 : b < 0) => ?_) fun (h3 : ¬ (b < 0)) => ?_)))
      · rw [t0] at h1
        exact d_ibw e5 (d_ct ⟨rfl, rfl, b, rfl, by rw [es, if_neg (fun q => h1 q.1)]⟩)
      · rw [t1] at h2
        exact d_ibw e5 (d_ct ⟨rfl, rfl, b, rfl, by rw [es, if_neg (fun q => by omega)]⟩)
      · rw [t0] at h1
        rw [t1] at h2
        exact d_ibw e5 (d_ct ⟨rfl, rfl, (n : Int), rfl, by rw [es, if_pos ⟨by omega, by omega⟩]⟩)
      · rw [t0] at h1
        rw [t1] at h2
        have e6 : ib 2 3 b = 3 * b := ib2 (by unfold in32; omega)
        have mo := hm b.toNat n (by omega) (by omega)
        have t2 : (3 * b + 1).toNat = 3 * b.toNat + 1 := by omega
        refine d_ibw e3 (d_ibw e4 (d_la x1 fun _ => d_ibw e6 (d_ibw (w := 3 * b + 1) (ib0 (x := 3 * b) (y := 1) (by unfold in32; omega)) (d_la (show 0 ≤ 3 * b + 1 ∧ 3 * b + 1 < ((180 : Nat) : Int) by omega) fun _ => d_br (fun (h4 : M 73 (3 * (n : Int) + 1).toNat < M 73 (3 * b + 1).toNat) => ?_) fun _ => ?_))))
        · rw [t1, t2] at h4
          exact absurd h4 (by omega)
        · exact d_ibw e5 (d_ct ⟨rfl, rfl, (n : Int), rfl, by rw [es, if_pos ⟨by omega, by omega⟩]⟩)
theorem e126 {X : Xs} {p day : Int} {M : Mm} (hT : okTT M) (hp : 0 ≤ p ∧ p ≤ 29) (hm : ∀ l k : Nat, l ≤ k → (k : Int) < M 65 9 → M 73 (3 * l + 1) ≤ M 73 (3 * k + 1)) : Wp X 20 126 0 (eL 0 [vR 0 65, vI p, vI day]) [] M (fun v M' => M' = M ∧ v = some (vI (reX M p (bsX M p day (M 65 9).toNat)))) := by
  have b : 0 ≤ M 65 9 ∧ M 65 9 ≤ 60 := hT 65 9
  refine Wp_ent (cut := cutL [(4, [0, 1, 2, 3, 4])]) (CT := fun i as M' => i = 4 ∧ as = [vR 0 65, vI p, vI day, vI (-1), vI 0] ∧ M' = M) 2 20 [(4, 65), (1, 0), (1, 1)] (us (us (fun _ => 0) 0 p) 1 day) [(17, 4, [(4, 65), (1, 0), (1, 1), (0, -1), (0, 0)])] (by decide +kernel) rfl rfl (by decide) (fun i dl as M' hi _ h => ?_) ?_
  · obtain ⟨rfl, rfl, rfl⟩ := h
    obtain rfl : [0, 1, 2, 3, 4] = dl := Option.some.inj hi
    exact l126 (c := (M' 65 9).toNat) hp (by omega) (by omega) (fun l k h1 h2 => hm l k h1 (by omega)) (M' 65 9).toNat 0 (by omega)
  · exact d_ct ⟨rfl, rfl, rfl⟩
/-- both tell the same -/
theorem rk_bs {M M1 : Mm} {p day : Int} {c : Nat} (h4 : ∀ i : Nat, M 4 i = M1 68 i) (hk : ∀ k : Nat, k < c → M 9 k = M1 73 (3 * k) ∧ M 11 k = M1 73 (3 * k + 1) ∧ M 10 k = M1 73 (3 * k + 2)) : ∀ n : Nat, n ≤ c → rkX M p day n = reX M1 p (bsX M1 p day n) := by
  intro n
  induction n with
  | zero =>
    intro _
    show M 4 p.toNat = if (-1 : Int) < 0 then M1 68 p.toNat else _
    rw [if_pos (by decide)]
    exact h4 _
  | succ n ih =>
    intro hn
    obtain ⟨k1, k2, k3⟩ := hk n (by omega)
    show (if M 9 n = p ∧ M 11 n ≤ day then M 10 n else rkX M p day n) = reX M1 p (if M1 73 (3 * n) = p ∧ M1 73 (3 * n + 1) ≤ day then (n : Int) else bsX M1 p day n)
    rw [k1, k2, k3]
    by_cases q : M1 73 (3 * n) = p ∧ M1 73 (3 * n + 1) ≤ day
    · rw [if_pos q, if_pos q]
      show _ = if (n : Int) < 0 then _ else M1 73 (3 * (n : Int).toNat + 2)
      rw [if_neg (by omega)]
      rfl
    · rw [if_neg q, if_neg q]
      exact ih (by omega)
def qrk (S R p b x : Int) (v : Option V) (same suc : Prop) : Prop := ((p < 0 ∨ S ≤ p) ∧ v = some (vI (-100001)) ∧ same) ∨ (¬ (p < 0 ∨ S ≤ p) ∧ (b < 0 ∨ 3 < b) ∧ v = some (vI (-100002)) ∧ same) ∨ (¬ (p < 0 ∨ S ≤ p) ∧ ¬ (b < 0 ∨ 3 < b) ∧ 60 ≤ R ∧ v = some (vI (-100004)) ∧ same) ∨ (¬ (p < 0 ∨ S ≤ p) ∧ ¬ (b < 0 ∨ 3 < b) ∧ R < 60 ∧ v = some (vI x) ∧ suc)
theorem qrk_eq {S R p b x : Int} {v u : Option V} {p1 s1 p2 s2 : Prop} (h : qrk S R p b x v p1 s1) (g : qrk S R p b x u p2 s2) : v = u ∧ ((p1 ∧ p2) ∨ (s1 ∧ s2)) := by
  unfold qrk at h g
  rcases h with ⟨a1, rfl, a3⟩ | ⟨a1, a2, rfl, a3⟩ | ⟨a1, a2, a4, rfl, a3⟩ | ⟨a1, a2, a4, rfl, a3⟩
  all_goals rcases g with ⟨b1, rfl, b3⟩ | ⟨b1, b2, rfl, b3⟩ | ⟨b1, b2, b4, rfl, b3⟩ | ⟨b1, b2, b4, rfl, b3⟩
  all_goals first | exact ⟨rfl, Or.inl ⟨a3, b3⟩⟩ | exact ⟨rfl, Or.inr ⟨a3, b3⟩⟩ | exact absurd a1 b1 | exact absurd b1 a1 | exact absurd a2 b2 | exact absurd b2 a2 | exact absurd a4 (by omega)
theorem rbv74 : rb 74 = 1 := by decide +kernel
theorem rbv126 : rb 126 = 1 := by decide +kernel
set_option maxHeartbeats 4000000 in
theorem px83 {X : Xs} {M : Mm} {p b : Int} (hT : okTT M) : Wp X 30 83 0 (eL 0 [vR 0 0, vI p, vI b]) [] M (fun v M' => okTT M' ∧ FrM sp83_0.2.2.2.1 M M' ∧ qrk (M 1 10) (M 1 11) p b (rkX M p (M 0 10) (M 1 11).toNat) v (M' = M) (M' 1 11 = M 1 11 + 1 ∧ (∀ i : Nat, M' 9 i = if i = (M 1 11).toNat then p else M 9 i) ∧ (∀ i : Nat, M' 10 i = if i = (M 1 11).toNat then b else M 10 i) ∧ (∀ i : Nat, M' 11 i = if i = (M 1 11).toNat then M 0 10 else M 11 i))) := by
  have bS : 0 ≤ M 1 10 ∧ M 1 10 ≤ 30 := hT 1 10
  have bN : 0 ≤ M 0 10 ∧ M 0 10 ≤ 9000 := hT 0 10
  have bR : 0 ≤ M 1 11 ∧ M 1 11 ≤ 60 := hT 1 11
  unfold qrk
  refine Wp_den 2 33 [(4, 0), (1, 0), (1, 1)] (us (us (fun _ => 0) 0 p) 1 b) [(15, 2, [(1, 0), (0, 0), (0, 1)]), (19, 0, [(0, -100001)]), (4, 1, [(0, 10)]), (15, 3, [(1, 0), (1, 2), (0, 1)]), (19, 0, [(0, -100001)]), (15, 2, [(1, 1), (0, 0), (0, 1)]), (19, 0, [(0, -100002)]), (15, 4, [(1, 1), (0, 3), (0, 1)]), (19, 0, [(0, -100002)]), (4, 1, [(0, 11)]), (15, 2, [(1, 3), (0, 60), (0, 16)]), (4, 0, [(0, 10)]), (16, 74, [(4, 1), (1, 0), (1, 4)]), (4, 0, [(0, 10)]), (4, 1, [(0, 11)]), (15, 2, [(1, 7), (0, 60), (0, 10)]), (4, 1, [(0, 11)]), (11, 9, [(1, 8), (1, 0)]), (4, 1, [(0, 11)]), (11, 10, [(1, 9), (1, 1)]), (4, 1, [(0, 11)]), (11, 11, [(1, 10), (1, 6)]), (4, 1, [(0, 11)]), (0, 0, [(1, 11), (0, 1)]), (10, 1, [(0, 11), (1, 12)]), (19, 0, [(1, 5)]), (19, 0, [(1, 5)]), (19, 0, [(0, -100004)])] (by decide +kernel) rfl rfl (by decide) ?_
  exact d_br (fun (h1 : p < 0) => d_r1 (⟨hT, frm0, Or.inl ⟨by omega, rfl, rfl⟩⟩)) (fun (h1 : ¬ (p < 0)) => d_ld fun _ => d_br (fun (h2 : (M 1 10) ≤ p) => d_r1 (⟨hT, frm0, Or.inl ⟨by omega, rfl, rfl⟩⟩)) (fun (h2 : ¬ ((M 1 10) ≤ p)) => d_br (fun (h3 : b < 0) => d_r1 (⟨hT, frm0, Or.inr (Or.inl ⟨by omega, by omega, rfl, rfl⟩)⟩)) (fun (h3 : ¬ (b < 0)) => d_br (fun (h4 : 3 < b) => d_r1 (⟨hT, frm0, Or.inr (Or.inl ⟨by omega, by omega, rfl, rfl⟩)⟩)) (fun (h4 : ¬ (3 < b)) => d_ld fun _ => d_br (fun (h5 : (M 1 11) < 60) => d_ld fun _ => d_ca ⟨_, by decide, (e74 (p := p) (day := M 0 10) hT (by omega)).mono fun v3 M3 q3 _ _ _ => (by
    obtain ⟨e1, rfl⟩ := q3
    rw [e1, rbv74]
    exact d_ld fun _ => d_ld fun _ => d_br (fun _ => d_ld fun _ => d_sa (show 0 ≤ (M 1 11) ∧ (M 1 11) < ((60 : Nat) : Int) by omega) (d_ld fun _ => d_sa (show 0 ≤ (M 1 11) ∧ (M 1 11) < ((60 : Nat) : Int) by omega) (d_ld fun _ => d_sa (show 0 ≤ (M 1 11) ∧ (M 1 11) < ((60 : Nat) : Int) by omega) (d_ld fun _ => d_ibw (w := (M 1 11) + 1) (ib0 (x := (M 1 11)) (y := 1) (by unfold in32; omega)) (d_st (d_r1 (⟨(okTT_up (okTT_ua (i := (0, 9000)) (okTT_ua (i := (0, 3)) (okTT_ua (i := (0, 29)) hT rfl (show (0 : Int) ≤ p ∧ p ≤ (29 : Int) by omega)) rfl (show (0 : Int) ≤ b ∧ b ≤ (3 : Int) by omega)) rfl (show (0 : Int) ≤ (M 0 10) ∧ (M 0 10) ≤ (9000 : Int) by omega)) (show (0 : Int) ≤ ((M 1 11) + 1) ∧ ((M 1 11) + 1) ≤ (60 : Int) by omega)), (FrM_up (FrM_up (FrM_up (FrM_up frm0 (wOf_a (by decide))) (wOf_a (by decide))) (wOf_a (by decide))) (by decide)), Or.inr (Or.inr (Or.inr ⟨by omega, by omega, by omega, rfl, rfl, fun i => (show up M 9 (M 1 11).toNat p 9 i = _ from up_eq), fun i => (show up M 10 (M 1 11).toNat b 10 i = _ from up_eq), fun i => (show up M 11 (M 1 11).toNat (M 0 10) 11 i = _ from up_eq)⟩))⟩))))))) (fun hh => absurd h5 hh))⟩) (fun (h5 : ¬ ((M 1 11) < 60)) => d_r1 (⟨hT, frm0, Or.inr (Or.inr (Or.inl ⟨by omega, by omega, by omega, rfl, rfl⟩))⟩))))))
theorem tiv73 {s c : Nat} (h : s % 3 = c) : tiv 73 s = ([(-2147483648, 2147483647), (-2147483648, 2147483647), (0, 3)] : List Iv).getD c I64 := by
  unfold tiv
  show ([(-2147483648, 2147483647), (-2147483648, 2147483647), (0, 3)] : List Iv).getD (s % 3) I64 = _
  rw [h]
theorem up3 {M : Mm} {a i : Nat} {R x y z : Int} (hR : 0 ≤ R) : up (up (up M a (3 * R).toNat x) a (3 * R + 1).toNat y) a (3 * R + 2).toNat z a i = if i = 3 * R.toNat then x else if i = 3 * R.toNat + 1 then y else if i = 3 * R.toNat + 2 then z else M a i := by
  rw [up_eq, up_eq, up_eq, show (3 * R).toNat = 3 * R.toNat by omega, show (3 * R + 1).toNat = 3 * R.toNat + 1 by omega, show (3 * R + 2).toNat = 3 * R.toNat + 2 by omega]
  by_cases h0 : i = 3 * R.toNat
  · rw [if_neg (by omega), if_neg (by omega), if_pos h0, if_pos h0]
  by_cases h1 : i = 3 * R.toNat + 1
  · rw [if_neg (by omega), if_pos h1, if_neg h0, if_pos h1]
  by_cases h2 : i = 3 * R.toNat + 2
  · rw [if_pos h2, if_neg h0, if_neg h1, if_pos h2]
  · rw [if_neg h2, if_neg h1, if_neg h0, if_neg h0, if_neg h1, if_neg h2]
set_option maxHeartbeats 4000000 in
theorem px127 {X : Xs} {M : Mm} {p b : Int} (hT : okTT M) (hm : ∀ l k : Nat, l ≤ k → (k : Int) < M 65 9 → M 73 (3 * l + 1) ≤ M 73 (3 * k + 1)) : Wp X 30 127 0 (eL 0 [vR 0 65, vI p, vI b]) [] M (fun v M' => okTT M' ∧ FrM sp127_0.2.2.2.1 M M' ∧ qrk (M 65 1) (M 65 9) p b (reX M p (bsX M p (M 65 0) (M 65 9).toNat)) v (M' = M) (M' 65 9 = M 65 9 + 1 ∧ (∀ i : Nat, M' 73 i = if i = 3 * (M 65 9).toNat then p else if i = 3 * (M 65 9).toNat + 1 then M 65 0 else if i = 3 * (M 65 9).toNat + 2 then b else M 73 i))) := by
  have bS : 0 ≤ M 65 1 ∧ M 65 1 ≤ 30 := hT 65 1
  have bN : 0 ≤ M 65 0 ∧ M 65 0 ≤ 9000 := hT 65 0
  have bR : 0 ≤ M 65 9 ∧ M 65 9 ≤ 60 := hT 65 9
  unfold qrk
  refine Wp_den 2 36 [(4, 65), (1, 0), (1, 1)] (us (us (fun _ => 0) 0 p) 1 b) [(4, 65, [(0, 1)]), (0, 1, [(1, 2), (0, 1)]), (15, 2, [(3, 0), (2, 0), (0, 1)]), (19, 0, [(0, -100001)]), (15, 4, [(3, 0), (3, 3), (0, 1)]), (19, 0, [(0, -100001)]), (15, 2, [(3, 1), (2, 0), (0, 1)]), (19, 0, [(0, -100002)]), (15, 4, [(3, 1), (2, 3), (0, 1)]), (19, 0, [(0, -100002)]), (4, 65, [(0, 9)]), (15, 1, [(1, 4), (0, 60), (0, 18)]), (4, 65, [(0, 0)]), (16, 126, [(4, 65), (1, 0), (1, 5)]), (4, 65, [(0, 9)]), (0, 2, [(0, 3), (1, 7)]), (11, 73, [(1, 8), (1, 0)]), (4, 65, [(0, 9)]), (0, 2, [(0, 3), (1, 9)]), (0, 0, [(1, 10), (0, 1)]), (4, 65, [(0, 0)]), (11, 73, [(1, 11), (1, 12)]), (4, 65, [(0, 9)]), (0, 2, [(0, 3), (1, 13)]), (0, 0, [(1, 14), (0, 2)]), (11, 73, [(1, 15), (1, 1)]), (4, 65, [(0, 9)]), (0, 0, [(1, 16), (0, 1)]), (10, 65, [(0, 9), (1, 17)]), (19, 0, [(1, 6)]), (19, 0, [(0, -100004)])] (by decide +kernel) rfl rfl (by decide) ?_
  exact d_ld fun _ => d_ibw (w := (M 65 1) - 1) (ib1 (x := (M 65 1)) (y := 1) (by unfold in32; omega)) (d_br (fun (h1 : p < 0) => d_r1 (⟨hT, frm0, Or.inl ⟨by omega, rfl, rfl⟩⟩)) (fun (h1 : ¬ (p < 0)) => d_br (fun (h2 : ((M 65 1) - 1) < p) => d_r1 (⟨hT, frm0, Or.inl ⟨by omega, rfl, rfl⟩⟩)) (fun (h2 : ¬ (((M 65 1) - 1) < p)) => d_br (fun (h3 : b < 0) => d_r1 (⟨hT, frm0, Or.inr (Or.inl ⟨by omega, by omega, rfl, rfl⟩)⟩)) (fun (h3 : ¬ (b < 0)) => d_br (fun (h4 : 3 < b) => d_r1 (⟨hT, frm0, Or.inr (Or.inl ⟨by omega, by omega, rfl, rfl⟩)⟩)) (fun (h4 : ¬ (3 < b)) => d_ld fun _ => d_br (fun (h5 : (M 65 9) ≠ 60) => d_ld fun _ => d_ca ⟨_, by decide, (e126 (p := p) (day := M 65 0) hT (by omega) hm).mono fun v3 M3 q3 _ _ _ => (by
    obtain ⟨e1, rfl⟩ := q3
    rw [e1, rbv126]
    exact d_ld fun _ => d_ibw (w := 3 * (M 65 9)) (ib2 (x := 3) (y := (M 65 9)) (by unfold in32; omega)) (d_sa (show 0 ≤ (3 * (M 65 9)) ∧ (3 * (M 65 9)) < ((180 : Nat) : Int) by omega) (d_ld fun _ => d_ibw (w := 3 * (M 65 9)) (ib2 (x := 3) (y := (M 65 9)) (by unfold in32; omega)) (d_ibw (w := (3 * (M 65 9)) + 1) (ib0 (x := (3 * (M 65 9))) (y := 1) (by unfold in32; omega)) (d_ld fun _ => d_sa (show 0 ≤ ((3 * (M 65 9)) + 1) ∧ ((3 * (M 65 9)) + 1) < ((180 : Nat) : Int) by omega) (d_ld fun _ => d_ibw (w := 3 * (M 65 9)) (ib2 (x := 3) (y := (M 65 9)) (by unfold in32; omega)) (d_ibw (w := (3 * (M 65 9)) + 2) (ib0 (x := (3 * (M 65 9))) (y := 2) (by unfold in32; omega)) (d_sa (show 0 ≤ ((3 * (M 65 9)) + 2) ∧ ((3 * (M 65 9)) + 2) < ((180 : Nat) : Int) by omega) (d_ld fun _ => d_ibw (w := (M 65 9) + 1) (ib0 (x := (M 65 9)) (y := 1) (by unfold in32; omega)) (d_st (d_r1 (⟨(okTT_up (okTT_up (okTT_up (okTT_up hT (show (tiv 73 ((3 * (M 65 9))).toNat).1 ≤ p ∧ p ≤ (tiv 73 ((3 * (M 65 9))).toNat).2 by rw [tiv73 (s := ((3 * (M 65 9))).toNat) (c := 0) (by omega)]; exact (show (-2147483648 : Int) ≤ p ∧ p ≤ (2147483647 : Int) by omega))) (show (tiv 73 (((3 * (M 65 9)) + 1)).toNat).1 ≤ (M 65 0) ∧ (M 65 0) ≤ (tiv 73 (((3 * (M 65 9)) + 1)).toNat).2 by rw [tiv73 (s := (((3 * (M 65 9)) + 1)).toNat) (c := 1) (by omega)]; exact (show (-2147483648 : Int) ≤ (M 65 0) ∧ (M 65 0) ≤ (2147483647 : Int) by omega))) (show (tiv 73 (((3 * (M 65 9)) + 2)).toNat).1 ≤ b ∧ b ≤ (tiv 73 (((3 * (M 65 9)) + 2)).toNat).2 by rw [tiv73 (s := (((3 * (M 65 9)) + 2)).toNat) (c := 2) (by omega)]; exact (show (0 : Int) ≤ b ∧ b ≤ (3 : Int) by omega))) (show (0 : Int) ≤ ((M 65 9) + 1) ∧ ((M 65 9) + 1) ≤ (60 : Int) by omega)), (FrM_up (FrM_up (FrM_up (FrM_up frm0 (wOf_a (by decide))) (wOf_a (by decide))) (wOf_a (by decide))) (by decide)), Or.inr (Or.inr (Or.inr ⟨by omega, by omega, by omega, rfl, rfl, fun i => (show up (up (up M 73 (3 * M 65 9).toNat p) 73 (3 * M 65 9 + 1).toNat (M 65 0)) 73 (3 * M 65 9 + 2).toNat b 73 i = _ from up3 bR.1)⟩))⟩))))))))))))⟩) (fun (h5 : ¬ ((M 65 9) ≠ 60)) => d_r1 (⟨hT, frm0, Or.inr (Or.inr (Or.inl ⟨by omega, by omega, by omega, rfl, rfl⟩))⟩)))))))
def tld (S N p d k x0 x1 x2 x3 x4 x5 x6 : Int) : Int := if p < 0 ∨ S ≤ p then -100001 else if d < 0 ∨ N < d then -100002 else if k = 0 then x0 else if k = 1 then x1 else if k = 2 then x2 else if k = 3 then x3 else if k = 4 then x4 else if k = 5 then x5 else if k = 6 then x6 else -100002
set_option maxHeartbeats 4000000 in
theorem px88 {X : Xs} {M : Mm} {p d k : Int} (hT : okTT M) : Wp X 30 88 0 (eL 0 [vR 0 0, vI p, vI d, vI k]) [] M (fun v M' => M' = M ∧ v = some (vI (tld (M 1 10) (M 0 10) p d k (M 2 p.toNat) (M 3 p.toNat) (rkX M p d (M 1 11).toNat) (M 5 p.toNat) (M 6 p.toNat) (M 7 p.toNat) (M 8 p.toNat)))) := by
  have bS : 0 ≤ M 1 10 ∧ M 1 10 ≤ 30 := hT 1 10
  have bN : 0 ≤ M 0 10 ∧ M 0 10 ≤ 9000 := hT 0 10
  refine Wp_den 3 37 [(4, 0), (1, 0), (1, 1), (1, 2)] (us (us (us (fun _ => 0) 0 p) 1 d) 2 k) [(15, 2, [(1, 0), (0, 0), (0, 1)]), (19, 0, [(0, -100001)]), (4, 1, [(0, 10)]), (15, 3, [(1, 0), (1, 3), (0, 1)]), (19, 0, [(0, -100001)]), (4, 0, [(0, 10)]), (15, 2, [(1, 1), (0, 0), (0, 1)]), (19, 0, [(0, -100002)]), (15, 4, [(1, 1), (1, 4), (0, 1)]), (19, 0, [(0, -100002)]), (15, 0, [(1, 2), (0, 0), (0, 2)]), (5, 2, [(1, 0)]), (19, 0, [(1, 5)]), (15, 0, [(1, 2), (0, 1), (0, 2)]), (5, 3, [(1, 0)]), (19, 0, [(1, 5)]), (15, 0, [(1, 2), (0, 2), (0, 2)]), (16, 74, [(4, 1), (1, 0), (1, 1)]), (19, 0, [(1, 5)]), (15, 0, [(1, 2), (0, 3), (0, 2)]), (5, 5, [(1, 0)]), (19, 0, [(1, 5)]), (15, 0, [(1, 2), (0, 4), (0, 2)]), (5, 6, [(1, 0)]), (19, 0, [(1, 5)]), (15, 0, [(1, 2), (0, 5), (0, 2)]), (5, 7, [(1, 0)]), (19, 0, [(1, 5)]), (15, 0, [(1, 2), (0, 6), (0, 2)]), (5, 8, [(1, 0)]), (19, 0, [(1, 5)]), (19, 0, [(0, -100002)])] (by decide +kernel) rfl rfl (by decide) ?_
  exact d_br (fun (h1 : p < 0) => d_r1 (⟨rfl, congrArg (fun z => some (vI z)) (show ((-100001) : Int) = _ by unfold tld; rw [if_pos (by omega)])⟩)) (fun (h1 : ¬ (p < 0)) => d_ld fun _ => d_br (fun (h2 : (M 1 10) ≤ p) => d_r1 (⟨rfl, congrArg (fun z => some (vI z)) (show ((-100001) : Int) = _ by unfold tld; rw [if_pos (by omega)])⟩)) (fun (h2 : ¬ ((M 1 10) ≤ p)) => d_ld fun _ => d_br (fun (h3 : d < 0) => d_r1 (⟨rfl, congrArg (fun z => some (vI z)) (show ((-100002) : Int) = _ by unfold tld; rw [if_neg (by omega), if_pos (by omega)])⟩)) (fun (h3 : ¬ (d < 0)) => d_br (fun (h4 : (M 0 10) < d) => d_r1 (⟨rfl, congrArg (fun z => some (vI z)) (show ((-100002) : Int) = _ by unfold tld; rw [if_neg (by omega), if_pos (by omega)])⟩)) (fun (h4 : ¬ ((M 0 10) < d)) => d_br (fun (h5 : k = 0) => d_la (show 0 ≤ p ∧ p < ((30 : Nat) : Int) by omega) fun _ => d_r1 (⟨rfl, congrArg (fun z => some (vI z)) (show ((M 2 (p).toNat) : Int) = _ by unfold tld; rw [if_neg (by omega), if_neg (by omega), if_pos (by omega)])⟩)) (fun (h5 : ¬ (k = 0)) => d_br (fun (h6 : k = 1) => d_la (show 0 ≤ p ∧ p < ((30 : Nat) : Int) by omega) fun _ => d_r1 (⟨rfl, congrArg (fun z => some (vI z)) (show ((M 3 (p).toNat) : Int) = _ by unfold tld; rw [if_neg (by omega), if_neg (by omega), if_neg (by omega), if_pos (by omega)])⟩)) (fun (h6 : ¬ (k = 1)) => d_br (fun (h7 : k = 2) => d_ca ⟨_, by decide, (e74 (p := p) (day := d) hT (by omega)).mono fun v3 M3 q3 _ _ _ => (by
    obtain ⟨e1, rfl⟩ := q3
    rw [e1, rbv74]
    exact d_r1 (⟨rfl, congrArg (fun z => some (vI z)) (show ((rkX M p d (M 1 11).toNat) : Int) = _ by unfold tld; rw [if_neg (by omega), if_neg (by omega), if_neg (by omega), if_neg (by omega), if_pos (by omega)])⟩))⟩) (fun (h7 : ¬ (k = 2)) => d_br (fun (h8 : k = 3) => d_la (show 0 ≤ p ∧ p < ((30 : Nat) : Int) by omega) fun _ => d_r1 (⟨rfl, congrArg (fun z => some (vI z)) (show ((M 5 (p).toNat) : Int) = _ by unfold tld; rw [if_neg (by omega), if_neg (by omega), if_neg (by omega), if_neg (by omega), if_neg (by omega), if_pos (by omega)])⟩)) (fun (h8 : ¬ (k = 3)) => d_br (fun (h9 : k = 4) => d_la (show 0 ≤ p ∧ p < ((30 : Nat) : Int) by omega) fun _ => d_r1 (⟨rfl, congrArg (fun z => some (vI z)) (show ((M 6 (p).toNat) : Int) = _ by unfold tld; rw [if_neg (by omega), if_neg (by omega), if_neg (by omega), if_neg (by omega), if_neg (by omega), if_neg (by omega), if_pos (by omega)])⟩)) (fun (h9 : ¬ (k = 4)) => d_br (fun (h10 : k = 5) => d_la (show 0 ≤ p ∧ p < ((30 : Nat) : Int) by omega) fun _ => d_r1 (⟨rfl, congrArg (fun z => some (vI z)) (show ((M 7 (p).toNat) : Int) = _ by unfold tld; rw [if_neg (by omega), if_neg (by omega), if_neg (by omega), if_neg (by omega), if_neg (by omega), if_neg (by omega), if_neg (by omega), if_pos (by omega)])⟩)) (fun (h10 : ¬ (k = 5)) => d_br (fun (h11 : k = 6) => d_la (show 0 ≤ p ∧ p < ((30 : Nat) : Int) by omega) fun _ => d_r1 (⟨rfl, congrArg (fun z => some (vI z)) (show ((M 8 (p).toNat) : Int) = _ by unfold tld; rw [if_neg (by omega), if_neg (by omega), if_neg (by omega), if_neg (by omega), if_neg (by omega), if_neg (by omega), if_neg (by omega), if_neg (by omega), if_pos (by omega)])⟩)) (fun (h11 : ¬ (k = 6)) => d_r1 (⟨rfl, congrArg (fun z => some (vI z)) (show ((-100002) : Int) = _ by unfold tld; rw [if_neg (by omega), if_neg (by omega), if_neg (by omega), if_neg (by omega), if_neg (by omega), if_neg (by omega), if_neg (by omega), if_neg (by omega), if_neg (by omega)])⟩))))))))))))
set_option maxHeartbeats 4000000 in
theorem px134 {X : Xs} {M : Mm} {p d k : Int} (hT : okTT M) (hm : ∀ l k : Nat, l ≤ k → (k : Int) < M 65 9 → M 73 (3 * l + 1) ≤ M 73 (3 * k + 1)) : Wp X 30 134 0 (eL 0 [vR 0 65, vI p, vI d, vI k]) [] M (fun v M' => M' = M ∧ v = some (vI (tld (M 65 1) (M 65 0) p d k (M 66 p.toNat) (M 67 p.toNat) (reX M p (bsX M p d (M 65 9).toNat)) (M 69 p.toNat) (M 70 p.toNat) (M 71 p.toNat) (M 72 p.toNat)))) := by
  have bS : 0 ≤ M 65 1 ∧ M 65 1 ≤ 30 := hT 65 1
  have bN : 0 ≤ M 65 0 ∧ M 65 0 ≤ 9000 := hT 65 0
  refine Wp_den 3 38 [(4, 65), (1, 0), (1, 1), (1, 2)] (us (us (us (fun _ => 0) 0 p) 1 d) 2 k) [(4, 65, [(0, 1)]), (0, 1, [(1, 3), (0, 1)]), (15, 2, [(3, 0), (2, 0), (0, 1)]), (19, 0, [(0, -100001)]), (15, 4, [(3, 0), (3, 4), (0, 1)]), (19, 0, [(0, -100001)]), (4, 65, [(0, 0)]), (15, 2, [(3, 1), (2, 0), (0, 1)]), (19, 0, [(0, -100002)]), (15, 4, [(3, 1), (3, 5), (0, 1)]), (19, 0, [(0, -100002)]), (15, 0, [(1, 2), (0, 0), (0, 2)]), (5, 66, [(1, 0)]), (19, 0, [(1, 6)]), (15, 0, [(1, 2), (0, 1), (0, 2)]), (5, 67, [(1, 0)]), (19, 0, [(1, 6)]), (15, 0, [(1, 2), (0, 2), (0, 2)]), (16, 126, [(4, 65), (1, 0), (1, 1)]), (19, 0, [(1, 6)]), (15, 0, [(1, 2), (0, 3), (0, 2)]), (5, 69, [(1, 0)]), (19, 0, [(1, 6)]), (15, 0, [(1, 2), (0, 4), (0, 2)]), (5, 70, [(1, 0)]), (19, 0, [(1, 6)]), (15, 0, [(1, 2), (0, 5), (0, 2)]), (5, 71, [(1, 0)]), (19, 0, [(1, 6)]), (15, 0, [(1, 2), (0, 6), (0, 2)]), (5, 72, [(1, 0)]), (19, 0, [(1, 6)]), (19, 0, [(0, -100002)])] (by decide +kernel) rfl rfl (by decide) ?_
  exact d_ld fun _ => d_ibw (w := (M 65 1) - 1) (ib1 (x := (M 65 1)) (y := 1) (by unfold in32; omega)) (d_br (fun (h1 : p < 0) => d_r1 (⟨rfl, congrArg (fun z => some (vI z)) (show ((-100001) : Int) = _ by unfold tld; rw [if_pos (by omega)])⟩)) (fun (h1 : ¬ (p < 0)) => d_br (fun (h2 : ((M 65 1) - 1) < p) => d_r1 (⟨rfl, congrArg (fun z => some (vI z)) (show ((-100001) : Int) = _ by unfold tld; rw [if_pos (by omega)])⟩)) (fun (h2 : ¬ (((M 65 1) - 1) < p)) => d_ld fun _ => d_br (fun (h3 : d < 0) => d_r1 (⟨rfl, congrArg (fun z => some (vI z)) (show ((-100002) : Int) = _ by unfold tld; rw [if_neg (by omega), if_pos (by omega)])⟩)) (fun (h3 : ¬ (d < 0)) => d_br (fun (h4 : (M 65 0) < d) => d_r1 (⟨rfl, congrArg (fun z => some (vI z)) (show ((-100002) : Int) = _ by unfold tld; rw [if_neg (by omega), if_pos (by omega)])⟩)) (fun (h4 : ¬ ((M 65 0) < d)) => d_br (fun (h5 : k = 0) => d_la (show 0 ≤ p ∧ p < ((30 : Nat) : Int) by omega) fun _ => d_r1 (⟨rfl, congrArg (fun z => some (vI z)) (show ((M 66 (p).toNat) : Int) = _ by unfold tld; rw [if_neg (by omega), if_neg (by omega), if_pos (by omega)])⟩)) (fun (h5 : ¬ (k = 0)) => d_br (fun (h6 : k = 1) => d_la (show 0 ≤ p ∧ p < ((30 : Nat) : Int) by omega) fun _ => d_r1 (⟨rfl, congrArg (fun z => some (vI z)) (show ((M 67 (p).toNat) : Int) = _ by unfold tld; rw [if_neg (by omega), if_neg (by omega), if_neg (by omega), if_pos (by omega)])⟩)) (fun (h6 : ¬ (k = 1)) => d_br (fun (h7 : k = 2) => d_ca ⟨_, by decide, (e126 (p := p) (day := d) hT (by omega) hm).mono fun v3 M3 q3 _ _ _ => (by
    obtain ⟨e1, rfl⟩ := q3
    rw [e1, rbv126]
    exact d_r1 (⟨rfl, congrArg (fun z => some (vI z)) (show ((reX M p (bsX M p d (M 65 9).toNat)) : Int) = _ by unfold tld; rw [if_neg (by omega), if_neg (by omega), if_neg (by omega), if_neg (by omega), if_pos (by omega)])⟩))⟩) (fun (h7 : ¬ (k = 2)) => d_br (fun (h8 : k = 3) => d_la (show 0 ≤ p ∧ p < ((30 : Nat) : Int) by omega) fun _ => d_r1 (⟨rfl, congrArg (fun z => some (vI z)) (show ((M 69 (p).toNat) : Int) = _ by unfold tld; rw [if_neg (by omega), if_neg (by omega), if_neg (by omega), if_neg (by omega), if_neg (by omega), if_pos (by omega)])⟩)) (fun (h8 : ¬ (k = 3)) => d_br (fun (h9 : k = 4) => d_la (show 0 ≤ p ∧ p < ((30 : Nat) : Int) by omega) fun _ => d_r1 (⟨rfl, congrArg (fun z => some (vI z)) (show ((M 70 (p).toNat) : Int) = _ by unfold tld; rw [if_neg (by omega), if_neg (by omega), if_neg (by omega), if_neg (by omega), if_neg (by omega), if_neg (by omega), if_pos (by omega)])⟩)) (fun (h9 : ¬ (k = 4)) => d_br (fun (h10 : k = 5) => d_la (show 0 ≤ p ∧ p < ((30 : Nat) : Int) by omega) fun _ => d_r1 (⟨rfl, congrArg (fun z => some (vI z)) (show ((M 71 (p).toNat) : Int) = _ by unfold tld; rw [if_neg (by omega), if_neg (by omega), if_neg (by omega), if_neg (by omega), if_neg (by omega), if_neg (by omega), if_neg (by omega), if_pos (by omega)])⟩)) (fun (h10 : ¬ (k = 5)) => d_br (fun (h11 : k = 6) => d_la (show 0 ≤ p ∧ p < ((30 : Nat) : Int) by omega) fun _ => d_r1 (⟨rfl, congrArg (fun z => some (vI z)) (show ((M 72 (p).toNat) : Int) = _ by unfold tld; rw [if_neg (by omega), if_neg (by omega), if_neg (by omega), if_neg (by omega), if_neg (by omega), if_neg (by omega), if_neg (by omega), if_neg (by omega), if_pos (by omega)])⟩)) (fun (h11 : ¬ (k = 6)) => d_r1 (⟨rfl, congrArg (fun z => some (vI z)) (show ((-100002) : Int) = _ by unfold tld; rw [if_neg (by omega), if_neg (by omega), if_neg (by omega), if_neg (by omega), if_neg (by omega), if_neg (by omega), if_neg (by omega), if_neg (by omega), if_neg (by omega)])⟩)))))))))))))
