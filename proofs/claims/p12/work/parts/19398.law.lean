theorem e50t {X : Xs} {n b : Int} {M : Mm} (hn : 1 ≤ n ∧ n ≤ 8) (hT : okTT M) (hL : M 22 2 + n ≤ 240) : Wp X 10 50 0 (eL 0 [vR 0 22, vI n, vL b]) [] M (fun _ M' => okTT M' ∧ FrM sp50_0.2.2.2.1 M M' ∧ M' 22 2 = M 22 2 + n ∧ ∀ j : Nat, M' 23 j = if M 22 2 ≤ (j : Int) ∧ (j : Int) < M 22 2 + n then byX b (M 22 2 + n - 1 - j) else M 23 j) := by
  refine Wp_ent (cut := cutL [(4, [0, 2, 4])]) (CT := fun i as M' => i = 4 ∧ as = [vR 0 22, vL b, vI (n - 1)] ∧ M' = M) 2 25 [(4, 22), (1, 0), (3, 1)] (us (us (fun _ => 0) 0 n) 1 b) [(0, 1, [(1, 0), (0, 1)]), (17, 4, [(4, 22), (3, 1), (1, 2)])] (by decide +kernel) rfl rfl (by decide) (fun i dl as M' hi _ h => ?_) ?_
  · obtain ⟨rfl, rfl, rfl⟩ := h
    obtain rfl : [0, 2, 4] = dl := Option.some.inj hi
    refine (x50 n.toNat (n - 1) b M' (by omega) (by omega) hT (by omega)).mono fun _ M3 q => ⟨q.1, q.2.1, by rw [q.2.2.1]; omega, fun j => ?_⟩
    rw [q.2.2.2 j, show M' 22 2 + (n - 1 + 1) = M' 22 2 + n by omega, show M' 22 2 + (n - 1) - (j : Int) = M' 22 2 + n - 1 - j by omega]
  · exact d_ibw (w := n - 1) (ib1 (x := n) (y := 1) (by unfold in32; omega)) (d_ct ⟨rfl, rfl, rfl⟩)
theorem px90t {X : Xs} {n b : Int} {M : Mm} (hT : okTT M) : Wp X 30 90 0 (eL 0 [vR 0 0, vI n, vL b]) [] M (fun v M' => okTT M' ∧ FrM sp90_0.2.2.2.1 M M' ∧ qfe (M 22 2) n v (M' = M) (M' 22 2 = M 22 2 + n ∧ ∀ j : Nat, M' 23 j = if M 22 2 ≤ (j : Int) ∧ (j : Int) < M 22 2 + n then byX b (M 22 2 + n - 1 - j) else M 23 j)) := by
  have bL : 0 ≤ M 22 2 ∧ M 22 2 ≤ 240 := hT 22 2
  unfold qfe
  refine Wp_den 2 30 [(4, 0), (1, 0), (3, 1)] (us (us (fun _ => 0) 0 n) 1 b) [(15, 2, [(1, 0), (0, 1), (0, 1)]), (19, 0, [(0, -100002)]), (15, 4, [(1, 0), (0, 8), (0, 1)]), (19, 0, [(0, -100002)]), (4, 22, [(0, 2)]), (0, 0, [(1, 2), (1, 0)]), (15, 5, [(1, 3), (0, 240), (0, 3)]), (16, 50, [(4, 22), (1, 0), (3, 1)]), (4, 22, [(0, 2)]), (19, 0, [(1, 4)]), (19, 0, [(0, -100004)])] (by decide +kernel) rfl rfl (by decide) ?_
  exact d_br (fun (h : n < 1) => d_r1 ⟨hT, frm0, Or.inl ⟨by omega, rfl, rfl⟩⟩) (fun (h : ¬ (n < 1)) => d_br (fun (h2 : 8 < n) => d_r1 ⟨hT, frm0, Or.inl ⟨by omega, rfl, rfl⟩⟩) (fun (h2 : ¬ (8 < n)) => d_ld fun _ => d_ibw (w := M 22 2 + n) (ib0 (x := M 22 2) (y := n) (by unfold in32; omega)) (d_br (fun (h3 : M 22 2 + n ≤ 240) => d_ca ⟨_, by decide, (e50t (n := n) (b := b) (M := M) (by omega) hT h3).mono fun v3 M3 q3 _ _ _ => d_ld fun _ => d_r1 ⟨q3.1, FrM_sub frm0 (by decide) q3.2.1, Or.inr (Or.inr ⟨by omega, h3, congrArg (fun z => some (vI z)) q3.2.2.1, q3.2.2⟩)⟩⟩) (fun (h3 : ¬ (M 22 2 + n ≤ 240)) => d_r1 ⟨hT, frm0, Or.inr (Or.inl ⟨by omega, by omega, rfl, rfl⟩)⟩))))
theorem px138t {X : Xs} {n b : Int} {M : Mm} (hT : okTT M) : Wp X 30 138 0 (eL 0 [vR 0 65, vI n, vL b]) [] M (fun v M' => okTT M' ∧ FrM sp138_0.2.2.2.1 M M' ∧ qfe (M 65 14) n v (M' = M) (M' 65 14 = M 65 14 + n ∧ ∀ j : Nat, M' 75 j = if M 65 14 ≤ (j : Int) ∧ (j : Int) < M 65 14 + n then byM b (M 65 14 + n - 1 - j) else M 75 j)) := by
  have bL : 0 ≤ M 65 14 ∧ M 65 14 ≤ 240 := hT 65 14
  unfold qfe
  refine Wp_ent (cut := cutL [(20, [0, 2, 4])]) (CT := fun i as M' => i = 20 ∧ as = [vR 0 65, vL b, vI (n - 1)] ∧ M' = M ∧ 1 ≤ n ∧ n ≤ 8 ∧ M 65 14 + n ≤ 240) 2 30 [(4, 65), (1, 0), (3, 1)] (us (us (fun _ => 0) 0 n) 1 b) [(15, 2, [(3, 0), (2, 1), (0, 1)]), (19, 0, [(0, -100002)]), (15, 4, [(3, 0), (2, 8), (0, 1)]), (19, 0, [(0, -100002)]), (4, 65, [(0, 14)]), (0, 0, [(1, 2), (1, 0)]), (15, 5, [(1, 3), (0, 240), (0, 2)]), (0, 1, [(1, 0), (0, 1)]), (17, 20, [(4, 65), (3, 1), (1, 4)]), (19, 0, [(0, -100004)])] (by decide +kernel) rfl rfl (by decide) (fun i dl as M' hi _ h => ?_) ?_
  · obtain ⟨rfl, rfl, rfl, g1, g2, g3⟩ := h
    obtain rfl : [0, 2, 4] = dl := Option.some.inj hi
    have e : M' 65 14 + (n - 1 + 1) = M' 65 14 + n := by omega
    refine (x138 n.toNat (n - 1) b M' (by omega) (by omega) hT (by omega)).mono fun v M3 q => ⟨q.1, q.2.1, Or.inr (Or.inr ⟨by omega, g3, by rw [q.2.2.1, e], by rw [q.2.2.2.1, e], fun j => ?_⟩)⟩
    rw [q.2.2.2.2 j, e, show M' 65 14 + (n - 1) - (j : Int) = M' 65 14 + n - 1 - j by omega]
  · exact d_br (fun (h : n < 1) => d_r1 ⟨hT, frm0, Or.inl ⟨by omega, rfl, rfl⟩⟩) (fun (h : ¬ (n < 1)) => d_br (fun (h2 : 8 < n) => d_r1 ⟨hT, frm0, Or.inl ⟨by omega, rfl, rfl⟩⟩) (fun (h2 : ¬ (8 < n)) => d_ld fun _ => d_ibw (w := M 65 14 + n) (ib0 (x := M 65 14) (y := n) (by unfold in32; omega)) (d_br (fun (h3 : M 65 14 + n ≤ 240) => d_ibw (w := n - 1) (ib1 (x := n) (y := 1) (by unfold in32; omega)) (d_ct ⟨rfl, rfl, rfl, by omega, by omega, h3⟩)) (fun (h3 : ¬ (M 65 14 + n ≤ 240)) => d_r1 ⟨hT, frm0, Or.inr (Or.inl ⟨by omega, by omega, rfl, rfl⟩)⟩))))
theorem rbv67 : rb 67 = 1 := by decide +kernel
theorem rbv68 : rb 68 = 1 := by decide +kernel
def RowOK (M : Mm) (n : Nat) (d : Int) (r : Nat) : Prop := r ≤ n ∧ (∀ q : Nat, q < r → M 20 (q + 1) ≤ d) ∧ (r < n → d < M 20 (r + 1))
theorem l67 {X : Xs} {M : Mm} {d : Int} {n : Nat} (h2 : M 19 2 = n) (n8 : n ≤ 8) : ∀ m r : Nat, r + m = n → (∀ q : Nat, q < r → M 20 (q + 1) ≤ d) → Wp X 10 67 2 ([0, 1, 2].zip [vR 0 19, vI d, vI (r : Int)]) [] M (fun v M' => M' = M ∧ ∃ r : Nat, v = some (vI (r : Int)) ∧ RowOK M n d r) := by
  intro m
  induction m with
  | zero =>
    intro r hr hq
    refine Wp_seg (cut := cutL [(2, [0, 1, 2])]) (CT := fun _ _ _ => False) 2 30 [(4, 19), (1, 0), (1, 1)] (us (us (fun _ => 0) 0 d) 1 (r : Int)) [(4, 19, [(0, 2)]), (15, 3, [(1, 1), (1, 2), (0, 1)]), (19, 0, [(1, 1)]), (0, 0, [(1, 1), (0, 1)]), (5, 20, [(1, 3)]), (15, 4, [(1, 4), (1, 0), (0, 1)]), (19, 0, [(1, 1)]), (0, 0, [(1, 1), (0, 1)]), (17, 2, [(4, 19), (1, 0), (1, 5)])] (by decide +kernel) rfl rfl (by decide) (fun _ _ _ _ _ _ h => h.elim) ?_
    exact d_ldw (v := (n : Int)) h2 (d_br (fun _ => d_r1 ⟨rfl, r, rfl, by omega, hq, fun g => absurd g (by omega)⟩) fun (h : ¬ ((n : Int) ≤ (r : Int))) => absurd (show (n : Int) ≤ (r : Int) by omega) h)
  | succ m ih =>
    intro r hr hq
    refine Wp_seg (cut := cutL [(2, [0, 1, 2])]) (CT := fun i' as M' => i' = 2 ∧ as = [vR 0 19, vI d, vI ((r : Int) + 1)] ∧ M 20 (r + 1) ≤ d ∧ M' = M) 2 30 [(4, 19), (1, 0), (1, 1)] (us (us (fun _ => 0) 0 d) 1 (r : Int)) [(4, 19, [(0, 2)]), (15, 3, [(1, 1), (1, 2), (0, 1)]), (19, 0, [(1, 1)]), (0, 0, [(1, 1), (0, 1)]), (5, 20, [(1, 3)]), (15, 4, [(1, 4), (1, 0), (0, 1)]), (19, 0, [(1, 1)]), (0, 0, [(1, 1), (0, 1)]), (17, 2, [(4, 19), (1, 0), (1, 5)])] (by decide +kernel) rfl rfl (by decide) (fun i' dl as M' hi _ h => ?_) ?_
    · obtain ⟨rfl, rfl, hc, e⟩ := h
      obtain rfl : [0, 1, 2] = dl := Option.some.inj hi
      rw [e]
      exact ih (r + 1) (by omega) (fun q hq' => by
        by_cases e : q = r
        · rw [e]; exact hc
        · exact hq q (by omega))
    · refine d_ldw (v := (n : Int)) h2 (d_br (fun (h : (n : Int) ≤ (r : Int)) => absurd h (by omega)) fun _ => ?_)
      refine d_ibw (w := ((r + 1 : Nat) : Int)) (ib0 (x := (r : Int)) (y := 1) (by unfold in32; omega)) (d_law2 (v := M 20 (r + 1)) (show 0 ≤ ((r + 1 : Nat) : Int) ∧ ((r + 1 : Nat) : Int) < ((9 : Nat) : Int) by omega) rfl ?_)
      exact d_br (fun (h : d < M 20 (r + 1)) => d_r1 ⟨rfl, r, rfl, by omega, hq, fun _ => h⟩) fun (h : ¬ (d < M 20 (r + 1))) => d_ibw (w := (r : Int) + 1) (ib0 (x := (r : Int)) (y := 1) (by unfold in32; omega)) (d_ct ⟨rfl, rfl, by omega, rfl⟩)
theorem e67 {X : Xs} {M : Mm} {d : Int} {n : Nat} (h2 : M 19 2 = n) (n8 : n ≤ 8) : Wp X 10 67 0 (eL 0 [vR 0 19, vI d]) [] M (fun v M' => M' = M ∧ ∃ r : Nat, v = some (vI (r : Int)) ∧ RowOK M n d r) := by
  refine Wp_ent (cut := cutL [(2, [0, 1, 2])]) (CT := fun i as M' => i = 2 ∧ as = [vR 0 19, vI d, vI 0] ∧ M' = M) 1 10 [(4, 19), (1, 0)] (us (fun _ => 0) 0 d) [(17, 2, [(4, 19), (1, 0), (0, 0)])] (by decide +kernel) rfl rfl (by decide) (fun i dl as M' hi _ h => ?_) (d_ct ⟨rfl, rfl, rfl⟩)
  obtain ⟨rfl, rfl, rfl⟩ := h
  obtain rfl : [0, 1, 2] = dl := Option.some.inj hi
  exact l67 h2 n8 n 0 (by omega) (fun q hq => absurd hq (Nat.not_lt_zero q))
theorem e68 {X : Xs} {M : Mm} {r s : Nat} (hr : r ≤ 8) (hs : s < 20) : Wp X 10 68 0 (eL 0 [vR 0 19, vI (r : Int), vI (s : Int)]) [] M (fun v M' => M' = M ∧ v = some (vI (M 21 (20 * r + s)))) := by
  refine Wp_den 2 30 [(4, 19), (1, 0), (1, 1)] (us (us (fun _ => 0) 0 (r : Int)) 1 (s : Int)) [(15, 2, [(1, 0), (0, 0), (0, 1)]), (19, 0, [(0, 0)]), (15, 4, [(1, 0), (0, 8), (0, 1)]), (19, 0, [(0, 0)]), (15, 2, [(1, 1), (0, 0), (0, 1)]), (19, 0, [(0, 0)]), (15, 2, [(1, 1), (0, 20), (0, 4)]), (0, 2, [(1, 0), (0, 20)]), (0, 0, [(1, 2), (1, 1)]), (5, 21, [(1, 3)]), (19, 0, [(1, 4)]), (19, 0, [(0, 0)])] (by decide +kernel) rfl rfl (by decide) ?_
  refine d_br (fun (h : (r : Int) < 0) => absurd h (by omega)) fun _ => d_br (fun (h : (8 : Int) < (r : Int)) => absurd h (by omega)) fun _ => d_br (fun (h : (s : Int) < 0) => absurd h (by omega)) fun _ => d_br (fun _ => ?_) fun (h : ¬ ((s : Int) < 20)) => absurd (show (s : Int) < 20 by omega) h
  exact d_ibw (w := (r : Int) * 20) (ib2 (x := (r : Int)) (y := 20) (by unfold in32; omega)) (d_ibw (w := (r : Int) * 20 + (s : Int)) (ib0 (x := (r : Int) * 20) (y := (s : Int)) (by unfold in32; omega)) (d_law2 (v := M 21 (20 * r + s)) (show 0 ≤ (r : Int) * 20 + (s : Int) ∧ (r : Int) * 20 + (s : Int) < ((180 : Nat) : Int) by omega) (show M 21 ((r : Int) * 20 + (s : Int)).toNat = _ by rw [show ((r : Int) * 20 + (s : Int)).toNat = 20 * r + s by omega]) (d_r1 ⟨rfl, rfl⟩)))
def okL (rule k d : Int) : Prop := (0 ≤ rule ∧ rule ≤ 10) ∧ (0 ≤ d ∧ d ≤ 9999) ∧ ((kyR rule ∧ 0 ≤ k ∧ k ≤ 3) ∨ (¬ kyR rule ∧ k = 0))
set_option maxHeartbeats 4000000 in
theorem e93 {X : Xs} {M : Mm} {rule k d : Int} {n : Nat} (h2 : M 19 2 = n) (n8 : n ≤ 8) : Wp X 30 93 0 (eL 0 [vR 0 0, vI rule, vI k, vI d]) [] M (fun v M' => M' = M ∧ ((¬ okL rule k d ∧ v = some (vI (-100002))) ∨ (okL rule k d ∧ ∃ r : Nat, v = some (vI (M 21 (20 * r + (slX rule + k).toNat))) ∧ RowOK M n d r))) := by
  refine Wp_den 3 80 [(4, 0), (1, 0), (1, 1), (1, 2)] (us (us (us (fun _ => 0) 0 rule) 1 k) 2 d) [(15, 2, [(1, 0), (0, 0), (0, 1)]), (19, 0, [(0, -100002)]), (15, 4, [(1, 0), (0, 10), (0, 1)]), (19, 0, [(0, -100002)]), (15, 2, [(1, 2), (0, 0), (0, 1)]), (19, 0, [(0, -100002)]), (15, 4, [(1, 2), (0, 9999), (0, 1)]), (19, 0, [(0, -100002)]), (16, 63, [(1, 0)]), (15, 0, [(1, 3), (0, 0), (0, 17)]), (15, 2, [(1, 1), (0, 0), (0, 1)]), (19, 0, [(0, -100002)]), (15, 4, [(1, 1), (0, 0), (0, 1)]), (19, 0, [(0, -100002)]), (16, 67, [(4, 19), (1, 2)]), (15, 2, [(1, 0), (0, 0), (0, 3)]), (0, 0, [(0, 0), (1, 1)]), (16, 68, [(4, 19), (1, 4), (1, 5)]), (19, 0, [(1, 6)]), (15, 3, [(1, 0), (0, 11), (0, 3)]), (0, 0, [(0, 0), (1, 1)]), (16, 68, [(4, 19), (1, 4), (1, 5)]), (19, 0, [(1, 6)]), (8, 0, [(1, 0)]), (0, 0, [(1, 5), (1, 1)]), (16, 68, [(4, 19), (1, 4), (1, 6)]), (19, 0, [(1, 7)]), (15, 2, [(1, 1), (0, 0), (0, 1)]), (19, 0, [(0, -100002)]), (15, 4, [(1, 1), (0, 3), (0, 1)]), (19, 0, [(0, -100002)]), (16, 67, [(4, 19), (1, 2)]), (15, 2, [(1, 0), (0, 0), (0, 3)]), (0, 0, [(0, 0), (1, 1)]), (16, 68, [(4, 19), (1, 4), (1, 5)]), (19, 0, [(1, 6)]), (15, 3, [(1, 0), (0, 11), (0, 3)]), (0, 0, [(0, 0), (1, 1)]), (16, 68, [(4, 19), (1, 4), (1, 5)]), (19, 0, [(1, 6)]), (8, 0, [(1, 0)]), (0, 0, [(1, 5), (1, 1)]), (16, 68, [(4, 19), (1, 4), (1, 6)]), (19, 0, [(1, 7)])] (by decide +kernel) rfl rfl (by decide) ?_
  refine d_br (fun (h : rule < 0) => d_r1 ⟨rfl, Or.inl ⟨fun o => absurd o.1 (by omega), rfl⟩⟩) fun (g1 : ¬ (rule < 0)) => d_br (fun (h : 10 < rule) => d_r1 ⟨rfl, Or.inl ⟨fun o => absurd o.1 (by omega), rfl⟩⟩) fun (g2 : ¬ (10 < rule)) => d_br (fun (h : d < 0) => d_r1 ⟨rfl, Or.inl ⟨fun o => absurd o.2.1 (by omega), rfl⟩⟩) fun (g3 : ¬ (d < 0)) => d_br (fun (h : 9999 < d) => d_r1 ⟨rfl, Or.inl ⟨fun o => absurd o.2.1 (by omega), rfl⟩⟩) fun (g4 : ¬ (9999 < d)) => ?_
  refine d_ca ⟨10, by decide, (e63 (X := X) (M := M) (r := rule)).mono fun v3 M3 q3 _ _ _ => ?_⟩
  obtain ⟨e3, q3⟩ := q3
  rw [e3]
  rcases q3 with ⟨e4, hk⟩ | ⟨e4, hk⟩
  · rw [e4, rbv63]
    refine d_br (fun (h : (1 : Int) = 0) => absurd h (by decide)) fun _ => ?_
    refine d_br (fun (h : k < 0) => d_r1 ⟨rfl, Or.inl ⟨fun o => o.2.2.elim (fun g => absurd g.2 (by omega)) (fun g => g.1 hk), rfl⟩⟩) fun (g5 : ¬ (k < 0)) => d_br (fun (h : 3 < k) => d_r1 ⟨rfl, Or.inl ⟨fun o => o.2.2.elim (fun g => absurd g.2 (by omega)) (fun g => g.1 hk), rfl⟩⟩) fun (g6 : ¬ (3 < k)) => ?_
    exact d_ca ⟨10, by decide, (e67 (X := X) (M := M) (n := n) (d := d) h2 n8).mono fun v4 M4 q4 _ _ _ => by
      obtain ⟨e4, r, e5, hr⟩ := q4
      have bs := slk_b (r := rule) (k := k) (by omega) (fun g => by omega) (fun g => absurd hk g)
      have r8 := hr.1
      have es : (slX rule + k) = (((slX rule + k).toNat : Nat) : Int) := by omega
      rw [e4, e5, rbv67]
      refine d_br (fun (h : rule < 0) => absurd h (by omega)) fun _ => d_br (fun (h : (11 : Int) ≤ rule) => absurd h (by omega)) fun _ => d_fsl (z := rule) rfl (by omega) (d_ibw (w := (((slX rule + k).toNat : Nat) : Int)) (by rw [← es]; exact ib0 (x := slX rule) (y := k) (by unfold in32; omega)) ?_)
      refine d_cx (d := 10) (z := M 21 (20 * r + (slX rule + k).toNat)) (by decide) rbv68 rfl (e68 (X := X) (M := M) (r := r) (s := (slX rule + k).toNat) (by omega) (by omega)) ?_
      exact d_r1 ⟨rfl, Or.inr ⟨⟨⟨by omega, by omega⟩, ⟨by omega, by omega⟩, Or.inl ⟨hk, by omega, by omega⟩⟩, r, rfl, hr⟩⟩⟩
  · rw [e4, rbv63]
    refine d_br (fun _ => ?_) fun (h : ¬ ((0 : Int) = 0)) => absurd rfl h
    refine d_br (fun (h : k < 0) => d_r1 ⟨rfl, Or.inl ⟨fun o => o.2.2.elim (fun g => hk g.1) (fun g => absurd g.2 (by omega)), rfl⟩⟩) fun (g5 : ¬ (k < 0)) => d_br (fun (h : 0 < k) => d_r1 ⟨rfl, Or.inl ⟨fun o => o.2.2.elim (fun g => hk g.1) (fun g => absurd g.2 (by omega)), rfl⟩⟩) fun (g6 : ¬ (0 < k)) => ?_
    exact d_ca ⟨10, by decide, (e67 (X := X) (M := M) (n := n) (d := d) h2 n8).mono fun v4 M4 q4 _ _ _ => by
      obtain ⟨e4, r, e5, hr⟩ := q4
      have bs := slk_b (r := rule) (k := k) (by omega) (fun g => absurd g hk) (fun g => by omega)
      have r8 := hr.1
      have es : (slX rule + k) = (((slX rule + k).toNat : Nat) : Int) := by omega
      rw [e4, e5, rbv67]
      refine d_br (fun (h : rule < 0) => absurd h (by omega)) fun _ => d_br (fun (h : (11 : Int) ≤ rule) => absurd h (by omega)) fun _ => d_fsl (z := rule) rfl (by omega) (d_ibw (w := (((slX rule + k).toNat : Nat) : Int)) (by rw [← es]; exact ib0 (x := slX rule) (y := k) (by unfold in32; omega)) ?_)
      refine d_cx (d := 10) (z := M 21 (20 * r + (slX rule + k).toNat)) (by decide) rbv68 rfl (e68 (X := X) (M := M) (r := r) (s := (slX rule + k).toNat) (by omega) (by omega)) ?_
      exact d_r1 ⟨rfl, Or.inr ⟨⟨⟨by omega, by omega⟩, ⟨by omega, by omega⟩, Or.inr ⟨hk, by omega⟩⟩, r, rfl, hr⟩⟩⟩
theorem rbv141 : rb 141 = 1 := by decide +kernel
theorem rbv142 : rb 142 = 1 := by decide +kernel
def mVf (M : Mm) (rule k d : Int) : Nat → Int
  | 0 => afR rule
  | p + 1 => if M 76 p ≤ d ∧ 0 ≤ M 77 (20 * p + (slM rule k).toNat) then M 77 (20 * p + (slM rule k).toNat) else mVf M rule k d p
theorem mV_n {M : Mm} {rule k d : Int} {p : Nat} (h : ¬ (M 76 p ≤ d ∧ 0 ≤ M 77 (20 * p + (slM rule k).toNat))) : mVf M rule k d (p + 1) = mVf M rule k d p := if_neg h
theorem mV_y {M : Mm} {rule k d : Int} {p : Nat} (h : M 76 p ≤ d ∧ 0 ≤ M 77 (20 * p + (slM rule k).toNat)) : mVf M rule k d (p + 1) = M 77 (20 * p + (slM rule k).toNat) := if_pos h
theorem l142 {X : Xs} {M : Mm} {rule k d : Int} {n : Nat} (hr : 0 ≤ rule ∧ rule ≤ 10) (hk : 0 ≤ k ∧ k ≤ 3) (h16 : M 65 16 = n) (n8 : n ≤ 8) : ∀ m p : Nat, p + m = n → Wp X 20 142 5 ([0, 1, 2, 3, 4, 5].zip [vR 0 65, vI rule, vI k, vI d, vI (mVf M rule k d p), vI (p : Int)]) [] M (fun v M' => M' = M ∧ v = some (vI (mVf M rule k d n))) := by
  have bs := slM_b hr hk
  intro m
  induction m with
  | zero =>
    intro p hp
    obtain rfl : p = n := by omega
    refine Wp_seg (cut := cutL [(5, [0, 1, 2, 3, 4, 5])]) (CT := fun _ _ _ => False) 5 40 [(4, 65), (1, 0), (1, 1), (1, 2), (1, 3), (1, 4)] (us (us (us (us (us (fun _ => 0) 0 rule) 1 k) 2 d) 3 (mVf M rule k d p)) 4 (p : Int)) [(4, 65, [(0, 16)]), (15, 3, [(1, 4), (1, 5), (0, 1)]), (19, 0, [(1, 3)]), (0, 2, [(0, 20), (1, 4)]), (16, 140, [(1, 0), (1, 1)]), (0, 0, [(1, 6), (1, 7)]), (5, 77, [(1, 8)]), (5, 76, [(1, 4)]), (15, 4, [(1, 10), (1, 2), (0, 2)]), (0, 0, [(1, 4), (0, 1)]), (17, 5, [(4, 65), (1, 0), (1, 1), (1, 2), (1, 3), (1, 11)]), (15, 2, [(1, 9), (0, 0), (0, 2)]), (0, 0, [(1, 4), (0, 1)]), (17, 5, [(4, 65), (1, 0), (1, 1), (1, 2), (1, 3), (1, 11)]), (0, 0, [(1, 4), (0, 1)]), (17, 5, [(4, 65), (1, 0), (1, 1), (1, 2), (1, 9), (1, 11)])] (by decide +kernel) rfl rfl (by decide) (fun _ _ _ _ _ _ h => h.elim) ?_
    exact d_ldw (v := (p : Int)) h16 (d_br (fun _ => d_r1 ⟨rfl, rfl⟩) fun (h : ¬ ((p : Int) ≤ (p : Int))) => absurd (Int.le_refl _) h)
  | succ m ih =>
    intro p hp
    refine Wp_seg (cut := cutL [(5, [0, 1, 2, 3, 4, 5])]) (CT := fun i' as M' => i' = 5 ∧ as = [vR 0 65, vI rule, vI k, vI d, vI (mVf M rule k d (p + 1)), vI ((p : Int) + 1)] ∧ M' = M) 5 40 [(4, 65), (1, 0), (1, 1), (1, 2), (1, 3), (1, 4)] (us (us (us (us (us (fun _ => 0) 0 rule) 1 k) 2 d) 3 (mVf M rule k d p)) 4 (p : Int)) [(4, 65, [(0, 16)]), (15, 3, [(1, 4), (1, 5), (0, 1)]), (19, 0, [(1, 3)]), (0, 2, [(0, 20), (1, 4)]), (16, 140, [(1, 0), (1, 1)]), (0, 0, [(1, 6), (1, 7)]), (5, 77, [(1, 8)]), (5, 76, [(1, 4)]), (15, 4, [(1, 10), (1, 2), (0, 2)]), (0, 0, [(1, 4), (0, 1)]), (17, 5, [(4, 65), (1, 0), (1, 1), (1, 2), (1, 3), (1, 11)]), (15, 2, [(1, 9), (0, 0), (0, 2)]), (0, 0, [(1, 4), (0, 1)]), (17, 5, [(4, 65), (1, 0), (1, 1), (1, 2), (1, 3), (1, 11)]), (0, 0, [(1, 4), (0, 1)]), (17, 5, [(4, 65), (1, 0), (1, 1), (1, 2), (1, 9), (1, 11)])] (by decide +kernel) rfl rfl (by decide) (fun i' dl as M' hi _ h => ?_) ?_
    · obtain ⟨rfl, rfl, e⟩ := h
      obtain rfl : [0, 1, 2, 3, 4, 5] = dl := Option.some.inj hi
      rw [e]
      exact ih (p + 1) (by omega)
    · refine d_ldw (v := (n : Int)) h16 (d_br (fun (h : (n : Int) ≤ (p : Int)) => absurd h (by omega)) fun _ => ?_)
      refine d_ibw (w := 20 * (p : Int)) (ib2 (x := 20) (y := (p : Int)) (by unfold in32; omega)) ?_
      refine d_cx (d := 10) (z := slM rule k) (by decide) rbv140 rfl (e140 (X := X) (M := M) hr hk) ?_
      refine d_ibw (w := 20 * (p : Int) + slM rule k) (ib0 (x := 20 * (p : Int)) (y := slM rule k) (by unfold in32; omega)) ?_
      refine d_law2 (v := M 77 (20 * p + (slM rule k).toNat)) (show 0 ≤ 20 * (p : Int) + slM rule k ∧ 20 * (p : Int) + slM rule k < ((160 : Nat) : Int) by omega) (show M 77 (20 * (p : Int) + slM rule k).toNat = _ by rw [show (20 * (p : Int) + slM rule k).toNat = 20 * p + (slM rule k).toNat by omega]) ?_
      refine d_law2 (v := M 76 p) (show 0 ≤ (p : Int) ∧ (p : Int) < ((8 : Nat) : Int) by omega) rfl ?_
      have ep : ib 0 (p : Int) 1 = (p : Int) + 1 := ib0 (x := (p : Int)) (y := 1) (by unfold in32; omega)
      refine d_br (fun (h : d < M 76 p) => ?_) fun (h : ¬ (d < M 76 p)) => ?_
      · exact d_ibw (w := (p : Int) + 1) ep (d_ct ⟨rfl, by rw [mV_n (fun g => absurd g.1 (by omega))]; rfl, rfl⟩)
      · refine d_br (fun (g : M 77 (20 * p + (slM rule k).toNat) < 0) => ?_) fun (g : ¬ (M 77 (20 * p + (slM rule k).toNat) < 0)) => ?_
        · exact d_ibw (w := (p : Int) + 1) ep (d_ct ⟨rfl, by rw [mV_n (fun g2 => absurd g2.2 (by omega))]; rfl, rfl⟩)
        · exact d_ibw (w := (p : Int) + 1) ep (d_ct ⟨rfl, by rw [mV_y ⟨by omega, by omega⟩]; rfl, rfl⟩)
theorem e142 {X : Xs} {M : Mm} {rule k d : Int} {n : Nat} (hr : 0 ≤ rule ∧ rule ≤ 10) (hk : 0 ≤ k ∧ k ≤ 3) (h16 : M 65 16 = n) (n8 : n ≤ 8) : Wp X 20 142 0 (eL 0 [vR 0 65, vI rule, vI k, vI d]) [] M (fun v M' => M' = M ∧ v = some (vI (mVf M rule k d n))) := by
  refine Wp_ent (cut := cutL [(5, [0, 1, 2, 3, 4, 5])]) (CT := fun i as M' => i = 5 ∧ as = [vR 0 65, vI rule, vI k, vI d, vI (afR rule), vI 0] ∧ M' = M) 3 20 [(4, 65), (1, 0), (1, 1), (1, 2)] (us (us (us (fun _ => 0) 0 rule) 1 k) 2 d) [(16, 141, [(1, 0)]), (17, 5, [(4, 65), (1, 0), (1, 1), (1, 2), (1, 3), (0, 0)])] (by decide +kernel) rfl rfl (by decide) (fun i dl as M' hi _ h => ?_) ?_
  · obtain ⟨rfl, rfl, rfl⟩ := h
    obtain rfl : [0, 1, 2, 3, 4, 5] = dl := Option.some.inj hi
    exact l142 hr hk h16 n8 n 0 (by omega)
  · exact d_cx (d := 10) (z := afR rule) (by decide) rbv141 rfl (e141 (X := X) (M := M) hr) (d_ct ⟨rfl, rfl, rfl⟩)
set_option maxHeartbeats 4000000 in
theorem e153 {X : Xs} {M : Mm} {rule k d : Int} {n : Nat} (h16 : M 65 16 = n) (n8 : n ≤ 8) : Wp X 30 153 0 (eL 0 [vR 0 65, vI rule, vI k, vI d]) [] M (fun v M' => M' = M ∧ ((¬ okL rule k d ∧ v = some (vI (-100002))) ∨ (okL rule k d ∧ v = some (vI (mVf M rule k d n))))) := by
  refine Wp_den 3 80 [(4, 65), (1, 0), (1, 1), (1, 2)] (us (us (us (fun _ => 0) 0 rule) 1 k) 2 d) [(15, 2, [(3, 0), (2, 0), (0, 1)]), (19, 0, [(0, -100002)]), (15, 4, [(3, 0), (2, 10), (0, 1)]), (19, 0, [(0, -100002)]), (15, 2, [(1, 0), (0, 0), (0, 10)]), (15, 2, [(3, 1), (2, 0), (0, 1)]), (19, 0, [(0, -100002)]), (15, 4, [(3, 1), (2, 0), (0, 1)]), (19, 0, [(0, -100002)]), (15, 2, [(3, 2), (2, 0), (0, 1)]), (19, 0, [(0, -100002)]), (15, 4, [(3, 2), (2, 9999), (0, 1)]), (19, 0, [(0, -100002)]), (16, 142, [(4, 65), (1, 0), (1, 1), (1, 2)]), (19, 0, [(1, 3)]), (15, 4, [(1, 0), (0, 10), (0, 10)]), (15, 2, [(3, 1), (2, 0), (0, 1)]), (19, 0, [(0, -100002)]), (15, 4, [(3, 1), (2, 0), (0, 1)]), (19, 0, [(0, -100002)]), (15, 2, [(3, 2), (2, 0), (0, 1)]), (19, 0, [(0, -100002)]), (15, 4, [(3, 2), (2, 9999), (0, 1)]), (19, 0, [(0, -100002)]), (16, 142, [(4, 65), (1, 0), (1, 1), (1, 2)]), (19, 0, [(1, 3)]), (16, 139, [(1, 0)]), (15, 0, [(1, 3), (0, 0), (0, 10)]), (15, 2, [(3, 1), (2, 0), (0, 1)]), (19, 0, [(0, -100002)]), (15, 4, [(3, 1), (2, 0), (0, 1)]), (19, 0, [(0, -100002)]), (15, 2, [(3, 2), (2, 0), (0, 1)]), (19, 0, [(0, -100002)]), (15, 4, [(3, 2), (2, 9999), (0, 1)]), (19, 0, [(0, -100002)]), (16, 142, [(4, 65), (1, 0), (1, 1), (1, 2)]), (19, 0, [(1, 4)]), (15, 2, [(3, 1), (2, 0), (0, 1)]), (19, 0, [(0, -100002)]), (15, 4, [(3, 1), (2, 3), (0, 1)]), (19, 0, [(0, -100002)]), (15, 2, [(3, 2), (2, 0), (0, 1)]), (19, 0, [(0, -100002)]), (15, 4, [(3, 2), (2, 9999), (0, 1)]), (19, 0, [(0, -100002)]), (16, 142, [(4, 65), (1, 0), (1, 1), (1, 2)]), (19, 0, [(1, 4)])] (by decide +kernel) rfl rfl (by decide) ?_
  refine d_br (fun (h : rule < 0) => d_r1 ⟨rfl, Or.inl ⟨fun o => absurd o.1 (by omega), rfl⟩⟩) fun (g1 : ¬ (rule < 0)) => d_br (fun (h : 10 < rule) => d_r1 ⟨rfl, Or.inl ⟨fun o => absurd o.1 (by omega), rfl⟩⟩) fun (g2 : ¬ (10 < rule)) => d_br (fun (h : rule < 0) => absurd h g1) fun _ => d_br (fun (h : 10 < rule) => absurd h g2) fun _ => ?_
  refine d_ca ⟨10, by decide, (e139 (X := X) (M := M) (r := rule)).mono fun v3 M3 q3 _ _ _ => ?_⟩
  obtain ⟨e3, q3⟩ := q3
  rw [e3]
  rcases q3 with ⟨e4, hk⟩ | ⟨e4, hk⟩
  · rw [e4, rbv139]
    refine d_br (fun (h : (1 : Int) = 0) => absurd h (by decide)) fun _ => ?_
    refine d_br (fun (h : k < 0) => d_r1 ⟨rfl, Or.inl ⟨fun o => o.2.2.elim (fun g => absurd g.2 (by omega)) (fun g => g.1 hk), rfl⟩⟩) fun (g5 : ¬ (k < 0)) => d_br (fun (h : 3 < k) => d_r1 ⟨rfl, Or.inl ⟨fun o => o.2.2.elim (fun g => absurd g.2 (by omega)) (fun g => g.1 hk), rfl⟩⟩) fun (g6 : ¬ (3 < k)) => ?_
    exact d_br (fun (h : d < 0) => d_r1 ⟨rfl, Or.inl ⟨fun o => absurd o.2.1 (by omega), rfl⟩⟩) fun (g3 : ¬ (d < 0)) => d_br (fun (h : 9999 < d) => d_r1 ⟨rfl, Or.inl ⟨fun o => absurd o.2.1 (by omega), rfl⟩⟩) fun (g4 : ¬ (9999 < d)) => d_cx (d := 20) (z := mVf M rule k d n) (by decide) rbv142 rfl (e142 (X := X) (M := M) (rule := rule) (k := k) (d := d) (by omega) (by omega) h16 n8) (d_r1 ⟨rfl, Or.inr ⟨⟨⟨by omega, by omega⟩, ⟨by omega, by omega⟩, Or.inl ⟨hk, by omega, by omega⟩⟩, rfl⟩⟩)
  · rw [e4, rbv139]
    refine d_br (fun _ => ?_) fun (h : ¬ ((0 : Int) = 0)) => absurd rfl h
    refine d_br (fun (h : k < 0) => d_r1 ⟨rfl, Or.inl ⟨fun o => o.2.2.elim (fun g => hk g.1) (fun g => absurd g.2 (by omega)), rfl⟩⟩) fun (g5 : ¬ (k < 0)) => d_br (fun (h : 0 < k) => d_r1 ⟨rfl, Or.inl ⟨fun o => o.2.2.elim (fun g => hk g.1) (fun g => absurd g.2 (by omega)), rfl⟩⟩) fun (g6 : ¬ (0 < k)) => ?_
    exact d_br (fun (h : d < 0) => d_r1 ⟨rfl, Or.inl ⟨fun o => absurd o.2.1 (by omega), rfl⟩⟩) fun (g3 : ¬ (d < 0)) => d_br (fun (h : 9999 < d) => d_r1 ⟨rfl, Or.inl ⟨fun o => absurd o.2.1 (by omega), rfl⟩⟩) fun (g4 : ¬ (9999 < d)) => d_cx (d := 20) (z := mVf M rule k d n) (by decide) rbv142 rfl (e142 (X := X) (M := M) (rule := rule) (k := k) (d := d) (by omega) (by omega) h16 n8) (d_r1 ⟨rfl, Or.inr ⟨⟨⟨by omega, by omega⟩, ⟨by omega, by omega⟩, Or.inr ⟨hk, by omega⟩⟩, rfl⟩⟩)
def A0 (j : Nat) : Int := [12, 12, 12, 12, 1, 1, 1, 1, 2, 0, 1, 0, 0, 0, 10, 10, 10, 10, 0, 0].getD j 0
def CX (M : Mm) : Prop := (∀ k : Nat, M 23 k = M 75 k) ∧ M 22 5 = M 65 15 ∧ M 19 2 = M 65 16 ∧ (∀ j : Nat, j < 20 → M 26 j = A0 j) ∧ (∀ j : Nat, j < 20 → M 21 j = A0 j) ∧ ∀ q : Nat, (q : Int) < M 65 16 → M 20 (q + 1) = M 76 q ∧ (∀ r : Nat, r < q → M 76 r < M 76 q) ∧ ∀ s : Nat, s < 20 → M 21 (20 * (q + 1) + s) = if 0 ≤ M 77 (20 * q + piN s) then M 77 (20 * q + piN s) else M 21 (20 * q + s)
theorem CX_same {M M' : Mm} (h : CX M) (s1 : M' 22 5 = M 22 5) (s2 : M' 65 15 = M 65 15) (s3 : M' 19 2 = M 19 2) (s4 : M' 65 16 = M 65 16) (r1 : ∀ i : Nat, M' 23 i = M 23 i) (r2 : ∀ i : Nat, M' 75 i = M 75 i) (r3 : ∀ i : Nat, M' 26 i = M 26 i) (r4 : ∀ i : Nat, M' 21 i = M 21 i) (r5 : ∀ i : Nat, M' 20 i = M 20 i) (r6 : ∀ i : Nat, M' 76 i = M 76 i) (r7 : ∀ i : Nat, M' 77 i = M 77 i) : CX M' := by
  obtain ⟨a, b, c, d, e, f⟩ := h
  refine ⟨fun k => by rw [r1, r2]; exact a k, by rw [s1, s2]; exact b, by rw [s3, s4]; exact c, fun j hj => by rw [r3]; exact d j hj, fun j hj => by rw [r4]; exact e j hj, fun q hq => ?_⟩
  rw [s4] at hq
  obtain ⟨f1, f2, f3⟩ := f q hq
  refine ⟨by rw [r5, r6]; exact f1, fun r hr => by rw [r6, r6]; exact f2 r hr, fun s hs => ?_⟩
  rw [r4, r4, r7]
  exact f3 s hs
theorem CX_new {M M' : Mm} (h : CX M) (ha : ∀ k : Nat, M' 23 k = M' 75 k) (s1 : M' 22 5 = M' 65 15) (s3 : M' 19 2 = M 19 2) (s4 : M' 65 16 = M 65 16) (r3 : ∀ j : Nat, j < 20 → M' 26 j = M 26 j) (r4 : ∀ i : Nat, M' 21 i = M 21 i) (r5 : ∀ i : Nat, M' 20 i = M 20 i) (r6 : ∀ i : Nat, M' 76 i = M 76 i) (r7 : ∀ i : Nat, M' 77 i = M 77 i) : CX M' := by
  obtain ⟨a, b, c, d, e, f⟩ := h
  refine ⟨ha, s1, by rw [s3, s4]; exact c, fun j hj => by rw [r3 j hj]; exact d j hj, fun j hj => by rw [r4]; exact e j hj, fun q hq => ?_⟩
  rw [s4] at hq
  obtain ⟨f1, f2, f3⟩ := f q hq
  refine ⟨by rw [r5, r6]; exact f1, fun r hr => by rw [r6, r6]; exact f2 r hr, fun s hs => ?_⟩
  rw [r4, r4, r7]
  exact f3 s hs
theorem A0_af : ∀ r : Fin 11, ∀ k : Fin 4, (kyR (r.val : Int) ∨ k.val = 0) → A0 (slX (r.val : Int) + (k.val : Int)).toNat = afR (r.val : Int) := by decide +kernel
theorem lawv {M : Mm} (h : CX M) {rule k d : Int} (ok : okL rule k d) {n r : Nat} (h16 : M 65 16 = n) (hr : RowOK M n d r) : M 21 (20 * r + (slX rule + k).toNat) = mVf M rule k d n := by
  obtain ⟨-, -, -, -, hA, hR⟩ := h
  obtain ⟨okr, okd, okk⟩ := ok
  obtain ⟨hr1, hr2, hr3⟩ := hr
  have k1 : kyR rule → 0 ≤ k ∧ k ≤ 3 := fun g => okk.elim (fun q => q.2) (fun q => absurd g q.1)
  have k2 : ¬ kyR rule → k = 0 := fun g => okk.elim (fun q => absurd q.1 g) (fun q => q.2)
  have kb : 0 ≤ k ∧ k ≤ 3 := okk.elim (fun q => q.2) (fun q => by omega)
  have bs := slk_b okr k1 k2
  obtain ⟨s, es⟩ : ∃ s : Nat, (slX rule + k).toNat = s := ⟨_, rfl⟩
  have ep : (slM rule k).toNat = piN s := by
    have := (pi_sl (s := s) (by omega) okr k1 k2).2 (by omega)
    omega
  rw [es]
  have e0 : A0 s = afR rule := by
    have q := A0_af ⟨rule.toNat, by omega⟩ ⟨k.toNat, by omega⟩ (by
      show kyR ((rule.toNat : Nat) : Int) ∨ k.toNat = 0
      rw [show ((rule.toNat : Nat) : Int) = rule by omega]
      by_cases g : kyR rule
      · exact Or.inl g
      · exact Or.inr (by have := k2 g; omega))
    have q : A0 (slX ((rule.toNat : Nat) : Int) + ((k.toNat : Nat) : Int)).toNat = afR ((rule.toNat : Nat) : Int) := q
    rw [show ((rule.toNat : Nat) : Int) = rule by omega, show ((k.toNat : Nat) : Int) = k by omega, es] at q
    exact q
  have s1 : ∀ q : Nat, q ≤ r → M 21 (20 * q + s) = mVf M rule k d q := by
    intro q
    induction q with
    | zero =>
      intro _
      rw [show 20 * 0 + s = s by omega, hA s (by omega)]
      exact e0
    | succ q ih =>
      intro hq
      obtain ⟨f1, f2, f3⟩ := hR q (by omega)
      have fd := hr2 q (by omega)
      rw [f1] at fd
      rw [f3 s (by omega), ih (by omega)]
      show _ = if M 76 q ≤ d ∧ 0 ≤ M 77 (20 * q + (slM rule k).toNat) then _ else _
      rw [ep]
      by_cases g : 0 ≤ M 77 (20 * q + piN s)
      · rw [if_pos g, if_pos ⟨fd, g⟩]
      · rw [if_neg g, if_neg (fun z => g z.2)]
  have s2 : ∀ m : Nat, r + m ≤ n → mVf M rule k d (r + m) = mVf M rule k d r := by
    intro m
    induction m with
    | zero => intro _; rfl
    | succ m ih =>
      intro hm
      have gd : d < M 76 (r + m) := by
        have g0 := hr3 (by omega)
        have g1 := (hR r (by omega)).1
        by_cases e : m = 0
        · rw [e, Nat.add_zero]; omega
        · have g2 := (hR (r + m) (by omega)).2.1 r (by omega)
          omega
      rw [show r + (m + 1) = r + m + 1 by omega, mV_n (fun z => absurd z.1 (by omega))]
      exact ih (by omega)
  have s3 := s2 (n - r) (by omega)
  rw [show r + (n - r) = n by omega] at s3
  rw [s1 r (Nat.le_refl r), s3]
theorem hdF_z {t : Nat → Int} {L a p : Nat} {prev : Int} (h : hdF t L a p prev = 0) : ¬ (0 < p ∧ nV t L (wdE t L a) ≤ prev) := by
  intro c
  unfold hdF at h
  split at h
  · split at h
    · exact absurd h (by decide)
    · split at h
      next g => exact g h
      next => exact absurd h (by decide)
  · exact absurd h (by decide)
theorem dyN_up {t : Nat → Int} {L n : Nat} (h : OutH t L n) : ∀ q : Nat, q < n → ∀ r : Nat, r < q → dyN t L r < dyN t L q := by
  have st : ∀ q : Nat, q + 1 < n → dyN t L q < dyN t L (q + 1) := by
    intro q hq
    have f := h.1 (q + 1) hq
    unfold pfN at f
    by_cases c : hdF t L (skB t L (psN t L (q + 1))) (q + 1) (pvN t L (q + 1)) = 0
    · have z := hdF_z c
      have z : ¬ (0 < q + 1 ∧ dyN t L (q + 1) ≤ dyN t L q) := z
      omega
    · rw [(ptF_h c).1] at f
      exact absurd f c
  intro q
  induction q with
  | zero => intro _ r hr; exact absurd hr (Nat.not_lt_zero r)
  | succ q ih =>
    intro hq r hr
    have g := st q hq
    by_cases e : r = q
    · rw [e]; exact g
    · have := ih (by omega) r (by omega)
      omega
/-- both sides read the text alike -/
theorem CX_read {t : Nat → Int} {L n : Nat} {M : Mm} (hO : OutH t L n) (ha : ∀ k : Nat, M 23 k = M 75 k) (h5 : M 22 5 = -1) (h15 : M 65 15 = -1) (h19 : M 19 2 = n) (h16 : M 65 16 = n) (h26 : ∀ j : Nat, j < 20 → M 26 j = A0 j) (h21 : ∀ j : Nat, j < 20 → M 21 j = A0 j) (h20 : ∀ q : Nat, q < n → M 20 (q + 1) = dyN t L q) (h76 : ∀ q : Nat, q < n → M 76 q = dyN t L q) (hR : RWS t L n (M 21)) (h77 : ∀ q : Nat, q < n → ∀ s : Nat, s < 20 → M 77 (20 * q + s) = rwR t L q s) : CX M := by
  refine ⟨ha, by rw [h5, h15], by rw [h19, h16], h26, h21, fun q hq => ?_⟩
  rw [h16] at hq
  have hq : q < n := by omega
  refine ⟨by rw [h20 q hq, h76 q hq], fun r hr => by rw [h76 q hq, h76 r (by omega)]; exact dyN_up hO q hq r hr, fun s hs => ?_⟩
  have ps : piN s < 20 := by
    have := pi_c (s := s)
    omega
  rw [h77 q hq (piN s) ps]
  exact hR q hq s hs
