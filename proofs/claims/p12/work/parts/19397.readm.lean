theorem rbv149 : rb 149 = 1 := by decide +kernel
theorem rbv150 : rb 150 = 1 := by decide +kernel
theorem rFt_b {t : Nat → Int} {L a : Nat} : 0 ≤ rFt t L a ∧ rFt t L a ≤ 2 := by
  have b1 := nf_b (t := t) (L := L) (lim := 3) (a := rwE t L a)
  have b2 := nf_b (t := t) (L := L) (lim := lmR (rR t L a)) (a := rA t L a)
  unfold rFt rKf
  split
  · omega
  · split
    · split <;> omega
    · omega
set_option maxHeartbeats 4000000 in
theorem l78 {X : Xs} {t : Nat → Int} {L p : Nat} {Mb : Mm} {B : Nat → Int} (hL : L ≤ 240) (ht0 : ∀ k : Nat, Mb 75 k = t k) (hl0 : Mb 65 14 = L) (hp : p ≤ 7) : ∀ (n x : Nat) (row : Nat → Int) (M : Mm), L ≤ x + n → x ≤ L → okTT M → FrM sp149_0.2.2.2.1 Mb M → M 65 43 = x → M 65 15 = Mb 65 15 → (∀ j : Nat, M 79 j = rwM B p row j) → Wp X 50 150 78 ([0, 1].zip [vR 0 65, vI (p : Int)]) [] M (fun v M' => okTT M' ∧ FrM sp149_0.2.2.2.1 Mb M' ∧ v = some (vI (rls t L n x row).f) ∧ (((rls t L n x row).f ≠ 0 ∧ M' 65 15 = (((rls t L n x row).pl : Nat) : Int)) ∨ ((rls t L n x row).f = 0 ∧ M' 65 43 = (((rls t L n x row).en : Nat) : Int) ∧ M' 65 15 = Mb 65 15 ∧ ∀ j : Nat, M' 79 j = rwM B p (rls t L n x row).row j))) := by
  intro n
  induction n using Nat.strongRecOn with
  | _ n ih =>
  intro x row M hn hx hT hF h3 h5 h79
  have ht : ∀ k : Nat, M 75 k = t k := fun k => (hF 75 k (wOf_no rfl k)).trans (ht0 k)
  have hl : M 65 14 = L := (hF 65 14 (by decide)).trans hl0
  have bs := skB_b (t := t) hx
  refine Wp_seg (cut := (cutL [(64, [0, 1, 3]), (78, [0, 1])])) (CT := fun i' as M' => i' = 78 ∧ as = [vR 0 65, vI (p : Int)] ∧ ¬ (skB t L x < L ∧ t (skB t L x) = 59) ∧ rFt t L (skB t L x) = 0 ∧ okTT M' ∧ FrM sp149_0.2.2.2.1 Mb M' ∧ M' 65 43 = ((nG t L (rA t L (skB t L x)) : Nat) : Int) ∧ M' 65 15 = Mb 65 15 ∧ ∀ j : Nat, M' 79 j = rwM B p (rwN t L (skB t L x) row) j) 1 60 [(4, 65), (1, 0)] (us (fun _ => 0) 0 (p : Int)) [(16, 143, [(4, 65)]), (15, 0, [(1, 1), (0, 59), (0, 4)]), (4, 65, [(0, 43)]), (0, 0, [(1, 2), (0, 1)]), (10, 65, [(0, 43), (1, 3)]), (19, 0, [(0, 0)]), (16, 149, [(4, 65), (1, 0)]), (15, 5, [(1, 2), (0, 0), (0, 1)]), (17, 78, [(4, 65), (1, 0)]), (19, 0, [(1, 2)])] (by decide +kernel) rfl rfl (by decide) (fun i' dl as M' hi _ h => ?_) ?_
  · obtain ⟨rfl, rfl, c1, c2, g1, g2, g3, g4, g5⟩ := h
    obtain rfl : [0, 1] = dl := Option.some.inj hi
    obtain ⟨m, hm, er⟩ := rls_go (row := row) hn hx c1 c2
    have gt := rFt_gt bs.2 c2
    rw [er]
    exact ih m (by omega) _ _ M' (by omega) gt.2 g1 g2 g3 g4 g5
  refine d_ca ⟨10, by decide, (e143 (X := X) (t := t) (L := L) (a := x) (M := M) hL ht hl h3).mono fun v1 M1 q _ _ _ => ?_⟩
  obtain ⟨c, ec⟩ : ∃ c : Int, (if skB t L x < L then t (skB t L x) else -1) = c := ⟨_, rfl⟩
  rw [ec] at q
  rw [q.1, q.2, rbv143]
  have ok1 : okTT (up M 65 43 ((skB t L x : Nat) : Int)) := okTT_up hT (show (0 : Int) ≤ ((skB t L x : Nat) : Int) ∧ ((skB t L x : Nat) : Int) ≤ 240 by omega)
  have fr1 : FrM sp149_0.2.2.2.1 Mb (up M 65 43 ((skB t L x : Nat) : Int)) := FrM_up hF (by decide)
  by_cases hc : skB t L x < L ∧ t (skB t L x) = 59
  · have e59 : c = 59 := by rw [← ec, if_pos hc.1]; exact hc.2
    refine d_br (fun _ => ?_) fun (h : ¬ (c = 59)) => absurd e59 h
    have rs := rls_semi (row := row) hn hx hc
    have e3 : (((skB t L x : Nat) : Int) + 1 : Int) = ((skB t L x + 1 : Nat) : Int) := by omega
    refine d_ldw (v := ((skB t L x : Nat) : Int)) rfl (d_ibw (w := ((skB t L x : Nat) : Int) + 1) (ib0 (x := ((skB t L x : Nat) : Int)) (y := 1) (by unfold in32; omega)) (d_st (d_r1 ?_)))
    rw [rs]
    exact ⟨okTT_up ok1 (show (0 : Int) ≤ ((skB t L x : Nat) : Int) + 1 ∧ ((skB t L x : Nat) : Int) + 1 ≤ 240 by omega), FrM_up fr1 (by decide), rfl, Or.inr ⟨rfl, e3, h5, h79⟩⟩
  · have e59 : c ≠ 59 := by
      rw [← ec]
      split
      next g => exact fun k => hc ⟨g, k⟩
      next => decide
    refine d_br (fun (h : c = 59) => absurd h e59) fun _ => ?_
    refine d_ca ⟨40, by decide, (e149 (X := X) (t := t) (L := L) (a0 := skB t L x) (a := skB t L x) (M0 := up M 65 43 ((skB t L x : Nat) : Int)) (p := (p : Int)) (by omega) ok1 hL ht hl rfl bs.2 (skB_sk hx hL).symm).mono fun v2 M2 q2 _ _ _ => ?_⟩
    obtain ⟨g1, g2, e2, q2⟩ := q2
    have fr2 : FrM sp149_0.2.2.2.1 Mb M2 := FrM_sub fr1 (by decide) g2
    have bf := rFt_b (t := t) (L := L) (a := skB t L x)
    rw [e2, rbv149]
    rcases q2 with ⟨f, r5⟩ | ⟨f, r3, r5, r79⟩
    · have rf := rls_fault (row := row) hn hx hc f
      exact d_br (fun (h : rFt t L (skB t L x) ≤ 0) => absurd h (by omega)) fun _ => d_r1 ⟨g1, fr2, by rw [rf.1]; rfl, Or.inl ⟨by rw [rf.1]; exact f, by rw [rf.2]; exact r5⟩⟩
    · refine d_br (fun _ => ?_) fun (h : ¬ (rFt t L (skB t L x) ≤ 0)) => absurd (show rFt t L (skB t L x) ≤ 0 by omega) h
      refine d_ct ⟨rfl, rfl, hc, f, g1, fr2, r3, r5.trans h5, fun j => ?_⟩
      rw [r79 j]
      show (if (j : Int) = 20 * (p : Int) + slM (rR t L (skB t L x)) (rKy t L (skB t L x)) then nV t L (rA t L (skB t L x)) else M 79 j) = _
      rw [h79 j]
      exact rwM_rw f
theorem l64 {X : Xs} {t : Nat → Int} {L p x : Nat} {Mb : Mm} (hL : L ≤ 240) (ht0 : ∀ k : Nat, Mb 75 k = t k) (hl0 : Mb 65 14 = L) (hp : p ≤ 7) (hx : x ≤ L) : ∀ (m k : Nat) (M : Mm), k + m = 20 → okTT M → FrM sp149_0.2.2.2.1 Mb M → M 65 43 = x → M 65 15 = Mb 65 15 → (∀ j : Nat, M 79 j = if 20 * p ≤ j ∧ j < 20 * p + k then -1 else Mb 79 j) → Wp X 50 150 64 ([0, 1, 3].zip [vR 0 65, vI (p : Int), vI (k : Int)]) [] M (fun v M' => okTT M' ∧ FrM sp149_0.2.2.2.1 Mb M' ∧ v = some (vI (rls t L 240 x (fun _ => -1)).f) ∧ (((rls t L 240 x (fun _ => -1)).f ≠ 0 ∧ M' 65 15 = (((rls t L 240 x (fun _ => -1)).pl : Nat) : Int)) ∨ ((rls t L 240 x (fun _ => -1)).f = 0 ∧ M' 65 43 = (((rls t L 240 x (fun _ => -1)).en : Nat) : Int) ∧ M' 65 15 = Mb 65 15 ∧ ∀ j : Nat, M' 79 j = rwM (fun j => Mb 79 j) p (rls t L 240 x (fun _ => -1)).row j))) := by
  intro m
  induction m with
  | zero =>
    intro k M hk hT hF h3 h5 h79
    refine Wp_seg (cut := (cutL [(64, [0, 1, 3]), (78, [0, 1])])) (CT := fun i' as M' => i' = 78 ∧ as = [vR 0 65, vI (p : Int)] ∧ M' = M) 2 60 [(4, 65), (1, 0), (1, 1)] (us (us (fun _ => 0) 0 (p : Int)) 1 (k : Int)) [(15, 3, [(1, 1), (0, 20), (0, 1)]), (17, 78, [(4, 65), (1, 0)]), (0, 2, [(0, 20), (1, 0)]), (0, 0, [(1, 2), (1, 1)]), (11, 79, [(1, 3), (0, -1)]), (0, 0, [(1, 1), (0, 1)]), (17, 64, [(4, 65), (1, 0), (1, 4)])] (by decide +kernel) rfl rfl (by decide) (fun i' dl as M' hi _ h => ?_) ?_
    · obtain ⟨rfl, rfl, rfl⟩ := h
      obtain rfl : [0, 1] = dl := Option.some.inj hi
      refine l78 (B := fun j => Mb 79 j) hL ht0 hl0 hp 240 x (fun _ => -1) M' (by omega) hx hT hF h3 h5 (fun j => ?_)
      rw [h79 j]
      unfold rwM
      obtain rfl : k = 20 := by omega
      rfl
    · exact d_br (fun _ => d_ct ⟨rfl, rfl, rfl⟩) fun (h : ¬ ((20 : Int) ≤ (k : Int))) => absurd (show (20 : Int) ≤ (k : Int) by omega) h
  | succ m ih =>
    intro k M hk hT hF h3 h5 h79
    refine Wp_seg (cut := (cutL [(64, [0, 1, 3]), (78, [0, 1])])) (CT := fun i' as M' => i' = 64 ∧ as = [vR 0 65, vI (p : Int), vI ((k : Int) + 1)] ∧ okTT M' ∧ FrM sp149_0.2.2.2.1 Mb M' ∧ M' 65 43 = x ∧ M' 65 15 = Mb 65 15 ∧ ∀ j : Nat, M' 79 j = if j = 20 * p + k then -1 else M 79 j) 2 60 [(4, 65), (1, 0), (1, 1)] (us (us (fun _ => 0) 0 (p : Int)) 1 (k : Int)) [(15, 3, [(1, 1), (0, 20), (0, 1)]), (17, 78, [(4, 65), (1, 0)]), (0, 2, [(0, 20), (1, 0)]), (0, 0, [(1, 2), (1, 1)]), (11, 79, [(1, 3), (0, -1)]), (0, 0, [(1, 1), (0, 1)]), (17, 64, [(4, 65), (1, 0), (1, 4)])] (by decide +kernel) rfl rfl (by decide) (fun i' dl as M' hi _ h => ?_) ?_
    · obtain ⟨rfl, rfl, g1, g2, g3, g4, g5⟩ := h
      obtain rfl : [0, 1, 3] = dl := Option.some.inj hi
      refine ih (k + 1) M' (by omega) g1 g2 g3 g4 (fun j => ?_)
      rw [g5 j]
      by_cases e : j = 20 * p + k
      · rw [if_pos e, if_pos (by omega)]
      · rw [if_neg e, h79 j]
        by_cases e2 : 20 * p ≤ j ∧ j < 20 * p + k
        · rw [if_pos e2, if_pos (by omega)]
        · rw [if_neg e2, if_neg (by omega)]
    · refine d_br (fun (h : (20 : Int) ≤ (k : Int)) => absurd h (by omega)) fun _ => ?_
      refine d_ibw (w := 20 * (p : Int)) (ib2 (x := 20) (y := (p : Int)) (by unfold in32; omega)) (d_ibw (w := 20 * (p : Int) + (k : Int)) (ib0 (x := 20 * (p : Int)) (y := (k : Int)) (by unfold in32; omega)) (d_sa (show 0 ≤ 20 * (p : Int) + (k : Int) ∧ 20 * (p : Int) + (k : Int) < ((160 : Nat) : Int) by omega) (d_ibw (w := (k : Int) + 1) (ib0 (x := (k : Int)) (y := 1) (by unfold in32; omega)) (d_ct ⟨rfl, rfl, okTT_ua (i := (-2147483648, 2147483647)) hT rfl (show (-2147483648 : Int) ≤ -1 ∧ (-1 : Int) ≤ 2147483647 by decide), FrM_up hF (wOf_a (by decide)), h3, h5, fun j => ?_⟩))))
      show up M 79 (20 * (p : Int) + (k : Int)).toNat (-1) 79 j = _
      rw [up_eq, show (20 * (p : Int) + (k : Int)).toNat = 20 * p + k by omega]
set_option maxHeartbeats 4000000 in
theorem e150 {X : Xs} {t : Nat → Int} {L p x a : Nat} {M : Mm} (hT : okTT M) (hL : L ≤ 240) (ht : ∀ k : Nat, M 75 k = t k) (hl : M 65 14 = L) (h3 : M 65 43 = x) (hx : x ≤ L) (haa : a = skB t L x) (hp : p ≤ 8) : Wp X 50 150 0 (eL 0 [vR 0 65, vI (p : Int)]) [] M (fun v M' => okTT M' ∧ FrM sp150_0.2.2.2.1 M M' ∧ v = some (vI (ptF t L a p (M 78 (p - 1)))) ∧ ((ptF t L a p (M 78 (p - 1)) ≠ 0 ∧ M' 65 15 = ((ptP t L a p (M 78 (p - 1)) : Nat) : Int)) ∨ (ptF t L a p (M 78 (p - 1)) = 0 ∧ M' 65 43 = (((ptR t L a).en : Nat) : Int) ∧ M' 65 15 = M 65 15 ∧ (∀ j : Nat, M' 78 j = if j = p then nV t L (wdE t L a) else M 78 j) ∧ ∀ j : Nat, M' 79 j = rwM (fun j => M 79 j) p (ptR t L a).row j))) := by
  have haL : a ≤ L := by rw [haa]; exact (skB_b hx).2
  have bg := wdE_b (t := t) haL
  have bs := skB_b (t := t) bg.2
  have hin : ∀ k : Nat, a ≤ k → k < wdE t L a → 97 ≤ t k ∧ t k ≤ 122 := fun k h1 h2 => (goF_in 240 a k h1 h2).2
  have bw := wvF_b (t := t) (b := a) (wdE t L a - a) (fun i hi => hin (a + i) (by omega) (by omega))
  refine Wp_ent (cut := (cutL [(64, [0, 1, 3]), (78, [0, 1])])) (CT := fun i' as M' => i' = 64 ∧ as = [vR 0 65, vI (p : Int), vI 0] ∧ p ≤ 7 ∧ hdF t L a p (M 78 (p - 1)) = 0 ∧ okTT M' ∧ FrM sp150_0.2.2.2.1 M M' ∧ M' 65 43 = ((nG t L (wdE t L a) : Nat) : Int) ∧ M' 65 15 = M 65 15 ∧ (∀ j : Nat, M' 78 j = if j = p then nV t L (wdE t L a) else M 78 j) ∧ ∀ j : Nat, M' 79 j = M 79 j) 1 60 [(4, 65), (1, 0)] (us (fun _ => 0) 0 (p : Int)) [(16, 145, [(4, 65)]), (4, 65, [(0, 44)]), (16, 146, [(0, 102), (0, 114), (0, 111), (0, 109), (0, 0)]), (15, 0, [(3, 1), (3, 2), (0, 23)]), (15, 1, [(1, 0), (0, 8), (0, 19)]), (4, 65, [(0, 45)]), (10, 65, [(0, 43), (1, 3)]), (16, 148, [(4, 65), (0, 9999)]), (15, 5, [(1, 4), (0, 0), (0, 14)]), (15, 5, [(1, 0), (0, 0), (0, 3)]), (4, 65, [(0, 47)]), (11, 78, [(1, 0), (1, 5)]), (17, 64, [(4, 65), (1, 0), (0, 0)]), (4, 65, [(0, 47)]), (0, 1, [(1, 0), (0, 1)]), (5, 78, [(1, 6)]), (15, 4, [(1, 5), (1, 7), (0, 3)]), (4, 65, [(0, 47)]), (11, 78, [(1, 0), (1, 8)]), (17, 64, [(4, 65), (1, 0), (0, 0)]), (4, 65, [(0, 46)]), (10, 65, [(0, 15), (1, 8)]), (19, 0, [(0, 3)]), (19, 0, [(1, 4)]), (4, 65, [(0, 43)]), (10, 65, [(0, 15), (1, 3)]), (19, 0, [(0, 4)]), (4, 65, [(0, 43)]), (10, 65, [(0, 15), (1, 3)]), (19, 0, [(0, 1)])] (by decide +kernel) rfl rfl (by decide) (fun i' dl as M' hi _ h => ?_) ?_
  · obtain ⟨rfl, rfl, p7, f0, g1, g2, g3, g4, g5, g6⟩ := h
    obtain rfl : [0, 1, 3] = dl := Option.some.inj hi
    have ht2 : ∀ k : Nat, M' 75 k = t k := fun k => (g2 75 k (wOf_no rfl k)).trans (ht k)
    have hl2 : M' 65 14 = L := (g2 65 14 (by decide)).trans hl
    have bn := nG_b (t := t) bg.2
    have F := ptF_r f0
    refine (l64 (X := X) (t := t) (L := L) (p := p) (x := nG t L (wdE t L a)) (Mb := M') hL ht2 hl2 p7 bn.2.1 20 0 M' rfl g1 frm0 g3 rfl (fun j => by rw [if_neg (by omega)])).mono fun v M3 q => ?_
    obtain ⟨q1, q2, q3, q4⟩ := q
    refine ⟨q1, FrM_sub g2 (by decide) q2, by rw [F.1]; exact q3, ?_⟩
    rw [F.1, F.2]
    rcases q4 with ⟨f, r5⟩ | ⟨f, r3, r5, r79⟩
    · exact Or.inl ⟨f, r5⟩
    · refine Or.inr ⟨f, r3, r5.trans g4, fun j => (q2 78 j (wOf_no rfl j)).trans (g5 j), fun j => (r79 j).trans ?_⟩
      show rwM (fun j => M' 79 j) p _ j = rwM (fun j => M 79 j) p _ j
      rw [show (fun j => M' 79 j) = (fun j => M 79 j) from funext g6]
      rfl
  have e1 := e145 (X := X) (t := t) (L := L) (a := x) (M := M) hT hL ht hl h3 hx
  rw [← haa] at e1
  refine d_ca ⟨20, by decide, e1.mono fun v1 M1 q _ _ _ => ?_⟩
  rw [q, rbv145]
  have ok1 : okTT (up (up (up M 65 43 (a : Int)) 65 44 (wvF t a (wdE t L a - a))) 65 45 ((wdE t L a : Nat) : Int)) := okTT_up (okTT_up (okTT_up hT (show (0 : Int) ≤ (a : Int) ∧ (a : Int) ≤ 240 by omega)) (show (-9223372036854775808 : Int) ≤ wvF t a (wdE t L a - a) ∧ wvF t a (wdE t L a - a) ≤ 9223372036854775807 by omega)) (show (0 : Int) ≤ ((wdE t L a : Nat) : Int) ∧ ((wdE t L a : Nat) : Int) ≤ 240 by omega)
  have fr1 : FrM sp150_0.2.2.2.1 M (up (up (up M 65 43 (a : Int)) 65 44 (wvF t a (wdE t L a - a))) 65 45 ((wdE t L a : Nat) : Int)) := FrM_up (FrM_up (FrM_up frm0 (by decide)) (by decide)) (by decide)
  refine d_ldw (v := wvF t a (wdE t L a - a)) rfl ?_
  refine d_cx (d := 10) (z := 131638) (by decide) rbv146 rfl e146_0 ?_
  by_cases hF : isF t L a
  · refine d_br (fun _ => ?_) fun (h : ¬ (wvF t a (wdE t L a - a) = 131638)) => absurd hF h
    by_cases p8 : p = 8
    · refine d_br (fun (h : (p : Int) ≠ 8) => absurd (show (p : Int) = 8 by omega) h) fun _ => ?_
      have f4 := hdF_4 (prev := M 78 (p - 1)) hF (show 8 ≤ p by omega)
      have F := ptF_h (show hdF t L a p (M 78 (p - 1)) ≠ 0 by rw [f4.1]; decide)
      exact d_ldw (v := (a : Int)) rfl (d_st (d_r1 ⟨okTT_up ok1 (show (-2147483648 : Int) ≤ (a : Int) ∧ (a : Int) ≤ 2147483647 by omega), FrM_up fr1 (by decide), by rw [F.1, f4.1]; rfl, Or.inl ⟨by rw [F.1, f4.1]; decide, by rw [F.2, f4.2]; rfl⟩⟩))
    · refine d_br (fun _ => ?_) fun (h : ¬ ((p : Int) ≠ 8)) => absurd (show (p : Int) ≠ 8 by omega) h
      have h8 : ¬ 8 ≤ p := by omega
      refine d_ldw (v := ((wdE t L a : Nat) : Int)) rfl (d_st ?_)
      have ok2 : okTT (up (up (up (up M 65 43 (a : Int)) 65 44 (wvF t a (wdE t L a - a))) 65 45 ((wdE t L a : Nat) : Int)) 65 43 ((wdE t L a : Nat) : Int)) := okTT_up ok1 (show (0 : Int) ≤ ((wdE t L a : Nat) : Int) ∧ ((wdE t L a : Nat) : Int) ≤ 240 by omega)
      have fr2 : FrM sp150_0.2.2.2.1 M (up (up (up (up M 65 43 (a : Int)) 65 44 (wvF t a (wdE t L a - a))) 65 45 ((wdE t L a : Nat) : Int)) 65 43 ((wdE t L a : Nat) : Int)) := FrM_up fr1 (by decide)
      refine d_ca ⟨20, by decide, (e148 (X := X) (t := t) (L := L) (a := wdE t L a) (M := (up (up (up (up M 65 43 (a : Int)) 65 44 (wvF t a (wdE t L a - a))) 65 45 ((wdE t L a : Nat) : Int)) 65 43 ((wdE t L a : Nat) : Int))) (lim := 9999) hL ht hl rfl bg.2).mono fun v4 M4 q4 _ _ _ => ?_⟩
      have okM4 := q148_ok ok2 hL bg.2 q4
      obtain ⟨e6, q5, f5⟩ := q148_f q4
      have fr4 : FrM sp150_0.2.2.2.1 M M4 := FrM_sub fr2 (by decide) f5
      have f4 : FrM [(65, 16), (65, 44), (65, 45), (65, 46), (65, 47), (65, 48)] M M4 := FrM_sub (FrM_up (FrM_up (FrM_up (FrM_up frm0 (by decide)) (by decide)) (by decide)) (by decide)) (by decide) f5
      have bn := nf_b (t := t) (L := L) (lim := 9999) (a := wdE t L a)
      have bv := nV_b (t := t) (L := L) (a := wdE t L a)
      rw [e6, rbv148]
      rcases q5 with ⟨n1, r15⟩ | ⟨n1, r43, r46, r47, r15⟩
      · have fn := hdF_n (prev := M 78 (p - 1)) hF h8 n1
        have F := ptF_h (show hdF t L a p (M 78 (p - 1)) ≠ 0 by rw [fn.1]; exact n1)
        exact d_br (fun (h : nf t L 9999 (wdE t L a) ≤ 0) => absurd h (by omega)) fun _ => d_r1 ⟨okM4, fr4, by rw [F.1, fn.1]; rfl, Or.inl ⟨by rw [F.1, fn.1]; exact n1, by rw [F.2, fn.2]; exact r15⟩⟩
      · refine d_br (fun _ => ?_) fun (h : ¬ (nf t L 9999 (wdE t L a) ≤ 0)) => absurd (show nf t L 9999 (wdE t L a) ≤ 0 by omega) h
        by_cases p0 : p = 0
        · refine d_br (fun _ => ?_) fun (h : ¬ ((p : Int) ≤ 0)) => absurd (show (p : Int) ≤ 0 by omega) h
          have f0 := hdF_0 (prev := M 78 (p - 1)) hF h8 n1 (fun k => absurd k.1 (by omega))
          exact d_ldw (v := nV t L (wdE t L a)) r47 (d_sa (show 0 ≤ (p : Int) ∧ (p : Int) < ((8 : Nat) : Int) by omega) (d_ct ⟨rfl, rfl, by omega, f0, okTT_ua (i := (-2147483648, 2147483647)) okM4 rfl (show (-2147483648 : Int) ≤ nV t L (wdE t L a) ∧ nV t L (wdE t L a) ≤ 2147483647 by omega), FrM_up fr4 (wOf_a (by decide)), r43, r15, fun j => by
            show up M4 78 (p : Int).toNat (nV t L (wdE t L a)) 78 j = _
            rw [up_eq, show (p : Int).toNat = p by omega, f4 78 j (wOf_no rfl j)], fun j => f4 79 j (wOf_no rfl j)⟩))
        · refine d_br (fun (h : (p : Int) ≤ 0) => absurd h (by omega)) fun _ => ?_
          refine d_ldw (v := nV t L (wdE t L a)) r47 (d_ibw (w := (p : Int) - 1) (ib1 (x := (p : Int)) (y := 1) (by unfold in32; omega)) (d_law2 (v := M 78 (p - 1)) (show 0 ≤ (p : Int) - 1 ∧ (p : Int) - 1 < ((8 : Nat) : Int) by omega) (show M4 78 ((p : Int) - 1).toNat = M 78 (p - 1) by rw [show ((p : Int) - 1).toNat = p - 1 by omega]; exact f4 78 (p - 1) (wOf_no rfl _)) ?_))
          by_cases c3 : nV t L (wdE t L a) ≤ M 78 (p - 1)
          · refine d_br (fun (h : M 78 (p - 1) < nV t L (wdE t L a)) => absurd h (by omega)) fun _ => ?_
            have f3 := hdF_3 (prev := M 78 (p - 1)) hF h8 n1 ⟨by omega, c3⟩
            have F := ptF_h (show hdF t L a p (M 78 (p - 1)) ≠ 0 by rw [f3.1]; decide)
            exact d_ldw (v := ((skB t L (wdE t L a) : Nat) : Int)) r46 (d_st (d_r1 ⟨okTT_up okM4 (show (-2147483648 : Int) ≤ ((skB t L (wdE t L a) : Nat) : Int) ∧ ((skB t L (wdE t L a) : Nat) : Int) ≤ 2147483647 by omega), FrM_up fr4 (by decide), by rw [F.1, f3.1]; rfl, Or.inl ⟨by rw [F.1, f3.1]; decide, by rw [F.2, f3.2]; rfl⟩⟩))
          · refine d_br (fun _ => ?_) fun (h : ¬ (M 78 (p - 1) < nV t L (wdE t L a))) => absurd (show M 78 (p - 1) < nV t L (wdE t L a) by omega) h
            have f0 := hdF_0 (prev := M 78 (p - 1)) hF h8 n1 (fun k => c3 k.2)
            exact d_ldw (v := nV t L (wdE t L a)) r47 (d_sa (show 0 ≤ (p : Int) ∧ (p : Int) < ((8 : Nat) : Int) by omega) (d_ct ⟨rfl, rfl, by omega, f0, okTT_ua (i := (-2147483648, 2147483647)) okM4 rfl (show (-2147483648 : Int) ≤ nV t L (wdE t L a) ∧ nV t L (wdE t L a) ≤ 2147483647 by omega), FrM_up fr4 (wOf_a (by decide)), r43, r15, fun j => by
              show up M4 78 (p : Int).toNat (nV t L (wdE t L a)) 78 j = _
              rw [up_eq, show (p : Int).toNat = p by omega, f4 78 j (wOf_no rfl j)], fun j => f4 79 j (wOf_no rfl j)⟩))
  · refine d_br (fun (h : wvF t a (wdE t L a - a) = 131638) => absurd h hF) fun _ => ?_
    have f1 := hdF_1 (p := p) (prev := M 78 (p - 1)) hF
    have F := ptF_h (show hdF t L a p (M 78 (p - 1)) ≠ 0 by rw [f1.1]; decide)
    exact d_ldw (v := (a : Int)) rfl (d_st (d_r1 ⟨okTT_up ok1 (show (-2147483648 : Int) ≤ (a : Int) ∧ (a : Int) ≤ 2147483647 by omega), FrM_up fr1 (by decide), by rw [F.1, f1.1]; rfl, Or.inl ⟨by rw [F.1, f1.1]; decide, by rw [F.2, f1.2]; rfl⟩⟩))
theorem l55r {X : Xs} {n : Nat} {Mb : Mm} (hn : n ≤ 8) (h16 : Mb 65 16 = n) : ∀ (m k : Nat) (M : Mm), k + m = 160 → okTT M → FrM [(76, 0), (77, 0)] Mb M → (∀ q : Nat, q < n → M 76 q = Mb 78 q) → (∀ j : Nat, j < k → M 77 j = Mb 79 j) → Wp X 70 151 55 ([0, 3].zip [vR 0 65, vI (k : Int)]) [] M (fun v M' => okTT M' ∧ FrM [(76, 0), (77, 0)] Mb M' ∧ v = some (vI (n : Int)) ∧ (∀ q : Nat, q < n → M' 76 q = Mb 78 q) ∧ ∀ j : Nat, j < 160 → M' 77 j = Mb 79 j) := by
  intro m
  induction m with
  | zero =>
    intro k M hk hT hF h76 h77
    refine Wp_seg (cut := (cutL [(15, [0, 1]), (39, [0, 3]), (55, [0, 3])])) (CT := fun _ _ _ => False) 1 60 [(4, 65), (1, 0)] (us (fun _ => 0) 0 (k : Int)) [(15, 3, [(1, 0), (0, 160), (0, 2)]), (4, 65, [(0, 16)]), (19, 0, [(1, 1)]), (5, 79, [(1, 0)]), (11, 77, [(1, 0), (1, 1)]), (0, 0, [(1, 0), (0, 1)]), (17, 55, [(4, 65), (1, 2)])] (by decide +kernel) rfl rfl (by decide) (fun _ _ _ _ _ _ h => h.elim) ?_
    exact d_br (fun _ => d_ldw (v := (n : Int)) ((hF 65 16 (by decide)).trans h16) (d_r1 ⟨hT, hF, rfl, h76, fun j hj => h77 j (by omega)⟩)) fun (h : ¬ ((160 : Int) ≤ (k : Int))) => absurd (show (160 : Int) ≤ (k : Int) by omega) h
  | succ m ih =>
    intro k M hk hT hF h76 h77
    have b79 : -2147483648 ≤ M 79 k ∧ M 79 k ≤ 2147483647 := by
      have := hT 79 k
      rw [tiv_a (i := (-2147483648, 2147483647)) rfl] at this
      exact this
    refine Wp_seg (cut := (cutL [(15, [0, 1]), (39, [0, 3]), (55, [0, 3])])) (CT := fun i' as M' => i' = 55 ∧ as = [vR 0 65, vI ((k : Int) + 1)] ∧ M' = up M 77 (k : Int).toNat (M 79 k)) 1 60 [(4, 65), (1, 0)] (us (fun _ => 0) 0 (k : Int)) [(15, 3, [(1, 0), (0, 160), (0, 2)]), (4, 65, [(0, 16)]), (19, 0, [(1, 1)]), (5, 79, [(1, 0)]), (11, 77, [(1, 0), (1, 1)]), (0, 0, [(1, 0), (0, 1)]), (17, 55, [(4, 65), (1, 2)])] (by decide +kernel) rfl rfl (by decide) (fun i' dl as M' hi _ h => ?_) ?_
    · obtain ⟨rfl, rfl, rfl⟩ := h
      obtain rfl : [0, 3] = dl := Option.some.inj hi
      refine ih (k + 1) _ (by omega) (okTT_ua (i := (-2147483648, 2147483647)) hT rfl b79) (FrM_up hF (wOf_a (by decide))) h76 (fun j hj => ?_)
      rw [up_eq, show (k : Int).toNat = k by omega]
      by_cases e : j = k
      · rw [if_pos e, hF 79 k (wOf_no rfl k), e]
      · rw [if_neg e]
        exact h77 j (by omega)
    · exact d_br (fun (h : (160 : Int) ≤ (k : Int)) => absurd h (by omega)) fun _ => d_law2 (v := M 79 k) (show 0 ≤ (k : Int) ∧ (k : Int) < ((160 : Nat) : Int) by omega) rfl (d_sa (show 0 ≤ (k : Int) ∧ (k : Int) < ((160 : Nat) : Int) by omega) (d_ibw (w := (k : Int) + 1) (ib0 (x := (k : Int)) (y := 1) (by unfold in32; omega)) (d_ct ⟨rfl, rfl, rfl⟩)))
theorem l39r {X : Xs} {n : Nat} {Mb : Mm} (hn : n ≤ 8) (h16 : Mb 65 16 = n) : ∀ (m k : Nat) (M : Mm), k + m = n → okTT M → FrM [(76, 0), (77, 0)] Mb M → (∀ q : Nat, q < k → M 76 q = Mb 78 q) → Wp X 70 151 39 ([0, 3].zip [vR 0 65, vI (k : Int)]) [] M (fun v M' => okTT M' ∧ FrM [(76, 0), (77, 0)] Mb M' ∧ v = some (vI (n : Int)) ∧ (∀ q : Nat, q < n → M' 76 q = Mb 78 q) ∧ ∀ j : Nat, j < 160 → M' 77 j = Mb 79 j) := by
  intro m
  induction m with
  | zero =>
    intro k M hk hT hF h76
    refine Wp_seg (cut := (cutL [(15, [0, 1]), (39, [0, 3]), (55, [0, 3])])) (CT := fun i' as M' => i' = 55 ∧ as = [vR 0 65, vI 0] ∧ M' = M) 1 60 [(4, 65), (1, 0)] (us (fun _ => 0) 0 (k : Int)) [(4, 65, [(0, 16)]), (15, 3, [(1, 0), (1, 1), (0, 1)]), (17, 55, [(4, 65), (0, 0)]), (5, 78, [(1, 0)]), (11, 76, [(1, 0), (1, 2)]), (0, 0, [(1, 0), (0, 1)]), (17, 39, [(4, 65), (1, 3)])] (by decide +kernel) rfl rfl (by decide) (fun i' dl as M' hi _ h => ?_) ?_
    · obtain ⟨rfl, rfl, rfl⟩ := h
      obtain rfl : [0, 3] = dl := Option.some.inj hi
      exact l55r hn h16 160 0 M' rfl hT hF (fun q hq => h76 q (by omega)) (fun j hj => absurd hj (Nat.not_lt_zero j))
    · exact d_ldw (v := (n : Int)) ((hF 65 16 (by decide)).trans h16) (d_br (fun _ => d_ct ⟨rfl, rfl, rfl⟩) fun (h : ¬ ((n : Int) ≤ (k : Int))) => absurd (show (n : Int) ≤ (k : Int) by omega) h)
  | succ m ih =>
    intro k M hk hT hF h76
    have b78 : -2147483648 ≤ M 78 k ∧ M 78 k ≤ 2147483647 := by
      have := hT 78 k
      rw [tiv_a (i := (-2147483648, 2147483647)) rfl] at this
      exact this
    refine Wp_seg (cut := (cutL [(15, [0, 1]), (39, [0, 3]), (55, [0, 3])])) (CT := fun i' as M' => i' = 39 ∧ as = [vR 0 65, vI ((k : Int) + 1)] ∧ M' = up M 76 (k : Int).toNat (M 78 k)) 1 60 [(4, 65), (1, 0)] (us (fun _ => 0) 0 (k : Int)) [(4, 65, [(0, 16)]), (15, 3, [(1, 0), (1, 1), (0, 1)]), (17, 55, [(4, 65), (0, 0)]), (5, 78, [(1, 0)]), (11, 76, [(1, 0), (1, 2)]), (0, 0, [(1, 0), (0, 1)]), (17, 39, [(4, 65), (1, 3)])] (by decide +kernel) rfl rfl (by decide) (fun i' dl as M' hi _ h => ?_) ?_
    · obtain ⟨rfl, rfl, rfl⟩ := h
      obtain rfl : [0, 3] = dl := Option.some.inj hi
      refine ih (k + 1) _ (by omega) (okTT_ua (i := (-2147483648, 2147483647)) hT rfl b78) (FrM_up hF (wOf_a (by decide))) (fun j hj => ?_)
      rw [up_eq, show (k : Int).toNat = k by omega]
      by_cases e : j = k
      · rw [if_pos e, hF 78 k (wOf_no rfl k), e]
      · rw [if_neg e]
        exact h76 j (by omega)
    · exact d_ldw (v := (n : Int)) ((hF 65 16 (by decide)).trans h16) (d_br (fun (h : (n : Int) ≤ (k : Int)) => absurd h (by omega)) fun _ => d_law2 (v := M 78 k) (show 0 ≤ (k : Int) ∧ (k : Int) < ((8 : Nat) : Int) by omega) rfl (d_sa (show 0 ≤ (k : Int) ∧ (k : Int) < ((8 : Nat) : Int) by omega) (d_ibw (w := (k : Int) + 1) (ib0 (x := (k : Int)) (y := 1) (by unfold in32; omega)) (d_ct ⟨rfl, rfl, rfl⟩))))
def IV15 (t : Nat → Int) (L : Nat) (M0 : Mm) (i : Nat) (M : Mm) : Prop := okTT M ∧ FrM sp150_0.2.2.2.1 M0 M ∧ (∃ x : Nat, M 65 43 = x ∧ x ≤ L ∧ skB t L x = skB t L (psN t L i)) ∧ M 65 15 = -1 ∧ OutH t L i ∧ (i = 0 ∨ skB t L (psN t L i) < L) ∧ (∀ q : Nat, q < i → M 78 q = dyN t L q) ∧ ∀ q : Nat, q < i → ∀ s : Nat, s < 20 → M 79 (20 * q + s) = rwR t L q s
set_option maxHeartbeats 4000000 in
theorem l15 {X : Xs} {t : Nat → Int} {L : Nat} {M0 : Mm} (hL : L ≤ 240) (ht0 : ∀ k : Nat, M0 75 k = t k) (hl0 : M0 65 14 = L) : ∀ (m i : Nat) (M : Mm), i + m = 9 → IV15 t L M0 i M → Wp X 70 151 15 ([0, 1].zip [vR 0 65, vI (i : Int)]) [] M (fun v M' => okTT M' ∧ FrM sp151_0.2.2.2.1 M0 M' ∧ M' 65 14 = 0 ∧ ∃ n : Nat, n ≤ 8 ∧ OutH t L n ∧ ((OutG t L n ∧ v = some (vI (n : Int)) ∧ M' 65 15 = -1 ∧ M' 65 16 = n ∧ (∀ q : Nat, q < n → M' 76 q = dyN t L q) ∧ ∀ q : Nat, q < n → ∀ s : Nat, s < 20 → M' 77 (20 * q + s) = rwR t L q s) ∨ (OutB t L n ∧ v = some (vI (-10 - pfN t L n)) ∧ M' 65 15 = ((ppN t L n : Nat) : Int) ∧ M' 65 16 = M0 65 16 ∧ (∀ j : Nat, M' 76 j = M0 76 j) ∧ ∀ j : Nat, M' 77 j = M0 77 j))) := by
  intro m
  induction m with
  | zero =>
    intro i M hm hI
    have := OutH_le hI.2.2.2.2.1
    exact absurd hm (by omega)
  | succ m ih =>
  intro i M hm hI
  obtain ⟨hT, hF, ⟨x, h3, hx, hs⟩, h5, hO, hc, h78, h79⟩ := hI
  have i8 := OutH_le hO
  have ht : ∀ k : Nat, M 75 k = t k := fun k => (hF 75 k (wOf_no rfl k)).trans (ht0 k)
  have hl : M 65 14 = L := (hF 65 14 (by decide)).trans hl0
  refine Wp_seg (cut := (cutL [(15, [0, 1]), (39, [0, 3]), (55, [0, 3])])) (CT := fun i' as M' => (i' = 15 ∧ as = [vR 0 65, vI ((i : Int) + 1)] ∧ IV15 t L M0 (i + 1) M') ∨ (i' = 39 ∧ as = [vR 0 65, vI 0] ∧ okTT M' ∧ FrM sp151_0.2.2.2.1 M0 M' ∧ OutH t L (i + 1) ∧ OutG t L (i + 1) ∧ M' 65 14 = 0 ∧ M' 65 15 = -1 ∧ M' 65 16 = ((i + 1 : Nat) : Int) ∧ (∀ q : Nat, q < i + 1 → M' 78 q = dyN t L q) ∧ ∀ q : Nat, q < i + 1 → ∀ s : Nat, s < 20 → M' 79 (20 * q + s) = rwR t L q s)) 1 60 [(4, 65), (1, 0)] (us (fun _ => 0) 0 (i : Int)) [(16, 150, [(4, 65), (1, 0)]), (0, 0, [(1, 0), (0, 1)]), (15, 1, [(1, 1), (0, 0), (0, 6)]), (10, 65, [(0, 14), (0, 0)]), (15, 5, [(1, 1), (0, 0), (0, 2)]), (10, 65, [(0, 16), (1, 2)]), (17, 39, [(4, 65), (0, 0)]), (0, 1, [(0, -10), (1, 1)]), (19, 0, [(1, 3)]), (16, 143, [(4, 65)]), (15, 3, [(1, 3), (0, 0), (0, 1)]), (17, 15, [(4, 65), (1, 2)]), (10, 65, [(0, 14), (0, 0)]), (15, 5, [(1, 1), (0, 0), (0, 2)]), (10, 65, [(0, 16), (1, 2)]), (17, 39, [(4, 65), (0, 0)]), (0, 1, [(0, -10), (1, 1)]), (19, 0, [(1, 4)])] (by decide +kernel) rfl rfl (by decide) (fun i' dl as M' hi _ h => ?_) ?_
  · rcases h with ⟨rfl, rfl, g⟩ | ⟨rfl, rfl, g1, g2, gO, gG, g14, g15, g16, g78, g79⟩
    · obtain rfl : [0, 1] = dl := Option.some.inj hi
      exact ih (i + 1) M' (by omega) g
    · obtain rfl : [0, 3] = dl := Option.some.inj hi
      have n8 := OutH_le gO
      refine (l39r (X := X) (n := i + 1) (Mb := M') n8 g16 (i + 1) 0 M' (by omega) g1 frm0 (fun q hq => absurd hq (Nat.not_lt_zero q))).mono fun v M3 q => ?_
      obtain ⟨q1, q2, q3, q4, q5⟩ := q
      exact ⟨q1, FrM_sub g2 (by decide) q2, (q2 65 14 (by decide)).trans g14, i + 1, n8, gO, Or.inl ⟨gG, q3, (q2 65 15 (by decide)).trans g15, (q2 65 16 (by decide)).trans g16, fun q hq => (q4 q hq).trans (g78 q hq), fun q hq s hs => (q5 (20 * q + s) (by omega)).trans (g79 q hq s hs)⟩⟩
  refine d_ca ⟨50, by decide, (e150 (X := X) (t := t) (L := L) (p := i) (x := x) (a := skB t L (psN t L i)) (M := M) hT hL ht hl h3 hx hs.symm i8).mono fun v1 M1 q _ _ _ => ?_⟩
  obtain ⟨q1, q2, q3, q4⟩ := q
  have ep := ptF_prev (t := t) (L := L) (a := skB t L (psN t L i)) (p := i) (prev := M 78 (i - 1)) (prev' := pvN t L i) (by
    match i, h78 with
    | 0, _ => exact Or.inl rfl
    | q + 1, h78 => exact Or.inr (h78 q (Nat.lt_succ_self q)))
  have ef : ptF t L (skB t L (psN t L i)) i (M 78 (i - 1)) = pfN t L i := ep.1
  have eg : ptP t L (skB t L (psN t L i)) i (M 78 (i - 1)) = ppN t L i := ep.2
  rw [ef] at q3 q4
  rw [eg] at q4
  have b := pfN_b (t := t) (L := L) (p := i)
  have fr1 : FrM sp150_0.2.2.2.1 M0 M1 := FrM_sub hF (by decide) q2
  have fr1' : FrM sp151_0.2.2.2.1 M0 M1 := FrM_sub frm0 (by decide) fr1
  rw [q3, rbv150]
  refine d_ibw (w := (i : Int) + 1) (ib0 (x := (i : Int)) (y := 1) (by unfold in32; omega)) ?_
  rcases q4 with ⟨f, r5⟩ | ⟨f, r3, r5, r78, r79⟩
  · refine d_br (fun _ => ?_) fun (h : ¬ (pfN t L i ≠ 0)) => absurd f h
    refine d_st (d_br (fun (h : pfN t L i ≤ 0) => absurd h (by omega)) fun _ => ?_)
    refine d_ibw (w := -10 - pfN t L i) (ib1 (x := -10) (y := pfN t L i) (by unfold in32; omega)) (d_r1 ?_)
    exact ⟨okTT_up q1 (show (0 : Int) ≤ 0 ∧ (0 : Int) ≤ 240 by decide), FrM_up fr1' (by decide), rfl, i, i8, hO, Or.inr ⟨⟨hc, f⟩, rfl, r5, fr1 65 16 (by decide), fun j => fr1 76 j (wOf_no rfl j), fun j => fr1 77 j (wOf_no rfl j)⟩⟩
  · refine d_br (fun (h : pfN t L i ≠ 0) => absurd f h) fun _ => ?_
    have hO1 : OutH t L (i + 1) := ⟨fun q hq => by
      by_cases e : q = i
      · rw [e]; exact f
      · exact hO.1 q (by omega), fun q h1 h2 => by
      by_cases e : q = i
      · rw [e]
        rcases hc with h0 | h0
        · omega
        · exact h0
      · exact hO.2 q h1 (by omega)⟩
    have bp := psN_le (i + 1) hO1.1
    have bs := skB_b (t := t) bp
    have r3 : M1 65 43 = ((psN t L (i + 1) : Nat) : Int) := r3
    have g78 : ∀ q : Nat, q < i + 1 → M1 78 q = dyN t L q := fun q hq => by
      rw [r78 q]
      by_cases e : q = i
      · rw [if_pos e, e]; rfl
      · rw [if_neg e]
        exact h78 q (by omega)
    have g79 : ∀ q : Nat, q < i + 1 → ∀ s : Nat, s < 20 → M1 79 (20 * q + s) = rwR t L q s := fun q hq s hs => by
      rw [r79 (20 * q + s)]
      unfold rwM
      by_cases e : q = i
      · rw [if_pos (by omega), e, show 20 * i + s - 20 * i = s by omega]; rfl
      · rw [if_neg (by omega)]
        exact h79 q (by omega) s hs
    have ht1 : ∀ k : Nat, M1 75 k = t k := fun k => (fr1 75 k (wOf_no rfl k)).trans (ht0 k)
    have hl1 : M1 65 14 = L := (fr1 65 14 (by decide)).trans hl0
    refine d_ca ⟨10, by decide, (e143 (X := X) (t := t) (L := L) (a := psN t L (i + 1)) (M := M1) hL ht1 hl1 r3).mono fun v2 M2 q2 _ _ _ => ?_⟩
    obtain ⟨c, ec⟩ : ∃ c : Int, (if skB t L (psN t L (i + 1)) < L then t (skB t L (psN t L (i + 1))) else -1) = c := ⟨_, rfl⟩
    rw [ec] at q2
    rw [q2.1, q2.2, rbv143]
    have ok2 : okTT (up M1 65 43 ((skB t L (psN t L (i + 1)) : Nat) : Int)) := okTT_up q1 (show (0 : Int) ≤ ((skB t L (psN t L (i + 1)) : Nat) : Int) ∧ ((skB t L (psN t L (i + 1)) : Nat) : Int) ≤ 240 by omega)
    by_cases hA : skB t L (psN t L (i + 1)) < L
    · have c0 : 0 ≤ c := by
        rw [← ec, if_pos hA, ← ht1]
        have := q1 75 (skB t L (psN t L (i + 1)))
        rw [tiv_a (i := (0, 255)) rfl] at this
        exact this.1
      refine d_br (fun _ => ?_) fun (h : ¬ ((0 : Int) ≤ c)) => absurd c0 h
      exact d_ct (Or.inl ⟨rfl, rfl, ok2, FrM_up fr1 (by decide), ⟨skB t L (psN t L (i + 1)), rfl, bs.2, skB_sk bp hL⟩, r5.trans h5, hO1, Or.inr hA, g78, g79⟩)
    · have c0 : c = -1 := by rw [← ec, if_neg hA]
      refine d_br (fun (h : (0 : Int) ≤ c) => absurd h (by omega)) fun _ => ?_
      refine d_st (d_br (fun _ => ?_) fun (h : ¬ (pfN t L i ≤ 0)) => absurd (show pfN t L i ≤ 0 by omega) h)
      have n8 := OutH_le hO1
      exact d_st (d_ct (Or.inr ⟨rfl, rfl, okTT_up (okTT_up ok2 (show (0 : Int) ≤ 0 ∧ (0 : Int) ≤ 240 by decide)) (show (0 : Int) ≤ (i : Int) + 1 ∧ (i : Int) + 1 ≤ 8 by omega), FrM_up (FrM_up (FrM_up fr1' (by decide)) (by decide)) (by decide), hO1, ⟨Nat.succ_pos i, hA⟩, rfl, r5.trans h5, rfl, g78, g79⟩))
theorem e151 {X : Xs} {t : Nat → Int} {L : Nat} {M : Mm} (hT : okTT M) (hL : L ≤ 240) (ht : ∀ k : Nat, M 75 k = t k) (hl : M 65 14 = L) : Wp X 70 151 0 (eL 0 [vR 0 65]) [] M (fun v M' => (1 ≤ M 65 21 ∧ v = some (vI (-100003)) ∧ M' = M) ∨ (M 65 21 ≤ 0 ∧ okTT M' ∧ FrM sp151_0.2.2.2.1 M M' ∧ M' 65 14 = 0 ∧ ∃ n : Nat, n ≤ 8 ∧ OutH t L n ∧ ((OutG t L n ∧ v = some (vI (n : Int)) ∧ M' 65 15 = -1 ∧ M' 65 16 = n ∧ (∀ q : Nat, q < n → M' 76 q = dyN t L q) ∧ ∀ q : Nat, q < n → ∀ s : Nat, s < 20 → M' 77 (20 * q + s) = rwR t L q s) ∨ (OutB t L n ∧ v = some (vI (-10 - pfN t L n)) ∧ M' 65 15 = ((ppN t L n : Nat) : Int) ∧ M' 65 16 = M 65 16 ∧ (∀ j : Nat, M' 76 j = M 76 j) ∧ ∀ j : Nat, M' 77 j = M 77 j)))) := by
  refine Wp_ent (cut := (cutL [(15, [0, 1]), (39, [0, 3]), (55, [0, 3])])) (CT := fun i' as M' => i' = 15 ∧ as = [vR 0 65, vI 0] ∧ M 65 21 ≤ 0 ∧ M' = up (up M 65 15 (-1)) 65 43 0) 0 20 [(4, 65)] (fun _ => 0) [(4, 65, [(0, 21)]), (15, 5, [(1, 0), (0, 0), (0, 3)]), (10, 65, [(0, 15), (0, -1)]), (10, 65, [(0, 43), (0, 0)]), (17, 15, [(4, 65), (0, 0)]), (19, 0, [(0, -100003)])] (by decide +kernel) rfl rfl (by decide) (fun i' dl as M' hi _ h => ?_) ?_
  · obtain ⟨rfl, rfl, h0, rfl⟩ := h
    obtain rfl : [0, 1] = dl := Option.some.inj hi
    have fr : FrM sp151_0.2.2.2.1 M (up (up M 65 15 (-1)) 65 43 0) := FrM_up (FrM_up frm0 (by decide)) (by decide)
    refine (l15 (X := X) (t := t) (L := L) (M0 := up (up M 65 15 (-1)) 65 43 0) hL ht hl 9 0 _ rfl ⟨okTT_up (okTT_up hT (show (-2147483648 : Int) ≤ -1 ∧ (-1 : Int) ≤ 2147483647 by decide)) (show (0 : Int) ≤ 0 ∧ (0 : Int) ≤ 240 by decide), frm0, ⟨0, rfl, Nat.zero_le _, rfl⟩, rfl, ⟨fun q hq => absurd hq (Nat.not_lt_zero q), fun q _ hq => absurd hq (Nat.not_lt_zero q)⟩, Or.inl rfl, fun q hq => absurd hq (Nat.not_lt_zero q), fun q hq => absurd hq (Nat.not_lt_zero q)⟩).mono fun v M3 q => Or.inr ⟨h0, q.1, FrM_sub fr (by decide) q.2.1, q.2.2⟩
  · refine d_ldw (v := M 65 21) rfl ?_
    by_cases h1 : 1 ≤ M 65 21
    · exact d_br (fun (h : M 65 21 ≤ 0) => absurd h (by omega)) fun _ => d_r1 (Or.inl ⟨h1, rfl, rfl⟩)
    · exact d_br (fun (h : M 65 21 ≤ 0) => d_st (d_st (d_ct ⟨rfl, rfl, h, rfl⟩))) fun (h : ¬ (M 65 21 ≤ 0)) => absurd (show M 65 21 ≤ 0 by omega) h
