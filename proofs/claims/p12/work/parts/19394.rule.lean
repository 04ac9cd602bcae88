theorem rbv58 : rb 58 = 1 := by decide +kernel
theorem rbv60 : rb 60 = 1 := by decide +kernel
theorem rbv62 : rb 62 = 1 := by decide +kernel
theorem rbv63 : rb 63 = 1 := by decide +kernel
theorem rbv55 : rb 55 = 1 := by decide +kernel
theorem slX_b {z : Int} (h : 0 ≤ z ∧ z ≤ 10) : 0 ≤ slX z ∧ slX z ≤ 19 ∧ (kyR z → slX z ≤ 14) := by
  unfold slX kyR
  split
  · omega
  · split
    · omega
    · split
      · omega
      · split <;> omega
set_option maxHeartbeats 4000000 in
theorem e54 {X : Xs} {t : Nat → Int} {L a : Nat} {M : Mm} (hT : okTT M) (hL : L ≤ 240) (ht : ∀ k : Nat, M 23 k = t k) (hl : M 22 2 = L) (ha : M 22 3 = a) (haL : a ≤ L) : Wp X 40 54 0 (eL 0 [vR 0 22]) [] M (fun v M' => okTT M' ∧ FrM sp54_0.2.2.2.1 M M' ∧ ((rFt t L a ≠ 0 ∧ v = some (vI 0) ∧ M' 22 4 = rFt t L a ∧ M' 22 5 = ((rPl t L a : Nat) : Int) ∧ ∀ j : Nat, M' 26 j = M 26 j) ∨ (rFt t L a = 0 ∧ v = some (vI 1) ∧ M' 22 3 = ((nG t L (rA t L a) : Nat) : Int) ∧ M' 22 5 = M 22 5 ∧ ∀ j : Nat, M' 26 j = if (j : Int) = M 24 2 * 20 + (slX (rR t L a) + rKy t L a) then nV t L (rA t L a) else M 26 j))) := by
  have bT : 0 ≤ M 24 2 ∧ M 24 2 ≤ 8 := hT 24 2
  have bg := wdE_b (t := t) haL
  refine Wp_den 0 100 [(4, 22)] (fun _ => 0) [(4, 22, [(0, 3)]), (16, 58, [(4, 22), (1, 0)]), (4, 22, [(0, 3)]), (16, 60, [(4, 22), (1, 2), (1, 1)]), (15, 1, [(1, 3), (0, -1), (0, 70)]), (10, 22, [(0, 3), (1, 1)]), (16, 63, [(1, 3)]), (15, 0, [(1, 4), (0, 0), (0, 27)]), (16, 62, [(1, 3)]), (16, 55, [(4, 22), (1, 5)]), (15, 1, [(1, 6), (0, -1), (0, 23)]), (15, 2, [(1, 3), (0, 0), (0, 5)]), (4, 24, [(0, 2)]), (0, 2, [(1, 7), (0, 20)]), (0, 0, [(1, 8), (0, 0)]), (11, 26, [(1, 9), (1, 6)]), (19, 0, [(0, 1)]), (15, 3, [(1, 3), (0, 11), (0, 5)]), (4, 24, [(0, 2)]), (0, 2, [(1, 7), (0, 20)]), (0, 0, [(1, 8), (0, 0)]), (11, 26, [(1, 9), (1, 6)]), (19, 0, [(0, 1)]), (8, 0, [(1, 3)]), (0, 0, [(1, 7), (0, 0)]), (15, 2, [(1, 8), (0, 0), (0, 1)]), (19, 0, [(0, 1)]), (15, 3, [(1, 8), (0, 20), (0, 1)]), (19, 0, [(0, 1)]), (4, 24, [(0, 2)]), (0, 2, [(1, 9), (0, 20)]), (0, 0, [(1, 10), (1, 8)]), (11, 26, [(1, 11), (1, 6)]), (19, 0, [(0, 1)]), (19, 0, [(0, 0)]), (16, 55, [(4, 22), (0, 3)]), (15, 1, [(1, 5), (0, -1), (0, 37)]), (16, 62, [(1, 3)]), (16, 55, [(4, 22), (1, 6)]), (15, 1, [(1, 7), (0, -1), (0, 33)]), (15, 2, [(1, 3), (0, 0), (0, 10)]), (0, 0, [(0, 0), (1, 5)]), (15, 2, [(1, 8), (0, 0), (0, 1)]), (19, 0, [(0, 1)]), (15, 3, [(1, 8), (0, 20), (0, 1)]), (19, 0, [(0, 1)]), (4, 24, [(0, 2)]), (0, 2, [(1, 9), (0, 20)]), (0, 0, [(1, 10), (1, 8)]), (11, 26, [(1, 11), (1, 7)]), (19, 0, [(0, 1)]), (15, 3, [(1, 3), (0, 11), (0, 10)]), (0, 0, [(0, 0), (1, 5)]), (15, 2, [(1, 8), (0, 0), (0, 1)]), (19, 0, [(0, 1)]), (15, 3, [(1, 8), (0, 20), (0, 1)]), (19, 0, [(0, 1)]), (4, 24, [(0, 2)]), (0, 2, [(1, 9), (0, 20)]), (0, 0, [(1, 10), (1, 8)]), (11, 26, [(1, 11), (1, 7)]), (19, 0, [(0, 1)]), (8, 0, [(1, 3)]), (0, 0, [(1, 8), (1, 5)]), (15, 2, [(1, 9), (0, 0), (0, 1)]), (19, 0, [(0, 1)]), (15, 3, [(1, 9), (0, 20), (0, 1)]), (19, 0, [(0, 1)]), (4, 24, [(0, 2)]), (0, 2, [(1, 10), (0, 20)]), (0, 0, [(1, 11), (1, 9)]), (11, 26, [(1, 12), (1, 7)]), (19, 0, [(0, 1)]), (19, 0, [(0, 0)]), (19, 0, [(0, 0)]), (4, 22, [(0, 3)]), (10, 22, [(0, 4), (0, 1)]), (10, 22, [(0, 5), (1, 4)]), (19, 0, [(0, 0)])] (by decide +kernel) rfl rfl (by decide) ?_
  refine d_ldw (v := (a : Int)) ha ?_
  refine d_cx (d := 10) (z := ((wdE t L a : Nat) : Int)) (by decide) rbv58 rfl (e58 (a := a) hL ht hl) ?_
  refine d_ldw (v := (a : Int)) ha ?_
  refine d_ca ⟨30, by decide, (e60 (X := X) (t := t) (L := L) (b := a) (g := wdE t L a) (M := M) hL ht hl bg.1 bg.2 (fun k h1 h2 => (goF_in 240 a k h1 h2).2)).mono fun v1 M1 q _ _ _ => ?_⟩
  obtain ⟨e1, z, e2, hz⟩ := q
  rw [e1, e2, rbv60]
  have ez : z = rR t L a := rF_eq hz
  have bz := rnW_b hz
  by_cases hz1 : z = -1
  · have f1 : rFt t L a = 1 := by unfold rFt; rw [if_pos (by omega)]
    have p1 : rPl t L a = a := by unfold rPl; rw [if_pos (by omega)]
    exact d_br (fun (h : z ≠ -1) => absurd hz1 h) fun _ => d_ldw (v := (a : Int)) ha (d_st (d_st (d_r1 ⟨okTT_up (okTT_up hT (show (-2147483648 : Int) ≤ 1 ∧ (1 : Int) ≤ 2147483647 by omega)) (show (-2147483648 : Int) ≤ (a : Int) ∧ (a : Int) ≤ 2147483647 by omega), FrM_up (FrM_up frm0 (by decide)) (by decide), Or.inl ⟨by omega, rfl, f1.symm, by rw [p1]; rfl, fun _ => rfl⟩⟩)))
  · refine d_br (fun _ => ?_) fun (h : ¬ (z ≠ -1)) => absurd hz1 h
    refine d_st ?_
    have bsl := slX_b (z := z) (by omega)
    have okA : okTT (up M 22 3 ((wdE t L a : Nat) : Int)) := okTT_up hT (show (0 : Int) ≤ ((wdE t L a : Nat) : Int) ∧ ((wdE t L a : Nat) : Int) ≤ 240 by omega)
    have frA : FrM sp54_0.2.2.2.1 M (up M 22 3 ((wdE t L a : Nat) : Int)) := FrM_up frm0 (by decide)
    refine d_ca ⟨10, by decide, (e63 (X := X) (M := up M 22 3 ((wdE t L a : Nat) : Int)) (r := z)).mono fun v3 M3 q3 _ _ _ => ?_⟩
    obtain ⟨e3, q3⟩ := q3
    rcases q3 with ⟨e4, hk⟩ | ⟨e4, hk⟩
    · rw [e3, e4, rbv63]
      refine d_br (fun (h : (1 : Int) = 0) => absurd h (by decide)) fun _ => ?_
      refine d_ca ⟨20, by decide, (e55 (X := X) (t := t) (L := L) (a := wdE t L a) (M := up M 22 3 ((wdE t L a : Nat) : Int)) (lim := 3) hL ht hl rfl bg.2).mono fun v4 M4 q4 _ _ _ => ?_⟩
      have hk2 : kyR (rR t L a) := ez ▸ hk
      have k1 : rKf t L a = nf t L 3 (wdE t L a) := if_pos hk2
      rcases q55_f q4 with ⟨n0, e5, e6⟩ | ⟨n0, e5, e6⟩
      · rw [e5, e6, rbv55]
        have f1 : rFt t L a = nf t L 3 (wdE t L a) := by unfold rFt; rw [if_neg (by omega), if_pos (by omega), k1]
        have p1 : rPl t L a = skB t L (wdE t L a) := by unfold rPl; rw [if_neg (by omega), if_pos (by omega)]; rfl
        have bf := nf_b (t := t) (L := L) (lim := 3) (a := wdE t L a)
        have bs := skB_b (t := t) bg.2
        exact d_br (fun (h : (-1 : Int) ≠ -1) => absurd rfl h) fun _ => d_r1 ⟨okTT_up (okTT_up (okTT_up okA (show (0 : Int) ≤ ((skB t L (wdE t L a) : Nat) : Int) ∧ ((skB t L (wdE t L a) : Nat) : Int) ≤ 240 by omega)) (show (-2147483648 : Int) ≤ nf t L 3 (wdE t L a) ∧ nf t L 3 (wdE t L a) ≤ 2147483647 by omega)) (show (-2147483648 : Int) ≤ ((skB t L (wdE t L a) : Nat) : Int) ∧ ((skB t L (wdE t L a) : Nat) : Int) ≤ 2147483647 by omega), FrM_up (FrM_up (FrM_up frA (by decide)) (by decide)) (by decide), Or.inl ⟨by rw [f1]; exact n0, rfl, f1.symm, by rw [p1]; rfl, fun _ => rfl⟩⟩
      · rw [e5, e6, rbv55]
        have bk := nV_b (t := t) (L := L) (a := wdE t L a)
        have bk2 := nV_lim n0
        have bsk := bsl.2.2 hk
        have bG0 := nG_b (t := t) bg.2
        have eAn : rA t L a = nG t L (wdE t L a) := if_pos hk2
        have bA : rA t L a ≤ L := by omega
        have eK : rKy t L a = nV t L (wdE t L a) := if_pos hk2
        have okB : okTT (up (up M 22 3 ((wdE t L a : Nat) : Int)) 22 3 ((nG t L (wdE t L a) : Nat) : Int)) := okTT_up okA (show (0 : Int) ≤ ((nG t L (wdE t L a) : Nat) : Int) ∧ ((nG t L (wdE t L a) : Nat) : Int) ≤ 240 by omega)
        have frB : FrM sp54_0.2.2.2.1 M (up (up M 22 3 ((wdE t L a : Nat) : Int)) 22 3 ((nG t L (wdE t L a) : Nat) : Int)) := FrM_up frA (by decide)
        have eA : (up (up M 22 3 ((wdE t L a : Nat) : Int)) 22 3 ((nG t L (wdE t L a) : Nat) : Int)) 22 3 = ((rA t L a : Nat) : Int) := by rw [eAn]; rfl
        refine d_br (fun _ => ?_) fun (h : ¬ (nV t L (wdE t L a) ≠ -1)) => absurd (show nV t L (wdE t L a) ≠ -1 by omega) h
        refine d_cx (d := 10) (z := lmR z) (by decide) rbv62 rfl (e62 (M := up (up M 22 3 ((wdE t L a : Nat) : Int)) 22 3 ((nG t L (wdE t L a) : Nat) : Int)) (r := z) (by omega)) ?_
        refine d_ca ⟨20, by decide, (e55 (X := X) (t := t) (L := L) (a := rA t L a) (M := up (up M 22 3 ((wdE t L a : Nat) : Int)) 22 3 ((nG t L (wdE t L a) : Nat) : Int)) (lim := lmR z) hL ht hl eA bA).mono fun v5 M5 q5 _ _ _ => ?_⟩
        rcases q55_f q5 with ⟨n1, e5, e6⟩ | ⟨n1, e5, e6⟩
        · rw [e5, e6, rbv55]
          have f1 : rFt t L a = nf t L (lmR z) (rA t L a) := by unfold rFt; rw [if_neg (by omega), if_neg (by omega), ← ez]
          have p1 : rPl t L a = skB t L (rA t L a) := by unfold rPl; rw [if_neg (by omega), if_neg (by omega)]
          have bf := nf_b (t := t) (L := L) (lim := lmR z) (a := rA t L a)
          have bs := skB_b (t := t) bA
          exact d_br (fun (h : (-1 : Int) ≠ -1) => absurd rfl h) fun _ => d_r1 ⟨okTT_up (okTT_up (okTT_up okB (show (0 : Int) ≤ ((skB t L (rA t L a) : Nat) : Int) ∧ ((skB t L (rA t L a) : Nat) : Int) ≤ 240 by omega)) (show (-2147483648 : Int) ≤ nf t L (lmR z) (rA t L a) ∧ nf t L (lmR z) (rA t L a) ≤ 2147483647 by omega)) (show (-2147483648 : Int) ≤ ((skB t L (rA t L a) : Nat) : Int) ∧ ((skB t L (rA t L a) : Nat) : Int) ≤ 2147483647 by omega), FrM_up (FrM_up (FrM_up frB (by decide)) (by decide)) (by decide), Or.inl ⟨by rw [f1]; exact n1, rfl, f1.symm, by rw [p1]; rfl, fun _ => rfl⟩⟩
        · rw [e5, e6, rbv55]
          have f1 : rFt t L a = 0 := by unfold rFt; rw [if_neg (by omega), if_neg (by omega), ← ez]; exact n1
          have bv := nV_b (t := t) (L := L) (a := rA t L a)
          have bG := nG_b (t := t) bA
          refine d_br (fun _ => ?_) fun (h : ¬ (nV t L (rA t L a) ≠ -1)) => absurd (show nV t L (rA t L a) ≠ -1 by omega) h
          refine d_br (fun (h : z < 0) => absurd h (by omega)) fun _ => d_br (fun (h : 11 ≤ z) => absurd h (by omega)) fun _ => d_fsl (z := z) rfl (by omega) (d_ibw (w := slX z + nV t L (wdE t L a)) (ib0 (x := slX z) (y := nV t L (wdE t L a)) (by unfold in32; omega)) (d_br (fun (h : slX z + nV t L (wdE t L a) < 0) => absurd h (by omega)) fun _ => d_br (fun (h : 20 ≤ slX z + nV t L (wdE t L a)) => absurd h (by omega)) fun _ => d_ldw (v := M 24 2) rfl (d_ibw (w := M 24 2 * 20) (ib2 (x := M 24 2) (y := 20) (by unfold in32; omega)) (d_ibw (w := M 24 2 * 20 + (slX z + nV t L (wdE t L a))) (ib0 (x := M 24 2 * 20) (y := slX z + nV t L (wdE t L a)) (by unfold in32; omega)) (d_sa (show 0 ≤ M 24 2 * 20 + (slX z + nV t L (wdE t L a)) ∧ M 24 2 * 20 + (slX z + nV t L (wdE t L a)) < ((180 : Nat) : Int) by omega) (d_r1 ⟨okTT_ua (i := (-2147483648, 2147483647)) (okTT_up okB (show (0 : Int) ≤ ((nG t L (rA t L a) : Nat) : Int) ∧ ((nG t L (rA t L a) : Nat) : Int) ≤ 240 by omega)) rfl (show (-2147483648 : Int) ≤ nV t L (rA t L a) ∧ nV t L (rA t L a) ≤ 2147483647 by omega), FrM_up (FrM_up frB (by decide)) (wOf_a (by decide)), Or.inr ⟨f1, rfl, rfl, rfl, fun j => ?_⟩⟩))))))
          show up _ 26 (M 24 2 * 20 + (slX z + nV t L (wdE t L a))).toNat _ 26 j = _
          rw [up_eq, ← ez, eK]
          by_cases h : j = (M 24 2 * 20 + (slX z + nV t L (wdE t L a))).toNat
          · rw [if_pos h, if_pos (by omega)]
            rfl
          · rw [if_neg h, if_neg (by omega)]
            rfl
    · rw [e3, e4, rbv63]
      refine d_br (fun _ => ?_) fun (h : ¬ ((0 : Int) = 0)) => absurd rfl h
      have hk2 : ¬ kyR (rR t L a) := ez ▸ hk
      have k1 : rKf t L a = 0 := if_neg hk2
      have eAn : rA t L a = wdE t L a := if_neg hk2
      have bA : rA t L a ≤ L := by omega
      have eK : rKy t L a = 0 := if_neg hk2
      have eA : (up M 22 3 ((wdE t L a : Nat) : Int)) 22 3 = ((rA t L a : Nat) : Int) := by rw [eAn]; rfl
      refine d_cx (d := 10) (z := lmR z) (by decide) rbv62 rfl (e62 (M := up M 22 3 ((wdE t L a : Nat) : Int)) (r := z) (by omega)) ?_
      refine d_ca ⟨20, by decide, (e55 (X := X) (t := t) (L := L) (a := rA t L a) (M := up M 22 3 ((wdE t L a : Nat) : Int)) (lim := lmR z) hL ht hl eA bA).mono fun v5 M5 q5 _ _ _ => ?_⟩
      rcases q55_f q5 with ⟨n1, e5, e6⟩ | ⟨n1, e5, e6⟩
      · rw [e5, e6, rbv55]
        have f1 : rFt t L a = nf t L (lmR z) (rA t L a) := by unfold rFt; rw [if_neg (by omega), if_neg (by omega), ← ez]
        have p1 : rPl t L a = skB t L (rA t L a) := by unfold rPl; rw [if_neg (by omega), if_neg (by omega)]
        have bf := nf_b (t := t) (L := L) (lim := lmR z) (a := rA t L a)
        have bs := skB_b (t := t) bA
        exact d_br (fun (h : (-1 : Int) ≠ -1) => absurd rfl h) fun _ => d_r1 ⟨okTT_up (okTT_up (okTT_up okA (show (0 : Int) ≤ ((skB t L (rA t L a) : Nat) : Int) ∧ ((skB t L (rA t L a) : Nat) : Int) ≤ 240 by omega)) (show (-2147483648 : Int) ≤ nf t L (lmR z) (rA t L a) ∧ nf t L (lmR z) (rA t L a) ≤ 2147483647 by omega)) (show (-2147483648 : Int) ≤ ((skB t L (rA t L a) : Nat) : Int) ∧ ((skB t L (rA t L a) : Nat) : Int) ≤ 2147483647 by omega), FrM_up (FrM_up (FrM_up frA (by decide)) (by decide)) (by decide), Or.inl ⟨by rw [f1]; exact n1, rfl, f1.symm, by rw [p1]; rfl, fun _ => rfl⟩⟩
      · rw [e5, e6, rbv55]
        have f1 : rFt t L a = 0 := by unfold rFt; rw [if_neg (by omega), if_neg (by omega), ← ez]; exact n1
        have bv := nV_b (t := t) (L := L) (a := rA t L a)
        have bG := nG_b (t := t) bA
        refine d_br (fun _ => ?_) fun (h : ¬ (nV t L (rA t L a) ≠ -1)) => absurd (show nV t L (rA t L a) ≠ -1 by omega) h
        refine d_br (fun (h : z < 0) => absurd h (by omega)) fun _ => d_br (fun (h : 11 ≤ z) => absurd h (by omega)) fun _ => d_fsl (z := z) rfl (by omega) (d_ibw (w := slX z + 0) (ib0 (x := slX z) (y := 0) (by unfold in32; omega)) (d_br (fun (h : slX z + 0 < 0) => absurd h (by omega)) fun _ => d_br (fun (h : 20 ≤ slX z + 0) => absurd h (by omega)) fun _ => d_ldw (v := M 24 2) rfl (d_ibw (w := M 24 2 * 20) (ib2 (x := M 24 2) (y := 20) (by unfold in32; omega)) (d_ibw (w := M 24 2 * 20 + (slX z + 0)) (ib0 (x := M 24 2 * 20) (y := slX z + 0) (by unfold in32; omega)) (d_sa (show 0 ≤ M 24 2 * 20 + (slX z + 0) ∧ M 24 2 * 20 + (slX z + 0) < ((180 : Nat) : Int) by omega) (d_r1 ⟨okTT_ua (i := (-2147483648, 2147483647)) (okTT_up okA (show (0 : Int) ≤ ((nG t L (rA t L a) : Nat) : Int) ∧ ((nG t L (rA t L a) : Nat) : Int) ≤ 240 by omega)) rfl (show (-2147483648 : Int) ≤ nV t L (rA t L a) ∧ nV t L (rA t L a) ≤ 2147483647 by omega), FrM_up (FrM_up frA (by decide)) (wOf_a (by decide)), Or.inr ⟨f1, rfl, rfl, rfl, fun j => ?_⟩⟩))))))
        show up _ 26 (M 24 2 * 20 + (slX z + 0)).toNat _ 26 j = _
        rw [up_eq, ← ez, eK]
        by_cases h : j = (M 24 2 * 20 + (slX z + 0)).toNat
        · rw [if_pos h, if_pos (by omega)]
          rfl
        · rw [if_neg h, if_neg (by omega)]
          rfl
theorem rbv148 : rb 148 = 1 := by decide +kernel
theorem rbv140 : rb 140 = 1 := by decide +kernel
theorem rbv139 : rb 139 = 1 := by decide +kernel
theorem rbv147 : rb 147 = 1 := by decide +kernel
theorem rbv145 : rb 145 = 0 := by decide +kernel
theorem slM_b {z k : Int} (h : 0 ≤ z ∧ z ≤ 10) (hk : 0 ≤ k ∧ k ≤ 3) : 0 ≤ slM z k ∧ slM z k ≤ 19 := by
  unfold slM
  split
  · omega
  · split
    · omega
    · split
      · omega
      · split <;> omega
theorem tl149_4 {X : Xs} {t : Nat → Int} {L a F : Nat} {σ : Nat → Int} {M0 M : Mm} {p c : Int} (hp : 0 ≤ p ∧ p ≤ 7) (hT : okTT M) (hF : FrM sp149_0.2.2.2.1 M0 M) (hL : L ≤ 240) (ht : ∀ k : Nat, M 75 k = t k) (hl : M 65 14 = L) (ha : M 65 43 = ((rA t L a : Nat) : Int)) (bA : rA t L a ≤ L) (h15 : M 65 15 = M0 65 15) (h79 : ∀ j : Nat, M 79 j = M0 79 j) (hz : 0 ≤ rR t L a ∧ rR t L a ≤ 10) (hk0 : rKf t L a = 0) (hk : rKy t L a = 0) (hc : lmR (rR t L a) = c) (s0 : σ 0 = p) (s1 : σ 1 = rR t L a) : den X (CPd X 40) (fun _ _ _ => False) (fun (v : Option V) (M' : Mm) => okTT M' ∧ FrM sp149_0.2.2.2.1 M0 M' ∧ v = some (vI (rFt t L a)) ∧ ((rFt t L a ≠ 0 ∧ M' 65 15 = ((rPl t L a : Nat) : Int)) ∨ (rFt t L a = 0 ∧ M' 65 43 = ((nG t L (rA t L a) : Nat) : Int) ∧ M' 65 15 = M0 65 15 ∧ ∀ j : Nat, M' 79 j = if (j : Int) = 20 * p + slM (rR t L a) (rKy t L a) then nV t L (rA t L a) else M0 79 j))) (F + 8) [(16, 148, [(4, 65), (0, c)]), (0, 2, [(0, 20), (1, 0)]), (16, 140, [(1, 1), (0, 0)]), (0, 0, [(1, 5), (1, 6)]), (4, 65, [(0, 47)]), (11, 79, [(1, 7), (1, 8)]), (19, 0, [(1, 4)])] 4 σ M := by
  refine d_ca ⟨20, by decide, (e148 (X := X) (t := t) (L := L) (a := rA t L a) (M := M) (lim := c) hL ht hl ha bA).mono fun v1 M1 q _ _ _ => ?_⟩
  have okM := q148_ok hT hL bA q
  obtain ⟨e, q2, fr⟩ := q148_f q
  rw [e, rbv148]
  have f1 : rFt t L a = nf t L c (rA t L a) := by unfold rFt; rw [if_neg (by omega), if_neg (by omega), hc]
  have p1 : rPl t L a = skB t L (rA t L a) := by unfold rPl; rw [if_neg (by omega), if_neg (by omega)]
  have bs := slM_b (k := 0) hz (by omega)
  have b47 : -2147483648 ≤ M1 65 47 ∧ M1 65 47 ≤ 2147483647 := okM 65 47
  refine d_ibw (w := 20 * p) (by show ib 2 20 (σ 0) = 20 * p; rw [s0]; exact ib2 (x := 20) (y := p) (by unfold in32; omega)) ?_
  refine d_cx (d := 10) (z := slM (rR t L a) 0) (by decide) rbv140 rfl (by show Wp X 10 140 0 (eL 0 [vI (σ 1), vI 0]) [] M1 _; rw [s1]; exact e140 (M := M1) hz (by omega)) ?_
  refine d_ibw (w := 20 * p + slM (rR t L a) 0) (ib0 (x := 20 * p) (y := slM (rR t L a) 0) (by unfold in32; omega)) (d_ldw (v := M1 65 47) rfl (d_sa (show 0 ≤ 20 * p + slM (rR t L a) 0 ∧ 20 * p + slM (rR t L a) 0 < ((160 : Nat) : Int) by omega) (d_r1 ⟨okTT_ua (i := (-2147483648, 2147483647)) okM rfl b47, FrM_up (FrM_sub hF (by decide) fr) (wOf_a (by decide)), ?_, ?_⟩)))
  · rw [f1]; rfl
  · rcases q2 with ⟨n1, q3⟩ | ⟨n1, q3, q4, q5, q6⟩
    · exact Or.inl ⟨by rw [f1]; exact n1, by rw [p1]; exact q3⟩
    · refine Or.inr ⟨by rw [f1]; exact n1, q3, q6.trans h15, fun j => ?_⟩
      show up M1 79 (20 * p + slM (rR t L a) 0).toNat (M1 65 47) 79 j = _
      rw [up_eq, hk, q5, fr 79 j (wOf_no rfl j), h79 j]
      by_cases h : j = (20 * p + slM (rR t L a) 0).toNat
      · rw [if_pos h, if_pos (by omega)]
      · rw [if_neg h, if_neg (by omega)]
theorem tl149_6 {X : Xs} {t : Nat → Int} {L a F : Nat} {σ : Nat → Int} {M0 M : Mm} {p k c : Int} (hp : 0 ≤ p ∧ p ≤ 7) (hT : okTT M) (hF : FrM sp149_0.2.2.2.1 M0 M) (hL : L ≤ 240) (ht : ∀ k : Nat, M 75 k = t k) (hl : M 65 14 = L) (ha : M 65 43 = ((rA t L a : Nat) : Int)) (bA : rA t L a ≤ L) (h15 : M 65 15 = M0 65 15) (h79 : ∀ j : Nat, M 79 j = M0 79 j) (hz : 0 ≤ rR t L a ∧ rR t L a ≤ 10) (hk0 : rKf t L a = 0) (hk : rKy t L a = k) (hk3 : 0 ≤ k ∧ k ≤ 3) (hc : lmR (rR t L a) = c) (s0 : σ 0 = p) (s1 : σ 1 = rR t L a) (s5 : σ 5 = k) : den X (CPd X 40) (fun _ _ _ => False) (fun (v : Option V) (M' : Mm) => okTT M' ∧ FrM sp149_0.2.2.2.1 M0 M' ∧ v = some (vI (rFt t L a)) ∧ ((rFt t L a ≠ 0 ∧ M' 65 15 = ((rPl t L a : Nat) : Int)) ∨ (rFt t L a = 0 ∧ M' 65 43 = ((nG t L (rA t L a) : Nat) : Int) ∧ M' 65 15 = M0 65 15 ∧ ∀ j : Nat, M' 79 j = if (j : Int) = 20 * p + slM (rR t L a) (rKy t L a) then nV t L (rA t L a) else M0 79 j))) (F + 8) [(16, 148, [(4, 65), (0, c)]), (0, 2, [(0, 20), (1, 0)]), (16, 140, [(1, 1), (1, 5)]), (0, 0, [(1, 7), (1, 8)]), (4, 65, [(0, 47)]), (11, 79, [(1, 9), (1, 10)]), (19, 0, [(1, 6)])] 6 σ M := by
  refine d_ca ⟨20, by decide, (e148 (X := X) (t := t) (L := L) (a := rA t L a) (M := M) (lim := c) hL ht hl ha bA).mono fun v1 M1 q _ _ _ => ?_⟩
  have okM := q148_ok hT hL bA q
  obtain ⟨e, q2, fr⟩ := q148_f q
  rw [e, rbv148]
  have f1 : rFt t L a = nf t L c (rA t L a) := by unfold rFt; rw [if_neg (by omega), if_neg (by omega), hc]
  have p1 : rPl t L a = skB t L (rA t L a) := by unfold rPl; rw [if_neg (by omega), if_neg (by omega)]
  have bs := slM_b hz hk3
  have b47 : -2147483648 ≤ M1 65 47 ∧ M1 65 47 ≤ 2147483647 := okM 65 47
  refine d_ibw (w := 20 * p) (by show ib 2 20 (σ 0) = 20 * p; rw [s0]; exact ib2 (x := 20) (y := p) (by unfold in32; omega)) ?_
  refine d_cx (d := 10) (z := slM (rR t L a) k) (by decide) rbv140 rfl (by show Wp X 10 140 0 (eL 0 [vI (σ 1), vI (σ 5)]) [] M1 _; rw [s1, s5]; exact e140 (M := M1) hz hk3) ?_
  refine d_ibw (w := 20 * p + slM (rR t L a) k) (ib0 (x := 20 * p) (y := slM (rR t L a) k) (by unfold in32; omega)) (d_ldw (v := M1 65 47) rfl (d_sa (show 0 ≤ 20 * p + slM (rR t L a) k ∧ 20 * p + slM (rR t L a) k < ((160 : Nat) : Int) by omega) (d_r1 ⟨okTT_ua (i := (-2147483648, 2147483647)) okM rfl b47, FrM_up (FrM_sub hF (by decide) fr) (wOf_a (by decide)), ?_, ?_⟩)))
  · rw [f1]; rfl
  · rcases q2 with ⟨n1, q3⟩ | ⟨n1, q3, q4, q5, q6⟩
    · exact Or.inl ⟨by rw [f1]; exact n1, by rw [p1]; exact q3⟩
    · refine Or.inr ⟨by rw [f1]; exact n1, q3, q6.trans h15, fun j => ?_⟩
      show up M1 79 (20 * p + slM (rR t L a) k).toNat (M1 65 47) 79 j = _
      rw [up_eq, hk, q5, fr 79 j (wOf_no rfl j), h79 j]
      by_cases h : j = (20 * p + slM (rR t L a) k).toNat
      · rw [if_pos h, if_pos (by omega)]
      · rw [if_neg h, if_neg (by omega)]
set_option maxHeartbeats 4000000 in
theorem e149 {X : Xs} {t : Nat → Int} {L a0 a : Nat} {M0 : Mm} {p : Int} (hp : 0 ≤ p ∧ p ≤ 7) (hT : okTT M0) (hL : L ≤ 240) (ht0 : ∀ k : Nat, M0 75 k = t k) (hl0 : M0 65 14 = L) (ha0 : M0 65 43 = a0) (haL0 : a0 ≤ L) (haa : a = skB t L a0) : Wp X 40 149 0 (eL 0 [vR 0 65, vI p]) [] M0 (fun (v : Option V) (M' : Mm) => okTT M' ∧ FrM sp149_0.2.2.2.1 M0 M' ∧ v = some (vI (rFt t L a)) ∧ ((rFt t L a ≠ 0 ∧ M' 65 15 = ((rPl t L a : Nat) : Int)) ∨ (rFt t L a = 0 ∧ M' 65 43 = ((nG t L (rA t L a) : Nat) : Int) ∧ M' 65 15 = M0 65 15 ∧ ∀ j : Nat, M' 79 j = if (j : Int) = 20 * p + slM (rR t L a) (rKy t L a) then nV t L (rA t L a) else M0 79 j))) := by
  have haL : a ≤ L := by rw [haa]; exact (skB_b haL0).2
  have bg := wdE_b (t := t) haL
  have hin : ∀ k : Nat, a ≤ k → k < wdE t L a → 97 ≤ t k ∧ t k ≤ 122 := fun k h1 h2 => (goF_in 240 a k h1 h2).2
  have bw := wvF_b (t := t) (b := a) (wdE t L a - a) (fun i hi => hin (a + i) (by omega) (by omega))
  refine Wp_den 1 100 [(4, 65), (1, 0)] (us (fun _ => 0) 0 p) [(16, 145, [(4, 65)]), (16, 147, [(4, 65)]), (15, 3, [(1, 1), (0, 0), (0, 86)]), (4, 65, [(0, 45)]), (10, 65, [(0, 43), (1, 2)]), (16, 139, [(1, 1)]), (15, 0, [(1, 3), (0, 0), (0, 39)]), (15, 0, [(1, 1), (0, 0), (0, 7)]), (16, 148, [(4, 65), (0, 99)]), (0, 2, [(0, 20), (1, 0)]), (16, 140, [(1, 1), (0, 0)]), (0, 0, [(1, 5), (1, 6)]), (4, 65, [(0, 47)]), (11, 79, [(1, 7), (1, 8)]), (19, 0, [(1, 4)]), (15, 1, [(1, 1), (0, 1), (0, 23)]), (15, 0, [(1, 1), (0, 3), (0, 7)]), (16, 148, [(4, 65), (0, 1)]), (0, 2, [(0, 20), (1, 0)]), (16, 140, [(1, 1), (0, 0)]), (0, 0, [(1, 5), (1, 6)]), (4, 65, [(0, 47)]), (11, 79, [(1, 7), (1, 8)]), (19, 0, [(1, 4)]), (15, 1, [(1, 1), (0, 4), (0, 7)]), (16, 148, [(4, 65), (0, 9999)]), (0, 2, [(0, 20), (1, 0)]), (16, 140, [(1, 1), (0, 0)]), (0, 0, [(1, 5), (1, 6)]), (4, 65, [(0, 47)]), (11, 79, [(1, 7), (1, 8)]), (19, 0, [(1, 4)]), (16, 148, [(4, 65), (0, 1)]), (0, 2, [(0, 20), (1, 0)]), (16, 140, [(1, 1), (0, 0)]), (0, 0, [(1, 5), (1, 6)]), (4, 65, [(0, 47)]), (11, 79, [(1, 7), (1, 8)]), (19, 0, [(1, 4)]), (16, 148, [(4, 65), (0, 99)]), (0, 2, [(0, 20), (1, 0)]), (16, 140, [(1, 1), (0, 0)]), (0, 0, [(1, 5), (1, 6)]), (4, 65, [(0, 47)]), (11, 79, [(1, 7), (1, 8)]), (19, 0, [(1, 4)]), (16, 148, [(4, 65), (0, 3)]), (15, 5, [(1, 4), (0, 0), (0, 40)]), (4, 65, [(0, 47)]), (15, 0, [(1, 1), (0, 0), (0, 7)]), (16, 148, [(4, 65), (0, 99)]), (0, 2, [(0, 20), (1, 0)]), (16, 140, [(1, 1), (1, 5)]), (0, 0, [(1, 7), (1, 8)]), (4, 65, [(0, 47)]), (11, 79, [(1, 9), (1, 10)]), (19, 0, [(1, 6)]), (15, 1, [(1, 1), (0, 1), (0, 23)]), (15, 0, [(1, 1), (0, 3), (0, 7)]), (16, 148, [(4, 65), (0, 1)]), (0, 2, [(0, 20), (1, 0)]), (16, 140, [(1, 1), (1, 5)]), (0, 0, [(1, 7), (1, 8)]), (4, 65, [(0, 47)]), (11, 79, [(1, 9), (1, 10)]), (19, 0, [(1, 6)]), (15, 1, [(1, 1), (0, 4), (0, 7)]), (16, 148, [(4, 65), (0, 9999)]), (0, 2, [(0, 20), (1, 0)]), (16, 140, [(1, 1), (1, 5)]), (0, 0, [(1, 7), (1, 8)]), (4, 65, [(0, 47)]), (11, 79, [(1, 9), (1, 10)]), (19, 0, [(1, 6)]), (16, 148, [(4, 65), (0, 1)]), (0, 2, [(0, 20), (1, 0)]), (16, 140, [(1, 1), (1, 5)]), (0, 0, [(1, 7), (1, 8)]), (4, 65, [(0, 47)]), (11, 79, [(1, 9), (1, 10)]), (19, 0, [(1, 6)]), (16, 148, [(4, 65), (0, 99)]), (0, 2, [(0, 20), (1, 0)]), (16, 140, [(1, 1), (1, 5)]), (0, 0, [(1, 7), (1, 8)]), (4, 65, [(0, 47)]), (11, 79, [(1, 9), (1, 10)]), (19, 0, [(1, 6)]), (19, 0, [(1, 4)]), (4, 65, [(0, 43)]), (10, 65, [(0, 15), (1, 2)]), (19, 0, [(0, 1)])] (by decide +kernel) rfl rfl (by decide) ?_
  have e1 := e145 (X := X) (t := t) (L := L) (a := a0) (M := M0) hT hL ht0 hl0 ha0 haL0
  rw [← haa] at e1
  refine d_ca ⟨20, by decide, e1.mono fun v1 M1 q _ _ _ => ?_⟩
  rw [q, rbv145]
  refine d_ca ⟨20, by decide, (e147 (X := X) (M := (up (up (up M0 65 43 ((a : Nat) : Int)) 65 44 (wvF t a (wdE t L a - a))) 65 45 ((wdE t L a : Nat) : Int))) (W := wvF t a (wdE t L a - a)) rfl).mono fun v2 M2 q2 _ _ _ => ?_⟩
  obtain ⟨e2, z, e3, hz0⟩ := q2
  rw [e2, e3, rbv147]
  obtain rfl : z = rR t L a := rF_eq hz0
  have bz := rnW_b hz0
  have ok1 : okTT (up (up (up M0 65 43 ((a : Nat) : Int)) 65 44 (wvF t a (wdE t L a - a))) 65 45 ((wdE t L a : Nat) : Int)) := okTT_up (okTT_up (okTT_up hT (show (0 : Int) ≤ (a : Int) ∧ (a : Int) ≤ 240 by omega)) (show (-9223372036854775808 : Int) ≤ wvF t a (wdE t L a - a) ∧ wvF t a (wdE t L a - a) ≤ 9223372036854775807 by omega)) (show (0 : Int) ≤ ((wdE t L a : Nat) : Int) ∧ ((wdE t L a : Nat) : Int) ≤ 240 by omega)
  have fr1 : FrM sp149_0.2.2.2.1 M0 (up (up (up M0 65 43 ((a : Nat) : Int)) 65 44 (wvF t a (wdE t L a - a))) 65 45 ((wdE t L a : Nat) : Int)) := FrM_up (FrM_up (FrM_up frm0 (by decide)) (by decide)) (by decide)
  by_cases hz1 : rR t L a = -1
  · have f1 : rFt t L a = 1 := by unfold rFt; rw [if_pos hz1]
    have p1 : rPl t L a = a := by unfold rPl; rw [if_pos hz1]
    exact d_br (fun (h : (0 : Int) ≤ rR t L a) => absurd h (by omega)) fun _ => d_ldw (v := (a : Int)) rfl (d_st (d_r1 ⟨okTT_up ok1 (show (-2147483648 : Int) ≤ (a : Int) ∧ (a : Int) ≤ 2147483647 by omega), FrM_up fr1 (by decide), by rw [f1]; rfl, Or.inl ⟨by omega, by rw [p1]; rfl⟩⟩))
  · have hz : 0 ≤ rR t L a ∧ rR t L a ≤ 10 := by omega
    refine d_br (fun _ => ?_) fun (h : ¬ ((0 : Int) ≤ rR t L a)) => absurd hz.1 h
    refine d_ldw (v := ((wdE t L a : Nat) : Int)) rfl (d_st ?_)
    have ok2 : okTT (up (up (up (up M0 65 43 ((a : Nat) : Int)) 65 44 (wvF t a (wdE t L a - a))) 65 45 ((wdE t L a : Nat) : Int)) 65 43 ((wdE t L a : Nat) : Int)) := okTT_up ok1 (show (0 : Int) ≤ ((wdE t L a : Nat) : Int) ∧ ((wdE t L a : Nat) : Int) ≤ 240 by omega)
    have fr2 : FrM sp149_0.2.2.2.1 M0 (up (up (up (up M0 65 43 ((a : Nat) : Int)) 65 44 (wvF t a (wdE t L a - a))) 65 45 ((wdE t L a : Nat) : Int)) 65 43 ((wdE t L a : Nat) : Int)) := FrM_up fr1 (by decide)
    refine d_ca ⟨10, by decide, (e139 (X := X) (M := (up (up (up (up M0 65 43 ((a : Nat) : Int)) 65 44 (wvF t a (wdE t L a - a))) 65 45 ((wdE t L a : Nat) : Int)) 65 43 ((wdE t L a : Nat) : Int))) (r := rR t L a)).mono fun v3 M3 q3 _ _ _ => ?_⟩
    obtain ⟨e4, q3⟩ := q3
    rcases q3 with ⟨e5, hk⟩ | ⟨e5, hk⟩
    · rw [e4, e5, rbv139]
      refine d_br (fun (h : (1 : Int) = 0) => absurd h (by decide)) fun _ => ?_
      refine d_ca ⟨20, by decide, (e148 (X := X) (t := t) (L := L) (a := wdE t L a) (M := (up (up (up (up M0 65 43 ((a : Nat) : Int)) 65 44 (wvF t a (wdE t L a - a))) 65 45 ((wdE t L a : Nat) : Int)) 65 43 ((wdE t L a : Nat) : Int))) (lim := 3) hL ht0 hl0 rfl bg.2).mono fun v4 M4 q4 _ _ _ => ?_⟩
      have okM4 := q148_ok ok2 hL bg.2 q4
      obtain ⟨e6, q5, f5⟩ := q148_f q4
      rw [e6, rbv148]
      have k1 : rKf t L a = nf t L 3 (wdE t L a) := if_pos hk
      have fr4 : FrM sp149_0.2.2.2.1 M0 M4 := FrM_sub fr2 (by decide) f5
      have bn := nf_b (t := t) (L := L) (lim := 3) (a := wdE t L a)
      rcases q5 with ⟨n1, q6⟩ | ⟨n1, q6, q7, q8, q9⟩
      · have f1 : rFt t L a = nf t L 3 (wdE t L a) := by unfold rFt; rw [if_neg (by omega), if_pos (by omega), k1]
        have p1 : rPl t L a = skB t L (wdE t L a) := by unfold rPl; rw [if_neg (by omega), if_pos (by omega)]; rfl
        exact d_br (fun (h : nf t L 3 (wdE t L a) ≤ 0) => absurd h (by omega)) fun _ => d_r1 ⟨okM4, fr4, by rw [f1]; rfl, Or.inl ⟨by rw [f1]; exact n1, by rw [p1]; exact q6⟩⟩
      · refine d_br (fun _ => ?_) fun (h : ¬ (nf t L 3 (wdE t L a) ≤ 0)) => absurd (show nf t L 3 (wdE t L a) ≤ 0 by omega) h
        refine d_ldw (v := nV t L (wdE t L a)) q8 ?_
        have bk := nV_b (t := t) (L := L) (a := wdE t L a)
        have bk2 := nV_lim n1
        have k0 : rKf t L a = 0 := by omega
        have eK : rKy t L a = nV t L (wdE t L a) := if_pos hk
        have eAn : rA t L a = nG t L (wdE t L a) := if_pos hk
        have bG0 := nG_b (t := t) bg.2
        have bA : rA t L a ≤ L := by omega
        have h4a : M4 65 43 = ((rA t L a : Nat) : Int) := by rw [eAn]; exact q6
        have h4t : ∀ k : Nat, M4 75 k = t k := fun k => (f5 75 k (wOf_no rfl k)).trans (ht0 k)
        have h4l : M4 65 14 = L := (f5 65 14 (by decide)).trans hl0
        have h415 : M4 65 15 = M0 65 15 := q9
        have h479 : ∀ j : Nat, M4 79 j = M0 79 j := fun j => f5 79 j (wOf_no rfl j)
        exact d_br (fun (_ : rR t L a = 0) => tl149_6 (k := nV t L (wdE t L a)) hp okM4 fr4 hL h4t h4l h4a bA h415 h479 hz k0 eK (by omega) (by unfold lmR; first | (exfalso; omega) | rw [if_pos (by omega)] | rw [if_neg (by omega), if_pos (by omega)] | rw [if_neg (by omega), if_neg (by omega)]) rfl rfl rfl) (fun (_ : ¬ (rR t L a = 0)) => d_br (fun (_ : rR t L a ≠ 1) => d_br (fun (_ : rR t L a = 3) => tl149_6 (k := nV t L (wdE t L a)) hp okM4 fr4 hL h4t h4l h4a bA h415 h479 hz k0 eK (by omega) (by unfold lmR; first | (exfalso; omega) | rw [if_pos (by omega)] | rw [if_neg (by omega), if_pos (by omega)] | rw [if_neg (by omega), if_neg (by omega)]) rfl rfl rfl) (fun (_ : ¬ (rR t L a = 3)) => d_br (fun (_ : rR t L a ≠ 4) => tl149_6 (k := nV t L (wdE t L a)) hp okM4 fr4 hL h4t h4l h4a bA h415 h479 hz k0 eK (by omega) (by unfold lmR; first | (exfalso; omega) | rw [if_pos (by omega)] | rw [if_neg (by omega), if_pos (by omega)] | rw [if_neg (by omega), if_neg (by omega)]) rfl rfl rfl) (fun (_ : ¬ (rR t L a ≠ 4)) => tl149_6 (k := nV t L (wdE t L a)) hp okM4 fr4 hL h4t h4l h4a bA h415 h479 hz k0 eK (by omega) (by unfold lmR; first | (exfalso; omega) | rw [if_pos (by omega)] | rw [if_neg (by omega), if_pos (by omega)] | rw [if_neg (by omega), if_neg (by omega)]) rfl rfl rfl))) (fun (_ : ¬ (rR t L a ≠ 1)) => tl149_6 (k := nV t L (wdE t L a)) hp okM4 fr4 hL h4t h4l h4a bA h415 h479 hz k0 eK (by omega) (by unfold lmR; first | (exfalso; omega) | rw [if_pos (by omega)] | rw [if_neg (by omega), if_pos (by omega)] | rw [if_neg (by omega), if_neg (by omega)]) rfl rfl rfl))
    · rw [e4, e5, rbv139]
      refine d_br (fun _ => ?_) fun (h : ¬ ((0 : Int) = 0)) => absurd rfl h
      have k0 : rKf t L a = 0 := if_neg hk
      have eK : rKy t L a = 0 := if_neg hk
      have eAn : rA t L a = wdE t L a := if_neg hk
      have bA : rA t L a ≤ L := by omega
      have h2a : (up (up (up (up M0 65 43 ((a : Nat) : Int)) 65 44 (wvF t a (wdE t L a - a))) 65 45 ((wdE t L a : Nat) : Int)) 65 43 ((wdE t L a : Nat) : Int)) 65 43 = ((rA t L a : Nat) : Int) := by rw [eAn]; rfl
      exact d_br (fun (_ : rR t L a = 0) => tl149_4 hp ok2 fr2 hL ht0 hl0 h2a bA rfl (fun _ => rfl) hz k0 eK (by unfold lmR; first | (exfalso; omega) | rw [if_pos (by omega)] | rw [if_neg (by omega), if_pos (by omega)] | rw [if_neg (by omega), if_neg (by omega)]) rfl rfl) (fun (_ : ¬ (rR t L a = 0)) => d_br (fun (_ : rR t L a ≠ 1) => d_br (fun (_ : rR t L a = 3) => tl149_4 hp ok2 fr2 hL ht0 hl0 h2a bA rfl (fun _ => rfl) hz k0 eK (by unfold lmR; first | (exfalso; omega) | rw [if_pos (by omega)] | rw [if_neg (by omega), if_pos (by omega)] | rw [if_neg (by omega), if_neg (by omega)]) rfl rfl) (fun (_ : ¬ (rR t L a = 3)) => d_br (fun (_ : rR t L a ≠ 4) => tl149_4 hp ok2 fr2 hL ht0 hl0 h2a bA rfl (fun _ => rfl) hz k0 eK (by unfold lmR; first | (exfalso; omega) | rw [if_pos (by omega)] | rw [if_neg (by omega), if_pos (by omega)] | rw [if_neg (by omega), if_neg (by omega)]) rfl rfl) (fun (_ : ¬ (rR t L a ≠ 4)) => tl149_4 hp ok2 fr2 hL ht0 hl0 h2a bA rfl (fun _ => rfl) hz k0 eK (by unfold lmR; first | (exfalso; omega) | rw [if_pos (by omega)] | rw [if_neg (by omega), if_pos (by omega)] | rw [if_neg (by omega), if_neg (by omega)]) rfl rfl))) (fun (_ : ¬ (rR t L a ≠ 1)) => tl149_4 hp ok2 fr2 hL ht0 hl0 h2a bA rfl (fun _ => rfl) hz k0 eK (by unfold lmR; first | (exfalso; omega) | rw [if_pos (by omega)] | rw [if_neg (by omega), if_pos (by omega)] | rw [if_neg (by omega), if_neg (by omega)]) rfl rfl))
