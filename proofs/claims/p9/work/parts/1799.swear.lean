/-! swear -/
def W166 : Wl := (65, 35) :: W167
theorem W166_a {M0 M M' : Mm} (h0 : FrM W166 M0 M) (h : FrM W160 M M') : FrM W166 M0 M' := FrM_sub h0 (by decide) h
theorem W166_b {M0 M M' : Mm} (h0 : FrM W166 M0 M) (h : FrM W165 M M') : FrM W166 M0 M' := FrM_sub h0 (by decide) h
theorem W166_c {M0 M M' : Mm} (h0 : FrM W166 M0 M) (h : FrM sp158_0.2.2.2.1 M M') : FrM W166 M0 M' := FrM_sub h0 (by decide) h
theorem W158_J {M M' : Mm} (hJ : JM M) (h : FrM sp158_0.2.2.2.1 M M') : JM M' := JM_same hJ (h 65 28 rfl) (fun j => h 86 j (wOf_no rfl j)) (fun j => h 87 j (wOf_no rfl j)) (fun j => h 88 j (wOf_no rfl j)) (h 65 34 rfl) (by rw [h 65 0 rfl]; exact Int.le_refl _)
theorem nil_eq {M M' : Mm} (h : FrM [] M M') : M' = M := funext fun a => funext fun b => h a b rfl
theorem is1 {x : Int} (h : 0 ≤ x ∧ x ≤ 200) : ib 1 x 1 = x - 1 := by
  show (Int32.ofInt x - Int32.ofInt 1).toInt = _
  rw [← Int32.ofInt_sub]
  exact i32_to (by unfold in32; omega)
theorem rb163 : rb 163 = 1 := by decide +kernel
theorem rb164 : rb 164 = 1 := by decide +kernel
theorem rb158 : rb 158 = 1 := by decide +kernel
/-- behind the oath -/
theorem swear_t {X : Xs} {M0 M : Mm} {p c : Int} {F : Nat} {σ : Nat → Int} (hT : okTT M) (hJ : JM M) (hF : FrM W166 M0 M) (hp : 0 ≤ p ∧ p ≤ 29) (hc : 0 ≤ c ∧ c ≤ 19) (ho : M 65 34 ≤ 99) (h0 : σ 0 = p) (h1 : σ 1 = c) : den X (CPd X 70) (fun _ _ _ => False) (fun _ M' => okTT M' ∧ JM M' ∧ FrM W166 M0 M') (F + 20) [(16, 165, [(4, 65), (1, 0), (1, 1)]), (4, 65, [(0, 34)]), (0, 0, [(1, 15), (0, 1)]), (10, 65, [(0, 34), (1, 16)]), (4, 65, [(0, 0)]), (16, 160, [(4, 65), (1, 17)]), (4, 65, [(0, 28)]), (0, 1, [(1, 18), (0, 1)]), (5, 94, [(1, 1)]), (15, 1, [(1, 20), (0, 1), (0, 4)]), (12, 0, [(0, 0)]), (11, 89, [(1, 19), (0, 0)]), (5, 96, [(1, 1)]), (19, 0, [(1, 21)]), (12, 0, [(0, 1)]), (11, 89, [(1, 19), (0, 1)]), (5, 96, [(1, 1)]), (19, 0, [(1, 21)])] 15 σ M := by
  subst h0 h1
  refine d_ca ⟨20, by decide, ?_⟩
  show Wp X 20 165 0 (eL 0 [vR 0 65, vI (σ 0), vI (σ 1)]) [] M _
  refine (tell_m (p := σ 0) (c := σ 1) hT (room_o hT hJ ho) (by omega) hc).mono fun v1 M1 q _ _ _ => ?_
  obtain ⟨rfl, q⟩ := q
  obtain ⟨k1, k2, k3, k4, k5⟩ := TE_J hT hJ q (fun h => by omega)
  rw [if_pos hp.1] at k3
  have F1 := W166_b hF q.2.1
  have no : 0 ≤ nOa M (M 65 28).toNat := by
    generalize (M 65 28).toNat = z
    induction z with
    | zero => exact Int.le_refl _
    | succ z ih => show 0 ≤ nOa M z + (if 0 ≤ M 86 z then 1 else 0); split <;> omega
  have o0 : 0 ≤ M 65 34 := by rw [← hJ.2.2.1]; exact no
  have b0 : 0 ≤ M 65 28 ∧ M 65 28 ≤ 120 := hT 65 28
  have b9 := room_o hT hJ ho
  have b1 : M1 65 28 = M 65 28 + 1 := q.2.2.1
  have e1 : ib 0 (M1 65 34) 1 = M1 65 34 + 1 := ib0 (by unfold in32; omega)
  have t2 : okTT (up M1 65 34 (M1 65 34 + 1)) := okTT_up q.1 (by show (-2147483648 : Int) ≤ M1 65 34 + 1 ∧ M1 65 34 + 1 ≤ 2147483647; omega)
  have J2 : JM (up M1 65 34 (M1 65 34 + 1)) := ⟨k1, k2, by
    show nOa (up M1 65 34 (M1 65 34 + 1)) (M1 65 28).toNat = M1 65 34 + 1
    have e2 : nOa (up M1 65 34 (M1 65 34 + 1)) (M1 65 28).toNat = nOa M1 (M1 65 28).toNat := nOa_congr (fun j _ => rfl)
    rw [e2, k3, k4], by
    show M1 65 34 + 1 ≤ 100
    omega⟩
  have F2 : FrM W166 M0 (up M1 65 34 (M1 65 34 + 1)) := FrM_up F1 (by decide)
  rw [rb165]
  refine d_ld fun _ => d_ib (d_st (d_ld fun _ => d_ca ⟨50, by decide, ?_⟩))
  show Wp X 50 160 0 (eL 0 [vR 0 65, vI (M1 65 0)]) [] (up M1 65 34 (ib 0 (M1 65 34) 1)) _
  rw [e1]
  refine (work_J t2 J2).mono fun v3 M3 r _ _ _ => ?_
  obtain ⟨r1, r2, r3, -⟩ := r
  have F3 := W166_a F2 r2
  have b3 : M3 65 28 = M1 65 28 := r2 65 28 rfl
  have e4 : ib 1 (M3 65 28) 1 = M3 65 28 - 1 := is1 (by omega)
  have ix : 0 ≤ ib 1 (M3 65 28) 1 ∧ ib 1 (M3 65 28) 1 < ((120 : Nat) : Int) := by omega
  have ic : 0 ≤ σ 1 ∧ σ 1 < ((20 : Nat) : Int) := by omega
  have fin : ∀ z : Int, 0 ≤ z ∧ z ≤ 1 → ∀ k : Nat, okTT (up M3 89 k z) ∧ JM (up M3 89 k z) ∧ FrM W166 M0 (up M3 89 k z) := fun z hz k => ⟨okTT_up r1 (by rw [tiv_a (i := (0, 1)) rfl]; exact hz), JM_same r3 rfl (fun _ => rfl) (fun _ => rfl) (fun _ => rfl) rfl (Int.le_refl _), FrM_up F3 (wOf_a (by decide))⟩
  rw [rb160]
  refine d_ld fun _ => d_ib (d_la ic fun _ => d_br (fun h => d_bo (Or.inl rfl) (d_sa ix (d_la ic fun _ => d_r1 (fin 0 (by decide) _)))) fun h => d_bo (Or.inr rfl) (d_sa ix (d_la ic fun _ => d_r1 (fin 1 (by decide) _))))
theorem swear_m {X : Xs} {M : Mm} {p c : Int} (hT : okTT M) (hJ : JM M) : Wp X 70 166 0 (eL 0 [vR 0 65, vI p, vI c]) [] M (fun _ M' => okTT M' ∧ JM M' ∧ FrM W166 M M') := by
  have F0 : FrM W166 M M := fun _ _ _ => rfl
  have bp : 0 ≤ M 65 1 ∧ M 65 1 ≤ 30 := hT 65 1
  have bc : 0 ≤ M 65 21 ∧ M 65 21 ≤ 20 := hT 65 21
  refine Wp_den 2 80 [(4, 65), (1, 0), (1, 1)] (us (us (fun _ => 0) 0 p) 1 c) [(4, 65, [(0, 1)]), (0, 1, [(1, 2), (0, 1)]), (15, 2, [(3, 0), (2, 0), (0, 1)]), (19, 0, [(0, -100001)]), (15, 4, [(3, 0), (3, 3), (0, 1)]), (19, 0, [(0, -100001)]), (4, 65, [(0, 21)]), (0, 1, [(1, 4), (0, 1)]), (15, 2, [(3, 1), (2, 0), (0, 1)]), (19, 0, [(0, -100001)]), (15, 4, [(3, 1), (3, 5), (0, 1)]), (19, 0, [(0, -100001)]), (4, 65, [(0, 0)]), (16, 160, [(4, 65), (1, 6)]), (5, 94, [(1, 1)]), (15, 1, [(1, 7), (0, 0), (0, 1)]), (19, 0, [(0, -100003)]), (16, 163, [(4, 65), (1, 0), (1, 1)]), (15, 1, [(1, 8), (0, 0), (0, 1)]), (19, 0, [(0, -100003)]), (16, 164, [(4, 65), (1, 0)]), (5, 71, [(1, 0)]), (15, 3, [(1, 9), (1, 10), (0, 1)]), (19, 0, [(0, -100003)]), (4, 65, [(0, 0)]), (4, 65, [(0, 0)]), (16, 158, [(4, 65), (1, 0), (1, 1), (1, 11), (1, 12)]), (15, 5, [(1, 13), (0, 0), (0, 21)]), (4, 65, [(0, 34)]), (15, 1, [(1, 14), (0, 100), (0, 18)]), (16, 165, [(4, 65), (1, 0), (1, 1)]), (4, 65, [(0, 34)]), (0, 0, [(1, 15), (0, 1)]), (10, 65, [(0, 34), (1, 16)]), (4, 65, [(0, 0)]), (16, 160, [(4, 65), (1, 17)]), (4, 65, [(0, 28)]), (0, 1, [(1, 18), (0, 1)]), (5, 94, [(1, 1)]), (15, 1, [(1, 20), (0, 1), (0, 4)]), (12, 0, [(0, 0)]), (11, 89, [(1, 19), (0, 0)]), (5, 96, [(1, 1)]), (19, 0, [(1, 21)]), (12, 0, [(0, 1)]), (11, 89, [(1, 19), (0, 1)]), (5, 96, [(1, 1)]), (19, 0, [(1, 21)]), (19, 0, [(0, -100004)]), (19, 0, [(0, -100003)])] (by decide +kernel) rfl rfl (by decide) ?_
  refine d_ld fun _ => d_ib (d_br (fun _ => d_r1 ⟨hT, hJ, F0⟩) fun h1 => d_br (fun _ => d_r1 ⟨hT, hJ, F0⟩) fun h2 => d_ld fun _ => d_ib (d_br (fun _ => d_r1 ⟨hT, hJ, F0⟩) fun h3 => d_br (fun _ => d_r1 ⟨hT, hJ, F0⟩) fun h4 => d_ld fun _ => d_ca ⟨50, by decide, (work_J hT hJ).mono fun v1 M1 q _ _ _ => ?_⟩))
  obtain ⟨t1, f1, g1, -⟩ := q
  have F1 := W166_a F0 f1
  have h1 : ¬ p < 0 := h1
  have h2 : ¬ ib 1 (M 65 1) 1 < p := h2
  have h3 : ¬ c < 0 := h3
  have h4 : ¬ ib 1 (M 65 21) 1 < c := h4
  rw [is1 (by omega)] at h2 h4
  have hp : 0 ≤ p ∧ p ≤ 29 := by omega
  have hc : 0 ≤ c ∧ c ≤ 19 := by omega
  have n1 : 0 ≤ M1 65 0 ∧ M1 65 0 ≤ 9000 := t1 65 0
  rw [rb160]
  refine d_la (by show 0 ≤ c ∧ c < ((20 : Nat) : Int); omega) fun _ => d_br (fun _ => d_r1 ⟨t1, g1, F1⟩) fun _ => d_ca ⟨10, by decide, (ok163_0 X [vR 0 65, vI p, vI c] M1 ⟨rfl, ⟨p, rfl, hp⟩, ⟨c, rfl, hc⟩, trivial⟩ t1 trivial).mono fun v2 M2 q2 _ _ _ => ?_⟩
  obtain ⟨-, f2, -⟩ := q2
  obtain rfl := nil_eq f2
  rw [rb163]
  refine d_br (fun _ => d_r1 ⟨t1, g1, F1⟩) fun _ => d_ca ⟨10, by decide, (ok164_0 X [vR 0 65, vI p] M2 ⟨rfl, ⟨p, rfl, hp⟩, trivial⟩ t1 trivial).mono fun v3 M3 q3 _ _ _ => ?_⟩
  obtain ⟨-, f3, -⟩ := q3
  obtain rfl := nil_eq f3
  rw [rb164]
  refine d_la (by show 0 ≤ p ∧ p < ((30 : Nat) : Int); omega) fun _ => d_br (fun _ => d_r1 ⟨t1, g1, F1⟩) fun _ => d_ld fun _ => d_ld fun _ => d_ca ⟨40, by decide, (ok158_0 X [vR 0 65, vI p, vI c, vI (M3 65 0), vI (M3 65 0)] M3 ⟨rfl, ⟨p, rfl, hp⟩, ⟨c, rfl, hc⟩, ⟨_, rfl, n1⟩, ⟨_, rfl, n1⟩, trivial⟩ t1 trivial).mono fun v4 M4 q4 _ _ _ => ?_⟩
  obtain ⟨t4, f4, -⟩ := q4
  have J4 := W158_J g1 f4
  have F4 := W166_c F1 f4
  rw [rb158]
  refine d_br (fun _ => d_ld fun _ => d_br (fun h => ?_) fun _ => d_r1 ⟨t4, J4, F4⟩) fun _ => d_r1 ⟨t4, J4, F4⟩
  have h : M4 65 34 ≠ 100 := h
  have := J4.2.2.2
  exact swear_t t4 J4 F4 hp hc (by omega) rfl rfl
