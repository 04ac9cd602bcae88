/-! one instruction as steps -/
def in32B (z : Int) : Bool := decide (-2147483648 ≤ z) && decide (z ≤ 2147483647)
def in64B (z : Int) : Bool := decide (-9223372036854775808 ≤ z) && decide (z ≤ 9223372036854775807)
def zb (b : Nat) (x y : Int) : Int := match b with
  | 0 => x + y
  | 1 => x - y
  | _ => x * y
theorem in32B_ok {z : Int} (h : in32B z = true) : in32 z := by
  unfold in32B at h
  simp only [Bool.and_eq_true, decide_eq_true_eq] at h
  exact h
theorem in64B_ok {z : Int} (h : in64B z = true) : in64 z := by
  unfold in64B at h
  simp only [Bool.and_eq_true, decide_eq_true_eq] at h
  exact h
theorem ib_zb {b : Nat} {x y : Int} (hb : b ≤ 2) (h : in32 (zb b x y)) : ib b x y = zb b x y := by
  have key : ∀ z : Int32, ∀ w : Int, z = Int32.ofInt w → in32 w → z.toInt = w := fun z w e h => by rw [e]; exact i32_to h
  match b, hb with
  | 0, _ => exact key _ _ (by rw [← Int32.toInt_inj]; simp [zb]) h
  | 1, _ => exact key _ _ (by rw [← Int32.toInt_inj]; simp [zb]) h
  | 2, _ => exact key _ _ (by rw [← Int32.toInt_inj]; simp [zb]) h
theorem lb_zb {b : Nat} {x y : Int} (hb : b ≤ 2) (h : in64 (zb b x y)) : lb b x y = zb b x y := by
  have key : ∀ z : Int64, ∀ w : Int, z = Int64.ofInt w → in64 w → z.toInt = w := fun z w e h => by rw [e]; exact i64_to h
  match b, hb with
  | 0, _ => exact key _ _ (by rw [← Int64.toInt_inj]; simp [zb]) h
  | 1, _ => exact key _ _ (by rw [← Int64.toInt_inj]; simp [zb]) h
  | 2, _ => exact key _ _ (by rw [← Int64.toInt_inj]; simp [zb]) h
abbrev Go : Type := List Node × Nat × List (Nat × AV) × List AV
def okTB (ci s f : Nat) : Bool := match cls[ci]? with
  | some r => decide (parseFieldDescriptor (r.2.1 s).2.2.1 = some (fty f))
  | none => false
def g4 (w i : Nat) (L : List (Nat × AV)) (S : List AV) (p : AV → Bool) : Option Go := match lkA L (iB w) with
  | some a => if p a = true then some ([], i + 1, L, a :: S) else none
  | none => none
def g7 (w i : Nat) (L : List (Nat × AV)) (S : List AV) (p : AV → Bool) (st : Nat → AV → List (Nat × AV) → List (Nat × AV)) : Option Go := match S with
  | a :: S' => if p a = true then some ([], i + 1, st (iB w) a L, S') else none
  | [] => none
def g10 (w i n : Nat) (L : List (Nat × AV)) (S : List AV) : Option Go := match lkA L (iB w) with
  | some (0, c) => if in32B (c + iS w) = true then some ([], i + 1, stA1 (iB w) (0, c + iS w) L, S) else none
  | some (1, c) => some ([(0, 0, [(1, c), (0, iS w)])], i + 1, stA1 (iB w) (1, (n : Int)) L, S)
  | _ => none
def g11 (w i n : Nat) (L : List (Nat × AV)) (S : List AV) : Option Go := match S with
  | (0, y) :: (0, x) :: S' => if decide (iB w ≤ 2) && in32B (zb (iB w) x y) then some ([], i + 1, L, (0, zb (iB w) x y) :: S') else some ([(0, iB w, [(0, x), (0, y)])], i + 1, L, (1, (n : Int)) :: S')
  | y :: x :: S' => if isI x && isI y then some ([(0, iB w, [x, y])], i + 1, L, (1, (n : Int)) :: S') else none
  | _ => none
def g12 (w i n : Nat) (L : List (Nat × AV)) (S : List AV) : Option Go := match S with
  | (2, y) :: (2, x) :: S' => if decide (iB w ≤ 2) && in64B (zb (iB w) x y) then some ([], i + 1, L, (2, zb (iB w) x y) :: S') else some ([(1, iB w, [(2, x), (2, y)])], i + 1, L, (3, (n : Int)) :: S')
  | y :: x :: S' => if isL x && isL y then some ([(1, iB w, [x, y])], i + 1, L, (3, (n : Int)) :: S') else none
  | _ => none
def g13 (w i n : Nat) (L : List (Nat × AV)) (S : List AV) : Option Go := match S with
  | y :: x :: S' => if isL x && isI y then some ([(2, iB w, [x, y])], i + 1, L, (3, (n : Int)) :: S') else none
  | _ => none
def g14 (i : Nat) (L : List (Nat × AV)) (S : List AV) : Option Go := match S with
  | (0, c) :: S' => some ([], i + 1, L, (2, c) :: S')
  | (1, c) :: S' => some ([], i + 1, L, (3, c) :: S')
  | _ => none
def g15 (i n : Nat) (L : List (Nat × AV)) (S : List AV) : Option Go := match S with
  | x :: S' => if isL x = true then some ([(3, 0, [x])], i + 1, L, (1, (n : Int)) :: S') else none
  | [] => none
def g16 (i n : Nat) (L : List (Nat × AV)) (S : List AV) : Option Go := match S with
  | x :: S' => if isI x = true then some ([(3, 1, [x])], i + 1, L, (1, (n : Int)) :: S') else none
  | [] => none
def g22 (w i n : Nat) (L : List (Nat × AV)) (S : List AV) : Option Go := match S with
  | (4, r) :: S' => match SH[r.toNat]? with
    | some (.inr (ci, fk)) => if ci = iA w then match fk[iB w]? with
        | some 0 => some ([(4, r.toNat, [(0, (iB w : Int))])], i + 1, L, (1, (n : Int)) :: S')
        | some 1 => some ([(4, r.toNat, [(0, (iB w : Int))])], i + 1, L, (3, (n : Int)) :: S')
        | some 2 => some ([(4, r.toNat, [(0, (iB w : Int))])], i + 1, L, (1, (n : Int)) :: S')
        | some (q + 3) => some ([], i + 1, L, (4, (q : Int)) :: S')
        | none => none
      else none
    | _ => none
  | _ => none
def g23 (w i : Nat) (L : List (Nat × AV)) (S : List AV) : Option Go := match S with
  | v :: (4, r) :: S' => match SH[r.toNat]? with
    | some (.inr (ci, fk)) => if ci = iA w then match fk[iB w]? with
        | some 0 => if isI v && okTB ci (iB w) 0 then some ([(10, r.toNat, [(0, (iB w : Int)), v])], i + 1, L, S') else none
        | some 1 => if isL v && okTB ci (iB w) 1 then some ([(10, r.toNat, [(0, (iB w : Int)), v])], i + 1, L, S') else none
        | some 2 => if isI v && okTB ci (iB w) 2 then some ([(12, 0, [v]), (10, r.toNat, [(0, (iB w : Int)), v])], i + 1, L, S') else none
        | _ => none
      else none
    | _ => none
  | _ => none
def g24 (w i : Nat) (L : List (Nat × AV)) (S : List AV) : Option Go := match iA w with
  | 0 => some ([], i + 1, L, (5, 1) :: S)
  | 1 => some ([], i + 1, L, (0, 1) :: S)
  | _ => some ([], i + 1, L, (7, 0) :: S)
def g25 (i n : Nat) (L : List (Nat × AV)) (S : List AV) : Option Go := match S with
  | x :: (4, r) :: S' => if isI x = true then match SH[r.toNat]? with
      | some (.inl (0, _)) => some ([(5, r.toNat, [x])], i + 1, L, (1, (n : Int)) :: S')
      | _ => none
    else none
  | x :: (5, 0) :: S' => if isI x = true then some ([(6, 0, [x])], i + 1, L, (1, (n : Int)) :: S') else none
  | x :: (5, 1) :: S' => if isI x = true then some ([(8, 0, [x])], i + 1, L, (1, (n : Int)) :: S') else none
  | _ => none
def g26 (i n : Nat) (L : List (Nat × AV)) (S : List AV) : Option Go := match S with
  | x :: (4, r) :: S' => if isI x = true then match SH[r.toNat]? with
      | some (.inl (1, _)) => some ([(5, r.toNat, [x])], i + 1, L, (1, (n : Int)) :: S')
      | _ => none
    else none
  | x :: (5, r) :: S' => if isI x && decide (3 ≤ r.toNat) && decide (r.toNat < 15) then some ([(9, r.toNat - 3, [x])], i + 1, L, (1, (n : Int)) :: S') else none
  | _ => none
def g27 (i : Nat) (L : List (Nat × AV)) (S : List AV) : Option Go := match S with
  | z :: x :: (4, r) :: S' => if isI x && isI z then match SH[r.toNat]? with
      | some (.inl (0, _)) => some ([(11, r.toNat, [x, z])], i + 1, L, S')
      | _ => none
    else none
  | _ => none
def g28 (i : Nat) (L : List (Nat × AV)) (S : List AV) : Option Go := match S with
  | z :: x :: (4, r) :: S' => if isI x && isI z then match SH[r.toNat]? with
      | some (.inl (1, _)) => some ([(12, 0, [z]), (11, r.toNat, [x, z])], i + 1, L, S')
      | _ => none
    else none
  | _ => none
def g29 (i n : Nat) (L : List (Nat × AV)) (S : List AV) : Option Go := match S with
  | (5, 0) :: S' => some ([(7, 0, [])], i + 1, L, (1, (n : Int)) :: S')
  | (5, r) :: S' => if decide (3 ≤ r.toNat) && decide (r.toNat < 15) then some ([], i + 1, L, (0, (strLen.getD (r.toNat - 3) 0 : Int)) :: S') else none
  | _ => none
def g30 (i : Nat) (L : List (Nat × AV)) (S : List AV) : Option Go := match S with
  | a :: S' => if catA a = 1 then some ([], i + 1, L, a :: a :: S') else none
  | [] => none
def g31 (i : Nat) (L : List (Nat × AV)) (S : List AV) : Option Go := match S with
  | a :: b :: S' => if catA a = 1 ∧ catA b = 1 then some ([], i + 1, L, a :: b :: a :: b :: S') else none
  | _ => none
def g32 (i : Nat) (L : List (Nat × AV)) (S : List AV) : Option Go := match S with
  | a :: S' => if catA a = 1 then some ([], i + 1, L, S') else none
  | [] => none
def cSA (S : List AV) : Nat := (S.map catA).sum
def g39 (i : Nat) (L : List (Nat × AV)) (S : List AV) : Option Go := match S with
  | q :: dp :: (4, r2) :: sp :: (4, r1) :: S' => if isI q && isI dp && isI sp && decide (cSA S' ≤ 8) then match SH[r1.toNat]?, SH[r2.toNat]? with
      | some (.inl (0, _)), some (.inl (0, _)) => some ([(14, r1.toNat, [(4, r2), sp, dp, q])], i + 1, L, S')
      | _, _ => none
    else none
  | _ => none
def g41 (w i : Nat) (L : List (Nat × AV)) (S : List AV) : Option Go := match S with
  | (6, r) :: S' => if r.toNat < 12 then some ([], i + 1, L, (if iA w = 0 then (5, ((3 + r.toNat : Nat) : Int)) else (0, 0)) :: S') else none
  | _ => none
def g42 (w : Nat) (L : List (Nat × AV)) (S : List AV) : Option Go := match S with
  | a :: S' => if isR a = true then some ([], iB w, L, S') else none
  | [] => none
def g43 (w i n : Nat) (L : List (Nat × AV)) (S : List AV) : Option Go := match S with
  | y :: x :: S' => if isI x && isI y && decide (cSA S' ≤ 8) then some ([(0, if iA w = 0 then 9 else 10, [x, y])], i + 1, L, (1, (n : Int)) :: S') else none
  | _ => none
def go1 (k i n : Nat) (L : List (Nat × AV)) (S : List AV) : Option Go := match iO (wd k i) with
  | 0 => some ([], i + 1, L, (0, iZ (wd k i)) :: S)
  | 1 => some ([], i + 1, L, (0, iZ (wd k i)) :: S)
  | 2 => some ([], i + 1, L, (2, iZ (wd k i)) :: S)
  | 3 => some ([], i + 1, L, (2, iZ (wd k i)) :: S)
  | 4 => g4 (wd k i) i L S isI
  | 5 => g4 (wd k i) i L S isL
  | 6 => g4 (wd k i) i L S isR
  | 7 => g7 (wd k i) i L S isI stA1
  | 8 => g7 (wd k i) i L S isL stA2
  | 9 => g7 (wd k i) i L S isR stA1
  | 10 => g10 (wd k i) i n L S
  | 11 => g11 (wd k i) i n L S
  | 12 => g12 (wd k i) i n L S
  | 13 => g13 (wd k i) i n L S
  | 14 => g14 i L S
  | 15 => g15 i n L S
  | 16 => g16 i n L S
  | 20 => some ([], iB (wd k i), L, S)
  | 22 => g22 (wd k i) i n L S
  | 23 => g23 (wd k i) i L S
  | 24 => g24 (wd k i) i L S
  | 25 => g25 i n L S
  | 26 => g26 i n L S
  | 27 => g27 i L S
  | 28 => g28 i L S
  | 29 => g29 i n L S
  | 30 => g30 i L S
  | 31 => g31 i L S
  | 32 => g32 i L S
  | 39 => g39 i L S
  | 40 => some ([], i + 1, L, (6, (iA (wd k i) : Int)) :: S)
  | 41 => g41 (wd k i) i L S
  | 42 => g42 (wd k i) L S
  | 43 => g43 (wd k i) i n L S
  | _ => none
/-! what the steps say of the instruction -/
section GO
variable {X : Xs} {d k i n : Nat} {L : List (Nat × AV)} {S : List AV} {ins : Instr} {len : Nat} {o : Go}
def GoOK (X : Xs) (d k i n : Nat) (L : List (Nat × AV)) (S : List AV) (o : Go) : Prop := (∀ x ∈ o.1, x.1 < 15) ∧ wL (n + bns o.1) o.2.2.1 ∧ wS (n + bns o.1) o.2.2.2 ∧ ∀ (σ : Nat → Int) (M : Mm) (Q : Option V → Mm → Prop), nds X o.1 n σ M (fun τ M' => Wp X d k o.2.1 (evL τ o.2.2.1) (o.2.2.2.map (ev τ)) M' Q) → Wp X d k i (evL σ L) (S.map (ev σ)) M Q
theorem ev_n1 {σ : Nat → Int} {n : Nat} {z : Int} : ev (us σ n z) (1, (n : Int)) = vI z := by
  show vI (us σ n z ((n : Int)).toNat) = vI z
  rw [Int.toNat_natCast, us_at]
theorem ev_n3 {σ : Nat → Int} {n : Nat} {z : Int} : ev (us σ n z) (3, (n : Int)) = vL z := by
  show vL (us σ n z ((n : Int)).toNat) = vL z
  rw [Int.toNat_natCast, us_at]
theorem fin1 {i' : Nat} {σ : Nat → Int} {z : Int} {M : Mm} {Q : Option V → Mm → Prop} (hL : wL n L) (hS : wS n S) (q : Wp X d k i' (evL (us σ n z) L) (((1, (n : Int)) :: S).map (ev (us σ n z))) M Q) : Wp X d k i' (evL σ L) (vI z :: S.map (ev σ)) M Q := by
  rw [List.map_cons, ev_n1, evL_agree (us_agree σ n z) hL, evS_agree (us_agree σ n z) hS] at q
  exact q
theorem fin3 {i' : Nat} {σ : Nat → Int} {z : Int} {M : Mm} {Q : Option V → Mm → Prop} (hL : wL n L) (hS : wS n S) (q : Wp X d k i' (evL (us σ n z) L) (((3, (n : Int)) :: S).map (ev (us σ n z))) M Q) : Wp X d k i' (evL σ L) (vL z :: S.map (ev σ)) M Q := by
  rw [List.map_cons, ev_n3, evL_agree (us_agree σ n z) hL, evS_agree (us_agree σ n z) hS] at q
  exact q
theorem wS_t {a : AV} (h : wS n (a :: S)) : wS n S := fun x hx => h x (List.mem_cons_of_mem _ hx)
theorem wS_h {a : AV} (h : wS n (a :: S)) : wA n a := h a List.mem_cons_self
theorem bns1 {x : Node} (h : x.1 < 10) : bns [x] = 1 := by
  unfold bns bn
  simp [h]
theorem lt15 {x : Node} (h : x.1 < 15) : ∀ y ∈ [x], y.1 < 15 := fun y hy => by rw [List.mem_singleton.mp hy]; exact h
theorem lt152 {x y : Node} (h : x.1 < 15) (h2 : y.1 < 15) : ∀ z ∈ [x, y], z.1 < 15 := by
  intro z hz
  rcases List.mem_cons.mp hz with rfl | hz
  · exact h
  · rw [List.mem_singleton.mp hz]; exact h2
/-- a step that names a new number -/
theorem ok1n {x : Node} {t i' : Nat} {S' : List AV} (hx : x.1 < 10) (hL : wL n L) (hS' : wS n S') (h : ∀ (σ : Nat → Int) (M : Mm) (Q : Option V → Mm → Prop), nd X x n σ M (fun τ M' => Wp X d k i' (evL τ L) (((t, (n : Int)) :: S').map (ev τ)) M' Q) → Wp X d k i (evL σ L) (S.map (ev σ)) M Q) : GoOK X d k i n L S ([x], i', L, (t, (n : Int)) :: S') := by
  refine ⟨lt15 (Nat.lt_of_lt_of_le hx (by decide)), ?_, ?_, fun σ M Q q => h σ M Q q⟩
  · show wL (n + bns [x]) L
    rw [bns1 hx]
    exact hL.mono (Nat.le_succ _)
  · show wS (n + bns [x]) _
    rw [bns1 hx]
    exact wS_c wA_n (hS'.mono (Nat.le_succ _))
theorem gs0 (hd : decode (mB k) (pcA k i) = .ok (ins, len)) (ho : ok0 (wd k i) (pcA k (i + 1)) ins len = true) (hL : wL n L) (hS : wS n S) : GoOK X d k i n L S ([], i + 1, L, (0, iZ (wd k i)) :: S) :=
  ⟨fun x hx => (by cases hx), hL, wS_c (wA_k (by decide)) hS, fun σ M Q q => T0 hd ho q⟩
theorem gs1 (hd : decode (mB k) (pcA k i) = .ok (ins, len)) (ho : ok1 k (wd k i) (pcA k (i + 1)) ins len = true) (hL : wL n L) (hS : wS n S) : GoOK X d k i n L S ([], i + 1, L, (0, iZ (wd k i)) :: S) :=
  ⟨fun x hx => (by cases hx), hL, wS_c (wA_k (by decide)) hS, fun σ M Q q => T1 hd ho q⟩
theorem gs2 (hd : decode (mB k) (pcA k i) = .ok (ins, len)) (ho : ok2 (wd k i) (pcA k (i + 1)) ins len = true) (hL : wL n L) (hS : wS n S) : GoOK X d k i n L S ([], i + 1, L, (2, iZ (wd k i)) :: S) :=
  ⟨fun x hx => (by cases hx), hL, wS_c (wA_k (by decide)) hS, fun σ M Q q => T2 hd ho q⟩
theorem gs3 (hd : decode (mB k) (pcA k i) = .ok (ins, len)) (ho : ok3 k (wd k i) (pcA k (i + 1)) ins len = true) (hL : wL n L) (hS : wS n S) : GoOK X d k i n L S ([], i + 1, L, (2, iZ (wd k i)) :: S) :=
  ⟨fun x hx => (by cases hx), hL, wS_c (wA_k (by decide)) hS, fun σ M Q q => T3 hd ho q⟩
theorem gs4 (hd : decode (mB k) (pcA k i) = .ok (ins, len)) (ho : ok4 (wd k i) (pcA k (i + 1)) ins len = true) (hL : wL n L) (hS : wS n S) (h : g4 (wd k i) i L S isI = some o) : GoOK X d k i n L S o := by
  unfold g4 at h
  split at h
  · rename_i a ha
    split at h
    · rename_i hp
      obtain rfl := Option.some.inj h
      refine ⟨fun x hx => (by cases hx), hL, wS_c (hL _ (lkA_mem ha)) hS, fun σ M Q q => ?_⟩
      have hv := ev_lk (σ := σ) ha
      rw [ev_I hp] at hv
      have q : Wp X d k (i + 1) (evL σ L) ((a :: S).map (ev σ)) M Q := q
      rw [List.map_cons, ev_I hp] at q
      exact T4 hd ho hv q
    · cases h
  · cases h
theorem gs5 (hd : decode (mB k) (pcA k i) = .ok (ins, len)) (ho : ok5 (wd k i) (pcA k (i + 1)) ins len = true) (hL : wL n L) (hS : wS n S) (h : g4 (wd k i) i L S isL = some o) : GoOK X d k i n L S o := by
  unfold g4 at h
  split at h
  · rename_i a ha
    split at h
    · rename_i hp
      obtain rfl := Option.some.inj h
      refine ⟨fun x hx => (by cases hx), hL, wS_c (hL _ (lkA_mem ha)) hS, fun σ M Q q => ?_⟩
      have hv := ev_lk (σ := σ) ha
      rw [ev_L hp] at hv
      have q : Wp X d k (i + 1) (evL σ L) ((a :: S).map (ev σ)) M Q := q
      rw [List.map_cons, ev_L hp] at q
      exact T5 hd ho hv q
    · cases h
  · cases h
theorem gs6 (hd : decode (mB k) (pcA k i) = .ok (ins, len)) (ho : ok6 (wd k i) (pcA k (i + 1)) ins len = true) (hL : wL n L) (hS : wS n S) (h : g4 (wd k i) i L S isR = some o) : GoOK X d k i n L S o := by
  unfold g4 at h
  split at h
  · rename_i a ha
    split at h
    · rename_i hp
      obtain rfl := Option.some.inj h
      refine ⟨fun x hx => (by cases hx), hL, wS_c (hL _ (lkA_mem ha)) hS, fun σ M Q q => ?_⟩
      have hv := ev_lk (σ := σ) ha
      obtain ⟨t, ht, -, e⟩ := ev_R (σ := σ) hp
      rw [e] at hv
      have q : Wp X d k (i + 1) (evL σ L) ((a :: S).map (ev σ)) M Q := q
      rw [List.map_cons, e] at q
      exact T6 ht hd ho hv q
    · cases h
  · cases h
theorem gs7 (hd : decode (mB k) (pcA k i) = .ok (ins, len)) (ho : ok7 k (wd k i) (pcA k (i + 1)) ins len = true) (hL : wL n L) (hS : wS n S) (h : g7 (wd k i) i L S isI stA1 = some o) : GoOK X d k i n L S o := by
  unfold g7 at h
  split at h
  · rename_i a S'
    split at h
    · rename_i hp
      obtain rfl := Option.some.inj h
      refine ⟨fun x hx => (by cases hx), wL_st1 hL (wS_h hS), wS_t hS, fun σ M Q q => ?_⟩
      have q : Wp X d k (i + 1) (evL σ (stA1 (iB (wd k i)) a L)) (S'.map (ev σ)) M Q := q
      rw [evL_st1, ev_I hp] at q
      rw [List.map_cons, ev_I hp]
      exact T7 hd ho q
    · cases h
  · cases h
theorem gs8 (hd : decode (mB k) (pcA k i) = .ok (ins, len)) (ho : ok8 k (wd k i) (pcA k (i + 1)) ins len = true) (hL : wL n L) (hS : wS n S) (h : g7 (wd k i) i L S isL stA2 = some o) : GoOK X d k i n L S o := by
  unfold g7 at h
  split at h
  · rename_i a S'
    split at h
    · rename_i hp
      obtain rfl := Option.some.inj h
      refine ⟨fun x hx => (by cases hx), wL_st2 hL (wS_h hS), wS_t hS, fun σ M Q q => ?_⟩
      have q : Wp X d k (i + 1) (evL σ (stA2 (iB (wd k i)) a L)) (S'.map (ev σ)) M Q := q
      rw [evL_st2, ev_L hp] at q
      rw [List.map_cons, ev_L hp]
      exact T8 hd ho q
    · cases h
  · cases h
theorem gs9 (hd : decode (mB k) (pcA k i) = .ok (ins, len)) (ho : ok9 k (wd k i) (pcA k (i + 1)) ins len = true) (hL : wL n L) (hS : wS n S) (h : g7 (wd k i) i L S isR stA1 = some o) : GoOK X d k i n L S o := by
  unfold g7 at h
  split at h
  · rename_i a S'
    split at h
    · rename_i hp
      obtain rfl := Option.some.inj h
      refine ⟨fun x hx => (by cases hx), wL_st1 hL (wS_h hS), wS_t hS, fun σ M Q q => ?_⟩
      obtain ⟨t, ht, -, e⟩ := ev_R (σ := σ) hp
      have q : Wp X d k (i + 1) (evL σ (stA1 (iB (wd k i)) a L)) (S'.map (ev σ)) M Q := q
      rw [evL_st1, e] at q
      rw [List.map_cons, e]
      exact T9 ht hd ho q
    · cases h
  · cases h
theorem gs10 (hd : decode (mB k) (pcA k i) = .ok (ins, len)) (ho : ok10 k (wd k i) (pcA k (i + 1)) ins len = true) (hL : wL n L) (hS : wS n S) (h : g10 (wd k i) i n L S = some o) : GoOK X d k i n L S o := by
  unfold g10 at h
  split at h
  · rename_i c ha
    split at h
    · rename_i hp
      obtain rfl := Option.some.inj h
      refine ⟨fun x hx => (by cases hx), wL_st1 hL (wA_k (by decide)), hS, fun σ M Q q => ?_⟩
      have q : Wp X d k (i + 1) (evL σ (stA1 (iB (wd k i)) (0, c + iS (wd k i)) L)) (S.map (ev σ)) M Q := q
      rw [evL_st1] at q
      refine T10 (z := c) hd ho (ev_lk (σ := σ) ha) ?_
      rw [ib_zb (b := 0) (x := c) (y := iS (wd k i)) (by decide) (in32B_ok hp)]
      exact q
    · cases h
  · rename_i c ha
    obtain rfl := Option.some.inj h
    have hc := hL _ (lkA_mem ha)
    refine ⟨lt15 (by show (0 : Nat) < 15; decide), ?_, ?_, fun σ M Q q => ?_⟩
    · show wL (n + 1) _
      exact wL_st1 (hL.mono (Nat.le_succ _)) wA_n
    · show wS (n + 1) _
      exact hS.mono (Nat.le_succ _)
    · have q : Wp X d k (i + 1) (evL (us σ n (ib 0 (σ c.toNat) (iS (wd k i)))) (stA1 (iB (wd k i)) (1, (n : Int)) L)) (S.map (ev (us σ n (ib 0 (σ c.toNat) (iS (wd k i)))))) M Q := q
      rw [evL_st1, ev_n1, evL_agree (us_agree σ n _) hL, evS_agree (us_agree σ n _) hS] at q
      exact T10 (z := σ c.toNat) hd ho (ev_lk (σ := σ) ha) q
  · cases h
theorem gs11 (hd : decode (mB k) (pcA k i) = .ok (ins, len)) (ho : ok11 (wd k i) (pcA k (i + 1)) ins len = true) (hL : wL n L) (hS : wS n S) (h : g11 (wd k i) i n L S = some o) : GoOK X d k i n L S o := by
  unfold g11 at h
  split at h
  · rename_i y x S'
    have hS' := wS_t (wS_t hS)
    split at h
    · rename_i hp
      simp only [Bool.and_eq_true, decide_eq_true_eq] at hp
      obtain rfl := Option.some.inj h
      refine ⟨fun x hx => (by cases hx), hL, wS_c (wA_k (by decide)) hS', fun σ M Q q => T11 hd ho ?_⟩
      rw [ib_zb hp.1 (in32B_ok hp.2)]
      exact q
    · obtain rfl := Option.some.inj h
      exact ok1n (by show (0 : Nat) < 10; decide) hL hS' fun σ M Q q => T11 hd ho (fin1 hL hS' q)
  · rename_i y x S' _
    have hS' := wS_t (wS_t hS)
    split at h
    · rename_i hp
      simp only [Bool.and_eq_true] at hp
      obtain rfl := Option.some.inj h
      refine ok1n (by show (0 : Nat) < 10; decide) hL hS' fun σ M Q q => ?_
      rw [List.map_cons, List.map_cons, ev_I hp.1, ev_I hp.2]
      exact T11 hd ho (fin1 hL hS' q)
    · cases h
  · cases h
theorem gs12 (hd : decode (mB k) (pcA k i) = .ok (ins, len)) (ho : ok12 (wd k i) (pcA k (i + 1)) ins len = true) (hL : wL n L) (hS : wS n S) (h : g12 (wd k i) i n L S = some o) : GoOK X d k i n L S o := by
  unfold g12 at h
  split at h
  · rename_i y x S'
    have hS' := wS_t (wS_t hS)
    split at h
    · rename_i hp
      simp only [Bool.and_eq_true, decide_eq_true_eq] at hp
      obtain rfl := Option.some.inj h
      refine ⟨fun x hx => (by cases hx), hL, wS_c (wA_k (by decide)) hS', fun σ M Q q => T12 hd ho ?_⟩
      rw [lb_zb hp.1 (in64B_ok hp.2)]
      exact q
    · obtain rfl := Option.some.inj h
      exact ok1n (by show (1 : Nat) < 10; decide) hL hS' fun σ M Q q => T12 hd ho (fin3 hL hS' q)
  · rename_i y x S' _
    have hS' := wS_t (wS_t hS)
    split at h
    · rename_i hp
      simp only [Bool.and_eq_true] at hp
      obtain rfl := Option.some.inj h
      refine ok1n (by show (1 : Nat) < 10; decide) hL hS' fun σ M Q q => ?_
      rw [List.map_cons, List.map_cons, ev_L hp.1, ev_L hp.2]
      exact T12 hd ho (fin3 hL hS' q)
    · cases h
  · cases h
theorem gs13 (hd : decode (mB k) (pcA k i) = .ok (ins, len)) (ho : ok13 (wd k i) (pcA k (i + 1)) ins len = true) (hL : wL n L) (hS : wS n S) (h : g13 (wd k i) i n L S = some o) : GoOK X d k i n L S o := by
  unfold g13 at h
  split at h
  · rename_i y x S'
    have hS' := wS_t (wS_t hS)
    split at h
    · rename_i hp
      simp only [Bool.and_eq_true] at hp
      obtain rfl := Option.some.inj h
      refine ok1n (by show (2 : Nat) < 10; decide) hL hS' fun σ M Q q => ?_
      rw [List.map_cons, List.map_cons, ev_L hp.1, ev_I hp.2]
      exact T13 hd ho (fin3 hL hS' q)
    · cases h
  · cases h
theorem gs14 (hd : decode (mB k) (pcA k i) = .ok (ins, len)) (ho : ok14 (wd k i) (pcA k (i + 1)) ins len = true) (hL : wL n L) (hS : wS n S) (h : g14 i L S = some o) : GoOK X d k i n L S o := by
  unfold g14 at h
  split at h
  · obtain rfl := Option.some.inj h
    exact ⟨fun x hx => (by cases hx), hL, wS_c (wA_k (by decide)) (wS_t hS), fun σ M Q q => T14 hd ho q⟩
  · obtain rfl := Option.some.inj h
    have h0 := wS_h hS
    exact ⟨fun x hx => (by cases hx), hL, wS_c (fun _ => h0 (Or.inl rfl)) (wS_t hS), fun σ M Q q => T14 hd ho q⟩
  · cases h
theorem gs15 (hd : decode (mB k) (pcA k i) = .ok (ins, len)) (ho : ok15 (wd k i) (pcA k (i + 1)) ins len = true) (hL : wL n L) (hS : wS n S) (h : g15 i n L S = some o) : GoOK X d k i n L S o := by
  unfold g15 at h
  split at h
  · split at h
    · rename_i hp
      obtain rfl := Option.some.inj h
      refine ok1n (by show (3 : Nat) < 10; decide) hL (wS_t hS) fun σ M Q q => ?_
      rw [List.map_cons, ev_L hp]
      exact T15 hd ho (fin1 hL (wS_t hS) q)
    · cases h
  · cases h
theorem gs16 (hd : decode (mB k) (pcA k i) = .ok (ins, len)) (ho : ok16 (wd k i) (pcA k (i + 1)) ins len = true) (hL : wL n L) (hS : wS n S) (h : g16 i n L S = some o) : GoOK X d k i n L S o := by
  unfold g16 at h
  split at h
  · split at h
    · rename_i hp
      obtain rfl := Option.some.inj h
      refine ok1n (by show (3 : Nat) < 10; decide) hL (wS_t hS) fun σ M Q q => ?_
      rw [List.map_cons, ev_I hp]
      exact T16 hd ho (fin1 hL (wS_t hS) q)
    · cases h
  · cases h
theorem gs20 (hd : decode (mB k) (pcA k i) = .ok (ins, len)) (ho : ok20 k (wd k i) ins len = true) (hL : wL n L) (hS : wS n S) : GoOK X d k i n L S ([], iB (wd k i), L, S) :=
  ⟨fun x hx => (by cases hx), hL, hS, fun σ M Q q => T20 hd ho q⟩
theorem gs22 (hd : decode (mB k) (pcA k i) = .ok (ins, len)) (ho : ok22 k (wd k i) (pcA k (i + 1)) ins len = true) (hL : wL n L) (hS : wS n S) (h : g22 (wd k i) i n L S = some o) : GoOK X d k i n L S o := by
  unfold g22 at h
  split at h
  · rename_i r S'
    have hS' := wS_t hS
    split at h
    · rename_i ci fk hj
      split at h
      · rename_i hc
        subst hc
        split at h
        · rename_i hf
          obtain rfl := Option.some.inj h
          refine ok1n (by show (4 : Nat) < 10; decide) hL hS' fun σ M Q q => T22 hd ho hj hf fun hr => fin1 hL hS' (q ?_)
          show rK (kd r.toNat (iB (wd k i))) _
          rw [kd_obj hj hf]
          exact hr
        · rename_i hf
          obtain rfl := Option.some.inj h
          refine ok1n (by show (4 : Nat) < 10; decide) hL hS' fun σ M Q q => T22 hd ho hj hf fun hr => fin3 hL hS' (q ?_)
          show rK (kd r.toNat (iB (wd k i))) _
          rw [kd_obj hj hf]
          exact hr
        · rename_i hf
          obtain rfl := Option.some.inj h
          refine ok1n (by show (4 : Nat) < 10; decide) hL hS' fun σ M Q q => T22 hd ho hj hf fun hr => fin1 hL hS' (q ?_)
          show rK (kd r.toNat (iB (wd k i))) _
          rw [kd_obj hj hf]
          exact hr
        · rename_i q2 hf
          obtain rfl := Option.some.inj h
          exact ⟨fun x hx => (by cases hx), hL, wS_c (wA_k (by decide)) hS', fun σ M Q q => T22 hd ho hj hf fun _ => q⟩
        · cases h
      · cases h
    · cases h
  · cases h
theorem okTB_ok {ci s f : Nat} (h : okTB ci s f = true) : okT ci s f := by
  intro r hr
  unfold okTB at h
  rw [hr] at h
  exact of_decide_eq_true h
theorem gs23 (hd : decode (mB k) (pcA k i) = .ok (ins, len)) (ho : ok23 k (wd k i) (pcA k (i + 1)) ins len = true) (hL : wL n L) (hS : wS n S) (h : g23 (wd k i) i L S = some o) : GoOK X d k i n L S o := by
  unfold g23 at h
  split at h
  · rename_i v r S'
    have hS' := wS_t (wS_t hS)
    split at h
    · rename_i ci fk hj
      split at h
      · rename_i hc
        subst hc
        split at h
        · rename_i hf
          split at h
          · rename_i hp
            simp only [Bool.and_eq_true] at hp
            obtain rfl := Option.some.inj h
            refine ⟨lt15 (by show (10 : Nat) < 15; decide), hL, hS', fun σ M Q q => ?_⟩
            rw [List.map_cons, ev_I hp.1]
            exact T23 hd ho hj hf (okTB_ok hp.2) (by decide) rfl (fun h => h) q
          · cases h
        · rename_i hf
          split at h
          · rename_i hp
            simp only [Bool.and_eq_true] at hp
            obtain rfl := Option.some.inj h
            refine ⟨lt15 (by show (10 : Nat) < 15; decide), hL, hS', fun σ M Q q => ?_⟩
            rw [List.map_cons, ev_L hp.1]
            exact T23 hd ho hj hf (okTB_ok hp.2) (by decide) rfl (fun h => h) q
          · cases h
        · rename_i hf
          split at h
          · rename_i hp
            simp only [Bool.and_eq_true] at hp
            obtain rfl := Option.some.inj h
            refine ⟨lt152 (by show (12 : Nat) < 15; decide) (by show (10 : Nat) < 15; decide), hL, hS', fun σ M Q q => ?_⟩
            rw [List.map_cons, ev_I hp.1]
            exact T23 hd ho hj hf (okTB_ok hp.2) (by decide) rfl (fun _ => q.1) q.2
          · cases h
        · cases h
      · cases h
    · cases h
  · cases h
theorem gs24 (hd : decode (mB k) (pcA k i) = .ok (ins, len)) (ho : ok24 k (wd k i) (pcA k (i + 1)) ins len = true) (hL : wL n L) (hS : wS n S) (h : g24 (wd k i) i L S = some o) : GoOK X d k i n L S o := by
  unfold g24 at h
  split at h
  · rename_i ha
    obtain rfl := Option.some.inj h
    refine ⟨fun x hx => (by cases hx), hL, wS_c (wA_k (by decide)) hS, fun σ M Q q => T24 hd ho ?_⟩
    rw [ha]
    exact q
  · rename_i ha
    obtain rfl := Option.some.inj h
    refine ⟨fun x hx => (by cases hx), hL, wS_c (wA_k (by decide)) hS, fun σ M Q q => T24 hd ho ?_⟩
    rw [ha]
    exact q
  · obtain rfl := Option.some.inj h
    refine ⟨fun x hx => (by cases hx), hL, wS_c (wA_k (by decide)) hS, fun σ M Q q => T24 hd ho ?_⟩
    rw [show stV (iA (wd k i)) = vR 3 0 from by unfold stV; split <;> first | contradiction | rfl]
    exact q
theorem alen_of {j c m : Nat} (h : SH[j]? = some (.inl (c, m))) : alen j = m := by
  unfold alen
  rw [h]
theorem gs25 (hd : decode (mB k) (pcA k i) = .ok (ins, len)) (ho : ok25 (wd k i) (pcA k (i + 1)) ins len = true) (hL : wL n L) (hS : wS n S) (h : g25 i n L S = some o) : GoOK X d k i n L S o := by
  unfold g25 at h
  split at h
  · rename_i x r S'
    have hS' := wS_t (wS_t hS)
    split at h
    · rename_i hp
      split at h
      · rename_i m hj
        obtain rfl := Option.some.inj h
        refine ok1n (by show (5 : Nat) < 10; decide) hL hS' fun σ M Q q => ?_
        obtain ⟨q1, q2, q3⟩ := q
        rw [alen_of hj] at q2
        rw [List.map_cons, List.map_cons, ev_I hp]
        refine T25 hd ho hj q1 q2 fun hr => fin1 hL hS' (q3 ?_)
        rw [kd_arr hj]
        exact hr
      · cases h
    · cases h
  · rename_i x S'
    have hS' := wS_t (wS_t hS)
    split at h
    · rename_i hp
      obtain rfl := Option.some.inj h
      refine ok1n (by show (6 : Nat) < 10; decide) hL hS' fun σ M Q q => ?_
      rw [List.map_cons, List.map_cons, ev_I hp]
      exact T25s hd ho q.1 q.2.1 (fin1 hL hS' q.2.2)
    · cases h
  · rename_i x S'
    have hS' := wS_t (wS_t hS)
    split at h
    · rename_i hp
      obtain rfl := Option.some.inj h
      refine ok1n (by show (8 : Nat) < 10; decide) hL hS' fun σ M Q q => ?_
      rw [List.map_cons, List.map_cons, ev_I hp]
      exact T25t hd ho q.1 q.2.1 (fin1 hL hS' q.2.2)
    · cases h
  · cases h
theorem gs26 (hd : decode (mB k) (pcA k i) = .ok (ins, len)) (ho : ok26 (wd k i) (pcA k (i + 1)) ins len = true) (hL : wL n L) (hS : wS n S) (h : g26 i n L S = some o) : GoOK X d k i n L S o := by
  unfold g26 at h
  split at h
  · rename_i x r S'
    have hS' := wS_t (wS_t hS)
    split at h
    · rename_i hp
      split at h
      · rename_i m hj
        obtain rfl := Option.some.inj h
        refine ok1n (by show (5 : Nat) < 10; decide) hL hS' fun σ M Q q => ?_
        obtain ⟨q1, q2, q3⟩ := q
        rw [alen_of hj] at q2
        rw [List.map_cons, List.map_cons, ev_I hp]
        refine T26 hd ho hj q1 q2 fun hr => fin1 hL hS' (q3 ?_)
        rw [kd_arr hj]
        exact hr
      · cases h
    · cases h
  · rename_i x r S'
    have hS' := wS_t (wS_t hS)
    split at h
    · rename_i hp
      simp only [Bool.and_eq_true, decide_eq_true_eq] at hp
      obtain ⟨⟨hp1, hp2⟩, hp3⟩ := hp
      obtain rfl := Option.some.inj h
      refine ok1n (by show (9 : Nat) < 10; decide) hL hS' fun σ M Q q => ?_
      obtain ⟨m, hm⟩ : ∃ m, r.toNat = 3 + m := ⟨r.toNat - 3, by omega⟩
      have hm2 : m < 12 := by omega
      have e : r.toNat - 3 = m := by omega
      have q : 0 ≤ nm σ x ∧ nm σ x < strLen.getD (r.toNat - 3) 0 ∧ Wp X d k (i + 1) (evL (us σ n ((strB.getD (r.toNat - 3) []).getD (nm σ x).toNat 0).toInt) L) (((1, (n : Int)) :: S').map (ev (us σ n ((strB.getD (r.toNat - 3) []).getD (nm σ x).toNat 0).toInt))) M Q := q
      rw [e] at q
      rw [List.map_cons, List.map_cons, ev_I hp1, show ev σ ((5, r) : AV) = vR 1 (3 + m) from congrArg (fun t => vR 1 t) hm]
      exact T26t hd ho hm2 q.1 q.2.1 (fin1 hL hS' q.2.2)
    · cases h
  · cases h
theorem gs27 (hd : decode (mB k) (pcA k i) = .ok (ins, len)) (ho : ok27 (wd k i) (pcA k (i + 1)) ins len = true) (hL : wL n L) (hS : wS n S) (h : g27 i L S = some o) : GoOK X d k i n L S o := by
  unfold g27 at h
  split at h
  · rename_i z x r S'
    have hS' := wS_t (wS_t (wS_t hS))
    split at h
    · rename_i hp
      simp only [Bool.and_eq_true] at hp
      split at h
      · rename_i m hj
        obtain rfl := Option.some.inj h
        refine ⟨lt15 (by show (11 : Nat) < 15; decide), hL, hS', fun σ M Q q => ?_⟩
        obtain ⟨q1, q2, q3⟩ := q
        rw [alen_of hj] at q2
        rw [List.map_cons, List.map_cons, List.map_cons, ev_I hp.1, ev_I hp.2]
        exact T27 hd ho hj q1 q2 q3
      · cases h
    · cases h
  · cases h
theorem gs28 (hd : decode (mB k) (pcA k i) = .ok (ins, len)) (ho : ok28 (wd k i) (pcA k (i + 1)) ins len = true) (hL : wL n L) (hS : wS n S) (h : g28 i L S = some o) : GoOK X d k i n L S o := by
  unfold g28 at h
  split at h
  · rename_i z x r S'
    have hS' := wS_t (wS_t (wS_t hS))
    split at h
    · rename_i hp
      simp only [Bool.and_eq_true] at hp
      split at h
      · rename_i m hj
        obtain rfl := Option.some.inj h
        refine ⟨lt152 (by show (12 : Nat) < 15; decide) (by show (11 : Nat) < 15; decide), hL, hS', fun σ M Q q => ?_⟩
        obtain ⟨q0, q1, q2, q3⟩ := q
        rw [alen_of hj] at q2
        rw [List.map_cons, List.map_cons, List.map_cons, ev_I hp.1, ev_I hp.2]
        exact T28 hd ho hj q1 q2 q0 q3
      · cases h
    · cases h
  · cases h
theorem gs29 (hd : decode (mB k) (pcA k i) = .ok (ins, len)) (ho : ok29 (wd k i) (pcA k (i + 1)) ins len = true) (hL : wL n L) (hS : wS n S) (h : g29 i n L S = some o) : GoOK X d k i n L S o := by
  unfold g29 at h
  split at h
  · rename_i S'
    have hS' := wS_t hS
    obtain rfl := Option.some.inj h
    exact ok1n (by show (7 : Nat) < 10; decide) hL hS' fun σ M Q q => T29s hd ho (fin1 hL hS' q)
  · rename_i r S' _
    have hS' := wS_t hS
    split at h
    · rename_i hp
      simp only [Bool.and_eq_true, decide_eq_true_eq] at hp
      obtain rfl := Option.some.inj h
      obtain ⟨m, hm⟩ : ∃ m, r.toNat = 3 + m := ⟨r.toNat - 3, by omega⟩
      have hm2 : m < 12 := by omega
      have e : r.toNat - 3 = m := by omega
      refine ⟨fun x hx => (by cases hx), hL, wS_c (wA_k (by decide)) hS', fun σ M Q q => ?_⟩
      rw [List.map_cons, show ev σ ((5, r) : AV) = vR 1 (3 + m) from congrArg (fun t => vR 1 t) hm]
      have q : Wp X d k (i + 1) (evL σ L) (vI (strLen.getD (r.toNat - 3) 0 : Int) :: S'.map (ev σ)) M Q := q
      rw [e] at q
      exact T29t hd ho hm2 q
    · cases h
  · cases h
theorem gs30 (hd : decode (mB k) (pcA k i) = .ok (ins, len)) (ho : ok30 (wd k i) (pcA k (i + 1)) ins len = true) (hL : wL n L) (hS : wS n S) (h : g30 i L S = some o) : GoOK X d k i n L S o := by
  unfold g30 at h
  split at h
  · split at h
    · rename_i hp
      obtain rfl := Option.some.inj h
      exact ⟨fun x hx => (by cases hx), hL, wS_c (wS_h hS) hS, fun σ M Q q => T30 hd ho (by rw [cat_ev]; exact hp) q⟩
    · cases h
  · cases h
theorem gs31 (hd : decode (mB k) (pcA k i) = .ok (ins, len)) (ho : ok31 (wd k i) (pcA k (i + 1)) ins len = true) (hL : wL n L) (hS : wS n S) (h : g31 i L S = some o) : GoOK X d k i n L S o := by
  unfold g31 at h
  split at h
  · split at h
    · rename_i hp
      obtain rfl := Option.some.inj h
      exact ⟨fun x hx => (by cases hx), hL, wS_c (wS_h hS) (wS_c (wS_h (wS_t hS)) hS), fun σ M Q q => T31 hd ho (by rw [cat_ev]; exact hp.1) (by rw [cat_ev]; exact hp.2) q⟩
    · cases h
  · cases h
theorem gs32 (hd : decode (mB k) (pcA k i) = .ok (ins, len)) (ho : ok32 (wd k i) (pcA k (i + 1)) ins len = true) (hL : wL n L) (hS : wS n S) (h : g32 i L S = some o) : GoOK X d k i n L S o := by
  unfold g32 at h
  split at h
  · split at h
    · rename_i hp
      obtain rfl := Option.some.inj h
      exact ⟨fun x hx => (by cases hx), hL, wS_t hS, fun σ M Q q => T32 hd ho (by rw [cat_ev]; exact hp) q⟩
    · cases h
  · cases h
theorem cSum_ev (σ : Nat → Int) (S : List AV) : cSum (S.map (ev σ)) = cSA S := by
  unfold cSum cSA
  rw [List.map_map]
  congr 1
  exact List.map_congr_left fun a _ => cat_ev σ a
theorem gs39 (hd1 : 1 ≤ d) (hd : decode (mB k) (pcA k i) = .ok (ins, len)) (ho : ok39 k (wd k i) (pcA k (i + 1)) ins len = true) (hL : wL n L) (hS : wS n S) (h : g39 i L S = some o) : GoOK X d k i n L S o := by
  unfold g39 at h
  split at h
  · rename_i q dp r2 sp r1 S'
    have hS' := wS_t (wS_t (wS_t (wS_t (wS_t hS))))
    split at h
    · rename_i hp
      simp only [Bool.and_eq_true, decide_eq_true_eq] at hp
      obtain ⟨⟨⟨p1, p2⟩, p3⟩, p4⟩ := hp
      split at h
      · rename_i m1 m2 hj1 hj2
        obtain rfl := Option.some.inj h
        refine ⟨lt15 (by show (14 : Nat) < 15; decide), hL, hS', fun σ M Q qq => ?_⟩
        obtain ⟨q0, q1, q2, q3⟩ := qq
        rw [alen_of hj1] at q1
        rw [show alen ((4, r2) : AV).2.toNat = m2 from alen_of hj2] at q2
        rw [List.map_cons, List.map_cons, List.map_cons, List.map_cons, List.map_cons, ev_I p1, ev_I p2, ev_I p3]
        exact T39 hd ho hj1 hj2 q0 q1 q2 (by rw [cSum_ev]; exact p4) hd1 q3
      · cases h
    · cases h
  · cases h
theorem gs40 (hd : decode (mB k) (pcA k i) = .ok (ins, len)) (ho : ok40 k (wd k i) (pcA k (i + 1)) ins len = true) (hL : wL n L) (hS : wS n S) : GoOK X d k i n L S ([], i + 1, L, (6, (iA (wd k i) : Int)) :: S) :=
  ⟨fun x hx => (by cases hx), hL, wS_c (wA_k (by decide)) hS, fun σ M Q q => T40 hd ho q⟩
theorem gs41 (hd : decode (mB k) (pcA k i) = .ok (ins, len)) (ho : ok41 k (wd k i) (pcA k (i + 1)) ins len = true) (hL : wL n L) (hS : wS n S) (h : g41 (wd k i) i L S = some o) : GoOK X d k i n L S o := by
  unfold g41 at h
  split at h
  · rename_i r S'
    have hS' := wS_t hS
    split at h
    · rename_i hp
      obtain rfl := Option.some.inj h
      refine ⟨fun x hx => (by cases hx), hL, wS_c ?_ hS', fun σ M Q q => T41 (n := r.toNat) hd ho hp ?_⟩
      · split <;> exact wA_k (by decide)
      · by_cases ha : iA (wd k i) = 0
        · rw [if_pos ha]
          simp only [if_pos ha] at q
          exact q
        · rw [if_neg ha]
          simp only [if_neg ha] at q
          exact q
    · cases h
  · cases h
theorem gs42 (hd : decode (mB k) (pcA k i) = .ok (ins, len)) (ho : ok42 k (wd k i) ins len = true) (hL : wL n L) (hS : wS n S) (h : g42 (wd k i) L S = some o) : GoOK X d k i n L S o := by
  unfold g42 at h
  split at h
  · split at h
    · rename_i hp
      obtain rfl := Option.some.inj h
      refine ⟨fun x hx => (by cases hx), hL, wS_t hS, fun σ M Q q => ?_⟩
      obtain ⟨t, ht, -, e⟩ := ev_R (σ := σ) hp
      rw [List.map_cons, e]
      exact T42 ht hd ho q
    · cases h
  · cases h
theorem gs43 (hd1 : 1 ≤ d) (hd : decode (mB k) (pcA k i) = .ok (ins, len)) (ho : ok43 k (wd k i) (pcA k (i + 1)) ins len = true) (hL : wL n L) (hS : wS n S) (h : g43 (wd k i) i n L S = some o) : GoOK X d k i n L S o := by
  unfold g43 at h
  split at h
  · rename_i y x S'
    have hS' := wS_t (wS_t hS)
    split at h
    · rename_i hp
      simp only [Bool.and_eq_true, decide_eq_true_eq] at hp
      obtain rfl := Option.some.inj h
      refine ok1n (by show (0 : Nat) < 10; decide) hL hS' fun σ M Q q => ?_
      rw [List.map_cons, List.map_cons, ev_I hp.1.1, ev_I hp.1.2]
      exact T43 hd ho (by rw [cSum_ev]; exact hp.2) hd1 (fin1 hL hS' q)
    · cases h
  · cases h
theorem go_sound (hd1 : 1 ≤ d) (hL : wL n L) (hS : wS n S) (h : go1 k i n L S = some o) : GoOK X d k i n L S o := by
  have h99 : iO (wd k i) ≠ 99 := by
    intro e
    unfold go1 at h
    rw [e] at h
    cases h
  obtain ⟨ins, len, hd, ho⟩ := okI_dec h99
  unfold go1 at h
  unfold okO at ho
  generalize iO (wd k i) = op at h ho
  match op, h, ho with
  | 0, h, ho => obtain rfl := Option.some.inj h; exact gs0 hd ho hL hS
  | 1, h, ho => obtain rfl := Option.some.inj h; exact gs1 hd ho hL hS
  | 2, h, ho => obtain rfl := Option.some.inj h; exact gs2 hd ho hL hS
  | 3, h, ho => obtain rfl := Option.some.inj h; exact gs3 hd ho hL hS
  | 4, h, ho => exact gs4 hd ho hL hS h
  | 5, h, ho => exact gs5 hd ho hL hS h
  | 6, h, ho => exact gs6 hd ho hL hS h
  | 7, h, ho => exact gs7 hd ho hL hS h
  | 8, h, ho => exact gs8 hd ho hL hS h
  | 9, h, ho => exact gs9 hd ho hL hS h
  | 10, h, ho => exact gs10 hd ho hL hS h
  | 11, h, ho => exact gs11 hd ho hL hS h
  | 12, h, ho => exact gs12 hd ho hL hS h
  | 13, h, ho => exact gs13 hd ho hL hS h
  | 14, h, ho => exact gs14 hd ho hL hS h
  | 15, h, ho => exact gs15 hd ho hL hS h
  | 16, h, ho => exact gs16 hd ho hL hS h
  | 20, h, ho => obtain rfl := Option.some.inj h; exact gs20 hd ho hL hS
  | 22, h, ho => exact gs22 hd ho hL hS h
  | 23, h, ho => exact gs23 hd ho hL hS h
  | 24, h, ho => exact gs24 hd ho hL hS h
  | 25, h, ho => exact gs25 hd ho hL hS h
  | 26, h, ho => exact gs26 hd ho hL hS h
  | 27, h, ho => exact gs27 hd ho hL hS h
  | 28, h, ho => exact gs28 hd ho hL hS h
  | 29, h, ho => exact gs29 hd ho hL hS h
  | 30, h, ho => exact gs30 hd ho hL hS h
  | 31, h, ho => exact gs31 hd ho hL hS h
  | 32, h, ho => exact gs32 hd ho hL hS h
  | 39, h, ho => exact gs39 hd1 hd ho hL hS h
  | 40, h, ho => obtain rfl := Option.some.inj h; exact gs40 hd ho hL hS
  | 41, h, ho => exact gs41 hd ho hL hS h
  | 42, h, ho => exact gs42 hd ho hL hS h
  | 43, h, ho => exact gs43 hd1 hd ho hL hS h
  | 17, h, _ => cases h
  | 18, h, _ => cases h
  | 19, h, _ => cases h
  | 21, h, _ => cases h
  | 33, h, _ => cases h
  | 34, h, _ => cases h
  | 35, h, _ => cases h
  | 36, h, _ => cases h
  | 37, h, _ => cases h
  | 38, h, _ => cases h
  | m + 44, h, _ => cases h
end GO
