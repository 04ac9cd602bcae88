/-! the rules of the cells -/
theorem cls_in : ∀ r ∈ cls, ∀ w ∈ u_ws r.1 r.2.1 r.2.2, w ∈ wtb := by
  intro r hr
  simp only [cls, List.mem_cons, List.not_mem_nil, or_false] at hr
  rcases hr with rfl | rfl | rfl | rfl | rfl | rfl | rfl | rfl | rfl | rfl | rfl | rfl
  all_goals (show ∀ w ∈ u_ws _ _ _, w ∈ wtb; decide +kernel)
def clsGood (r : vw_C) : Prop := (∃ ty : Nat → FieldType, ∀ k, k < r.2.2 → parseFieldDescriptor (r.2.1 k).2.2.1 = some (ty k)) ∧ ∀ a, a < r.2.2 → ∀ b, b < r.2.2 → a ≠ b → (r.2.1 a).2.1 ≠ (r.2.1 b).2.1
theorem cls_good : ∀ r ∈ cls, clsGood r := by
  intro r hr
  simp only [cls, List.mem_cons, List.not_mem_nil, or_false] at hr
  rcases hr with rfl | rfl | rfl | rfl | rfl | rfl | rfl | rfl | rfl | rfl | rfl | rfl
  · exact ⟨⟨tyX0, tyX0_ok⟩, nmX0⟩
  · exact ⟨⟨tyX1, tyX1_ok⟩, nmX1⟩
  · exact ⟨⟨tyX2, tyX2_ok⟩, nmX2⟩
  · exact ⟨⟨tyX3, tyX3_ok⟩, nmX3⟩
  · exact ⟨⟨tyX4, tyX4_ok⟩, nmX4⟩
  · exact ⟨⟨tyX5, tyX5_ok⟩, nmX5⟩
  · exact ⟨⟨tyX6, tyX6_ok⟩, nmX6⟩
  · exact ⟨⟨tyX7, tyX7_ok⟩, nmX7⟩
  · exact ⟨⟨tyX8, tyX8_ok⟩, nmX8⟩
  · exact ⟨⟨tyX9, tyX9_ok⟩, nmX9⟩
  · exact ⟨⟨tyX10, tyX10_ok⟩, nmX10⟩
  · exact ⟨⟨tyX11, tyX11_ok⟩, nmX11⟩
def fV (f : Nat) (z : Int) : V := match f with
  | 0 => vI z
  | 1 => vL z
  | 2 => vI z
  | n + 3 => vR 0 n
theorem cv_fV (g : Gx) (f : Nat) (z : Int) : cv g (fV f z) = fvl g f z := by
  match f with
  | 0 => rfl
  | 1 => rfl
  | 2 => rfl
  | n + 3 => rfl
theorem rK_fV {f : Nat} {z : Int} (h : rK f z) : rV (fV f z) := by
  match f, h with
  | 0, h => exact h
  | 1, h => exact h
  | 2, h => rcases h with rfl | rfl <;> exact ⟨by decide, by decide⟩
  | n + 3, _ => exact trivial
theorem kd_obj {j ci s f : Nat} {fk : List Nat} (hj : SH[j]? = some (.inr (ci, fk))) (hf : fk[s]? = some f) : kd j s = f := by
  unfold kd
  rw [hj]
  show fk.getD s 9 = f
  rw [List.getD_eq_getElem?_getD, hf]
  rfl
theorem kd_arr {j c n s : Nat} (hj : SH[j]? = some (.inl (c, n))) : kd j s = if c = 0 then 0 else 2 := by
  unfold kd
  rw [hj]
theorem up_ne {M : Mm} {i j a : Nat} {z : Int} (h : a ≠ i) : up M i j z a = M a := by
  funext b
  unfold up
  rw [if_neg (fun q => h q.1)]
theorem up_eq {M : Mm} {i j b : Nat} {z : Int} : up M i j z i b = if b = j then z else M i b := by
  unfold up
  by_cases h : b = j
  · rw [if_pos ⟨rfl, h⟩, if_pos h]
  · rw [if_neg (fun q => h q.2), if_neg h]
theorem ws_set {g : Gx} {M : Mm} {j s : Nat} {z : Int} {c : SC} {e : va_E} (hj : SH[j]? = some c) (he : e = ent g c (up M j s z j)) : (wsOf g M).set j (g.2.1 j, e) = wsOf g (up M j s z) := by
  refine List.ext_getElem? fun t => ?_
  rw [List.getElem?_set]
  by_cases h : j = t
  · subst h
    have hl : j < (wsOf g M).length := by rw [ws_len]; exact (List.getElem?_eq_some_iff.mp hj).1
    rw [if_pos rfl, if_pos hl, ws_get hj, he]
  · rw [if_neg h]
    simp only [wsOf, List.getElem?_mapIdx]
    rw [up_ne (Ne.symm h)]
theorem ent_obj {g : Gx} {M : Mm} {j s ci f : Nat} {z : Int} {fk : List Nat} (hf : fk[s]? = some f) : (Sum.inr (ci, (fk.mapIdx (fun t q => fvl g q (M j t))).set s (fvl g f z)) : va_E) = ent g (.inr (ci, fk)) (up M j s z j) := by
  show Sum.inr _ = Sum.inr (ci, fk.mapIdx (fun t q => fvl g q (up M j s z j t)))
  congr 2
  refine List.ext_getElem? fun t => ?_
  rw [List.getElem?_set, List.length_mapIdx]
  by_cases h : s = t
  · subst h
    rw [if_pos rfl, if_pos (List.getElem?_eq_some_iff.mp hf).1, List.getElem?_mapIdx, hf]
    show some _ = some _
    rw [up_eq, if_pos rfl]
  · rw [if_neg h, List.getElem?_mapIdx, List.getElem?_mapIdx]
    rw [up_eq, if_neg (Ne.symm h)]
theorem ent_arr {g : Gx} {M : Mm} {j s c n : Nat} {z : Int} : (Sum.inl (g.2.2.1 c, n, .inl (upd (fun t => Int32.ofInt (M j t)) s (Int32.ofInt z))) : va_E) = ent g (.inl (c, n)) (up M j s z j) := by
  show Sum.inl _ = Sum.inl _
  congr 3
  refine congrArg Sum.inl (funext fun t => ?_)
  show (if t = s then _ else _) = Int32.ofInt (up M j s z j t)
  rw [up_eq]
  split <;> rfl
theorem Hold.put {g : Gx} {A : Nat → Prop} {s0 : State} {H1 : Heap} {locs1 : List Loc} {M : Mm} {j s : Nat} {z : Int} {c : SC} {e : va_E} (hM : okM M) (hj : SH[j]? = some c) (he : e = ent g c (up M j s z j)) (hz : rK (kd j s) z) (hP : va_P g.1 cls ((wsOf g M).set j (g.2.1 j, e)) H1) (hD : va_D A ((wsOf g M).set j (g.2.1 j, e))) (hS : va_S A s0.heap H1 locs1) : Hold g A s0 H1 locs1 (up M j s z) := by
  rw [ws_set hj he] at hP hD
  exact ⟨hP, hD, hS, okM_up hM hz⟩
section RULES
variable {X : Xs} {d k i : Nat} {L : List (Nat × V)} {S : List V} {M : Mm} {Q : Option V → Mm → Prop} {ins : Instr} {len : Nat}
def okF (k w n : Nat) : Bool := match cls[iA w]? with
  | some r => decide (wt (iC w 0) = some (Jvm.Cond.fieldLink (mY k).cls n (r.2.1 (iB w)).1 (r.2.1 (iB w)).2.1 (r.2.1 (iB w)).2.2.1)) && decide (iB w < r.2.2)
  | none => false
def ok22 (k w nx : Nat) : Instr → Nat → Bool
  | .getfield n, 3 => okF k w n && nx == iP w + 3
  | _, _ => false
theorem T22 {j f : Nat} {fk : List Nat} (hd : decode (mB k) (pcA k i) = .ok (ins, len)) (ho : ok22 k (wd k i) (pcA k (i + 1)) ins len = true) (hj : SH[j]? = some (.inr (iA (wd k i), fk))) (hf : fk[iB (wd k i)]? = some f) (h : rK f (M j (iB (wd k i))) → Wp X d k (i + 1) L (fV f (M j (iB (wd k i))) :: S) M Q) : Wp X d k i L (vR 0 j :: S) M Q := by

  intro p l e R s m args below meth c g A cells slots QQ C hr hk H locs ls hH hl hL hS
  have hr3 : rK f (M j (iB (wd k i))) := by
    have q := hH.2.2.2 j (iB (wd k i))
    rw [kd_obj hj hf] at q
    exact q
  have hS2 : ∀ v ∈ S, rV v := fun v hv => hS v (List.mem_cons_of_mem _ hv)
  have q := (h hr3 p l e R s m args below meth c g A cells slots QQ C hr hk H locs ls hH hl hL (rS1 hS2 (rK_fV hr3)))
  rw [List.map_cons, cv_fV] at q
  unfold ok22 okF at ho
  split at ho
  · rename_i n
    simp only [Bool.and_eq_true, beq_iff_eq] at ho
    obtain ⟨hc, hn⟩ := ho
    rw [hn] at q
    split at hc
    · rename_i r hr2
      simp only [Bool.and_eq_true, decide_eq_true_eq] at hc
      exact va_get (C := r.1) (T := r.2.1) (N := r.2.2) C.1 C.2.1 C.2.2.2.2.1 (fun w hw => List.mem_cons_of_mem _ (cls_in r (List.mem_of_getElem? hr2) w hw)) C.2.2.2.1 C.2.2.2.2.2.1 hH.1 j (ws_get hj) hr2 (iB (wd k i)) hc.2 (C.2.2.2.2.1 _ (wt_in hc.1)) (fun x hx => hx) (by rw [List.getElem?_mapIdx, hf]; rfl) hd q
    · cases hc
  · cases ho
def fty (f : Nat) : FieldType := match f with
  | 0 => .int
  | 1 => .long
  | _ => .boolean
def okG (w : Nat) : Bool := match cls[iA w]? with
  | some r => (r.2.1 (iB w)).2.2.2 == false
  | none => false
def ok23 (k w nx : Nat) : Instr → Nat → Bool
  | .putfield n, 3 => okF k w n && okG w && nx == iP w + 3
  | _, _ => false
def okT (ci s f : Nat) : Prop := ∀ r, cls[ci]? = some r → parseFieldDescriptor (r.2.1 s).2.2.1 = some (fty f)
theorem nar_b {z : Int} (h : z = 0 ∨ z = 1) : narrow .boolean (.int (Int32.ofInt z)) = .int (Int32.ofInt z) ∧ fits .boolean (.int (Int32.ofInt z)) = true := by
  rcases h with rfl | rfl <;> exact ⟨by decide, by decide⟩
theorem T23 {j f : Nat} {z : Int} {v : V} {fk : List Nat} (hd : decode (mB k) (pcA k i) = .ok (ins, len)) (ho : ok23 k (wd k i) (pcA k (i + 1)) ins len = true) (hj : SH[j]? = some (.inr (iA (wd k i), fk))) (hf : fk[iB (wd k i)]? = some f) (hT : okT (iA (wd k i)) (iB (wd k i)) f) (hf3 : f < 3) (hv : v = fV f z) (hz : rV v → rK f z) (h : Wp X d k (i + 1) L S (up M j (iB (wd k i)) z) Q) : Wp X d k i L (v :: vR 0 j :: S) M Q := by
  intro p l e R s m args below meth c g A cells slots QQ C hr hk H locs ls hH hl hL hS
  have hz2 : rK f z := hz (hS _ List.mem_cons_self)
  have hS2 : ∀ v ∈ S, rV v := fun v hv => hS v (List.mem_cons_of_mem _ (List.mem_cons_of_mem _ hv))
  have hnar : narrow (fty f) (fvl g f z) = fvl g f z ∧ fits (fty f) (fvl g f z) = true := by
    match f, hf3, hz2 with
    | 0, _, _ => exact ⟨rfl, rfl⟩
    | 1, _, _ => exact ⟨rfl, rfl⟩
    | 2, _, hz2 => exact nar_b hz2
  have hfl : iB (wd k i) < (fk.mapIdx (fun t q => fvl g q (M j t))).length := by
    rw [List.length_mapIdx]
    exact (List.getElem?_eq_some_iff.mp hf).1
  unfold ok23 okF okG at ho
  split at ho
  · rename_i n
    simp only [Bool.and_eq_true, beq_iff_eq] at ho
    obtain ⟨⟨hc, hfin⟩, hn⟩ := ho
    split at hc
    · rename_i r hr2
      rw [hr2] at hfin
      simp only [Bool.and_eq_true, decide_eq_true_eq] at hc
      obtain ⟨⟨ty0, hty0⟩, hnm⟩ := cls_good r (List.mem_of_getElem? hr2)
      rw [List.map_cons, List.map_cons, hv, cv_fV]
      refine va_put (C := r.1) (T := r.2.1) (N := r.2.2) (ty := fty f) C.1 C.2.1 C.2.2.2.2.1 (fun w hw => List.mem_cons_of_mem _ (cls_in r (List.mem_of_getElem? hr2) w hw)) ty0 hty0 hnm C.2.2.2.1 C.2.2.2.2.2.1 hH.1 hH.2.1 hH.2.2.1 j (ws_get hj) hr2 (iB (wd k i)) hc.2 (C.2.2.2.2.1 _ (wt_in hc.1)) (fun x hx => hx) (by simpa using hfin) (hT r hr2) hnar.1 hnar.2 hfl hd fun H1 locs1 hP hD hSS => ?_
      have q := h p l e R s m args below meth c g A cells slots QQ C hr hk H1 locs1 ls (Hold.put hH.2.2.2 hj (ent_obj hf) (by rw [kd_obj hj hf]; exact hz2) hP hD hSS) hl hL hS2
      rw [hn] at q
      exact q
    · cases hc
  · cases ho
def ok25 (w nx : Nat) : Instr → Nat → Bool
  | .iaload, 1 => nx == iP w + 1
  | _, _ => false
theorem T25 {j n : Nat} {x : Int} (hd : decode (mB k) (pcA k i) = .ok (ins, len)) (ho : ok25 (wd k i) (pcA k (i + 1)) ins len = true) (hj : SH[j]? = some (.inl (0, n))) (h0 : 0 ≤ x) (h1 : x < n) (h : in32 (M j x.toNat) → Wp X d k (i + 1) L (vI (M j x.toNat) :: S) M Q) : Wp X d k i L (vI x :: vR 0 j :: S) M Q := by
  intro p l e R s m args below meth c g A cells slots QQ C hr hk H locs ls hH hl hL hS
  have hr3 : in32 (M j x.toNat) := by
    have q := hH.2.2.2 j x.toNat
    rw [kd_arr hj] at q
    exact q
  have hx : in32 x := hS _ List.mem_cons_self
  have hS2 : ∀ v ∈ S, rV v := fun v hv => hS v (List.mem_cons_of_mem _ (List.mem_cons_of_mem _ hv))
  have q := (h hr3 p l e R s m args below meth c g A cells slots QQ C hr hk H locs ls hH hl hL (rS1 hS2 hr3))
  unfold ok25 at ho
  split at ho
  · simp only [beq_iff_eq] at ho
    rw [ho] at q
    refine va_iald C.1 C.2.1 C.2.2.2.2.2.1 hH.1 j 0 (ws_get hj) rfl (inn hx h0 h1) hd ?_
    rw [i32_cl hx]
    exact q
  · cases ho
theorem T25s {x : Int} (hd : decode (mB k) (pcA k i) = .ok (ins, len)) (ho : ok25 (wd k i) (pcA k (i + 1)) ins len = true) (h0 : 0 ≤ x) (h1 : x < X.1) (h : Wp X d k (i + 1) L (vI (X.2 x.toNat) :: S) M Q) : Wp X d k i L (vI x :: vR 1 0 :: S) M Q := by
  intro p l e R s m args below meth c g A cells slots QQ C hr hk H locs ls hH hl hL hS
  have hx : in32 x := hS _ List.mem_cons_self
  have hS2 : ∀ v ∈ S, rV v := fun v hv => hS v (List.mem_cons_of_mem _ (List.mem_cons_of_mem _ hv))
  have hO := C.2.2.2.2.2.2.1
  have q := (h p l e R s m args below meth c g A cells slots QQ C hr hk H locs ls hH hl hL (rS1 hS2 (hO.1.2.2 _)))
  unfold ok25 at ho
  split at ho
  · simp only [beq_iff_eq] at ho
    rw [ho] at q
    exact va_ti C.1 C.2.1 hO.1.1 hH.2.2.1 (inn hx h0 h1) (by show Value.int (Int32.ofInt _) = Value.int (Int32.ofInt _); rw [i32_cl hx]) hd q
  · cases ho
theorem T25t {x : Int} (hd : decode (mB k) (pcA k i) = .ok (ins, len)) (ho : ok25 (wd k i) (pcA k (i + 1)) ins len = true) (h0 : 0 ≤ x) (h1 : x < 11) (h : Wp X d k (i + 1) L (vI ((FSL.getD x.toNat 0).toInt) :: S) M Q) : Wp X d k i L (vI x :: vR 1 1 :: S) M Q := by
  intro p l e R s m args below meth c g A cells slots QQ C hr hk H locs ls hH hl hL hS
  have hx : in32 x := hS _ List.mem_cons_self
  have hS2 : ∀ v ∈ S, rV v := fun v hv => hS v (List.mem_cons_of_mem _ (List.mem_cons_of_mem _ hv))
  have hO := C.2.2.2.2.2.2.1
  have q := (h p l e R s m args below meth c g A cells slots QQ C hr hk H locs ls hH hl hL (rS1 hS2 (i32_r _)))
  unfold ok25 at ho
  split at ho
  · simp only [beq_iff_eq] at ho
    rw [ho] at q
    exact va_ti C.1 C.2.1 hO.2.1 hH.2.2.1 (inn hx h0 h1) (by show Value.int _ = Value.int (Int32.ofInt _); rw [i32_cl hx, Int32.ofInt_toInt]) hd q
  · cases ho
def ok26 (w nx : Nat) : Instr → Nat → Bool
  | .baload, 1 => nx == iP w + 1
  | _, _ => false
theorem T26 {j n : Nat} {x : Int} (hd : decode (mB k) (pcA k i) = .ok (ins, len)) (ho : ok26 (wd k i) (pcA k (i + 1)) ins len = true) (hj : SH[j]? = some (.inl (1, n))) (h0 : 0 ≤ x) (h1 : x < n) (h : (M j x.toNat = 0 ∨ M j x.toNat = 1) → Wp X d k (i + 1) L (vI (M j x.toNat) :: S) M Q) : Wp X d k i L (vI x :: vR 0 j :: S) M Q := by
  intro p l e R s m args below meth c g A cells slots QQ C hr hk H locs ls hH hl hL hS
  have hr3 : M j x.toNat = 0 ∨ M j x.toNat = 1 := by
    have q := hH.2.2.2 j x.toNat
    rw [kd_arr hj] at q
    exact q
  have hr4 : in32 (M j x.toNat) := by
    rcases hr3 with q | q <;> rw [q] <;> exact ⟨by decide, by decide⟩
  have hx : in32 x := hS _ List.mem_cons_self
  have hS2 : ∀ v ∈ S, rV v := fun v hv => hS v (List.mem_cons_of_mem _ (List.mem_cons_of_mem _ hv))
  have q := (h hr3 p l e R s m args below meth c g A cells slots QQ C hr hk H locs ls hH hl hL (rS1 hS2 hr4))
  unfold ok26 at ho
  split at ho
  · simp only [beq_iff_eq] at ho
    rw [ho] at q
    refine va_zald C.1 C.2.1 C.2.2.2.2.2.1 hH.1 j 1 (ws_get hj) rfl (inn hx h0 h1) hd ?_
    rw [i32_cl hx]
    exact q
  · cases ho
theorem T26t {n : Nat} {x : Int} (hd : decode (mB k) (pcA k i) = .ok (ins, len)) (ho : ok26 (wd k i) (pcA k (i + 1)) ins len = true) (hn : n < 12) (h0 : 0 ≤ x) (h1 : x < strLen.getD n 0) (h : Wp X d k (i + 1) L (vI (((strB.getD n []).getD x.toNat 0).toInt) :: S) M Q) : Wp X d k i L (vI x :: vR 1 (3 + n) :: S) M Q := by
  intro p l e R s m args below meth c g A cells slots QQ C hr hk H locs ls hH hl hL hS
  have hx : in32 x := hS _ List.mem_cons_self
  have hS2 : ∀ v ∈ S, rV v := fun v hv => hS v (List.mem_cons_of_mem _ (List.mem_cons_of_mem _ hv))
  have hO := C.2.2.2.2.2.2.1
  have q := (h p l e R s m args below meth c g A cells slots QQ C hr hk H locs ls hH hl hL (rS1 hS2 (i32_r _)))
  unfold ok26 at ho
  split at ho
  · simp only [beq_iff_eq] at ho
    rw [ho] at q
    exact va_tb C.1 C.2.1 (hO.2.2.1.1 n hn).2.2.2 hH.2.2.1 (inn hx h0 h1) (by show Value.int _ = Value.int (Int32.ofInt _); rw [i32_cl hx, Int32.ofInt_toInt]) hd q
  · cases ho
def ok27 (w nx : Nat) : Instr → Nat → Bool
  | .iastore, 1 => nx == iP w + 1
  | _, _ => false
theorem T27 {j n : Nat} {x z : Int} (hd : decode (mB k) (pcA k i) = .ok (ins, len)) (ho : ok27 (wd k i) (pcA k (i + 1)) ins len = true) (hj : SH[j]? = some (.inl (0, n))) (h0 : 0 ≤ x) (h1 : x < n) (h : Wp X d k (i + 1) L S (up M j x.toNat z) Q) : Wp X d k i L (vI z :: vI x :: vR 0 j :: S) M Q := by
  intro p l e R s m args below meth c g A cells slots QQ C hr hk H locs ls hH hl hL hS
  have hz : in32 z := hS _ List.mem_cons_self
  have hx : in32 x := hS _ (List.mem_cons_of_mem _ List.mem_cons_self)
  have hS2 : ∀ v ∈ S, rV v := fun v hv => hS v (List.mem_cons_of_mem _ (List.mem_cons_of_mem _ (List.mem_cons_of_mem _ hv)))
  unfold ok27 at ho
  split at ho
  · simp only [beq_iff_eq] at ho
    refine va_iast C.1 C.2.1 C.2.2.2.2.2.1 hH.1 hH.2.1 hH.2.2.1 j 0 (ws_get hj) rfl (inn hx h0 h1) hd fun H1 locs1 hP hD hSS => ?_
    rw [i32_cl hx] at hP hD
    have q := h p l e R s m args below meth c g A cells slots QQ C hr hk H1 locs1 ls (Hold.put hH.2.2.2 hj ent_arr (by rw [kd_arr hj]; exact hz) hP hD hSS) hl hL hS2
    rw [ho] at q
    exact q
  · cases ho
def ok28 (w nx : Nat) : Instr → Nat → Bool
  | .bastore, 1 => nx == iP w + 1
  | _, _ => false
theorem T28 {j n : Nat} {x z : Int} (hd : decode (mB k) (pcA k i) = .ok (ins, len)) (ho : ok28 (wd k i) (pcA k (i + 1)) ins len = true) (hj : SH[j]? = some (.inl (1, n))) (h0 : 0 ≤ x) (h1 : x < n) (hz : z = 0 ∨ z = 1) (h : Wp X d k (i + 1) L S (up M j x.toNat z) Q) : Wp X d k i L (vI z :: vI x :: vR 0 j :: S) M Q := by
  intro p l e R s m args below meth c g A cells slots QQ C hr hk H locs ls hH hl hL hS
  have hx : in32 x := hS _ (List.mem_cons_of_mem _ List.mem_cons_self)
  have hS2 : ∀ v ∈ S, rV v := fun v hv => hS v (List.mem_cons_of_mem _ (List.mem_cons_of_mem _ (List.mem_cons_of_mem _ hv)))
  unfold ok28 at ho
  split at ho
  · simp only [beq_iff_eq] at ho
    refine va_zast C.1 C.2.1 C.2.2.2.2.2.1 hH.1 hH.2.1 hH.2.2.1 j 1 (ws_get hj) rfl (inn hx h0 h1) hd fun H1 locs1 hP hD hSS => ?_
    rw [i32_cl hx, show vp_nar .boolean (Int32.ofInt z) = Int32.ofInt z by rcases hz with rfl | rfl <;> decide] at hP hD
    have q := h p l e R s m args below meth c g A cells slots QQ C hr hk H1 locs1 ls (Hold.put hH.2.2.2 hj ent_arr (by rw [kd_arr hj]; exact hz) hP hD hSS) hl hL hS2
    rw [ho] at q
    exact q
  · cases ho
def ok29 (w nx : Nat) : Instr → Nat → Bool
  | .arraylength, 1 => nx == iP w + 1
  | _, _ => false
theorem T29s (hd : decode (mB k) (pcA k i) = .ok (ins, len)) (ho : ok29 (wd k i) (pcA k (i + 1)) ins len = true) (h : Wp X d k (i + 1) L (vI X.1 :: S) M Q) : Wp X d k i L (vR 1 0 :: S) M Q := by
  intro p l e R s m args below meth c g A cells slots QQ C hr hk H locs ls hH hl hL hS
  have hS2 : ∀ v ∈ S, rV v := fun v hv => hS v (List.mem_cons_of_mem _ hv)
  have hO := C.2.2.2.2.2.2.1
  have hx : in32 X.1 := ⟨by omega, by have := hO.1.2.1; omega⟩
  have q := (h p l e R s m args below meth c g A cells slots QQ C hr hk H locs ls hH hl hL (rS1 hS2 hx))
  unfold ok29 at ho
  split at ho
  · simp only [beq_iff_eq] at ho
    rw [ho] at q
    exact va_tlen C.1 C.2.1 hO.1.1 hH.2.2.1 rfl hd q
  · cases ho
theorem T29t {n : Nat} (hd : decode (mB k) (pcA k i) = .ok (ins, len)) (ho : ok29 (wd k i) (pcA k (i + 1)) ins len = true) (hn : n < 12) (h : Wp X d k (i + 1) L (vI (strLen.getD n 0) :: S) M Q) : Wp X d k i L (vR 1 (3 + n) :: S) M Q := by
  intro p l e R s m args below meth c g A cells slots QQ C hr hk H locs ls hH hl hL hS
  have hS2 : ∀ v ∈ S, rV v := fun v hv => hS v (List.mem_cons_of_mem _ hv)
  have hO := C.2.2.2.2.2.2.1
  have hx : ∀ n, n < 12 → in32 (strLen.getD n 0) := by unfold in32; decide +kernel
  have q := (h p l e R s m args below meth c g A cells slots QQ C hr hk H locs ls hH hl hL (rS1 hS2 (hx n hn)))
  unfold ok29 at ho
  split at ho
  · simp only [beq_iff_eq] at ho
    rw [ho] at q
    exact va_tlen C.1 C.2.1 (hO.2.2.1.1 n hn).2.2.2 hH.2.2.1 rfl hd q
  · cases ho
def ok30 (w nx : Nat) : Instr → Nat → Bool
  | .dup, 1 => nx == iP w + 1
  | _, _ => false
theorem T30 {v : V} (hd : decode (mB k) (pcA k i) = .ok (ins, len)) (ho : ok30 (wd k i) (pcA k (i + 1)) ins len = true) (hc : catV v = 1) (h : Wp X d k (i + 1) L (v :: v :: S) M Q) : Wp X d k i L (v :: S) M Q := by
  intro p l e R s m args below meth c g A cells slots QQ C hr hk H locs ls hH hl hL hS
  have q := (h p l e R s m args below meth c g A cells slots QQ C hr hk H locs ls hH hl hL (rS1 hS (hS _ List.mem_cons_self)))
  unfold ok30 at ho
  split at ho
  · simp only [beq_iff_eq] at ho
    rw [ho] at q
    exact lv_dup C.1 C.2.1 hd (by rw [cv_cat C.2.2.2.2.2.2.1]; exact hc) q
  · cases ho
def ok31 (w nx : Nat) : Instr → Nat → Bool
  | .dup2, 1 => nx == iP w + 1
  | _, _ => false
theorem T31 {v u : V} (hd : decode (mB k) (pcA k i) = .ok (ins, len)) (ho : ok31 (wd k i) (pcA k (i + 1)) ins len = true) (hc : catV v = 1) (hc2 : catV u = 1) (h : Wp X d k (i + 1) L (v :: u :: v :: u :: S) M Q) : Wp X d k i L (v :: u :: S) M Q := by
  intro p l e R s m args below meth c g A cells slots QQ C hr hk H locs ls hH hl hL hS
  have q := (h p l e R s m args below meth c g A cells slots QQ C hr hk H locs ls hH hl hL (rS1 (rS1 hS (hS _ (List.mem_cons_of_mem _ List.mem_cons_self))) (hS _ List.mem_cons_self)))
  unfold ok31 at ho
  split at ho
  · simp only [beq_iff_eq] at ho
    rw [ho] at q
    exact lv_dup2_11 C.1 C.2.1 hd (by rw [cv_cat C.2.2.2.2.2.2.1]; exact hc) (by rw [cv_cat C.2.2.2.2.2.2.1]; exact hc2) q
  · cases ho
def ok32 (w nx : Nat) : Instr → Nat → Bool
  | .pop, 1 => nx == iP w + 1
  | _, _ => false
theorem T32 {v : V} (hd : decode (mB k) (pcA k i) = .ok (ins, len)) (ho : ok32 (wd k i) (pcA k (i + 1)) ins len = true) (hc : catV v = 1) (h : Wp X d k (i + 1) L S M Q) : Wp X d k i L (v :: S) M Q := by
  intro p l e R s m args below meth c g A cells slots QQ C hr hk H locs ls hH hl hL hS
  have q := (h p l e R s m args below meth c g A cells slots QQ C hr hk H locs ls hH hl hL (fun x hx => hS x (List.mem_cons_of_mem _ hx)))
  unfold ok32 at ho
  split at ho
  · simp only [beq_iff_eq] at ho
    rw [ho] at q
    exact lv_pop C.1 C.2.1 hd (by rw [cv_cat C.2.2.2.2.2.2.1]; exact hc) q
  · cases ho
/-- the end of a method -/
theorem TR {v : Option V} (hd : decode (mB k) (pcA k i) = .ok (retI v, 1)) (hq : (∀ x, v = some x → rV x) → Q v M) (hv : retOK (mR k) v) : Wp X d k i L v.toList M Q := by
  intro p l e R s m args below meth c g A cells slots QQ C hr hk H locs ls hH hl hL hS
  have hx : ∀ x, v = some x → rV x := fun x hx => hS x (by rw [hx]; exact List.mem_cons_self)
  exact hk i ls v M H locs hd (hq hx) hv hx hH
def ok24 (k w nx : Nat) : Instr → Nat → Bool
  | .getstatic n, 3 => (match iA w with
      | 0 => decide (wt (iC w 0) = some (Jvm.Cond.fieldLink (mY k).cls n "SwornCourt$Laws" "FIRST_SLOTS" "[I"))
      | 1 => decide (wt (iC w 0) = some (Jvm.Cond.fieldLink (mY k).cls n "java/lang/String" "COMPACT_STRINGS" "Z"))
      | _ => decide (wt (iC w 0) = some (Jvm.Cond.fieldLink (mY k).cls n "jdk/internal/util/Preconditions" "SIOOBE_FORMATTER" "Ljava/util/function/BiFunction;"))) && nx == iP w + 3
  | _, _ => false
def stV (a : Nat) : V := match a with
  | 0 => vR 1 1
  | 1 => vI 1
  | _ => vR 3 0
theorem T24 (hd : decode (mB k) (pcA k i) = .ok (ins, len)) (ho : ok24 k (wd k i) (pcA k (i + 1)) ins len = true) (h : Wp X d k (i + 1) L (stV (iA (wd k i)) :: S) M Q) : Wp X d k i L S M Q := by
  intro p l e R s m args below meth c g A cells slots QQ C hr hk H locs ls hH hl hL hS
  have hO := C.2.2.2.2.2.2.1
  have hrv : rV (stV (iA (wd k i))) := by
    unfold stV
    split
    · exact trivial
    · exact ⟨by decide, by decide⟩
    · exact trivial
  have q := (h p l e R s m args below meth c g A cells slots QQ C hr hk H locs ls hH hl hL (rS1 hS hrv))
  unfold ok24 at ho
  split at ho
  · simp only [Bool.and_eq_true, beq_iff_eq] at ho
    obtain ⟨hc, hn⟩ := ho
    rw [hn] at q
    split at hc
    · rename_i ha
      rw [ha] at q
      exact va_gets C.1 C.2.1 hO.2.2.2.2.1 hH.2.2.1 C.2.2.2.1 (C.2.2.2.2.1 _ (wt_in (of_decide_eq_true hc))) (fun x hx => hx) hd q
    · rename_i ha
      rw [ha] at q
      exact va_gets C.1 C.2.1 hO.2.2.2.2.2.1 hH.2.2.1 C.2.2.2.1 (C.2.2.2.2.1 _ (wt_in (of_decide_eq_true hc))) (fun x hx => hx) hd q
    · rename_i h0 h1
      rw [show stV (iA (wd k i)) = vR 3 0 from by unfold stV; split <;> first | contradiction | rfl] at q
      exact va_gets C.1 C.2.1 hO.2.2.2.2.2.2.1 hH.2.2.1 C.2.2.2.1 (C.2.2.2.2.1 _ (wt_in (of_decide_eq_true hc))) (fun x hx => hx) hd q
  · cases ho
def ok40 (k w nx : Nat) : Instr → Nat → Bool
  | .ldc n, 2 => (match strT[iA w]? with
      | some x => decide (x.1 = (mY k).cls) && x.2.1 == n
      | none => false) && nx == iP w + 2
  | _, _ => false
theorem T40 (hd : decode (mB k) (pcA k i) = .ok (ins, len)) (ho : ok40 k (wd k i) (pcA k (i + 1)) ins len = true) (h : Wp X d k (i + 1) L (vR 2 (iA (wd k i)) :: S) M Q) : Wp X d k i L S M Q := by
  intro p l e R s m args below meth c g A cells slots QQ C hr hk H locs ls hH hl hL hS
  have hO := C.2.2.2.2.2.2.1
  have q := (h p l e R s m args below meth c g A cells slots QQ C hr hk H locs ls hH hl hL (rS1 hS trivial))
  unfold ok40 at ho
  split at ho
  · rename_i n
    simp only [Bool.and_eq_true, beq_iff_eq] at ho
    obtain ⟨hc, hn⟩ := ho
    rw [hn] at q
    split at hc
    · rename_i x hx
      simp only [Bool.and_eq_true, decide_eq_true_eq, beq_iff_eq] at hc
      have hR := hO.2.2.2.1 _ x hx
      rw [hc.1, hc.2] at hR
      exact va_ldcS C.1 C.2.1 C.2.2.2.1 hR hd q
    · cases hc
  · cases ho
def ok41 (k w nx : Nat) : Instr → Nat → Bool
  | .getfield n, 3 => (match iA w with
      | 0 => decide (wt (iC w 0) = some (Jvm.Cond.fieldLink (mY k).cls n "java/lang/String" "value" "[B"))
      | _ => decide (wt (iC w 0) = some (Jvm.Cond.fieldLink (mY k).cls n "java/lang/String" "coder" "B"))) && nx == iP w + 3
  | _, _ => false
theorem T41 {n : Nat} (hd : decode (mB k) (pcA k i) = .ok (ins, len)) (ho : ok41 k (wd k i) (pcA k (i + 1)) ins len = true) (hn : n < 12) (h : Wp X d k (i + 1) L ((if iA (wd k i) = 0 then vR 1 (3 + n) else vI 0) :: S) M Q) : Wp X d k i L (vR 2 n :: S) M Q := by
  intro p l e R s m args below meth c g A cells slots QQ C hr hk H locs ls hH hl hL hS
  have hO := C.2.2.2.2.2.2.1
  have hrv : rV (if iA (wd k i) = 0 then vR 1 (3 + n) else vI 0) := by
    split
    · exact trivial
    · exact z32
  have hS2 : ∀ v ∈ S, rV v := fun v hv => hS v (List.mem_cons_of_mem _ hv)
  have q := (h p l e R s m args below meth c g A cells slots QQ C hr hk H locs ls hH hl hL (rS1 hS2 hrv))
  unfold ok41 at ho
  split at ho
  · simp only [Bool.and_eq_true, beq_iff_eq] at ho
    obtain ⟨hc, hn2⟩ := ho
    rw [hn2] at q
    split at hc
    · rename_i ha
      rw [if_pos ha] at q
      exact vk_getf C.1 C.2.1 (hO.2.2.1.1 n hn).2.2.1 hH.2.2.1 C.2.2.2.1 (C.2.2.2.2.1 _ (wt_in (of_decide_eq_true hc))) (fun x hx => hx) hd q
    · rename_i ha
      rw [if_neg ha] at q
      exact vk_getf C.1 C.2.1 (hO.2.2.1.1 n hn).2.1 hH.2.2.1 C.2.2.2.1 (C.2.2.2.2.1 _ (wt_in (of_decide_eq_true hc))) (fun x hx => hx) hd q
  · cases ho
def ok42 (k w : Nat) : Instr → Nat → Bool
  | .ifnonnull off, 3 => decide ((iP w : Int) + off = (pcA k (iB w) : Int))
  | _, _ => false
theorem T42 {t j : Nat} (ht : t < 3) (hd : decode (mB k) (pcA k i) = .ok (ins, len)) (ho : ok42 k (wd k i) ins len = true) (h : Wp X d k (iB (wd k i)) L S M Q) : Wp X d k i L (vR t j :: S) M Q := by
  intro p l e R s m args below meth c g A cells slots QQ C hr hk H locs ls hH hl hL hS
  have q := (h p l e R s m args below meth c g A cells slots QQ C hr hk H locs ls hH hl hL (fun x hx => hS x (List.mem_cons_of_mem _ hx)))
  obtain ⟨a, ha⟩ := gad_ref (g := g) (j := j) ht
  have e : cv g (vR t j) = .ref a := ha
  rw [List.map_cons, e]
  unfold ok42 at ho
  split at ho
  · exact lv_ifnonnull C.1 C.2.1 hd (of_decide_eq_true ho) q
  · cases ho
end RULES
