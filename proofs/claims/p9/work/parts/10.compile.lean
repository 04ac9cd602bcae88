/-! a method from a place on: its steps till it ends, calls, or comes to a place that is marked -/
def icB (c : Nat) (x y : Int) : Bool := match c with
  | 0 => decide (x = y)
  | 1 => decide (x ≠ y)
  | 2 => decide (x < y)
  | 3 => decide (y ≤ x)
  | 4 => decide (y < x)
  | _ => decide (x ≤ y)
theorem icB_iff {c : Nat} {x y : Int} : icB c x y = true ↔ icP c x y := by
  match c with
  | 0 => exact decide_eq_true_iff
  | 1 => exact decide_eq_true_iff
  | 2 => exact decide_eq_true_iff
  | 3 => exact decide_eq_true_iff
  | 4 => exact decide_eq_true_iff
  | n + 5 => exact decide_eq_true_iff
abbrev Br : Type := Nat × AV × AV × Nat × Nat × List AV
def br1 (k i : Nat) (S : List AV) : Option Br := match iO (wd k i), S with
  | 17, x :: S' => if isI x = true then some (iA (wd k i), x, (0, 0), iB (wd k i), i + 1, S') else none
  | 18, y :: x :: S' => if isI x && isI y then some (iA (wd k i), x, y, iB (wd k i), i + 1, S') else none
  | 19, y :: x :: S' => if isL x && isL y then some (iA (wd k i), x, y, iB (wd k i), i + 2, S') else none
  | _, _ => none
def sw1 (k i : Nat) (S : List AV) : Option (AV × List Nat × Nat × List AV) := match iO (wd k i), S with
  | 21, x :: S' => if isI x = true then some (x, swt.getD (iC (wd k i) 0) [], iB (wd k i), S') else none
  | _, _ => none
def mclk (k : Nat) : Nat := mcl.getD k 99
def recB (k' : Nat) (r : AV) : Bool := match r with
  | (4, j) => match SH[j.toNat]? with
    | some (.inr (ci, _)) => ci == mclk k'
    | _ => false
  | (6, j) => decide (j.toNat < 12) && mclk k' == 13
  | _ => false
def ca1 (k i : Nat) (S : List AV) : Option (Nat × List AV × List AV) := match iO (wd k i) with
  | 37 => match (S.take (iB (wd k i))).reverse with
    | r :: as => if as.length + 1 = iB (wd k i) ∧ iA (wd k i) < nK ∧ cSA (r :: as) ≤ mN (iA (wd k i)) ∧ cSA (S.drop (iB (wd k i))) ≤ 8 ∧ recB (iA (wd k i)) r = true then some (iA (wd k i), r :: as, S.drop (iB (wd k i))) else none
    | [] => none
  | 38 => if (S.take (iB (wd k i))).reverse.length = iB (wd k i) ∧ iA (wd k i) < nK ∧ cSA (S.take (iB (wd k i))).reverse ≤ mN (iA (wd k i)) ∧ cSA (S.drop (iB (wd k i))) ≤ 8 then some (iA (wd k i), (S.take (iB (wd k i))).reverse, S.drop (iB (wd k i))) else none
  | _ => none
def re1 (k i : Nat) (S : List AV) : Option (List Node × Option AV) := match iO (wd k i), S, mR k with
  | 33, [], none => some ([], none)
  | 34, [x], some .int => if isI x = true then some ([], some x) else none
  | 34, [(0, 0)], some .boolean => some ([], some (0, 0))
  | 34, [(0, 1)], some .boolean => some ([], some (0, 1))
  | 34, [x], some .boolean => if isI x = true then some ([(12, 0, [x])], some x) else none
  | 34, [x], some .byte => if isI x = true then some ([(12, 0, [x])], some x) else none
  | 34, [x], some .char => if isI x = true then some ([(13, 0, [x])], some x) else none
  | 35, [x], some .long => if isL x = true then some ([], some x) else none
  | 36, [(6, j)], some (.object _) => some ([], some (6, j))
  | _, _, _ => none
def resA (k' n : Nat) : Option (List AV) := match mR k' with
  | none => some []
  | some .int => some [(1, (n : Int))]
  | some .boolean => some [(1, (n : Int))]
  | some .char => some [(1, (n : Int))]
  | some .byte => some [(1, (n : Int))]
  | some .long => some [(3, (n : Int))]
  | _ => none
def rb (k' : Nat) : Nat := match mR k' with
  | none => 0
  | _ => 1
def oz : Option V → Int
  | some (.inl z) => z
  | some (.inr (.inl z)) => z
  | _ => 0
def eLA : Nat → List AV → List (Nat × AV)
  | _, [] => []
  | n, v :: vs => (n, v) :: eLA (n + catA v) vs
def lkAll (L : List (Nat × AV)) : List Nat → Option (List AV)
  | [] => some []
  | b :: bs => match lkA L b, lkAll L bs with
    | some a, some as => some (a :: as)
    | _, _ => none
def isC (a : AV) : Bool := match a.1 with
  | 0 => true
  | 2 => true
  | _ => false
def cmp (inl : Nat → Bool) (cut : Nat → Option (List Nat)) : Nat → Bool → Nat → Nat → Nat → List (Nat × AV) → List AV → List Fr → List Node
  | 0, _, _, _, _, _, _, _ => [(99, 0, [])]
  | f + 1, c, n, k, i, L, S, fs =>
    match (if c && fs.isEmpty then cut i else none) with
    | some dl => match lkAll L dl, S with
      | some as, [] => [(17, i, as)]
      | _, _ => [(99, 0, [])]
    | none => match go1 k i n L S with
      | some o => o.1 ++ cmp inl cut f true (n + bns o.1) k o.2.1 o.2.2.1 o.2.2.2 fs
      | none => match br1 k i S with
        | some (cc, x, y, i1, i2, S') =>
          if isC x && isC y then cmp inl cut f true n k (if icB cc x.2 y.2 = true then i1 else i2) L S' fs
          else (15, cc, [x, y, (0, ((cmp inl cut f true n k i1 L S' fs).length : Int))]) :: (cmp inl cut f true n k i1 L S' fs ++ cmp inl cut f true n k i2 L S' fs)
        | none => match sw1 k i S with
          | some (x, ts, df, S') => (ts.zipIdx.foldr (fun t acc => (15, 0, [x, (0, (t.2 : Int)), (0, ((cmp inl cut f true n k t.1 L S' fs).length : Int))]) :: (cmp inl cut f true n k t.1 L S' fs ++ acc)) (cmp inl cut f true n k df L S' fs))
          | none => match ca1 k i S with
            | some (k', as, S') =>
              if inl k' && decide (fs.length < 9) then cmp inl cut f true n k' 0 (eLA 0 as) [] ((k, i, L, S') :: fs)
              else match resA k' n with
                | some rs => (16, k', as) :: cmp inl cut f true (n + rb k') k (i + 1) L (rs ++ S') fs
                | none => [(99, 0, [])]
            | none => match re1 k i S with
              | some (l, v) => match fs with
                | [] => match v with
                  | none => l ++ [(18, 0, [])]
                  | some a => l ++ [(19, 0, [a])]
                | g :: gs => l ++ cmp inl cut f true n g.1 (g.2.1 + 1) g.2.2.1 (v.toList ++ g.2.2.2) gs
              | none => [(99, 0, [])]
def den (X : Xs) (CP : Nat → List V → Mm → (Option V → Mm → Prop) → Prop) (CT : Nat → List V → Mm → Prop) (Q : Option V → Mm → Prop) : Nat → List Node → Nat → (Nat → Int) → Mm → Prop
  | 0, _, _, _, _ => False
  | _ + 1, [], _, _, _ => False
  | f + 1, x :: r, n, σ, M =>
    if x.1 < 15 then nd X x n σ M (fun τ M' => den X CP CT Q f r (n + bn x) τ M')
    else match x with
      | (15, c, [a, b, z]) => (icP c (nm σ a) (nm σ b) → den X CP CT Q f (r.take z.2.toNat) n σ M) ∧ (¬ icP c (nm σ a) (nm σ b) → den X CP CT Q f (r.drop z.2.toNat) n σ M)
      | (16, k', as) => CP k' (as.map (ev σ)) M (fun v M' => retOK (mR k') v → (∀ y, v = some y → rV y) → okM M' → den X CP CT Q f r (n + rb k') (us σ n (oz v)) M')
      | (17, i, as) => CT i (as.map (ev σ)) M
      | (18, _, _) => Q none M
      | (19, _, [a]) => Q (some (ev σ a)) M
      | _ => False
theorem mcl_ok : ∀ k, k < nK → ∀ q, cls[mclk k]? = some q → q.1 = (mY k).cls := by decide +kernel
theorem mcl_str : ∀ k, k < nK → mclk k = 13 → (mY k).cls = "java/lang/String" := by decide +kernel
section SOUND
variable {X : Xs} {d : Nat}
abbrev EF : Type := Nat × Nat × List (Nat × V) × List V
def evF (σ : Nat → Int) (g : Fr) : EF := (g.1, g.2.1, evL σ g.2.2.1, g.2.2.2.map (ev σ))
def WS (X : Xs) (d : Nat) : Nat → Nat → List (Nat × V) → List V → List EF → Mm → (Option V → Mm → Prop) → Prop
  | k, i, L, S, [], M, Q => Wp X d k i L S M Q
  | k, i, L, S, g :: gs, M, Q => Wp X (d - (gs.length + 1)) k i L S M (fun v M' => retOK (mR k) v → (∀ y, v = some y → rV y) → okM M' → WS X d g.1 (g.2.1 + 1) g.2.2.1 (v.toList ++ g.2.2.2) gs M' Q)
def QT (X : Xs) (d k : Nat) (fs : List EF) (Q : Option V → Mm → Prop) : Option V → Mm → Prop := match fs with
  | [] => Q
  | g :: gs => fun v M' => retOK (mR k) v → (∀ y, v = some y → rV y) → okM M' → WS X d g.1 (g.2.1 + 1) g.2.2.1 (v.toList ++ g.2.2.2) gs M' Q
theorem WS_eq {k i : Nat} {L : List (Nat × V)} {S : List V} {fs : List EF} {M : Mm} {Q : Option V → Mm → Prop} : WS X d k i L S fs M Q = Wp X (d - fs.length) k i L S M (QT X d k fs Q) := by
  cases fs <;> rfl
theorem eLA_ev (σ : Nat → Int) : ∀ (as : List AV) (n : Nat), evL σ (eLA n as) = eL n (as.map (ev σ)) := by
  intro as
  induction as with
  | nil => intro n; rfl
  | cons a as ih =>
    intro n
    show (n, ev σ a) :: evL σ (eLA (n + catA a) as) = (n, ev σ a) :: eL (n + catV (ev σ a)) (as.map (ev σ))
    rw [ih, cat_ev]
theorem wL_eLA {n : Nat} : ∀ {as : List AV} {b : Nat}, wS n as → wL n (eLA b as) := by
  intro as
  induction as with
  | nil => intro b _ q hq; cases hq
  | cons a as ih =>
    intro b h q hq
    rcases List.mem_cons.mp hq with rfl | hq
    · exact h a List.mem_cons_self
    · exact ih (fun x hx => h x (List.mem_cons_of_mem _ hx)) q hq
def botK : Nat → List Fr → Nat
  | k, [] => k
  | _, g :: gs => botK g.1 gs
def wF (n : Nat) (fs : List Fr) : Prop := ∀ g ∈ fs, wL n g.2.2.1 ∧ wS n g.2.2.2
theorem wF.mono {n n' : Nat} {fs : List Fr} (h : wF n fs) (hn : n ≤ n') : wF n' fs := fun g hg => ⟨(h g hg).1.mono hn, (h g hg).2.mono hn⟩
theorem evF_agree {σ τ : Nat → Int} {n : Nat} (h : ∀ j, j < n → τ j = σ j) {fs : List Fr} (hF : wF n fs) : fs.map (evF τ) = fs.map (evF σ) := List.map_congr_left fun g hg => by
  unfold evF
  rw [evL_agree h (hF g hg).1, evS_agree h (hF g hg).2]
theorem den_nds {CP : Nat → List V → Mm → (Option V → Mm → Prop) → Prop} {CT : Nat → List V → Mm → Prop} {Q : Option V → Mm → Prop} {r : List Node} : ∀ {l : List Node} {F n : Nat} {σ : Nat → Int} {M : Mm}, (∀ x ∈ l, x.1 < 15) → den X CP CT Q F (l ++ r) n σ M → nds X l n σ M (fun τ M' => den X CP CT Q (F - l.length) r (n + bns l) τ M') := by
  intro l
  induction l with
  | nil => intro F n σ M _ h; exact h
  | cons x l ih =>
    intro F n σ M hl h
    cases F with
    | zero => exact h.elim
    | succ F =>
      have hx := hl x List.mem_cons_self
      have h : (if x.1 < 15 then nd X x n σ M (fun τ M' => den X CP CT Q F (l ++ r) (n + bn x) τ M') else _) := h
      rw [if_pos hx] at h
      refine nd_mono (fun τ M' _ q => ?_) h
      have q2 := ih (fun y hy => hl y (List.mem_cons_of_mem _ hy)) q
      have e1 : F + 1 - (x :: l).length = F - l.length := by simp
      have e2 : n + bns (x :: l) = n + bn x + bns l := by
        unfold bns
        rw [List.map_cons, List.sum_cons]
        omega
      rw [e1, e2]
      exact q2
theorem lkAll_ok {L : List (Nat × AV)} : ∀ {bs : List Nat} {as : List AV}, lkAll L bs = some as → as.length = bs.length ∧ ∀ q ∈ bs.zip as, q ∈ L := by
  intro bs
  induction bs with
  | nil => intro as h; obtain rfl := Option.some.inj h; exact ⟨rfl, fun q hq => by cases hq⟩
  | cons b bs ih =>
    intro as h
    unfold lkAll at h
    split at h
    · rename_i a as' ha has
      obtain rfl := Option.some.inj h
      obtain ⟨h1, h2⟩ := ih has
      refine ⟨by simp [h1], fun q hq => ?_⟩
      rw [List.zip_cons_cons] at hq
      rcases List.mem_cons.mp hq with rfl | hq
      · exact lkA_mem ha
      · exact h2 q hq
    · cases h
theorem recB_ok {k' : Nat} {r : AV} {σ : Nat → Int} (hk : k' < nK) (h : recB k' r = true) : recOK k' (ev σ r) := by
  unfold recB at h
  split at h
  · rename_i j
    split at h
    · rename_i ci fk hj
      have hc : ci = mclk k' := by simpa using h
      refine Or.inl ⟨j.toNat, ci, fk, ?_⟩
      cases hq : cls[ci]? with
      | none =>
        exfalso
        have hlt : ∀ x ∈ SH, (match x with | .inr (c, _) => decide (c < 12) | _ => true) = true := by decide +kernel
        have h12 := hlt _ (List.mem_of_getElem? hj)
        have h12 : ci < 12 := of_decide_eq_true h12
        have hl : cls.length = 12 := rfl
        exact absurd (List.getElem?_eq_none_iff.mp hq) (by omega)
      | some q => exact ⟨q, rfl, hj, rfl, mcl_ok k' hk q (by rw [← hc]; exact hq)⟩
    · cases h
  · rename_i j
    simp only [Bool.and_eq_true, decide_eq_true_eq, beq_iff_eq] at h
    exact Or.inr ⟨j.toNat, rfl, h.1, mcl_str k' hk h.2⟩
  · cases h
theorem isC_nm {a : AV} {σ : Nat → Int} (h : isC a = true) : nm σ a = a.2 := by
  obtain ⟨t, c⟩ := a
  match t, h with
  | 0, _ => rfl
  | 2, _ => rfl
theorem wS_app {n : Nat} {S T : List AV} (h1 : wS n S) (h2 : wS n T) : wS n (S ++ T) := fun a ha => (List.mem_append.mp ha).elim (h1 a) (h2 a)
/-- a branch, at the judgement -/
theorem br_sound {k i : Nat} {cc i1 i2 : Nat} {x y : AV} {L : List (Nat × V)} {S S' : List AV} {M : Mm} {Q : Option V → Mm → Prop} {σ : Nat → Int} (h : br1 k i S = some (cc, x, y, i1, i2, S')) (h1 : icP cc (nm σ x) (nm σ y) → Wp X d k i1 L (S'.map (ev σ)) M Q) (h2 : ¬ icP cc (nm σ x) (nm σ y) → Wp X d k i2 L (S'.map (ev σ)) M Q) : Wp X d k i L (S.map (ev σ)) M Q := by
  have h99 : iO (wd k i) ≠ 99 := by
    intro e
    unfold br1 at h
    rw [e] at h
    cases h
  obtain ⟨ins, len, hd, ho⟩ := okI_dec h99
  unfold br1 at h
  unfold okO at ho
  split at h
  · rename_i x0 S0 he
    rw [he] at ho
    split at h
    · rename_i hp
      obtain ⟨rfl, rfl, rfl, rfl, rfl, rfl⟩ : iA (wd k i) = cc ∧ x0 = x ∧ ((0, 0) : AV) = y ∧ iB (wd k i) = i1 ∧ i + 1 = i2 ∧ S0 = S' := by
        have := Option.some.inj h
        simp only [Prod.mk.injEq] at this
        obtain ⟨a1, a2, a3, a4, a5, a6⟩ := this
        exact ⟨a1, a2, a3, a4, a5, a6⟩
      rw [List.map_cons, ev_I hp]
      exact T17 hd ho h1 h2
    · cases h
  · rename_i y0 x0 S0 he
    rw [he] at ho
    split at h
    · rename_i hp
      simp only [Bool.and_eq_true] at hp
      obtain ⟨rfl, rfl, rfl, rfl, rfl, rfl⟩ : iA (wd k i) = cc ∧ x0 = x ∧ y0 = y ∧ iB (wd k i) = i1 ∧ i + 1 = i2 ∧ S0 = S' := by
        have := Option.some.inj h
        simp only [Prod.mk.injEq] at this
        exact this
      rw [List.map_cons, List.map_cons, ev_I hp.1, ev_I hp.2]
      exact T18 hd ho h1 h2
    · cases h
  · rename_i y0 x0 S0 he
    rw [he] at ho
    split at h
    · rename_i hp
      simp only [Bool.and_eq_true] at hp
      obtain ⟨rfl, rfl, rfl, rfl, rfl, rfl⟩ : iA (wd k i) = cc ∧ x0 = x ∧ y0 = y ∧ iB (wd k i) = i1 ∧ i + 2 = i2 ∧ S0 = S' := by
        have := Option.some.inj h
        simp only [Prod.mk.injEq] at this
        exact this
      rw [List.map_cons, List.map_cons, ev_L hp.1, ev_L hp.2]
      have ho2 : ok19 k i (wd k i) (pcA k (i + 1)) ins len = true := ho
      unfold ok19 at ho2
      split at ho2
      · simp only [Bool.and_eq_true, beq_iff_eq] at ho2
        obtain ⟨⟨⟨-, o2⟩, o3⟩, o4⟩ := ho2
        obtain ⟨ins2, len2, hd2, ho3⟩ := okI_dec (k := k) (i := i + 1) (by rw [o2]; decide)
        unfold okO at ho3
        rw [o2] at ho3
        refine T19a hd ho (T17 hd2 ho3 (fun q => ?_) (fun q => ?_))
        · rw [o4]
          rw [o3] at q
          exact h1 (icP_cmp.mp q)
        · rw [o3] at q
          exact h2 (fun z => q (icP_cmp.mpr z))
      · cases ho2
    · cases h
  · cases h
/-- a switch -/
theorem sw_sound {k i : Nat} {x : AV} {ts : List Nat} {df : Nat} {L : List (Nat × V)} {S S' : List AV} {M : Mm} {Q : Option V → Mm → Prop} {σ : Nat → Int} (h : sw1 k i S = some (x, ts, df, S')) (h1 : ∀ (j t : Nat), ts[j]? = some t → nm σ x = (j : Int) → Wp X d k t L (S'.map (ev σ)) M Q) (h2 : (∀ j : Nat, j < ts.length → nm σ x ≠ (j : Int)) → Wp X d k df L (S'.map (ev σ)) M Q) : Wp X d k i L (S.map (ev σ)) M Q := by
  have h99 : iO (wd k i) ≠ 99 := by
    intro e
    unfold sw1 at h
    rw [e] at h
    cases h
  obtain ⟨ins, len, hd, ho⟩ := okI_dec h99
  unfold sw1 at h
  unfold okO at ho
  split at h
  · rename_i x0 S0 he
    rw [he] at ho
    split at h
    · rename_i hp
      obtain ⟨rfl, rfl, rfl, rfl⟩ : x0 = x ∧ swt.getD (iC (wd k i) 0) [] = ts ∧ iB (wd k i) = df ∧ S0 = S' := by
        have := Option.some.inj h
        simp only [Prod.mk.injEq] at this
        exact this
      rw [List.map_cons, ev_I hp]
      refine T21 hd ho (fun t h0 ht => h1 (nm σ x0).toNat t ht (by omega)) (fun hb => h2 fun j hj hx => ?_)
      omega
    · cases h
  · cases h
/-- a call -/
theorem ca_sound {k i k' d' : Nat} {as S S' : List AV} {L : List (Nat × V)} {M : Mm} {Q Q' : Option V → Mm → Prop} {σ : Nat → Int} (h : ca1 k i S = some (k', as, S')) (hdd : d' < d) (hw : Wp X d' k' 0 (eL 0 (as.map (ev σ))) [] M Q') (hq : ∀ v M', Q' v M' → retOK (mR k') v → (∀ y, v = some y → rV y) → okM M' → Wp X d k (i + 1) L (v.toList ++ S'.map (ev σ)) M' Q) : Wp X d k i L (S.map (ev σ)) M Q := by
  have h99 : iO (wd k i) ≠ 99 := by
    intro e
    unfold ca1 at h
    rw [e] at h
    cases h
  obtain ⟨ins, len, hd, ho⟩ := okI_dec h99
  have hk1 : ∀ {w : Nat}, w < nK → 1 ≤ w → okMeth w = true := fun h1 h2 => okMeth_all h1 h2
  unfold ca1 at h
  unfold okO at ho
  split at h
  · rename_i he
    rw [he] at ho
    split at h
    · rename_i r as' hs
      split at h
      · rename_i hp
        obtain ⟨p1, p2, p3, p4, p5⟩ := hp
        obtain ⟨rfl, rfl, rfl⟩ : iA (wd k i) = k' ∧ r :: as' = as ∧ S.drop (iB (wd k i)) = S' := by
          have := Option.some.inj h
          simp only [Prod.mk.injEq] at this
          exact this
        have hS : S = as'.reverse ++ r :: S.drop (iB (wd k i)) := by
          have e1 : S.take (iB (wd k i)) = (r :: as').reverse := by rw [← hs, List.reverse_reverse]
          rw [List.reverse_cons] at e1
          have e2 := List.take_append_drop (iB (wd k i)) S
          rw [e1] at e2
          rw [List.append_assoc] at e2
          exact e2.symm
        have hm1 : 1 ≤ iA (wd k i) := by
          rcases Nat.eq_zero_or_pos (iA (wd k i)) with e | e
          · rw [e] at p5
            exfalso
            unfold recB at p5
            have hm0 : mclk 0 = 12 := by decide +kernel
            rw [hm0] at p5
            split at p5
            · split at p5
              · rename_i ci fk hj
                have hc : ci = 12 := by simpa using p5
                have hlt : ∀ x ∈ SH, (match x with | .inr (c, _) => decide (c < 12) | _ => true) = true := by decide +kernel
                have h12 : ci < 12 := of_decide_eq_true (hlt _ (List.mem_of_getElem? hj))
                omega
              · cases p5
            · simp at p5
            · cases p5
          · exact e
        rw [show S.map (ev σ) = (as'.map (ev σ)).reverse ++ ev σ r :: (S.drop (iB (wd k i))).map (ev σ) by
          conv => lhs; rw [hS]
          rw [List.map_append, List.map_reverse, List.map_cons]]
        exact T37 hd ho rfl (hk1 p2 hm1) (by rw [List.length_map]; exact p1) (by rw [← List.map_cons, cSum_ev]; exact p3) (by rw [cSum_ev]; exact p4) (recB_ok p2 p5) hdd hw hq
      · cases h
    · cases h
  · rename_i he
    rw [he] at ho
    split at h
    · rename_i hp
      obtain ⟨p1, p2, p3, p4⟩ := hp
      obtain ⟨rfl, rfl, rfl⟩ : iA (wd k i) = k' ∧ (S.take (iB (wd k i))).reverse = as ∧ S.drop (iB (wd k i)) = S' := by
        have := Option.some.inj h
        simp only [Prod.mk.injEq] at this
        exact this
      have hm1 : 1 ≤ iA (wd k i) := by
        rcases Nat.eq_zero_or_pos (iA (wd k i)) with e | e
        · exfalso
          have ho2 : ok38 k (wd k i) (pcA k (i + 1)) ins len = true := ho
          unfold ok38 at ho2
          split at ho2
          · simp only [Bool.and_eq_true, decide_eq_true_eq] at ho2
            have hl := wt_mem ho2.1.1.1.1
            rw [e] at hl
            have hno : ∀ w ∈ wtb, (match w with | Jvm.Cond.methodLink _ _ y => decide (y ≠ mY 0) | _ => true) = true := by decide +kernel
            have := hno _ hl
            simp at this
          · cases ho2
        · exact e
      rw [show S.map (ev σ) = ((S.take (iB (wd k i))).reverse.map (ev σ)).reverse ++ (S.drop (iB (wd k i))).map (ev σ) by
        rw [List.map_reverse, List.reverse_reverse, ← List.map_append, List.take_append_drop]]
      exact T38 hd ho rfl (hk1 p2 hm1) (by rw [List.length_map]; exact p1) (by rw [cSum_ev]; exact p3) (by rw [cSum_ev]; exact p4) hdd hw hq
    · cases h
  · cases h
/-- an end -/
theorem re_sound {k i : Nat} {l : List Node} {v : Option AV} {n : Nat} {L : List (Nat × V)} {S : List AV} {M : Mm} {Q : Option V → Mm → Prop} {σ : Nat → Int} (h : re1 k i S = some (l, v)) : (∀ x ∈ l, x.1 < 15) ∧ bns l = 0 ∧ (∀ a, v = some a → a ∈ S) ∧ (nds X l n σ M (fun τ M' => retOK (mR k) (v.map (ev σ)) → (∀ y, v.map (ev σ) = some y → rV y) → Q (v.map (ev σ)) M') → Wp X d k i L (S.map (ev σ)) M Q) := by
  have h99 : iO (wd k i) ≠ 99 := by
    intro e
    unfold re1 at h
    rw [e] at h
    cases h
  obtain ⟨ins, len, hd, ho⟩ := okI_dec h99
  unfold re1 at h
  unfold okO at ho
  have dec2 : ∀ {r : Instr}, (decide (ins = r) && len == 1) = true → decode (mB k) (pcA k i) = .ok (r, 1) := by
    intro r q
    simp only [Bool.and_eq_true, decide_eq_true_eq, beq_iff_eq] at q
    rw [hd, q.1, q.2]
  split at h
  · rename_i he hr
    rw [he] at ho
    obtain ⟨rfl, rfl⟩ : [] = l ∧ none = v := by simpa using h
    exact ⟨fun x hx => (by cases hx), rfl, fun a ha => (by cases ha), fun hq => TR (v := none) (dec2 ho) (fun hr2 => hq (by rw [hr]; trivial) hr2) (by rw [hr]; trivial)⟩
  · rename_i x he hr
    rw [he] at ho
    split at h
    · rename_i hp
      obtain ⟨rfl, rfl⟩ : [] = l ∧ some x = v := by simpa using h
      refine ⟨fun x hx => (by cases hx), rfl, fun a ha => (by obtain rfl := Option.some.inj ha; simp), fun hq => ?_⟩
      have hq : retOK (mR k) (some (ev σ x)) → (∀ y, some (ev σ x) = some y → rV y) → Q (some (ev σ x)) M := hq
      rw [ev_I hp] at hq
      rw [List.map_cons, ev_I hp]
      exact TR (v := some (vI (nm σ x))) (dec2 ho) (fun hr2 => hq (by rw [hr]; trivial) hr2) (by rw [hr]; trivial)
    · cases h
  · rename_i he hr
    rw [he] at ho
    obtain ⟨rfl, rfl⟩ : [] = l ∧ some ((0, 0) : AV) = v := by
      have := Option.some.inj h
      simp only [Prod.mk.injEq] at this
      exact ⟨this.1, this.2⟩
    refine ⟨fun x hx => (by cases hx), rfl, fun a ha => (by obtain rfl := Option.some.inj ha; simp), fun hq => ?_⟩
    exact TR (v := some (vI 0)) (dec2 ho) (fun hr2 => hq (by rw [hr]; exact Or.inl rfl) hr2) (by rw [hr]; exact Or.inl rfl)
  · rename_i he hr
    rw [he] at ho
    obtain ⟨rfl, rfl⟩ : [] = l ∧ some ((0, 1) : AV) = v := by
      have := Option.some.inj h
      simp only [Prod.mk.injEq] at this
      exact ⟨this.1, this.2⟩
    refine ⟨fun x hx => (by cases hx), rfl, fun a ha => (by obtain rfl := Option.some.inj ha; simp), fun hq => ?_⟩
    exact TR (v := some (vI 1)) (dec2 ho) (fun hr2 => hq (by rw [hr]; exact Or.inr rfl) hr2) (by rw [hr]; exact Or.inr rfl)
  · rename_i x _ _ he hr
    rw [he] at ho
    split at h
    · rename_i hp
      obtain ⟨rfl, rfl⟩ : [((12, 0, [x]) : Node)] = l ∧ some x = v := by
        have := Option.some.inj h
        simp only [Prod.mk.injEq] at this
        exact ⟨this.1, this.2⟩
      refine ⟨lt15 (by show (12 : Nat) < 15; decide), rfl, fun a ha => (by obtain rfl := Option.some.inj ha; simp), fun hq => ?_⟩
      obtain ⟨hz, hq⟩ := hq
      have hq : retOK (mR k) (some (ev σ x)) → (∀ y, some (ev σ x) = some y → rV y) → Q (some (ev σ x)) M := hq
      rw [ev_I hp] at hq
      rw [List.map_cons, ev_I hp]
      exact TR (v := some (vI (nm σ x))) (dec2 ho) (fun hr2 => hq (by rw [hr]; exact hz) hr2) (by rw [hr]; exact hz)
    · cases h
  · rename_i x he hr
    rw [he] at ho
    split at h
    · rename_i hp
      obtain ⟨rfl, rfl⟩ : [((12, 0, [x]) : Node)] = l ∧ some x = v := by
        have := Option.some.inj h
        simp only [Prod.mk.injEq] at this
        exact ⟨this.1, this.2⟩
      refine ⟨lt15 (by show (12 : Nat) < 15; decide), rfl, fun a ha => (by obtain rfl := Option.some.inj ha; simp), fun hq => ?_⟩
      obtain ⟨hz, hq⟩ := hq
      have hq : retOK (mR k) (some (ev σ x)) → (∀ y, some (ev σ x) = some y → rV y) → Q (some (ev σ x)) M := hq
      rw [ev_I hp] at hq
      rw [List.map_cons, ev_I hp]
      exact TR (v := some (vI (nm σ x))) (dec2 ho) (fun hr2 => hq (by rw [hr]; exact hz) hr2) (by rw [hr]; exact hz)
    · cases h
  · rename_i x he hr
    rw [he] at ho
    split at h
    · rename_i hp
      obtain ⟨rfl, rfl⟩ : [((13, 0, [x]) : Node)] = l ∧ some x = v := by
        have := Option.some.inj h
        simp only [Prod.mk.injEq] at this
        exact ⟨this.1, this.2⟩
      refine ⟨lt15 (by show (13 : Nat) < 15; decide), rfl, fun a ha => (by obtain rfl := Option.some.inj ha; simp), fun hq => ?_⟩
      obtain ⟨hz, hq⟩ := hq
      have hq : retOK (mR k) (some (ev σ x)) → (∀ y, some (ev σ x) = some y → rV y) → Q (some (ev σ x)) M := hq
      rw [ev_I hp] at hq
      rw [List.map_cons, ev_I hp]
      exact TR (v := some (vI (nm σ x))) (dec2 ho) (fun hr2 => hq (by rw [hr]; exact hz) hr2) (by rw [hr]; exact hz)
    · cases h
  · rename_i x he hr
    rw [he] at ho
    split at h
    · rename_i hp
      obtain ⟨rfl, rfl⟩ : [] = l ∧ some x = v := by simpa using h
      refine ⟨fun x hx => (by cases hx), rfl, fun a ha => (by obtain rfl := Option.some.inj ha; simp), fun hq => ?_⟩
      have hq : retOK (mR k) (some (ev σ x)) → (∀ y, some (ev σ x) = some y → rV y) → Q (some (ev σ x)) M := hq
      rw [ev_L hp] at hq
      rw [List.map_cons, ev_L hp]
      exact TR (v := some (vL (nm σ x))) (dec2 ho) (fun hr2 => hq (by rw [hr]; trivial) hr2) (by rw [hr]; trivial)
    · cases h
  · rename_i j nm2 he hr
    rw [he] at ho
    obtain ⟨rfl, rfl⟩ : [] = l ∧ some ((6, j) : AV) = v := by
      have := Option.some.inj h
      simp only [Prod.mk.injEq] at this
      exact ⟨this.1, this.2⟩
    refine ⟨fun x hx => (by cases hx), rfl, fun a ha => (by obtain rfl := Option.some.inj ha; simp), fun hq => ?_⟩
    exact TR (v := some (vR 2 j.toNat)) (dec2 ho) (fun hr2 => hq (by rw [hr]; trivial) hr2) (by rw [hr]; trivial)
  · cases h

theorem resA_ok {k' n : Nat} {rs : List AV} {v : Option V} {σ : Nat → Int} (h : resA k' n = some rs) (hv : retOK (mR k') v) : rs.map (ev (us σ n (oz v))) = v.toList ∧ wS (n + rb k') rs := by
  unfold resA at h
  unfold rb
  generalize mR k' = r at h hv
  match r, v, h, hv with
  | none, none, h, _ => obtain rfl := Option.some.inj h; exact ⟨rfl, fun a ha => by cases ha⟩
  | some .int, some (.inl z), h, _ => obtain rfl := Option.some.inj h; exact ⟨by rw [List.map_cons, ev_n1]; rfl, wS_c wA_n (fun a ha => by cases ha)⟩
  | some .boolean, some (.inl z), h, _ => obtain rfl := Option.some.inj h; exact ⟨by rw [List.map_cons, ev_n1]; rfl, wS_c wA_n (fun a ha => by cases ha)⟩
  | some .char, some (.inl z), h, _ => obtain rfl := Option.some.inj h; exact ⟨by rw [List.map_cons, ev_n1]; rfl, wS_c wA_n (fun a ha => by cases ha)⟩
  | some .byte, some (.inl z), h, _ => obtain rfl := Option.some.inj h; exact ⟨by rw [List.map_cons, ev_n1]; rfl, wS_c wA_n (fun a ha => by cases ha)⟩
  | some .long, some (.inr (.inl z)), h, _ => obtain rfl := Option.some.inj h; exact ⟨by rw [List.map_cons, ev_n3]; rfl, wS_c wA_n (fun a ha => by cases ha)⟩
  | none, some x, _, hv => exact absurd hv (by cases x <;> exact fun q => q)
  | some t, none, _, hv => exact absurd hv (by cases t <;> exact fun q => q)
  | some (.object _), some x, h, _ => cases h
  | some (.array _), some x, h, _ => cases h
  | some .float, some x, h, _ => cases h
  | some .double, some x, h, _ => cases h
  | some .short, some x, h, _ => cases h
  | some .int, some (.inr x), _, hv => exact absurd hv (by cases x <;> exact fun q => q)
  | some .boolean, some (.inr x), _, hv => exact absurd hv (by cases x <;> exact fun q => q)
  | some .char, some (.inr x), _, hv => exact absurd hv (by cases x <;> exact fun q => q)
  | some .byte, some (.inr x), _, hv => exact absurd hv (by cases x <;> exact fun q => q)
  | some .long, some (.inl x), _, hv => exact absurd hv (fun q => q)
  | some .long, some (.inr (.inr x)), _, hv => exact absurd hv (fun q => q)
theorem br1_in {k i : Nat} {cc i1 i2 : Nat} {x y : AV} {S S' : List AV} (h : br1 k i S = some (cc, x, y, i1, i2, S')) : ∀ a ∈ S', a ∈ S := by
  unfold br1 at h
  split at h
  · split at h
    · obtain ⟨-, -, -, -, -, rfl⟩ := by simpa only [Option.some.injEq, Prod.mk.injEq] using h
      exact fun a ha => List.mem_cons_of_mem _ ha
    · cases h
  · split at h
    · obtain ⟨-, -, -, -, -, rfl⟩ := by simpa only [Option.some.injEq, Prod.mk.injEq] using h
      exact fun a ha => List.mem_cons_of_mem _ (List.mem_cons_of_mem _ ha)
    · cases h
  · split at h
    · obtain ⟨-, -, -, -, -, rfl⟩ := by simpa only [Option.some.injEq, Prod.mk.injEq] using h
      exact fun a ha => List.mem_cons_of_mem _ (List.mem_cons_of_mem _ ha)
    · cases h
  · cases h
theorem sw1_in {k i : Nat} {x : AV} {ts : List Nat} {df : Nat} {S S' : List AV} (h : sw1 k i S = some (x, ts, df, S')) : ∀ a ∈ S', a ∈ S := by
  unfold sw1 at h
  split at h
  · split at h
    · obtain ⟨-, -, -, rfl⟩ := by simpa only [Option.some.injEq, Prod.mk.injEq] using h
      exact fun a ha => List.mem_cons_of_mem _ ha
    · cases h
  · cases h
theorem ca1_in {k i k' : Nat} {as S S' : List AV} (h : ca1 k i S = some (k', as, S')) : (∀ a ∈ S', a ∈ S) ∧ ∀ a ∈ as, a ∈ S := by
  unfold ca1 at h
  split at h
  · split at h
    · rename_i r as' hs
      split at h
      · obtain ⟨-, rfl, rfl⟩ := by simpa only [Option.some.injEq, Prod.mk.injEq] using h
        refine ⟨fun a ha => List.mem_of_mem_drop ha, fun a ha => ?_⟩
        rw [← hs] at ha
        exact List.mem_of_mem_take (List.mem_reverse.mp ha)
      · cases h
    · cases h
  · split at h
    · obtain ⟨-, rfl, rfl⟩ := by simpa only [Option.some.injEq, Prod.mk.injEq] using h
      exact ⟨fun a ha => List.mem_of_mem_drop ha, fun a ha => List.mem_of_mem_take (List.mem_reverse.mp ha)⟩
    · cases h
  · cases h
theorem den_br {CP : Nat → List V → Mm → (Option V → Mm → Prop) → Prop} {CT : Nat → List V → Mm → Prop} {Q : Option V → Mm → Prop} {F n c : Nat} {x y : AV} {t e : List Node} {σ : Nat → Int} {M : Mm} (h : den X CP CT Q F ((15, c, [x, y, (0, (t.length : Int))]) :: (t ++ e)) n σ M) : ∃ F', (icP c (nm σ x) (nm σ y) → den X CP CT Q F' t n σ M) ∧ (¬ icP c (nm σ x) (nm σ y) → den X CP CT Q F' e n σ M) := by
  cases F with
  | zero => exact h.elim
  | succ F =>
    have h : (icP c (nm σ x) (nm σ y) → den X CP CT Q F ((t ++ e).take ((t.length : Int)).toNat) n σ M) ∧ (¬ icP c (nm σ x) (nm σ y) → den X CP CT Q F ((t ++ e).drop ((t.length : Int)).toNat) n σ M) := h
    rw [Int.toNat_natCast, List.take_left, List.drop_left] at h
    exact ⟨F, h⟩
theorem den_sw {CP : Nat → List V → Mm → (Option V → Mm → Prop) → Prop} {CT : Nat → List V → Mm → Prop} {Q : Option V → Mm → Prop} {n : Nat} {x : AV} (B : Nat → List Node) (E : List Node) {σ : Nat → Int} {M : Mm} : ∀ (ts : List Nat) (b F : Nat), den X CP CT Q F ((ts.zipIdx b).foldr (fun t acc => (15, 0, [x, (0, (t.2 : Int)), (0, ((B t.1).length : Int))]) :: (B t.1 ++ acc)) E) n σ M →
    (∀ (j t : Nat), ts[j]? = some t → nm σ x = ((b + j : Nat) : Int) → ∃ F', den X CP CT Q F' (B t) n σ M) ∧ ((∀ j : Nat, j < ts.length → nm σ x ≠ ((b + j : Nat) : Int)) → ∃ F', den X CP CT Q F' E n σ M) := by
  intro ts
  induction ts with
  | nil => intro b F h; exact ⟨fun j t hj => by simp at hj, fun _ => ⟨F, h⟩⟩
  | cons t ts ih =>
    intro b F h
    rw [List.zipIdx_cons, List.foldr_cons] at h
    obtain ⟨F', h1, h2⟩ := den_br h
    have e0 : nm σ ((0, ((b : Nat) : Int)) : AV) = (b : Int) := rfl
    by_cases hx : nm σ x = (b : Int)
    · refine ⟨fun j u hj hj2 => ?_, fun hn => absurd (by simpa using hx) (hn 0 (by simp))⟩
      have hj0 : j = 0 := by omega
      subst hj0
      have : t = u := by simpa using hj
      subst this
      exact ⟨F', h1 hx⟩
    · obtain ⟨g1, g2⟩ := ih (b + 1) F' (h2 hx)
      refine ⟨fun j u hj hj2 => ?_, fun hn => g2 fun j hj => ?_⟩
      · cases j with
        | zero => exact absurd (by simpa using hj2) hx
        | succ j => exact g1 j u (by simpa using hj) (by rw [hj2]; congr 1; omega)
      · have := hn (j + 1) (by simpa using hj)
        rw [show b + 1 + j = b + (j + 1) by omega]
        exact this
theorem wS_in {n : Nat} {S S' : List AV} (hS : wS n S) (h : ∀ a ∈ S', a ∈ S) : wS n S' := fun a ha => hS a (h a ha)
/-- THE STEPS SAY THE JUDGEMENT -/
theorem cmp_sound {inl : Nat → Bool} {cut : Nat → Option (List Nat)} {CP : Nat → List V → Mm → (Option V → Mm → Prop) → Prop} {CT : Nat → List V → Mm → Prop} {Q : Option V → Mm → Prop} {k0 : Nat} (hCP : ∀ (k' : Nat) (as : List V) (M : Mm) (Q' : Option V → Mm → Prop), CP k' as M Q' → ∃ d', d' + 10 ≤ d ∧ Wp X d' k' 0 (eL 0 as) [] M Q') (hCT : ∀ (i : Nat) (dl : List Nat) (as : List V) (M : Mm), cut i = some dl → as.length = dl.length → CT i as M → Wp X d k0 i (dl.zip as) [] M Q) (hd : 10 ≤ d) :
    ∀ (f : Nat) (c : Bool) (n k i : Nat) (L : List (Nat × AV)) (S : List AV) (fs : List Fr) (F : Nat) (σ : Nat → Int) (M : Mm), botK k fs = k0 → fs.length ≤ 9 → wL n L → wS n S → wF n fs → den X CP CT Q F (cmp inl cut f c n k i L S fs) n σ M → WS X d k i (evL σ L) (S.map (ev σ)) (fs.map (evF σ)) M Q := by
  have den99 : ∀ {F n : Nat} {σ : Nat → Int} {M : Mm}, ¬ den X CP CT Q F [(99, 0, [])] n σ M := by
    intro F n σ M h
    cases F with
    | zero => exact h
    | succ F => exact h
  intro f
  induction f with
  | zero => intro c n k i L S fs F σ M _ _ _ _ _ h; exact (den99 h).elim
  | succ f ih =>
    intro c n k i L S fs F σ M hb hf hL hS hF h
    have hlen : (fs.map (evF σ)).length = fs.length := List.length_map ..
    rw [cmp] at h
    split at h
    · rename_i dl hdl
      split at h
      · rename_i as hlk
        split at hdl
        · rename_i hc
          simp only [Bool.and_eq_true, List.isEmpty_iff] at hc
          obtain ⟨-, rfl⟩ := hc
          obtain rfl : k = k0 := hb
          obtain ⟨h1, h2⟩ := lkAll_ok hlk
          cases F with
          | zero => exact h.elim
          | succ F =>
            refine (hCT i dl (as.map (ev σ)) M hdl (by rw [List.length_map, h1]) h).fewer fun q hq => ?_
            obtain ⟨j, hj⟩ := List.getElem?_of_mem hq
            have hj2 : (dl.zip as)[j]? = some (q.1, (as[j]?).getD (0, 0)) ∧ q.2 = ev σ ((as[j]?).getD (0, 0)) := by
              rw [List.getElem?_zip_eq_some] at hj
              obtain ⟨a1, a2⟩ := hj
              rw [List.getElem?_map] at a2
              cases ha : as[j]? with
              | none => rw [ha] at a2; cases a2
              | some a =>
                rw [ha] at a2
                refine ⟨List.getElem?_zip_eq_some.mpr ⟨a1, ha⟩, (Option.some.inj a2).symm⟩
            have hm := h2 _ (List.mem_of_getElem? hj2.1)
            have : q = (q.1, ev σ ((as[j]?).getD (0, 0))) := Prod.ext rfl hj2.2
            rw [this]
            exact List.mem_map.mpr ⟨_, hm, rfl⟩
        · cases hdl
      · exact (den99 h).elim
    · split at h
      · rename_i o ho
        obtain ⟨g1, g2, g3, g4⟩ := go_sound (X := X) (d := d - (fs.map (evF σ)).length) (by omega) hL hS ho
        rw [WS_eq]
        refine g4 σ M _ (nds_mono (fun τ M' ht q => ?_) (den_nds g1 h))
        have q2 := ih true (n + bns o.1) k o.2.1 o.2.2.1 o.2.2.2 fs _ τ M' hb hf g2 g3 (hF.mono (Nat.le_add_right _ _)) q
        rw [evF_agree ht hF, WS_eq] at q2
        exact q2
      · split at h
        · rename_i cc x y i1 i2 S' hbr
          have hS' := wS_in hS (br1_in hbr)
          rw [WS_eq]
          split at h
          · rename_i hcc
            simp only [Bool.and_eq_true] at hcc
            have e1 := isC_nm (σ := σ) hcc.1
            have e2 := isC_nm (σ := σ) hcc.2
            have q := ih true n k _ L S' fs F σ M hb hf hL hS' hF h
            rw [WS_eq] at q
            refine br_sound hbr (fun z => ?_) (fun z => ?_)
            · rw [e1, e2] at z
              rw [if_pos (icB_iff.mpr z)] at q
              exact q
            · rw [e1, e2] at z
              rw [if_neg (fun w => z (icB_iff.mp w))] at q
              exact q
          · obtain ⟨F', h1, h2⟩ := den_br h
            refine br_sound hbr (fun z => ?_) (fun z => ?_)
            · have q := ih true n k i1 L S' fs F' σ M hb hf hL hS' hF (h1 z)
              rw [WS_eq] at q
              exact q
            · have q := ih true n k i2 L S' fs F' σ M hb hf hL hS' hF (h2 z)
              rw [WS_eq] at q
              exact q
        · split at h
          · rename_i x ts df S' hsw
            have hS' := wS_in hS (sw1_in hsw)
            rw [WS_eq]
            obtain ⟨h1, h2⟩ := den_sw (fun t => cmp inl cut f true n k t L S' fs) (cmp inl cut f true n k df L S' fs) ts 0 F h
            refine sw_sound hsw (fun j t hj hx => ?_) (fun hn => ?_)
            · obtain ⟨F', q0⟩ := h1 j t hj (by rw [hx]; congr 1; omega)
              have q := ih true n k t L S' fs F' σ M hb hf hL hS' hF q0
              rw [WS_eq] at q
              exact q
            · obtain ⟨F', q0⟩ := h2 (fun j hj => by rw [Nat.zero_add]; exact hn j hj)
              have q := ih true n k df L S' fs F' σ M hb hf hL hS' hF q0
              rw [WS_eq] at q
              exact q
          · split at h
            · rename_i k' as S' hca
              obtain ⟨hin1, hin2⟩ := ca1_in hca
              have hS' := wS_in hS hin1
              have hAS := wS_in hS hin2
              rw [WS_eq]
              split at h
              · rename_i hc
                simp only [Bool.and_eq_true, decide_eq_true_eq] at hc
                have q := ih true n k' 0 (eLA 0 as) [] ((k, i, L, S') :: fs) F σ M hb (by show fs.length + 1 ≤ 9; omega) (wL_eLA hAS) (fun a ha => by cases ha) (List.forall_mem_cons.mpr ⟨⟨hL, hS'⟩, hF⟩) h
                rw [eLA_ev] at q
                refine ca_sound (d' := d - ((fs.map (evF σ)).length + 1)) hca (by omega) q (fun v M' hv hro hrv hM => ?_)
                have q3 := hv hro hrv hM
                rw [WS_eq] at q3
                exact q3
              · split at h
                · rename_i rs hrs
                  cases F with
                  | zero => exact h.elim
                  | succ F =>
                    obtain ⟨d', hd', hw⟩ := hCP k' (as.map (ev σ)) M _ h
                    refine ca_sound hca (by omega) hw (fun v M' hv hro hrv hM => ?_)
                    obtain ⟨e1, e2⟩ := resA_ok (σ := σ) hrs hro
                    have hag := us_agree σ n (oz v)
                    have q := ih true (n + rb k') k (i + 1) L (rs ++ S') fs F (us σ n (oz v)) M' hb hf (hL.mono (Nat.le_add_right _ _)) (wS_app e2 (hS'.mono (Nat.le_add_right _ _))) (hF.mono (Nat.le_add_right _ _)) (hv hro hrv hM)
                    rw [WS_eq, List.map_append, e1, evL_agree hag hL, evS_agree hag hS', evF_agree hag hF] at q
                    exact q
                · exact (den99 h).elim
            · split at h
              · rename_i l v hre
                split at h
                · split at h
                  · obtain ⟨r1, r2, r3, r4⟩ := re_sound (X := X) (d := d) (n := n) (L := evL σ L) (M := M) (Q := Q) (σ := σ) hre
                    refine r4 (nds_mono (fun τ M' ht q _ _ => ?_) (den_nds r1 h))
                    generalize F - l.length = F' at q
                    cases F' with
                    | zero => exact q.elim
                    | succ F' => exact q
                  · rename_i a
                    obtain ⟨r1, r2, r3, r4⟩ := re_sound (X := X) (d := d) (n := n) (L := evL σ L) (M := M) (Q := Q) (σ := σ) hre
                    refine r4 (nds_mono (fun τ M' ht q _ _ => ?_) (den_nds r1 h))
                    generalize F - l.length = F' at q
                    cases F' with
                    | zero => exact q.elim
                    | succ F' =>
                      have q : Q (some (ev τ a)) M' := q
                      rw [ev_agree ht (hS a (r3 a rfl))] at q
                      exact q
                · rename_i g gs _
                  rw [WS_eq]
                  obtain ⟨r1, r2, r3, r4⟩ := re_sound (X := X) (d := d - ((g :: gs).map (evF σ)).length) (n := n) (L := evL σ L) (M := M) (Q := QT X d k ((g :: gs).map (evF σ)) Q) (σ := σ) hre
                  refine r4 (nds_mono (fun τ M' ht q hro hrv => ?_) (den_nds r1 h))
                  rw [r2, Nat.add_zero] at q
                  have hg := hF g List.mem_cons_self
                  have hgs : wF n gs := fun y hy => hF y (List.mem_cons_of_mem _ hy)
                  have hv : wS n (v.toList ++ g.2.2.2) := wS_app (fun a ha => by
                    cases v with
                    | none => cases ha
                    | some b =>
                      obtain rfl := List.mem_singleton.mp ha
                      exact hS a (r3 a rfl)) hg.2
                  have q3 := ih true n g.1 (g.2.1 + 1) g.2.2.1 (v.toList ++ g.2.2.2) gs _ τ M' hb (by have : (g :: gs).length = gs.length + 1 := rfl; omega) hg.1 hv hgs q
                  rw [evL_agree ht hg.1, evS_agree ht hv, evF_agree ht hgs] at q3
                  intro _ _ _
                  have e3 : (v.toList ++ g.2.2.2).map (ev σ) = (v.map (ev σ)).toList ++ g.2.2.2.map (ev σ) := by
                    rw [List.map_append]
                    cases v <;> rfl
                  rw [e3] at q3
                  exact q3
              · exact (den99 h).elim
end SOUND
