/-! the rules of calls: a method's judgement is its contract -/
def cmpI (x y : Int) : Int := if y < x then 1 else if x = y then 0 else -1
theorem lgc {x y : Int} (hx : in64 x) (hy : in64 y) : Int32.ofInt (cmpI x y) = lg_cmp (Int64.ofInt x) (Int64.ofInt y) := by
  have e1 : (Int64.ofInt x > Int64.ofInt y) ↔ y < x := by rw [gt_iff_lt, Int64.lt_iff_toInt_lt, i64_to hx, i64_to hy]
  have e2 : (Int64.ofInt x = Int64.ofInt y) ↔ x = y := by rw [← Int64.toInt_inj, i64_to hx, i64_to hy]
  unfold cmpI lg_cmp
  by_cases h1 : y < x
  · rw [if_pos h1, if_pos (e1.mpr h1)]; decide
  · rw [if_neg h1, if_neg (fun q => h1 (e1.mp q))]
    by_cases h2 : x = y
    · rw [if_pos h2, if_pos (e2.mpr h2)]; decide
    · rw [if_neg h2, if_neg (fun q => h2 (e2.mp q))]; decide
theorem cmpI_r (x y : Int) : in32 (cmpI x y) := by
  unfold cmpI in32
  split
  · omega
  · split <;> omega
theorem icP_cmp {c : Nat} {x y : Int} : icP c (cmpI x y) 0 ↔ icP c x y := by
  unfold cmpI
  match c with
  | 0 => show (_ = (0 : Int)) ↔ x = y; split <;> (try split) <;> omega
  | 1 => show (_ ≠ (0 : Int)) ↔ x ≠ y; split <;> (try split) <;> omega
  | 2 => show (_ < (0 : Int)) ↔ x < y; split <;> (try split) <;> omega
  | 3 => show ((0 : Int) ≤ _) ↔ y ≤ x; split <;> (try split) <;> omega
  | 4 => show ((0 : Int) < _) ↔ y < x; split <;> (try split) <;> omega
  | n + 5 => show (_ ≤ (0 : Int)) ↔ x ≤ y; split <;> (try split) <;> omega
def cSum (vs : List V) : Nat := (vs.map catV).sum
def eL : Nat → List V → List (Nat × V)
  | _, [] => []
  | n, v :: vs => (n, v) :: eL (n + catV v) vs
theorem eL_args {X : Xs} {g : Gx} {A : Nat → Prop} {s : State} (h : ROk X g A s) : ∀ (vs : List V) (n : Nat), mapL g (eL n vs) = lv_args n (vs.map (cv g)) := by
  intro vs
  induction vs with
  | nil => intro n; rfl
  | cons v vs ih =>
    intro n
    show (n, cv g v) :: mapL g (eL (n + catV v) vs) = (n, cv g v) :: lv_args (if (cv g v).category = 2 then n + 2 else n + 1) (vs.map (cv g))
    rw [ih, cv_cat h]
    congr 2
    match v with
    | .inl _ => rfl
    | .inr (.inl _) => rfl
    | .inr (.inr _) => rfl
theorem eL_mem : ∀ (vs : List V) (n : Nat) (q : Nat × V), q ∈ eL n vs → q.2 ∈ vs := by
  intro vs
  induction vs with
  | nil => intro n q h; cases h
  | cons v vs ih =>
    intro n q h
    rcases List.mem_cons.mp h with rfl | h
    · exact List.mem_cons_self
    · exact List.mem_cons_of_mem _ (ih _ q h)
theorem cat_sl {X : Xs} {g : Gx} {A : Nat → Prop} {s : State} (h : ROk X g A s) : ∀ vs : List V, (lg_sl (vs.map (cv g))).length = cSum vs := by
  intro vs
  induction vs with
  | nil => rfl
  | cons v vs ih =>
    show (lg_sl (cv g v :: vs.map (cv g))).length = (catV v :: vs.map catV).sum
    unfold lg_sl at ih ⊢
    rw [List.flatMap_cons, List.length_append, ih, List.sum_cons, cv_cat h]
    show _ + cSum vs = catV v + cSum vs
    congr 1
    match v with
    | .inl _ => rfl
    | .inr (.inl _) => rfl
    | .inr (.inr _) => rfl
theorem cat_sum {X : Xs} {g : Gx} {A : Nat → Prop} {s : State} (h : ROk X g A s) (vs : List V) : ((vs.map (cv g)).map fun v => v.category).sum = cSum vs := by
  rw [List.map_map]
  unfold cSum
  congr 1
  exact List.map_congr_left fun v _ => cv_cat h v
def Rm (d : Nat) : Room := { frames := d, cells := 0, slots := 0, locals := 64 * d }
def Pcc (X : Xs) (g : Gx) (M : Mm) (sz : Nat) (vs : List V) : Array Value → State → Prop := va_Pc (vs.map (cv g)) (fun U => U.heap.size = sz ∧ va_P g.1 cls (wsOf g M) U.heap ∧ va_K g.1 cls (tysOf g) U ∧ va_D (fun _ => True) (wsOf g M) ∧ ROk X g (va_A (wsOf g M) sz) U)
def Qcc (k : Nat) (g : Gx) (A : Nat → Prop) (Q : Option V → Mm → Prop) : Array Value → State → Outcome → State → Prop := fun _ st o t =>
  (∃ (v : Option V) (M' : Mm), Q v M' ∧ retOK (mR k) v ∧ (∀ x, v = some x → rV x) ∧ okM M' ∧ o = .returned (v.map (cv g)) ∧ va_P g.1 cls (wsOf g M') t.heap) ∧ va_F A st t
theorem nar_c {z : Int} (h : 0 ≤ z ∧ z < 65536) : narrow .char (.int (Int32.ofInt z)) = .int (Int32.ofInt z) := by
  have e : z = (z.toNat : Int) := by omega
  have h2 : z.toNat < 65536 := by omega
  rw [e]
  show narrow .char (.int (nI z.toNat)) = .int (nI z.toNat)
  exact (pk_charN h2).1
theorem met_of {X : Xs} {d k : Nat} {vs : List V} {M : Mm} {Q : Option V → Mm → Prop} (h : Wp X d k 0 (eL 0 vs) [] M Q) (hc : cSum vs ≤ mN k) (hpl : plainName (mY k).cls = true) (hM : okM M) (hv : ∀ v ∈ vs, rV v) (hp0 : pcA k 0 = 0) (l : Launch) (g : Gx) (sz : Nat) :
    Met l (mY k) (ws k) (Rm d) (Pcc X g M sz vs) (Qcc k g (va_A (wsOf g M) sz) Q) 0 0 (va_A (wsOf g M) sz) := by
  refine Met.ofW (cc := mB k) (maxL := mN k) (ret := mR k) hpl rfl ?_
  intro p e s m args below meth c s₁ B hml hv2
  obtain ⟨rfl, hsz, hP, hK, hD0, hO⟩ := hv2
  have hx := B.exec
  have hb := B.bytes
  have hr := B.returns
  have hts := atoms_spec (ws := ws k) B.pre
  have hown : s.vm.findClass (mY k).cls = some m.cls := findClass_of_methodNamed B.named
  have hlocks := B.notSynchronized
  subst hsz
  have hD := hD0.self (sz := s.heap.size)
  rw [lg_entry_eq]
  have hl := lv_entry (vs.map (cv g)) (n := mN k) (by rw [cat_sl hO]; exact hc)
  generalize (lg_sl (vs.map (cv g)) ++ List.replicate (mN k - (lg_sl (vs.map (cv g))).length) Slot.unset).toArray = ls at hl ⊢
  rw [← eL_args hO] at hl
  have q := h p l e (Rm d) s m (vs.map (cv g)).toArray below meth c g (va_A (wsOf g M) s.heap.size) 0 0 (MQ below (Qcc k g (va_A (wsOf g M) s.heap.size) Q) (vs.map (cv g)).toArray s 0 0 (va_A (wsOf g M) s.heap.size)) ⟨hx, hb, hml, hown, hts, hK, hO, fun q h => Or.inr h⟩ ⟨Nat.le_refl _, Nat.le_refl _, Nat.le_refl _, Nat.le_refl _⟩ ?_ s.heap [] ls ⟨hP, hD, va_S.rf, hM⟩ hl (fun x hx => hv _ (eL_mem _ _ _ hx)) (fun v hv => by cases hv)
  · rw [hp0] at q
    exact q
  · intro i' ls' v M' H' locs' hdec hq hrok hrv hH
    have hend : ∀ t : State, t.heap = H' → Qcc k g (va_A (wsOf g M) s.heap.size) Q (vs.map (cv g)).toArray s (.returned (v.map (cv g))) t := fun t ht => ⟨⟨v, M', hq, hrok, hrv, hH.2.2.2, rfl, by rw [ht]; exact hH.1⟩, hH.2.2.1.F ht⟩
    generalize hrk : mR k = rk at hr hrok
    match v, rk, hrok, hdec, hend, hr with
    | none, none, _, hdec, hend, hr => exact W.vret hx hb hr (fun t ht _ => hend t ht) hH.2.2.1.2.2 hdec hlocks
    | some (.inl z), some .int, _, hdec, hend, hr => exact W.iret hx hb hr (fun t ht _ => hend t ht) hH.2.2.1.2.2 hdec hlocks
    | some (.inl z), some .boolean, hz, hdec, hend, hr => exact W.zret hx hb hr (nar_b hz).1 (fun t ht _ => hend t ht) hH.2.2.1.2.2 hdec hlocks
    | some (.inl z), some .char, hz, hdec, hend, hr => exact W.zret hx hb hr (nar_c hz) (fun t ht _ => hend t ht) hH.2.2.1.2.2 hdec hlocks
    | some (.inl z), some .byte, hz, hdec, hend, hr => exact W.zret hx hb hr (by rcases hz with rfl | rfl <;> decide) (fun t ht _ => hend t ht) hH.2.2.1.2.2 hdec hlocks
    | some (.inr (.inl z)), some .long, _, hdec, hend, hr => exact W.lret hx hb hr (fun t ht _ => hend t ht) hH.2.2.1.2.2 hdec hlocks
    | some (.inr (.inr (2, j))), some (.object nm), _, hdec, hend, hr => exact W.aret hx hb hr (Or.inl ⟨nm, rfl⟩) (Or.inr ⟨_, rfl⟩) (fun t ht _ => hend t ht) hH.2.2.1.2.2 hdec hlocks
    | none, some t, h, _, _, _ => exact absurd h (by cases t <;> exact fun q => q)
    | some (.inr (.inr (0, j))), some t, h, _, _, _ => exact absurd h (by cases t <;> exact fun q => q)
    | some (.inr (.inr (1, j))), some t, h, _, _, _ => exact absurd h (by cases t <;> exact fun q => q)
    | some (.inr (.inr (n + 3, j))), some t, h, _, _, _ => exact absurd h (by cases t <;> exact fun q => q)
section CG
variable {p : Program} {l : Launch} {e : Env} {R : Room} {s : State} {m : MethodId} {args : Array Value} {below : List Frame} {meth : Method} {c : Code} {H : Heap} {locs : List Loc} {cells slots : Nat} {QQ : State → Prop}
theorem callG {k' : Nat} {g : Gx} {A0 A1 : Nat → Prop} {H0 : Heap} {Q : Option V → Mm → Prop} {pc : Nat} {ls : Array Slot} {st0 rest : List Value} {a : Array Value} {free : Addr → Prop}
    (hr : va_Run p l e R s m args below meth c H locs cells slots 0 0 (F0 m pc ls st0) rest (Qcc k' g A1 Q a) free) (hS : va_S A0 H0 H locs) (hA : ∀ q, q < H.size → A1 q → A0 q) (hf : ∀ q, free q → A0 q)
    (kk : ∀ (v : Option V) (M' : Mm) (H1 : Heap) (locs1 : List Loc), Q v M' → retOK (mR k') v → (∀ x, v = some x → rV x) → okM M' → va_P g.1 cls (wsOf g M') H1 → va_S A0 H0 H1 locs1 → W p l e R s m args below meth c H1 locs1 cells slots QQ (F0 m (pc + 3) ls (v.toList.map (cv g) ++ rest))) : W p l e R s m args below meth c H locs cells slots QQ (F0 m pc ls st0) := by
  intro T hT X
  obtain ⟨v, st₀, t, T', L, h0, X', hL, e1, e2, ⟨⟨v', M', hq, hro, hrv, hM, hv, hP⟩, hz, hk⟩, st⟩ := hr T hT X
  have hv2 : v = v'.map (cv g) := Outcome.returned.inj hv
  subst hv2
  rw [h0] at hz hk
  obtain ⟨t2, a1, b1⟩ := kk v' M' T'.heap (locs ++ L) hq hro hrv hM (by rw [e1]; exact hP)
    ⟨Nat.le_trans hS.1 (by rw [e1]; exact hz), fun q h1 h2 => by rw [e1, hk q (Nat.lt_of_lt_of_le h1 hS.1) (fun z => h2 (hA q (Nat.lt_of_lt_of_le h1 hS.1) z))]; exact hS.2.1 q h1 h2, fun q hq => by
      rcases List.mem_append.mp hq with h | h
      · exact hS.2.2 q h
      · exact hf _ (hL q h)⟩ T' rfl X'
  refine ⟨t2, st t2 ?_, b1⟩
  have e3 : (v'.map (cv g)).toList = v'.toList.map (cv g) := by cases v' <;> rfl
  rw [e3]
  exact a1
end CG
theorem ws_fst (g : Gx) (M M' : Mm) (j : Nat) : ((wsOf g M)[j]?).map Prod.fst = ((wsOf g M')[j]?).map Prod.fst := by
  simp only [wsOf, List.getElem?_mapIdx, Option.map_map]
  congr 1
theorem vD_any {g : Gx} {A : Nat → Prop} {M M' : Mm} (h : va_D A (wsOf g M)) : va_D A (wsOf g M') := by
  have tr : ∀ (j : Nat) (q : Nat × va_E), (wsOf g M')[j]? = some q → ∃ e, (wsOf g M)[j]? = some (q.1, e) := by
    intro j q hq
    have h1 := ws_fst g M M' j
    rw [hq] at h1
    cases h2 : (wsOf g M)[j]? with
    | none => rw [h2] at h1; cases h1
    | some r =>
      rw [h2] at h1
      have h3 : r.1 = q.1 := Option.some.inj h1
      exact ⟨r.2, by rw [← h3]⟩
  refine ⟨fun i j x y hx hy hxy => ?_, fun j q hq => ?_⟩
  · obtain ⟨e1, h1⟩ := tr i x hx
    obtain ⟨e2, h2⟩ := tr j y hy
    exact h.1 i j _ _ h1 h2 hxy
  · obtain ⟨e1, h1⟩ := tr j q hq
    exact h.2 j (q.1, e1) h1
theorem vA_in {g : Gx} {A0 : Nat → Prop} {M : Mm} {s : State} {H : Heap} {locs : List Loc} (hD : va_D A0 (wsOf g M)) (hS : va_S A0 s.heap H locs) (hA : ∀ q, s.heap.size ≤ q → A0 q) : ∀ q, va_A (wsOf g M) H.size q → A0 q := by
  intro q h
  rcases h with ⟨j, e, h⟩ | h
  · exact hD.2 j _ h
  · exact hA q (Nat.le_trans hS.1 h)
theorem pcc_blind (X : Xs) (g : Gx) (M : Mm) (sz : Nat) (vs : List V) : FrameBlind (Pcc X g M sz vs) := by
  intro a U gg mk q
  obtain ⟨q1, q2, q3, q4, q5, q6⟩ := q
  exact ⟨q1, q2, q3, va_K.moved (u := U) (U := U.calling gg mk a) (Vm.Alike.refl U.vm) q4, q5, ROk.same q6 rfl rfl⟩
theorem pcc_pre {X : Xs} {g : Gx} {A : Nat → Prop} {M : Mm} {s : State} {H : Heap} {locs : List Loc} (hH : Hold g A s H locs M) (hK : va_K g.1 cls (tysOf g) s) (hO : ROk X g A s) (hA : ∀ q, s.heap.size ≤ q → A q) (vs : List V) : ∀ U : State, U.heap = H → s.WarmedH U.vm → Pcc X g M H.size vs (vs.map (cv g)).toArray U := by
  intro U hU hW
  refine ⟨rfl, by rw [hU], by rw [hU]; exact hH.1, va_K.moved hW.alike hK, hH.2.1.weaken (fun _ _ _ _ => trivial), ?_⟩
  exact hO.to hW (fun a h1 h2 => by rw [hU]; exact hH.2.2.1.2.1 a h1 h2) (vA_in hH.2.1 hH.2.2.1 hA)
/-- the tables' words are all such as a callee may have -/
theorem tbl_good : ∀ w ∈ wtb, goodWord w = true := fun w hw => (List.mem_filter.mp hw).2
/-- what a callee must be -/
def lEq : List UInt8 → List UInt8 → Bool
  | [], [] => true
  | x :: xs, y :: ys => Nat.beq x.toNat y.toNat && lEq xs ys
  | _, _ => false
theorem lEq_ok : ∀ {l m : List UInt8}, lEq l m = true → l = m := by
  intro l
  induction l with
  | nil => intro m h; cases m with
    | nil => rfl
    | cons y ys => cases h
  | cons x xs ih =>
    intro m h
    cases m with
    | nil => cases h
    | cons y ys =>
      unfold lEq at h
      rw [Bool.and_eq_true] at h
      rw [ih h.2, UInt8.toNat_inj.mp (Nat.eq_of_beq_eq_true h.1)]
def okWord (k : Nat) : Option Jvm.Cond → Bool
  | some (Jvm.Cond.code y b n r) => decide (y = mY k) && lEq b.data.toList (mB k).data.toList && Nat.beq n (mN k) && decide (r = mR k)
  | _ => false
theorem okWord_ok {k : Nat} {w : Option Jvm.Cond} (h : okWord k w = true) : w = some (Jvm.Cond.code (mY k) (mB k) (mN k) (mR k)) := by
  unfold okWord at h
  split at h
  · rename_i y b n r
    simp only [Bool.and_eq_true, decide_eq_true_eq] at h
    obtain ⟨⟨⟨h1, h2⟩, h3⟩, h4⟩ := h
    have hb : b = mB k := by
      have e := lEq_ok h2
      have e2 : b.data = (mB k).data := Array.toList_inj.mp e
      cases b
      generalize mB k = z at e2
      cases z
      exact congrArg ByteArray.mk e2
    rw [h1, hb, Nat.eq_of_beq_eq_true h3, h4]
  · cases h
def okMeth (k : Nat) : Bool := okWord k (wt (cpl.getD k 0)) && decide (mN k ≤ 45) && plainName (mY k).cls && decide (pcA k 0 = 0) && decide ((mY k).cls ≠ "java/lang/invoke/MethodHandle" ∧ (mY k).cls ≠ "java/lang/invoke/VarHandle")
def npar (k : Nat) : Option Nat := (parseMethodDescriptor (mY k).desc).map (fun d => d.parameters.length)
theorem callee_words {k k' : Nat} (h : okMeth k' = true) {args : Array Value} {s : State} (hts : ∀ w ∈ ws k, w.before args s = true) : (∀ w ∈ ws k', ∀ (a' : Array Value) (U : State), s.WarmedH U.vm → w.before a' U = true) ∧ (Jvm.Cond.code (mY k') (mB k') (mN k') (mR k')).before args s = true := by
  unfold okMeth at h
  simp only [Bool.and_eq_true, decide_eq_true_eq] at h
  have hc := wt_mem (okWord_ok h.1.1.1.1)
  refine ⟨fun w hw a' U hW => ?_, hts _ (List.mem_cons_of_mem _ hc)⟩
  have hw2 : w ∈ wtb := by
    rcases List.mem_cons.mp hw with rfl | h
    · exact hc
    · exact h
  exact word_at hW (good_of_word (tbl_good w hw2)) (hts w (List.mem_cons_of_mem _ hw2))
section RULES
variable {X : Xs} {d k i : Nat} {L : List (Nat × V)} {S : List V} {M : Mm} {Q : Option V → Mm → Prop} {ins : Instr} {len : Nat}
def ok37 (k w nx : Nat) : Instr → Nat → Bool
  | .invokevirtual n, 3 => decide (wt (iC w 0) = some (Jvm.Cond.methodLink (mY k).cls n (mY (iA w)))) && decide (wt (iC w 1) = some (Jvm.Cond.instanceMethod (mY (iA w)))) && decide (wt (iC w 2) = some (Jvm.Cond.selects (mY (iA w)).cls (mY (iA w)) (mY (iA w)))) && decide (wt (iC w 3) = some (Jvm.Cond.initialized (mY (iA w)).cls)) && decide (npar (iA w) = some (iB w - 1)) && nx == iP w + 3
  | _, _ => false
def ok38 (k w nx : Nat) : Instr → Nat → Bool
  | .invokestatic n, 3 => decide (wt (iC w 0) = some (Jvm.Cond.methodLink (mY k).cls n (mY (iA w)))) && decide (wt (iC w 1) = some (Jvm.Cond.static (mY (iA w)))) && decide (wt (iC w 3) = some (Jvm.Cond.initialized (mY (iA w)).cls)) && decide (npar (iA w) = some (iB w)) && nx == iP w + 3
  | _, _ => false
theorem npar_len {k n : Nat} (h : npar k = some n) : ∀ sig, parseMethodDescriptor (mY k).desc = some sig → n = sig.parameters.length := by
  intro sig hs
  unfold npar at h
  rw [hs] at h
  exact (Option.some.inj h).symm
/-- who is called: an object of the world, of the callee's class, or a String constant -/
def recOK (k' : Nat) (r : V) : Prop := (∃ j ci fk q, r = vR 0 j ∧ SH[j]? = some (.inr (ci, fk)) ∧ cls[ci]? = some q ∧ q.1 = (mY k').cls) ∨ (∃ n, r = vR 2 n ∧ n < 12 ∧ (mY k').cls = "java/lang/String")
theorem T37 {d' k' : Nat} {r : V} {as : List V} {Q' : Option V → Mm → Prop} (hd : decode (mB k) (pcA k i) = .ok (ins, len)) (ho : ok37 k (wd k i) (pcA k (i + 1)) ins len = true) (hk' : iA (wd k i) = k') (hm : okMeth k' = true) (hn : as.length + 1 = iB (wd k i)) (hc : cSum (r :: as) ≤ mN k') (hcS : cSum S ≤ 8) (hrec : recOK k' r) (hdd : d' < d) (hw : Wp X d' k' 0 (eL 0 (r :: as)) [] M Q') (h : ∀ v M', Q' v M' → retOK (mR k') v → (∀ x, v = some x → rV x) → okM M' → Wp X d k (i + 1) L (v.toList ++ S) M' Q) : Wp X d k i L (as.reverse ++ r :: S) M Q := by
  intro p l e R s m args below meth c g A cells slots QQ C hr hk H locs ls hH hl hL hS
  subst hk'
  have hvs : ∀ v ∈ r :: as, rV v := by
    intro v hv
    rcases List.mem_cons.mp hv with rfl | hv
    · exact hS _ (by simp)
    · exact hS _ (by simp [hv])
  have hS2 : ∀ v ∈ S, rV v := fun v hv => hS v (by simp [hv])
  obtain ⟨hws, hcode⟩ := callee_words hm C.2.2.2.2.1
  have hm2 := hm
  unfold okMeth at hm2
  simp only [Bool.and_eq_true, decide_eq_true_eq] at hm2
  obtain ⟨⟨⟨⟨hm0, hmN⟩, hpl⟩, hp0⟩, hne⟩ := hm2
  unfold ok37 at ho
  split at ho
  · rename_i n
    simp only [Bool.and_eq_true, beq_iff_eq, decide_eq_true_eq] at ho
    obtain ⟨⟨⟨⟨⟨o1, o2⟩, o3⟩, o4⟩, o5⟩, o6⟩ := ho
    have hM := met_of hw hc hpl hH.2.2.2 hvs hp0 l g H.size
    have hfree := vA_in hH.2.1 hH.2.2.1 C.2.2.2.2.2.2.2
    have hpre := pcc_pre hH C.2.2.2.2.2.1 C.2.2.2.2.2.2.1 C.2.2.2.2.2.2.2 (r :: as)
    obtain ⟨a0, ha0, cellB, hcB, hoB, hclB⟩ : ∃ a0 : Nat, cv g r = .ref a0 ∧ ∃ cellB : Cell, H[a0]? = some cellB ∧ cellB.vm.isStatics = false ∧ s.vm.findClass (mY (iA (wd k i))).cls = some cellB.cls := by
      rcases hrec with ⟨j, ci, fk, q, rfl, hj, hq, he⟩ | ⟨n, rfl, hn, he⟩
      · refine ⟨g.2.1 j, rfl, ?_⟩
        rw [← he]
        exact va_recv C.2.2.2.2.2.1 hH.1 hq (ws_get hj)
      · refine ⟨gsa g n, rfl, ?_⟩
        rw [he]
        exact vk_recv C.2.2.2.2.2.2.1.2.2.1 hn hH.2.2.1
    have hstk : (as.reverse ++ r :: S).map (cv g) = (as.map (cv g)).reverse ++ .ref a0 :: S.map (cv g) := by
      rw [List.map_append, List.map_reverse, List.map_cons, ha0]
    rw [hstk]
    have hargs : (r :: as).map (cv g) = .ref a0 :: as.map (cv g) := by rw [List.map_cons, ha0]
    rw [hargs] at hpre
    refine callG (va_runV (As := as.map (cv g)) (rest := S.map (cv g)) (n := as.length) (C := (mY (iA (wd k i))).cls) (index := n) (bytes := mB (iA (wd k i))) (maxL := mN (iA (wd k i))) (ret := mR (iA (wd k i))) ⟨C.1, C.2.1, C.2.2.1, C.2.2.2.1, C.2.2.2.2.1⟩ hM ⟨⟨rfl, rfl, ?_, ?_, hws, List.mem_cons_self, hcode, C.2.2.2.2.1 _ (wt_in o4), hne, ?_, C.2.2.2.2.1 _ (wt_in o1)⟩, C.2.2.2.2.1 _ (wt_in o2), C.2.2.2.2.1 _ (wt_in o3)⟩ ⟨pcc_blind X g M H.size (r :: as), ⟨cellB, hcB, hoB, hclB⟩, hpre⟩ rfl (by simp) hl.1 rfl (lv_room (by rw [cat_sum C.2.2.2.2.2.2.1]; exact hcS)) hd ⟨hr.2.2.1, hr.2.2.2⟩) hH.2.2.1 (fun q _ h => hfree q h) hfree (fun v M' H1 locs1 hq hro hrv hM1 hP1 hS1 => ?_)
    · show d' + 1 ≤ R.frames
      omega
    · show 8 + (mN (iA (wd k i)) + 11) + 64 * d' ≤ R.locals
      omega
    · intro sig hsig
      have := npar_len o5 sig hsig
      omega
    · have q := h v M' hq hro hrv hM1 p l e R s m args below meth c g A cells slots QQ C hr hk H1 locs1 ls ⟨hP1, vD_any hH.2.1, hS1, hM1⟩ hl hL (fun x hx => by
        rcases List.mem_append.mp hx with hx | hx
        · exact hrv x (by cases v with
            | none => cases hx
            | some y => rw [List.mem_singleton.mp hx])
        · exact hS2 x hx)
      rw [o6, List.map_append] at q
      exact q
  · cases ho
theorem T38 {d' k' : Nat} {as : List V} {Q' : Option V → Mm → Prop} (hd : decode (mB k) (pcA k i) = .ok (ins, len)) (ho : ok38 k (wd k i) (pcA k (i + 1)) ins len = true) (hk' : iA (wd k i) = k') (hm : okMeth k' = true) (hn : as.length = iB (wd k i)) (hc : cSum as ≤ mN k') (hcS : cSum S ≤ 8) (hdd : d' < d) (hw : Wp X d' k' 0 (eL 0 as) [] M Q') (h : ∀ v M', Q' v M' → retOK (mR k') v → (∀ x, v = some x → rV x) → okM M' → Wp X d k (i + 1) L (v.toList ++ S) M' Q) : Wp X d k i L (as.reverse ++ S) M Q := by
  intro p l e R s m args below meth c g A cells slots QQ C hr hk H locs ls hH hl hL hS
  subst hk'
  have hvs : ∀ v ∈ as, rV v := fun v hv => hS _ (by simp [hv])
  have hS2 : ∀ v ∈ S, rV v := fun v hv => hS v (by simp [hv])
  obtain ⟨hws, hcode⟩ := callee_words hm C.2.2.2.2.1
  have hm2 := hm
  unfold okMeth at hm2
  simp only [Bool.and_eq_true, decide_eq_true_eq] at hm2
  obtain ⟨⟨⟨⟨hm0, hmN⟩, hpl⟩, hp0⟩, hne⟩ := hm2
  unfold ok38 at ho
  split at ho
  · rename_i n
    simp only [Bool.and_eq_true, beq_iff_eq, decide_eq_true_eq] at ho
    obtain ⟨⟨⟨⟨o1, o2⟩, o4⟩, o5⟩, o6⟩ := ho
    have hM := met_of hw hc hpl hH.2.2.2 hvs hp0 l g H.size
    have hfree := vA_in hH.2.1 hH.2.2.1 C.2.2.2.2.2.2.2
    have hpre := pcc_pre hH C.2.2.2.2.2.1 C.2.2.2.2.2.2.1 C.2.2.2.2.2.2.2 as
    have hstk : (as.reverse ++ S).map (cv g) = (as.map (cv g)).reverse ++ S.map (cv g) := by
      rw [List.map_append, List.map_reverse]
    rw [hstk]
    refine callG (va_runS (As := as.map (cv g)) (rest := S.map (cv g)) (n := as.length) (index := n) (bytes := mB (iA (wd k i))) (maxL := mN (iA (wd k i))) (ret := mR (iA (wd k i))) ⟨C.1, C.2.1, C.2.2.1, C.2.2.2.1, C.2.2.2.2.1⟩ hM ⟨⟨rfl, rfl, ?_, ?_, hws, List.mem_cons_self, hcode, C.2.2.2.2.1 _ (wt_in o4), hne, ?_, C.2.2.2.2.1 _ (wt_in o1)⟩, C.2.2.2.2.1 _ (wt_in o2)⟩ ⟨pcc_blind X g M H.size as, hpre⟩ rfl (by simp) hl.1 rfl (lv_room (by rw [cat_sum C.2.2.2.2.2.2.1]; exact hcS)) hd ⟨hr.2.2.1, hr.2.2.2⟩) hH.2.2.1 (fun q _ h => hfree q h) hfree (fun v M' H1 locs1 hq hro hrv hM1 hP1 hS1 => ?_)
    · show d' + 1 ≤ R.frames
      omega
    · show 8 + (mN (iA (wd k i)) + 11) + 64 * d' ≤ R.locals
      omega
    · intro sig hsig
      have := npar_len o5 sig hsig
      omega
    · have q := h v M' hq hro hrv hM1 p l e R s m args below meth c g A cells slots QQ C hr hk H1 locs1 ls ⟨hP1, vD_any hH.2.1, hS1, hM1⟩ hl hL (fun x hx => by
        rcases List.mem_append.mp hx with hx | hx
        · exact hrv x (by cases v with
            | none => cases hx
            | some y => rw [List.mem_singleton.mp hx])
        · exact hS2 x hx)
      rw [o6, List.map_append] at q
      exact q
  · cases ho
def ok43 (k w nx : Nat) : Instr → Nat → Bool
  | .invokestatic n, 3 => (match iA w with
      | 0 => decide (wt (iC w 0) = some (Jvm.Cond.methodLink (mY k).cls n Lib.Math.max.name)) && decide (wt (iC w 1) = some (Jvm.Cond.static Lib.Math.max.name)) && decide (wt (iC w 3) = some (Jvm.Cond.code Lib.Math.max.name Lib.Math.max.code 2 (some .int)))
      | _ => decide (wt (iC w 0) = some (Jvm.Cond.methodLink (mY k).cls n Lib.Math.min.name)) && decide (wt (iC w 1) = some (Jvm.Cond.static Lib.Math.min.name)) && decide (wt (iC w 3) = some (Jvm.Cond.code Lib.Math.min.name Lib.Math.min.code 2 (some .int))))
      && decide (wt (iC w 2) = some (Jvm.Cond.initialized "java/lang/Math")) && nx == iP w + 3
  | _, _ => false
theorem T43 {x y : Int} (hd : decode (mB k) (pcA k i) = .ok (ins, len)) (ho : ok43 k (wd k i) (pcA k (i + 1)) ins len = true) (hcS : cSum S ≤ 8) (hdd : 1 ≤ d) (h : Wp X d k (i + 1) L (vI (ib (if iA (wd k i) = 0 then 9 else 10) x y) :: S) M Q) : Wp X d k i L (vI y :: vI x :: S) M Q := by
  intro p l e R s m args below meth c g A cells slots QQ C hr hk H locs ls hH hl hL hS
  have hS2 : ∀ v ∈ S, rV v := fun v hv => hS v (List.mem_cons_of_mem _ (List.mem_cons_of_mem _ hv))
  have hr2 : rV (vI (ib (if iA (wd k i) = 0 then 9 else 10) x y)) := by
    show in32 _
    unfold ib
    split <;> exact i32_r _
  have q := h p l e R s m args below meth c g A cells slots QQ C hr hk H locs ls hH hl hL (rS1 hS2 hr2)
  rw [List.map_cons] at q
  have hloc : ((S.map (cv g)).map fun v => v.category).sum + 13 ≤ R.locals := by
    rw [cat_sum C.2.2.2.2.2.2.1]
    omega
  unfold ok43 at ho
  split at ho
  · rename_i n
    simp only [Bool.and_eq_true, beq_iff_eq] at ho
    obtain ⟨⟨hc, o2⟩, o3⟩ := ho
    rw [o3] at q
    split at hc
    · rename_i ha
      simp only [Bool.and_eq_true] at hc
      rw [if_pos ha] at q
      refine va_mmax C.1 C.2.1 (by rw [C.2.2.1]; exact hl.1.symm) C.2.2.2.1 (C.2.2.2.2.1 _ (wt_in (of_decide_eq_true hc.1.1))) (C.2.2.2.2.1 _ (wt_in (of_decide_eq_true hc.1.2))) (C.2.2.2.2.1 _ (wt_in (of_decide_eq_true o2))) (C.2.2.2.2.1 _ (wt_in (of_decide_eq_true hc.2))) (by omega) hloc hr.2.2.1 hr.2.2.2 hd ?_
      rw [show cv g (vI (ib 9 x y)) = .int _ from congrArg Value.int (Int32.ofInt_toInt _)] at q
      exact q
    · rename_i ha
      simp only [Bool.and_eq_true] at hc
      rw [if_neg ha] at q
      refine va_mmin C.1 C.2.1 (by rw [C.2.2.1]; exact hl.1.symm) C.2.2.2.1 (C.2.2.2.2.1 _ (wt_in (of_decide_eq_true hc.1.1))) (C.2.2.2.2.1 _ (wt_in (of_decide_eq_true hc.1.2))) (C.2.2.2.2.1 _ (wt_in (of_decide_eq_true o2))) (C.2.2.2.2.1 _ (wt_in (of_decide_eq_true hc.2))) (by omega) hloc hr.2.2.1 hr.2.2.2 hd ?_
      rw [show cv g (vI (ib 10 x y)) = .int _ from congrArg Value.int (Int32.ofInt_toInt _)] at q
      exact q
  · cases ho
def ok19 (k i w nx : Nat) : Instr → Nat → Bool
  | .lcmp, 1 => nx == iP w + 1 && iO (wd k (i + 1)) == 17 && iA (wd k (i + 1)) == iA w && iB (wd k (i + 1)) == iB w
  | _, _ => false
theorem T19a {x y : Int} (hd : decode (mB k) (pcA k i) = .ok (ins, len)) (ho : ok19 k i (wd k i) (pcA k (i + 1)) ins len = true) (h : Wp X d k (i + 1) L (vI (cmpI x y) :: S) M Q) : Wp X d k i L (vL y :: vL x :: S) M Q := by
  intro p l e R s m args below meth c g A cells slots QQ C hr hk H locs ls hH hl hL hS
  have hy : in64 y := hS _ List.mem_cons_self
  have hx : in64 x := hS _ (List.mem_cons_of_mem _ List.mem_cons_self)
  have hS2 : ∀ v ∈ S, rV v := fun v hv => hS v (List.mem_cons_of_mem _ (List.mem_cons_of_mem _ hv))
  have q := h p l e R s m args below meth c g A cells slots QQ C hr hk H locs ls hH hl hL (rS1 hS2 (cmpI_r x y))
  rw [List.map_cons, show cv g (vI (cmpI x y)) = .int _ from congrArg Value.int (lgc hx hy)] at q
  unfold ok19 at ho
  split at ho
  · simp only [Bool.and_eq_true, beq_iff_eq] at ho
    rw [ho.1.1.1] at q
    exact W.lcmp C.1 C.2.1 hd q
  · cases ho
def ok21 (k w : Nat) : Instr → Nat → Bool
  | .tableswitch df lo hi offs, _ => decide (lo = 0) && decide (hi + 1 = ((swt.getD (iC w 0) []).length : Int)) && decide (offs.toList.map (fun o => (iP w : Int) + o) = (swt.getD (iC w 0) []).map (fun u => (pcA k u : Int))) && decide ((iP w : Int) + df = (pcA k (iB w) : Int))
  | _, _ => false
theorem T21 {x : Int} (hd : decode (mB k) (pcA k i) = .ok (ins, len)) (ho : ok21 k (wd k i) ins len = true) (h1 : ∀ t, 0 ≤ x → (swt.getD (iC (wd k i) 0) [])[x.toNat]? = some t → Wp X d k t L S M Q) (h2 : x < 0 ∨ ((swt.getD (iC (wd k i) 0) []).length : Int) ≤ x → Wp X d k (iB (wd k i)) L S M Q) : Wp X d k i L (vI x :: S) M Q := by
  intro p l e R s m args below meth c g A cells slots QQ C hr hk H locs ls hH hl hL hS
  have hx : in32 x := hS _ List.mem_cons_self
  have hS2 : ∀ v ∈ S, rV v := fun v hv => hS v (List.mem_cons_of_mem _ hv)
  unfold ok21 at ho
  split at ho
  · rename_i df lo hi offs ln
    simp only [Bool.and_eq_true, decide_eq_true_eq] at ho
    obtain ⟨⟨⟨o1, o2⟩, o3⟩, o4⟩ := ho
    subst o1
    by_cases hb : x < 0 ∨ ((swt.getD (iC (wd k i) 0) []).length : Int) ≤ x
    · refine lv_tableOut C.1 C.2.1 hd ?_ o4 (h2 hb p l e R s m args below meth c g A cells slots QQ C hr hk H locs ls hH hl hL hS2)
      rw [i32_to hx]
      omega
    · have h0 : 0 ≤ x := by omega
      have hlt : x.toNat < (swt.getD (iC (wd k i) 0) []).length := by omega
      obtain ⟨t, ht⟩ : ∃ t, (swt.getD (iC (wd k i) 0) [])[x.toNat]? = some t := ⟨_, List.getElem?_eq_getElem hlt⟩
      have ee := congrArg (fun l : List Int => l[x.toNat]?) o3
      simp only [List.getElem?_map, ht, Option.map_some] at ee
      obtain ⟨off, hoff, he⟩ := Option.map_eq_some_iff.mp ee
      refine lv_tableIn C.1 C.2.1 hd (by rw [i32_to hx]; omega) (by rw [i32_to hx]; omega) (off := off) (by rw [i32_to hx, ← Array.getElem?_toList]; simpa using hoff) he (h1 t h0 ht p l e R s m args below meth c g A cells slots QQ C hr hk H locs ls hH hl hL hS2)
  · cases ho
/-- System.arraycopy between two int arrays of the world -/
def cpM (M : Mm) (j1 j2 sp dp n : Nat) : Mm := fun a b => if a = j2 ∧ dp ≤ b ∧ b < dp + n then M j1 (sp + (b - dp)) else M a b
def ok39 (k w nx : Nat) : Instr → Nat → Bool
  | .invokestatic n, 3 => decide (wt (iC w 0) = some (Jvm.Cond.methodLink (mY k).cls n arraycopyName)) && decide (wt (iC w 1) = some (Jvm.Cond.native arraycopyName)) && decide (wt (iC w 2) = some (Jvm.Cond.static arraycopyName)) && decide (wt (iC w 3) = some (Jvm.Cond.initialized "java/lang/System")) && nx == iP w + 3
  | _, _ => false
theorem ws_setA {g : Gx} {M M' : Mm} {j : Nat} {c : SC} {e : va_E} (hj : SH[j]? = some c) (he : e = ent g c (M' j)) (hne : ∀ a, a ≠ j → M' a = M a) : (wsOf g M).set j (g.2.1 j, e) = wsOf g M' := by
  refine List.ext_getElem? fun t => ?_
  rw [List.getElem?_set]
  by_cases h : j = t
  · subst h
    have hl : j < (wsOf g M).length := by rw [ws_len]; exact (List.getElem?_eq_some_iff.mp hj).1
    rw [if_pos rfl, if_pos hl, ws_get hj, he]
  · rw [if_neg h]
    simp only [wsOf, List.getElem?_mapIdx]
    rw [hne t (Ne.symm h)]
theorem T39 {j1 j2 n1 n2 : Nat} {sp dp n : Int} (hd : decode (mB k) (pcA k i) = .ok (ins, len)) (ho : ok39 k (wd k i) (pcA k (i + 1)) ins len = true) (hj1 : SH[j1]? = some (.inl (0, n1))) (hj2 : SH[j2]? = some (.inl (0, n2))) (h0 : 0 ≤ sp ∧ 0 ≤ dp ∧ 0 ≤ n) (h1 : sp + n ≤ n1) (h2 : dp + n ≤ n2) (hcS : cSum S ≤ 8) (hdd : 1 ≤ d) (h : Wp X d k (i + 1) L S (cpM M j1 j2 sp.toNat dp.toNat n.toNat) Q) : Wp X d k i L (vI n :: vI dp :: vR 0 j2 :: vI sp :: vR 0 j1 :: S) M Q := by
  intro p l e R s m args below meth c g A cells slots QQ C hr hk H locs ls hH hl hL hS
  have hn : in32 n := hS (vI n) (by simp)
  have hdp : in32 dp := hS (vI dp) (by simp)
  have hsp : in32 sp := hS (vI sp) (by simp)
  have hS2 : ∀ v ∈ S, rV v := fun v hv => hS v (by simp [hv])
  have neg : ∀ z : Int, in32 z → 0 ≤ z → ¬ Int32.ofInt z < 0 := fun z hz h0 q => by
    rw [ofz] at q
    have := (l32 hz z32).mp q
    omega
  unfold ok39 at ho
  split at ho
  · simp only [Bool.and_eq_true, beq_iff_eq, decide_eq_true_eq] at ho
    obtain ⟨⟨⟨⟨o1, o2⟩, o3⟩, o4⟩, o5⟩ := ho
    refine va_copyi C.1 C.2.1 (by rw [C.2.2.1]; exact hl.1.symm) C.2.2.2.1 (C.2.2.2.2.1 _ (wt_in o1)) (C.2.2.2.2.1 _ (wt_in o2)) (C.2.2.2.2.1 _ (wt_in o3)) (C.2.2.2.2.1 _ (wt_in o4)) C.2.2.2.2.2.1 hH.1 hH.2.1 hH.2.2.1 j1 j2 0 0 (ws_get hj1) (ws_get hj2) rfl rfl rfl (neg sp hsp h0.1) (neg dp hdp h0.2.1) (neg n hn h0.2.2) (by rw [i32_cl hsp, i32_cl hn]; omega) (by rw [i32_cl hdp, i32_cl hn]; omega) (fun _ _ => rfl) (by omega) ?_ hd fun H1 locs1 hP hD hSS => ?_
    · rw [cat_sum C.2.2.2.2.2.2.1]
      have e3 : nativeFrameWords "java/lang/System" "arraycopy" 5 + 11 ≤ 56 := by decide
      omega
    · rw [i32_cl hsp, i32_cl hdp, i32_cl hn] at hP hD
      have he : (Sum.inl (g.2.2.1 0, n2, .inl (va_cpy (fun t => Int32.ofInt (M j1 t)) (fun t => Int32.ofInt (M j2 t)) sp.toNat dp.toNat n.toNat)) : va_E) = ent g (.inl (0, n2)) (cpM M j1 j2 sp.toNat dp.toNat n.toNat j2) := by
        show Sum.inl _ = Sum.inl _
        congr 3
        refine congrArg Sum.inl (funext fun t => ?_)
        unfold va_cpy cpM
        by_cases q : dp.toNat ≤ t ∧ t < dp.toNat + n.toNat
        · rw [if_pos q, if_pos ⟨rfl, q⟩]
        · rw [if_neg q, if_neg (fun z => q z.2)]
      have hne : ∀ a, a ≠ j2 → cpM M j1 j2 sp.toNat dp.toNat n.toNat a = M a := fun a ha => funext fun b => by
        unfold cpM
        rw [if_neg (fun z => ha z.1)]
      rw [ws_setA hj2 he hne] at hP hD
      have hM2 : okM (cpM M j1 j2 sp.toNat dp.toNat n.toNat) := by
        intro a b
        unfold cpM
        split
        next q =>
          obtain ⟨rfl, -⟩ := q
          have q1 := hH.2.2.2 j1 (sp.toNat + (b - dp.toNat))
          rw [kd_arr hj1] at q1
          rw [kd_arr hj2]
          exact q1
        next => exact hH.2.2.2 a b
      have q := h p l e R s m args below meth c g A cells slots QQ C hr hk H1 locs1 ls ⟨hP, hD, hSS, hM2⟩ hl hL hS2
      rw [o5] at q
      exact q
  · cases ho
end RULES
