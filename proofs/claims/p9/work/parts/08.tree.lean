/-! a method's instructions as a list of steps over named numbers, its branches side by side -/
abbrev AV : Type := Nat × Int
abbrev Node : Type := Nat × Nat × List AV
abbrev Fr : Type := Nat × Nat × List (Nat × AV) × List AV
def ev (σ : Nat → Int) (a : AV) : V := match a.1 with
  | 0 => vI a.2
  | 1 => vI (σ a.2.toNat)
  | 2 => vL a.2
  | 3 => vL (σ a.2.toNat)
  | n + 4 => vR n a.2.toNat
def nm (σ : Nat → Int) (a : AV) : Int := match a.1 with
  | 1 => σ a.2.toNat
  | 3 => σ a.2.toNat
  | _ => a.2
def us (σ : Nat → Int) (n : Nat) (z : Int) : Nat → Int := fun j => if j = n then z else σ j
def catA (a : AV) : Nat := match a.1 with
  | 2 => 2
  | 3 => 2
  | _ => 1
def isI (a : AV) : Bool := match a.1 with
  | 0 => true
  | 1 => true
  | _ => false
def isL (a : AV) : Bool := match a.1 with
  | 2 => true
  | 3 => true
  | _ => false
def isR (a : AV) : Bool := match a.1 with
  | 4 => true
  | 5 => true
  | 6 => true
  | _ => false
def wA (n : Nat) (a : AV) : Prop := (a.1 = 1 ∨ a.1 = 3) → a.2.toNat < n
def wS (n : Nat) (S : List AV) : Prop := ∀ a ∈ S, wA n a
def wL (n : Nat) (L : List (Nat × AV)) : Prop := ∀ q ∈ L, wA n q.2
def evL (σ : Nat → Int) (L : List (Nat × AV)) : List (Nat × V) := L.map (fun q => (q.1, ev σ q.2))
theorem us_at {σ : Nat → Int} {n : Nat} {z : Int} : us σ n z n = z := by simp [us]
theorem us_ne {σ : Nat → Int} {n j : Nat} {z : Int} (h : j < n) : us σ n z j = σ j := by
  unfold us
  rw [if_neg (by omega)]
theorem ev_I {σ : Nat → Int} {a : AV} (h : isI a = true) : ev σ a = vI (nm σ a) := by
  obtain ⟨t, c⟩ := a
  match t, h with
  | 0, _ => rfl
  | 1, _ => rfl
theorem ev_L {σ : Nat → Int} {a : AV} (h : isL a = true) : ev σ a = vL (nm σ a) := by
  obtain ⟨t, c⟩ := a
  match t, h with
  | 2, _ => rfl
  | 3, _ => rfl
theorem ev_R {σ : Nat → Int} {a : AV} (h : isR a = true) : ∃ t, t < 3 ∧ a.1 = t + 4 ∧ ev σ a = vR t a.2.toNat := by
  obtain ⟨t, c⟩ := a
  match t, h with
  | 4, _ => exact ⟨0, by decide, rfl, rfl⟩
  | 5, _ => exact ⟨1, by decide, rfl, rfl⟩
  | 6, _ => exact ⟨2, by decide, rfl, rfl⟩
theorem ev_agree {σ τ : Nat → Int} {n : Nat} (h : ∀ j, j < n → τ j = σ j) {a : AV} (ha : wA n a) : ev τ a = ev σ a := by
  obtain ⟨t, c⟩ := a
  match t, ha with
  | 0, _ => rfl
  | 1, ha => exact congrArg vI (h _ (ha (Or.inl rfl)))
  | 2, _ => rfl
  | 3, ha => exact congrArg vL (h _ (ha (Or.inr rfl)))
  | n + 4, _ => rfl
theorem evS_agree {σ τ : Nat → Int} {n : Nat} (h : ∀ j, j < n → τ j = σ j) {S : List AV} (hS : wS n S) : S.map (ev τ) = S.map (ev σ) := List.map_congr_left fun a ha => ev_agree h (hS a ha)
theorem evL_agree {σ τ : Nat → Int} {n : Nat} (h : ∀ j, j < n → τ j = σ j) {L : List (Nat × AV)} (hL : wL n L) : evL τ L = evL σ L := List.map_congr_left fun q hq => by rw [ev_agree h (hL q hq)]
theorem us_agree (σ : Nat → Int) (n : Nat) (z : Int) : ∀ j, j < n → us σ n z j = σ j := fun _ h => us_ne h
theorem wA.mono {n n' : Nat} {a : AV} (h : wA n a) (hn : n ≤ n') : wA n' a := fun q => Nat.lt_of_lt_of_le (h q) hn
theorem wS.mono {n n' : Nat} {S : List AV} (h : wS n S) (hn : n ≤ n') : wS n' S := fun a ha => (h a ha).mono hn
theorem wL.mono {n n' : Nat} {L : List (Nat × AV)} (h : wL n L) (hn : n ≤ n') : wL n' L := fun q hq => (h q hq).mono hn
theorem cat_ev (σ : Nat → Int) (a : AV) : catV (ev σ a) = catA a := by
  obtain ⟨t, c⟩ := a
  match t with
  | 0 => rfl
  | 1 => rfl
  | 2 => rfl
  | 3 => rfl
  | n + 4 => rfl
def lkA : List (Nat × AV) → Nat → Option AV
  | [], _ => none
  | q :: L, b => if q.1 = b then some q.2 else lkA L b
theorem lkA_mem {b : Nat} {a : AV} : ∀ {L : List (Nat × AV)}, lkA L b = some a → (b, a) ∈ L := by
  intro L
  induction L with
  | nil => intro h; cases h
  | cons q L ih =>
    intro h
    unfold lkA at h
    split at h
    next e => obtain rfl := Option.some.inj h; rw [← e]; exact List.mem_cons_self
    next => exact List.mem_cons_of_mem _ (ih h)
def stA1 (b : Nat) (v : AV) (L : List (Nat × AV)) : List (Nat × AV) := (b, v) :: L.filter (fun q => !(q.1 == b) && !(q.1 + 1 == b && catA q.2 == 2))
def stA2 (b : Nat) (v : AV) (L : List (Nat × AV)) : List (Nat × AV) := (b, v) :: L.filter (fun q => !(q.1 == b) && (!(q.1 == b + 1) && !(q.1 + 1 == b && catA q.2 == 2)))
theorem evL_st1 (σ : Nat → Int) (b : Nat) (v : AV) (L : List (Nat × AV)) : evL σ (stA1 b v L) = stL1 b (ev σ v) (evL σ L) := by
  show (b, ev σ v) :: _ = (b, ev σ v) :: _
  congr 1
  unfold evL
  rw [List.filter_map]
  congr 1
  refine List.filter_congr fun q _ => ?_
  show _ = (!(q.1 == b) && !(q.1 + 1 == b && catV (ev σ q.2) == 2))
  rw [cat_ev]
theorem evL_st2 (σ : Nat → Int) (b : Nat) (v : AV) (L : List (Nat × AV)) : evL σ (stA2 b v L) = stL2 b (ev σ v) (evL σ L) := by
  show (b, ev σ v) :: _ = (b, ev σ v) :: _
  congr 1
  unfold evL
  rw [List.filter_map]
  congr 1
  refine List.filter_congr fun q _ => ?_
  show _ = (!(q.1 == b) && (!(q.1 == b + 1) && !(q.1 + 1 == b && catV (ev σ q.2) == 2)))
  rw [cat_ev]
theorem wL_st1 {n b : Nat} {v : AV} {L : List (Nat × AV)} (hL : wL n L) (hv : wA n v) : wL n (stA1 b v L) := by
  intro q hq
  rcases List.mem_cons.mp hq with rfl | h
  · exact hv
  · exact hL q (List.mem_filter.mp h).1
theorem wL_st2 {n b : Nat} {v : AV} {L : List (Nat × AV)} (hL : wL n L) (hv : wA n v) : wL n (stA2 b v L) := by
  intro q hq
  rcases List.mem_cons.mp hq with rfl | h
  · exact hv
  · exact hL q (List.mem_filter.mp h).1
theorem wS_c {n : Nat} {a : AV} {S : List AV} (ha : wA n a) (hS : wS n S) : wS n (a :: S) := List.forall_mem_cons.mpr ⟨ha, hS⟩
theorem wA_k {n t : Nat} {c : Int} (h : ¬ (t = 1 ∨ t = 3)) : wA n (t, c) := fun q => absurd q h
theorem wA_n {n t : Nat} : wA (n + 1) (t, (n : Int)) := fun _ => by show ((n : Int)).toNat < n + 1; omega
theorem ev_lk {σ : Nat → Int} {L : List (Nat × AV)} {b : Nat} {a : AV} (h : lkA L b = some a) : (b, ev σ a) ∈ evL σ L := List.mem_map.mpr ⟨(b, a), lkA_mem h, rfl⟩
/-! the steps -/
def alen (j : Nat) : Nat := match SH[j]? with
  | some (.inl (_, n)) => n
  | _ => 0
def bn (x : Node) : Nat := if x.1 < 10 then 1 else 0
def nd (X : Xs) (x : Node) (n : Nat) (σ : Nat → Int) (M : Mm) (K : (Nat → Int) → Mm → Prop) : Prop := match x with
  | (0, b, [x, y]) => K (us σ n (ib b (nm σ x) (nm σ y))) M
  | (1, b, [x, y]) => K (us σ n (lb b (nm σ x) (nm σ y))) M
  | (2, b, [x, y]) => K (us σ n (sb b (nm σ x) (nm σ y))) M
  | (3, 0, [x]) => K (us σ n (lo32 (nm σ x))) M
  | (3, _, [x]) => K (us σ n (cb (nm σ x))) M
  | (4, j, [s]) => rK (kd j s.2.toNat) (M j s.2.toNat) → K (us σ n (M j s.2.toNat)) M
  | (5, j, [x]) => 0 ≤ nm σ x ∧ nm σ x < alen j ∧ (rK (kd j (nm σ x).toNat) (M j (nm σ x).toNat) → K (us σ n (M j (nm σ x).toNat)) M)
  | (6, _, [x]) => 0 ≤ nm σ x ∧ nm σ x < X.1 ∧ K (us σ n (X.2 (nm σ x).toNat)) M
  | (7, _, []) => K (us σ n X.1) M
  | (8, _, [x]) => 0 ≤ nm σ x ∧ nm σ x < 11 ∧ K (us σ n (FSL.getD (nm σ x).toNat 0).toInt) M
  | (9, t, [x]) => 0 ≤ nm σ x ∧ nm σ x < strLen.getD t 0 ∧ K (us σ n ((strB.getD t []).getD (nm σ x).toNat 0).toInt) M
  | (10, j, [s, v]) => K σ (up M j s.2.toNat (nm σ v))
  | (11, j, [x, v]) => 0 ≤ nm σ x ∧ nm σ x < alen j ∧ K σ (up M j (nm σ x).toNat (nm σ v))
  | (12, _, [v]) => (nm σ v = 0 ∨ nm σ v = 1) ∧ K σ M
  | (13, _, [v]) => (0 ≤ nm σ v ∧ nm σ v < 65536) ∧ K σ M
  | (14, j1, [j2, sp, dp, q]) => (0 ≤ nm σ sp ∧ 0 ≤ nm σ dp ∧ 0 ≤ nm σ q) ∧ nm σ sp + nm σ q ≤ alen j1 ∧ nm σ dp + nm σ q ≤ alen j2.2.toNat ∧ K σ (cpM M j1 j2.2.toNat (nm σ sp).toNat (nm σ dp).toNat (nm σ q).toNat)
  | _ => False
theorem nd_mono {X : Xs} {x : Node} {n : Nat} {σ : Nat → Int} {M : Mm} {K K' : (Nat → Int) → Mm → Prop} (h : ∀ τ M', (∀ j, j < n → τ j = σ j) → K τ M' → K' τ M') (hn : nd X x n σ M K) : nd X x n σ M K' := by
  unfold nd at hn ⊢
  split at hn
  · exact h _ _ (us_agree σ n _) hn
  · exact h _ _ (us_agree σ n _) hn
  · exact h _ _ (us_agree σ n _) hn
  · exact h _ _ (us_agree σ n _) hn
  · exact h _ _ (us_agree σ n _) hn
  · exact fun q => h _ _ (us_agree σ n _) (hn q)
  · exact ⟨hn.1, hn.2.1, fun q => h _ _ (us_agree σ n _) (hn.2.2 q)⟩
  · exact ⟨hn.1, hn.2.1, h _ _ (us_agree σ n _) hn.2.2⟩
  · exact h _ _ (us_agree σ n _) hn
  · exact ⟨hn.1, hn.2.1, h _ _ (us_agree σ n _) hn.2.2⟩
  · exact ⟨hn.1, hn.2.1, h _ _ (us_agree σ n _) hn.2.2⟩
  · exact h _ _ (fun _ _ => rfl) hn
  · exact ⟨hn.1, hn.2.1, h _ _ (fun _ _ => rfl) hn.2.2⟩
  · exact ⟨hn.1, h _ _ (fun _ _ => rfl) hn.2⟩
  · exact ⟨hn.1, h _ _ (fun _ _ => rfl) hn.2⟩
  · exact ⟨hn.1, hn.2.1, hn.2.2.1, h _ _ (fun _ _ => rfl) hn.2.2.2⟩
  · exact hn.elim
def nds (X : Xs) : List Node → Nat → (Nat → Int) → Mm → ((Nat → Int) → Mm → Prop) → Prop
  | [], _, σ, M, K => K σ M
  | x :: r, n, σ, M, K => nd X x n σ M (fun τ M' => nds X r (n + bn x) τ M' K)
def bns (l : List Node) : Nat := (l.map bn).sum
theorem nds_mono {X : Xs} : ∀ {l : List Node} {n : Nat} {σ : Nat → Int} {M : Mm} {K K' : (Nat → Int) → Mm → Prop}, (∀ τ M', (∀ j, j < n → τ j = σ j) → K τ M' → K' τ M') → nds X l n σ M K → nds X l n σ M K' := by
  intro l
  induction l with
  | nil => intro n σ M K K' h hn; exact h σ M (fun _ _ => rfl) hn
  | cons x r ih =>
    intro n σ M K K' h hn
    refine nd_mono (fun τ M' ht hq => ih (fun υ M'' hu hk => h υ M'' (fun j hj => ?_) hk) hq) hn
    rw [hu j (by omega), ht j hj]
