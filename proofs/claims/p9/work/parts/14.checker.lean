/-! THE CHECKER -/
def ckCut1 (c : Cut) (m0 : Option (List Lin)) (as : List AV) (cs : CS) : Bool := patsA cs c.2.2.1 as && (match frF cs c as with
    | some fs => (meas fs c.2.2.2.2.1).all (bdL cs) && (c.2.2.2.2.2.all (dfB cs fs) && (match m0 with
      | some m => Nat.beq (meas fs c.2.2.2.2.1).length m.length && (lexL cs (meas fs c.2.2.2.2.1) m && m.all (bdL cs))
      | none => true))
    | none => false)
def ckCut (cuts : List Cut) (m0 : Option (List Lin)) (i : Nat) (as : List AV) (cs : CS) : Bool := cuts.any (fun c => Nat.beq c.1 i && ckCut1 c m0 as cs)
def ckCutS (spl : List (Nat × Nat)) (cuts : List Cut) (m0 : Option (List Lin)) (i : Nat) (as : List AV) (cs : CS) : Bool := match spl.find? (fun q => Nat.beq q.1 i) with
  | some q => let f := avF cs (as.getD q.2 (0, 0)); splitA (ckCut cuts m0 i as) f cs ((ivf cs f).2 - (ivf cs f).1 + 1).toNat (ivf cs f).1
  | none => ckCut cuts m0 i as cs
/-- what else is to be held at a store, a marked place, a copy, a way back -/
abbrev Hk : Type := (CS → Nat → Fm → Fm → Bool) × (Nat → List AV → CS → Bool) × (Nat → Bool) × (Option AV → CS → Bool)
def H0 : Hk := (fun _ _ _ _ => true, fun _ _ _ => true, fun _ => true, fun _ _ => true)
def chk (H : Hk) (sps : List Spec) (W : Wl) (outs : List Out) (D : Nat) (spl : List (Nat × Nat)) (cuts : List Cut) (m0 : Option (List Lin)) : Nat → List Node → CS → Bool
  | 0, _, _ => false
  | _ + 1, [], _ => false
  | f + 1, x :: r, cs => x.2.2.all (wAb (cn cs)) && (match x with
    | (0, b, [a, c]) => chk H sps W outs D spl cuts m0 f r (ckIb cs b (af cs a) (af cs c))
    | (1, b, [a, c]) => chk H sps W outs D spl cuts m0 f r (ckLb cs b (af cs a) (af cs c))
    | (2, _, [_, _]) => chk H sps W outs D spl cuts m0 f r (newB cs I64.1 I64.2 1)
    | (3, 0, [a]) => chk H sps W outs D spl cuts m0 f r (bif inI (ivf cs (af cs a)) I32 then newF cs (af cs a) else newB cs I32.1 I32.2 1)
    | (3, _ + 1, [_]) => chk H sps W outs D spl cuts m0 f r (newB cs 0 65535 1)
    | (4, j, [s]) => chk H sps W outs D spl cuts m0 f r (ckLd cs j (0, ((s.2.toNat : Nat) : Int)))
    | (5, j, [a]) => inI (ivf cs (af cs a)) (0, (alen j : Int) - 1) && chk H sps W outs D spl cuts m0 f r (ckLd cs j (af cs a))
    | (8, _, [a]) => inI (ivf cs (af cs a)) (0, 10) && chk H sps W outs D spl cuts m0 f r (newB cs 0 19 1)
    | (9, t, [a]) => inI (ivf cs (af cs a)) (0, ((strLen.getD t 0 : Nat) : Int) - 1) && chk H sps W outs D spl cuts m0 f r (newB cs I32.1 I32.2 1)
    | (10, j, [s, v]) => H.1 cs j (0, ((s.2.toNat : Nat) : Int)) (af cs v) && (wOf W j s.2.toNat && (inI (ivf cs (af cs v)) (tiv j s.2.toNat) && chk H sps W outs D spl cuts m0 f r (ckSt cs j (0, ((s.2.toNat : Nat) : Int)) (af cs v))))
    | (11, j, [a, v]) => H.1 cs j (af cs a) (af cs v) && (inI (ivf cs (af cs a)) (0, (alen j : Int) - 1) && (wf W j (af cs a) && ((match tif cs j (af cs a) with
        | some q => inI (ivf cs (af cs v)) q
        | none => false) && chk H sps W outs D spl cuts m0 f r (ckSt cs j (af cs a) (af cs v)))))
    | (12, _, [v]) => inI (ivf cs (af cs v)) (0, 1) && chk H sps W outs D spl cuts m0 f r cs
    | (13, _, [v]) => inI (ivf cs (af cs v)) (0, 65535) && chk H sps W outs D spl cuts m0 f r cs
    | (14, j1, [j2, sp, dp, q]) =>
      (decide (0 ≤ (ivf cs (af cs sp)).1) && (decide (0 ≤ (ivf cs (af cs dp)).1) && (decide (0 ≤ (ivf cs (af cs q)).1) && (decide ((ivf cs (af cs sp)).2 + (ivf cs (af cs q)).2 ≤ alen j1) && decide ((ivf cs (af cs dp)).2 + (ivf cs (af cs q)).2 ≤ alen j2.2.toNat)))))
      && (H.2.2.1 j2.2.toNat && ((match TT[j1]?, TT[j2.2.toNat]? with
        | some (1, [a]), some (1, [b]) => inI a b
        | _, _ => false) && (W.any (fun u => Nat.beq u.1 j2.2.toNat && Nat.beq u.2 0) && chk H sps W outs D spl cuts m0 f r (keepW [(j2.2.toNat, 0)] cs))))
    | (15, c, [a, b, z]) => (match refine1 cs c (af cs a) (af cs b) with
        | some c1 => chk H sps W outs D spl cuts m0 f (r.take z.2.toNat) c1
        | none => true) && (match refine1 cs (negC c) (af cs a) (af cs b) with
        | some c1 => chk H sps W outs D spl cuts m0 f (r.drop z.2.toNat) c1
        | none => true)
    | (16, k', as) => (match sps.find? (fun sp => Nat.beq sp.1 k' && patsA cs sp.2.1 as) with
      | some sp => Nat.ble (sp.2.2.2.2 + 10) D && (wSub sp.2.2.2.1 W && sp.2.2.1.all (fun o => bif Nat.beq (rb k') 0 then chk H sps W outs D spl cuts m0 f r (setB (keepW sp.2.2.2.1 cs) o.2) else chk H sps W outs D spl cuts m0 f r (newB (setB (keepW sp.2.2.2.1 cs) o.2) o.1.1 o.1.2 1)))
      | none => false)
    | (17, i, as) => H.2.1 i as cs && ckCutS spl cuts m0 i as cs
    | (18, _, []) => H.2.2.2 none cs && outs.any (fun o => o.2.all (fldB cs))
    | (19, _, [a]) => H.2.2.2 (some a) cs && outs.any (fun o => inI (ivf cs (avF cs a)) o.1 && o.2.all (fldB cs))
    | _ => false)
/-! what it says -/
def ansIn (outs : List Out) (v : Option V) (M : Mm) : Prop := ∃ o ∈ outs, (∀ x, v = some x → o.1.1 ≤ oz v ∧ oz v ≤ o.1.2) ∧ ∀ q ∈ o.2, q.2.2.1 ≤ M q.1 q.2.1 ∧ M q.1 q.2.1 ≤ q.2.2.2
def SpecP (X : Xs) (P : Mm → Prop) (sp : Spec) : Prop := ∀ (as : List V) (M : Mm), patsV sp.2.1 as → okTT M → P M → Wp X sp.2.2.2.2 sp.1 0 (eL 0 as) [] M (fun v M' => okTT M' ∧ FrM sp.2.2.2.1 M M' ∧ ansIn sp.2.2.1 v M' ∧ P M')
abbrev SpecOK (X : Xs) (sp : Spec) : Prop := SpecP X (fun _ => True) sp
def HkOK (H : Hk) (P : Mm → Prop) (E : Nat → List V → Mm → Prop) (R : Option V → Mm → Prop) : Prop :=
  (∀ (cs : CS) (σ : Nat → Int) (M : Mm) (j : Nat) (f g : Fm), Ok cs σ M → okTT M → f.1 ≤ cn cs → g.1 ≤ cn cs → 0 ≤ fv σ f → H.1 cs j f g = true → P M → P (up M j (fv σ f).toNat (fv σ g))) ∧
  (∀ (cs : CS) (σ : Nat → Int) (M : Mm) (i : Nat) (as : List AV), Ok cs σ M → okTT M → (∀ a ∈ as, wAb (cn cs) a = true) → H.2.1 i as cs = true → P M → E i (as.map (ev σ)) M) ∧
  (∀ (M : Mm) (j1 j2 sp dp q : Nat), okTT M → H.2.2.1 j2 = true → P M → P (cpM M j1 j2 sp dp q)) ∧
  ∀ (cs : CS) (σ : Nat → Int) (M : Mm) (v : Option AV), Ok cs σ M → okTT M → (∀ a, v = some a → wAb (cn cs) a = true) → H.2.2.2 v cs = true → P M → R (v.map (ev σ)) M
/-- the same, where the first names are known numbers -/
def HkZ (H : Hk) (n0 : Nat) (σ0 : Nat → Int) (P : Mm → Prop) (E : Nat → List V → Mm → Prop) (R : Option V → Mm → Prop) : Prop :=
  (∀ (cs : CS) (σ : Nat → Int) (M : Mm) (j : Nat) (f g : Fm), (n0 ≤ cn cs ∧ ∀ j, j < n0 → σ j = σ0 j) → Ok cs σ M → okTT M → f.1 ≤ cn cs → g.1 ≤ cn cs → 0 ≤ fv σ f → H.1 cs j f g = true → P M → P (up M j (fv σ f).toNat (fv σ g))) ∧
  (∀ (cs : CS) (σ : Nat → Int) (M : Mm) (i : Nat) (as : List AV), (n0 ≤ cn cs ∧ ∀ j, j < n0 → σ j = σ0 j) → Ok cs σ M → okTT M → (∀ a ∈ as, wAb (cn cs) a = true) → H.2.1 i as cs = true → P M → E i (as.map (ev σ)) M) ∧
  (∀ (M : Mm) (j1 j2 sp dp q : Nat), okTT M → H.2.2.1 j2 = true → P M → P (cpM M j1 j2 sp dp q)) ∧
  ∀ (cs : CS) (σ : Nat → Int) (M : Mm) (v : Option AV), (n0 ≤ cn cs ∧ ∀ j, j < n0 → σ j = σ0 j) → Ok cs σ M → okTT M → (∀ a, v = some a → wAb (cn cs) a = true) → H.2.2.2 v cs = true → P M → R (v.map (ev σ)) M
theorem HkOK.z {H : Hk} {P : Mm → Prop} {E : Nat → List V → Mm → Prop} {R : Option V → Mm → Prop} (h : HkOK H P E R) : HkZ H 0 (fun _ => 0) P E R := ⟨fun cs σ M j f g _ => h.1 cs σ M j f g, fun cs σ M i as _ => h.2.1 cs σ M i as, h.2.2.1, fun cs σ M v _ => h.2.2.2 cs σ M v⟩
theorem H0_ok : HkOK H0 (fun _ => True) (fun _ _ _ => True) (fun _ _ => True) := ⟨fun _ _ _ _ _ _ _ _ _ _ _ _ _ => trivial, fun _ _ _ _ _ _ _ _ _ _ => trivial, fun _ _ _ _ _ _ _ _ _ => trivial, fun _ _ _ _ _ _ _ _ _ => trivial⟩
def CPd (X : Xs) (D : Nat) (k' : Nat) (as : List V) (M : Mm) (Q' : Option V → Mm → Prop) : Prop := ∃ d', d' + 10 ≤ D ∧ Wp X d' k' 0 (eL 0 as) [] M Q'
def CTd (cuts : List Cut) (W : Wl) (M0 : Mm) (T : Option Nat) (i : Nat) (as : List V) (M : Mm) : Prop := ∃ c ∈ cuts, c.1 = i ∧ patsV c.2.2.1 as ∧ flV c M ∧ dfV c as M ∧ okTT M ∧ FrM W M0 M ∧ ∀ t, T = some t → msV c as M < t
def Qd (W : Wl) (outs : List Out) (M0 : Mm) (v : Option V) (M : Mm) : Prop := okTT M ∧ FrM W M0 M ∧ ansIn outs v M
def HM (m0 : Option (List Lin)) (T : Option Nat) (n : Nat) (σ : Nat → Int) : Prop := match m0 with
  | none => T = none
  | some m => (∀ e ∈ m, e.2.1.1 ≤ n) ∧ T = some (tot (m.map (linV σ)))
theorem HM.agree {m0 : Option (List Lin)} {T : Option Nat} {n n' : Nat} {σ τ : Nat → Int} (h : HM m0 T n σ) (ht : ∀ j, j < n → τ j = σ j) (hn : n ≤ n') : HM m0 T n' τ := by
  cases m0 with
  | none => exact h
  | some m =>
    refine ⟨fun e he => Nat.le_trans (h.1 e he) hn, h.2.trans ?_⟩
    congr 2
    refine (List.map_congr_left fun e he => ?_).symm
    show e.1 * fv τ e.2.1 + e.2.2 = e.1 * fv σ e.2.1 + e.2.2
    rw [fv_agree ht (h.1 e he)]
theorem TT_in : TT.all (fun q => q.2.all (fun i => inI i I64)) = true := by decide +kernel
theorem tiv_64 {M : Mm} (h : okTT M) (j s : Nat) : in64 (M j s) := by
  have hj := h j s
  unfold tiv at hj
  split at hj
  next q e =>
    rw [List.getD_eq_getElem?_getD] at hj
    cases e2 : q.2[s % q.1]? with
    | none => rw [e2] at hj; exact hj
    | some i =>
      rw [e2] at hj
      exact inI_ok (List.all_eq_true.mp (List.all_eq_true.mp TT_in q (List.mem_of_getElem? e)) i (List.mem_of_getElem? e2)) hj
  next => exact hj
theorem den_lt {X : Xs} {CP : Nat → List V → Mm → (Option V → Mm → Prop) → Prop} {CT : Nat → List V → Mm → Prop} {Q : Option V → Mm → Prop} {f n : Nat} {x : Node} {r : List Node} {σ : Nat → Int} {M : Mm} (hx : x.1 < 15) (h : nd X x n σ M (fun τ M' => den X CP CT Q f r (n + bn x) τ M')) : den X CP CT Q (f + 1) (x :: r) n σ M := by
  show (if x.1 < 15 then _ else _)
  rw [if_pos hx]
  exact h
theorem okTT_cp {M : Mm} {j1 j2 sp dp q : Nat} {a b : Iv} (h : okTT M) (h1 : TT[j1]? = some (1, [a])) (h2 : TT[j2]? = some (1, [b])) (hab : inI a b = true) : okTT (cpM M j1 j2 sp dp q) := by
  have t1 : ∀ s, tiv j1 s = a := by intro s; unfold tiv; rw [h1]; show [a].getD (s % 1) I64 = a; rw [Nat.mod_one]; rfl
  have t2 : ∀ s, tiv j2 s = b := by intro s; unfold tiv; rw [h2]; show [b].getD (s % 1) I64 = b; rw [Nat.mod_one]; rfl
  intro u s
  unfold cpM
  split
  next e =>
    obtain ⟨rfl, -, -⟩ := e
    rw [t2 s]
    have := h j1 (sp + (s - dp))
    rw [t1] at this
    exact inI_ok hab this
  next => exact h u s
def CTp (cuts : List Cut) (W : Wl) (M0 : Mm) (T : Option Nat) (P : Mm → Prop) (E : Nat → List V → Mm → Prop) (i : Nat) (as : List V) (M : Mm) : Prop := CTd cuts W M0 T i as M ∧ P M ∧ E i as M
def Qp (W : Wl) (outs : List Out) (M0 : Mm) (P : Mm → Prop) (R : Option V → Mm → Prop) (v : Option V) (M : Mm) : Prop := Qd W outs M0 v M ∧ P M ∧ R v M
theorem chk_soundz {X : Xs} {H : Hk} {n0 : Nat} {σ0 : Nat → Int} {P : Mm → Prop} {E : Nat → List V → Mm → Prop} {R : Option V → Mm → Prop} (hH : HkZ H n0 σ0 P E R) {sps : List Spec} {W : Wl} {outs : List Out} {D : Nat} {spl : List (Nat × Nat)} {cuts : List Cut} {m0 : Option (List Lin)} (hS : ∀ sp ∈ sps, SpecP X P sp) {M0 : Mm} {T : Option Nat} :
    ∀ (f : Nat) (r : List Node) (cs : CS) (σ : Nat → Int) (M : Mm), chk H sps W outs D spl cuts m0 f r cs = true → Ok cs σ M → okTT M → FrM W M0 M → HM m0 T (cn cs) σ → P M → (n0 ≤ cn cs ∧ ∀ j, j < n0 → σ j = σ0 j) → den X (CPd X D) (CTp cuts W M0 T P E) (Qp W outs M0 P R) f r (cn cs) σ M := by
  intro f
  induction f with
  | zero => intro r cs σ M hc; cases hc
  | succ f ih =>
    intro r cs σ M hc h hT hF hm hP hz
    cases r with
    | nil => cases hc
    | cons x r =>
      rw [chk.eq_def] at hc
      dsimp only at hc
      rw [Bool.and_eq_true] at hc
      obtain ⟨hw, hc⟩ := hc
      rw [List.all_eq_true] at hw
      have nx : ∀ {c2 : CS} {v : Int}, Nx cs c2 σ v M → chk H sps W outs D spl cuts m0 f r c2 = true → den X (CPd X D) (CTp cuts W M0 T P E) (Qp W outs M0 P R) f r (cn cs + 1) (us σ (cn cs) v) M := by
        intro c2 v h1 h2
        have := ih r c2 _ M h2 h1.2 hT hF (by rw [h1.1]; exact hm.agree (us_agree σ (cn cs) v) (Nat.le_succ _)) hP ⟨by rw [h1.1]; exact Nat.le_succ_of_le hz.1, fun j hj => by rw [us_ne (Nat.lt_of_lt_of_le hj hz.1)]; exact hz.2 j hj⟩
        rw [h1.1] at this
        exact this
      have c0 : ∀ s : Nat, fv σ (0, ((s : Nat) : Int)) = (s : Int) := fun s => rfl
      split at hc
      · rename_i b a c
        obtain ⟨a1, a2⟩ := af_ok h (hw a (by simp))
        obtain ⟨b1, b2⟩ := af_ok h (hw c (by simp))
        refine den_lt (by show (0 : Nat) < 15; decide) ?_
        show den X _ _ _ f r (cn cs + 1) (us σ (cn cs) (ib b (nm σ a) (nm σ c))) M
        rw [← a2, ← b2]
        exact nx (ckIb_ok h a1 b1) hc
      · rename_i b a c
        obtain ⟨a1, a2⟩ := af_ok h (hw a (by simp))
        obtain ⟨b1, b2⟩ := af_ok h (hw c (by simp))
        refine den_lt (by show (1 : Nat) < 15; decide) ?_
        show den X _ _ _ f r (cn cs + 1) (us σ (cn cs) (lb b (nm σ a) (nm σ c))) M
        rw [← a2, ← b2]
        exact nx (ckLb_ok h a1 b1) hc
      · rename_i b a c
        refine den_lt (by show (2 : Nat) < 15; decide) ?_
        show den X _ _ _ f r (cn cs + 1) (us σ (cn cs) (sb b (nm σ a) (nm σ c))) M
        exact nx (Nx_1 h (sb_in _ _ _)) hc
      · rename_i a
        obtain ⟨a1, a2⟩ := af_ok h (hw a (by simp))
        refine den_lt (by show (3 : Nat) < 15; decide) ?_
        show den X _ _ _ f r (cn cs + 1) (us σ (cn cs) (lo32 (nm σ a))) M
        rw [← a2]
        refine nx (Nx_bif (fun q => Nx_F h a1 (lo_in (show in32 (fv σ (af cs a)) from inI_ok (b := I32) q (ivf_ok h a1))).symm) (Nx_1 h (i32_r _))) hc
      · rename_i t a
        refine den_lt (by show (3 : Nat) < 15; decide) ?_
        show den X _ _ _ f r (cn cs + 1) (us σ (cn cs) (cb (nm σ a))) M
        exact nx (Nx_1 h (cb_in _)) hc
      · rename_i j s
        refine den_lt (by show (4 : Nat) < 15; decide) ?_
        show rK _ _ → den X _ _ _ f r (cn cs + 1) (us σ (cn cs) (M j s.2.toNat)) M
        intro _
        have := ckLd_ok (f := (0, ((s.2.toNat : Nat) : Int))) (j := j) h hT (tiv_64 hT _ _) (Nat.zero_le _) (Int.natCast_nonneg _)
        rw [c0, Int.toNat_natCast] at this
        exact nx this hc
      · rename_i j a
        rw [Bool.and_eq_true] at hc
        obtain ⟨a1, a2⟩ := af_ok h (hw a (by simp))
        have bi := inI_ok hc.1 (ivf_ok h a1)
        have bi : 0 ≤ fv σ (af cs a) ∧ fv σ (af cs a) ≤ (alen j : Int) - 1 := bi
        refine den_lt (by show (5 : Nat) < 15; decide) ?_
        show 0 ≤ nm σ a ∧ nm σ a < alen j ∧ (rK _ _ → den X _ _ _ f r (cn cs + 1) (us σ (cn cs) (M j (nm σ a).toNat)) M)
        rw [← a2]
        exact ⟨bi.1, by omega, fun _ => nx (ckLd_ok h hT (tiv_64 hT _ _) a1 bi.1) hc.2⟩
      · rename_i j a
        rw [Bool.and_eq_true] at hc
        obtain ⟨a1, a2⟩ := af_ok h (hw a (by simp))
        have bi := inI_ok hc.1 (ivf_ok h a1)
        have bi : 0 ≤ fv σ (af cs a) ∧ fv σ (af cs a) ≤ 10 := bi
        refine den_lt (by show (8 : Nat) < 15; decide) ?_
        show 0 ≤ nm σ a ∧ nm σ a < 11 ∧ den X _ _ _ f r (cn cs + 1) (us σ (cn cs) (FSL.getD (nm σ a).toNat 0).toInt) M
        rw [← a2]
        refine ⟨bi.1, by omega, nx (Nx_1 h ?_) hc.2⟩
        have hF : ∀ n : Nat, n < 11 → (0 : Int) ≤ (FSL.getD n 0).toInt ∧ (FSL.getD n 0).toInt ≤ 19 := by decide
        exact hF _ (by omega)
      · rename_i t a
        rw [Bool.and_eq_true] at hc
        obtain ⟨a1, a2⟩ := af_ok h (hw a (by simp))
        have bi := inI_ok hc.1 (ivf_ok h a1)
        have bi : 0 ≤ fv σ (af cs a) ∧ fv σ (af cs a) ≤ ((strLen.getD t 0 : Nat) : Int) - 1 := bi
        refine den_lt (by show (9 : Nat) < 15; decide) ?_
        show 0 ≤ nm σ a ∧ nm σ a < strLen.getD t 0 ∧ den X _ _ _ f r (cn cs + 1) (us σ (cn cs) ((strB.getD t []).getD (nm σ a).toNat 0).toInt) M
        rw [← a2]
        exact ⟨bi.1, by omega, nx (Nx_1 h ⟨by have := ((strB.getD t []).getD (fv σ (af cs a)).toNat 0).le_toInt; show (-2147483648 : Int) ≤ _; omega, by have := ((strB.getD t []).getD (fv σ (af cs a)).toNat 0).toInt_lt; show _ ≤ (2147483647 : Int); omega⟩) hc.2⟩
      · rename_i j s v
        rw [Bool.and_eq_true, Bool.and_eq_true, Bool.and_eq_true] at hc
        obtain ⟨hs, hc⟩ := hc
        obtain ⟨a1, a2⟩ := af_ok h (hw v (by simp))
        have bi := inI_ok hc.2.1 (ivf_ok h a1)
        have hP2 := hH.1 cs σ M j _ _ hz h hT (Nat.zero_le _) a1 (Int.natCast_nonneg _) hs hP
        rw [c0, Int.toNat_natCast] at hP2
        refine den_lt (by show (10 : Nat) < 15; decide) ?_
        show den X _ _ _ f r (cn cs) σ (up M j s.2.toNat (nm σ v))
        rw [← a2]
        have := ckSt_ok (f := (0, ((s.2.toNat : Nat) : Int))) (g := af cs v) (j := j) h (Nat.zero_le _) a1 (Int.natCast_nonneg _)
        rw [c0, Int.toNat_natCast] at this
        exact ih r (ckSt cs j (0, ((s.2.toNat : Nat) : Int)) (af cs v)) σ _ hc.2.2 this (okTT_up hT bi) (FrM_up hF hc.1) hm hP2 hz
      · rename_i j a v
        rw [Bool.and_eq_true, Bool.and_eq_true, Bool.and_eq_true, Bool.and_eq_true] at hc
        obtain ⟨hs, hc⟩ := hc
        obtain ⟨a1, a2⟩ := af_ok h (hw a (by simp))
        obtain ⟨b1, b2⟩ := af_ok h (hw v (by simp))
        have bi := inI_ok hc.1 (ivf_ok h a1)
        have bi : 0 ≤ fv σ (af cs a) ∧ fv σ (af cs a) ≤ (alen j : Int) - 1 := bi
        refine den_lt (by show (11 : Nat) < 15; decide) ?_
        show 0 ≤ nm σ a ∧ nm σ a < alen j ∧ den X _ _ _ f r (cn cs) σ (up M j (nm σ a).toNat (nm σ v))
        rw [← a2, ← b2]
        refine ⟨bi.1, by omega, ih r (ckSt cs j (af cs a) (af cs v)) σ _ hc.2.2.2 (ckSt_ok h a1 b1 bi.1) (okTT_up hT ?_) (FrM_up hF (wf_ok hc.2.1)) hm (hH.1 cs σ M j _ _ hz h hT a1 b1 bi.1 hs hP) hz⟩
        have h3 := hc.2.2.1
        split at h3
        next q hq =>
          rw [tif_ok h a1 bi.1 hq]
          exact inI_ok h3 (ivf_ok h b1)
        next => cases h3
      · rename_i b v
        rw [Bool.and_eq_true] at hc
        obtain ⟨a1, a2⟩ := af_ok h (hw v (by simp))
        have bi := inI_ok hc.1 (ivf_ok h a1)
        have bi : 0 ≤ fv σ (af cs v) ∧ fv σ (af cs v) ≤ 1 := bi
        refine den_lt (by show (12 : Nat) < 15; decide) ?_
        show (nm σ v = 0 ∨ nm σ v = 1) ∧ den X _ _ _ f r (cn cs) σ M
        rw [← a2]
        exact ⟨by omega, ih r _ σ _ hc.2 h hT hF hm hP hz⟩
      · rename_i b v
        rw [Bool.and_eq_true] at hc
        obtain ⟨a1, a2⟩ := af_ok h (hw v (by simp))
        have bi := inI_ok hc.1 (ivf_ok h a1)
        have bi : 0 ≤ fv σ (af cs v) ∧ fv σ (af cs v) ≤ 65535 := bi
        refine den_lt (by show (13 : Nat) < 15; decide) ?_
        show (0 ≤ nm σ v ∧ nm σ v < 65536) ∧ den X _ _ _ f r (cn cs) σ M
        rw [← a2]
        exact ⟨by omega, ih r _ σ _ hc.2 h hT hF hm hP hz⟩
      · rename_i j1 j2 sp dp q
        simp only [Bool.and_eq_true, decide_eq_true_eq] at hc
        obtain ⟨⟨k1, k2, k3, k4, k5⟩, hs, k6, k7, k8⟩ := hc
        obtain ⟨a1, a2⟩ := af_ok h (hw sp (by simp))
        obtain ⟨b1, b2⟩ := af_ok h (hw dp (by simp))
        obtain ⟨c1, c2⟩ := af_ok h (hw q (by simp))
        have ia := ivf_ok h a1
        have ib := ivf_ok h b1
        have ic := ivf_ok h c1
        refine den_lt (by show (14 : Nat) < 15; decide) ?_
        show (0 ≤ nm σ sp ∧ 0 ≤ nm σ dp ∧ 0 ≤ nm σ q) ∧ nm σ sp + nm σ q ≤ alen j1 ∧ nm σ dp + nm σ q ≤ alen j2.2.toNat ∧ den X _ _ _ f r (cn cs) σ (cpM M j1 j2.2.toNat (nm σ sp).toNat (nm σ dp).toNat (nm σ q).toNat)
        rw [← a2, ← b2, ← c2]
        have hfr : FrM [(j2.2.toNat, 0)] M (cpM M j1 j2.2.toNat (fv σ (af cs sp)).toNat (fv σ (af cs dp)).toNat (fv σ (af cs q)).toNat) := by
          intro u s hu
          unfold cpM
          rw [if_neg]
          rintro ⟨rfl, -, -⟩
          unfold wOf at hu
          simp at hu
        refine ⟨⟨by omega, by omega, by omega⟩, by omega, by omega, ih r (keepW [(j2.2.toNat, 0)] cs) σ _ k8 (keepW_ok h hfr) ?_ (FrM_sub hF ?_ hfr) hm (hH.2.2.1 _ _ _ _ _ _ hT hs hP) hz⟩
        · split at k6
          next a b h1 h2 => exact okTT_cp hT h1 h2 k6
          next => cases k6
        · unfold wSub
          rw [List.all_eq_true]
          intro u hu
          obtain rfl := List.mem_singleton.mp hu
          rw [List.any_eq_true] at k7 ⊢
          obtain ⟨y, hy, h2⟩ := k7
          refine ⟨y, hy, ?_⟩
          simp only [Bool.and_eq_true, Bool.or_eq_true] at h2 ⊢
          exact ⟨h2.1, Or.inl h2.2⟩
      · rename_i c a b z
        rw [Bool.and_eq_true] at hc
        obtain ⟨a1, a2⟩ := af_ok h (hw a (by simp))
        obtain ⟨b1, b2⟩ := af_ok h (hw b (by simp))
        show (icP c (nm σ a) (nm σ b) → den X _ _ _ f (r.take z.2.toNat) (cn cs) σ M) ∧ (¬ icP c (nm σ a) (nm σ b) → den X _ _ _ f (r.drop z.2.toNat) (cn cs) σ M)
        rw [← a2, ← b2]
        refine ⟨fun hq => ?_, fun hq => ?_⟩
        · obtain ⟨c1, e1, e2, e3, -⟩ := refine1_ok h a1 b1 hq
          have h3 := hc.1
          rw [e1] at h3
          rw [← e3] at hm hz ⊢
          exact ih _ c1 σ M h3 e2 hT hF hm hP hz
        · obtain ⟨c1, e1, e2, e3, -⟩ := refine1_ok h a1 b1 (negC_ok hq)
          have h3 := hc.2
          rw [e1] at h3
          rw [← e3] at hm hz ⊢
          exact ih _ c1 σ M h3 e2 hT hF hm hP hz
      · rename_i k' as
        split at hc
        next sp hsp =>
          simp only [Bool.and_eq_true] at hc
          obtain ⟨k1, k2, k3⟩ := hc
          have h1 := List.find?_some hsp
          simp only [Bool.and_eq_true] at h1
          have hk := Nat.eq_of_beq_eq_true h1.1
          have hsw := hS sp (List.mem_of_find?_eq_some hsp) (as.map (ev σ)) M (patsA_ok h h1.2) hT hP
          rw [hk] at hsw
          refine ⟨sp.2.2.2.2, Nat.le_of_ble_eq_true k1, hsw.mono fun v M' hq hro hrv hM => ?_⟩
          obtain ⟨q1, q2, q3, q4⟩ := hq
          have hag := us_agree σ (cn cs) (oz v)
          obtain ⟨o, ho1, ho2, ho3⟩ := q3
          have k3 := List.all_eq_true.mp k3 o ho1
          have ho := setB_ok (keepW_ok h q2) ho3
          cases e : Nat.beq (rb k') 0 with
          | true =>
            rw [e] at k3
            rw [Nat.eq_of_beq_eq_true e]
            exact ih r (setB (keepW sp.2.2.2.1 cs) o.2) _ M' k3 (ho.agree hag) q1 (FrM_sub hF k2 q2) (hm.agree hag (Nat.le_refl _)) q4 ⟨hz.1, fun j hj => by rw [us_ne (Nat.lt_of_lt_of_le hj hz.1)]; exact hz.2 j hj⟩
          | false =>
            rw [e] at k3
            have hrb : rb k' = 1 := by
              unfold rb at e ⊢
              split
              next e2 => rw [e2] at e; cases e
              next => rfl
            have hv : ∃ x, v = some x := by
              cases v with
              | some x => exact ⟨x, rfl⟩
              | none =>
                exfalso
                unfold rb at hrb
                unfold retOK at hro
                split at hrb
                next => cases hrb
                next e3 =>
                  split at hro
                  · exact e3 (by assumption)
                  all_goals first | exact hro | contradiction
            obtain ⟨x, hx⟩ := hv
            have hn : Ok (newB (setB (keepW sp.2.2.2.1 cs) o.2) o.1.1 o.1.2 1) (us σ (cn cs) (oz v)) M' := newB1 ho (ho2 x hx)
            rw [hrb]
            have h9 := ih r _ _ M' k3 hn q1 (FrM_sub hF k2 q2) (by rw [newB_n]; exact hm.agree hag (Nat.le_succ _)) q4 ⟨by rw [newB_n]; exact Nat.le_succ_of_le hz.1, fun j hj => by rw [us_ne (Nat.lt_of_lt_of_le hj hz.1)]; exact hz.2 j hj⟩
            rw [newB_n] at h9
            exact h9
        next => cases hc
      · rename_i i as
        have key : ∀ c1 : CS, Ok c1 σ M → cn c1 = cn cs → ckCut cuts m0 i as c1 = true → CTd cuts W M0 T i (as.map (ev σ)) M := by
          intro c1 h hn hc
          rw [← hn] at hw hm
          obtain ⟨c, hcut, hc⟩ := List.any_eq_true.mp hc
          unfold ckCut1 at hc
          rw [Bool.and_eq_true, Bool.and_eq_true] at hc
          obtain ⟨k0, k1, k2⟩ := hc
          split at k2
          next fs hl =>
            rw [Bool.and_eq_true, Bool.and_eq_true] at k2
            obtain ⟨k2, kd, k3⟩ := k2
            obtain ⟨l1, l2⟩ := meas_ok h hw hl k2
            obtain ⟨-, l3, l4⟩ := frF_ok h hw hl
            refine ⟨c, hcut, Nat.eq_of_beq_eq_true k0, patsA_ok h k1, l4, fun d hd => ?_, hT, hF, fun t ht => ?_⟩
            · rw [List.all_eq_true] at kd
              have := inI_ok (kd d hd) (dfI_ok h (l3 d.2.1).1 (l3 d.2.2.1).1)
              rw [(l3 d.2.1).2, (l3 d.2.2.1).2] at this
              exact this
            · cases m0 with
              | none => have e : T = none := hm; rw [e] at ht; cases ht
              | some m =>
                have k3 : (Nat.beq (meas fs c.2.2.2.2.1).length m.length && (lexL c1 (meas fs c.2.2.2.2.1) m && m.all (bdL c1))) = true := k3
                simp only [Bool.and_eq_true] at k3
                obtain ⟨n1, n2, n3⟩ := k3
                rw [List.all_eq_true] at n3
                rw [hm.2] at ht
                rw [← Option.some.inj ht, ← l2]
                exact lexL_ok h l1 (fun e he => ⟨hm.1 e he, n3 e he⟩) (Nat.eq_of_beq_eq_true n1) n2
          next => cases k2
        rw [Bool.and_eq_true] at hc
        obtain ⟨hs, hc⟩ := hc
        show CTp cuts W M0 T P E i (as.map (ev σ)) M
        refine ⟨?_, hP, hH.2.1 cs σ M i as hz h hT hw hs hP⟩
        unfold ckCutS at hc
        split at hc
        next q hq =>
          have hfw : (avF cs (as.getD q.2 (0, 0))).1 ≤ cn cs := by
            rw [List.getD_eq_getElem?_getD]
            cases e : as[q.2]? with
            | none => exact Nat.zero_le _
            | some a => exact (avF_ok h (hw a (List.mem_of_getElem? e))).1
          have b := ivf_ok h hfw
          obtain ⟨c1, e1, e2, e3⟩ := splitA_ok h hfw _ _ hc b.1 (by omega)
          exact key c1 e1 e2 e3
        next => exact key cs h rfl hc
      · rw [Bool.and_eq_true] at hc
        obtain ⟨hs, hc⟩ := hc
        obtain ⟨o, ho, hc⟩ := List.any_eq_true.mp hc
        rw [List.all_eq_true] at hc
        exact ⟨⟨hT, hF, o, ho, fun x hx => (by cases hx), fun q hq => fldB_ok h hT (tiv_64 hT _ _) (hc q hq)⟩, hP, hH.2.2.2 cs σ M none hz h hT (fun a ha => (by cases ha)) hs hP⟩
      · rename_i b a
        rw [Bool.and_eq_true] at hc
        obtain ⟨hs, hc⟩ := hc
        obtain ⟨o, ho, hc⟩ := List.any_eq_true.mp hc
        rw [Bool.and_eq_true, List.all_eq_true] at hc
        have hwa := hw a (by simp)
        obtain ⟨a1, a2⟩ := avF_ok h hwa
        refine ⟨⟨hT, hF, o, ho, fun x hx => ?_, fun q hq => fldB_ok h hT (tiv_64 hT _ _) (hc.2 q hq)⟩, hP, hH.2.2.2 cs σ M (some a) hz h hT (fun x hx => by rw [← Option.some.inj hx]; exact hwa) hs hP⟩
        have := inI_ok hc.1 (ivf_ok h a1)
        rw [a2] at this
        exact this
      · cases hc
theorem chk_sound {X : Xs} {H : Hk} {P : Mm → Prop} {E : Nat → List V → Mm → Prop} {R : Option V → Mm → Prop} (hH : HkOK H P E R) {sps : List Spec} {W : Wl} {outs : List Out} {D : Nat} {spl : List (Nat × Nat)} {cuts : List Cut} {m0 : Option (List Lin)} (hS : ∀ sp ∈ sps, SpecP X P sp) {M0 : Mm} {T : Option Nat} (f : Nat) (r : List Node) (cs : CS) (σ : Nat → Int) (M : Mm) (hc : chk H sps W outs D spl cuts m0 f r cs = true) (h : Ok cs σ M) (hT : okTT M) (hF : FrM W M0 M) (hm : HM m0 T (cn cs) σ) (hP : P M) : den X (CPd X D) (CTp cuts W M0 T P E) (Qp W outs M0 P R) f r (cn cs) σ M :=
  chk_soundz hH.z hS f r cs σ M hc h hT hF hm hP ⟨Nat.zero_le _, fun j hj => absurd hj (Nat.not_lt_zero j)⟩
