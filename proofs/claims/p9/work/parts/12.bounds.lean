/-! the cells' bounds, branches, what calls may write -/
def tiv (j s : Nat) : Iv := match TT[j]? with
  | some q => q.2.getD (s % q.1) I64
  | none => I64
def okTT (M : Mm) : Prop := ∀ j s, (tiv j s).1 ≤ M j s ∧ M j s ≤ (tiv j s).2
/-- the bounds of a cell at an index that is a form -/
def tif (cs : CS) (j : Nat) (f : Fm) : Option Iv := match TT[j]? with
  | some q => bif Nat.beq q.1 1 then some (q.2.getD 0 I64) else match f.1 with
    | 0 => some (q.2.getD (f.2.toNat % q.1) I64)
    | b + 1 => bif Nat.beq (cmo cs b % q.1) 0 then some (q.2.getD ((f.2 % (q.1 : Int)).toNat) I64) else none
  | none => some I64
theorem tif_ok {cs : CS} {σ : Nat → Int} {M : Mm} {j : Nat} {f : Fm} {q : Iv} (h : Ok cs σ M) (hf : f.1 ≤ cn cs) (h0 : 0 ≤ fv σ f) (ht : tif cs j f = some q) : tiv j (fv σ f).toNat = q := by
  unfold tif at ht
  unfold tiv
  split at ht
  next t e =>
    show t.2.getD _ I64 = q
    cases e1 : Nat.beq t.1 1 with
    | true =>
      rw [e1] at ht
      rw [Nat.eq_of_beq_eq_true e1, Nat.mod_one]
      exact Option.some.inj ht
    | false =>
      rw [e1] at ht
      obtain ⟨b, c⟩ := f
      cases b with
      | zero => exact Option.some.inj ht
      | succ b =>
        have ht : (bif Nat.beq (cmo cs b % t.1) 0 then some (t.2.getD ((c % (t.1 : Int)).toNat) I64) else none) = some q := ht
        cases e2 : Nat.beq (cmo cs b % t.1) 0 with
        | false => rw [e2] at ht; cases ht
        | true =>
          rw [e2] at ht
          rw [← Option.some.inj ht]
          congr 1
          obtain ⟨-, -, -, hd⟩ := h.1 b hf
          have hd2 : (t.1 : Int) ∣ σ b := Int.dvd_trans (Int.natCast_dvd_natCast.mpr (Nat.dvd_of_mod_eq_zero (Nat.eq_of_beq_eq_true e2))) hd
          obtain ⟨k, hk⟩ := hd2
          have h0 : 0 ≤ σ b + c := h0
          show (σ b + c).toNat % t.1 = _
          have : (((σ b + c).toNat % t.1 : Nat) : Int) = c % (t.1 : Int) := by
            rw [Int.natCast_emod, Int.toNat_of_nonneg h0, hk, Int.mul_add_emod_self_left]
          rw [← this, Int.toNat_natCast]
  next e =>
    exact Option.some.inj ht
def kfind (cs : CS) (j : Nat) (f : Fm) : Option Fm := ((ckn cs).find? (fun q => Nat.beq q.1 j && eqF q.2.1 f)).map (fun q => q.2.2)
theorem kfind_ok {cs : CS} {σ : Nat → Int} {M : Mm} {j : Nat} {f g : Fm} (h : Ok cs σ M) (hk : kfind cs j f = some g) : g.1 ≤ cn cs ∧ M j (fv σ f).toNat = fv σ g := by
  unfold kfind at hk
  rw [Option.map_eq_some_iff] at hk
  obtain ⟨q, hq, rfl⟩ := hk
  have h1 := List.find?_some hq
  have h2 := List.mem_of_find?_eq_some hq
  simp only [Bool.and_eq_true] at h1
  obtain ⟨-, g2, -, g4⟩ := h.2.1 q h2
  rw [Nat.eq_of_beq_eq_true h1.1, eqF_ok h1.2] at g4
  exact ⟨g2, g4⟩
def bfind (cs : CS) (j : Nat) (f : Fm) : Option Iv := ((cbd cs).find? (fun q => Nat.beq q.1 j && eqF q.2.1 f)).map (fun q => q.2.2)
theorem bfind_ok {cs : CS} {σ : Nat → Int} {M : Mm} {j : Nat} {f : Fm} {i : Iv} (h : Ok cs σ M) (hk : bfind cs j f = some i) : i.1 ≤ M j (fv σ f).toNat ∧ M j (fv σ f).toNat ≤ i.2 := by
  unfold bfind at hk
  rw [Option.map_eq_some_iff] at hk
  obtain ⟨q, hq, rfl⟩ := hk
  have h1 := List.find?_some hq
  have h2 := List.mem_of_find?_eq_some hq
  simp only [Bool.and_eq_true] at h1
  obtain ⟨-, -, g4⟩ := h.2.2.2 q h2
  rw [Nat.eq_of_beq_eq_true h1.1, eqF_ok h1.2] at g4
  exact g4
def ldI (cs : CS) (j : Nat) (f : Fm) : Iv := match bfind cs j f with
  | some i => i
  | none => (tif cs j f).getD I64
def ckLd (cs : CS) (j : Nat) (f : Fm) : CS := match kfind cs j f with
  | some g => newF cs g
  | none => setK (newB cs (ldI cs j f).1 (ldI cs j f).2 1) ((j, f, (cn cs + 1, 0)) :: ckn cs)
theorem newB_kn {cs : CS} {lo hi : Int} {m : Nat} : ckn (newB cs lo hi m) = ckn cs := by
  unfold newB
  rw [fI_eq, fI_eq]
  rfl
theorem ckLd_ok {cs : CS} {σ : Nat → Int} {M : Mm} {j : Nat} {f : Fm} (h : Ok cs σ M) (hT : okTT M) (h64 : in64 (M j (fv σ f).toNat)) (hf : f.1 ≤ cn cs) (h0 : 0 ≤ fv σ f) : Nx cs (ckLd cs j f) σ (M j (fv σ f).toNat) M := by
  unfold ckLd
  split
  next g hg =>
    obtain ⟨g1, g2⟩ := kfind_ok h hg
    exact Nx_F h g1 g2.symm
  next =>
    have hb : (ldI cs j f).1 ≤ M j (fv σ f).toNat ∧ M j (fv σ f).toNat ≤ (ldI cs j f).2 := by
      unfold ldI
      split
      next i hi => exact bfind_ok h hi
      next =>
        cases e : tif cs j f with
        | none => exact h64
        | some q =>
          have := hT j (fv σ f).toNat
          rw [tif_ok h hf h0 e] at this
          exact this
    have a := newB1 h hb
    refine ⟨newB_n, a.1, fun q hq => ?_, a.2.2⟩
    rcases List.mem_cons.mp hq with rfl | hq
    · show f.1 ≤ cn (newB _ _ _ _) ∧ cn cs + 1 ≤ cn (newB _ _ _ _) ∧ 0 ≤ fv (us σ (cn cs) _) f ∧ M j (fv (us σ (cn cs) _) f).toNat = us σ (cn cs) _ (cn cs) + 0
      rw [newB_n, us_at, fv_agree (us_agree σ (cn cs) _) hf]
      exact ⟨by omega, Nat.le_refl _, h0, by omega⟩
    · rw [← newB_kn (cs := cs) (lo := (ldI cs j f).1) (hi := (ldI cs j f).2) (m := 1)] at hq
      exact a.2.1 q hq
def dfF (f g : Fm) : Bool := Nat.beq f.1 g.1 && !(decide (f.2 = g.2))
def kpS (j : Nat) (f : Fm) (j' : Nat) (f' : Fm) : Bool := !(Nat.beq j' j) || dfF f' f
def ckSt (cs : CS) (j : Nat) (f g : Fm) : CS := (cn cs, cfm cs, civ cs, cmo cs, (j, f, g) :: (ckn cs).filter (fun q => kpS j f q.1 q.2.1), cdf cs, (cbd cs).filter (fun q => kpS j f q.1 q.2.1))
theorem kpS_ok {σ : Nat → Int} {M : Mm} {j j' : Nat} {f f' : Fm} {z : Int} (h0 : 0 ≤ fv σ f) (h0' : 0 ≤ fv σ f') (h : kpS j f j' f' = true) : up M j (fv σ f).toNat z j' (fv σ f').toNat = M j' (fv σ f').toNat := by
  unfold up
  rw [if_neg]
  rintro ⟨e1, e2⟩
  unfold kpS at h
  simp only [Bool.or_eq_true] at h
  rcases h with h2 | h2
  · rw [e1, show Nat.beq j j = true from Nat.beq_refl j] at h2
    cases h2
  · unfold dfF at h2
    simp only [Bool.and_eq_true, Bool.not_eq_true', decide_eq_false_iff_not] at h2
    have e3 := Nat.eq_of_beq_eq_true h2.1
    have e4 : fv σ f' = fv σ f := by omega
    apply h2.2
    obtain ⟨b1, c1⟩ := f'
    obtain ⟨b2, c2⟩ := f
    obtain rfl : b1 = b2 := e3
    cases b1 with
    | zero => exact e4
    | succ b => have e4 : σ b + c1 = σ b + c2 := e4; show c1 = c2; omega
theorem ckSt_ok {cs : CS} {σ : Nat → Int} {M : Mm} {j : Nat} {f g : Fm} (h : Ok cs σ M) (hf : f.1 ≤ cn cs) (hg : g.1 ≤ cn cs) (h0 : 0 ≤ fv σ f) : Ok (ckSt cs j f g) σ (up M j (fv σ f).toNat (fv σ g)) := by
  refine ⟨h.1, fun q hq => ?_, h.2.2.1, fun q hq => ?_⟩
  · rcases List.mem_cons.mp hq with rfl | hq
    · exact ⟨hf, hg, h0, by unfold up; rw [if_pos ⟨rfl, rfl⟩]⟩
    · obtain ⟨h1, h2⟩ := List.mem_filter.mp hq
      obtain ⟨g1, g2, g3, g4⟩ := h.2.1 q h1
      exact ⟨g1, g2, g3, by rw [kpS_ok h0 g3 h2]; exact g4⟩
  · obtain ⟨h1, h2⟩ := List.mem_filter.mp hq
    obtain ⟨g1, g3, g4⟩ := h.2.2.2 q h1
    exact ⟨g1, g3, by rw [kpS_ok h0 g3 h2]; exact g4⟩
/-! branches -/
def setI (cs : CS) (f : Fm) (lo hi : Int) : Option CS := match f.1 with
  | 0 => bif decide (lo ≤ f.2) && decide (f.2 ≤ hi) then some cs else none
  | b + 1 => fI (imax (civ cs b).1 (lo - f.2)) fun l => fI (imin (civ cs b).2 (hi - f.2)) fun h => bif decide (l ≤ h) then some (cn cs, cfm cs, fu (civ cs) b (l, h), cmo cs, ckn cs, cdf cs, cbd cs) else none
def OkO (r : Option CS) (n : Nat) (σ : Nat → Int) (M : Mm) : Prop := ∃ c1, r = some c1 ∧ Ok c1 σ M ∧ cn c1 = n ∧ True
theorem setI_ok {cs : CS} {σ : Nat → Int} {M : Mm} {f : Fm} {lo hi : Int} (h : Ok cs σ M) (hf : f.1 ≤ cn cs) (hv : lo ≤ fv σ f ∧ fv σ f ≤ hi) : OkO (setI cs f lo hi) (cn cs) σ M := by
  obtain ⟨b, c⟩ := f
  cases b with
  | zero =>
    have hv : lo ≤ c ∧ c ≤ hi := hv
    refine ⟨cs, ?_, h, rfl, trivial⟩
    show (bif decide (lo ≤ c) && decide (c ≤ hi) then some cs else none) = _
    rw [decide_eq_true hv.1, decide_eq_true hv.2]
    rfl
  | succ b =>
    have hv : lo ≤ σ b + c ∧ σ b + c ≤ hi := hv
    obtain ⟨k1, k2, k3, k4⟩ := h.1 b hf
    have e1 : imax (civ cs b).1 (lo - c) ≤ σ b := imax_le k3.1 (by omega)
    have e2 : σ b ≤ imin (civ cs b).2 (hi - c) := le_imin k3.2 (by omega)
    refine ⟨(cn cs, cfm cs, fu (civ cs) b (imax (civ cs b).1 (lo - c), imin (civ cs b).2 (hi - c)), cmo cs, ckn cs, cdf cs, cbd cs), ?_, ⟨fun j hj => ?_, h.2.1, h.2.2⟩, rfl, trivial⟩
    · show fI (imax (civ cs b).1 (lo - c)) (fun l => fI (imin (civ cs b).2 (hi - c)) fun h => bif decide (l ≤ h) then some (cn cs, cfm cs, fu (civ cs) b (l, h), cmo cs, ckn cs, cdf cs, cbd cs) else none) = _
      rw [fI_eq, fI_eq, decide_eq_true (Int.le_trans e1 e2)]
      rfl
    · obtain ⟨a1, a2, a3, a4⟩ := h.1 j hj
      refine ⟨a1, a2, ?_, a4⟩
      show (fu (civ cs) b (_, _) j).1 ≤ σ j ∧ σ j ≤ (fu (civ cs) b (_, _) j).2
      by_cases e : j = b
      · subst e
        rw [fu_at]
        exact ⟨e1, e2⟩
      · rw [fu_ne e]
        exact a3
theorem OkO.bind {r : Option CS} {n : Nat} {σ : Nat → Int} {M : Mm} {k : CS → Option CS} (h : OkO r n σ M) (hk : ∀ c1, Ok c1 σ M → cn c1 = n → OkO (k c1) n σ M) : OkO (r.bind k) n σ M := by
  obtain ⟨c1, rfl, h1, h2, -⟩ := h
  exact hk c1 h1 h2
def neI (i : Iv) (v : Int) : Iv := (bif decide (i.1 = v) then i.1 + 1 else i.1, bif decide (i.2 = v) then i.2 - 1 else i.2)
theorem neI_ok {i : Iv} {v z : Int} (h : i.1 ≤ z ∧ z ≤ i.2) (hn : z ≠ v) : (neI i v).1 ≤ z ∧ z ≤ (neI i v).2 := by
  unfold neI
  refine ⟨?_, ?_⟩
  · cases e : decide (i.1 = v) with
    | true => have := of_decide_eq_true e; show i.1 + 1 ≤ z; omega
    | false => exact h.1
  · cases e : decide (i.2 = v) with
    | true => have := of_decide_eq_true e; show z ≤ i.2 - 1; omega
    | false => exact h.2
def rfI (c : Nat) (x y : Iv) : Iv × Iv := match c with
  | 0 => (y, x)
  | 1 => (bif decide (y.1 = y.2) then neI x y.1 else x, bif decide (x.1 = x.2) then neI y x.1 else y)
  | 2 => ((x.1, y.2 - 1), (x.1 + 1, y.2))
  | 3 => ((y.1, x.2), (y.1, x.2))
  | 4 => ((y.1 + 1, x.2), (y.1, x.2 - 1))
  | _ => ((x.1, y.2), (x.1, y.2))
theorem rfI_ok {c : Nat} {x y : Iv} {u v : Int} (hx : x.1 ≤ u ∧ u ≤ x.2) (hy : y.1 ≤ v ∧ v ≤ y.2) (h : icP c u v) : ((rfI c x y).1.1 ≤ u ∧ u ≤ (rfI c x y).1.2) ∧ ((rfI c x y).2.1 ≤ v ∧ v ≤ (rfI c x y).2.2) := by
  match c, h with
  | 0, h => have h : u = v := h; subst h; exact ⟨hy, hx⟩
  | 1, h =>
    have h : u ≠ v := h
    refine ⟨?_, ?_⟩
    · show (bif decide (y.1 = y.2) then neI x y.1 else x).1 ≤ u ∧ u ≤ (bif decide (y.1 = y.2) then neI x y.1 else x).2
      cases e : decide (y.1 = y.2) with
      | true => have := of_decide_eq_true e; exact neI_ok hx (by omega)
      | false => exact hx
    · show (bif decide (x.1 = x.2) then neI y x.1 else y).1 ≤ v ∧ v ≤ (bif decide (x.1 = x.2) then neI y x.1 else y).2
      cases e : decide (x.1 = x.2) with
      | true => have := of_decide_eq_true e; exact neI_ok hy (by omega)
      | false => exact hy
  | 2, h => have h : u < v := h; show (x.1 ≤ u ∧ u ≤ y.2 - 1) ∧ (x.1 + 1 ≤ v ∧ v ≤ y.2); omega
  | 3, h => have h : v ≤ u := h; show (y.1 ≤ u ∧ u ≤ x.2) ∧ (y.1 ≤ v ∧ v ≤ x.2); omega
  | 4, h => have h : v < u := h; show (y.1 + 1 ≤ u ∧ u ≤ x.2) ∧ (y.1 ≤ v ∧ v ≤ x.2 - 1); omega
  | n + 5, h => have h : u ≤ v := h; show (x.1 ≤ u ∧ u ≤ y.2) ∧ (x.1 ≤ v ∧ v ≤ y.2); omega
def prop1 (cs : CS) (q : Nat × Fm × Fm × Nat) : Option CS :=
  let s := cfm cs q.2.2.2
  let iS := ivf cs s
  let ix := ivf cs q.2.1
  let iy := ivf cs q.2.2.1
  match q.1 with
  | 0 => (setI cs s (ix.1 + iy.1) (ix.2 + iy.2)).bind fun c1 => (setI c1 q.2.1 (iS.1 - iy.2) (iS.2 - iy.1)).bind fun c2 => setI c2 q.2.2.1 (iS.1 - ix.2) (iS.2 - ix.1)
  | _ => (setI cs s (ix.1 - iy.2) (ix.2 - iy.1)).bind fun c1 => (setI c1 q.2.1 (iS.1 + iy.1) (iS.2 + iy.2)).bind fun c2 => setI c2 q.2.2.1 (ix.1 - iS.2) (ix.2 - iS.1)
def dfOk (n : Nat) (σ : Nat → Int) (q : Nat × Fm × Fm × Nat) : Prop := q.2.1.1 ≤ n ∧ q.2.2.1.1 ≤ n ∧ q.2.2.2 < n ∧ σ q.2.2.2 = zs q.1 (fv σ q.2.1) (fv σ q.2.2.1)
theorem prop1_ok {cs : CS} {σ : Nat → Int} {M : Mm} {q : Nat × Fm × Fm × Nat} (h : Ok cs σ M) (hq : dfOk (cn cs) σ q) : OkO (prop1 cs q) (cn cs) σ M := by
  obtain ⟨b, fx, fy, t⟩ := q
  obtain ⟨hx, hy, ht, hs⟩ := hq
  have hx : fx.1 ≤ cn cs := hx
  have hy : fy.1 ≤ cn cs := hy
  have hs : σ t = zs b (fv σ fx) (fv σ fy) := hs
  obtain ⟨k1, k2, -, -⟩ := h.1 t ht
  rw [← k2] at hs
  have iS := ivf_ok h k1
  have ix := ivf_ok h hx
  have iy := ivf_ok h hy
  cases b with
  | zero =>
    have hs : fv σ (cfm cs t) = fv σ fx + fv σ fy := hs
    show OkO ((setI cs (cfm cs t) ((ivf cs fx).1 + (ivf cs fy).1) ((ivf cs fx).2 + (ivf cs fy).2)).bind fun c1 => (setI c1 fx ((ivf cs (cfm cs t)).1 - (ivf cs fy).2) ((ivf cs (cfm cs t)).2 - (ivf cs fy).1)).bind fun c2 => setI c2 fy ((ivf cs (cfm cs t)).1 - (ivf cs fx).2) ((ivf cs (cfm cs t)).2 - (ivf cs fx).1)) _ _ _
    refine (setI_ok h k1 (by omega)).bind fun c1 h1 e1 => ?_
    rw [← e1] at hx hy ⊢
    refine (setI_ok (f := fx) h1 hx (by omega)).bind fun c2 h2 e2 => ?_
    rw [← e2] at hy ⊢
    exact setI_ok (f := fy) h2 hy (by omega)
  | succ b =>
    have hs : fv σ (cfm cs t) = fv σ fx - fv σ fy := hs
    show OkO ((setI cs (cfm cs t) ((ivf cs fx).1 - (ivf cs fy).2) ((ivf cs fx).2 - (ivf cs fy).1)).bind fun c1 => (setI c1 fx ((ivf cs (cfm cs t)).1 + (ivf cs fy).1) ((ivf cs (cfm cs t)).2 + (ivf cs fy).2)).bind fun c2 => setI c2 fy ((ivf cs fx).1 - (ivf cs (cfm cs t)).2) ((ivf cs fx).2 - (ivf cs (cfm cs t)).1)) _ _ _
    refine (setI_ok h k1 (by omega)).bind fun c1 h1 e1 => ?_
    rw [← e1] at hx hy ⊢
    refine (setI_ok (f := fx) h1 hx (by omega)).bind fun c2 h2 e2 => ?_
    rw [← e2] at hy ⊢
    exact setI_ok (f := fy) h2 hy (by omega)
def propAll : List (Nat × Fm × Fm × Nat) → CS → Option CS
  | [], cs => some cs
  | q :: l, cs => (prop1 cs q).bind (propAll l)
theorem propAll_ok {σ : Nat → Int} {M : Mm} : ∀ {l : List (Nat × Fm × Fm × Nat)} {cs : CS}, Ok cs σ M → (∀ q ∈ l, dfOk (cn cs) σ q) → OkO (propAll l cs) (cn cs) σ M := by
  intro l
  induction l with
  | nil => intro cs h _; exact ⟨cs, rfl, h, rfl, trivial⟩
  | cons q l ih =>
    intro cs h hl
    refine (prop1_ok h (hl q List.mem_cons_self)).bind fun c1 h1 e1 => ?_
    rw [← e1] at hl ⊢
    exact ih h1 (fun u hu => hl u (List.mem_cons_of_mem _ hu))
def refine1 (cs : CS) (c : Nat) (fx fy : Fm) : Option CS :=
  bif Nat.beq fx.1 fy.1 then (bif icB c fx.2 fy.2 then some cs else none)
  else
    let q := rfI c (ivf cs fx) (ivf cs fy)
    (setI cs fx q.1.1 q.1.2).bind fun c1 => (setI c1 fy q.2.1 q.2.2).bind fun c2 => propAll (cdf c2) c2
theorem icP_add {c : Nat} {z x y : Int} (h : icP c (z + x) (z + y)) : icP c x y := by
  match c, h with
  | 0, h => have h : z + x = z + y := h; show x = y; omega
  | 1, h => have h : z + x ≠ z + y := h; show x ≠ y; omega
  | 2, h => have h : z + x < z + y := h; show x < y; omega
  | 3, h => have h : z + y ≤ z + x := h; show y ≤ x; omega
  | 4, h => have h : z + y < z + x := h; show y < x; omega
  | n + 5, h => have h : z + x ≤ z + y := h; show x ≤ y; omega
theorem refine1_ok {cs : CS} {σ : Nat → Int} {M : Mm} {c : Nat} {fx fy : Fm} (h : Ok cs σ M) (hx : fx.1 ≤ cn cs) (hy : fy.1 ≤ cn cs) (hc : icP c (fv σ fx) (fv σ fy)) : OkO (refine1 cs c fx fy) (cn cs) σ M := by
  unfold refine1
  cases e : Nat.beq fx.1 fy.1 with
  | true =>
    have e1 := Nat.eq_of_beq_eq_true e
    have hc2 : icP c fx.2 fy.2 := by
      obtain ⟨b, x⟩ := fx
      obtain ⟨b2, y⟩ := fy
      obtain rfl : b = b2 := e1
      cases b with
      | zero => exact hc
      | succ b => exact icP_add (z := σ b) hc
    refine ⟨cs, ?_, h, rfl, trivial⟩
    show (bif icB c fx.2 fy.2 then some cs else none) = some cs
    rw [icB_iff.mpr hc2]
    rfl
  | false =>
    obtain ⟨r1, r2⟩ := rfI_ok (ivf_ok h hx) (ivf_ok h hy) hc
    refine (setI_ok h hx r1).bind fun c1 h1 e1 => ?_
    rw [← e1] at hy ⊢
    refine (setI_ok h1 hy r2).bind fun c2 h2 e2 => ?_
    rw [← e2]
    exact propAll_ok h2 h2.2.2.1
def negC (c : Nat) : Nat := match c with
  | 0 => 1
  | 1 => 0
  | 2 => 3
  | 3 => 2
  | 4 => 5
  | _ => 4
theorem negC_ok {c : Nat} {x y : Int} (h : ¬ icP c x y) : icP (negC c) x y := by
  match c, h with
  | 0, h => exact h
  | 1, h => have h : ¬ ¬ (x = y) := h; exact Classical.not_not.mp h
  | 2, h => exact Int.not_lt.mp h
  | 3, h => exact Int.not_le.mp h
  | 4, h => exact Int.not_lt.mp h
  | n + 5, h => exact Int.not_le.mp h
/-! what may be written -/
abbrev Wl : Type := List (Nat × Nat)
def wOf (W : Wl) (j s : Nat) : Bool := W.any (fun q => Nat.beq q.1 j && (Nat.beq q.2 0 || Nat.beq q.2 (s + 1)))
/-- may be written, at an index that is a form -/
def wf (W : Wl) (j : Nat) (f : Fm) : Bool := W.any (fun q => Nat.beq q.1 j && (Nat.beq q.2 0 || (Nat.beq f.1 0 && Nat.beq q.2 (f.2.toNat + 1))))
theorem wf_ok {W : Wl} {j : Nat} {f : Fm} {σ : Nat → Int} (h : wf W j f = true) : wOf W j (fv σ f).toNat = true := by
  unfold wf at h
  unfold wOf
  rw [List.any_eq_true] at h ⊢
  obtain ⟨q, hq, h1⟩ := h
  refine ⟨q, hq, ?_⟩
  simp only [Bool.and_eq_true, Bool.or_eq_true] at h1 ⊢
  refine ⟨h1.1, ?_⟩
  rcases h1.2 with h2 | h2
  · exact Or.inl h2
  · right
    rw [fv_0 (Nat.eq_of_beq_eq_true h2.1)]
    exact h2.2
def FrM (W : Wl) (M0 M : Mm) : Prop := ∀ j s, wOf W j s = false → M j s = M0 j s
theorem FrM_up {W : Wl} {M0 M : Mm} {j s : Nat} {z : Int} (h : FrM W M0 M) (hw : wOf W j s = true) : FrM W M0 (up M j s z) := by
  intro a b hab
  unfold up
  split
  next q => obtain ⟨rfl, rfl⟩ := q; rw [hw] at hab; cases hab
  next => exact h a b hab
def wSub (W V : Wl) : Bool := W.all (fun q => V.any (fun u => Nat.beq u.1 q.1 && (Nat.beq u.2 0 || Nat.beq u.2 q.2)))
theorem wSub_ok {W V : Wl} (h : wSub W V = true) {j s : Nat} (hw : wOf W j s = true) : wOf V j s = true := by
  unfold wSub at h
  unfold wOf at hw ⊢
  rw [List.any_eq_true] at hw ⊢
  obtain ⟨q, hq, h1⟩ := hw
  obtain ⟨u, hu, h2⟩ := List.any_eq_true.mp (List.all_eq_true.mp h q hq)
  refine ⟨u, hu, ?_⟩
  simp only [Bool.and_eq_true, Bool.or_eq_true] at h1 h2 ⊢
  rw [Nat.eq_of_beq_eq_true h2.1]
  refine ⟨h1.1, ?_⟩
  rcases h2.2 with e | e
  · exact Or.inl e
  · rw [Nat.eq_of_beq_eq_true e]
    exact h1.2
theorem FrM_sub {W V : Wl} {M0 M M' : Mm} (h0 : FrM V M0 M) (hs : wSub W V = true) (h : FrM W M M') : FrM V M0 M' := by
  intro j s hw
  rw [h j s, h0 j s hw]
  cases e : wOf W j s with
  | false => rfl
  | true => rw [wSub_ok hs e] at hw; cases hw
def kpW (W : Wl) (j : Nat) (f : Fm) : Bool := !(W.any (fun u => Nat.beq u.1 j && (Nat.beq u.2 0 || (!(Nat.beq f.1 0) || Nat.beq u.2 (f.2.toNat + 1)))))
def keepW (W : Wl) (cs : CS) : CS := (cn cs, cfm cs, civ cs, cmo cs, (ckn cs).filter (fun q => kpW W q.1 q.2.1), cdf cs, (cbd cs).filter (fun q => kpW W q.1 q.2.1))
theorem kpW_ok {W : Wl} {σ : Nat → Int} {M M' : Mm} {j : Nat} {f : Fm} (hF : FrM W M M') (h2 : kpW W j f = true) : M' j (fv σ f).toNat = M j (fv σ f).toNat := by
  apply hF
  cases e : wOf W j (fv σ f).toNat with
  | false => rfl
  | true =>
    unfold wOf at e
    rw [List.any_eq_true] at e
    obtain ⟨u, hu, h3⟩ := e
    unfold kpW at h2
    simp only [Bool.and_eq_true, Bool.or_eq_true] at h3
    simp only [Bool.not_eq_true', List.any_eq_false] at h2
    refine absurd ?_ (h2 u hu)
    simp only [Bool.and_eq_true, Bool.or_eq_true, Bool.not_eq_true']
    refine ⟨h3.1, ?_⟩
    rcases h3.2 with h4 | h4
    · exact Or.inl h4
    · right
      cases e5 : Nat.beq f.1 0 with
      | false => exact Or.inl rfl
      | true =>
        right
        rw [fv_0 (Nat.eq_of_beq_eq_true e5)] at h4
        exact h4
theorem keepW_ok {W : Wl} {cs : CS} {σ : Nat → Int} {M M' : Mm} (h : Ok cs σ M) (hF : FrM W M M') : Ok (keepW W cs) σ M' := by
  refine ⟨h.1, fun q hq => ?_, h.2.2.1, fun q hq => ?_⟩
  · obtain ⟨h1, h2⟩ := List.mem_filter.mp hq
    obtain ⟨g1, g2, g3, g4⟩ := h.2.1 q h1
    exact ⟨g1, g2, g3, by rw [kpW_ok hF h2]; exact g4⟩
  · obtain ⟨h1, h2⟩ := List.mem_filter.mp hq
    obtain ⟨g1, g3, g4⟩ := h.2.2.2 q h1
    exact ⟨g1, g3, by rw [kpW_ok hF h2]; exact g4⟩
theorem okTT_up {M : Mm} {j s : Nat} {z : Int} (h : okTT M) (hz : (tiv j s).1 ≤ z ∧ z ≤ (tiv j s).2) : okTT (up M j s z) := by
  intro a b
  unfold up
  split
  next q => obtain ⟨rfl, rfl⟩ := q; exact hz
  next => exact h a b
