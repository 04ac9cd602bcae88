/-! a checker of intervals over the steps -/
abbrev Fm : Type := Nat × Int
abbrev Iv : Type := Int × Int
def fv (σ : Nat → Int) (f : Fm) : Int := match f.1 with
  | 0 => f.2
  | b + 1 => σ b + f.2
/-- how far named, each number as another one and a whole number, the bounds, what divides it, what cells are known, sums and differences, cells whose bounds are known -/
abbrev CS : Type := Nat × (Nat → Fm) × (Nat → Iv) × (Nat → Nat) × List (Nat × Fm × Fm) × List (Nat × Fm × Fm × Nat) × List (Nat × Fm × Iv)
def fu {α : Type} (f : Nat → α) (n : Nat) (x : α) : Nat → α := fun j => bif Nat.beq j n then x else f j
theorem fu_at {α : Type} {f : Nat → α} {n : Nat} {x : α} : fu f n x n = x := by
  unfold fu
  rw [show Nat.beq n n = true from Nat.beq_refl n]
  rfl
theorem fu_ne {α : Type} {f : Nat → α} {n j : Nat} {x : α} (h : j ≠ n) : fu f n x j = f j := by
  unfold fu
  cases e : Nat.beq j n with
  | true => exact absurd (Nat.eq_of_beq_eq_true e) h
  | false => rfl
def imax (a b : Int) : Int := bif decide (a ≤ b) then b else a
def imin (a b : Int) : Int := bif decide (a ≤ b) then a else b
theorem imax_le {a b z : Int} (h1 : a ≤ z) (h2 : b ≤ z) : imax a b ≤ z := by
  unfold imax
  cases decide (a ≤ b) <;> assumption
theorem le_imin {a b z : Int} (h1 : z ≤ a) (h2 : z ≤ b) : z ≤ imin a b := by
  unfold imin
  cases decide (a ≤ b) <;> assumption
theorem imax_l {a b : Int} : a ≤ imax a b := by
  unfold imax
  cases e : decide (a ≤ b) with
  | true => exact of_decide_eq_true e
  | false => exact Int.le_refl a
theorem imax_r {a b : Int} : b ≤ imax a b := by
  unfold imax
  cases e : decide (a ≤ b) with
  | true => exact Int.le_refl b
  | false => exact Int.le_of_lt (Int.not_le.mp (of_decide_eq_false e))
theorem imin_l {a b : Int} : imin a b ≤ a := by
  unfold imin
  cases e : decide (a ≤ b) with
  | true => exact Int.le_refl a
  | false => exact Int.le_of_lt (Int.not_le.mp (of_decide_eq_false e))
theorem imin_r {a b : Int} : imin a b ≤ b := by
  unfold imin
  cases e : decide (a ≤ b) with
  | true => exact of_decide_eq_true e
  | false => exact Int.le_refl b
/-- a number's sign is worked out now -/
def fI {α : Type} (z : Int) (k : Int → α) : α := match z with
  | .ofNat n => k (.ofNat n)
  | .negSucc n => k (.negSucc n)
theorem fI_eq {α : Type} (z : Int) (k : Int → α) : fI z k = k z := by cases z <;> rfl
def cn (cs : CS) : Nat := cs.1
def cfm (cs : CS) : Nat → Fm := cs.2.1
def civ (cs : CS) : Nat → Iv := cs.2.2.1
def cmo (cs : CS) : Nat → Nat := cs.2.2.2.1
def ckn (cs : CS) : List (Nat × Fm × Fm) := cs.2.2.2.2.1
def cdf (cs : CS) : List (Nat × Fm × Fm × Nat) := cs.2.2.2.2.2.1
def cbd (cs : CS) : List (Nat × Fm × Iv) := cs.2.2.2.2.2.2
def zs (b : Nat) (x y : Int) : Int := match b with
  | 0 => x + y
  | _ => x - y
/-- what a state of the checker says -/
def Ok (cs : CS) (σ : Nat → Int) (M : Mm) : Prop :=
  (∀ j, j < cn cs → (cfm cs j).1 ≤ cn cs ∧ fv σ (cfm cs j) = σ j ∧ ((civ cs j).1 ≤ σ j ∧ σ j ≤ (civ cs j).2) ∧ ((cmo cs j : Nat) : Int) ∣ σ j) ∧
  (∀ q ∈ ckn cs, q.2.1.1 ≤ cn cs ∧ q.2.2.1 ≤ cn cs ∧ 0 ≤ fv σ q.2.1 ∧ M q.1 (fv σ q.2.1).toNat = fv σ q.2.2) ∧
  (∀ q ∈ cdf cs, q.2.1.1 ≤ cn cs ∧ q.2.2.1.1 ≤ cn cs ∧ q.2.2.2 < cn cs ∧ σ q.2.2.2 = zs q.1 (fv σ q.2.1) (fv σ q.2.2.1)) ∧
  ∀ q ∈ cbd cs, q.2.1.1 ≤ cn cs ∧ 0 ≤ fv σ q.2.1 ∧ q.2.2.1 ≤ M q.1 (fv σ q.2.1).toNat ∧ M q.1 (fv σ q.2.1).toNat ≤ q.2.2.2
theorem fv_agree {σ τ : Nat → Int} {n : Nat} {f : Fm} (h : ∀ j, j < n → τ j = σ j) (hf : f.1 ≤ n) : fv τ f = fv σ f := by
  obtain ⟨b, c⟩ := f
  cases b with
  | zero => rfl
  | succ b => show τ b + c = σ b + c; rw [h b (by have : b + 1 ≤ n := hf; omega)]
theorem Ok.agree {cs : CS} {σ τ : Nat → Int} {M : Mm} (h : Ok cs σ M) (ht : ∀ j, j < cn cs → τ j = σ j) : Ok cs τ M := by
  obtain ⟨h1, h2, h3, h4⟩ := h
  refine ⟨fun j hj => ?_, fun q hq => ?_, fun q hq => ?_, fun q hq => ?_⟩
  · obtain ⟨a, b, c, d⟩ := h1 j hj
    rw [ht j hj, fv_agree ht a]
    exact ⟨a, b, c, d⟩
  · obtain ⟨a, b, c, d⟩ := h2 q hq
    rw [fv_agree ht a, fv_agree ht b]
    exact ⟨a, b, c, d⟩
  · obtain ⟨a, b, c, d⟩ := h3 q hq
    rw [fv_agree ht a, fv_agree ht b, ht _ c]
    exact ⟨a, b, c, d⟩
  · obtain ⟨a, b, c⟩ := h4 q hq
    rw [fv_agree ht a]
    exact ⟨a, b, c⟩
def wAb (n : Nat) (a : AV) : Bool := match a.1 with
  | 1 => Nat.blt a.2.toNat n
  | 3 => Nat.blt a.2.toNat n
  | _ => true
def af (cs : CS) (a : AV) : Fm := match a.1 with
  | 1 => cfm cs a.2.toNat
  | 3 => cfm cs a.2.toNat
  | _ => (0, a.2)
theorem blt_lt {a b : Nat} (h : Nat.blt a b = true) : a < b := by
  have := Nat.le_of_ble_eq_true h
  omega
theorem af_ok {cs : CS} {σ : Nat → Int} {M : Mm} {a : AV} (h : Ok cs σ M) (hw : wAb (cn cs) a = true) : (af cs a).1 ≤ cn cs ∧ fv σ (af cs a) = nm σ a := by
  obtain ⟨t, c⟩ := a
  match t, hw with
  | 0, _ => exact ⟨Nat.zero_le _, rfl⟩
  | 1, hw => obtain ⟨h1, h2, -, -⟩ := h.1 _ (blt_lt hw); exact ⟨h1, h2⟩
  | 2, _ => exact ⟨Nat.zero_le _, rfl⟩
  | 3, hw => obtain ⟨h1, h2, -, -⟩ := h.1 _ (blt_lt hw); exact ⟨h1, h2⟩
  | n + 4, _ => exact ⟨Nat.zero_le _, rfl⟩
def ivf (cs : CS) (f : Fm) : Iv := match f.1 with
  | 0 => (f.2, f.2)
  | b + 1 => ((civ cs b).1 + f.2, (civ cs b).2 + f.2)
theorem ivf_ok {cs : CS} {σ : Nat → Int} {M : Mm} {f : Fm} (h : Ok cs σ M) (hf : f.1 ≤ cn cs) : (ivf cs f).1 ≤ fv σ f ∧ fv σ f ≤ (ivf cs f).2 := by
  obtain ⟨b, c⟩ := f
  cases b with
  | zero => exact ⟨Int.le_refl _, Int.le_refl _⟩
  | succ b =>
    obtain ⟨-, -, h3, -⟩ := h.1 b hf
    show (civ cs b).1 + c ≤ σ b + c ∧ σ b + c ≤ (civ cs b).2 + c
    omega
/-- a new name -/
def ext (cs : CS) (F : Fm) (I : Iv) (m : Nat) : CS := (cn cs + 1, fu (cfm cs) (cn cs) F, fu (civ cs) (cn cs) I, fu (cmo cs) (cn cs) m, ckn cs, cdf cs, cbd cs)
theorem ext_n {cs : CS} {F : Fm} {I : Iv} {m : Nat} : cn (ext cs F I m) = cn cs + 1 := rfl
theorem ext_ok {cs : CS} {σ : Nat → Int} {M : Mm} {F : Fm} {I : Iv} {m : Nat} {v : Int} (h : Ok cs σ M) (hF : F.1 ≤ cn cs + 1) (hv : fv (us σ (cn cs) v) F = v) (hI : I.1 ≤ v ∧ v ≤ I.2) (hm : ((m : Nat) : Int) ∣ v) : Ok (ext cs F I m) (us σ (cn cs) v) M := by
  have h0 := h.agree (us_agree σ (cn cs) v)
  obtain ⟨h1, h2, h3, h4⟩ := h0
  refine ⟨fun j hj => ?_, fun q hq => ?_, fun q hq => ?_, fun q hq => ?_⟩
  · by_cases e : j = cn cs
    · subst e
      show (fu (cfm cs) (cn cs) F (cn cs)).1 ≤ cn cs + 1 ∧ fv _ (fu (cfm cs) (cn cs) F (cn cs)) = _ ∧ ((fu (civ cs) (cn cs) I (cn cs)).1 ≤ _ ∧ _ ≤ (fu (civ cs) (cn cs) I (cn cs)).2) ∧ ((fu (cmo cs) (cn cs) m (cn cs) : Nat) : Int) ∣ _
      rw [fu_at, fu_at, fu_at, us_at]
      exact ⟨hF, hv, hI, hm⟩
    · have hj2 : j < cn cs := by have : j < cn cs + 1 := hj; omega
      obtain ⟨a, b, c, d⟩ := h1 j hj2
      show (fu (cfm cs) (cn cs) F j).1 ≤ cn cs + 1 ∧ fv _ (fu (cfm cs) (cn cs) F j) = _ ∧ ((fu (civ cs) (cn cs) I j).1 ≤ _ ∧ _ ≤ (fu (civ cs) (cn cs) I j).2) ∧ ((fu (cmo cs) (cn cs) m j : Nat) : Int) ∣ _
      rw [fu_ne e, fu_ne e, fu_ne e]
      exact ⟨Nat.le_succ_of_le a, b, c, d⟩
  · obtain ⟨a, b, c, d⟩ := h2 q hq
    exact ⟨Nat.le_succ_of_le a, Nat.le_succ_of_le b, c, d⟩
  · obtain ⟨a, b, c, d⟩ := h3 q hq
    exact ⟨Nat.le_succ_of_le a, Nat.le_succ_of_le b, Nat.lt_succ_of_lt c, d⟩
  · obtain ⟨a, b⟩ := h4 q hq
    exact ⟨Nat.le_succ_of_le a, b⟩
def newB (cs : CS) (lo hi : Int) (m : Nat) : CS := fI lo fun lo => fI hi fun hi => ext cs (cn cs + 1, 0) (lo, hi) m
def newF (cs : CS) (f : Fm) : CS := ext cs f (ivf cs f) 1
theorem newB_n {cs : CS} {lo hi : Int} {m : Nat} : cn (newB cs lo hi m) = cn cs + 1 := by
  unfold newB
  rw [fI_eq, fI_eq]
  rfl
theorem newB_ok {cs : CS} {σ : Nat → Int} {M : Mm} {lo hi : Int} {m : Nat} {v : Int} (h : Ok cs σ M) (hI : lo ≤ v ∧ v ≤ hi) (hm : ((m : Nat) : Int) ∣ v) : Ok (newB cs lo hi m) (us σ (cn cs) v) M := by
  unfold newB
  rw [fI_eq, fI_eq]
  refine ext_ok h (Nat.le_refl _) ?_ hI hm
  show us σ (cn cs) v (cn cs) + 0 = v
  rw [us_at, Int.add_zero]
theorem newB1 {cs : CS} {σ : Nat → Int} {M : Mm} {lo hi : Int} {v : Int} (h : Ok cs σ M) (hI : lo ≤ v ∧ v ≤ hi) : Ok (newB cs lo hi 1) (us σ (cn cs) v) M := newB_ok h hI ⟨v, by simp⟩
theorem newF_ok {cs : CS} {σ : Nat → Int} {M : Mm} {f : Fm} {v : Int} (h : Ok cs σ M) (hf : f.1 ≤ cn cs) (hv : fv σ f = v) : Ok (newF cs f) (us σ (cn cs) v) M := by
  subst hv
  exact ext_ok h (Nat.le_succ_of_le hf) (fv_agree (us_agree σ (cn cs) _) hf) (ivf_ok h hf) ⟨fv σ f, by simp⟩
/-- a step that names one number -/
def Nx (cs c2 : CS) (σ : Nat → Int) (v : Int) (M : Mm) : Prop := cn c2 = cn cs + 1 ∧ Ok c2 (us σ (cn cs) v) M
theorem Nx_B {cs : CS} {σ : Nat → Int} {M : Mm} {lo hi : Int} {m : Nat} {v : Int} (h : Ok cs σ M) (hI : lo ≤ v ∧ v ≤ hi) (hm : ((m : Nat) : Int) ∣ v) : Nx cs (newB cs lo hi m) σ v M := ⟨newB_n, newB_ok h hI hm⟩
theorem Nx_1 {cs : CS} {σ : Nat → Int} {M : Mm} {lo hi : Int} {v : Int} (h : Ok cs σ M) (hI : lo ≤ v ∧ v ≤ hi) : Nx cs (newB cs lo hi 1) σ v M := ⟨newB_n, newB1 h hI⟩
theorem Nx_F {cs : CS} {σ : Nat → Int} {M : Mm} {f : Fm} {v : Int} (h : Ok cs σ M) (hf : f.1 ≤ cn cs) (hv : fv σ f = v) : Nx cs (newF cs f) σ v M := ⟨rfl, newF_ok h hf hv⟩
theorem Nx_bif {cs c2 c3 : CS} {σ : Nat → Int} {M : Mm} {v : Int} {b : Bool} (h1 : b = true → Nx cs c2 σ v M) (h2 : Nx cs c3 σ v M) : Nx cs (bif b then c2 else c3) σ v M := by
  cases b with
  | true => exact h1 rfl
  | false => exact h2
def I32 : Iv := (-2147483648, 2147483647)
def I64 : Iv := (-9223372036854775808, 9223372036854775807)
def inI (a b : Iv) : Bool := decide (b.1 ≤ a.1) && decide (a.2 ≤ b.2)
theorem inI_ok {a b : Iv} (h : inI a b = true) {z : Int} (hz : a.1 ≤ z ∧ z ≤ a.2) : b.1 ≤ z ∧ z ≤ b.2 := by
  unfold inI at h
  simp only [Bool.and_eq_true, decide_eq_true_eq] at h
  omega
def eqF (f g : Fm) : Bool := Nat.beq f.1 g.1 && decide (f.2 = g.2)
theorem eqF_ok {f g : Fm} (h : eqF f g = true) : f = g := by
  unfold eqF at h
  simp only [Bool.and_eq_true, decide_eq_true_eq] at h
  exact Prod.ext (Nat.eq_of_beq_eq_true h.1) h.2
def addDf (cs : CS) (q : Nat × Fm × Fm × Nat) : CS := (cn cs, cfm cs, civ cs, cmo cs, ckn cs, q :: cdf cs, cbd cs)
def setK (cs : CS) (l : List (Nat × Fm × Fm)) : CS := (cn cs, cfm cs, civ cs, cmo cs, l, cdf cs, cbd cs)
/-- a sum, a difference, a product -/
def nmul (c : Int) (i : Iv) : Iv := bif decide (0 ≤ c) then (c * i.1, c * i.2) else (c * i.2, c * i.1)
theorem nmul_ok {c : Int} {i : Iv} {z : Int} (h : i.1 ≤ z ∧ z ≤ i.2) : (nmul c i).1 ≤ c * z ∧ c * z ≤ (nmul c i).2 := by
  unfold nmul
  cases e : decide (0 ≤ c) with
  | true => exact ⟨Int.mul_le_mul_of_nonneg_left h.1 (of_decide_eq_true e), Int.mul_le_mul_of_nonneg_left h.2 (of_decide_eq_true e)⟩
  | false =>
    have hc : c ≤ 0 := by have := of_decide_eq_false e; omega
    exact ⟨Int.mul_le_mul_of_nonpos_left hc h.2, Int.mul_le_mul_of_nonpos_left hc h.1⟩
def arI (b : Nat) (x y : Iv) : Iv := match b with
  | 0 => (x.1 + y.1, x.2 + y.2)
  | _ => (x.1 - y.2, x.2 - y.1)
theorem arI_ok {b : Nat} {x y : Iv} {u v : Int} (hx : x.1 ≤ u ∧ u ≤ x.2) (hy : y.1 ≤ v ∧ v ≤ y.2) : (arI b x y).1 ≤ zs b u v ∧ zs b u v ≤ (arI b x y).2 := by
  cases b with
  | zero => show x.1 + y.1 ≤ u + v ∧ u + v ≤ x.2 + y.2; omega
  | succ b => show x.1 - y.2 ≤ u - v ∧ u - v ≤ x.2 - y.1; omega
/-- sum or difference, where it stays within the bounds -/
def ar2 (cs : CS) (full : Iv) (b : Nat) (fx fy : Fm) : CS := match fy.1 with
  | 0 => let f : Fm := (fx.1, zs b fx.2 fy.2); bif inI (ivf cs f) full then newF cs f else newB cs full.1 full.2 1
  | _ + 1 => bif Nat.beq b 1 && Nat.beq fx.1 fy.1 then (bif inI (fx.2 - fy.2, fx.2 - fy.2) full then newF cs (0, fx.2 - fy.2) else newB cs full.1 full.2 1)
    else bif Nat.beq b 0 && Nat.beq fx.1 0 then (let f : Fm := (fy.1, fx.2 + fy.2); bif inI (ivf cs f) full then newF cs f else newB cs full.1 full.2 1)
    else match (cdf cs).find? (fun q => Nat.beq q.1 b && (eqF q.2.1 fx && eqF q.2.2.1 fy)) with
      | some q => bif inI (ivf cs (cfm cs q.2.2.2)) full then newF cs (cfm cs q.2.2.2) else newB cs full.1 full.2 1
      | none => let q := arI b (ivf cs fx) (ivf cs fy); bif inI q full then addDf (newB cs q.1 q.2 1) (b, fx, fy, cn cs) else newB cs full.1 full.2 1
def mu2 (cs : CS) (full : Iv) (fx fy : Fm) : CS := match fx.1, fy.1 with
  | 0, _ => let q := nmul fx.2 (ivf cs fy); bif inI q full then newB cs q.1 q.2 fx.2.natAbs else newB cs full.1 full.2 1
  | _ + 1, 0 => let q := nmul fy.2 (ivf cs fx); bif inI q full then newB cs q.1 q.2 fy.2.natAbs else newB cs full.1 full.2 1
  | _ + 1, _ + 1 => newB cs full.1 full.2 1
theorem fv_0 {σ : Nat → Int} {f : Fm} (h : f.1 = 0) : fv σ f = f.2 := by
  obtain ⟨b, c⟩ := f
  obtain rfl : b = 0 := h
  rfl
theorem fv_zs {σ : Nat → Int} {b : Nat} {f : Fm} {c : Int} : fv σ (f.1, zs b f.2 c) = zs b (fv σ f) c := by
  obtain ⟨t, e⟩ := f
  cases t with
  | zero => cases b <;> rfl
  | succ t =>
    cases b with
    | zero => show σ t + (e + c) = σ t + e + c; omega
    | succ b => show σ t + (e - c) = σ t + e - c; omega
theorem ar2_ok {cs : CS} {σ : Nat → Int} {M : Mm} {full : Iv} {b : Nat} {fx fy : Fm} {v : Int} (h : Ok cs σ M) (hx : fx.1 ≤ cn cs) (hy : fy.1 ≤ cn cs) (hb : b ≤ 1) (hv : full.1 ≤ v ∧ v ≤ full.2) (he : full.1 ≤ zs b (fv σ fx) (fv σ fy) ∧ zs b (fv σ fx) (fv σ fy) ≤ full.2 → v = zs b (fv σ fx) (fv σ fy)) : Nx cs (ar2 cs full b fx fy) σ v M := by
  have hF := Nx_1 h hv
  unfold ar2
  split
  next e =>
    refine Nx_bif (fun q => ?_) hF
    have hf : ((fx.1, zs b fx.2 fy.2) : Fm).1 ≤ cn cs := hx
    have e2 : fv σ (fx.1, zs b fx.2 fy.2) = zs b (fv σ fx) (fv σ fy) := by rw [fv_zs, fv_0 e]
    have := inI_ok q (ivf_ok h hf)
    rw [e2] at this
    exact Nx_F h hf (e2.trans (he this).symm)
  next t e =>
    refine Nx_bif (fun q => ?_) (Nx_bif (fun q => ?_) ?_)
    · simp only [Bool.and_eq_true] at q
      refine Nx_bif (fun q2 => ?_) hF
      have hb1 : b = 1 := Nat.eq_of_beq_eq_true q.1
      have e1 := Nat.eq_of_beq_eq_true q.2
      subst hb1
      have e2 : fx.2 - fy.2 = zs 1 (fv σ fx) (fv σ fy) := by
        obtain ⟨bx, cx⟩ := fx
        obtain ⟨b2, c2⟩ := fy
        obtain rfl : bx = b2 := e1
        obtain rfl : bx = t + 1 := e
        show cx - c2 = (σ t + cx) - (σ t + c2)
        omega
      have := inI_ok q2 (z := fx.2 - fy.2) ⟨Int.le_refl _, Int.le_refl _⟩
      rw [e2] at this
      exact Nx_F h (Nat.zero_le _) (e2.trans (he this).symm)
    · simp only [Bool.and_eq_true] at q
      refine Nx_bif (fun q2 => ?_) hF
      have hb1 : b = 0 := Nat.eq_of_beq_eq_true q.1
      have e1 := Nat.eq_of_beq_eq_true q.2
      subst hb1
      have hf : ((fy.1, fx.2 + fy.2) : Fm).1 ≤ cn cs := hy
      have e2 : fv σ (fy.1, fx.2 + fy.2) = zs 0 (fv σ fx) (fv σ fy) := by
        rw [fv_0 e1]
        obtain ⟨b2, c2⟩ := fy
        obtain rfl : b2 = t + 1 := e
        show σ t + (fx.2 + c2) = fx.2 + (σ t + c2)
        omega
      have := inI_ok q2 (ivf_ok h hf)
      rw [e2] at this
      exact Nx_F h hf (e2.trans (he this).symm)
    · split
      next q hq =>
        have h1 := List.find?_some hq
        have h2 := List.mem_of_find?_eq_some hq
        simp only [Bool.and_eq_true] at h1
        obtain ⟨g1, g2, g3, g4⟩ := h.2.2.1 q h2
        rw [Nat.eq_of_beq_eq_true h1.1, eqF_ok h1.2.1, eqF_ok h1.2.2] at g4
        obtain ⟨k1, k2, -, -⟩ := h.1 _ g3
        refine Nx_bif (fun q2 => ?_) hF
        have := inI_ok q2 (ivf_ok h k1)
        rw [k2, g4] at this
        exact Nx_F h k1 (by rw [k2, g4, he this])
      next =>
        refine Nx_bif (fun q2 => ?_) hF
        have a1 := arI_ok (b := b) (ivf_ok h hx) (ivf_ok h hy)
        have a2 := he (inI_ok q2 a1)
        rw [← a2] at a1
        have a3 := newB1 h a1
        refine ⟨newB_n, a3.1, a3.2.1, fun q hq => ?_, a3.2.2.2⟩
        rcases List.mem_cons.mp hq with rfl | hq
        · show fx.1 ≤ cn (newB _ _ _ _) ∧ fy.1 ≤ cn (newB _ _ _ _) ∧ cn cs < cn (newB _ _ _ _) ∧ us σ (cn cs) v (cn cs) = _
          rw [newB_n, us_at]
          refine ⟨by omega, by omega, by omega, ?_⟩
          show v = zs b (fv (us σ (cn cs) v) fx) (fv (us σ (cn cs) v) fy)
          rw [fv_agree (us_agree σ (cn cs) v) hx, fv_agree (us_agree σ (cn cs) v) hy]
          exact a2
        · exact a3.2.2.1 q hq
theorem natAbs_dvd' {c z : Int} : ((c.natAbs : Nat) : Int) ∣ c * z := by
  rcases Int.natAbs_eq c with e | e
  · exact ⟨z, by rw [← e]⟩
  · exact ⟨-z, by rw [Int.mul_neg, ← Int.neg_mul, ← e]⟩
theorem mu2_ok {cs : CS} {σ : Nat → Int} {M : Mm} {full : Iv} {fx fy : Fm} {v : Int} (h : Ok cs σ M) (hx : fx.1 ≤ cn cs) (hy : fy.1 ≤ cn cs) (hv : full.1 ≤ v ∧ v ≤ full.2) (he : full.1 ≤ fv σ fx * fv σ fy ∧ fv σ fx * fv σ fy ≤ full.2 → v = fv σ fx * fv σ fy) : Nx cs (mu2 cs full fx fy) σ v M := by
  have hF := Nx_1 h hv
  unfold mu2
  split
  next e =>
    refine Nx_bif (fun q => ?_) hF
    have a1 := nmul_ok (c := fx.2) (ivf_ok h hy)
    rw [← fv_0 (σ := σ) e] at a1 q ⊢
    have a2 := he (inI_ok q a1)
    rw [← a2] at a1
    exact Nx_B h a1 (by rw [a2]; exact natAbs_dvd')
  next e =>
    refine Nx_bif (fun q => ?_) hF
    have a1 := nmul_ok (c := fy.2) (ivf_ok h hx)
    rw [← fv_0 (σ := σ) e] at a1 q ⊢
    rw [Int.mul_comm (fv σ fx)] at he
    have a2 := he (inI_ok q a1)
    rw [← a2] at a1
    exact Nx_B h a1 (by rw [a2]; exact natAbs_dvd')
  next => exact hF
def andI (full : Iv) (fx fy : Fm) : Iv := match fy.1 with
  | 0 => bif decide (0 ≤ fy.2) && decide (fy.2 ≤ full.2) then (0, fy.2) else full
  | _ + 1 => match fx.1 with
    | 0 => bif decide (0 ≤ fx.2) && decide (fx.2 ≤ full.2) then (0, fx.2) else full
    | _ + 1 => full
theorem andI_ok {full : Iv} {fx fy : Fm} {σ : Nat → Int} {v : Int} (hv : full.1 ≤ v ∧ v ≤ full.2) (hx : 0 ≤ fv σ fx → fv σ fx ≤ full.2 → 0 ≤ v ∧ v ≤ fv σ fx) (hy : 0 ≤ fv σ fy → fv σ fy ≤ full.2 → 0 ≤ v ∧ v ≤ fv σ fy) : (andI full fx fy).1 ≤ v ∧ v ≤ (andI full fx fy).2 := by
  unfold andI
  split
  next e =>
    cases e2 : decide (0 ≤ fy.2) && decide (fy.2 ≤ full.2) with
    | true =>
      simp only [Bool.and_eq_true, decide_eq_true_eq] at e2
      rw [fv_0 e] at hy
      exact hy e2.1 e2.2
    | false => exact hv
  next =>
    split
    next e =>
      cases e2 : decide (0 ≤ fx.2) && decide (fx.2 ≤ full.2) with
      | true =>
        simp only [Bool.and_eq_true, decide_eq_true_eq] at e2
        rw [fv_0 e] at hx
        exact hx e2.1 e2.2
      | false => exact hv
    next => exact hv
def ckIb (cs : CS) (b : Nat) (fx fy : Fm) : CS := match b with
  | 0 => ar2 cs I32 0 fx fy
  | 1 => ar2 cs I32 1 fx fy
  | 2 => mu2 cs I32 fx fy
  | 3 => let q := andI I32 fx fy; newB cs q.1 q.2 1
  | 7 => bif eqF fy (0, 0) && inI (ivf cs fx) I32 then newF cs fx else newB cs I32.1 I32.2 1
  | 9 => bif inI (ivf cs fx) I32 && inI (ivf cs fy) I32 then newB cs (imax (ivf cs fx).1 (ivf cs fy).1) (imax (ivf cs fx).2 (ivf cs fy).2) 1 else newB cs I32.1 I32.2 1
  | 10 => bif inI (ivf cs fx) I32 && inI (ivf cs fy) I32 then newB cs (imin (ivf cs fx).1 (ivf cs fy).1) (imin (ivf cs fx).2 (ivf cs fy).2) 1 else newB cs I32.1 I32.2 1
  | _ => newB cs I32.1 I32.2 1
def ckLb (cs : CS) (b : Nat) (fx fy : Fm) : CS := match b with
  | 0 => ar2 cs I64 0 fx fy
  | 1 => ar2 cs I64 1 fx fy
  | 2 => mu2 cs I64 fx fy
  | 3 => let q := andI I64 fx fy; newB cs q.1 q.2 1
  | _ => newB cs I64.1 I64.2 1
theorem bvl (w : Nat) (x y : BitVec w) (h : 0 ≤ y.toInt) : 0 ≤ (x &&& y).toInt ∧ (x &&& y).toInt ≤ y.toInt := by
  have hm : y.msb = false := by
    cases e : y.msb with
    | false => rfl
    | true => have := BitVec.toInt_neg_of_msb_true e; omega
  have hm2 : (x &&& y).msb = false := by rw [BitVec.msb_and, hm, Bool.and_false]
  rw [BitVec.toInt_eq_toNat_of_msb hm, BitVec.toInt_eq_toNat_of_msb hm2, BitVec.toNat_and]
  have := Nat.and_le_right (n := x.toNat) (m := y.toNat)
  omega
theorem and32 {x y : Int} (hy : in32 y) (h : 0 ≤ y) : 0 ≤ ib 3 x y ∧ ib 3 x y ≤ y := by
  have e : (Int32.ofInt y).toBitVec.toInt = y := i32_to hy
  have := bvl 32 (Int32.ofInt x).toBitVec (Int32.ofInt y).toBitVec (by rw [e]; exact h)
  rw [e] at this
  exact this
theorem and32' {x y : Int} (hx : in32 x) (h : 0 ≤ x) : 0 ≤ ib 3 x y ∧ ib 3 x y ≤ x := by
  have := and32 (x := y) hx h
  have e : ib 3 x y = ib 3 y x := by show (_ &&& _ : Int32).toInt = (_ &&& _ : Int32).toInt; rw [Int32.and_comm]
  rw [e]
  exact this
theorem and64 {x y : Int} (hy : in64 y) (h : 0 ≤ y) : 0 ≤ lb 3 x y ∧ lb 3 x y ≤ y := by
  have e : (Int64.ofInt y).toBitVec.toInt = y := i64_to hy
  have := bvl 64 (Int64.ofInt x).toBitVec (Int64.ofInt y).toBitVec (by rw [e]; exact h)
  rw [e] at this
  exact this
theorem and64' {x y : Int} (hx : in64 x) (h : 0 ≤ x) : 0 ≤ lb 3 x y ∧ lb 3 x y ≤ x := by
  have := and64 (x := y) hx h
  have e : lb 3 x y = lb 3 y x := by show (_ &&& _ : Int64).toInt = (_ &&& _ : Int64).toInt; rw [Int64.and_comm]
  rw [e]
  exact this
theorem ib_in (b : Nat) (x y : Int) : in32 (ib b x y) := by
  unfold ib
  split <;> exact i32_r _
theorem lb_in (b : Nat) (x y : Int) : in64 (lb b x y) := by
  unfold lb
  split <;> exact i64_r _
theorem sb_in (b : Nat) (x y : Int) : in64 (sb b x y) := by
  unfold sb
  split <;> exact i64_r _
theorem mx32 {x y : Int} (hx : in32 x) (hy : in32 y) : ib 9 x y = (if x < y then y else x) := by
  show (if Int32.ofInt x < Int32.ofInt y then Int32.ofInt y else Int32.ofInt x).toInt = _
  have e : Int32.ofInt x < Int32.ofInt y ↔ x < y := by rw [Int32.lt_iff_toInt_lt, i32_to hx, i32_to hy]
  by_cases h : x < y
  · rw [if_pos h, if_pos (e.mpr h), i32_to hy]
  · rw [if_neg h, if_neg (fun q => h (e.mp q)), i32_to hx]
theorem mn32 {x y : Int} (hx : in32 x) (hy : in32 y) : ib 10 x y = (if y < x then y else x) := by
  show (if Int32.ofInt y < Int32.ofInt x then Int32.ofInt y else Int32.ofInt x).toInt = _
  have e : Int32.ofInt y < Int32.ofInt x ↔ y < x := by rw [Int32.lt_iff_toInt_lt, i32_to hx, i32_to hy]
  by_cases h : y < x
  · rw [if_pos h, if_pos (e.mpr h), i32_to hy]
  · rw [if_neg h, if_neg (fun q => h (e.mp q)), i32_to hx]
theorem sh0 {x : Int} (h : in32 x) : ib 7 x 0 = x := by
  show (Int32.ofInt x >>> (Int32.ofInt 0 &&& 31)).toInt = x
  have e : (Int32.ofInt 0 &&& 31 : Int32) = 0 := by decide
  rw [e]
  have : (Int32.ofInt x >>> (0 : Int32)) = Int32.ofInt x := by simp
  rw [this]
  exact i32_to h
theorem ckIb_ok {cs : CS} {σ : Nat → Int} {M : Mm} {b : Nat} {fx fy : Fm} (h : Ok cs σ M) (hx : fx.1 ≤ cn cs) (hy : fy.1 ≤ cn cs) : Nx cs (ckIb cs b fx fy) σ (ib b (fv σ fx) (fv σ fy)) M := by
  have hv := ib_in b (fv σ fx) (fv σ fy)
  unfold ckIb
  split
  · refine ar2_ok h hx hy (by decide) hv fun q => ?_
    show (Int32.ofInt _ + Int32.ofInt _).toInt = _
    rw [← Int32.ofInt_add]
    exact i32_to q
  · refine ar2_ok h hx hy (by decide) hv fun q => ?_
    show (Int32.ofInt _ - Int32.ofInt _).toInt = _
    rw [← Int32.ofInt_sub]
    exact i32_to q
  · refine mu2_ok h hx hy hv fun q => ?_
    show (Int32.ofInt _ * Int32.ofInt _).toInt = _
    rw [← Int32.ofInt_mul]
    exact i32_to q
  · refine Nx_1 h (andI_ok hv (fun a b => and32' ⟨by omega, b⟩ a) (fun a b => and32 ⟨by omega, b⟩ a))
  · refine Nx_bif (fun q => ?_) (Nx_1 h hv)
    simp only [Bool.and_eq_true] at q
    rw [eqF_ok q.1]
    exact Nx_F h hx (sh0 (inI_ok q.2 (ivf_ok h hx))).symm
  · refine Nx_bif (fun q => ?_) (Nx_1 h hv)
    simp only [Bool.and_eq_true] at q
    have bx := ivf_ok h hx
    have gy := ivf_ok h hy
    have rx := inI_ok q.1 bx
    have ry := inI_ok q.2 gy
    refine Nx_1 h ?_
    rw [mx32 rx ry]
    have m1 := @imax_l (ivf cs fx).2 (ivf cs fy).2
    have m2 := @imax_r (ivf cs fx).2 (ivf cs fy).2
    split
    · exact ⟨imax_le (by omega) (by omega), by omega⟩
    · exact ⟨imax_le (by omega) (by omega), by omega⟩
  · refine Nx_bif (fun q => ?_) (Nx_1 h hv)
    simp only [Bool.and_eq_true] at q
    have bx := ivf_ok h hx
    have gy := ivf_ok h hy
    have rx := inI_ok q.1 bx
    have ry := inI_ok q.2 gy
    refine Nx_1 h ?_
    rw [mn32 rx ry]
    have m1 := @imin_l (ivf cs fx).1 (ivf cs fy).1
    have m2 := @imin_r (ivf cs fx).1 (ivf cs fy).1
    split
    · exact ⟨by omega, le_imin (by omega) (by omega)⟩
    · exact ⟨by omega, le_imin (by omega) (by omega)⟩
  · exact Nx_1 h hv
theorem ckLb_ok {cs : CS} {σ : Nat → Int} {M : Mm} {b : Nat} {fx fy : Fm} (h : Ok cs σ M) (hx : fx.1 ≤ cn cs) (hy : fy.1 ≤ cn cs) : Nx cs (ckLb cs b fx fy) σ (lb b (fv σ fx) (fv σ fy)) M := by
  have hv := lb_in b (fv σ fx) (fv σ fy)
  unfold ckLb
  split
  · refine ar2_ok h hx hy (by decide) hv fun q => ?_
    show (Int64.ofInt _ + Int64.ofInt _).toInt = _
    rw [← Int64.ofInt_add]
    exact i64_to q
  · refine ar2_ok h hx hy (by decide) hv fun q => ?_
    show (Int64.ofInt _ - Int64.ofInt _).toInt = _
    rw [← Int64.ofInt_sub]
    exact i64_to q
  · refine mu2_ok h hx hy hv fun q => ?_
    show (Int64.ofInt _ * Int64.ofInt _).toInt = _
    rw [← Int64.ofInt_mul]
    exact i64_to q
  · refine Nx_1 h (andI_ok hv (fun a b => and64' ⟨by omega, b⟩ a) (fun a b => and64 ⟨by omega, b⟩ a))
  · exact Nx_1 h hv
theorem lo_in {x : Int} (h : in32 x) : lo32 x = x := by
  show (Int64.ofInt x).toInt32.toInt = x
  have h64 : in64 x := ⟨by have := h.1; omega, by have := h.2; omega⟩
  rw [Int64.toInt_toInt32, i64_to h64, Int.bmod_eq_of_le (by have := h.1; omega) (by have := h.2; omega)]
theorem cb_in (x : Int) : 0 ≤ cb x ∧ cb x ≤ 65535 := by
  unfold cb
  have e : ((Int32.ofInt x).toUInt32 % 65536).toNat < 65536 := by
    rw [UInt32.toNat_mod]
    exact Nat.mod_lt _ (by decide)
  have e2 : ((Int32.ofInt x).toUInt32 % 65536).toInt32.toInt = (((Int32.ofInt x).toUInt32 % 65536).toNat : Int) := by
    show BitVec.toInt ((Int32.ofInt x).toUInt32 % 65536).toBitVec = _
    have : ((Int32.ofInt x).toUInt32 % 65536).toBitVec.toNat < 65536 := e
    rw [BitVec.toInt_eq_toNat_of_lt (by omega)]
    rfl
  rw [e2]
  omega
