/-! what is known of methods: arguments, the answer's bounds, what may be written, depth -/
abbrev Pat : Type := Nat × Int × Int
/-- a field with bounds, and one way to come back: the answer's bounds, fields with theirs -/
abbrev Fl : Type := Nat × Nat × Int × Int
abbrev Out : Type := Iv × List Fl
abbrev Spec : Type := Nat × List Pat × List Out × Wl × Nat
def patV (p : Pat) (v : V) : Prop := match p.1 with
  | 0 => ∃ z, v = vI z ∧ p.2.1 ≤ z ∧ z ≤ p.2.2
  | 1 => ∃ z, v = vL z ∧ p.2.1 ≤ z ∧ z ≤ p.2.2
  | t + 2 => v = vR t p.2.1.toNat
def patsV : List Pat → List V → Prop
  | [], [] => True
  | p :: ps, v :: vs => patV p v ∧ patsV ps vs
  | _, _ => False
def patA (cs : CS) (p : Pat) (a : AV) : Bool := match p.1 with
  | 0 => isI a && (wAb (cn cs) a && inI (ivf cs (af cs a)) (p.2.1, p.2.2))
  | 1 => isL a && (wAb (cn cs) a && inI (ivf cs (af cs a)) (p.2.1, p.2.2))
  | t + 2 => Nat.beq a.1 (t + 4) && decide (a.2 = p.2.1)
def patsA (cs : CS) : List Pat → List AV → Bool
  | [], [] => true
  | p :: ps, a :: as => patA cs p a && patsA cs ps as
  | _, _ => false
theorem patA_ok {cs : CS} {σ : Nat → Int} {M : Mm} {p : Pat} {a : AV} (h : Ok cs σ M) (hp : patA cs p a = true) : patV p (ev σ a) := by
  obtain ⟨t, lo, hi⟩ := p
  match t, hp with
  | 0, hp =>
    have hp : (isI a && (wAb (cn cs) a && inI (ivf cs (af cs a)) (lo, hi))) = true := hp
    simp only [Bool.and_eq_true] at hp
    obtain ⟨a1, a2⟩ := af_ok h hp.2.1
    have b := inI_ok hp.2.2 (ivf_ok h a1)
    rw [a2] at b
    exact ⟨nm σ a, ev_I hp.1, b.1, b.2⟩
  | 1, hp =>
    have hp : (isL a && (wAb (cn cs) a && inI (ivf cs (af cs a)) (lo, hi))) = true := hp
    simp only [Bool.and_eq_true] at hp
    obtain ⟨a1, a2⟩ := af_ok h hp.2.1
    have b := inI_ok hp.2.2 (ivf_ok h a1)
    rw [a2] at b
    exact ⟨nm σ a, ev_L hp.1, b.1, b.2⟩
  | t + 2, hp =>
    have hp : (Nat.beq a.1 (t + 4) && decide (a.2 = lo)) = true := hp
    simp only [Bool.and_eq_true, decide_eq_true_eq] at hp
    obtain ⟨u, c⟩ := a
    obtain rfl : u = t + 4 := Nat.eq_of_beq_eq_true hp.1
    obtain rfl : c = lo := hp.2
    rfl
theorem patsA_ok {cs : CS} {σ : Nat → Int} {M : Mm} (h : Ok cs σ M) : ∀ {ps : List Pat} {as : List AV}, patsA cs ps as = true → patsV ps (as.map (ev σ)) := by
  intro ps
  induction ps with
  | nil => intro as hp; cases as with
    | nil => trivial
    | cons a as => cases hp
  | cons p ps ih => intro as hp; cases as with
    | nil => cases hp
    | cons a as =>
      have hp : (patA cs p a && patsA cs ps as) = true := hp
      simp only [Bool.and_eq_true] at hp
      exact ⟨patA_ok h hp.1, ih hp.2⟩
/-! a measure that falls -/
abbrev Lin : Type := Int × Fm × Int
def linV (σ : Nat → Int) (e : Lin) : Int := e.1 * fv σ e.2.1 + e.2.2
def linI (cs : CS) (e : Lin) : Iv := let q := nmul e.1 (ivf cs e.2.1); (q.1 + e.2.2, q.2 + e.2.2)
def linS (e : Lin) : Lin := (e.1, (e.2.1.1, 0), e.2.2 + e.1 * e.2.1.2)
def ltL (cs : CS) (a b : Lin) : Bool :=
  let x := linS a
  let y := linS b
  (decide (x.1 = y.1) && ((decide (x.1 = 0) || Nat.beq x.2.1.1 y.2.1.1) && decide (x.2.2 < y.2.2))) || decide ((linI cs a).2 < (linI cs b).1)
def eqL (a b : Lin) : Bool :=
  let x := linS a
  let y := linS b
  decide (x.1 = y.1) && ((decide (x.1 = 0) || Nat.beq x.2.1.1 y.2.1.1) && decide (x.2.2 = y.2.2))
def lexL (cs : CS) : List Lin → List Lin → Bool
  | a :: as, b :: bs => ltL cs a b || (eqL a b && lexL cs as bs)
  | _, _ => false
def bdL (cs : CS) (e : Lin) : Bool := inI (linI cs e) (0, 1099511627775)
theorem linI_ok {cs : CS} {σ : Nat → Int} {M : Mm} {e : Lin} (h : Ok cs σ M) (he : e.2.1.1 ≤ cn cs) : (linI cs e).1 ≤ linV σ e ∧ linV σ e ≤ (linI cs e).2 := by
  have := nmul_ok (c := e.1) (ivf_ok h he)
  unfold linI linV
  dsimp only
  omega
theorem fv_split {σ : Nat → Int} {f : Fm} : fv σ f = fv σ (f.1, 0) + f.2 := by
  obtain ⟨b, c⟩ := f
  cases b with
  | zero => show c = 0 + c; omega
  | succ b => show σ b + c = σ b + 0 + c; omega
theorem linS_ok {σ : Nat → Int} {e : Lin} : linV σ (linS e) = linV σ e := by
  show e.1 * fv σ (e.2.1.1, 0) + (e.2.2 + e.1 * e.2.1.2) = e.1 * fv σ e.2.1 + e.2.2
  rw [fv_split (f := e.2.1), Int.mul_add]
  omega
theorem linN {σ : Nat → Int} {x y : Lin} (h1 : x.1 = y.1) (h2 : x.1 = 0 ∨ x.2.1.1 = y.2.1.1) (hx : x.2.1.2 = 0) (hy : y.2.1.2 = 0) : linV σ x - x.2.2 = linV σ y - y.2.2 := by
  obtain ⟨a, ⟨b, c⟩, d⟩ := x
  obtain ⟨a2, ⟨b2, c2⟩, d2⟩ := y
  obtain rfl : a = a2 := h1
  obtain rfl : c = 0 := hx
  obtain rfl : c2 = 0 := hy
  show a * fv σ (b, 0) + d - d = a * fv σ (b2, 0) + d2 - d2
  rcases h2 with h2 | h2
  · obtain rfl : a = 0 := h2
    rw [Int.zero_mul, Int.zero_mul]
    omega
  · obtain rfl : b = b2 := h2
    omega
theorem ltL_ok {cs : CS} {σ : Nat → Int} {M : Mm} {a b : Lin} (h : Ok cs σ M) (ha : a.2.1.1 ≤ cn cs) (hb : b.2.1.1 ≤ cn cs) (hl : ltL cs a b = true) : linV σ a < linV σ b := by
  unfold ltL at hl
  simp only [Bool.and_eq_true, Bool.or_eq_true, decide_eq_true_eq] at hl
  rcases hl with ⟨h1, h2, h3⟩ | h1
  · have := linN (σ := σ) h1 (h2.imp id Nat.eq_of_beq_eq_true) rfl rfl
    rw [linS_ok, linS_ok] at this
    omega
  · have e1 := linI_ok h ha
    have e2 := linI_ok h hb
    omega
theorem eqL_ok {σ : Nat → Int} {a b : Lin} (hl : eqL a b = true) : linV σ a = linV σ b := by
  unfold eqL at hl
  simp only [Bool.and_eq_true, Bool.or_eq_true, decide_eq_true_eq] at hl
  obtain ⟨h1, h2, h3⟩ := hl
  have := linN (σ := σ) h1 (h2.imp id Nat.eq_of_beq_eq_true) rfl rfl
  rw [linS_ok, linS_ok] at this
  omega
def tot : List Int → Nat
  | [] => 0
  | z :: l => z.toNat * 1099511627776 ^ l.length + tot l
theorem tot_lt : ∀ {l : List Int}, (∀ z ∈ l, 0 ≤ z ∧ z ≤ 1099511627775) → tot l < 1099511627776 ^ l.length := by
  intro l
  induction l with
  | nil => intro _; exact Nat.one_pos
  | cons z l ih =>
    intro h
    have h1 := ih (fun y hy => h y (List.mem_cons_of_mem _ hy))
    have h2 := h z List.mem_cons_self
    show z.toNat * 1099511627776 ^ l.length + tot l < 1099511627776 ^ (l.length + 1)
    rw [Nat.pow_succ, Nat.mul_comm (1099511627776 ^ l.length)]
    have h3 : (z.toNat + 1) * 1099511627776 ^ l.length ≤ 1099511627776 * 1099511627776 ^ l.length := Nat.mul_le_mul_right _ (by omega)
    rw [Nat.add_mul, Nat.one_mul] at h3
    omega
theorem lexL_ok {cs : CS} {σ : Nat → Int} {M : Mm} (h : Ok cs σ M) : ∀ {as bs : List Lin}, (∀ e ∈ as, e.2.1.1 ≤ cn cs ∧ bdL cs e = true) → (∀ e ∈ bs, e.2.1.1 ≤ cn cs ∧ bdL cs e = true) → as.length = bs.length → lexL cs as bs = true → tot (as.map (linV σ)) < tot (bs.map (linV σ)) := by
  intro as
  have bd : ∀ {e : Lin}, e.2.1.1 ≤ cn cs → bdL cs e = true → 0 ≤ linV σ e ∧ linV σ e ≤ 1099511627775 := fun h1 h2 => inI_ok h2 (linI_ok h h1)
  induction as with
  | nil => intro bs _ _ _ hl; cases bs <;> cases hl
  | cons a as ih =>
    intro bs ha hb hlen hl
    cases bs with
    | nil => cases hl
    | cons b bs =>
      have hlen2 : as.length = bs.length := by simpa using hlen
      have ha1 := ha a List.mem_cons_self
      have hb1 := hb b List.mem_cons_self
      have hl : (ltL cs a b || (eqL a b && lexL cs as bs)) = true := hl
      show (linV σ a).toNat * 1099511627776 ^ (as.map (linV σ)).length + tot (as.map (linV σ)) < (linV σ b).toNat * 1099511627776 ^ (bs.map (linV σ)).length + tot (bs.map (linV σ))
      rw [List.length_map, List.length_map, hlen2]
      simp only [Bool.or_eq_true, Bool.and_eq_true] at hl
      rcases hl with h1 | h1
      · have q := ltL_ok h ha1.1 hb1.1 h1
        have ra := bd ha1.1 ha1.2
        have t := tot_lt (l := as.map (linV σ)) (fun z hz => by
          obtain ⟨e, he, rfl⟩ := List.mem_map.mp hz
          have := ha e (List.mem_cons_of_mem _ he)
          exact bd this.1 this.2)
        rw [List.length_map, hlen2] at t
        have h3 : ((linV σ a).toNat + 1) * 1099511627776 ^ bs.length ≤ (linV σ b).toNat * 1099511627776 ^ bs.length := Nat.mul_le_mul_right _ (by omega)
        rw [Nat.add_mul, Nat.one_mul] at h3
        omega
      · rw [eqL_ok (σ := σ) h1.1]
        have := ih (fun e he => ha e (List.mem_cons_of_mem _ he)) (fun e he => hb e (List.mem_cons_of_mem _ he)) hlen2 h1.2
        omega
/-! a marked place: locals, their patterns, fields that are followed with their bounds, what falls, sums and differences with their bounds -/
abbrev Df : Type := Nat × Nat × Nat × Int × Int
abbrev Cut : Type := Nat × List Nat × List Pat × List Fl × List (Int × Nat × Int) × List Df
def avF (cs : CS) (a : AV) : Fm := bif isI a || isL a then af cs a else (0, 0)
def fldF (cs : CS) : List Fl → Option (List Fm)
  | [] => some []
  | q :: l => match kfind cs q.1 (0, (q.2.1 : Int)), fldF cs l with
    | some f, some fs => bif inI (ivf cs f) (q.2.2.1, q.2.2.2) then some (f :: fs) else none
    | _, _ => none
def meas (fs : List Fm) (ms : List (Int × Nat × Int)) : List Lin := ms.map (fun q => (q.1, fs.getD q.2.1 (0, 0), q.2.2))
def frF (cs : CS) (c : Cut) (as : List AV) : Option (List Fm) := match fldF cs c.2.2.2.1 with
  | some fs => some (as.map (avF cs) ++ fs)
  | none => none
/-- the same in numbers -/
def flV (c : Cut) (M : Mm) : Prop := ∀ q ∈ c.2.2.2.1, q.2.2.1 ≤ M q.1 q.2.1 ∧ M q.1 q.2.1 ≤ q.2.2.2
def vsV (c : Cut) (vs : List V) (M : Mm) : List Int := vs.map (fun v => oz (some v)) ++ c.2.2.2.1.map (fun q => M q.1 q.2.1)
def msV (c : Cut) (vs : List V) (M : Mm) : Nat := tot (c.2.2.2.2.1.map (fun q => q.1 * (vsV c vs M).getD q.2.1 0 + q.2.2))
def dfV (c : Cut) (vs : List V) (M : Mm) : Prop := ∀ d ∈ c.2.2.2.2.2, d.2.2.2.1 ≤ zs d.1 ((vsV c vs M).getD d.2.1 0) ((vsV c vs M).getD d.2.2.1 0) ∧ zs d.1 ((vsV c vs M).getD d.2.1 0) ((vsV c vs M).getD d.2.2.1 0) ≤ d.2.2.2.2
theorem avF_ok {cs : CS} {σ : Nat → Int} {M : Mm} {a : AV} (h : Ok cs σ M) (hw : wAb (cn cs) a = true) : (avF cs a).1 ≤ cn cs ∧ fv σ (avF cs a) = oz (some (ev σ a)) := by
  obtain ⟨a1, a2⟩ := af_ok h hw
  unfold avF
  cases e : isI a with
  | true =>
    rw [ev_I e]
    exact ⟨a1, a2⟩
  | false =>
    cases e2 : isL a with
    | true =>
      rw [ev_L e2]
      exact ⟨a1, a2⟩
    | false =>
      refine ⟨Nat.zero_le _, ?_⟩
      obtain ⟨t, c⟩ := a
      match t, e, e2 with
      | n + 4, _, _ => rfl
theorem fldF_ok {cs : CS} {σ : Nat → Int} {M : Mm} (h : Ok cs σ M) : ∀ {l : List Fl} {fs : List Fm}, fldF cs l = some fs → (∀ f ∈ fs, f.1 ≤ cn cs) ∧ fs.map (fv σ) = l.map (fun q => M q.1 q.2.1) ∧ ∀ q ∈ l, q.2.2.1 ≤ M q.1 q.2.1 ∧ M q.1 q.2.1 ≤ q.2.2.2 := by
  intro l
  induction l with
  | nil => intro fs hf; obtain rfl := Option.some.inj hf; exact ⟨fun f hf => (by cases hf), rfl, fun q hq => (by cases hq)⟩
  | cons q l ih =>
    intro fs hf
    unfold fldF at hf
    split at hf
    next f fs' hk hl =>
      obtain ⟨k1, k2⟩ := kfind_ok h hk
      have k2 : M q.1 ((q.2.1 : Int)).toNat = fv σ f := k2
      rw [Int.toNat_natCast] at k2
      obtain ⟨i1, i2, i3⟩ := ih hl
      cases e : inI (ivf cs f) (q.2.2.1, q.2.2.2) with
      | false => rw [e] at hf; cases hf
      | true =>
        rw [e] at hf
        obtain rfl := Option.some.inj hf
        have b := inI_ok e (ivf_ok h k1)
        rw [← k2] at b
        refine ⟨List.forall_mem_cons.mpr ⟨k1, i1⟩, ?_, List.forall_mem_cons.mpr ⟨b, i3⟩⟩
        rw [List.map_cons, List.map_cons, i2, k2]
    next => cases hf
theorem frF_ok {cs : CS} {σ : Nat → Int} {M : Mm} {c : Cut} {as : List AV} {fs : List Fm} (h : Ok cs σ M) (hw : ∀ a ∈ as, wAb (cn cs) a = true) (hm : frF cs c as = some fs) : (∀ f ∈ fs, f.1 ≤ cn cs) ∧ (∀ n : Nat, (fs.getD n (0, 0)).1 ≤ cn cs ∧ fv σ (fs.getD n (0, 0)) = (vsV c (as.map (ev σ)) M).getD n 0) ∧ flV c M := by
  unfold frF at hm
  split at hm
  next gs hf =>
    obtain ⟨f1, f2, f3⟩ := fldF_ok h hf
    obtain rfl := Option.some.inj hm
    have hall : ∀ f ∈ as.map (avF cs) ++ gs, f.1 ≤ cn cs := by
      intro f hf
      rcases List.mem_append.mp hf with hf | hf
      · obtain ⟨a, ha, rfl⟩ := List.mem_map.mp hf
        exact (avF_ok h (hw a ha)).1
      · exact f1 f hf
    have hmap : (as.map (avF cs) ++ gs).map (fv σ) = vsV c (as.map (ev σ)) M := by
      unfold vsV
      rw [List.map_append, f2, List.map_map, List.map_map]
      congr 1
      exact List.map_congr_left fun a ha => (avF_ok h (hw a ha)).2
    refine ⟨hall, fun n => ⟨?_, ?_⟩, f3⟩
    · rw [List.getD_eq_getElem?_getD]
      cases e3 : (as.map (avF cs) ++ gs)[n]? with
      | none => exact Nat.zero_le _
      | some f => exact hall f (List.mem_of_getElem? e3)
    · rw [← hmap, List.getD_eq_getElem?_getD, List.getD_eq_getElem?_getD, List.getElem?_map]
      cases (as.map (avF cs) ++ gs)[n]? <;> rfl
  next => cases hm
theorem meas_ok {cs : CS} {σ : Nat → Int} {M : Mm} {c : Cut} {as : List AV} {fs : List Fm} (h : Ok cs σ M) (hw : ∀ a ∈ as, wAb (cn cs) a = true) (hm : frF cs c as = some fs) (hb : (meas fs c.2.2.2.2.1).all (bdL cs) = true) : (∀ e ∈ meas fs c.2.2.2.2.1, e.2.1.1 ≤ cn cs ∧ bdL cs e = true) ∧ tot ((meas fs c.2.2.2.2.1).map (linV σ)) = msV c (as.map (ev σ)) M := by
  obtain ⟨-, g, -⟩ := frF_ok h hw hm
  rw [List.all_eq_true] at hb
  refine ⟨fun u hu => ⟨?_, hb u hu⟩, ?_⟩
  · obtain ⟨q, hq, rfl⟩ := List.mem_map.mp hu
    exact (g q.2.1).1
  · unfold msV meas
    rw [List.map_map]
    congr 1
    refine List.map_congr_left fun q hq => ?_
    show q.1 * fv σ _ + q.2.2 = _
    rw [(g q.2.1).2]
/-! sums and differences at a marked place -/
def dfI (cs : CS) (b : Nat) (f g : Fm) : Iv := match (cdf cs).find? (fun q => Nat.beq q.1 b && (Nat.beq q.2.1.1 f.1 && Nat.beq q.2.2.1.1 g.1)) with
  | some q => let i := ivf cs (cfm cs q.2.2.2); let c := zs b (f.2 - q.2.1.2) (g.2 - q.2.2.1.2); (i.1 + c, i.2 + c)
  | none => bif Nat.beq b 1 && Nat.beq f.1 g.1 then (f.2 - g.2, f.2 - g.2) else arI b (ivf cs f) (ivf cs g)
def dfB (cs : CS) (fs : List Fm) (d : Df) : Bool := inI (dfI cs d.1 (fs.getD d.2.1 (0, 0)) (fs.getD d.2.2.1 (0, 0))) (d.2.2.2.1, d.2.2.2.2)
theorem fv_base {σ : Nat → Int} {f g : Fm} (h : f.1 = g.1) : fv σ g = fv σ f + (g.2 - f.2) := by
  have a := fv_split (σ := σ) (f := f)
  have b := fv_split (σ := σ) (f := g)
  rw [h] at a
  omega
theorem dfI_ok {cs : CS} {σ : Nat → Int} {M : Mm} {b : Nat} {f g : Fm} (h : Ok cs σ M) (hf : f.1 ≤ cn cs) (hg : g.1 ≤ cn cs) : (dfI cs b f g).1 ≤ zs b (fv σ f) (fv σ g) ∧ zs b (fv σ f) (fv σ g) ≤ (dfI cs b f g).2 := by
  unfold dfI
  split
  next q hq =>
    have h1 := List.find?_some hq
    have h2 := List.mem_of_find?_eq_some hq
    simp only [Bool.and_eq_true] at h1
    obtain ⟨g1, g2, g3, g4⟩ := h.2.2.1 q h2
    obtain ⟨k1, k2, -, -⟩ := h.1 _ g3
    have i := ivf_ok h k1
    rw [k2, g4, Nat.eq_of_beq_eq_true h1.1] at i
    have e1 := fv_base (σ := σ) (Nat.eq_of_beq_eq_true h1.2.1)
    have e2 := fv_base (σ := σ) (Nat.eq_of_beq_eq_true h1.2.2)
    dsimp only
    cases b with
    | zero =>
      have i : (ivf cs (cfm cs q.2.2.2)).1 ≤ fv σ q.2.1 + fv σ q.2.2.1 ∧ fv σ q.2.1 + fv σ q.2.2.1 ≤ (ivf cs (cfm cs q.2.2.2)).2 := i
      show (ivf cs (cfm cs q.2.2.2)).1 + ((f.2 - q.2.1.2) + (g.2 - q.2.2.1.2)) ≤ fv σ f + fv σ g ∧ fv σ f + fv σ g ≤ (ivf cs (cfm cs q.2.2.2)).2 + ((f.2 - q.2.1.2) + (g.2 - q.2.2.1.2))
      omega
    | succ b =>
      have i : (ivf cs (cfm cs q.2.2.2)).1 ≤ fv σ q.2.1 - fv σ q.2.2.1 ∧ fv σ q.2.1 - fv σ q.2.2.1 ≤ (ivf cs (cfm cs q.2.2.2)).2 := i
      show (ivf cs (cfm cs q.2.2.2)).1 + ((f.2 - q.2.1.2) - (g.2 - q.2.2.1.2)) ≤ fv σ f - fv σ g ∧ fv σ f - fv σ g ≤ (ivf cs (cfm cs q.2.2.2)).2 + ((f.2 - q.2.1.2) - (g.2 - q.2.2.1.2))
      omega
  next =>
    cases e : Nat.beq b 1 && Nat.beq f.1 g.1 with
    | true =>
      rw [Bool.and_eq_true] at e
      obtain rfl : b = 1 := Nat.eq_of_beq_eq_true e.1
      have := fv_base (σ := σ) (Nat.eq_of_beq_eq_true e.2)
      show f.2 - g.2 ≤ fv σ f - fv σ g ∧ fv σ f - fv σ g ≤ f.2 - g.2
      omega
    | false => exact arI_ok (ivf_ok h hf) (ivf_ok h hg)
def stD (fs : List Fm) : List Df → CS → CS
  | [], cs => cs
  | d :: l, cs => stD fs l (addDf (newB cs d.2.2.2.1 d.2.2.2.2 1) (d.1, fs.getD d.2.1 (0, 0), fs.getD d.2.2.1 (0, 0), cn cs))
theorem stD_ok {M : Mm} {fs : List Fm} : ∀ {l : List Df} {cs : CS} {σ : Nat → Int}, (∀ n : Nat, (fs.getD n (0, 0)).1 ≤ cn cs) → (∀ d ∈ l, d.2.2.2.1 ≤ zs d.1 (fv σ (fs.getD d.2.1 (0, 0))) (fv σ (fs.getD d.2.2.1 (0, 0))) ∧ zs d.1 (fv σ (fs.getD d.2.1 (0, 0))) (fv σ (fs.getD d.2.2.1 (0, 0))) ≤ d.2.2.2.2) → Ok cs σ M → ∃ τ, (∀ j, j < cn cs → τ j = σ j) ∧ Ok (stD fs l cs) τ M ∧ cn cs ≤ cn (stD fs l cs) := by
  intro l
  induction l with
  | nil => intro cs σ _ _ h; exact ⟨σ, fun _ _ => rfl, h, Nat.le_refl _⟩
  | cons d l ih =>
    intro cs σ hn hl h
    have hd := hl d List.mem_cons_self
    generalize hv : zs d.1 (fv σ (fs.getD d.2.1 (0, 0))) (fv σ (fs.getD d.2.2.1 (0, 0))) = v at hd
    have a := newB1 h hd
    have ag := fun n => fv_agree (us_agree σ (cn cs) v) (hn n)
    have b : Ok (addDf (newB cs d.2.2.2.1 d.2.2.2.2 1) (d.1, fs.getD d.2.1 (0, 0), fs.getD d.2.2.1 (0, 0), cn cs)) (us σ (cn cs) v) M := by
      refine ⟨a.1, a.2.1, fun q hq => ?_, a.2.2.2⟩
      rcases List.mem_cons.mp hq with rfl | hq
      · show (fs.getD d.2.1 (0, 0)).1 ≤ cn (newB _ _ _ _) ∧ (fs.getD d.2.2.1 (0, 0)).1 ≤ cn (newB _ _ _ _) ∧ cn cs < cn (newB _ _ _ _) ∧ us σ (cn cs) v (cn cs) = zs d.1 (fv (us σ (cn cs) v) (fs.getD d.2.1 (0, 0))) (fv (us σ (cn cs) v) (fs.getD d.2.2.1 (0, 0)))
        rw [newB_n, us_at, ag, ag, hv]
        exact ⟨Nat.le_succ_of_le (hn _), Nat.le_succ_of_le (hn _), Nat.lt_succ_self _, rfl⟩
      · exact a.2.2.1 q hq
    have e2 : cn (addDf (newB cs d.2.2.2.1 d.2.2.2.2 1) (d.1, fs.getD d.2.1 (0, 0), fs.getD d.2.2.1 (0, 0), cn cs)) = cn cs + 1 := newB_n
    obtain ⟨τ, t1, t2, t3⟩ := ih (by rw [e2]; exact fun n => Nat.le_succ_of_le (hn n)) (fun u hu => by rw [ag, ag]; exact hl u (List.mem_cons_of_mem _ hu)) b
    rw [e2] at t1 t3
    exact ⟨τ, fun j hj => by rw [t1 j (by omega), us_ne hj], t2, by show cn cs ≤ cn (stD fs l _); omega⟩
/-! ways to come back -/
def fldI (cs : CS) (j s : Nat) : Iv := match kfind cs j (0, (s : Int)) with
  | some f => ivf cs f
  | none => ldI cs j (0, (s : Int))
def fldB (cs : CS) (q : Fl) : Bool := inI (fldI cs q.1 q.2.1) (q.2.2.1, q.2.2.2)
theorem ldI_ok {cs : CS} {σ : Nat → Int} {M : Mm} {j : Nat} {f : Fm} (h : Ok cs σ M) (hT : okTT M) (h64 : in64 (M j (fv σ f).toNat)) (hf : f.1 ≤ cn cs) (h0 : 0 ≤ fv σ f) : (ldI cs j f).1 ≤ M j (fv σ f).toNat ∧ M j (fv σ f).toNat ≤ (ldI cs j f).2 := by
  unfold ldI
  split
  next i hi => exact bfind_ok h hi
  next =>
    cases e : tif cs j f with
    | none => exact h64
    | some q =>
      have := hT j (fv σ f).toNat
      rw [tif_ok h hf h0 e] at this
      exact this
theorem fldB_ok {cs : CS} {σ : Nat → Int} {M : Mm} {q : Fl} (h : Ok cs σ M) (hT : okTT M) (h64 : in64 (M q.1 q.2.1)) (hb : fldB cs q = true) : q.2.2.1 ≤ M q.1 q.2.1 ∧ M q.1 q.2.1 ≤ q.2.2.2 := by
  have : (fldI cs q.1 q.2.1).1 ≤ M q.1 q.2.1 ∧ M q.1 q.2.1 ≤ (fldI cs q.1 q.2.1).2 := by
    unfold fldI
    split
    next f hk =>
      obtain ⟨k1, k2⟩ := kfind_ok h hk
      have k2 : M q.1 ((q.2.1 : Int)).toNat = fv σ f := k2
      rw [Int.toNat_natCast] at k2
      rw [k2]
      exact ivf_ok h k1
    next =>
      have := ldI_ok (f := (0, (q.2.1 : Int))) (j := q.1) h hT (by show in64 (M q.1 ((q.2.1 : Int)).toNat); rw [Int.toNat_natCast]; exact h64) (Nat.zero_le _) (Int.natCast_nonneg _)
      have e : (fv σ (0, (q.2.1 : Int))).toNat = q.2.1 := Int.toNat_natCast _
      rw [e] at this
      exact this
  exact inI_ok hb this
def setB (cs : CS) (l : List Fl) : CS := (cn cs, cfm cs, civ cs, cmo cs, ckn cs, cdf cs, l.map (fun q => (q.1, (0, (q.2.1 : Int)), (q.2.2.1, q.2.2.2))) ++ cbd cs)
theorem setB_ok {cs : CS} {σ : Nat → Int} {M : Mm} {l : List Fl} (h : Ok cs σ M) (hl : ∀ q ∈ l, q.2.2.1 ≤ M q.1 q.2.1 ∧ M q.1 q.2.1 ≤ q.2.2.2) : Ok (setB cs l) σ M := by
  refine ⟨h.1, h.2.1, h.2.2.1, fun q hq => ?_⟩
  rcases List.mem_append.mp hq with hq | hq
  · obtain ⟨u, hu, rfl⟩ := List.mem_map.mp hq
    show 0 ≤ cn _ ∧ 0 ≤ (u.2.1 : Int) ∧ u.2.2.1 ≤ M u.1 ((u.2.1 : Int)).toNat ∧ M u.1 ((u.2.1 : Int)).toNat ≤ u.2.2.2
    rw [Int.toNat_natCast]
    exact ⟨Nat.zero_le _, Int.natCast_nonneg _, hl u hu⟩
  · exact h.2.2.2 q hq
/-! a number within bounds is one of them -/
def splitA (P : CS → Bool) (f : Fm) (cs : CS) : Nat → Int → Bool
  | 0, _ => true
  | n + 1, v => (match (setI cs f v v).bind (fun c => propAll (cdf c) c) with
    | some c1 => P c1
    | none => true) && fI (v + 1) (splitA P f cs n)
theorem splitA_ok {P : CS → Bool} {f : Fm} {cs : CS} {σ : Nat → Int} {M : Mm} (h : Ok cs σ M) (hf : f.1 ≤ cn cs) : ∀ (n : Nat) (v : Int), splitA P f cs n v = true → v ≤ fv σ f → fv σ f < v + n → ∃ c1, Ok c1 σ M ∧ cn c1 = cn cs ∧ P c1 = true := by
  intro n
  induction n with
  | zero => intro v _ h1 h2; omega
  | succ n ih =>
    intro v hs h1 h2
    unfold splitA at hs
    rw [Bool.and_eq_true, fI_eq] at hs
    by_cases e : fv σ f = v
    · obtain ⟨c1, e1, e2, e3, -⟩ : OkO ((setI cs f v v).bind (fun c => propAll (cdf c) c)) (cn cs) σ M := (setI_ok h hf (by omega)).bind fun c h3 e3 => by
        rw [← e3]
        exact propAll_ok h3 h3.2.2.1
      have h4 := hs.1
      rw [e1] at h4
      exact ⟨c1, e2, e3, h4⟩
    · exact ih (v + 1) hs.2 (by omega) (by omega)
