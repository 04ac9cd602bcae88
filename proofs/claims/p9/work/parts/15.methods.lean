/-! a method by the checker: from its start, and from each marked place -/
def iniC : CS := (0, fun _ => (0, 0), fun _ => (0, 0), fun _ => 1, [], [], [])
def eqP (p : Pat) : Bool := decide (p.2.1 = p.2.2)
def st1 (p : Pat) (cs : CS) : CS := match p.1 with
  | 0 => bif eqP p then cs else newB cs p.2.1 p.2.2 1
  | 1 => bif eqP p then cs else newB cs p.2.1 p.2.2 1
  | _ => cs
def nv1 (p : Pat) : Nat := match p.1 with
  | 0 => bif eqP p then 0 else 1
  | 1 => bif eqP p then 0 else 1
  | _ => 0
def av1 (p : Pat) (n : Nat) : AV := match p.1 with
  | 0 => bif eqP p then (0, p.2.1) else (1, (n : Int))
  | 1 => bif eqP p then (2, p.2.1) else (3, (n : Int))
  | t + 2 => (t + 4, p.2.1)
def stA : List Pat → CS → CS
  | [], cs => cs
  | p :: ps, cs => stA ps (st1 p cs)
def avA : List Pat → Nat → List AV
  | [], _ => []
  | p :: ps, n => av1 p n :: avA ps (n + nv1 p)
def stF : List Fl → CS → CS
  | [], cs => cs
  | q :: l, cs => stF l (setK (newB cs q.2.2.1 q.2.2.2 1) ((q.1, (0, (q.2.1 : Int)), (cn cs + 1, 0)) :: ckn cs))
theorem iniC_ok {σ : Nat → Int} {M : Mm} : Ok iniC σ M := ⟨fun j hj => absurd hj (Nat.not_lt_zero j), fun q hq => (by cases hq), fun q hq => (by cases hq), fun q hq => (by cases hq)⟩
theorem st1_ok {p : Pat} {v : V} {cs : CS} {σ : Nat → Int} {M : Mm} (hp : patV p v) (h : Ok cs σ M) : ∃ z, cn (st1 p cs) = cn cs + nv1 p ∧ Ok (st1 p cs) (us σ (cn cs) z) M ∧ ev (us σ (cn cs) z) (av1 p (cn cs)) = v ∧ wA (cn cs + nv1 p) (av1 p (cn cs)) := by
  obtain ⟨t, lo, hi⟩ := p
  have hag := fun z => us_agree σ (cn cs) z
  match t, hp with
  | 0, hp =>
    obtain ⟨z, rfl, h1, h2⟩ := hp
    have h1 : lo ≤ z := h1
    have h2 : z ≤ hi := h2
    refine ⟨z, ?_⟩
    show cn (bif eqP (0, lo, hi) then cs else newB cs lo hi 1) = cn cs + (bif eqP (0, lo, hi) then 0 else 1) ∧ Ok (bif eqP (0, lo, hi) then cs else newB cs lo hi 1) _ M ∧ ev _ (bif eqP (0, lo, hi) then (0, lo) else (1, (cn cs : Int))) = vI z ∧ wA (cn cs + (bif eqP (0, lo, hi) then 0 else 1)) (bif eqP (0, lo, hi) then (0, lo) else (1, (cn cs : Int)))
    cases e : eqP (0, lo, hi) with
    | true =>
      have e : lo = hi := of_decide_eq_true e
      exact ⟨rfl, h.agree (hag z), by show vI lo = vI z; congr 1; omega, wA_k (by decide)⟩
    | false => exact ⟨newB_n, newB1 h ⟨h1, h2⟩, by show vI (us σ (cn cs) z ((cn cs : Int)).toNat) = vI z; rw [Int.toNat_natCast, us_at], wA_n⟩
  | 1, hp =>
    obtain ⟨z, rfl, h1, h2⟩ := hp
    have h1 : lo ≤ z := h1
    have h2 : z ≤ hi := h2
    refine ⟨z, ?_⟩
    show cn (bif eqP (1, lo, hi) then cs else newB cs lo hi 1) = cn cs + (bif eqP (1, lo, hi) then 0 else 1) ∧ Ok (bif eqP (1, lo, hi) then cs else newB cs lo hi 1) _ M ∧ ev _ (bif eqP (1, lo, hi) then (2, lo) else (3, (cn cs : Int))) = vL z ∧ wA (cn cs + (bif eqP (1, lo, hi) then 0 else 1)) (bif eqP (1, lo, hi) then (2, lo) else (3, (cn cs : Int)))
    cases e : eqP (1, lo, hi) with
    | true =>
      have e : lo = hi := of_decide_eq_true e
      exact ⟨rfl, h.agree (hag z), by show vL lo = vL z; congr 1; omega, wA_k (by decide)⟩
    | false => exact ⟨newB_n, newB1 h ⟨h1, h2⟩, by show vL (us σ (cn cs) z ((cn cs : Int)).toNat) = vL z; rw [Int.toNat_natCast, us_at], wA_n⟩
  | t + 2, hp =>
    have hp : v = vR t lo.toNat := hp
    subst hp
    exact ⟨0, rfl, h.agree (hag 0), rfl, wA_k (by show ¬ (t + 4 = 1 ∨ t + 4 = 3); omega)⟩
theorem stA_ok {M : Mm} : ∀ {ps : List Pat} {as : List V} {cs : CS} {σ : Nat → Int}, patsV ps as → Ok cs σ M → ∃ τ, (∀ j, j < cn cs → τ j = σ j) ∧ Ok (stA ps cs) τ M ∧ (avA ps (cn cs)).map (ev τ) = as ∧ wS (cn (stA ps cs)) (avA ps (cn cs)) ∧ cn cs ≤ cn (stA ps cs) := by
  intro ps
  induction ps with
  | nil =>
    intro as cs σ hp h
    cases as with
    | nil => exact ⟨σ, fun _ _ => rfl, h, rfl, fun a ha => (by cases ha), Nat.le_refl _⟩
    | cons a as => exact hp.elim
  | cons p ps ih =>
    intro as cs σ hp h
    cases as with
    | nil => exact hp.elim
    | cons v as =>
      obtain ⟨z, h1, h2, h3, h4⟩ := st1_ok hp.1 h
      obtain ⟨τ, t1, t2, t3, t4, t5⟩ := ih hp.2 h2
      rw [h1] at t1 t3 t4 t5
      have hag : ∀ j, j < cn cs + nv1 p → τ j = us σ (cn cs) z j := t1
      refine ⟨τ, fun j hj => ?_, t2, ?_, ?_, Nat.le_trans (Nat.le_add_right _ _) t5⟩
      · rw [t1 j (by omega), us_ne hj]
      · show ev τ (av1 p (cn cs)) :: (avA ps (cn cs + nv1 p)).map (ev τ) = v :: as
        rw [t3, ev_agree hag h4, h3]
      · exact wS_c (h4.mono t5) t4
theorem stF_ok {M : Mm} : ∀ {l : List Fl} {cs : CS} {σ : Nat → Int}, (∀ q ∈ l, q.2.2.1 ≤ M q.1 q.2.1 ∧ M q.1 q.2.1 ≤ q.2.2.2) → Ok cs σ M → ∃ τ, (∀ j, j < cn cs → τ j = σ j) ∧ Ok (stF l cs) τ M ∧ cn cs ≤ cn (stF l cs) := by
  intro l
  induction l with
  | nil => intro cs σ _ h; exact ⟨σ, fun _ _ => rfl, h, Nat.le_refl _⟩
  | cons q l ih =>
    intro cs σ hl h
    have a := newB1 h (hl q List.mem_cons_self)
    have e : ckn (newB cs q.2.2.1 q.2.2.2 1) = ckn cs := newB_kn
    have b : Ok (setK (newB cs q.2.2.1 q.2.2.2 1) ((q.1, (0, (q.2.1 : Int)), (cn cs + 1, 0)) :: ckn cs)) (us σ (cn cs) (M q.1 q.2.1)) M := by
      refine ⟨a.1, fun u hu => ?_, a.2.2⟩
      rcases List.mem_cons.mp hu with rfl | hu
      · show 0 ≤ cn (newB _ _ _ _) ∧ cn cs + 1 ≤ cn (newB _ _ _ _) ∧ 0 ≤ (q.2.1 : Int) ∧ M q.1 ((q.2.1 : Int)).toNat = us σ (cn cs) _ (cn cs) + 0
        rw [newB_n, us_at, Int.toNat_natCast]
        exact ⟨Nat.zero_le _, Nat.le_refl _, Int.natCast_nonneg _, by omega⟩
      · rw [← e] at hu
        exact a.2.1 u hu
    obtain ⟨τ, t1, t2, t3⟩ := ih (fun u hu => hl u (List.mem_cons_of_mem _ hu)) b
    have e2 : cn (setK (newB cs q.2.2.1 q.2.2.2 1) ((q.1, (0, (q.2.1 : Int)), (cn cs + 1, 0)) :: ckn cs)) = cn cs + 1 := newB_n
    rw [e2] at t1 t3
    exact ⟨τ, fun j hj => by rw [t1 j (by omega), us_ne hj], t2, by show cn cs ≤ cn (stF l _); omega⟩
def cutF (cuts : List Cut) (i : Nat) : Option (List Nat) := (cuts.find? (fun c => Nat.beq c.1 i)).map (fun c => c.2.1)
def okStart (H : Hk) (sps : List Spec) (inl : Nat → Bool) (spl : List (Nat × Nat)) (fl : List Fl) (cuts : List Cut) (F : Nat) (sp : Spec) : Bool :=
  fl.all (fun q => inI (tiv q.1 q.2.1) (q.2.2.1, q.2.2.2)) && chk H sps sp.2.2.2.1 sp.2.2.1 sp.2.2.2.2 spl cuts none F (cmp inl (cutF cuts) F false (cn (stF fl (stA sp.2.1 iniC))) sp.1 0 (eLA 0 (avA sp.2.1 0)) [] []) (stF fl (stA sp.2.1 iniC))
def okCut (H : Hk) (sps : List Spec) (inl : Nat → Bool) (spl : List (Nat × Nat)) (cuts : List Cut) (F : Nat) (sp : Spec) (c : Cut) : Bool :=
  decide (cutF cuts c.1 = some c.2.1) && (match frF (stF c.2.2.2.1 (stA c.2.2.1 iniC)) c (avA c.2.2.1 0) with
    | some fs => (meas fs c.2.2.2.2.1).all (bdL (stF c.2.2.2.1 (stA c.2.2.1 iniC))) && chk H sps sp.2.2.2.1 sp.2.2.1 sp.2.2.2.2 spl cuts (some (meas fs c.2.2.2.2.1)) F (cmp inl (cutF cuts) F false (cn (stD fs c.2.2.2.2.2 (stF c.2.2.2.1 (stA c.2.2.1 iniC)))) sp.1 c.1 (c.2.1.zip (avA c.2.2.1 0)) [] []) (stD fs c.2.2.2.2.2 (stF c.2.2.2.1 (stA c.2.2.1 iniC)))
    | none => false)
theorem avA_len : ∀ (ps : List Pat) (n : Nat), (avA ps n).length = ps.length := by
  intro ps
  induction ps with
  | nil => intro n; rfl
  | cons p ps ih => intro n; show (avA ps _).length + 1 = ps.length + 1; rw [ih]
theorem wL_zip {n : Nat} {dl : List Nat} {as : List AV} (h : wS n as) : wL n (dl.zip as) := fun q hq => h q.2 (List.of_mem_zip hq).2
theorem evL_zip {σ : Nat → Int} : ∀ {dl : List Nat} {as : List AV}, evL σ (dl.zip as) = dl.zip (as.map (ev σ)) := by
  intro dl
  induction dl with
  | nil => intro as; rfl
  | cons b dl ih => intro as; cases as with
    | nil => rfl
    | cons a as =>
      show (b, ev σ a) :: evL σ (dl.zip as) = (b, ev σ a) :: dl.zip (as.map (ev σ))
      rw [ih]
theorem wAb_of {n : Nat} {a : AV} (h : wA n a) : wAb n a = true := by
  obtain ⟨t, c⟩ := a
  have lt : ∀ {x y : Nat}, x < y → Nat.blt x y = true := fun h => Nat.ble_eq_true_of_le h
  match t, h with
  | 0, _ => rfl
  | 1, h => exact lt (h (Or.inl rfl))
  | 2, _ => rfl
  | 3, h => exact lt (h (Or.inr rfl))
  | n + 4, _ => rfl
/-- a marked place that is shown otherwise -/
def Giv (X : Xs) (P : Mm → Prop) (R : Option V → Mm → Prop) (cuts : List Cut) (sp : Spec) (M0 : Mm) (c : Cut) : Prop := cutF cuts c.1 = some c.2.1 ∧ ∀ (as : List V) (M : Mm), patsV c.2.2.1 as → flV c M → dfV c as M → okTT M → FrM sp.2.2.2.1 M0 M → P M → Wp X sp.2.2.2.2 sp.1 c.1 (c.2.1.zip as) [] M (Qp sp.2.2.2.1 sp.2.2.1 M0 P R)
theorem cut_locs {X : Xs} {P : Mm → Prop} {R : Option V → Mm → Prop} {M0 : Mm} {H : Hk} {sps : List Spec} {inl : Nat → Bool} {spl : List (Nat × Nat)} {cuts : List Cut} {F : Nat} {sp : Spec} {c : Cut} (h : okCut H sps inl spl cuts F sp c = true ∨ Giv X P R cuts sp M0 c) : cutF cuts c.1 = some c.2.1 := by
  rcases h with h | h
  · unfold okCut at h
    rw [Bool.and_eq_true] at h
    exact of_decide_eq_true h.1
  · exact h.1
theorem cuts_sound {X : Xs} {H : Hk} {P : Mm → Prop} {R : Option V → Mm → Prop} (hH : HkOK H P (fun _ _ _ => True) R) {sps : List Spec} {inl : Nat → Bool} {spl : List (Nat × Nat)} {cuts : List Cut} {F : Nat} {sp : Spec} (hS : ∀ s ∈ sps, SpecP X P s) (hd : 10 ≤ sp.2.2.2.2) {M0 : Mm} (hc : ∀ c ∈ cuts, okCut H sps inl spl cuts F sp c = true ∨ Giv X P R cuts sp M0 c) :
    ∀ (t : Nat) (c : Cut) (as : List V) (M : Mm), c ∈ cuts → patsV c.2.2.1 as → flV c M → dfV c as M → okTT M → FrM sp.2.2.2.1 M0 M → msV c as M = t → P M → Wp X sp.2.2.2.2 sp.1 c.1 (c.2.1.zip as) [] M (Qp sp.2.2.2.1 sp.2.2.1 M0 P R) := by
  intro t
  induction t using Nat.strongRecOn with
  | _ t ih =>
    intro c as M hcm hp hfl hdf hT hF hms hP
    rcases hc c hcm with h | h
    rotate_left
    · exact h.2 as M hp hfl hdf hT hF hP
    unfold okCut at h
    rw [Bool.and_eq_true] at h
    obtain ⟨-, h⟩ := h
    obtain ⟨τ0, -, a2, a3, a4, -⟩ := stA_ok (σ := fun _ => 0) hp (iniC_ok (M := M))
    obtain ⟨τ, b1, b2, b3⟩ := stF_ok hfl a2
    have a3 : (avA c.2.2.1 0).map (ev τ0) = as := a3
    have a4 : wS (cn (stA c.2.2.1 iniC)) (avA c.2.2.1 0) := a4
    have e3 : (avA c.2.2.1 0).map (ev τ) = as := by rw [← a3]; exact evS_agree b1 a4
    have w3 := a4.mono b3
    split at h
    next fs hm =>
      rw [Bool.and_eq_true] at h
      obtain ⟨h0, h⟩ := h
      have hwb := fun a ha => wAb_of (w3 a ha)
      obtain ⟨m1, m2⟩ := meas_ok b2 hwb hm h0
      obtain ⟨-, l3, -⟩ := frF_ok b2 hwb hm
      rw [e3] at l3
      rw [e3, hms] at m2
      obtain ⟨υ, d1, d2, d3⟩ := stD_ok (l := c.2.2.2.2.2) (fun n => (l3 n).1) (fun d hd => by rw [(l3 d.2.1).2, (l3 d.2.2.1).2]; exact hdf d hd) b2
      have e3 : (avA c.2.2.1 0).map (ev υ) = as := by rw [← e3]; exact evS_agree d1 w3
      have w3 := w3.mono d3
      have hHM : HM (some (meas fs c.2.2.2.2.1)) (some t) (cn (stF c.2.2.2.1 (stA c.2.2.1 iniC))) τ := ⟨fun e he => (m1 e he).1, by rw [m2]⟩
      have hden := chk_sound hH hS (M0 := M0) (T := some t) F _ _ υ M h d2 hT hF (hHM.agree d1 d3) hP
      have := cmp_sound (d := sp.2.2.2.2) (k0 := sp.1) (cut := cutF cuts) (CT := CTp cuts sp.2.2.2.1 M0 (some t) P (fun _ _ _ => True)) (CP := CPd X sp.2.2.2.2) (fun k' as M Q' hq => hq) (fun i dl as' M' hi _ hct => ?_) hd F false _ sp.1 c.1 _ [] [] F υ M rfl (Nat.zero_le _) (wL_zip w3) (fun a ha => (by cases ha)) (fun a ha => (by cases ha)) hden
      · rw [evL_zip, e3] at this
        exact this
      · obtain ⟨⟨c', f0, e1, f2, f3, fd, f4, f5, f6⟩, hP', -⟩ := hct
        have e2 := cut_locs (hc c' f0)
        rw [e1, hi] at e2
        have e2 := Option.some.inj e2
        rw [← e1, e2]
        exact ih _ (f6 t rfl) c' as' M' f0 f2 f3 fd f4 f5 rfl hP'
    next => cases h
theorem sp_soundR {X : Xs} {H : Hk} {P : Mm → Prop} {R : Option V → Mm → Prop} (hH : HkOK H P (fun _ _ _ => True) R) {sps : List Spec} {inl : Nat → Bool} {spl : List (Nat × Nat)} {fl : List Fl} {cuts : List Cut} {F : Nat} {sp : Spec} (hS : ∀ s ∈ sps, SpecP X P s) (hd : Nat.ble 10 sp.2.2.2.2 = true) (h0 : okStart H sps inl spl fl cuts F sp = true) {as : List V} {M : Mm} (hc : ∀ c ∈ cuts, okCut H sps inl spl cuts F sp c = true ∨ Giv X P R cuts sp M c) (hp : patsV sp.2.1 as) (hT : okTT M) (hP : P M) : Wp X sp.2.2.2.2 sp.1 0 (eL 0 as) [] M (Qp sp.2.2.2.1 sp.2.2.1 M P R) := by
  have hd := Nat.le_of_ble_eq_true hd
  unfold okStart at h0
  rw [Bool.and_eq_true, List.all_eq_true] at h0
  obtain ⟨h00, h0⟩ := h0
  obtain ⟨τ0, -, a2, a3, a4, -⟩ := stA_ok (σ := fun _ => 0) hp (iniC_ok (M := M))
  have a3 : (avA sp.2.1 0).map (ev τ0) = as := a3
  have a4 : wS (cn (stA sp.2.1 iniC)) (avA sp.2.1 0) := a4
  obtain ⟨τ, b1, b2, b3⟩ := stF_ok (l := fl) (fun q hq => inI_ok (h00 q hq) (hT q.1 q.2.1)) a2
  have a3 : (avA sp.2.1 0).map (ev τ) = as := by rw [← a3]; exact evS_agree b1 a4
  have a4 := a4.mono b3
  have hden := chk_sound hH hS (M0 := M) (T := none) F _ _ τ M h0 b2 hT (fun _ _ _ => rfl) rfl hP
  have := cmp_sound (d := sp.2.2.2.2) (k0 := sp.1) (cut := cutF cuts) (CT := CTp cuts sp.2.2.2.1 M none P (fun _ _ _ => True)) (CP := CPd X sp.2.2.2.2) (fun k' as M Q' hq => hq) (fun i dl as' M' hi _ hct => ?_) hd F false _ sp.1 0 _ [] [] F τ M rfl (Nat.zero_le _) (wL_eLA a4) (fun a ha => (by cases ha)) (fun a ha => (by cases ha)) hden
  · rw [eLA_ev, a3] at this
    exact this
  · obtain ⟨⟨c', f0, e1, f2, f3, fd, f4, f5, -⟩, hP', -⟩ := hct
    have e2 := cut_locs (hc c' f0)
    rw [e1, hi] at e2
    have e2 := Option.some.inj e2
    rw [← e1, e2]
    exact cuts_sound hH hS hd hc _ c' as' M' f0 f2 f3 fd f4 f5 rfl hP'
theorem sp_soundP {X : Xs} {H : Hk} {P : Mm → Prop} (hH : HkOK H P (fun _ _ _ => True) (fun _ _ => True)) {sps : List Spec} {inl : Nat → Bool} {spl : List (Nat × Nat)} {fl : List Fl} {cuts : List Cut} {F : Nat} {sp : Spec} (hS : ∀ s ∈ sps, SpecP X P s) (hd : Nat.ble 10 sp.2.2.2.2 = true) (h0 : okStart H sps inl spl fl cuts F sp = true) (hc : ∀ c ∈ cuts, okCut H sps inl spl cuts F sp c = true) : SpecP X P sp := fun _ _ hp hT hP => (sp_soundR hH hS hd h0 (fun c h => Or.inl (hc c h)) hp hT hP).mono fun v M' q => ⟨q.1.1, q.1.2.1, q.1.2.2, q.2.1⟩
theorem sp_sound {X : Xs} {sps : List Spec} {inl : Nat → Bool} {spl : List (Nat × Nat)} {fl : List Fl} {cuts : List Cut} {F : Nat} {sp : Spec} (hS : ∀ s ∈ sps, SpecOK X s) (hd : Nat.ble 10 sp.2.2.2.2 = true) (h0 : okStart H0 sps inl spl fl cuts F sp = true) (hc : ∀ c ∈ cuts, okCut H0 sps inl spl cuts F sp c = true) : SpecOK X sp := sp_soundP H0_ok hS hd h0 hc
/-- what lies beside the cells that are written stays -/
theorem SpecOK.frame {X : Xs} {P : Mm → Prop} {sp : Spec} (h : SpecOK X sp) (hP : ∀ M M', FrM sp.2.2.2.1 M M' → P M → P M') : SpecP X P sp := fun as M h1 h2 h3 => (h as M h1 h2 trivial).mono fun v M' q => ⟨q.1, q.2.1, q.2.2.1, hP M M' q.2.1 h3⟩
theorem sps_nil {X : Xs} : ∀ s ∈ ([] : List Spec), SpecOK X s := fun s hs => (by cases hs)
theorem sps_cons {X : Xs} {sp : Spec} {sps : List Spec} (h : SpecOK X sp) (hS : ∀ s ∈ sps, SpecOK X s) : ∀ s ∈ sp :: sps, SpecOK X s := List.forall_mem_cons.mpr ⟨h, hS⟩
