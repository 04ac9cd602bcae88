/-! constructors: how their instructions are read -/
abbrev KZ : Type := ClassId × ClassId
def tyZ (z : KZ) : List (ClassId × FieldType) := [(z.1, .int), (z.2, .boolean)]
def kdZ (z : KZ) (k : Nat) : ClassId := if k = 0 then z.1 else z.2
def decB (b : ByteArray) (pc : Nat) (f : Instr → Nat → Bool) : Bool := match decode b pc with
  | .ok (i, n) => f i n
  | .error _ => false
theorem decB_ok {b : ByteArray} {pc : Nat} {f : Instr → Nat → Bool} (h : decB b pc f = true) : ∃ i n, decode b pc = .ok (i, n) ∧ f i n = true := by
  unfold decB at h
  split at h
  next i n e => exact ⟨i, n, e, h⟩
  next => cases h
def psI (v : Int) (ln : Nat) : Instr → Nat → Bool
  | .iconst n, 1 => Int32.ofInt n == Int32.ofInt v && Nat.beq ln 1
  | .bipush n, 2 => (Int8.ofInt n).toInt32 == Int32.ofInt v && Nat.beq ln 2
  | .sipush n, 3 => (Int16.ofInt n).toInt32 == Int32.ofInt v && Nat.beq ln 3
  | _, _ => false
def alI (k ln : Nat) : Instr → Nat → Bool
  | .aload_n n, 1 => Nat.beq n.val k && Nat.beq ln 1
  | .aload n, 2 => Nat.beq n k && Nat.beq ln 2
  | _, _ => false
def naI (k : Nat) : Instr → Nat → Bool
  | .newarray .int, 2 => Nat.beq k 0
  | .newarray .boolean, 2 => Nat.beq k 1
  | _, _ => false
def fldC (r : vw_C) (own : String) (slot pf n : Nat) : Bool := decide (wt pf = some (Jvm.Cond.fieldLink own n (r.2.1 slot).1 (r.2.1 slot).2.1 (r.2.1 slot).2.2.1)) && (decide (slot < r.2.2) && decide ((r.2.1 slot).1 = own))
def pfI (own : String) (r : vw_C) (slot pf : Nat) : Instr → Nat → Bool
  | .putfield n, 3 => fldC r own slot pf n
  | _, _ => false
def gfI (own : String) (r : vw_C) (slot pf : Nat) : Instr → Nat → Bool
  | .getfield n, 3 => fldC r own slot pf n
  | _, _ => false
def obI (own : String) (pl : Nat) : Instr → Nat → Bool
  | .invokespecial n, 3 => decide (wt pl = some (Jvm.Cond.methodLink own n Lib.objectInit))
  | _, _ => false
def reI : Instr → Nat → Bool
  | .return_, 1 => true
  | _, _ => false
def tyR (r : vw_C) (slot : Nat) : Bool := match parseFieldDescriptor (r.2.1 slot).2.2.1 with
  | some (.object _) => true
  | some (.array _) => true
  | _ => false
def Cz (D : va_G) (z : KZ) (b : ByteArray) (N : Nat) (own : String) (p : Program) (s : State) (m : MethodId) (args : Array Value) (c : Code) (A : Nat → Prop) : Prop :=
  p.tables.exec = Jvm.exec ∧ c.code = b ∧ c.maxLocals = N ∧ s.vm.findClass own = some m.cls ∧ (∀ w ∈ wtb, w.before args s = true) ∧ va_K D cls (tyZ z) s ∧ ∀ q : Nat, s.heap.size ≤ q → A q
theorem wt596 : wt 596 = some (.arrayClass .int) := by decide +kernel
theorem wt3120 : wt 3120 = some (.arrayClass .boolean) := by decide +kernel
theorem i0z : Int32.ofInt 0 = 0 := by decide
theorem ofn_ge {n : Int} (h : 0 ≤ n ∧ n ≤ 10000) : ¬ Int32.ofInt n < 0 ∧ (Int32.ofInt n).toNatClampNeg = n.toNat := by
  have hi : in32 n := by unfold in32; omega
  refine ⟨fun q => ?_, i32_cl hi⟩
  rw [ofz] at q
  have := (l32 hi z32).mp q
  omega
section MK
variable {p : Program} {l : Launch} {e : Env} {R : Room} {s : State} {m : MethodId} {args : Array Value} {below : List Frame} {meth : Method} {c : Code} {H : Heap} {locs : List Loc} {cells slots : Nat} {Q : State → Prop}
variable {D : va_G} {z : KZ} {b : ByteArray} {N : Nat} {own : String} {A : Nat → Prop} {pc : Nat} {ls : Array Slot} {rest : List Value} {ws : va_W}
theorem put_any (C : Cz D z b N own p s m args c A) (hin : meth.name = "<init>") {ci : Nat} {r : vw_C} (hr : cls[ci]? = some r) {slot pf : Nat} (ho : decB b pc (pfI own r slot pf) = true) {ty : FieldType} {v : Value} (hty : parseFieldDescriptor (r.2.1 slot).2.2.1 = some ty) (hn : narrow ty v = v) (hf : fits ty v = true) {a : Nat} {fs : List Value} (hP : va_P D cls ((a, .inr (ci, fs)) :: ws) H) (hD : va_D A ((a, .inr (ci, fs)) :: ws)) (hS : va_S A s.heap H locs) (hl : slot < fs.length)
    (kk : ∀ (H1 : Heap) (locs1 : List Loc), va_P D cls ((a, .inr (ci, fs.set slot v)) :: ws) H1 → va_D A ((a, .inr (ci, fs.set slot v)) :: ws) → va_S A s.heap H1 locs1 → W p l e R s m args below meth c H1 locs1 cells slots Q (F0 m (pc + 3) ls rest)) : W p l e R s m args below meth c H locs cells slots Q (F0 m pc ls (v :: .ref a :: rest)) := by
  obtain ⟨ins, n, hd, ho⟩ := decB_ok ho
  unfold pfI at ho
  split at ho
  · rename_i ix
    unfold fldC at ho
    simp only [Bool.and_eq_true, decide_eq_true_eq] at ho
    obtain ⟨o1, o2, o3⟩ := ho
    obtain ⟨⟨ty0, hty0⟩, hnm⟩ := cls_good r (List.mem_of_getElem? hr)
    cases hfin : (r.2.1 slot).2.2.2 with
    | true => exact va_putF (C := r.1) (T := r.2.1) (N := r.2.2) (ty := ty) C.1 C.2.1 C.2.2.2.2.1 (cls_in r (List.mem_of_getElem? hr)) ty0 hty0 hnm C.2.2.2.1 C.2.2.2.2.2.1 hP hD hS 0 rfl hr slot o2 (C.2.2.2.2.1 _ (wt_mem o1)) (fun x hx => hx) hfin hin o3 hty hn hf hl hd kk
    | false => exact va_put (C := r.1) (T := r.2.1) (N := r.2.2) (ty := ty) C.1 C.2.1 C.2.2.2.2.1 (cls_in r (List.mem_of_getElem? hr)) ty0 hty0 hnm C.2.2.2.1 C.2.2.2.2.2.1 hP hD hS 0 rfl hr slot o2 (C.2.2.2.2.1 _ (wt_mem o1)) (fun x hx => hx) hfin hty hn hf hl hd kk
  · cases ho
theorem get_any (C : Cz D z b N own p s m args c A) {ci : Nat} {r : vw_C} (hr : cls[ci]? = some r) {slot pf : Nat} (ho : decB b pc (gfI own r slot pf) = true) {v : Value} {a : Nat} {fs : List Value} (hv : fs[slot]? = some v) (hP : va_P D cls ((a, .inr (ci, fs)) :: ws) H)
    (kk : W p l e R s m args below meth c H locs cells slots Q (F0 m (pc + 3) ls (v :: rest))) : W p l e R s m args below meth c H locs cells slots Q (F0 m pc ls (.ref a :: rest)) := by
  obtain ⟨ins, n, hd, ho⟩ := decB_ok ho
  unfold gfI at ho
  split at ho
  · rename_i ix
    unfold fldC at ho
    simp only [Bool.and_eq_true, decide_eq_true_eq] at ho
    obtain ⟨o1, o2, o3⟩ := ho
    exact va_get (C := r.1) (T := r.2.1) (N := r.2.2) C.1 C.2.1 C.2.2.2.2.1 (cls_in r (List.mem_of_getElem? hr)) C.2.2.2.1 C.2.2.2.2.2.1 hP 0 rfl hr slot o2 (C.2.2.2.2.1 _ (wt_mem o1)) (fun x hx => hx) hv hd kk
  · cases ho
theorem push_any (C : Cz D z b N own p s m args c A) {v : Int} {ln : Nat} (ho : decB b pc (psI v ln) = true) (kk : W p l e R s m args below meth c H locs cells slots Q (F0 m (pc + ln) ls (.int (Int32.ofInt v) :: rest))) : W p l e R s m args below meth c H locs cells slots Q (F0 m pc ls rest) := by
  obtain ⟨ins, n, hd, ho⟩ := decB_ok ho
  unfold psI at ho
  split at ho
  · simp only [Bool.and_eq_true, beq_iff_eq] at ho
    obtain rfl := Nat.eq_of_beq_eq_true ho.2
    exact lv_iconst C.1 C.2.1 hd ho.1 kk
  · simp only [Bool.and_eq_true, beq_iff_eq] at ho
    obtain rfl := Nat.eq_of_beq_eq_true ho.2
    exact lv_bipush C.1 C.2.1 hd ho.1 kk
  · simp only [Bool.and_eq_true, beq_iff_eq] at ho
    obtain rfl := Nat.eq_of_beq_eq_true ho.2
    exact lv_sipush C.1 C.2.1 hd ho.1 kk
  · cases ho
theorem load_any (C : Cz D z b N own p s m args c A) {k ln : Nat} (ho : decB b pc (alI k ln) = true) {x : Nat} (hl : ls[k]? = some (.val (.ref x))) (kk : W p l e R s m args below meth c H locs cells slots Q (F0 m (pc + ln) ls (.ref x :: rest))) : W p l e R s m args below meth c H locs cells slots Q (F0 m pc ls rest) := by
  obtain ⟨ins, n, hd, ho⟩ := decB_ok ho
  unfold alI at ho
  split at ho
  · simp only [Bool.and_eq_true] at ho
    obtain rfl := Nat.eq_of_beq_eq_true ho.2
    exact lv_aload_n C.1 C.2.1 hd (Nat.eq_of_beq_eq_true ho.1) hl kk
  · simp only [Bool.and_eq_true] at ho
    obtain rfl := Nat.eq_of_beq_eq_true ho.2
    obtain rfl := Nat.eq_of_beq_eq_true ho.1
    exact lv_aload C.1 C.2.1 hd hl kk
  · cases ho
theorem newarr_any (C : Cz D z b N own p s m args c A) {k : Nat} (ho : decB b pc (naI k) = true) {n : Int} (hn : 0 ≤ n ∧ n ≤ 10000) (hP : va_P D cls ws H) (hD : va_D A ws) (hS : va_S A s.heap H locs) (hcells : cells + 1 ≤ R.cells) (hslots : slots + n.toNat ≤ R.slots)
    (kk : ∀ (q : Nat) (H1 : Heap), va_P D cls (ws ++ [(q, .inl (kdZ z k, n.toNat, .inl fun _ => Int32.ofInt 0))]) H1 → va_D A (ws ++ [(q, .inl (kdZ z k, n.toNat, .inl fun _ => Int32.ofInt 0))]) → va_S A s.heap H1 locs → W p l e R s m args below meth c H1 locs (cells + 1) (slots + n.toNat) Q (F0 m (pc + 2) ls (.ref q :: rest))) : W p l e R s m args below meth c H locs cells slots Q (F0 m pc ls (.int (Int32.ofInt n) :: rest)) := by
  obtain ⟨ins, n', hd, ho⟩ := decB_ok ho
  obtain ⟨n1, n2⟩ := ofn_ge hn
  unfold naI at ho
  rw [i0z] at kk
  split at ho
  · obtain rfl := Nat.eq_of_beq_eq_true ho
    refine va_newa (atype := .int) (ty := .int) (a0 := (n.toNat, .inl fun _ => 0)) C.1 C.2.1 (C.2.2.2.2.1 _ (wt_mem wt596)) rfl C.2.2.2.2.2.1 hP hD hS C.2.2.2.2.2.2 (fun cA => rfl) n1 n2 (by show n.toNat * 4 ≤ 536870912; omega) hcells hslots hd fun q cA H1 hK1 hP1 hD1 hS1 => ?_
    have e1 : s.vm.findClass ("[" ++ FieldType.int.toString) = some cA := (hK1.2 2 (cA, .int) rfl).2
    have e2 : s.vm.findClass ("[" ++ FieldType.int.toString) = some z.1 := (hK1.2 0 (z.1, .int) rfl).2
    obtain rfl : z.1 = cA := Option.some.inj (e2.symm.trans e1)
    exact kk q H1 hP1 hD1 hS1
  · obtain rfl := Nat.eq_of_beq_eq_true ho
    refine va_newa (atype := .boolean) (ty := .boolean) (a0 := (n.toNat, .inl fun _ => 0)) C.1 C.2.1 (C.2.2.2.2.1 _ (wt_mem wt3120)) rfl C.2.2.2.2.2.1 hP hD hS C.2.2.2.2.2.2 (fun cA => rfl) n1 n2 (by show n.toNat * 1 ≤ 536870912; omega) hcells hslots hd fun q cA H1 hK1 hP1 hD1 hS1 => ?_
    have e1 : s.vm.findClass ("[" ++ FieldType.boolean.toString) = some cA := (hK1.2 2 (cA, .boolean) rfl).2
    have e2 : s.vm.findClass ("[" ++ FieldType.boolean.toString) = some z.2 := (hK1.2 1 (z.2, .boolean) rfl).2
    obtain rfl : z.2 = cA := Option.some.inj (e2.symm.trans e1)
    exact kk q H1 hP1 hD1 hS1
  · cases ho
end MK
/-! a deed of a constructor: kind, pc, length of the load, slot, place of the field's word, kind of array or local, number -/
abbrev Dd : Type := Nat × Nat × Nat × Nat × Nat × Nat × Int
def dP (o : Dd) : Nat := o.2.1
def dL (o : Dd) : Nat := o.2.2.1
def dS (o : Dd) : Nat := o.2.2.2.1
def dF (o : Dd) : Nat := o.2.2.2.2.1
def dK (o : Dd) : Nat := o.2.2.2.2.2.1
def dV (o : Dd) : Int := o.2.2.2.2.2.2
def ddI (r : vw_C) (slot : Nat) : Bool := decide (parseFieldDescriptor (r.2.1 slot).2.2.1 = some .int)
def ddB (b : ByteArray) (own : String) (r : vw_C) (nf nl : Nat) (o : Dd) : Bool := (decB b (dP o) (alI 0 1) && Nat.blt (dS o) nf) && (match o.1 with
  | 0 => decB b (dP o + 1) (psI (dV o) (dL o)) && (decB b (dP o + 1 + dL o) (naI (dK o)) && (decB b (dP o + 1 + dL o + 2) (pfI own r (dS o) (dF o)) && (tyR r (dS o) && decide (0 ≤ dV o ∧ dV o ≤ 10000))))
  | 1 => decB b (dP o + 1) (psI (dV o) (dL o)) && (decB b (dP o + 1 + dL o) (pfI own r (dS o) (dF o)) && ddI r (dS o))
  | _ => decB b (dP o + 1) (alI (dK o) (dL o)) && (decB b (dP o + 1 + dL o) (pfI own r (dS o) (dF o)) && (tyR r (dS o) && Nat.blt (dK o) nl)))
def ddN (o : Dd) : Nat := match o.1 with
  | 0 => dP o + 1 + dL o + 2 + 3
  | _ => dP o + 1 + dL o + 3
def chn : List Dd → Nat → Nat → Bool
  | [], pc, pcE => Nat.beq pc pcE
  | o :: os, pc, pcE => Nat.beq (dP o) pc && chn os (ddN o) pcE
def runF (La : List Nat) : List Dd → List Value → (Nat → Nat) → Nat → List Value
  | [], fs, _, _ => fs
  | o :: os, fs, q, i => match o.1 with
    | 0 => runF La os (fs.set (dS o) (.ref (q i))) q (i + 1)
    | 1 => runF La os (fs.set (dS o) (.int (Int32.ofInt (dV o)))) q i
    | _ => runF La os (fs.set (dS o) (.ref (La.getD (dK o) 0))) q i
def runA (z : KZ) : List Dd → (Nat → Nat) → Nat → va_W
  | [], _, _ => []
  | o :: os, q, i => match o.1 with
    | 0 => (q i, .inl (kdZ z (dK o), (dV o).toNat, .inl fun _ => Int32.ofInt 0)) :: runA z os q (i + 1)
    | _ => runA z os q i
def runC : List Dd → Nat
  | [] => 0
  | o :: os => (match o.1 with
    | 0 => 1
    | _ => 0) + runC os
def runS : List Dd → Nat
  | [] => 0
  | o :: os => (match o.1 with
    | 0 => (dV o).toNat
    | _ => 0) + runS os
theorem runF_congr {La : List Nat} {q q' : Nat → Nat} : ∀ (os : List Dd) (fs : List Value) (i : Nat), (∀ j, i ≤ j → q j = q' j) → runF La os fs q i = runF La os fs q' i := by
  intro os
  induction os with
  | nil => intro fs i _; rfl
  | cons o os ih =>
    intro fs i h
    obtain ⟨t, r⟩ := o
    match t with
    | 0 =>
      show runF La os (fs.set _ (.ref (q i))) q (i + 1) = runF La os (fs.set _ (.ref (q' i))) q' (i + 1)
      rw [h i (Nat.le_refl _)]
      exact ih _ _ fun j hj => h j (by omega)
    | 1 => exact ih _ _ h
    | n + 2 => exact ih _ _ h
theorem runA_congr {z : KZ} {q q' : Nat → Nat} : ∀ (os : List Dd) (i : Nat), (∀ j, i ≤ j → q j = q' j) → runA z os q i = runA z os q' i := by
  intro os
  induction os with
  | nil => intro i _; rfl
  | cons o os ih =>
    intro i h
    obtain ⟨t, r⟩ := o
    match t with
    | 0 =>
      show (q i, _) :: runA z os q (i + 1) = (q' i, _) :: runA z os q' (i + 1)
      rw [h i (Nat.le_refl _), ih _ fun j hj => h j (by omega)]
    | n + 1 => exact ih _ h
section MK2
variable {p : Program} {l : Launch} {e : Env} {R : Room} {s : State} {m : MethodId} {args : Array Value} {below : List Frame} {meth : Method} {c : Code} {Q : State → Prop}
variable {D : va_G} {z : KZ} {b : ByteArray} {N : Nat} {own : String} {A : Nat → Prop} {ls : Array Slot}
theorem tyR_ok {r : vw_C} {slot a : Nat} (h : tyR r slot = true) : ∃ ty, parseFieldDescriptor (r.2.1 slot).2.2.1 = some ty ∧ narrow ty (.ref a) = .ref a ∧ fits ty (.ref a) = true := by
  unfold tyR at h
  split at h
  next n e => exact ⟨_, e, rfl, rfl⟩
  next n e => exact ⟨_, e, rfl, rfl⟩
  next => cases h
theorem run_all (C : Cz D z b N own p s m args c A) (hin : meth.name = "<init>") {ci : Nat} {r : vw_C} (hr : cls[ci]? = some r) {a : Nat} {La : List Nat} (hls : ∀ (k x : Nat), La[k]? = some x → ls[k]? = some (.val (.ref x))) (h0 : La[0]? = some a) {pcE nf : Nat} :
    ∀ (os : List Dd) (pc i cells slots : Nat) (fs : List Value) (ws : va_W) (H : Heap) (locs : List Loc), chn os pc pcE = true → os.all (ddB b own r nf La.length) = true → fs.length = nf → va_P D cls ((a, .inr (ci, fs)) :: ws) H → va_D A ((a, .inr (ci, fs)) :: ws) → va_S A s.heap H locs → cells + runC os ≤ R.cells → slots + runS os ≤ R.slots →
      (∀ (q : Nat → Nat) (H1 : Heap) (locs1 : List Loc), va_P D cls ((a, .inr (ci, runF La os fs q i)) :: (ws ++ runA z os q i)) H1 → va_D A ((a, .inr (ci, runF La os fs q i)) :: (ws ++ runA z os q i)) → va_S A s.heap H1 locs1 → W p l e R s m args below meth c H1 locs1 (cells + runC os) (slots + runS os) Q (F0 m pcE ls [])) →
      W p l e R s m args below meth c H locs cells slots Q (F0 m pc ls []) := by
  intro os
  induction os with
  | nil =>
    intro pc i cells slots fs ws H locs hc _ _ hP hD hS _ _ kk
    obtain rfl := Nat.eq_of_beq_eq_true hc
    have := kk (fun _ => 0) H locs (by show va_P D cls ((a, .inr (ci, fs)) :: (ws ++ [])) H; rw [List.append_nil]; exact hP) (by show va_D A ((a, .inr (ci, fs)) :: (ws ++ [])); rw [List.append_nil]; exact hD) hS
    exact this
  | cons o os ih =>
    intro pc i cells slots fs ws H locs hc ha hf hP hD hS hrc hrs kk
    have hc : (Nat.beq (dP o) pc && chn os (ddN o) pcE) = true := hc
    rw [Bool.and_eq_true] at hc
    obtain rfl := Nat.eq_of_beq_eq_true hc.1
    have hc := hc.2
    rw [List.all_cons, Bool.and_eq_true] at ha
    obtain ⟨hb, ha⟩ := ha
    unfold ddB at hb
    simp only [Bool.and_eq_true] at hb
    obtain ⟨⟨b1, b2⟩, hb⟩ := hb
    have hsl : dS o < fs.length := by rw [hf]; exact Nat.le_of_ble_eq_true b2
    refine load_any C b1 (hls 0 a h0) ?_
    obtain ⟨t, o2⟩ := o
    match t, hb, hc, hrc, hrs, kk with
    | 0, hb, hc, hrc, hrs, kk =>
      have hb : (decB b (dP (0, o2) + 1) (psI (dV (0, o2)) (dL (0, o2))) && (decB b (dP (0, o2) + 1 + dL (0, o2)) (naI (dK (0, o2))) && (decB b (dP (0, o2) + 1 + dL (0, o2) + 2) (pfI own r (dS (0, o2)) (dF (0, o2))) && (tyR r (dS (0, o2)) && decide (0 ≤ dV (0, o2) ∧ dV (0, o2) ≤ 10000))))) = true := hb
      simp only [Bool.and_eq_true, decide_eq_true_eq] at hb
      obtain ⟨c1, c2, c3, c4, c5⟩ := hb
      have hrc : cells + (1 + runC os) ≤ R.cells := hrc
      have hrs : slots + ((dV (0, o2)).toNat + runS os) ≤ R.slots := hrs
      refine push_any C c1 (newarr_any C c2 c5 hP hD hS (by omega) (by omega) fun q0 H1 hP1 hD1 hS1 => ?_)
      obtain ⟨ty, y1, y2, y3⟩ := tyR_ok (a := q0) c4
      refine put_any C hin hr c3 y1 y2 y3 hP1 hD1 hS1 hsl fun H2 locs2 hP2 hD2 hS2 => ?_
      refine ih _ (i + 1) (cells + 1) (slots + (dV (0, o2)).toNat) _ _ H2 locs2 hc ha (by rw [List.length_set]; exact hf) hP2 hD2 hS2 (by omega) (by omega) fun q H3 locs3 hP3 hD3 hS3 => ?_
      have hg : ∀ j, i + 1 ≤ j → (fun j => if j = i then q0 else q j) j = q j := fun j hj => if_neg (by omega)
      have e1 : runF La ((0, o2) :: os) fs (fun j => if j = i then q0 else q j) i = runF La os (fs.set (dS (0, o2)) (.ref q0)) q (i + 1) := by
        show runF La os (fs.set (dS (0, o2)) (.ref (if i = i then q0 else q i))) (fun j => if j = i then q0 else q j) (i + 1) = _
        rw [if_pos rfl, runF_congr os _ _ hg]
      have e2 : ws ++ runA z ((0, o2) :: os) (fun j => if j = i then q0 else q j) i = (ws ++ [(q0, .inl (kdZ z (dK (0, o2)), (dV (0, o2)).toNat, .inl fun _ => Int32.ofInt 0))]) ++ runA z os q (i + 1) := by
        show ws ++ ((if i = i then q0 else q i), _) :: runA z os (fun j => if j = i then q0 else q j) (i + 1) = _
        rw [if_pos rfl, runA_congr os _ hg, List.append_assoc]
        rfl
      have := kk (fun j => if j = i then q0 else q j) H3 locs3 (by rw [e1, e2]; exact hP3) (by rw [e1, e2]; exact hD3) hS3
      have e3 : cells + runC ((0, o2) :: os) = cells + 1 + runC os := by show cells + (1 + runC os) = _; omega
      have e4 : slots + runS ((0, o2) :: os) = slots + (dV (0, o2)).toNat + runS os := by show slots + ((dV (0, o2)).toNat + runS os) = _; omega
      rw [e3, e4] at this
      exact this
    | 1, hb, hc, hrc, hrs, kk =>
      have hb : (decB b (dP (1, o2) + 1) (psI (dV (1, o2)) (dL (1, o2))) && (decB b (dP (1, o2) + 1 + dL (1, o2)) (pfI own r (dS (1, o2)) (dF (1, o2))) && ddI r (dS (1, o2)))) = true := hb
      simp only [Bool.and_eq_true] at hb
      obtain ⟨c1, c2, c3⟩ := hb
      have hrc : cells + (0 + runC os) ≤ R.cells := hrc
      have hrs : slots + (0 + runS os) ≤ R.slots := hrs
      refine push_any C c1 (put_any C hin hr c2 (of_decide_eq_true c3) rfl rfl hP hD hS hsl fun H2 locs2 hP2 hD2 hS2 => ?_)
      refine ih _ i cells slots _ _ H2 locs2 hc ha (by rw [List.length_set]; exact hf) hP2 hD2 hS2 (by omega) (by omega) fun q H3 locs3 hP3 hD3 hS3 => ?_
      have := kk q H3 locs3 hP3 hD3 hS3
      have e3 : cells + runC ((1, o2) :: os) = cells + runC os := by show cells + (0 + runC os) = _; omega
      have e4 : slots + runS ((1, o2) :: os) = slots + runS os := by show slots + (0 + runS os) = _; omega
      rw [e3, e4] at this
      exact this
    | t + 2, hb, hc, hrc, hrs, kk =>
      have hb : (decB b (dP (t + 2, o2) + 1) (alI (dK (t + 2, o2)) (dL (t + 2, o2))) && (decB b (dP (t + 2, o2) + 1 + dL (t + 2, o2)) (pfI own r (dS (t + 2, o2)) (dF (t + 2, o2))) && (tyR r (dS (t + 2, o2)) && Nat.blt (dK (t + 2, o2)) La.length))) = true := hb
      simp only [Bool.and_eq_true] at hb
      obtain ⟨c1, c2, c3, c4⟩ := hb
      have hk : dK (t + 2, o2) < La.length := Nat.le_of_ble_eq_true c4
      have hg : La[dK (t + 2, o2)]? = some (La.getD (dK (t + 2, o2)) 0) := by
        rw [List.getD_eq_getElem?_getD, List.getElem?_eq_getElem hk]
        rfl
      have hrc : cells + (0 + runC os) ≤ R.cells := hrc
      have hrs : slots + (0 + runS os) ≤ R.slots := hrs
      obtain ⟨ty, y1, y2, y3⟩ := tyR_ok (a := La.getD (dK (t + 2, o2)) 0) c3
      refine load_any C c1 (hls _ _ hg) (put_any C hin hr c2 y1 y2 y3 hP hD hS hsl fun H2 locs2 hP2 hD2 hS2 => ?_)
      refine ih _ i cells slots _ _ H2 locs2 hc ha (by rw [List.length_set]; exact hf) hP2 hD2 hS2 (by omega) (by omega) fun q H3 locs3 hP3 hD3 hS3 => ?_
      have := kk q H3 locs3 hP3 hD3 hS3
      have e3 : cells + runC ((t + 2, o2) :: os) = cells + runC os := by show cells + (0 + runC os) = _; omega
      have e4 : slots + runS ((t + 2, o2) :: os) = slots + runS os := by show slots + (0 + runS os) = _; omega
      rw [e3, e4] at this
      exact this
end MK2
