/-! contracts of constructors -/
def wl (y : MethodName) (b : ByteArray) (N : Nat) : List Jvm.Cond := Jvm.Cond.code y b N none :: wtb
def Rc (os : List Dd) : Room := { frames := 1, cells := runC os, slots := runS os, locals := 12 }
def Pz (D : va_G) (z : KZ) (wc : va_W) (sz : Nat) : State → Prop := fun U => U.heap.size = sz ∧ va_P D cls wc U.heap ∧ va_K D cls (tyZ z) U ∧ va_D (fun _ => True) wc
def Bz (D : va_G) (sz : Nat) (x : Nat × va_E) (w1 : va_W) : State → Prop := fun t => va_P D cls w1 t.heap ∧ va_D (va_A [x] sz) w1
theorem lv_refs : ∀ (La : List Nat) (n k a : Nat), La[k]? = some a → (n + k, Value.ref a) ∈ lv_args n (La.map Value.ref) := by
  intro La
  induction La with
  | nil => intro n k a h; rw [List.getElem?_nil] at h; cases h
  | cons x La ih =>
    intro n k a h
    cases k with
    | zero =>
      obtain rfl : x = a := Option.some.inj h
      exact List.mem_cons_self
    | succ k =>
      have h : La[k]? = some a := by rw [List.getElem?_cons_succ] at h; exact h
      have := ih (n + 1) k a h
      rw [Nat.add_assoc, Nat.add_comm 1 k] at this
      exact List.mem_cons_of_mem _ this
theorem sl_refs (La : List Nat) : (lg_sl (La.map Value.ref)).length = La.length := by
  induction La with
  | nil => rfl
  | cons x La ih =>
    have e : lg_sl ((x :: La).map Value.ref) = [Slot.val (.ref x)] ++ lg_sl (La.map Value.ref) := by simp [lg_sl, Value.category]
    rw [e, List.length_append, ih, List.length_cons]
    show 1 + La.length = La.length + 1
    omega
def obW (pi pc : Nat) : Prop := wt pi = some (.instanceMethod Lib.objectInit) ∧ wt pc = some (.code Lib.objectInit ⟨#[0xb1]⟩ 1 none)
section CT
variable {p : Program} {l : Launch} {e : Env} {R : Room} {s : State} {m : MethodId} {args : Array Value} {below : List Frame} {meth : Method} {c : Code} {Q : State → Prop} {H : Heap} {locs : List Loc} {cells slots : Nat}
variable {D : va_G} {z : KZ} {b : ByteArray} {N : Nat} {own : String} {A : Nat → Prop} {ls : Array Slot} {pc : Nat} {rest : List Value}
theorem obj_any (C : Cz D z b N own p s m args c A) {pi pk pl : Nat} (hw : obW pi pk) {a : Nat} (hsz : ls.size = N) (ha : decB b 0 (alI 0 1) = true) (hl0 : ls[0]? = some (.val (.ref a))) (ho : decB b 1 (obI own pl) = true) (hf : 1 ≤ R.frames) (hlo : 12 ≤ R.locals) (kk : W p l e R s m args below meth c H locs cells slots Q (F0 m 4 ls [])) : W p l e R s m args below meth c H locs cells slots Q (F0 m 0 ls []) := by
  refine load_any C ha hl0 ?_
  obtain ⟨ins, n, hd, ho⟩ := decB_ok ho
  unfold obI at ho
  split at ho
  · rw [decide_eq_true_eq] at ho
    refine W.objInit C.1 C.2.1 C.2.2.2.1 (C.2.2.2.2.1 _ (wt_mem ho)) (C.2.2.2.2.1 _ (wt_mem hw.1)) (C.2.2.2.2.1 _ (wt_mem hw.2)) rfl (by rw [C.2.2.1]; exact hsz) rfl hd hf hlo ?_
    exact W.eq (g2 := F0 m 4 ls []) rfl kk
  · cases ho
end CT
theorem mk_met {y : MethodName} {b : ByteArray} {N : Nat} {own : String} {ci nf nl pcE pi pk pl : Nat} {r : vw_C} {os : List Dd} (hw : obW pi pk) (hpl : plainName y.cls = true) (hown' : y.cls = own) (hy : y.name = "<init>") (hr : cls[ci]? = some r) (ha : decB b 0 (alI 0 1) = true) (hob : decB b 1 (obI own pl) = true) (hch : chn os 4 pcE = true) (hall : os.all (ddB b own r nf nl) = true) (hre : decB b pcE reI = true) (hN : nl ≤ N)
    (l : Launch) (D : va_G) (z : KZ) (sz h0 : Nat) (La : List Nat) (hLa : La.length + 1 = nl) (fs : List Value) (hf : fs.length = nf) :
    Met l y (wl y b N) (Rc os) (va_Pc ((h0 :: La).map Value.ref) (Pz D z [(h0, .inr (ci, fs))] sz)) (va_Qv (fun _ : Nat → Nat => True) (fun q => Bz D sz (h0, .inr (ci, fs)) ((h0, .inr (ci, runF (h0 :: La) os fs q 0)) :: runA z os q 0)) (va_A [(h0, .inr (ci, fs))] sz)) (runC os) (runS os) (va_A [(h0, .inr (ci, fs))] sz) := by
  refine Met.ofW (cc := b) (maxL := N) (ret := none) hpl rfl ?_
  intro p e s m args below meth c s₁ B hml hv
  obtain ⟨rfl, hsz, hP, hK, hD0⟩ := hv
  have hx := B.exec
  have hb := B.bytes
  have hr2 := B.returns
  have hts := atoms_spec (ws := wl y b N) B.pre
  have hown : s.vm.findClass y.cls = some m.cls := findClass_of_methodNamed B.named
  have hlocks := B.notSynchronized
  have hin : meth.name = "<init>" := (name_of_methodNamed B.named B.method).1.trans hy
  rw [hown'] at hown
  subst hsz
  have hD := hD0.self (sz := s.heap.size)
  rw [lg_entry_eq]
  have hl := lv_entry ((h0 :: La).map Value.ref) (n := N) (by rw [sl_refs, List.length_cons]; omega)
  generalize (lg_sl ((h0 :: La).map Value.ref) ++ List.replicate (N - (lg_sl ((h0 :: La).map Value.ref)).length) Slot.unset).toArray = ls at hl ⊢
  have hls : ∀ (k x : Nat), (h0 :: La)[k]? = some x → ls[k]? = some (.val (.ref x)) := fun k x hk => by
    have := hl.2.2 _ (lv_refs _ 0 k x hk)
    rw [Nat.zero_add] at this
    exact this
  have C : Cz D z b N own p s m ((h0 :: La).map Value.ref).toArray c (va_A [(h0, .inr (ci, fs))] s.heap.size) := ⟨hx, hb, hml, hown, fun w hw => hts w (List.mem_cons_of_mem _ hw), hK, fun q h => Or.inr h⟩
  refine obj_any C hw hl.1 ha (hls 0 h0 rfl) hob (Nat.le_refl _) (Nat.le_refl _) ?_
  refine run_all C hin hr hls rfl os 4 0 0 0 fs [] s.heap [] hch (by rw [List.length_cons, hLa]; exact hall) hf hP hD va_S.rf (by rw [Nat.zero_add]; exact Nat.le_refl _) (by rw [Nat.zero_add]; exact Nat.le_refl _) fun q H1 locs1 hP1 hD1 hS1 => ?_
  rw [Nat.zero_add, Nat.zero_add]
  obtain ⟨ins, n, hd, hre⟩ := decB_ok hre
  unfold reI at hre
  split at hre
  · exact W.vret hx hb hr2 (fun t ht hW => ⟨⟨q, rfl, trivial, by rw [ht]; exact hP1, hD1⟩, hS1.F ht⟩) hS1.2.2 hd hlocks
  · cases hre
/-! a new object in a constructor -/
def nwI (own C : String) (pl : Nat) : Instr → Nat → Bool
  | .new n, 3 => decide (wt pl = some (.classLink own n C))
  | _, _ => false
def duI : Instr → Nat → Bool
  | .dup, 1 => true
  | _, _ => false
def iniB (r : vw_C) (fs : List Value) : Bool := (List.range r.2.2).all (fun j => match parseFieldDescriptor (r.2.1 j).2.2.1 with
  | some t => decide (defaultValue t = vp_V fs j)
  | none => false)
def ivI (own : String) (y : MethodName) (pl : Nat) : Instr → Nat → Bool
  | .invokespecial n, 3 => decide (wt pl = some (.methodLink own n y))
  | _, _ => false
def ivN (own : String) (y : MethodName) (nw : List Jvm.Cond) : Instr → Nat → Bool
  | .invokespecial n, 3 => decide (Jvm.Cond.methodLinkNest own n y own ∈ nw)
  | _, _ => false
theorem nd_range (n : Nat) : ∀ k, va_nd (List.range' k n) = true := by
  induction n with
  | zero => intro k; rfl
  | succ n ih =>
    intro k
    show (decide (k ∉ List.range' (k + 1) n) && va_nd (List.range' (k + 1) n)) = true
    rw [ih, Bool.and_true, decide_eq_true_eq]
    intro h
    have := (List.mem_range'_1.mp h).1
    omega
theorem range_get (wr : va_W) (x : Nat × va_E) : (List.range' 0 wr.length).map (fun i => (wr ++ [x])[i]?) = wr.map some := by
  refine List.ext_getElem? fun j => ?_
  rw [List.getElem?_map, List.getElem?_map]
  by_cases h : j < wr.length
  · rw [List.getElem?_range' h, List.getElem?_eq_getElem h]
    show some ((wr ++ [x])[0 + 1 * j]?) = _
    rw [Nat.zero_add, Nat.one_mul, List.getElem?_append_left h, List.getElem?_eq_getElem h]
    rfl
  · rw [List.getElem?_eq_none (by rw [List.length_range']; omega), List.getElem?_eq_none (by omega)]
    rfl
theorem last_get (wr : va_W) (x : Nat × va_E) : [wr.length].map (fun i => (wr ++ [x])[i]?) = [x].map some := by
  show [(wr ++ [x])[wr.length]?] = [some x]
  rw [List.getElem?_append_right (Nat.le_refl _), Nat.sub_self]
  rfl
theorem join_end {A0 : Nat → Prop} {D : va_G} {wr w1 : va_W} {x : Nat × va_E} {H H1 : Heap} (hP : va_P D cls (wr ++ [x]) H) (hD : va_D A0 (wr ++ [x])) (hk : ∀ q : Nat, q < H.size → ¬ va_A [x] H.size q → H1[q]? = H[q]?) (hF : ∀ q, va_A [x] H.size q → A0 q) (hP1 : va_P D cls w1 H1) (hD1 : va_D (va_A [x] H.size) w1) : va_P D cls (wr ++ w1) H1 ∧ va_D A0 (wr ++ w1) :=
  va_join hP hD [wr.length] (List.range' 0 wr.length) (last_get wr x) (range_get wr x) (nd_range _ 0) (fun i hi h => by
    have := (List.mem_range'_1.mp hi).2
    rw [List.mem_singleton] at h
    omega) hk hF hP1 hD1
theorem last_fm (wr : va_W) (x : Nat × va_E) : [wr.length].filterMap (fun i => (wr ++ [x])[i]?) = [x] := by simp
/-- the words of a constructor that is called -/
def ctW (y : MethodName) (b : ByteArray) (N pc pi pz np : Nat) : Prop := wt pc = some (.code y b N none) ∧ wt pi = some (.instanceMethod y) ∧ wt pz = some (.initialized y.cls) ∧ y.name = "<init>" ∧ (y.cls ≠ "java/lang/invoke/MethodHandle" ∧ y.cls ≠ "java/lang/invoke/VarHandle" ∧ (parseMethodDescriptor y.desc).map (fun d => d.parameters.length) = some np)
theorem wl_good {y : MethodName} {b : ByteArray} {N pc : Nat} (h : wt pc = some (.code y b N none)) : GoodIn wtb (wl y b N) := by
  intro w hw
  have hw2 : w ∈ wtb := by
    rcases List.mem_cons.mp hw with rfl | h2
    · exact wt_mem h
    · exact h2
  exact ⟨hw2, good_of_word (tbl_good w hw2)⟩
section SUB
variable {p : Program} {l : Launch} {e : Env} {R : Room} {s : State} {m : MethodId} {args : Array Value} {below : List Frame} {meth : Method} {c : Code} {H : Heap} {locs : List Loc} {cells slots : Nat} {Q : State → Prop}
variable {D : va_G} {z : KZ} {b : ByteArray} {N : Nat} {own : String} {A : Nat → Prop} {pc : Nat} {ls : Array Slot} {rest : List Value} {ws : va_W}
theorem new_any (C : Cz D z b N own p s m args c A) {ci pl p2 p3 : Nat} {r : vw_C} (hr : cls[ci]? = some r) (ho : decB b pc (nwI own r.1 pl) = true) (hw2 : wt p2 = some (.instantiable r.1 r.2.2)) (hw3 : wt p3 = some (.initialized r.1)) {fs : List Value} (hi : iniB r fs = true) (hP : va_P D cls ws H) (hD : va_D A ws) (hS : va_S A s.heap H locs) (hcells : cells + 1 ≤ R.cells) (hslots : slots + r.2.2 ≤ R.slots)
    (kk : ∀ (q : Nat) (H1 : Heap), va_P D cls (ws ++ [(q, .inr (ci, fs))]) H1 → va_D A (ws ++ [(q, .inr (ci, fs))]) → va_S A s.heap H1 locs → W p l e R s m args below meth c H1 locs (cells + 1) (slots + r.2.2) Q (F0 m (pc + 3) ls (.ref q :: rest))) : W p l e R s m args below meth c H locs cells slots Q (F0 m pc ls rest) := by
  obtain ⟨ins, n, hd, ho⟩ := decB_ok ho
  unfold nwI at ho
  split at ho
  · rw [decide_eq_true_eq] at ho
    obtain ⟨⟨ty0, hty0⟩, hnm⟩ := cls_good r (List.mem_of_getElem? hr)
    refine va_new (C := r.1) (T := r.2.1) (N := r.2.2) C.1 C.2.1 C.2.2.2.2.1 (cls_in r (List.mem_of_getElem? hr)) ty0 hty0 C.2.2.2.1 (C.2.2.2.2.1 _ (wt_mem ho)) (C.2.2.2.2.1 _ (wt_mem hw2)) (C.2.2.2.2.1 _ (wt_mem hw3)) C.2.2.2.2.2.1 hP hD hS C.2.2.2.2.2.2 hr (fun j hj => ?_) hcells hslots hd kk
    have q := List.all_eq_true.mp hi j (List.mem_range.mpr hj)
    rw [hty0 j hj] at q
    exact of_decide_eq_true q
  · cases ho
theorem dup_any (C : Cz D z b N own p s m args c A) (ho : decB b pc duI = true) {a : Nat} (kk : W p l e R s m args below meth c H locs cells slots Q (F0 m (pc + 1) ls (.ref a :: .ref a :: rest))) : W p l e R s m args below meth c H locs cells slots Q (F0 m pc ls (.ref a :: rest)) := by
  obtain ⟨ins, n, hd, ho⟩ := decB_ok ho
  unfold duI at ho
  split at ho
  · exact lv_dup C.1 C.2.1 hd rfl kk
  · cases ho
/-- a constructor's call; nw: the words of the nest, where it is private -/
theorem sub_call (C : Cz D z b N own p s m args c A) (hml : ls.size = N) {y : MethodName} {b' : ByteArray} {N' pk pi pz pl np mc ms : Nat} {nw : List Jvm.Cond} (hc : ctW y b' N' pk pi pz np) (ho : decB b pc (ivI own y pl) = true ∨ (decB b pc (ivN own y nw) = true ∧ ∀ w ∈ nw, va_Nw w s)) {U : Type} {rm : Room} {q : Nat} {x : Nat × va_E} {As : List Value} {B0 : State → Prop} {w1 : U → va_W}
    (hM : Met l y (wl y b' N') rm (va_Pc (.ref q :: As) B0) (va_Qv (fun _ : U => True) (fun u => Bz D H.size x (w1 u)) (va_A [x] H.size)) mc ms (va_A [x] H.size)) (hn : As.length = np) (hrm : rm.cells = mc ∧ rm.slots = ms ∧ rm.frames + 1 ≤ R.frames ∧ 8 + (N' + 11) + rm.locals ≤ R.locals) (hfit : cells + mc ≤ R.cells ∧ slots + ms ≤ R.slots) (hcat : (rest.map fun v => v.category).sum ≤ 8)
    (hb0 : FrameBlind (va_Pc (.ref q :: As) B0)) (hb1 : ∀ U : State, U.heap = H → s.WarmedH U.vm → B0 U) {wr : va_W} (hP : va_P D cls (wr ++ [x]) H) (hD : va_D A (wr ++ [x])) (hS : va_S A s.heap H locs)
    (kk : ∀ (u : U) (H1 : Heap) (locs1 : List Loc), va_P D cls (wr ++ w1 u) H1 → va_D A (wr ++ w1 u) → va_S A s.heap H1 locs1 → W p l e R s m args below meth c H1 locs1 (cells + mc) (slots + ms) Q (F0 m (pc + 3) ls rest)) : W p l e R s m args below meth c H locs cells slots Q (F0 m pc ls (As.reverse ++ .ref q :: rest)) := by
  obtain ⟨c1, c2, c3, c4, c5⟩ := hc
  have hF := va_free hD hS C.2.2.2.2.2.2 [wr.length] (last_get wr x)
  have go : va_Run p l e R s m args below meth c H locs cells slots mc ms (F0 m pc ls (As.reverse ++ .ref q :: rest)) rest (va_Qv (fun _ : U => True) (fun u => Bz D H.size x (w1 u)) (va_A [x] H.size) (Value.ref q :: As).toArray) (va_A [x] H.size) := by
    rcases ho with ho | ⟨ho, hnw⟩
    · obtain ⟨ins, n, hd, ho⟩ := decB_ok ho
      unfold ivI at ho
      split at ho
      · rw [decide_eq_true_eq] at ho
        exact va_runI (As := As) (rest := rest) ⟨C.1, C.2.1, C.2.2.1, C.2.2.2.1, C.2.2.2.2.1⟩ hM (cwI np C.2.2.2.2.1 (wl_good c1) rfl hrm.1 hrm.2.1 (C.2.2.2.2.1 _ (wt_mem c3)) (C.2.2.2.2.1 _ (wt_mem ho)) (C.2.2.2.2.1 _ (wt_mem c2)) c4 c5 hrm.2.2) ⟨hb0, fun U hU hW => ⟨rfl, hb1 U hU hW⟩⟩ rfl hn hml rfl (lv_room hcat) hd hfit
      · cases ho
    · obtain ⟨ins, n, hd, ho⟩ := decB_ok ho
      unfold ivN at ho
      split at ho
      · rw [decide_eq_true_eq] at ho
        exact va_runIN (As := As) (rest := rest) ⟨C.1, C.2.1, C.2.2.1, C.2.2.2.1, C.2.2.2.2.1⟩ hM ⟨va_cnB np C.2.2.2.2.1 (wl_good c1) rfl hrm.1 hrm.2.1 (hnw _ ho) (C.2.2.2.2.1 _ (wt_mem c3)) c5 hrm.2.2, c4, C.2.2.2.2.1 _ (wt_mem c2)⟩ ⟨hb0, fun U hU hW => ⟨rfl, hb1 U hU hW⟩⟩ rfl hn hml rfl (lv_room hcat) hd hfit
      · cases ho
  refine va_callv go hS (fun q _ h => hF q h) hF fun u t H1 locs1 ht hvm _ hB hz1 hk1 hS1 => ?_
  obtain ⟨hP1, hD1⟩ := hB
  rw [ht] at hP1
  obtain ⟨hP2, hD2⟩ := join_end hP hD hk1 hF hP1 hD1
  exact kk u H1 locs1 hP2 hD2 hS1
theorem pz_blind {av : List Value} {wc : va_W} {sz : Nat} : FrameBlind (va_Pc av (Pz D z wc sz)) := by
  intro a U g mk q
  obtain ⟨q0, q1, qP, qK, qD⟩ := q
  exact ⟨q0, q1, qP, va_K.moved (u := U) (U := U.calling g mk a) (Vm.Alike.refl U.vm) qK, qD⟩
theorem pz_pre (C : Cz D z b N own p s m args c A) {wr : va_W} {x : Nat × va_E} (hP : va_P D cls (wr ++ [x]) H) (hD : va_D A (wr ++ [x])) : ∀ U : State, U.heap = H → s.WarmedH U.vm → Pz D z [x] H.size U := fun U hU hW => ⟨by rw [hU], by rw [hU]; exact hP.sub [wr.length] (last_fm wr x), va_K.moved hW.alike C.2.2.2.2.2.1, (hD.sub [wr.length] rfl (last_get wr x)).weaken (fun _ _ _ _ => trivial)⟩
end SUB
/-! what the laws are at first: a static array outside -/
def AFL : List Int := [12, 12, 12, 12, 1, 1, 1, 1, 2, 0, 1, 0, 0, 0, 10, 10, 10, 10, 0, 0]
def AF (j : Nat) : Int32 := Int32.ofInt (AFL.getD j 0)
def Oz (t0 : Nat) (A : Nat → Prop) (U : State) : Prop := va_Z "SwornCourt$Laws" "AT_FIRST" "[I" (.ref t0) A U U.heap ∧ va_X t0 20 AF U U.heap ∧ t0 < U.heap.size ∧ ¬ A t0
theorem Oz.to {t0 : Nat} {A B : Nat → Prop} {s U : State} (h : Oz t0 A s) (hW : s.WarmedH U.vm) (hz : s.heap.size ≤ U.heap.size) (hq : ∀ a : Nat, a < s.heap.size → ¬ A a → U.heap[a]? = s.heap[a]?) (hAB : ∀ q, B q → A q) : Oz t0 B U :=
  ⟨((h.1.moved hW.alike).kept hq).narrow hAB, (h.2.1.moved hW.alike).kept (hq t0 h.2.2.1 h.2.2.2), Nat.lt_of_lt_of_le h.2.2.1 hz, fun q => h.2.2.2 (hAB _ q)⟩
theorem Oz.same {t0 : Nat} {A : Nat → Prop} {s U : State} (h : Oz t0 A s) (hv : U.vm = s.vm) (hh : U.heap = s.heap) : Oz t0 A U := by
  have hvm : s.vm.Alike U.vm := by rw [hv]; exact Vm.Alike.refl s.vm
  obtain ⟨h1, h2, h3, h4⟩ := h
  rw [← hh] at h1 h2 h3
  exact ⟨h1.moved hvm, h2.moved hvm, h3, h4⟩
def Pzo (D : va_G) (z : KZ) (t0 : Nat) (wc : va_W) (sz : Nat) : State → Prop := fun U => Pz D z wc sz U ∧ Oz t0 (va_A wc sz) U
theorem pzo_blind {D : va_G} {z : KZ} {t0 : Nat} {av : List Value} {wc : va_W} {sz : Nat} : FrameBlind (va_Pc av (Pzo D z t0 wc sz)) := by
  intro a U g mk q
  obtain ⟨q0, q1, qo⟩ := q
  exact ⟨q0, (pz_blind a U g mk ⟨q0, q1⟩).2, qo.same rfl rfl⟩
theorem pzo_pre {s : State} {m : MethodId} {args : Array Value} {p : Program} {c : Code} {D : va_G} {z : KZ} {b : ByteArray} {N : Nat} {own : String} {A : Nat → Prop} {H : Heap} {locs : List Loc} {t0 : Nat} (C : Cz D z b N own p s m args c A) (hO : Oz t0 A s) {wr : va_W} {x : Nat × va_E} (hP : va_P D cls (wr ++ [x]) H) (hD : va_D A (wr ++ [x])) (hS : va_S A s.heap H locs) : ∀ U : State, U.heap = H → s.WarmedH U.vm → Pzo D z t0 [x] H.size U := fun U hU hW =>
  ⟨pz_pre C hP hD U hU hW, hO.to hW (by rw [hU]; exact hS.1) (fun a h1 h2 => by rw [hU]; exact hS.2.1 a h1 h2) (va_free hD hS C.2.2.2.2.2.2 [wr.length] (last_get wr x))⟩
