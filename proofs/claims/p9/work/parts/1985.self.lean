/-! the class itself: its constructor, and its world at first -/
def M0 (i j : Nat) : Int := match i with
  | 21 => AFL.getD j 0
  | 26 => AFL.getD j 0
  | 22 => (match j with
    | 5 => -1
    | _ => 0)
  | 52 => (match j with
    | 13 => 1000
    | _ => 0)
  | 65 => (match j with
    | 15 => -1
    | 37 => 1000
    | _ => 0)
  | _ => 0
def gz (D : va_G) (z : KZ) (q : Nat → Nat) : Gx := (D, q, kdZ z, fun _ => 0, fun _ => 0, .null)
def fldR (g : Gx) (row : Nat → Int) : List Nat → Nat → List Value
  | [], _ => []
  | f :: l, j => fvl g f (row j) :: fldR g row l (j + 1)
def entR (g : Gx) (row : Nat → Int) : SC → va_E
  | .inl (k, n) => .inl (g.2.2.1 k, n, .inl (fun j => Int32.ofInt (row j)))
  | .inr (ci, fk) => .inr (ci, fldR g row fk 0)
def wsR (g : Gx) (M : Mm) : List SC → Nat → va_W
  | [], _ => []
  | c :: l, i => (g.2.1 i, entR g (M i) c) :: wsR g M l (i + 1)
theorem fldR_eq (g : Gx) (row : Nat → Int) : ∀ (fk : List Nat) (i : Nat), fldR g row fk i = fk.mapIdx (fun j f => fvl g f (row (j + i))) := by
  intro fk
  induction fk with
  | nil => intro i; rfl
  | cons f fk ih =>
    intro i
    show fvl g f (row i) :: fldR g row fk (i + 1) = _
    rw [List.mapIdx_cons, ih, Nat.zero_add]
    congr 1
    refine List.ext_getElem? fun t => ?_
    rw [List.getElem?_mapIdx, List.getElem?_mapIdx, show t + (i + 1) = t + 1 + i by omega]
theorem entR_eq (g : Gx) (row : Nat → Int) (c : SC) : entR g row c = ent g c row := by
  match c with
  | .inl (k, n) => rfl
  | .inr (ci, fk) =>
    show Sum.inr (ci, fldR g row fk 0) = Sum.inr (ci, _)
    rw [fldR_eq]
    rfl
theorem wsR_eq (g : Gx) (M : Mm) : ∀ (l : List SC) (i : Nat), wsR g M l i = l.mapIdx (fun j c => (g.2.1 (j + i), ent g c (M (j + i)))) := by
  intro l
  induction l with
  | nil => intro i; rfl
  | cons c l ih =>
    intro i
    show (g.2.1 i, entR g (M i) c) :: wsR g M l (i + 1) = _
    rw [List.mapIdx_cons, ih, Nat.zero_add, entR_eq]
    congr 1
    refine List.ext_getElem? fun t => ?_
    rw [List.getElem?_mapIdx, List.getElem?_mapIdx, show t + (i + 1) = t + 1 + i by omega]
theorem wsR_all (g : Gx) (M : Mm) : wsR g M SH 0 = wsOf g M := by
  rw [wsR_eq]
  rfl
theorem wsR_app (g : Gx) (M : Mm) : ∀ (l l2 : List SC) (i : Nat), wsR g M (l ++ l2) i = wsR g M l i ++ wsR g M l2 (i + l.length) := by
  intro l
  induction l with
  | nil => intro l2 i; rfl
  | cons c l ih =>
    intro l2 i
    show _ :: wsR g M (l ++ l2) (i + 1) = _ :: (wsR g M l (i + 1) ++ wsR g M l2 (i + (l.length + 1)))
    rw [ih, show i + (l.length + 1) = i + 1 + l.length by omega]
def q0a (h : Nat) (q : Nat → Nat) (i : Nat) : Nat := bif Nat.beq i 0 then h else q i
def wX (D : va_G) (z : KZ) (q : Nat → Nat) : va_W := wsR (gz D z q) M0 (SH.take 65) 0
def wM (D : va_G) (z : KZ) (q : Nat → Nat) : va_W := wsR (gz D z q) M0 (SH.drop 65) 65
set_option maxRecDepth 100000 in
theorem eX (D : va_G) (z : KZ) (q : Nat → Nat) : wX D z q = [(q 0, .inr (10, [.ref (q 1), .ref (q 12), .ref (q 17), .ref (q 19), .ref (q 22), .ref (q 27), .ref (q 42), .ref (q 48), .ref (q 52), .ref (q 61), .int (Int32.ofInt 0)])), (q 1, .inr (7, [.ref (q 2), .ref (q 3), .ref (q 4), .ref (q 5), .ref (q 6), .ref (q 7), .ref (q 8), .ref (q 9), .ref (q 10), .ref (q 11), .int (Int32.ofInt 0), .int (Int32.ofInt 0)])), (q 2, .inl (z.1, 30, .inl (fun _ => Int32.ofInt 0))), (q 3, .inl (z.1, 30, .inl (fun _ => Int32.ofInt 0))), (q 4, .inl (z.1, 30, .inl (fun _ => Int32.ofInt 0))), (q 5, .inl (z.1, 30, .inl (fun _ => Int32.ofInt 0))), (q 6, .inl (z.1, 30, .inl (fun _ => Int32.ofInt 0))), (q 7, .inl (z.1, 30, .inl (fun _ => Int32.ofInt 0))), (q 8, .inl (z.1, 30, .inl (fun _ => Int32.ofInt 0))), (q 9, .inl (z.1, 60, .inl (fun _ => Int32.ofInt 0))), (q 10, .inl (z.1, 60, .inl (fun _ => Int32.ofInt 0))), (q 11, .inl (z.1, 60, .inl (fun _ => Int32.ofInt 0))), (q 12, .inr (2, [.ref (q 13), .ref (q 14), .ref (q 15), .ref (q 16), .int (Int32.ofInt 0)])), (q 13, .inl (z.1, 20, .inl (fun _ => Int32.ofInt 0))), (q 14, .inl (z.1, 20, .inl (fun _ => Int32.ofInt 0))), (q 15, .inl (z.1, 20, .inl (fun _ => Int32.ofInt 0))), (q 16, .inl (z.1, 20, .inl (fun _ => Int32.ofInt 0))), (q 17, .inr (4, [.ref (q 18), .int (Int32.ofInt 0), .int (Int32.ofInt 0), .int (Int32.ofInt 0)])), (q 18, .inl (z.1, 900, .inl (fun _ => Int32.ofInt 0))), (q 19, .inr (6, [.ref (q 20), .ref (q 21), .int (Int32.ofInt 0)])), (q 20, .inl (z.1, 9, .inl (fun _ => Int32.ofInt 0))), (q 21, .inl (z.1, 180, .inl AF)), (q 22, .inr (5, [.ref (q 23), .ref (q 24), .int (Int32.ofInt 0), .int (Int32.ofInt 0), .int (Int32.ofInt 0), .int (Int32.ofInt (-1))])), (q 23, .inl (z.1, 240, .inl (fun _ => Int32.ofInt 0))), (q 24, .inr (6, [.ref (q 25), .ref (q 26), .int (Int32.ofInt 0)])), (q 25, .inl (z.1, 9, .inl (fun _ => Int32.ofInt 0))), (q 26, .inl (z.1, 180, .inl AF)), (q 27, .inr (1, [.ref (q 28), .ref (q 29), .ref (q 30), .ref (q 31), .ref (q 32), .ref (q 33), .ref (q 34), .ref (q 35), .ref (q 36), .ref (q 37), .ref (q 38), .ref (q 39), .ref (q 40), .ref (q 41), .int (Int32.ofInt 0), .int (Int32.ofInt 0), .int (Int32.ofInt 0)])), (q 28, .inl (z.1, 20, .inl (fun _ => Int32.ofInt 0))), (q 29, .inl (z.1, 20, .inl (fun _ => Int32.ofInt 0))), (q 30, .inl (z.1, 20, .inl (fun _ => Int32.ofInt 0))), (q 31, .inl (z.1, 20, .inl (fun _ => Int32.ofInt 0))), (q 32, .inl (z.1, 20, .inl (fun _ => Int32.ofInt 0))), (q 33, .inl (z.1, 20, .inl (fun _ => Int32.ofInt 0))), (q 34, .inl (z.1, 20, .inl (fun _ => Int32.ofInt 0))), (q 35, .inl (z.1, 20, .inl (fun _ => Int32.ofInt 0))), (q 36, .inl (z.1, 100, .inl (fun _ => Int32.ofInt 0))), (q 37, .inl (z.1, 100, .inl (fun _ => Int32.ofInt 0))), (q 38, .inl (z.1, 100, .inl (fun _ => Int32.ofInt 0))), (q 39, .inl (z.1, 100, .inl (fun _ => Int32.ofInt 0))), (q 40, .inl (z.1, 120, .inl (fun _ => Int32.ofInt 0))), (q 41, .inl (z.1, 120, .inl (fun _ => Int32.ofInt 0))), (q 42, .inr (0, [.ref (q 1), .ref (q 12), .ref (q 17), .ref (q 19), .ref (q 27), .ref (q 43), .ref (q 44), .ref (q 45), .ref (q 46), .ref (q 47), .int (Int32.ofInt 0), .int (Int32.ofInt 0)])), (q 43, .inl (z.1, 20, .inl (fun _ => Int32.ofInt 0))), (q 44, .inl (z.1, 20, .inl (fun _ => Int32.ofInt 0))), (q 45, .inl (z.1, 20, .inl (fun _ => Int32.ofInt 0))), (q 46, .inl (z.1, 100, .inl (fun _ => Int32.ofInt 0))), (q 47, .inl (z.1, 20, .inl (fun _ => Int32.ofInt 0))), (q 48, .inr (8, [.ref (q 49), .ref (q 50), .ref (q 51), .int (Int32.ofInt 0)])), (q 49, .inl (z.1, 60, .inl (fun _ => Int32.ofInt 0))), (q 50, .inl (z.1, 60, .inl (fun _ => Int32.ofInt 0))), (q 51, .inl (z.1, 60, .inl (fun _ => Int32.ofInt 0))), (q 52, .inr (3, [.ref (q 1), .ref (q 27), .ref (q 42), .ref (q 53), .ref (q 54), .ref (q 55), .ref (q 56), .ref (q 57), .ref (q 58), .ref (q 59), .ref (q 60), .int (Int32.ofInt 0), .int (Int32.ofInt 0), .int (Int32.ofInt 1000), .int (Int32.ofInt 0), .int (Int32.ofInt 0), .int (Int32.ofInt 0), .int (Int32.ofInt 0)])), (q 53, .inl (z.1, 5, .inl (fun _ => Int32.ofInt 0))), (q 54, .inl (z.1, 5, .inl (fun _ => Int32.ofInt 0))), (q 55, .inl (z.1, 1260, .inl (fun _ => Int32.ofInt 0))), (q 56, .inl (z.1, 10, .inl (fun _ => Int32.ofInt 0))), (q 57, .inl (z.1, 10, .inl (fun _ => Int32.ofInt 0))), (q 58, .inl (z.1, 30, .inl (fun _ => Int32.ofInt 0))), (q 59, .inl (z.1, 5, .inl (fun _ => Int32.ofInt 0))), (q 60, .inl (z.1, 5, .inl (fun _ => Int32.ofInt 0))), (q 61, .inr (9, [.ref (q 62), .ref (q 63), .ref (q 64), .int (Int32.ofInt 0)])), (q 62, .inl (z.1, 30, .inl (fun _ => Int32.ofInt 0))), (q 63, .inl (z.1, 30, .inl (fun _ => Int32.ofInt 0))), (q 64, .inl (z.1, 30, .inl (fun _ => Int32.ofInt 0)))] := rfl
set_option maxRecDepth 100000 in
theorem eM (D : va_G) (z : KZ) (q : Nat → Nat) : wM D z q = [(q 65, .inr (11, [.int (Int32.ofInt 0), .int (Int32.ofInt 0), .ref (q 66), .ref (q 67), .ref (q 68), .ref (q 69), .ref (q 70), .ref (q 71), .ref (q 72), .int (Int32.ofInt 0), .ref (q 73), .int (Int32.ofInt 0), .ref (q 74), .ref (q 75), .int (Int32.ofInt 0), .int (Int32.ofInt (-1)), .int (Int32.ofInt 0), .ref (q 76), .ref (q 77), .ref (q 78), .ref (q 79), .int (Int32.ofInt 0), .ref (q 80), .ref (q 81), .ref (q 82), .ref (q 83), .ref (q 84), .ref (q 85), .int (Int32.ofInt 0), .ref (q 86), .ref (q 87), .ref (q 88), .ref (q 89), .ref (q 90), .int (Int32.ofInt 0), .int (Int32.ofInt 0), .ref (q 91), .int (Int32.ofInt 1000), .ref (q 92), .ref (q 93), .int (Int32.ofInt 0), .int (Int32.ofInt 0), .int (Int32.ofInt 0), .int (Int32.ofInt 0), .long (Int64.ofInt 0), .int (Int32.ofInt 0), .int (Int32.ofInt 0), .int (Int32.ofInt 0), .ref (q 94), .ref (q 95), .ref (q 96), .ref (q 97), .ref (q 98), .int (Int32.ofInt 0), .ref (q 99), .ref (q 100), .ref (q 101), .ref (q 102), .ref (q 103), .ref (q 104), .ref (q 105), .ref (q 106), .int (Int32.ofInt 0), .int (Int32.ofInt 0), .int (Int32.ofInt 0), .int (Int32.ofInt 0), .ref (q 107)])), (q 66, .inl (z.1, 30, .inl (fun _ => Int32.ofInt 0))), (q 67, .inl (z.1, 30, .inl (fun _ => Int32.ofInt 0))), (q 68, .inl (z.1, 30, .inl (fun _ => Int32.ofInt 0))), (q 69, .inl (z.1, 30, .inl (fun _ => Int32.ofInt 0))), (q 70, .inl (z.1, 30, .inl (fun _ => Int32.ofInt 0))), (q 71, .inl (z.1, 30, .inl (fun _ => Int32.ofInt 0))), (q 72, .inl (z.1, 30, .inl (fun _ => Int32.ofInt 0))), (q 73, .inl (z.1, 180, .inl (fun _ => Int32.ofInt 0))), (q 74, .inl (z.1, 80, .inl (fun _ => Int32.ofInt 0))), (q 75, .inl (z.1, 240, .inl (fun _ => Int32.ofInt 0))), (q 76, .inl (z.1, 8, .inl (fun _ => Int32.ofInt 0))), (q 77, .inl (z.1, 160, .inl (fun _ => Int32.ofInt 0))), (q 78, .inl (z.1, 8, .inl (fun _ => Int32.ofInt 0))), (q 79, .inl (z.1, 160, .inl (fun _ => Int32.ofInt 0))), (q 80, .inl (z.1, 20, .inl (fun _ => Int32.ofInt 0))), (q 81, .inl (z.1, 20, .inl (fun _ => Int32.ofInt 0))), (q 82, .inl (z.1, 20, .inl (fun _ => Int32.ofInt 0))), (q 83, .inl (z.1, 20, .inl (fun _ => Int32.ofInt 0))), (q 84, .inl (z.1, 20, .inl (fun _ => Int32.ofInt 0))), (q 85, .inl (z.1, 20, .inl (fun _ => Int32.ofInt 0))), (q 86, .inl (z.1, 120, .inl (fun _ => Int32.ofInt 0))), (q 87, .inl (z.1, 120, .inl (fun _ => Int32.ofInt 0))), (q 88, .inl (z.1, 120, .inl (fun _ => Int32.ofInt 0))), (q 89, .inl (z.2, 120, .inl (fun _ => Int32.ofInt 0))), (q 90, .inl (z.1, 120, .inl (fun _ => Int32.ofInt 0))), (q 91, .inl (z.1, 180, .inl (fun _ => Int32.ofInt 0))), (q 92, .inl (z.1, 30, .inl (fun _ => Int32.ofInt 0))), (q 93, .inl (z.1, 30, .inl (fun _ => Int32.ofInt 0))), (q 94, .inl (z.1, 20, .inl (fun _ => Int32.ofInt 0))), (q 95, .inl (z.1, 20, .inl (fun _ => Int32.ofInt 0))), (q 96, .inl (z.1, 20, .inl (fun _ => Int32.ofInt 0))), (q 97, .inl (z.1, 120, .inl (fun _ => Int32.ofInt 0))), (q 98, .inl (z.1, 20, .inl (fun _ => Int32.ofInt 0))), (q 99, .inl (z.1, 5, .inl (fun _ => Int32.ofInt 0))), (q 100, .inl (z.1, 5, .inl (fun _ => Int32.ofInt 0))), (q 101, .inl (z.1, 50, .inl (fun _ => Int32.ofInt 0))), (q 102, .inl (z.2, 5120, .inl (fun _ => Int32.ofInt 0))), (q 103, .inl (z.1, 5, .inl (fun _ => Int32.ofInt 0))), (q 104, .inl (z.1, 5, .inl (fun _ => Int32.ofInt 0))), (q 105, .inl (z.1, 30, .inl (fun _ => Int32.ofInt 0))), (q 106, .inl (z.1, 30, .inl (fun _ => Int32.ofInt 0))), (q 107, .inl (z.1, 30, .inl (fun _ => Int32.ofInt 0)))] := rfl
def nwX : List Jvm.Cond := [.methodLinkNest RX10 11 yX7_init RX10, .methodLinkNest RX10 18 yX2_init RX10, .methodLinkNest RX10 25 yX4_init RX10, .methodLinkNest RX10 39 yX5_init RX10, .methodLinkNest RX10 46 yX1_init RX10, .methodLinkNest RX10 62 yX8_init RX10, .methodLinkNest RX10 78 yX9_init RX10]
def os10b : List Dd := [(1, 146, 1, 10, 1228, 0, 0)]
theorem oc10b : os10b.all (ddB cX10_init RX10 (RX10, TX10, 11) 11 1) = true := by decide +kernel
set_option maxHeartbeats 4000000 in
set_option maxRecDepth 100000 in
theorem ct10 (l : Launch) (D : va_G) (z : KZ) (t0 sz h0 : Nat) : Met l yX10_init (wl yX10_init cX10_init 1) { frames := 3, cells := 64, slots := 4656, locals := 160 } (va_Pc [.ref h0] (fun U => Pz D z [(h0, .inr (10, fi10))] sz U ∧ Oz t0 (va_A [(h0, .inr (10, fi10))] sz) U ∧ ∀ w ∈ nwX, va_Nw w U)) (va_Qv (fun _ : Nat → Nat => True) (fun q => Bz D sz (h0, .inr (10, fi10)) (wX D z (q0a h0 q))) (va_A [(h0, .inr (10, fi10))] sz)) 64 4656 (va_A [(h0, .inr (10, fi10))] sz) := by
  refine Met.ofW (cc := cX10_init) (maxL := 1) (ret := none) (by decide) rfl ?_
  intro p e s m args below meth c s₁ B hml hv
  obtain ⟨rfl, ⟨hsz, hP, hK, hD0⟩, hO, hnw⟩ := hv
  have hx := B.exec
  have hb := B.bytes
  have hr2 := B.returns
  have hts := atoms_spec (ws := wl yX10_init cX10_init 1) B.pre
  have hown : s.vm.findClass RX10 = some m.cls := findClass_of_methodNamed B.named
  have hlocks := B.notSynchronized
  have hin : meth.name = "<init>" := (name_of_methodNamed B.named B.method).1
  subst hsz
  have hD := hD0.self (sz := s.heap.size)
  rw [lg_entry_eq]
  have hl : lv_has (lg_sl ([Value.ref h0]) ++ List.replicate (1 - (lg_sl ([Value.ref h0])).length) Slot.unset).toArray 1 (lv_args 0 ([h0].map Value.ref)) := lv_entry ([h0].map Value.ref) (n := 1) (by rw [sl_refs]; exact Nat.le_of_ble_eq_true rfl)
  generalize (lg_sl ([Value.ref h0]) ++ List.replicate (1 - (lg_sl ([Value.ref h0])).length) Slot.unset).toArray = ls at hl ⊢
  have hls : ∀ (k x : Nat), [h0][k]? = some x → ls[k]? = some (.val (.ref x)) := fun k x hk => by
    have := hl.2.2 _ (lv_refs _ 0 k x hk)
    rw [Nat.zero_add] at this
    exact this
  have C : Cz D z cX10_init 1 RX10 p s m [Value.ref h0].toArray c (va_A [(h0, .inr (10, fi10))] s.heap.size) := ⟨hx, hb, hml, hown, fun w hw => hts w (List.mem_cons_of_mem _ hw), hK, fun q h => Or.inr h⟩
  refine obj_any C obw hl.1 (by decide +kernel) (hls 0 h0 rfl) (pl := 537) (by decide +kernel) (Nat.le_of_ble_eq_true rfl) (Nat.le_of_ble_eq_true rfl) ?_
  have hP : va_P D cls ((h0, .inr (10, fi10)) :: []) s.heap := hP
  have hS : va_S (va_A [(h0, .inr (10, fi10))] s.heap.size) s.heap s.heap [] := va_S.rf
  refine load_any (k := 0) (ln := 1) C (by decide +kernel) (hls 0 h0 rfl) ?_
  refine new_any (ci := 7) (r := (RX7, TX7, 12)) (pl := 540) (p2 := 541) (p3 := 514) C rfl (by decide +kernel) (by decide +kernel) (by decide +kernel) ini7 hP hD hS (Nat.le_of_ble_eq_true rfl) (Nat.le_of_ble_eq_true rfl) fun q7 H1 hP1 hD1 hS1 => ?_
  refine dup_any C (by decide +kernel) ?_
  refine sub_call (mc := 10) (ms := 390) (As := []) (pl := 0) (nw := nwX) C hl.1 ctw7 (.inr ⟨(by decide +kernel), hnw⟩) (ct7 l D z H1.size q7) rfl ⟨rfl, rfl, (Nat.le_of_ble_eq_true rfl), (Nat.le_of_ble_eq_true rfl)⟩ ⟨(Nat.le_of_ble_eq_true rfl), (Nat.le_of_ble_eq_true rfl)⟩ (Nat.le_of_ble_eq_true rfl) pz_blind (pz_pre C hP1 hD1) hP1 hD1 hS1 fun u7 H2 locs2 hP2 hD2 hS2 => ?_
  refine put_any (ci := 10) (r := (RX10, TX10, 11)) (slot := 0) (pf := 1218) (ty := .object "SwornCourt$People") C hin rfl (by decide +kernel) (by decide +kernel) rfl rfl hP2 hD2 hS2 (Nat.le_of_ble_eq_true rfl) fun H3 locs3 hP3 hD3 hS3 => ?_
  refine load_any (k := 0) (ln := 1) C (by decide +kernel) (hls 0 h0 rfl) ?_
  refine new_any (ci := 2) (r := (RX2, TX2, 5)) (pl := 597) (p2 := 598) (p3 := 515) C rfl (by decide +kernel) (by decide +kernel) (by decide +kernel) ini2 hP3 hD3 hS3 (Nat.le_of_ble_eq_true rfl) (Nat.le_of_ble_eq_true rfl) fun q2 H4 hP4 hD4 hS4 => ?_
  refine dup_any C (by decide +kernel) ?_
  refine sub_call (mc := 4) (ms := 80) (As := []) (pl := 0) (nw := nwX) C hl.1 ctw2 (.inr ⟨(by decide +kernel), hnw⟩) (ct2 l D z H4.size q2) rfl ⟨rfl, rfl, (Nat.le_of_ble_eq_true rfl), (Nat.le_of_ble_eq_true rfl)⟩ ⟨(Nat.le_of_ble_eq_true rfl), (Nat.le_of_ble_eq_true rfl)⟩ (Nat.le_of_ble_eq_true rfl) pz_blind (pz_pre C hP4 hD4) hP4 hD4 hS4 fun u2 H5 locs5 hP5 hD5 hS5 => ?_
  refine put_any (ci := 10) (r := (RX10, TX10, 11)) (slot := 1) (pf := 1219) (ty := .object "SwornCourt$Feuds") C hin rfl (by decide +kernel) (by decide +kernel) rfl rfl hP5 hD5 hS5 (Nat.le_of_ble_eq_true rfl) fun H6 locs6 hP6 hD6 hS6 => ?_
  refine load_any (k := 0) (ln := 1) C (by decide +kernel) (hls 0 h0 rfl) ?_
  refine new_any (ci := 4) (r := (RX4, TX4, 4)) (pl := 621) (p2 := 622) (p3 := 516) C rfl (by decide +kernel) (by decide +kernel) (by decide +kernel) ini4 hP6 hD6 hS6 (Nat.le_of_ble_eq_true rfl) (Nat.le_of_ble_eq_true rfl) fun q4 H7 hP7 hD7 hS7 => ?_
  refine dup_any C (by decide +kernel) ?_
  refine sub_call (mc := 1) (ms := 900) (As := []) (pl := 0) (nw := nwX) C hl.1 ctw4 (.inr ⟨(by decide +kernel), hnw⟩) (ct4 l D z H7.size q4) rfl ⟨rfl, rfl, (Nat.le_of_ble_eq_true rfl), (Nat.le_of_ble_eq_true rfl)⟩ ⟨(Nat.le_of_ble_eq_true rfl), (Nat.le_of_ble_eq_true rfl)⟩ (Nat.le_of_ble_eq_true rfl) pz_blind (pz_pre C hP7 hD7) hP7 hD7 hS7 fun u4 H8 locs8 hP8 hD8 hS8 => ?_
  refine put_any (ci := 10) (r := (RX10, TX10, 11)) (slot := 2) (pf := 1220) (ty := .object "SwornCourt$Kinship") C hin rfl (by decide +kernel) (by decide +kernel) rfl rfl hP8 hD8 hS8 (Nat.le_of_ble_eq_true rfl) fun H9 locs9 hP9 hD9 hS9 => ?_
  refine load_any (k := 0) (ln := 1) C (by decide +kernel) (hls 0 h0 rfl) ?_
  refine new_any (ci := 6) (r := (RX6, TX6, 3)) (pl := 645) (p2 := 646) (p3 := 517) C rfl (by decide +kernel) (by decide +kernel) (by decide +kernel) ini6 hP9 hD9 hS9 (Nat.le_of_ble_eq_true rfl) (Nat.le_of_ble_eq_true rfl) fun q6 H10 hP10 hD10 hS10 => ?_
  refine dup_any C (by decide +kernel) ?_
  refine sub_call (mc := 2) (ms := 189) (As := []) (pl := 647) (nw := nwX) C hl.1 ctw6 (.inl (by decide +kernel)) (ct6 l D z t0 H10.size q6) rfl ⟨rfl, rfl, (Nat.le_of_ble_eq_true rfl), (Nat.le_of_ble_eq_true rfl)⟩ ⟨(Nat.le_of_ble_eq_true rfl), (Nat.le_of_ble_eq_true rfl)⟩ (Nat.le_of_ble_eq_true rfl) pzo_blind (pzo_pre C hO hP10 hD10 hS10) hP10 hD10 hS10 fun u6 H11 locs11 hP11 hD11 hS11 => ?_
  refine put_any (ci := 10) (r := (RX10, TX10, 11)) (slot := 3) (pf := 1221) (ty := .object "SwornCourt$Laws") C hin rfl (by decide +kernel) (by decide +kernel) rfl rfl hP11 hD11 hS11 (Nat.le_of_ble_eq_true rfl) fun H12 locs12 hP12 hD12 hS12 => ?_
  refine load_any (k := 0) (ln := 1) C (by decide +kernel) (hls 0 h0 rfl) ?_
  refine new_any (ci := 5) (r := (RX5, TX5, 6)) (pl := 669) (p2 := 670) (p3 := 519) C rfl (by decide +kernel) (by decide +kernel) (by decide +kernel) ini5 hP12 hD12 hS12 (Nat.le_of_ble_eq_true rfl) (Nat.le_of_ble_eq_true rfl) fun q5 H13 hP13 hD13 hS13 => ?_
  refine dup_any C (by decide +kernel) ?_
  refine sub_call (mc := 4) (ms := 432) (As := []) (pl := 0) (nw := nwX) C hl.1 ctw5 (.inr ⟨(by decide +kernel), hnw⟩) (ct5 l D z t0 H13.size q5) rfl ⟨rfl, rfl, (Nat.le_of_ble_eq_true rfl), (Nat.le_of_ble_eq_true rfl)⟩ ⟨(Nat.le_of_ble_eq_true rfl), (Nat.le_of_ble_eq_true rfl)⟩ (Nat.le_of_ble_eq_true rfl) pzo_blind (pzo_pre C hO hP13 hD13 hS13) hP13 hD13 hS13 fun u5 H14 locs14 hP14 hD14 hS14 => ?_
  refine put_any (ci := 10) (r := (RX10, TX10, 11)) (slot := 4) (pf := 1222) (ty := .object "SwornCourt$LawReader") C hin rfl (by decide +kernel) (by decide +kernel) rfl rfl hP14 hD14 hS14 (Nat.le_of_ble_eq_true rfl) fun H15 locs15 hP15 hD15 hS15 => ?_
  refine load_any (k := 0) (ln := 1) C (by decide +kernel) (hls 0 h0 rfl) ?_
  refine new_any (ci := 1) (r := (RX1, TX1, 17)) (pl := 700) (p2 := 701) (p3 := 520) C rfl (by decide +kernel) (by decide +kernel) (by decide +kernel) ini1 hP15 hD15 hS15 (Nat.le_of_ble_eq_true rfl) (Nat.le_of_ble_eq_true rfl) fun q1 H16 hP16 hD16 hS16 => ?_
  refine dup_any C (by decide +kernel) ?_
  refine sub_call (mc := 14) (ms := 800) (As := []) (pl := 0) (nw := nwX) C hl.1 ctw1 (.inr ⟨(by decide +kernel), hnw⟩) (ct1 l D z H16.size q1) rfl ⟨rfl, rfl, (Nat.le_of_ble_eq_true rfl), (Nat.le_of_ble_eq_true rfl)⟩ ⟨(Nat.le_of_ble_eq_true rfl), (Nat.le_of_ble_eq_true rfl)⟩ (Nat.le_of_ble_eq_true rfl) pz_blind (pz_pre C hP16 hD16) hP16 hD16 hS16 fun u1 H17 locs17 hP17 hD17 hS17 => ?_
  refine put_any (ci := 10) (r := (RX10, TX10, 11)) (slot := 5) (pf := 1223) (ty := .object "SwornCourt$Docket") C hin rfl (by decide +kernel) (by decide +kernel) rfl rfl hP17 hD17 hS17 (Nat.le_of_ble_eq_true rfl) fun H18 locs18 hP18 hD18 hS18 => ?_
  refine load_any (k := 0) (ln := 1) C (by decide +kernel) (hls 0 h0 rfl) ?_
  refine new_any (ci := 0) (r := (RX0, TX0, 12)) (pl := 1063) (p2 := 1064) (p3 := 521) C rfl (by decide +kernel) (by decide +kernel) (by decide +kernel) ini0 hP18 hD18 hS18 (Nat.le_of_ble_eq_true rfl) (Nat.le_of_ble_eq_true rfl) fun q0 H19 hP19 hD19 hS19 => ?_
  refine dup_any C (by decide +kernel) ?_
  refine load_any (k := 0) (ln := 1) C (by decide +kernel) (hls 0 h0 rfl) (get_any (ci := 10) (r := (RX10, TX10, 11)) (slot := 0) (pf := 1218) C rfl (by decide +kernel) rfl hP19 ?_)
  refine load_any (k := 0) (ln := 1) C (by decide +kernel) (hls 0 h0 rfl) (get_any (ci := 10) (r := (RX10, TX10, 11)) (slot := 1) (pf := 1219) C rfl (by decide +kernel) rfl hP19 ?_)
  refine load_any (k := 0) (ln := 1) C (by decide +kernel) (hls 0 h0 rfl) (get_any (ci := 10) (r := (RX10, TX10, 11)) (slot := 2) (pf := 1220) C rfl (by decide +kernel) rfl hP19 ?_)
  refine load_any (k := 0) (ln := 1) C (by decide +kernel) (hls 0 h0 rfl) (get_any (ci := 10) (r := (RX10, TX10, 11)) (slot := 3) (pf := 1221) C rfl (by decide +kernel) rfl hP19 ?_)
  refine load_any (k := 0) (ln := 1) C (by decide +kernel) (hls 0 h0 rfl) (get_any (ci := 10) (r := (RX10, TX10, 11)) (slot := 5) (pf := 1223) C rfl (by decide +kernel) rfl hP19 ?_)
  refine sub_call (mc := 5) (ms := 180) (As := [.ref q7, .ref q2, .ref q4, .ref q6, .ref q1]) (pl := 1065) (nw := nwX) C hl.1 ctw0 (.inl (by decide +kernel)) (ct0 l D z H19.size q0 q7 q2 q4 q6 q1) rfl ⟨rfl, rfl, (Nat.le_of_ble_eq_true rfl), (Nat.le_of_ble_eq_true rfl)⟩ ⟨(Nat.le_of_ble_eq_true rfl), (Nat.le_of_ble_eq_true rfl)⟩ (Nat.le_of_ble_eq_true rfl) pz_blind (pz_pre C hP19 hD19) hP19 hD19 hS19 fun u0 H20 locs20 hP20 hD20 hS20 => ?_
  refine put_any (ci := 10) (r := (RX10, TX10, 11)) (slot := 6) (pf := 1224) (ty := .object "SwornCourt$Anew") C hin rfl (by decide +kernel) (by decide +kernel) rfl rfl hP20 hD20 hS20 (Nat.le_of_ble_eq_true rfl) fun H21 locs21 hP21 hD21 hS21 => ?_
  refine load_any (k := 0) (ln := 1) C (by decide +kernel) (hls 0 h0 rfl) ?_
  refine new_any (ci := 8) (r := (RX8, TX8, 4)) (pl := 1111) (p2 := 1112) (p3 := 522) C rfl (by decide +kernel) (by decide +kernel) (by decide +kernel) ini8 hP21 hD21 hS21 (Nat.le_of_ble_eq_true rfl) (Nat.le_of_ble_eq_true rfl) fun q8 H22 hP22 hD22 hS22 => ?_
  refine dup_any C (by decide +kernel) ?_
  refine sub_call (mc := 3) (ms := 180) (As := []) (pl := 0) (nw := nwX) C hl.1 ctw8 (.inr ⟨(by decide +kernel), hnw⟩) (ct8 l D z H22.size q8) rfl ⟨rfl, rfl, (Nat.le_of_ble_eq_true rfl), (Nat.le_of_ble_eq_true rfl)⟩ ⟨(Nat.le_of_ble_eq_true rfl), (Nat.le_of_ble_eq_true rfl)⟩ (Nat.le_of_ble_eq_true rfl) pz_blind (pz_pre C hP22 hD22) hP22 hD22 hS22 fun u8 H23 locs23 hP23 hD23 hS23 => ?_
  refine put_any (ci := 10) (r := (RX10, TX10, 11)) (slot := 7) (pf := 1225) (ty := .object "SwornCourt$Purse") C hin rfl (by decide +kernel) (by decide +kernel) rfl rfl hP23 hD23 hS23 (Nat.le_of_ble_eq_true rfl) fun H24 locs24 hP24 hD24 hS24 => ?_
  refine load_any (k := 0) (ln := 1) C (by decide +kernel) (hls 0 h0 rfl) ?_
  refine new_any (ci := 3) (r := (RX3, TX3, 18)) (pl := 1131) (p2 := 1132) (p3 := 523) C rfl (by decide +kernel) (by decide +kernel) (by decide +kernel) ini3 hP24 hD24 hS24 (Nat.le_of_ble_eq_true rfl) (Nat.le_of_ble_eq_true rfl) fun q3 H25 hP25 hD25 hS25 => ?_
  refine dup_any C (by decide +kernel) ?_
  refine load_any (k := 0) (ln := 1) C (by decide +kernel) (hls 0 h0 rfl) (get_any (ci := 10) (r := (RX10, TX10, 11)) (slot := 0) (pf := 1218) C rfl (by decide +kernel) rfl hP25 ?_)
  refine load_any (k := 0) (ln := 1) C (by decide +kernel) (hls 0 h0 rfl) (get_any (ci := 10) (r := (RX10, TX10, 11)) (slot := 5) (pf := 1223) C rfl (by decide +kernel) rfl hP25 ?_)
  refine load_any (k := 0) (ln := 1) C (by decide +kernel) (hls 0 h0 rfl) (get_any (ci := 10) (r := (RX10, TX10, 11)) (slot := 6) (pf := 1224) C rfl (by decide +kernel) rfl hP25 ?_)
  refine sub_call (mc := 8) (ms := 1330) (As := [.ref q7, .ref q1, .ref q0]) (pl := 1133) (nw := nwX) C hl.1 ctw3 (.inl (by decide +kernel)) (ct3 l D z H25.size q3 q7 q1 q0) rfl ⟨rfl, rfl, (Nat.le_of_ble_eq_true rfl), (Nat.le_of_ble_eq_true rfl)⟩ ⟨(Nat.le_of_ble_eq_true rfl), (Nat.le_of_ble_eq_true rfl)⟩ (Nat.le_of_ble_eq_true rfl) pz_blind (pz_pre C hP25 hD25) hP25 hD25 hS25 fun u3 H26 locs26 hP26 hD26 hS26 => ?_
  refine put_any (ci := 10) (r := (RX10, TX10, 11)) (slot := 8) (pf := 1226) (ty := .object "SwornCourt$Finding") C hin rfl (by decide +kernel) (by decide +kernel) rfl rfl hP26 hD26 hS26 (Nat.le_of_ble_eq_true rfl) fun H27 locs27 hP27 hD27 hS27 => ?_
  refine load_any (k := 0) (ln := 1) C (by decide +kernel) (hls 0 h0 rfl) ?_
  refine new_any (ci := 9) (r := (RX9, TX9, 4)) (pl := 1197) (p2 := 1198) (p3 := 524) C rfl (by decide +kernel) (by decide +kernel) (by decide +kernel) ini9 hP27 hD27 hS27 (Nat.le_of_ble_eq_true rfl) (Nat.le_of_ble_eq_true rfl) fun q9 H28 hP28 hD28 hS28 => ?_
  refine dup_any C (by decide +kernel) ?_
  refine sub_call (mc := 3) (ms := 90) (As := []) (pl := 0) (nw := nwX) C hl.1 ctw9 (.inr ⟨(by decide +kernel), hnw⟩) (ct9 l D z H28.size q9) rfl ⟨rfl, rfl, (Nat.le_of_ble_eq_true rfl), (Nat.le_of_ble_eq_true rfl)⟩ ⟨(Nat.le_of_ble_eq_true rfl), (Nat.le_of_ble_eq_true rfl)⟩ (Nat.le_of_ble_eq_true rfl) pz_blind (pz_pre C hP28 hD28) hP28 hD28 hS28 fun u9 H29 locs29 hP29 hD29 hS29 => ?_
  refine put_any (ci := 10) (r := (RX10, TX10, 11)) (slot := 9) (pf := 1227) (ty := .object "SwornCourt$Rings") C hin rfl (by decide +kernel) (by decide +kernel) rfl rfl hP29 hD29 hS29 (Nat.le_of_ble_eq_true rfl) fun H30 locs30 hP30 hD30 hS30 => ?_
  refine run_all C hin (ci := 10) (r := (RX10, TX10, 11)) rfl hls rfl (pcE := 151) os10b 146 0 _ _ _ _ H30 locs30 (by decide +kernel) oc10b rfl hP30 hD30 hS30 (Nat.le_of_ble_eq_true rfl) (Nat.le_of_ble_eq_true rfl) fun q99 H99 locs99 hP99 hD99 hS99 => ?_
  exact W.vret hx hb hr2 (fun t ht hW => ⟨⟨fun i => [h0, q7, u7 0, u7 1, u7 2, u7 3, u7 4, u7 5, u7 6, u7 7, u7 8, u7 9, q2, u2 0, u2 1, u2 2, u2 3, q4, u4 0, q6, u6 0, u6 1, q5, u5 0, u5 1, u5 2, u5 3, q1, u1 0, u1 1, u1 2, u1 3, u1 4, u1 5, u1 6, u1 7, u1 8, u1 9, u1 10, u1 11, u1 12, u1 13, q0, u0 0, u0 1, u0 2, u0 3, u0 4, q8, u8 0, u8 1, u8 2, q3, u3 0, u3 1, u3 2, u3 3, u3 4, u3 5, u3 6, u3 7, q9, u9 0, u9 1, u9 2].getD i 0, rfl, trivial, by rw [ht]; exact hP99, hD99⟩, hS99.F ht⟩) hS99.2.2 (by decide +kernel) hlocks
