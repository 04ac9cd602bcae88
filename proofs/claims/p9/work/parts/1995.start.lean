def R_law : String := "SwornCourtLaw"
def lw_P (b : Addr) (xs : List Int32) (args : Array Value) (s : State) : Prop := args = #[.ref b] ∧ s.IntsAt b xs ∧ xs.length ≤ 3584 ∧ (Jvm.Cond.and given_1 narrow_1).before args s = true
def lw_Q (_ : Array Value) (s : State) (o : Outcome) (t : State) : Prop := o = .returned (some (.int 1)) ∧ Framed s o t [] 600000 7302250
def lw_Z (below : List Frame) (a : Array Value) (s : State) : State → Prop := fun t => ∃ o, t.status = .running ∧ Ended t below o ∧ lw_Q a s o t
/-- the law's own end, with 1 on the stack, nothing written that was there before, its room as the claim has it -/
theorem lw_ret {p : Program} {l : Launch} {e : Env} {s : State} {m : MethodId} {below : List Frame} {meth : Method} {c : Code} {b : Nat} (hx : p.tables.exec = Jvm.exec) (hb : c.code = code) (hr : meth.sig.returnType = ret) (hlocks : meth.locks = false) {pc : Nat} {H : Heap} {ls : Array Slot} (hdg : decode code pc = .ok (.ireturn, 1)) : W p l e room_1 s m #[Value.ref b] below meth c H [] 600000 7302250 (lw_Z below #[Value.ref b] s) (F0 m pc ls [.int 1]) := by
  intro T hT X
  obtain ⟨fs, hret, hrun, hended, hW, hframe⟩ := X.leave (v := some (.int 1)) (hlocks := hlocks) (fun h => by rw [hr] at h; cases h)
  have hmeth' : T.vm.method? m = some meth := X.method'
  refine ⟨T.setFrames fs, ?_, .returned (some (.int 1)), hrun, hended, rfl, ⟨_, rfl⟩, hW, hframe⟩
  jvm_step X.here [X.here.top, hx, hb, hdg, hmeth', hr, ret, narrow_b1]
  (try refine ⟨rfl, ?_⟩); (try refine ⟨rfl, ?_⟩)
  first | (intro acts; rw [hret _ acts rfl rfl rfl]) | rw [hret _ _ rfl rfl rfl]
  exact Steps.refl _
/-- what holds at the law's entry: the machine, the code, the tables' words (any of lw_tbl by 'hts w (by decide +kernel)'), the script of L ints xs at the cell b, what the Statement gives of the start (any of its parts by flat_of_before) -/
def lw_At (p : Program) (s : State) (m : MethodId) (meth : Method) (c : Code) (b L : Nat) (xs : Nat → Int32) : Prop :=
  p.tables.exec = Jvm.exec ∧ c.code = code ∧ meth.sig.returnType = ret ∧ c.maxLocals = 4 ∧ s.vm.findClass R_law = some m.cls ∧ (∀ w ∈ lw_tbl, w.before #[Value.ref b] s = true) ∧ va_X b L xs s s.heap ∧ b < s.heap.size ∧ meth.locks = false ∧ (Jvm.Cond.and given_1 narrow_1).before #[Value.ref b] s = true ∧ (Jvm.Cond.code x code maxLocals ret).before #[Value.ref b] s = true
/-! the cells at first -/
theorem rK0 (f : Nat) : rK f 0 := by
  match f with
  | 0 => exact ⟨by decide, by decide⟩
  | 1 => exact ⟨by decide, by decide⟩
  | 2 => exact Or.inl rfl
  | n + 3 => exact trivial
theorem AFL_b (j : Nat) : 0 ≤ AFL.getD j 0 ∧ AFL.getD j 0 ≤ 12 := by
  by_cases h : j < 20
  · have : ∀ j : Nat, j < 20 → 0 ≤ AFL.getD j 0 ∧ AFL.getD j 0 ≤ 12 := by decide
    exact this j h
  · rw [List.getD_eq_getElem?_getD, List.getElem?_eq_none (by show 20 ≤ j; omega)]
    exact ⟨by decide, by decide⟩
theorem M0_ok : okM M0 := by
  intro i j
  unfold M0
  split
  · rw [kd_arr (j := 21) (c := 0) (n := 180) rfl]
    have := AFL_b j
    show in32 (AFL.getD j 0)
    exact ⟨by omega, by omega⟩
  · rw [kd_arr (j := 26) (c := 0) (n := 180) rfl]
    have := AFL_b j
    show in32 (AFL.getD j 0)
    exact ⟨by omega, by omega⟩
  · split
    · exact ⟨by decide, by decide⟩
    · exact rK0 _
  · split
    · exact ⟨by decide, by decide⟩
    · exact rK0 _
  · split
    · exact ⟨by decide, by decide⟩
    · exact ⟨by decide, by decide⟩
    · exact rK0 _
  · exact rK0 _
theorem TT0 : TT.all (fun q => q.2.all (fun i => decide (i.1 ≤ 0 ∧ 0 ≤ i.2))) = true := by decide +kernel
theorem tiv_0 (j s : Nat) : (tiv j s).1 ≤ 0 ∧ 0 ≤ (tiv j s).2 := by
  unfold tiv
  split
  next q hq =>
    have h := List.all_eq_true.mp TT0 q (List.mem_of_getElem? hq)
    rw [List.getD_eq_getElem?_getD]
    cases h2 : q.2[s % q.1]? with
    | none => exact ⟨by decide, by decide⟩
    | some i => exact of_decide_eq_true (List.all_eq_true.mp h i (List.mem_of_getElem? h2))
  next => exact ⟨by decide, by decide⟩
theorem M0_TT : okTT M0 := by
  intro i j
  unfold M0
  split
  · rw [tiv_a (i := (-2147483648, 2147483647)) rfl]
    have := AFL_b j
    exact ⟨by show (-2147483648 : Int) ≤ AFL.getD j 0; omega, by show AFL.getD j 0 ≤ (2147483647 : Int); omega⟩
  · rw [tiv_a (i := (-2147483648, 2147483647)) rfl]
    have := AFL_b j
    exact ⟨by show (-2147483648 : Int) ≤ AFL.getD j 0; omega, by show AFL.getD j 0 ≤ (2147483647 : Int); omega⟩
  · split
    · exact ⟨by decide, by decide⟩
    · exact tiv_0 _ _
  · split
    · exact ⟨by decide, by decide⟩
    · exact tiv_0 _ _
  · split
    · exact ⟨by decide, by decide⟩
    · exact ⟨by decide, by decide⟩
    · exact tiv_0 _ _
  · exact tiv_0 _ _
theorem M0_PJ : PJ M0 := ⟨⟨fun j hj => by
    have hj : (j : Int) < 0 := hj
    omega, fun i j hi => by
    have hi : (i : Int) < 0 := hi
    omega, rfl, by show (0 : Int) ≤ 100; omega⟩, rfl, rfl, rfl, rfl, rfl, rfl, rfl, fun _ => rfl, fun _ => rfl, fun _ => rfl, fun _ => rfl, fun _ => rfl, fun _ => rfl, fun _ => rfl, fun k hk => absurd (show (k : Int) < 0 from hk) (by omega), fun k hk => absurd (show (k : Int) < 0 from hk) (by omega), fun p hp => absurd (show p < 0 from hp) (by omega)⟩
theorem ent_cg {g g' : Gx} (h1 : g.2.1 = g'.2.1) (h2 : g.2.2.1 = g'.2.2.1) (c : SC) (row : Nat → Int) : ent g c row = ent g' c row := by
  match c with
  | .inl (k, n) =>
    show Sum.inl (g.2.2.1 k, _) = Sum.inl (g'.2.2.1 k, _)
    rw [h2]
  | .inr (ci, fk) =>
    show Sum.inr (ci, _) = Sum.inr (ci, _)
    congr 2
    refine List.ext_getElem? fun t => ?_
    rw [List.getElem?_mapIdx, List.getElem?_mapIdx]
    congr 1
    funext f
    match f with
    | 0 => rfl
    | 1 => rfl
    | 2 => rfl
    | n + 3 =>
      show Value.ref (g.2.1 n) = Value.ref (g'.2.1 n)
      rw [h1]
theorem wsOf_cg {g g' : Gx} (h1 : g.2.1 = g'.2.1) (h2 : g.2.2.1 = g'.2.2.1) (M : Mm) : wsOf g M = wsOf g' M := by
  refine List.ext_getElem? fun t => ?_
  simp only [wsOf, List.getElem?_mapIdx]
  rw [h1]
  congr 1
  funext c
  rw [ent_cg h1 h2]
theorem wXM (D : va_G) (z : KZ) (q : Nat → Nat) : wX D z q ++ wM D z q = wsOf (gz D z q) M0 := by
  rw [← wsR_all]
  have e : SH = SH.take 65 ++ SH.drop 65 := (List.take_append_drop 65 SH).symm
  have e2 : wsR (gz D z q) M0 (SH.take 65 ++ SH.drop 65) 0 = wX D z q ++ wM D z q := by
    rw [wsR_app]
    rfl
  rw [← e2, ← e]
/-- the addresses, put together -/
def qq (qx u : Nat → Nat) (q65 : Nat) (i : Nat) : Nat := bif Nat.blt i 65 then qx i else bif Nat.beq i 65 then q65 else u (i - 66)
set_option maxRecDepth 100000 in
theorem eXq (D : va_G) (z : KZ) (qx u : Nat → Nat) (q65 : Nat) : wX D z (qq qx u q65) = wX D z qx := by
  rw [eX, eX]
  rfl
theorem runF_ap {La : List Nat} {q : Nat → Nat} : ∀ {o1 o2 : List Dd} {fs f2 : List Value} {i j : Nat}, runF La o1 fs q i = f2 → i + runC o1 = j → runF La (o1 ++ o2) fs q i = runF La o2 f2 q j := by
  intro o1
  induction o1 with
  | nil => intro o2 fs f2 i j h hj; obtain rfl : fs = f2 := h; obtain rfl : i + 0 = j := hj; rfl
  | cons o o1 ih =>
    intro o2 fs f2 i j h hj
    obtain ⟨t, r⟩ := o
    match t, h, hj with
    | 0, h, hj => exact ih (i := i + 1) h (by have hj : i + (1 + runC o1) = j := hj; omega)
    | 1, h, hj => exact ih (i := i) h (by have hj : i + (0 + runC o1) = j := hj; omega)
    | n + 2, h, hj => exact ih (i := i) h (by have hj : i + (0 + runC o1) = j := hj; omega)
set_option maxRecDepth 100000 in
theorem eF11_0 (q65 : Nat) (u : Nat → Nat) : runF [q65] [(0, 4, 2, 2, 2648, 0, 30), (0, 12, 2, 3, 2649, 0, 30), (0, 20, 2, 4, 2650, 0, 30), (0, 28, 2, 5, 2651, 0, 30), (0, 36, 2, 6, 2652, 0, 30), (0, 44, 2, 7, 2653, 0, 30)] [.int (Int32.ofInt 0), .int (Int32.ofInt 0), .null, .null, .null, .null, .null, .null, .null, .int (Int32.ofInt 0), .null, .int (Int32.ofInt 0), .null, .null, .int (Int32.ofInt 0), .int (Int32.ofInt 0), .int (Int32.ofInt 0), .null, .null, .null, .null, .int (Int32.ofInt 0), .null, .null, .null, .null, .null, .null, .int (Int32.ofInt 0), .null, .null, .null, .null, .null, .int (Int32.ofInt 0), .int (Int32.ofInt 0), .null, .int (Int32.ofInt 0), .null, .null, .int (Int32.ofInt 0), .int (Int32.ofInt 0), .int (Int32.ofInt 0), .int (Int32.ofInt 0), .long (Int64.ofInt 0), .int (Int32.ofInt 0), .int (Int32.ofInt 0), .int (Int32.ofInt 0), .null, .null, .null, .null, .null, .int (Int32.ofInt 0), .null, .null, .null, .null, .null, .null, .null, .null, .int (Int32.ofInt 0), .int (Int32.ofInt 0), .int (Int32.ofInt 0), .int (Int32.ofInt 0), .null] u 0 = [.int (Int32.ofInt 0), .int (Int32.ofInt 0), .ref (u 0), .ref (u 1), .ref (u 2), .ref (u 3), .ref (u 4), .ref (u 5), .null, .int (Int32.ofInt 0), .null, .int (Int32.ofInt 0), .null, .null, .int (Int32.ofInt 0), .int (Int32.ofInt 0), .int (Int32.ofInt 0), .null, .null, .null, .null, .int (Int32.ofInt 0), .null, .null, .null, .null, .null, .null, .int (Int32.ofInt 0), .null, .null, .null, .null, .null, .int (Int32.ofInt 0), .int (Int32.ofInt 0), .null, .int (Int32.ofInt 0), .null, .null, .int (Int32.ofInt 0), .int (Int32.ofInt 0), .int (Int32.ofInt 0), .int (Int32.ofInt 0), .long (Int64.ofInt 0), .int (Int32.ofInt 0), .int (Int32.ofInt 0), .int (Int32.ofInt 0), .null, .null, .null, .null, .null, .int (Int32.ofInt 0), .null, .null, .null, .null, .null, .null, .null, .null, .int (Int32.ofInt 0), .int (Int32.ofInt 0), .int (Int32.ofInt 0), .int (Int32.ofInt 0), .null] := rfl
set_option maxRecDepth 100000 in
theorem eF11_1 (q65 : Nat) (u : Nat → Nat) : runF [q65] [(0, 52, 2, 8, 2654, 0, 30), (0, 60, 3, 10, 2656, 0, 180), (0, 69, 2, 12, 2658, 0, 80), (0, 77, 3, 13, 2659, 0, 240), (1, 86, 1, 15, 2661, 0, -1), (0, 91, 2, 17, 2663, 0, 8)] [.int (Int32.ofInt 0), .int (Int32.ofInt 0), .ref (u 0), .ref (u 1), .ref (u 2), .ref (u 3), .ref (u 4), .ref (u 5), .null, .int (Int32.ofInt 0), .null, .int (Int32.ofInt 0), .null, .null, .int (Int32.ofInt 0), .int (Int32.ofInt 0), .int (Int32.ofInt 0), .null, .null, .null, .null, .int (Int32.ofInt 0), .null, .null, .null, .null, .null, .null, .int (Int32.ofInt 0), .null, .null, .null, .null, .null, .int (Int32.ofInt 0), .int (Int32.ofInt 0), .null, .int (Int32.ofInt 0), .null, .null, .int (Int32.ofInt 0), .int (Int32.ofInt 0), .int (Int32.ofInt 0), .int (Int32.ofInt 0), .long (Int64.ofInt 0), .int (Int32.ofInt 0), .int (Int32.ofInt 0), .int (Int32.ofInt 0), .null, .null, .null, .null, .null, .int (Int32.ofInt 0), .null, .null, .null, .null, .null, .null, .null, .null, .int (Int32.ofInt 0), .int (Int32.ofInt 0), .int (Int32.ofInt 0), .int (Int32.ofInt 0), .null] u 6 = [.int (Int32.ofInt 0), .int (Int32.ofInt 0), .ref (u 0), .ref (u 1), .ref (u 2), .ref (u 3), .ref (u 4), .ref (u 5), .ref (u 6), .int (Int32.ofInt 0), .ref (u 7), .int (Int32.ofInt 0), .ref (u 8), .ref (u 9), .int (Int32.ofInt 0), .int (Int32.ofInt (-1)), .int (Int32.ofInt 0), .ref (u 10), .null, .null, .null, .int (Int32.ofInt 0), .null, .null, .null, .null, .null, .null, .int (Int32.ofInt 0), .null, .null, .null, .null, .null, .int (Int32.ofInt 0), .int (Int32.ofInt 0), .null, .int (Int32.ofInt 0), .null, .null, .int (Int32.ofInt 0), .int (Int32.ofInt 0), .int (Int32.ofInt 0), .int (Int32.ofInt 0), .long (Int64.ofInt 0), .int (Int32.ofInt 0), .int (Int32.ofInt 0), .int (Int32.ofInt 0), .null, .null, .null, .null, .null, .int (Int32.ofInt 0), .null, .null, .null, .null, .null, .null, .null, .null, .int (Int32.ofInt 0), .int (Int32.ofInt 0), .int (Int32.ofInt 0), .int (Int32.ofInt 0), .null] := rfl
set_option maxRecDepth 100000 in
theorem eF11_2 (q65 : Nat) (u : Nat → Nat) : runF [q65] [(0, 99, 3, 18, 2664, 0, 160), (0, 108, 2, 19, 2665, 0, 8), (0, 116, 3, 20, 2666, 0, 160), (0, 125, 2, 22, 2668, 0, 20), (0, 133, 2, 23, 2669, 0, 20), (0, 141, 2, 24, 2670, 0, 20)] [.int (Int32.ofInt 0), .int (Int32.ofInt 0), .ref (u 0), .ref (u 1), .ref (u 2), .ref (u 3), .ref (u 4), .ref (u 5), .ref (u 6), .int (Int32.ofInt 0), .ref (u 7), .int (Int32.ofInt 0), .ref (u 8), .ref (u 9), .int (Int32.ofInt 0), .int (Int32.ofInt (-1)), .int (Int32.ofInt 0), .ref (u 10), .null, .null, .null, .int (Int32.ofInt 0), .null, .null, .null, .null, .null, .null, .int (Int32.ofInt 0), .null, .null, .null, .null, .null, .int (Int32.ofInt 0), .int (Int32.ofInt 0), .null, .int (Int32.ofInt 0), .null, .null, .int (Int32.ofInt 0), .int (Int32.ofInt 0), .int (Int32.ofInt 0), .int (Int32.ofInt 0), .long (Int64.ofInt 0), .int (Int32.ofInt 0), .int (Int32.ofInt 0), .int (Int32.ofInt 0), .null, .null, .null, .null, .null, .int (Int32.ofInt 0), .null, .null, .null, .null, .null, .null, .null, .null, .int (Int32.ofInt 0), .int (Int32.ofInt 0), .int (Int32.ofInt 0), .int (Int32.ofInt 0), .null] u 11 = [.int (Int32.ofInt 0), .int (Int32.ofInt 0), .ref (u 0), .ref (u 1), .ref (u 2), .ref (u 3), .ref (u 4), .ref (u 5), .ref (u 6), .int (Int32.ofInt 0), .ref (u 7), .int (Int32.ofInt 0), .ref (u 8), .ref (u 9), .int (Int32.ofInt 0), .int (Int32.ofInt (-1)), .int (Int32.ofInt 0), .ref (u 10), .ref (u 11), .ref (u 12), .ref (u 13), .int (Int32.ofInt 0), .ref (u 14), .ref (u 15), .ref (u 16), .null, .null, .null, .int (Int32.ofInt 0), .null, .null, .null, .null, .null, .int (Int32.ofInt 0), .int (Int32.ofInt 0), .null, .int (Int32.ofInt 0), .null, .null, .int (Int32.ofInt 0), .int (Int32.ofInt 0), .int (Int32.ofInt 0), .int (Int32.ofInt 0), .long (Int64.ofInt 0), .int (Int32.ofInt 0), .int (Int32.ofInt 0), .int (Int32.ofInt 0), .null, .null, .null, .null, .null, .int (Int32.ofInt 0), .null, .null, .null, .null, .null, .null, .null, .null, .int (Int32.ofInt 0), .int (Int32.ofInt 0), .int (Int32.ofInt 0), .int (Int32.ofInt 0), .null] := rfl
set_option maxRecDepth 100000 in
theorem eF11_3 (q65 : Nat) (u : Nat → Nat) : runF [q65] [(0, 149, 2, 25, 2671, 0, 20), (0, 157, 2, 26, 2672, 0, 20), (0, 165, 2, 27, 2673, 0, 20), (0, 173, 2, 29, 2675, 0, 120), (0, 181, 2, 30, 2676, 0, 120), (0, 189, 2, 31, 2677, 0, 120)] [.int (Int32.ofInt 0), .int (Int32.ofInt 0), .ref (u 0), .ref (u 1), .ref (u 2), .ref (u 3), .ref (u 4), .ref (u 5), .ref (u 6), .int (Int32.ofInt 0), .ref (u 7), .int (Int32.ofInt 0), .ref (u 8), .ref (u 9), .int (Int32.ofInt 0), .int (Int32.ofInt (-1)), .int (Int32.ofInt 0), .ref (u 10), .ref (u 11), .ref (u 12), .ref (u 13), .int (Int32.ofInt 0), .ref (u 14), .ref (u 15), .ref (u 16), .null, .null, .null, .int (Int32.ofInt 0), .null, .null, .null, .null, .null, .int (Int32.ofInt 0), .int (Int32.ofInt 0), .null, .int (Int32.ofInt 0), .null, .null, .int (Int32.ofInt 0), .int (Int32.ofInt 0), .int (Int32.ofInt 0), .int (Int32.ofInt 0), .long (Int64.ofInt 0), .int (Int32.ofInt 0), .int (Int32.ofInt 0), .int (Int32.ofInt 0), .null, .null, .null, .null, .null, .int (Int32.ofInt 0), .null, .null, .null, .null, .null, .null, .null, .null, .int (Int32.ofInt 0), .int (Int32.ofInt 0), .int (Int32.ofInt 0), .int (Int32.ofInt 0), .null] u 17 = [.int (Int32.ofInt 0), .int (Int32.ofInt 0), .ref (u 0), .ref (u 1), .ref (u 2), .ref (u 3), .ref (u 4), .ref (u 5), .ref (u 6), .int (Int32.ofInt 0), .ref (u 7), .int (Int32.ofInt 0), .ref (u 8), .ref (u 9), .int (Int32.ofInt 0), .int (Int32.ofInt (-1)), .int (Int32.ofInt 0), .ref (u 10), .ref (u 11), .ref (u 12), .ref (u 13), .int (Int32.ofInt 0), .ref (u 14), .ref (u 15), .ref (u 16), .ref (u 17), .ref (u 18), .ref (u 19), .int (Int32.ofInt 0), .ref (u 20), .ref (u 21), .ref (u 22), .null, .null, .int (Int32.ofInt 0), .int (Int32.ofInt 0), .null, .int (Int32.ofInt 0), .null, .null, .int (Int32.ofInt 0), .int (Int32.ofInt 0), .int (Int32.ofInt 0), .int (Int32.ofInt 0), .long (Int64.ofInt 0), .int (Int32.ofInt 0), .int (Int32.ofInt 0), .int (Int32.ofInt 0), .null, .null, .null, .null, .null, .int (Int32.ofInt 0), .null, .null, .null, .null, .null, .null, .null, .null, .int (Int32.ofInt 0), .int (Int32.ofInt 0), .int (Int32.ofInt 0), .int (Int32.ofInt 0), .null] := rfl
set_option maxRecDepth 100000 in
theorem eF11_4 (q65 : Nat) (u : Nat → Nat) : runF [q65] [(0, 197, 2, 32, 2678, 1, 120), (0, 205, 2, 33, 2679, 0, 120), (0, 213, 3, 36, 2682, 0, 180), (1, 222, 3, 37, 2683, 0, 1000), (0, 229, 2, 38, 2684, 0, 30), (0, 237, 2, 39, 2685, 0, 30)] [.int (Int32.ofInt 0), .int (Int32.ofInt 0), .ref (u 0), .ref (u 1), .ref (u 2), .ref (u 3), .ref (u 4), .ref (u 5), .ref (u 6), .int (Int32.ofInt 0), .ref (u 7), .int (Int32.ofInt 0), .ref (u 8), .ref (u 9), .int (Int32.ofInt 0), .int (Int32.ofInt (-1)), .int (Int32.ofInt 0), .ref (u 10), .ref (u 11), .ref (u 12), .ref (u 13), .int (Int32.ofInt 0), .ref (u 14), .ref (u 15), .ref (u 16), .ref (u 17), .ref (u 18), .ref (u 19), .int (Int32.ofInt 0), .ref (u 20), .ref (u 21), .ref (u 22), .null, .null, .int (Int32.ofInt 0), .int (Int32.ofInt 0), .null, .int (Int32.ofInt 0), .null, .null, .int (Int32.ofInt 0), .int (Int32.ofInt 0), .int (Int32.ofInt 0), .int (Int32.ofInt 0), .long (Int64.ofInt 0), .int (Int32.ofInt 0), .int (Int32.ofInt 0), .int (Int32.ofInt 0), .null, .null, .null, .null, .null, .int (Int32.ofInt 0), .null, .null, .null, .null, .null, .null, .null, .null, .int (Int32.ofInt 0), .int (Int32.ofInt 0), .int (Int32.ofInt 0), .int (Int32.ofInt 0), .null] u 23 = [.int (Int32.ofInt 0), .int (Int32.ofInt 0), .ref (u 0), .ref (u 1), .ref (u 2), .ref (u 3), .ref (u 4), .ref (u 5), .ref (u 6), .int (Int32.ofInt 0), .ref (u 7), .int (Int32.ofInt 0), .ref (u 8), .ref (u 9), .int (Int32.ofInt 0), .int (Int32.ofInt (-1)), .int (Int32.ofInt 0), .ref (u 10), .ref (u 11), .ref (u 12), .ref (u 13), .int (Int32.ofInt 0), .ref (u 14), .ref (u 15), .ref (u 16), .ref (u 17), .ref (u 18), .ref (u 19), .int (Int32.ofInt 0), .ref (u 20), .ref (u 21), .ref (u 22), .ref (u 23), .ref (u 24), .int (Int32.ofInt 0), .int (Int32.ofInt 0), .ref (u 25), .int (Int32.ofInt 1000), .ref (u 26), .ref (u 27), .int (Int32.ofInt 0), .int (Int32.ofInt 0), .int (Int32.ofInt 0), .int (Int32.ofInt 0), .long (Int64.ofInt 0), .int (Int32.ofInt 0), .int (Int32.ofInt 0), .int (Int32.ofInt 0), .null, .null, .null, .null, .null, .int (Int32.ofInt 0), .null, .null, .null, .null, .null, .null, .null, .null, .int (Int32.ofInt 0), .int (Int32.ofInt 0), .int (Int32.ofInt 0), .int (Int32.ofInt 0), .null] := rfl
set_option maxRecDepth 100000 in
theorem eF11_5 (q65 : Nat) (u : Nat → Nat) : runF [q65] [(0, 245, 2, 48, 2694, 0, 20), (0, 253, 2, 49, 2695, 0, 20), (0, 261, 2, 50, 2696, 0, 20), (0, 269, 2, 51, 2697, 0, 120), (0, 277, 2, 52, 2698, 0, 20), (0, 285, 1, 54, 2700, 0, 5)] [.int (Int32.ofInt 0), .int (Int32.ofInt 0), .ref (u 0), .ref (u 1), .ref (u 2), .ref (u 3), .ref (u 4), .ref (u 5), .ref (u 6), .int (Int32.ofInt 0), .ref (u 7), .int (Int32.ofInt 0), .ref (u 8), .ref (u 9), .int (Int32.ofInt 0), .int (Int32.ofInt (-1)), .int (Int32.ofInt 0), .ref (u 10), .ref (u 11), .ref (u 12), .ref (u 13), .int (Int32.ofInt 0), .ref (u 14), .ref (u 15), .ref (u 16), .ref (u 17), .ref (u 18), .ref (u 19), .int (Int32.ofInt 0), .ref (u 20), .ref (u 21), .ref (u 22), .ref (u 23), .ref (u 24), .int (Int32.ofInt 0), .int (Int32.ofInt 0), .ref (u 25), .int (Int32.ofInt 1000), .ref (u 26), .ref (u 27), .int (Int32.ofInt 0), .int (Int32.ofInt 0), .int (Int32.ofInt 0), .int (Int32.ofInt 0), .long (Int64.ofInt 0), .int (Int32.ofInt 0), .int (Int32.ofInt 0), .int (Int32.ofInt 0), .null, .null, .null, .null, .null, .int (Int32.ofInt 0), .null, .null, .null, .null, .null, .null, .null, .null, .int (Int32.ofInt 0), .int (Int32.ofInt 0), .int (Int32.ofInt 0), .int (Int32.ofInt 0), .null] u 28 = [.int (Int32.ofInt 0), .int (Int32.ofInt 0), .ref (u 0), .ref (u 1), .ref (u 2), .ref (u 3), .ref (u 4), .ref (u 5), .ref (u 6), .int (Int32.ofInt 0), .ref (u 7), .int (Int32.ofInt 0), .ref (u 8), .ref (u 9), .int (Int32.ofInt 0), .int (Int32.ofInt (-1)), .int (Int32.ofInt 0), .ref (u 10), .ref (u 11), .ref (u 12), .ref (u 13), .int (Int32.ofInt 0), .ref (u 14), .ref (u 15), .ref (u 16), .ref (u 17), .ref (u 18), .ref (u 19), .int (Int32.ofInt 0), .ref (u 20), .ref (u 21), .ref (u 22), .ref (u 23), .ref (u 24), .int (Int32.ofInt 0), .int (Int32.ofInt 0), .ref (u 25), .int (Int32.ofInt 1000), .ref (u 26), .ref (u 27), .int (Int32.ofInt 0), .int (Int32.ofInt 0), .int (Int32.ofInt 0), .int (Int32.ofInt 0), .long (Int64.ofInt 0), .int (Int32.ofInt 0), .int (Int32.ofInt 0), .int (Int32.ofInt 0), .ref (u 28), .ref (u 29), .ref (u 30), .ref (u 31), .ref (u 32), .int (Int32.ofInt 0), .ref (u 33), .null, .null, .null, .null, .null, .null, .null, .int (Int32.ofInt 0), .int (Int32.ofInt 0), .int (Int32.ofInt 0), .int (Int32.ofInt 0), .null] := rfl
set_option maxRecDepth 100000 in
theorem eF11_6 (q65 : Nat) (u : Nat → Nat) : runF [q65] [(0, 292, 1, 55, 2701, 0, 5), (0, 299, 2, 56, 2702, 0, 50), (0, 307, 3, 57, 2703, 1, 5120), (0, 316, 1, 58, 2704, 0, 5), (0, 323, 1, 59, 2705, 0, 5), (0, 330, 2, 60, 2706, 0, 30)] [.int (Int32.ofInt 0), .int (Int32.ofInt 0), .ref (u 0), .ref (u 1), .ref (u 2), .ref (u 3), .ref (u 4), .ref (u 5), .ref (u 6), .int (Int32.ofInt 0), .ref (u 7), .int (Int32.ofInt 0), .ref (u 8), .ref (u 9), .int (Int32.ofInt 0), .int (Int32.ofInt (-1)), .int (Int32.ofInt 0), .ref (u 10), .ref (u 11), .ref (u 12), .ref (u 13), .int (Int32.ofInt 0), .ref (u 14), .ref (u 15), .ref (u 16), .ref (u 17), .ref (u 18), .ref (u 19), .int (Int32.ofInt 0), .ref (u 20), .ref (u 21), .ref (u 22), .ref (u 23), .ref (u 24), .int (Int32.ofInt 0), .int (Int32.ofInt 0), .ref (u 25), .int (Int32.ofInt 1000), .ref (u 26), .ref (u 27), .int (Int32.ofInt 0), .int (Int32.ofInt 0), .int (Int32.ofInt 0), .int (Int32.ofInt 0), .long (Int64.ofInt 0), .int (Int32.ofInt 0), .int (Int32.ofInt 0), .int (Int32.ofInt 0), .ref (u 28), .ref (u 29), .ref (u 30), .ref (u 31), .ref (u 32), .int (Int32.ofInt 0), .ref (u 33), .null, .null, .null, .null, .null, .null, .null, .int (Int32.ofInt 0), .int (Int32.ofInt 0), .int (Int32.ofInt 0), .int (Int32.ofInt 0), .null] u 34 = [.int (Int32.ofInt 0), .int (Int32.ofInt 0), .ref (u 0), .ref (u 1), .ref (u 2), .ref (u 3), .ref (u 4), .ref (u 5), .ref (u 6), .int (Int32.ofInt 0), .ref (u 7), .int (Int32.ofInt 0), .ref (u 8), .ref (u 9), .int (Int32.ofInt 0), .int (Int32.ofInt (-1)), .int (Int32.ofInt 0), .ref (u 10), .ref (u 11), .ref (u 12), .ref (u 13), .int (Int32.ofInt 0), .ref (u 14), .ref (u 15), .ref (u 16), .ref (u 17), .ref (u 18), .ref (u 19), .int (Int32.ofInt 0), .ref (u 20), .ref (u 21), .ref (u 22), .ref (u 23), .ref (u 24), .int (Int32.ofInt 0), .int (Int32.ofInt 0), .ref (u 25), .int (Int32.ofInt 1000), .ref (u 26), .ref (u 27), .int (Int32.ofInt 0), .int (Int32.ofInt 0), .int (Int32.ofInt 0), .int (Int32.ofInt 0), .long (Int64.ofInt 0), .int (Int32.ofInt 0), .int (Int32.ofInt 0), .int (Int32.ofInt 0), .ref (u 28), .ref (u 29), .ref (u 30), .ref (u 31), .ref (u 32), .int (Int32.ofInt 0), .ref (u 33), .ref (u 34), .ref (u 35), .ref (u 36), .ref (u 37), .ref (u 38), .ref (u 39), .null, .int (Int32.ofInt 0), .int (Int32.ofInt 0), .int (Int32.ofInt 0), .int (Int32.ofInt 0), .null] := rfl
set_option maxRecDepth 100000 in
theorem eF11_7 (q65 : Nat) (u : Nat → Nat) : runF [q65] [(0, 338, 2, 61, 2707, 0, 30), (0, 346, 2, 66, 2712, 0, 30)] [.int (Int32.ofInt 0), .int (Int32.ofInt 0), .ref (u 0), .ref (u 1), .ref (u 2), .ref (u 3), .ref (u 4), .ref (u 5), .ref (u 6), .int (Int32.ofInt 0), .ref (u 7), .int (Int32.ofInt 0), .ref (u 8), .ref (u 9), .int (Int32.ofInt 0), .int (Int32.ofInt (-1)), .int (Int32.ofInt 0), .ref (u 10), .ref (u 11), .ref (u 12), .ref (u 13), .int (Int32.ofInt 0), .ref (u 14), .ref (u 15), .ref (u 16), .ref (u 17), .ref (u 18), .ref (u 19), .int (Int32.ofInt 0), .ref (u 20), .ref (u 21), .ref (u 22), .ref (u 23), .ref (u 24), .int (Int32.ofInt 0), .int (Int32.ofInt 0), .ref (u 25), .int (Int32.ofInt 1000), .ref (u 26), .ref (u 27), .int (Int32.ofInt 0), .int (Int32.ofInt 0), .int (Int32.ofInt 0), .int (Int32.ofInt 0), .long (Int64.ofInt 0), .int (Int32.ofInt 0), .int (Int32.ofInt 0), .int (Int32.ofInt 0), .ref (u 28), .ref (u 29), .ref (u 30), .ref (u 31), .ref (u 32), .int (Int32.ofInt 0), .ref (u 33), .ref (u 34), .ref (u 35), .ref (u 36), .ref (u 37), .ref (u 38), .ref (u 39), .null, .int (Int32.ofInt 0), .int (Int32.ofInt 0), .int (Int32.ofInt 0), .int (Int32.ofInt 0), .null] u 40 = [.int (Int32.ofInt 0), .int (Int32.ofInt 0), .ref (u 0), .ref (u 1), .ref (u 2), .ref (u 3), .ref (u 4), .ref (u 5), .ref (u 6), .int (Int32.ofInt 0), .ref (u 7), .int (Int32.ofInt 0), .ref (u 8), .ref (u 9), .int (Int32.ofInt 0), .int (Int32.ofInt (-1)), .int (Int32.ofInt 0), .ref (u 10), .ref (u 11), .ref (u 12), .ref (u 13), .int (Int32.ofInt 0), .ref (u 14), .ref (u 15), .ref (u 16), .ref (u 17), .ref (u 18), .ref (u 19), .int (Int32.ofInt 0), .ref (u 20), .ref (u 21), .ref (u 22), .ref (u 23), .ref (u 24), .int (Int32.ofInt 0), .int (Int32.ofInt 0), .ref (u 25), .int (Int32.ofInt 1000), .ref (u 26), .ref (u 27), .int (Int32.ofInt 0), .int (Int32.ofInt 0), .int (Int32.ofInt 0), .int (Int32.ofInt 0), .long (Int64.ofInt 0), .int (Int32.ofInt 0), .int (Int32.ofInt 0), .int (Int32.ofInt 0), .ref (u 28), .ref (u 29), .ref (u 30), .ref (u 31), .ref (u 32), .int (Int32.ofInt 0), .ref (u 33), .ref (u 34), .ref (u 35), .ref (u 36), .ref (u 37), .ref (u 38), .ref (u 39), .ref (u 40), .int (Int32.ofInt 0), .int (Int32.ofInt 0), .int (Int32.ofInt 0), .int (Int32.ofInt 0), .ref (u 41)] := rfl
set_option maxRecDepth 100000 in
theorem os11_ap : os11 = [(0, 4, 2, 2, 2648, 0, 30), (0, 12, 2, 3, 2649, 0, 30), (0, 20, 2, 4, 2650, 0, 30), (0, 28, 2, 5, 2651, 0, 30), (0, 36, 2, 6, 2652, 0, 30), (0, 44, 2, 7, 2653, 0, 30)] ++ ([(0, 52, 2, 8, 2654, 0, 30), (0, 60, 3, 10, 2656, 0, 180), (0, 69, 2, 12, 2658, 0, 80), (0, 77, 3, 13, 2659, 0, 240), (1, 86, 1, 15, 2661, 0, -1), (0, 91, 2, 17, 2663, 0, 8)] ++ ([(0, 99, 3, 18, 2664, 0, 160), (0, 108, 2, 19, 2665, 0, 8), (0, 116, 3, 20, 2666, 0, 160), (0, 125, 2, 22, 2668, 0, 20), (0, 133, 2, 23, 2669, 0, 20), (0, 141, 2, 24, 2670, 0, 20)] ++ ([(0, 149, 2, 25, 2671, 0, 20), (0, 157, 2, 26, 2672, 0, 20), (0, 165, 2, 27, 2673, 0, 20), (0, 173, 2, 29, 2675, 0, 120), (0, 181, 2, 30, 2676, 0, 120), (0, 189, 2, 31, 2677, 0, 120)] ++ ([(0, 197, 2, 32, 2678, 1, 120), (0, 205, 2, 33, 2679, 0, 120), (0, 213, 3, 36, 2682, 0, 180), (1, 222, 3, 37, 2683, 0, 1000), (0, 229, 2, 38, 2684, 0, 30), (0, 237, 2, 39, 2685, 0, 30)] ++ ([(0, 245, 2, 48, 2694, 0, 20), (0, 253, 2, 49, 2695, 0, 20), (0, 261, 2, 50, 2696, 0, 20), (0, 269, 2, 51, 2697, 0, 120), (0, 277, 2, 52, 2698, 0, 20), (0, 285, 1, 54, 2700, 0, 5)] ++ ([(0, 292, 1, 55, 2701, 0, 5), (0, 299, 2, 56, 2702, 0, 50), (0, 307, 3, 57, 2703, 1, 5120), (0, 316, 1, 58, 2704, 0, 5), (0, 323, 1, 59, 2705, 0, 5), (0, 330, 2, 60, 2706, 0, 30)] ++ ([(0, 338, 2, 61, 2707, 0, 30), (0, 346, 2, 66, 2712, 0, 30)]))))))) := rfl
set_option maxRecDepth 100000 in
theorem eF11 (q65 : Nat) (u : Nat → Nat) : runF [q65] os11 fi11 u 0 = [.int (Int32.ofInt 0), .int (Int32.ofInt 0), .ref (u 0), .ref (u 1), .ref (u 2), .ref (u 3), .ref (u 4), .ref (u 5), .ref (u 6), .int (Int32.ofInt 0), .ref (u 7), .int (Int32.ofInt 0), .ref (u 8), .ref (u 9), .int (Int32.ofInt 0), .int (Int32.ofInt (-1)), .int (Int32.ofInt 0), .ref (u 10), .ref (u 11), .ref (u 12), .ref (u 13), .int (Int32.ofInt 0), .ref (u 14), .ref (u 15), .ref (u 16), .ref (u 17), .ref (u 18), .ref (u 19), .int (Int32.ofInt 0), .ref (u 20), .ref (u 21), .ref (u 22), .ref (u 23), .ref (u 24), .int (Int32.ofInt 0), .int (Int32.ofInt 0), .ref (u 25), .int (Int32.ofInt 1000), .ref (u 26), .ref (u 27), .int (Int32.ofInt 0), .int (Int32.ofInt 0), .int (Int32.ofInt 0), .int (Int32.ofInt 0), .long (Int64.ofInt 0), .int (Int32.ofInt 0), .int (Int32.ofInt 0), .int (Int32.ofInt 0), .ref (u 28), .ref (u 29), .ref (u 30), .ref (u 31), .ref (u 32), .int (Int32.ofInt 0), .ref (u 33), .ref (u 34), .ref (u 35), .ref (u 36), .ref (u 37), .ref (u 38), .ref (u 39), .ref (u 40), .int (Int32.ofInt 0), .int (Int32.ofInt 0), .int (Int32.ofInt 0), .int (Int32.ofInt 0), .ref (u 41)] := by
  rw [os11_ap]
  exact (runF_ap (eF11_0 q65 u) rfl).trans ((runF_ap (eF11_1 q65 u) rfl).trans ((runF_ap (eF11_2 q65 u) rfl).trans ((runF_ap (eF11_3 q65 u) rfl).trans ((runF_ap (eF11_4 q65 u) rfl).trans ((runF_ap (eF11_5 q65 u) rfl).trans ((runF_ap (eF11_6 q65 u) rfl).trans (eF11_7 q65 u)))))))
set_option maxRecDepth 100000 in
theorem eA11 (z : KZ) (u : Nat → Nat) : runA z os11 u 0 = [(u 0, .inl (z.1, 30, .inl (fun _ => Int32.ofInt 0))), (u 1, .inl (z.1, 30, .inl (fun _ => Int32.ofInt 0))), (u 2, .inl (z.1, 30, .inl (fun _ => Int32.ofInt 0))), (u 3, .inl (z.1, 30, .inl (fun _ => Int32.ofInt 0))), (u 4, .inl (z.1, 30, .inl (fun _ => Int32.ofInt 0))), (u 5, .inl (z.1, 30, .inl (fun _ => Int32.ofInt 0))), (u 6, .inl (z.1, 30, .inl (fun _ => Int32.ofInt 0))), (u 7, .inl (z.1, 180, .inl (fun _ => Int32.ofInt 0))), (u 8, .inl (z.1, 80, .inl (fun _ => Int32.ofInt 0))), (u 9, .inl (z.1, 240, .inl (fun _ => Int32.ofInt 0))), (u 10, .inl (z.1, 8, .inl (fun _ => Int32.ofInt 0))), (u 11, .inl (z.1, 160, .inl (fun _ => Int32.ofInt 0))), (u 12, .inl (z.1, 8, .inl (fun _ => Int32.ofInt 0))), (u 13, .inl (z.1, 160, .inl (fun _ => Int32.ofInt 0))), (u 14, .inl (z.1, 20, .inl (fun _ => Int32.ofInt 0))), (u 15, .inl (z.1, 20, .inl (fun _ => Int32.ofInt 0))), (u 16, .inl (z.1, 20, .inl (fun _ => Int32.ofInt 0))), (u 17, .inl (z.1, 20, .inl (fun _ => Int32.ofInt 0))), (u 18, .inl (z.1, 20, .inl (fun _ => Int32.ofInt 0))), (u 19, .inl (z.1, 20, .inl (fun _ => Int32.ofInt 0))), (u 20, .inl (z.1, 120, .inl (fun _ => Int32.ofInt 0))), (u 21, .inl (z.1, 120, .inl (fun _ => Int32.ofInt 0))), (u 22, .inl (z.1, 120, .inl (fun _ => Int32.ofInt 0))), (u 23, .inl (z.2, 120, .inl (fun _ => Int32.ofInt 0))), (u 24, .inl (z.1, 120, .inl (fun _ => Int32.ofInt 0))), (u 25, .inl (z.1, 180, .inl (fun _ => Int32.ofInt 0))), (u 26, .inl (z.1, 30, .inl (fun _ => Int32.ofInt 0))), (u 27, .inl (z.1, 30, .inl (fun _ => Int32.ofInt 0))), (u 28, .inl (z.1, 20, .inl (fun _ => Int32.ofInt 0))), (u 29, .inl (z.1, 20, .inl (fun _ => Int32.ofInt 0))), (u 30, .inl (z.1, 20, .inl (fun _ => Int32.ofInt 0))), (u 31, .inl (z.1, 120, .inl (fun _ => Int32.ofInt 0))), (u 32, .inl (z.1, 20, .inl (fun _ => Int32.ofInt 0))), (u 33, .inl (z.1, 5, .inl (fun _ => Int32.ofInt 0))), (u 34, .inl (z.1, 5, .inl (fun _ => Int32.ofInt 0))), (u 35, .inl (z.1, 50, .inl (fun _ => Int32.ofInt 0))), (u 36, .inl (z.2, 5120, .inl (fun _ => Int32.ofInt 0))), (u 37, .inl (z.1, 5, .inl (fun _ => Int32.ofInt 0))), (u 38, .inl (z.1, 5, .inl (fun _ => Int32.ofInt 0))), (u 39, .inl (z.1, 30, .inl (fun _ => Int32.ofInt 0))), (u 40, .inl (z.1, 30, .inl (fun _ => Int32.ofInt 0))), (u 41, .inl (z.1, 30, .inl (fun _ => Int32.ofInt 0)))] := rfl
set_option maxHeartbeats 4000000 in
set_option maxRecDepth 100000 in
theorem eMq (D : va_G) (z : KZ) (qx u : Nat → Nat) (q65 : Nat) : wM D z (qq qx u q65) = (q65, .inr (11, runF [q65] os11 fi11 u 0)) :: runA z os11 u 0 := by
  rw [eM, eF11, eA11]
  rfl
theorem nwX_in : ∀ w ∈ nwX, w ∈ lw_tbl := by
  have h : nwX.all (fun w => decide (w ∈ lw_tbl)) = true := by decide +kernel
  exact fun w hw => of_decide_eq_true (List.all_eq_true.mp h w hw)
theorem nwX_tab : ∀ w ∈ nwX, w.onTables = true := List.all_eq_true.mp (by decide +kernel)
theorem nw_warm {s : State} : ∀ w ∈ nwX, ∀ U : State, s.WarmedH U.vm → va_Nw w s → va_Nw w U := by
  intro w hw
  simp only [nwX, List.mem_cons, List.not_mem_nil, or_false] at hw
  rcases hw with rfl | rfl | rfl | rfl | rfl | rfl | rfl
  all_goals exact fun U hW h => va_Nw.warmM hW h
theorem cs_known {args : Array Value} {s : State} (hts : ∀ w ∈ wtb, w.before args s = true) : ∃ D : va_G, ∀ (k : Nat) (q : vw_C), cls[k]? = some q → u_Kn s q.1 q.2.1 q.2.2 (D.1 k) (D.2 k) := by
  have key : ∀ k : Nat, ∃ d : ClassId × (Nat → Nat), ∀ q : vw_C, cls[k]? = some q → u_Kn s q.1 q.2.1 q.2.2 d.1 d.2 := by
    intro k
    cases hq : cls[k]? with
    | none => exact ⟨(default, fun _ => 0), fun q h => by cases h⟩
    | some r =>
      have hr := List.mem_of_getElem? hq
      have hi : ∃ i, wt i = some (.instantiable r.1 r.2.2) := by
        simp only [cls, List.mem_cons, List.not_mem_nil, or_false] at hr
        rcases hr with rfl | rfl | rfl | rfl | rfl | rfl | rfl | rfl | rfl | rfl | rfl | rfl
        · exact ⟨1064, by decide +kernel⟩
        · exact ⟨701, by decide +kernel⟩
        · exact ⟨598, by decide +kernel⟩
        · exact ⟨1132, by decide +kernel⟩
        · exact ⟨622, by decide +kernel⟩
        · exact ⟨670, by decide +kernel⟩
        · exact ⟨646, by decide +kernel⟩
        · exact ⟨541, by decide +kernel⟩
        · exact ⟨1112, by decide +kernel⟩
        · exact ⟨1198, by decide +kernel⟩
        · exact ⟨533, by decide +kernel⟩
        · exact ⟨2641, by decide +kernel⟩
      obtain ⟨i, hi⟩ := hi
      obtain ⟨cC, iS, h⟩ := u_known hts (cls_in r hr) (hts _ (wt_mem hi))
      exact ⟨(cC, iS), fun q h2 => by obtain rfl := Option.some.inj h2; exact h⟩
  exact ⟨(fun k => (Classical.choose (key k)).1, fun k => (Classical.choose (key k)).2), fun k q hq => Classical.choose_spec (key k) q hq⟩
set_option maxHeartbeats 4000000 in
set_option maxRecDepth 100000 in
/-- THE LAW, from its entry -/
theorem whole_start {p : Program} {e : Env} {s : State} {m : MethodId} {below : List Frame} {meth : Method} {c : Code} (l : Launch) (hflags : l.flags = flags0) {b L : Nat} {xs : Nat → Int32} (hL : L ≤ 3584) (C0 : lw_At p s m meth c b L xs) : W p l e room_1 s m #[Value.ref b] below meth c s.heap [] 0 0 (lw_Z below #[Value.ref b] s) (entryFrame m ([Value.ref b] : List Value).toArray 4) := by
  obtain ⟨hx, hb, hr, hml, hown, hts, hX, hbl, hlocks, hgv, hcw⟩ := C0
  have hw : ∀ w ∈ wtb, w.before #[Value.ref b] s = true := fun w h => hts w (List.mem_filter.mp h).1
  obtain ⟨D, hD0⟩ := cs_known hw
  obtain ⟨kI, k1, comp1, f1, f2, f3⟩ := Cond.arrayClass_spec (hw _ (wt_mem wt596))
  obtain ⟨kZ, k2, comp2, f4, f5, f6⟩ := Cond.arrayClass_spec (hw _ (wt_mem wt3120))
  have hK : va_K D cls (tyZ (kI, kZ)) s := by
    refine ⟨hD0, fun k q hq => ?_⟩
    match k, hq with
    | 0, hq =>
      obtain rfl := Option.some.inj hq
      exact ⟨fun n z => ⟨fun k h => (by cases h), k1, f2, comp1, f3⟩, f1⟩
    | 1, hq =>
      obtain rfl := Option.some.inj hq
      exact ⟨fun n z => ⟨fun k h => (by cases h), k2, f5, comp2, f6⟩, f4⟩
    | k + 2, hq => cases hq
  obtain ⟨gr, gs, gv, t0, hO, hgr, hRO⟩ := rok0 (flat_of_before _ hgv) hts hX hbl hL
  have C : Cz D (kI, kZ) code 4 R_law p s m #[Value.ref b] c (fun q => s.heap.size ≤ q) := ⟨hx, hb, hml, hown, hw, hK, fun _ h => h⟩
  have hnw : ∀ w ∈ nwX, va_Nw w s := fun w h => va_Nw.of (nwX_tab w h) (hts w (nwX_in w h))
  have hS : va_S (fun q => s.heap.size ≤ q) s.heap s.heap [] := va_S.rf
  have hP : va_P D cls [] s.heap := fun k q h => by simp at h
  have hD : va_D (fun q => s.heap.size ≤ q) [] := ⟨fun i j p q h => by simp at h, fun k q h => by simp at h⟩
  have hl : lv_has (lg_sl ([Value.ref b]) ++ List.replicate (4 - (lg_sl ([Value.ref b])).length) Slot.unset).toArray 4 [(0, .ref b)] := lv_entry ([.ref b]) (n := 4) (Nat.le_of_ble_eq_true rfl)
  rw [lg_entry_eq]
  generalize (lg_sl ([Value.ref b]) ++ List.replicate (4 - (lg_sl ([Value.ref b])).length) Slot.unset).toArray = ls at hl ⊢
  refine new_any (ci := 10) (r := (RX10, TX10, 11)) (pl := 532) (p2 := 533) (p3 := 513) C rfl (by decide +kernel) (by decide +kernel) (by decide +kernel) ini10 hP hD hS (Nat.le_of_ble_eq_true rfl) (Nat.le_of_ble_eq_true rfl) fun qa H1 hP1 hD1 hS1 => ?_
  refine dup_any C (by decide +kernel) ?_
  refine sub_call (mc := 64) (ms := 4656) (As := []) (pl := 534) (nw := []) C hl.1 ctw10 (.inl (by decide +kernel)) (ct10 l D (kI, kZ) t0 H1.size qa) rfl ⟨rfl, rfl, (Nat.le_of_ble_eq_true rfl), (Nat.le_of_ble_eq_true rfl)⟩ ⟨(Nat.le_of_ble_eq_true rfl), (Nat.le_of_ble_eq_true rfl)⟩ (Nat.le_of_ble_eq_true rfl) ?_ ?_ hP1 hD1 hS1 fun qx H2 locs2 hP2 hD2 hS2 => ?_
  · intro a U g mk q
    obtain ⟨q0, q1, q2, q3⟩ := q
    exact ⟨q0, (pz_blind a U g mk ⟨q0, q1⟩).2, q2.same rfl rfl, fun w h => va_Nw.same (u := U) (U := U.calling g mk a) (nwX_tab w h) rfl (q3 w h)⟩
  · intro U hU hW
    obtain ⟨y1, y2⟩ := pzo_pre C hO hP1 hD1 hS1 U hU hW
    exact ⟨y1, y2, fun w h => nw_warm w h U hW (hnw w h)⟩
  refine lv_astore_n (k := 1) (lv' := [(1, .ref qa), (0, .ref b)]) hx hb (by decide +kernel) rfl hl (by decide) rfl (fun ls hl => ?_)
  refine new_any (ci := 11) (r := (RX11, TX11, 67)) (pl := 2640) (p2 := 2641) (p3 := 525) C rfl (by decide +kernel) (by decide +kernel) (by decide +kernel) ini11 hP2 hD2 hS2 (Nat.le_of_ble_eq_true rfl) (Nat.le_of_ble_eq_true rfl) fun qm H3 hP3 hD3 hS3 => ?_
  refine dup_any C (by decide +kernel) ?_
  refine sub_call (mc := 42) (ms := 7486) (As := []) (pl := 2642) (nw := []) C hl.1 ctw11 (.inl (by decide +kernel)) (ct11 l D (kI, kZ) H3.size qm) rfl ⟨rfl, rfl, (Nat.le_of_ble_eq_true rfl), (Nat.le_of_ble_eq_true rfl)⟩ ⟨(Nat.le_of_ble_eq_true rfl), (Nat.le_of_ble_eq_true rfl)⟩ (Nat.le_of_ble_eq_true rfl) pz_blind (pz_pre C hP3 hD3) hP3 hD3 hS3 fun u H4 locs4 hP4 hD4 hS4 => ?_
  refine lv_astore_n (k := 2) (lv' := [(2, .ref qm), (1, .ref qa), (0, .ref b)]) hx hb (by decide +kernel) rfl hl (by decide) rfl (fun ls hl => ?_)
  refine push_any (v := 0) (ln := 1) C (by decide +kernel) ?_
  refine lv_istore_n (k := 3) (lv' := [(3, .int (Int32.ofInt 0)), (2, .ref qm), (1, .ref qa), (0, .ref b)]) hx hb (by decide +kernel) rfl hl (by decide) rfl (fun ls hl => ?_)
  have ew : ([] ++ wX D (kI, kZ) (q0a qa qx)) ++ ((qm, .inr (11, runF [qm] os11 fi11 u 0)) :: runA (kI, kZ) os11 u 0) = wsOf (D, qq (q0a qa qx) u qm, kdZ (kI, kZ), gr, gs, gv) M0 := by
    rw [← eMq D (kI, kZ) (q0a qa qx) u qm, List.nil_append, ← eXq D (kI, kZ) (q0a qa qx) u qm, wXM]
    exact wsOf_cg rfl rfl M0
  have hP5 : va_P D cls (([] ++ wX D (kI, kZ) (q0a qa qx)) ++ ((qm, .inr (11, runF [qm] os11 fi11 u 0)) :: runA (kI, kZ) os11 u 0)) H4 := hP4
  have hD5 : va_D (fun q => s.heap.size ≤ q) (([] ++ wX D (kI, kZ) (q0a qa qx)) ++ ((qm, .inr (11, runF [qm] os11 fi11 u 0)) :: runA (kI, kZ) os11 u 0)) := hD4
  rw [ew] at hP5 hD5
  have wp := law_at (X := (L, fun j => (xs j).toInt)) (by show L ≤ 2147483647; omega) (fun j => i32_r (xs j)) L 0 M0 (Int.le_refl _) (by show (L : Int) - 0 ≤ (L : Int); omega) ⟨by decide, by decide⟩ M0_TT M0_PJ
  have ep : pcA 0 10 = 18 := by decide +kernel
  have el : lv_has ls 4 (mapL (D, qq (q0a qa qx) u qm, kdZ (kI, kZ), gr, gs, gv) ([0, 1, 2, 3].zip (l4 0))) := by
    show lv_has ls 4 [(0, .ref (gr 0)), (1, .ref qa), (2, .ref qm), (3, .int (Int32.ofInt 0))]
    rw [hgr]
    exact lv_sub hl [3, 2, 1, 0] rfl
  have e1 : Int32.ofInt 1 = 1 := by decide
  have fin := wp p l e room_1 s m #[Value.ref b] below meth c (D, qq (q0a qa qx) u qm, kdZ (kI, kZ), gr, gs, gv) (fun q => s.heap.size ≤ q) _ _ (lw_Z below #[Value.ref b] s) ⟨hx, hb, hml, hown, fun w h => by
      rcases List.mem_cons.mp h with rfl | h
      · exact hcw
      · exact hw w h, hK, hRO D _ (kdZ (kI, kZ)), fun _ h => h⟩ ⟨(Nat.le_of_ble_eq_true rfl), (Nat.le_of_ble_eq_true rfl), ((Nat.le_of_ble_eq_true rfl) : 0 + 1 + 64 + 1 + 42 ≤ room_1.cells), ((Nat.le_of_ble_eq_true rfl) : 0 + 11 + 4656 + 67 + 7486 ≤ room_1.slots)⟩ (fun i' ls' v M' H' locs' hdec hv _ _ hH => by
      subst hv
      refine va_forget (fun q hq => hH.2.2.1.2.2 q hq) (W.widen (k := 600000) (n := 7302250) (Nat.le_of_ble_eq_true rfl) (Nat.le_of_ble_eq_true rfl) ?_)
      show W _ _ _ _ _ _ _ _ _ _ _ _ _ _ _ (F0 m _ ls' [.int (Int32.ofInt 1)])
      rw [e1]
      exact lw_ret hx hb hr hlocks hdec) H4 locs4 ls ⟨hP5, hD5, hS4, M0_ok⟩ el (fun q hq => by
      simp only [l4, List.zip_cons_cons, List.zip_nil_right, List.mem_cons, List.not_mem_nil, or_false] at hq
      rcases hq with rfl | rfl | rfl | rfl
      · exact trivial
      · exact trivial
      · exact trivial
      · exact ⟨by decide, by decide⟩) (fun v hv => by cases hv)
  rw [ep] at fin
  exact fin
