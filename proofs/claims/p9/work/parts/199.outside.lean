/-! what stands outside at the law's entry -/
def wr (i : Nat) : Option Jvm.Cond := (tbls.getD (i / 512) [])[i % 512]?
theorem wr_mem {i : Nat} {w : Jvm.Cond} (h : wr i = some w) : w ∈ lw_tbl := by
  unfold wr at h
  have h1 := List.mem_of_getElem? h
  rw [List.getD_eq_getElem?_getD] at h1
  cases h2 : tbls[i / 512]? with
  | none => rw [h2] at h1; cases h1
  | some l => rw [h2] at h1; exact tbls_in l (List.mem_of_getElem? h2) w h1
def fl1 : List Jvm.Cond := flatC (Jvm.Cond.and given_1 narrow_1)
def tmA : Jvm.Term := .static "SwornCourt$Laws" "AT_FIRST" "[I"
def tmF : Jvm.Term := .static "SwornCourt$Laws" "FIRST_SLOTS" "[I"
def tmS (i : Nat) : Jvm.Term := .string (strT.getD i ("", 0, 0, "")).1 (strT.getD i ("", 0, 0, "")).2.1
def strB' (i j : Nat) : Int32 := (strB.getD i []).getD j 0
theorem inA0 : Jvm.Cond.arrayOf tmA .int ∈ fl1 := by decide +kernel
theorem inA1 : Jvm.Cond.eq (.length tmA) (.int (Int32.ofNat 20)) ∈ fl1 := by decide +kernel
theorem inA2 : ∀ j : Nat, j < 20 → Jvm.Cond.eq (.elem tmA (.int (Int32.ofNat j))) (.int (AF j)) ∈ fl1 := by decide +kernel
theorem inF0 : Jvm.Cond.arrayOf tmF .int ∈ fl1 := by decide +kernel
theorem inF1 : Jvm.Cond.eq (.length tmF) (.int (Int32.ofNat 11)) ∈ fl1 := by decide +kernel
theorem inF2 : ∀ j : Nat, j < 11 → Jvm.Cond.eq (.elem tmF (.int (Int32.ofNat j))) (.int (FSL.getD j 0)) ∈ fl1 := by decide +kernel
theorem inC : Jvm.Cond.eq (.static "java/lang/String" "COMPACT_STRINGS" "Z") (.int 1) ∈ fl1 := by decide +kernel
theorem inP : Jvm.Cond.isRef (.static "jdk/internal/util/Preconditions" "SIOOBE_FORMATTER" "Ljava/util/function/BiFunction;") ∈ fl1 := by decide +kernel
theorem inS0 : ∀ i : Nat, i < 12 → Jvm.Cond.exactly (tmS i) "java/lang/String" ∈ fl1 := by decide +kernel
theorem inS1 : ∀ i : Nat, i < 12 → Jvm.Cond.eq (.field (tmS i) "java/lang/String" "coder" "B") (.int 0) ∈ fl1 := by decide +kernel
theorem inS2 : ∀ i : Nat, i < 12 → Jvm.Cond.arrayOf (.field (tmS i) "java/lang/String" "value" "[B") .byte ∈ fl1 := by decide +kernel
theorem inS3 : ∀ i : Nat, i < 12 → Jvm.Cond.eq (.length (.field (tmS i) "java/lang/String" "value" "[B")) (.int (Int32.ofNat (strLen.getD i 0))) ∈ fl1 := by decide +kernel
theorem inS4 : ∀ i : Nat, i < 12 → ∀ j : Nat, j < strLen.getD i 0 → Jvm.Cond.eq (.elem (.field (tmS i) "java/lang/String" "value" "[B") (.int (Int32.ofNat j))) (.int (strB' i j)) ∈ fl1 := by decide +kernel
theorem inS5 : ∀ i : Nat, i < 12 → ∀ j : Nat, j < 12 → i ≠ j → Jvm.Cond.not (Jvm.Cond.eq (tmS i) (tmS j)) ∈ fl1 ∨ Jvm.Cond.not (Jvm.Cond.eq (tmS j) (tmS i)) ∈ fl1 := by decide +kernel
theorem inS6 : ∀ i : Nat, i < 12 → wr (strT.getD i ("", 0, 0, "")).2.2.1 = some (.stringRef (strT.getD i ("", 0, 0, "")).1 (strT.getD i ("", 0, 0, "")).2.1 (strT.getD i ("", 0, 0, "")).2.2.2) := by decide +kernel
theorem strT12 : strT.length = 12 := by decide
theorem ozX {args : Array Value} {s : State} (hf : ∀ w ∈ fl1, w.before args s = true) : ∃ t, tmA.eval args s none [] s = some (.ref t) ∧ va_X t 20 AF s s.heap ∧ t < s.heap.size := by
  have hlen := va_eqt (hf _ inA1)
  obtain ⟨t, h1, cell, c1, c2, c3, c4, c5, c6, -⟩ := va_Tof (N := 20) (ty := .int) (f := fun j => .int (AF j)) (A := fun q => s.heap.size ≤ q) (by decide) (hf _ inA0) hlen (fun j hj => va_eqt (hf _ (inA2 j hj))) (fun a ha => Nat.not_le.mpr ha)
  have hsz : cell.slots.size = 20 := by
    obtain ⟨t', cell', g1, g2, g3⟩ := Term.length_spec hlen
    cases h1.symm.trans g1
    obtain ⟨g4, -⟩ := State.arrayAt?_spec g2
    obtain rfl : cell = cell' := Option.some.inj (c1.symm.trans g4)
    have hlt : cell.slots.size < 2147483648 := by
      have hv := hlen
      simp only [Term.eval, h1, g2, Option.bind_eq_bind, Option.bind_some] at hv
      by_cases q : cell.slots.size < 2147483648
      · exact q
      · simp [q] at hv
    have e := congrArg Int32.toInt c5
    have e2 : (cell.slots.size.toInt32).toInt = cell.slots.size := Int32.toInt_ofNat_small hlt
    have e3 : (Int32.ofNat 20).toInt = 20 := by decide
    rw [e2, e3] at e
    omega
  exact ⟨t, h1, ⟨cell, c1, c2, c3, hsz, c6⟩, (Array.getElem?_eq_some_iff.mp c1).1⟩
/-- the outside, made -/
theorem rok0 {args : Array Value} {s : State} (hf : ∀ w ∈ fl1, w.before args s = true) (hts : ∀ w ∈ lw_tbl, w.before args s = true) {b L : Nat} {xs : Nat → Int32} (hX : va_X b L xs s s.heap) (hbl : b < s.heap.size) (hL : L ≤ 3584) : ∃ (gr gs : Nat → Nat) (gv : Value) (t0 : Nat), Oz t0 (fun q => s.heap.size ≤ q) s ∧ gr 0 = b ∧ ∀ (D : va_G) (q : Nat → Nat) (k : Nat → ClassId), ROk (L, fun j => (xs j).toInt) (D, q, k, gr, gs, gv) (fun q => s.heap.size ≤ q) s := by
  have hA : ∀ a : Nat, a < s.heap.size → ¬ s.heap.size ≤ a := fun a ha => Nat.not_le.mpr ha
  obtain ⟨t0, e0, x0, l0⟩ := ozX hf
  have z0 : va_Z "SwornCourt$Laws" "AT_FIRST" "[I" (.ref t0) (fun q => s.heap.size ≤ q) s s.heap := va_Zof (hts _ (wr_mem (i := 652) (by decide +kernel))) (hts _ (wr_mem (i := 517) (by decide +kernel))) e0 hA
  obtain ⟨t1, e1, x1⟩ := va_Tof (N := 11) (ty := .int) (f := fun j => .int (FSL.getD j 0)) (A := fun q => s.heap.size ≤ q) (by decide) (hf _ inF0) (va_eqt (hf _ inF1)) (fun j hj => va_eqt (hf _ (inF2 j hj))) hA
  have z1 : va_Z "SwornCourt$Laws" "FIRST_SLOTS" "[I" (.ref t1) (fun q => s.heap.size ≤ q) s s.heap := va_Zof (hts _ (wr_mem (i := 1745) (by decide +kernel))) (hts _ (wr_mem (i := 517) (by decide +kernel))) e1 hA
  have z2 : va_Z "java/lang/String" "COMPACT_STRINGS" "Z" (.int 1) (fun q => s.heap.size ≤ q) s s.heap := va_Zof (hts _ (wr_mem (i := 1658) (by decide +kernel))) (hts _ (wr_mem (i := 526) (by decide +kernel))) (va_eqt (hf _ inC)) hA
  have z3 : va_Zq "jdk/internal/util/Preconditions" "SIOOBE_FORMATTER" "Ljava/util/function/BiFunction;" (fun q => s.heap.size ≤ q) s s.heap := va_Zqof (hts _ (wr_mem (i := 1674) (by decide +kernel))) (hts _ (wr_mem (i := 528) (by decide +kernel))) (hf _ inP) hA
  obtain ⟨adK, adV, s1, s2⟩ := vk_Sof (N := 12) (tm := tmS) (len := strLen) (byt := strB) (A := fun q => s.heap.size ≤ q) (args := args) (s := s) (fun i hi => by
    have : ∀ i : Nat, i < 12 → strLen.getD i 0 < 2 ^ 31 := by decide
    exact this i hi) (fun i hi => hf _ (inS0 i hi)) (fun i hi => hf _ (inS1 i hi)) (fun i hi => hf _ (inS2 i hi)) (fun i hi => hf _ (inS3 i hi)) (fun i hi j hj => hf _ (inS4 i hi j hj)) (fun i j hi hj hne => (inS5 i hi j hj hne).imp (hf _) (hf _)) hA
  obtain ⟨gv, v1, v2⟩ : ∃ gv : Value, va_Z "jdk/internal/util/Preconditions" "SIOOBE_FORMATTER" "Ljava/util/function/BiFunction;" gv (fun q => s.heap.size ≤ q) s s.heap ∧ gv.category = 1 := by
    rcases z3 with h | ⟨t, h⟩
    · exact ⟨_, h, rfl⟩
    · exact ⟨_, h, rfl⟩
  refine ⟨fun j => if j = 0 then b else if j = 1 then t1 else adV (j - 3), adK, gv, t0, ⟨z0, x0, l0, hA _ l0⟩, rfl, fun D q k => ?_⟩
  obtain ⟨scr, x1a, x1b, x1c, x1d, x1e⟩ := hX
  refine ⟨⟨⟨scr, x1a, x1b, x1c, ?_, ?_, fun j hj => ?_, hA _ hbl⟩, by show L ≤ 2147483647; omega, fun j => i32_r (xs j)⟩, x1, ?_, fun i x hx => ?_, z1, z2, v1, v2⟩
  · show L ≤ _
    rw [x1d]
    exact Nat.le_refl _
  · show scr.slots.size.toInt32 = Int32.ofNat L
    rw [x1d]
  · rw [x1e j hj]
    show some (Value.int (xs j)) = some (Value.int (Int32.ofInt (xs j).toInt))
    rw [Int32.ofInt_toInt]
  · have e : (fun i => gro (D, q, k, (fun j => if j = 0 then b else if j = 1 then t1 else adV (j - 3)), adK, gv) (3 + i)) = adV := by
      funext i
      show (if 3 + i = 0 then b else if 3 + i = 1 then t1 else adV (3 + i - 3)) = adV i
      rw [if_neg (by omega), if_neg (by omega), Nat.add_sub_cancel_left]
    rw [e]
    exact s1
  · have hi : i < 12 := by
      have := (List.getElem?_eq_some_iff.mp hx).1
      rw [strT12] at this
      exact this
    have ex : strT.getD i ("", 0, 0, "") = x := by
      rw [List.getD_eq_getElem?_getD, hx]
      rfl
    have h6 := inS6 i hi
    have h7 := s2 i hi
    unfold tmS at h7
    rw [ex] at h6 h7
    exact vk_R.of (hts _ (wr_mem h6)) h7
