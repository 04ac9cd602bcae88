/-! a logic of numbers over the machine: the cells of the world hold whole numbers, a method is a list of instructions -/
abbrev Mm : Type := Nat → Nat → Int
abbrev V : Type := Int ⊕ Int ⊕ (Nat × Nat)
abbrev vI (z : Int) : V := .inl z
abbrev vL (z : Int) : V := .inr (.inl z)
abbrev vR (t i : Nat) : V := .inr (.inr (t, i))
/-- where things lie: the tables' part, the cells, the kinds of arrays, the arrays that nobody writes, the String constants, one value of the JDK's -/
abbrev Gx : Type := va_G × (Nat → Nat) × (Nat → ClassId) × (Nat → Nat) × (Nat → Nat) × Value
/-- the script: how long, what it holds -/
abbrev Xs : Type := Nat × (Nat → Int)
def gro (g : Gx) (j : Nat) : Nat := g.2.2.2.1 j
def gsa (g : Gx) (j : Nat) : Nat := g.2.2.2.2.1 j
def gop (g : Gx) : Value := g.2.2.2.2.2
def gad (g : Gx) (t i : Nat) : Value := match t with
  | 0 => .ref (g.2.1 i)
  | 1 => .ref (gro g i)
  | 2 => .ref (gsa g i)
  | _ => gop g
def cv (g : Gx) : V → Value
  | .inl z => .int (Int32.ofInt z)
  | .inr (.inl z) => .long (Int64.ofInt z)
  | .inr (.inr (t, i)) => gad g t i
def catV : V → Nat
  | .inr (.inl _) => 2
  | _ => 1
def in32 (z : Int) : Prop := -2147483648 ≤ z ∧ z ≤ 2147483647
def in64 (z : Int) : Prop := -9223372036854775808 ≤ z ∧ z ≤ 9223372036854775807
def rV : V → Prop
  | .inl z => in32 z
  | .inr (.inl z) => in64 z
  | _ => True
theorem i32_to {z : Int} (h : in32 z) : (Int32.ofInt z).toInt = z := Int32.toInt_ofInt_of_le (by have := h.1; omega) (by have := h.2; omega)
theorem i64_to {z : Int} (h : in64 z) : (Int64.ofInt z).toInt = z := Int64.toInt_ofInt_of_le (by have := h.1; omega) (by have := h.2; omega)
theorem i32_r (x : Int32) : in32 x.toInt := ⟨by have := x.le_toInt; omega, by have := x.toInt_lt; omega⟩
theorem i64_r (x : Int64) : in64 x.toInt := ⟨by have := x.le_toInt; omega, by have := x.toInt_lt; omega⟩
theorem i32_cl {z : Int} (h : in32 z) : (Int32.ofInt z).toNatClampNeg = z.toNat := by
  show (Int32.ofInt z).toInt.toNat = z.toNat
  rw [i32_to h]
/-- the shape's cells in the machine's words -/
def fvl (g : Gx) (f : Nat) (z : Int) : Value := match f with
  | 0 => .int (Int32.ofInt z)
  | 1 => .long (Int64.ofInt z)
  | 2 => .int (Int32.ofInt z)
  | n + 3 => .ref (g.2.1 n)
def ent (g : Gx) (c : SC) (row : Nat → Int) : va_E := match c with
  | .inl (k, n) => .inl (g.2.2.1 k, n, .inl (fun j => Int32.ofInt (row j)))
  | .inr (ci, fk) => .inr (ci, fk.mapIdx (fun j f => fvl g f (row j)))
def wsOf (g : Gx) (M : Mm) : va_W := SH.mapIdx (fun i c => (g.2.1 i, ent g c (M i)))
def kd (i j : Nat) : Nat := match SH[i]? with
  | some (.inl (k, _)) => if k = 0 then 0 else 2
  | some (.inr (_, fk)) => fk.getD j 9
  | none => 9
def rK (f : Nat) (z : Int) : Prop := match f with
  | 0 => in32 z
  | 1 => in64 z
  | 2 => z = 0 ∨ z = 1
  | _ => True
def okM (M : Mm) : Prop := ∀ i j, rK (kd i j) (M i j)
def up (M : Mm) (i j : Nat) (z : Int) : Mm := fun a b => if a = i ∧ b = j then z else M a b
theorem okM_up {M : Mm} {i j : Nat} {z : Int} (h : okM M) (hz : rK (kd i j) z) : okM (up M i j z) := by
  intro a b
  unfold up
  split
  next q => obtain ⟨rfl, rfl⟩ := q; exact hz
  next => exact h a b
def tysOf (g : Gx) : List (ClassId × FieldType) := [(g.2.2.1 0, .int), (g.2.2.1 1, .boolean)]
/-! what nobody writes: the script, a table, the String constants, three statics -/
def FSL : List Int32 := [0, 4, 8, 9, 10, 11, 12, 13, 14, 18, 19]
def strLen : List Nat := strB.map List.length
def ROk (X : Xs) (g : Gx) (A : Nat → Prop) (s : State) : Prop :=
  (va_T .int (gro g 0) X.1 (fun j => .int (Int32.ofInt (X.2 j))) A s s.heap ∧ X.1 ≤ 2147483647 ∧ ∀ j, in32 (X.2 j)) ∧
  va_T .int (gro g 1) 11 (fun j => .int (FSL.getD j 0)) A s s.heap ∧
  vk_S 12 strLen strB (gsa g) (fun i => gro g (3 + i)) A s s.heap ∧
  (∀ (i : Nat) (x : String × Nat × Nat × String), strT[i]? = some x → vk_R x.1 x.2.1 x.2.2.2 (gsa g i) s) ∧
  va_Z "SwornCourt$Laws" "FIRST_SLOTS" "[I" (.ref (gro g 1)) A s s.heap ∧
  va_Z "java/lang/String" "COMPACT_STRINGS" "Z" (.int 1) A s s.heap ∧
  va_Z "jdk/internal/util/Preconditions" "SIOOBE_FORMATTER" "Ljava/util/function/BiFunction;" (gop g) A s s.heap ∧
  (gop g).category = 1
theorem ROk.to {X : Xs} {g : Gx} {A B : Nat → Prop} {s U : State} (h : ROk X g A s) (hW : s.WarmedH U.vm) (hq : ∀ a : Nat, a < s.heap.size → ¬ A a → U.heap[a]? = s.heap[a]?) (hAB : ∀ q, B q → A q) : ROk X g B U := by
  obtain ⟨⟨h1, h1b, h1c⟩, h2, h3, h4, h5, h6, h7, h8⟩ := h
  have hvm := hW.alike
  exact ⟨⟨((h1.moved hvm).kept hq).narrow hAB, h1b, h1c⟩, ((h2.moved hvm).kept hq).narrow hAB, ((h3.moved hvm).kept hq).narrow hAB, fun i x hx => (h4 i x hx).warm hW, ((h5.moved hvm).kept hq).narrow hAB, ((h6.moved hvm).kept hq).narrow hAB, ((h7.moved hvm).kept hq).narrow hAB, h8⟩
theorem ROk.same {X : Xs} {g : Gx} {A : Nat → Prop} {s U : State} (h : ROk X g A s) (hv : U.vm = s.vm) (hh : U.heap = s.heap) : ROk X g A U := by
  obtain ⟨⟨h1, h1b, h1c⟩, h2, h3, h4, h5, h6, h7, h8⟩ := h
  have hvm : s.vm.Alike U.vm := by rw [hv]; exact Vm.Alike.refl s.vm
  rw [← hh] at h1 h2 h3 h5 h6 h7
  exact ⟨⟨h1.moved hvm, h1b, h1c⟩, h2.moved hvm, h3.moved hvm, fun i x hx => (h4 i x hx).same hv, h5.moved hvm, h6.moved hvm, h7.moved hvm, h8⟩
/-! an instruction is one number: pc, op, a, b, places -/
def iP (w : Nat) : Nat := w % 65536
def iO (w : Nat) : Nat := w / 65536 % 256
def iA (w : Nat) : Nat := w / 16777216 % 1099511627776
def iB (w : Nat) : Nat := w / 18446744073709551616 % 16777216
def iC (w j : Nat) : Nat := w / 2 ^ (88 + 12 * j) % 4096
def iZ (w : Nat) : Int := if iB w = 0 then (iA w : Int) else -(iA w : Int)
/-- beyond the list stands an instruction that is none -/
def wd (k i : Nat) : Nat := (cod k).getD i 6488064
def pcA (k i : Nat) : Nat := iP (wd k i)
def wtb : List Jvm.Cond := lw_tbl.filter goodWord
def wt (i : Nat) : Option Jvm.Cond := match (tbls.getD (i / 512) [])[i % 512]? with
  | some w => if goodWord w = true then some w else none
  | none => none
def ws (k : Nat) : List Jvm.Cond := Jvm.Cond.code (mY k) (mB k) (mN k) (mR k) :: wtb
theorem wt_mem {i : Nat} {w : Jvm.Cond} (h : wt i = some w) : w ∈ wtb := by
  unfold wt at h
  split at h
  next w2 hw =>
    split at h
    next hg =>
      obtain rfl := Option.some.inj h
      refine List.mem_filter.mpr ⟨?_, hg⟩
      have h1 := List.mem_of_getElem? hw
      rw [List.getD_eq_getElem?_getD] at h1
      cases h2 : tbls[i / 512]? with
      | none => rw [h2] at h1; cases h1
      | some l => rw [h2] at h1; exact tbls_in l (List.mem_of_getElem? h2) w2 h1
    next => cases h
  next => cases h
theorem wt_in {k i : Nat} {w : Jvm.Cond} (h : wt i = some w) : w ∈ ws k := List.mem_cons_of_mem _ (wt_mem h)
def Cx (X : Xs) (k : Nat) (p : Program) (s : State) (m : MethodId) (args : Array Value) (c : Code) (g : Gx) (A : Nat → Prop) : Prop :=
  p.tables.exec = Jvm.exec ∧ c.code = mB k ∧ c.maxLocals = mN k ∧ s.vm.findClass (mY k).cls = some m.cls ∧ (∀ w ∈ ws k, w.before args s = true) ∧ va_K g.1 cls (tysOf g) s ∧ ROk X g A s ∧ ∀ q : Nat, s.heap.size ≤ q → A q
def Hold (g : Gx) (A : Nat → Prop) (s : State) (H : Heap) (locs : List Loc) (M : Mm) : Prop :=
  va_P g.1 cls (wsOf g M) H ∧ va_D A (wsOf g M) ∧ va_S A s.heap H locs ∧ okM M
def retI : Option V → Instr
  | none => .return_
  | some (.inl _) => .ireturn
  | some (.inr (.inl _)) => .lreturn
  | some (.inr (.inr _)) => .areturn
/-- an answer of a method: of its type, and as narrow as that -/
def retOK (r : Option FieldType) (v : Option V) : Prop := match r, v with
  | none, none => True
  | some .int, some (.inl _) => True
  | some .boolean, some (.inl z) => z = 0 ∨ z = 1
  | some .char, some (.inl z) => 0 ≤ z ∧ z < 65536
  | some .byte, some (.inl z) => z = 0 ∨ z = 1
  | some .long, some (.inr (.inl _)) => True
  | some (.object _), some (.inr (.inr (2, _))) => True
  | _, _ => False
def mapL (g : Gx) (L : List (Nat × V)) : List (Nat × Value) := L.map (fun q => (q.1, cv g q.2))
/-- THE JUDGEMENT: method k at its i-th instruction, locals L, stack S, cells M, comes to its end with Q of the answer and the cells; d calls deep at most -/
def Wp (X : Xs) (d k i : Nat) (L : List (Nat × V)) (S : List V) (M : Mm) (Q : Option V → Mm → Prop) : Prop :=
  ∀ (p : Program) (l : Launch) (e : Env) (R : Room) (s : State) (m : MethodId) (args : Array Value) (below : List Frame) (meth : Method) (c : Code) (g : Gx) (A : Nat → Prop) (cells slots : Nat) (QQ : State → Prop),
    Cx X k p s m args c g A → (d ≤ R.frames ∧ 64 * d ≤ R.locals ∧ cells ≤ R.cells ∧ slots ≤ R.slots) →
    (∀ (i' : Nat) (ls' : Array Slot) (v : Option V) (M' : Mm) (H' : Heap) (locs' : List Loc), decode (mB k) (pcA k i') = .ok (retI v, 1) → Q v M' → retOK (mR k) v → (∀ x, v = some x → rV x) → Hold g A s H' locs' M' →
      W p l e R s m args below meth c H' locs' cells slots QQ (F0 m (pcA k i') ls' (v.toList.map (cv g)))) →
    ∀ (H : Heap) (locs : List Loc) (ls : Array Slot), Hold g A s H locs M → lv_has ls (mN k) (mapL g L) → (∀ q ∈ L, rV q.2) → (∀ v ∈ S, rV v) →
      W p l e R s m args below meth c H locs cells slots QQ (F0 m (pcA k i) ls (S.map (cv g)))
theorem Wp.mono {X : Xs} {d k i : Nat} {L : List (Nat × V)} {S : List V} {M : Mm} {Q Q' : Option V → Mm → Prop} (h : Wp X d k i L S M Q) (hq : ∀ v M', Q v M' → Q' v M') : Wp X d k i L S M Q' := by
  intro p l e R s m args below meth c g A cells slots QQ C hr hk
  exact h p l e R s m args below meth c g A cells slots QQ C hr (fun i' ls' v M' H' locs' h1 h2 => hk i' ls' v M' H' locs' h1 (hq v M' h2))
theorem Wp.deeper {X : Xs} {d d' k i : Nat} {L : List (Nat × V)} {S : List V} {M : Mm} {Q : Option V → Mm → Prop} (h : Wp X d k i L S M Q) (hd : d ≤ d') : Wp X d' k i L S M Q := by
  intro p l e R s m args below meth c g A cells slots QQ C hr hk
  exact h p l e R s m args below meth c g A cells slots QQ C ⟨by omega, by omega, hr.2.2⟩ hk
/-- what the ranges and the kinds say may be used -/
theorem Wp.known {X : Xs} {d k i : Nat} {L : List (Nat × V)} {S : List V} {M : Mm} {Q : Option V → Mm → Prop} (h : okM M → (∀ q ∈ L, rV q.2) → (∀ v ∈ S, rV v) → X.1 ≤ 2147483647 → (∀ j, in32 (X.2 j)) → Wp X d k i L S M Q) : Wp X d k i L S M Q := by
  intro p l e R s m args below meth c g A cells slots QQ C hr hk H locs ls hH hl hL hS
  exact h hH.2.2.2 hL hS C.2.2.2.2.2.2.1.1.2.1 C.2.2.2.2.2.2.1.1.2.2 p l e R s m args below meth c g A cells slots QQ C hr hk H locs ls hH hl hL hS
/-- fewer locals -/
theorem Wp.fewer {X : Xs} {d k i : Nat} {L L' : List (Nat × V)} {S : List V} {M : Mm} {Q : Option V → Mm → Prop} (h : Wp X d k i L' S M Q) (hs : ∀ q ∈ L', q ∈ L) : Wp X d k i L S M Q := by
  intro p l e R s m args below meth c g A cells slots QQ C hr hk H locs ls hH hl hL hS
  refine h p l e R s m args below meth c g A cells slots QQ C hr hk H locs ls hH ⟨hl.1, hl.2.1, fun q hq => ?_⟩ (fun q hq => hL q (hs q hq)) hS
  obtain ⟨x, hx, rfl⟩ := List.mem_map.mp hq
  exact hl.2.2 _ (List.mem_map.mpr ⟨x, hs x hx, rfl⟩)
theorem cv_cat {X : Xs} {g : Gx} {A : Nat → Prop} {s : State} (h : ROk X g A s) (v : V) : (cv g v).category = catV v := by
  obtain ⟨-, -, -, -, -, -, -, h8⟩ := h
  match v with
  | .inl z => rfl
  | .inr (.inl z) => rfl
  | .inr (.inr (0, i)) => rfl
  | .inr (.inr (1, i)) => rfl
  | .inr (.inr (2, i)) => rfl
  | .inr (.inr (n + 3, i)) => exact h8
