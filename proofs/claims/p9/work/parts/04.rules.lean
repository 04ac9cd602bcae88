/-! the rules: an instruction of the list, checked against its bytes, and the judgement one step on -/
def ib (b : Nat) (x y : Int) : Int := match b with
  | 0 => (Int32.ofInt x + Int32.ofInt y).toInt
  | 1 => (Int32.ofInt x - Int32.ofInt y).toInt
  | 2 => (Int32.ofInt x * Int32.ofInt y).toInt
  | 3 => (Int32.ofInt x &&& Int32.ofInt y).toInt
  | 4 => (Int32.ofInt x ||| Int32.ofInt y).toInt
  | 5 => (Int32.ofInt x ^^^ Int32.ofInt y).toInt
  | 6 => (Int32.ofInt x <<< (Int32.ofInt y &&& 31)).toInt
  | 7 => (Int32.ofInt x >>> (Int32.ofInt y &&& 31)).toInt
  | 8 => ((Int32.ofInt x).toUInt32 >>> ((Int32.ofInt y).toUInt32 &&& Int32.toUInt32 31)).toInt32.toInt
  | 9 => (if Int32.ofInt x < Int32.ofInt y then Int32.ofInt y else Int32.ofInt x).toInt
  | _ => (if Int32.ofInt y < Int32.ofInt x then Int32.ofInt y else Int32.ofInt x).toInt
def lb (b : Nat) (x y : Int) : Int := match b with
  | 0 => (Int64.ofInt x + Int64.ofInt y).toInt
  | 1 => (Int64.ofInt x - Int64.ofInt y).toInt
  | 2 => (Int64.ofInt x * Int64.ofInt y).toInt
  | 3 => (Int64.ofInt x &&& Int64.ofInt y).toInt
  | 4 => (Int64.ofInt x ||| Int64.ofInt y).toInt
  | _ => (Int64.ofInt x ^^^ Int64.ofInt y).toInt
def sb (b : Nat) (x y : Int) : Int := match b with
  | 0 => (Int64.ofInt x <<< ((Int32.ofInt y).toInt64 &&& 63)).toInt
  | 1 => (Int64.ofInt x >>> ((Int32.ofInt y).toInt64 &&& 63)).toInt
  | _ => ((Int64.ofInt x).toUInt64 >>> ((Int32.ofInt y).toInt64.toUInt64 &&& Int64.toUInt64 63)).toInt64.toInt
def cb (x : Int) : Int := ((Int32.ofInt x).toUInt32 % 65536).toInt32.toInt
def lo32 (x : Int) : Int := (Int64.ofInt x).toInt32.toInt
def icP (c : Nat) (x y : Int) : Prop := match c with
  | 0 => x = y
  | 1 => x ≠ y
  | 2 => x < y
  | 3 => y ≤ x
  | 4 => y < x
  | _ => x ≤ y
def icN : ClassFile.Cond → Nat
  | .eq => 0
  | .ne => 1
  | .lt => 2
  | .ge => 3
  | .gt => 4
  | .le => 5
theorem e32 {x y : Int} (hx : in32 x) (hy : in32 y) : (Int32.ofInt x = Int32.ofInt y ↔ x = y) := by
  rw [← Int32.toInt_inj, i32_to hx, i32_to hy]
theorem l32 {x y : Int} (hx : in32 x) (hy : in32 y) : (Int32.ofInt x < Int32.ofInt y ↔ x < y) := by
  rw [Int32.lt_iff_toInt_lt, i32_to hx, i32_to hy]
theorem m32 {x y : Int} (hx : in32 x) (hy : in32 y) : (Int32.ofInt x ≤ Int32.ofInt y ↔ x ≤ y) := by
  rw [Int32.le_iff_toInt_le, i32_to hx, i32_to hy]
theorem z32 : in32 0 := ⟨by decide, by decide⟩
theorem ofz : (0 : Int32) = Int32.ofInt 0 := by decide
theorem inn {z : Int} {n : Nat} (h : in32 z) (h1 : 0 ≤ z) (h2 : z < n) : vp_in (Int32.ofInt z) n := vp_in_iff.mpr (by rw [i32_to h]; exact ⟨h1, h2⟩)
def stL1 (b : Nat) (v : V) (L : List (Nat × V)) : List (Nat × V) := (b, v) :: L.filter (fun q => !(q.1 == b) && !(q.1 + 1 == b && catV q.2 == 2))
def stL2 (b : Nat) (v : V) (L : List (Nat × V)) : List (Nat × V) := (b, v) :: L.filter (fun q => !(q.1 == b) && (!(q.1 == b + 1) && !(q.1 + 1 == b && catV q.2 == 2)))
theorem mapL_st1 {X : Xs} {g : Gx} {A : Nat → Prop} {s : State} (h : ROk X g A s) (b : Nat) (v : V) (L : List (Nat × V)) : (b, cv g v) :: (mapL g L).filter (fun q => !(q.1 == b) && !(q.1 + 1 == b && q.2.category == 2)) = mapL g (stL1 b v L) := by
  show _ = (b, cv g v) :: List.map _ _
  congr 1
  unfold mapL
  rw [List.filter_map]
  congr 1
  refine List.filter_congr fun q _ => ?_
  show (!(q.1 == b) && !(q.1 + 1 == b && (cv g q.2).category == 2)) = _
  rw [cv_cat h]
theorem mapL_st2 {X : Xs} {g : Gx} {A : Nat → Prop} {s : State} (h : ROk X g A s) (b : Nat) (v : V) (L : List (Nat × V)) : (b, cv g v) :: (mapL g L).filter (fun q => !(q.1 == b) && (!(q.1 == b + 1) && !(q.1 + 1 == b && q.2.category == 2))) = mapL g (stL2 b v L) := by
  show _ = (b, cv g v) :: List.map _ _
  congr 1
  unfold mapL
  rw [List.filter_map]
  congr 1
  refine List.filter_congr fun q _ => ?_
  show (!(q.1 == b) && (!(q.1 == b + 1) && !(q.1 + 1 == b && (cv g q.2).category == 2))) = _
  rw [cv_cat h]
theorem rst1 {b : Nat} {v : V} {L : List (Nat × V)} (hL : ∀ q ∈ L, rV q.2) (hv : rV v) : ∀ q ∈ stL1 b v L, rV q.2 := by
  intro q hq
  rcases List.mem_cons.mp hq with rfl | h
  · exact hv
  · exact hL q (List.mem_filter.mp h).1
theorem rst2 {b : Nat} {v : V} {L : List (Nat × V)} (hL : ∀ q ∈ L, rV q.2) (hv : rV v) : ∀ q ∈ stL2 b v L, rV q.2 := by
  intro q hq
  rcases List.mem_cons.mp hq with rfl | h
  · exact hv
  · exact hL q (List.mem_filter.mp h).1
theorem rS1 {v : V} {S : List V} (hS : ∀ x ∈ S, rV x) (hv : rV v) : ∀ x ∈ v :: S, rV x := List.forall_mem_cons.mpr ⟨hv, hS⟩
theorem lget {g : Gx} {ls : Array Slot} {n b : Nat} {L : List (Nat × V)} {v : V} (hl : lv_has ls n (mapL g L)) (h : (b, v) ∈ L) : ls[b]? = some (.val (cv g v)) := hl.2.2 (b, cv g v) (List.mem_map.mpr ⟨(b, v), h, rfl⟩)
theorem ws_len (g : Gx) (M : Mm) : (wsOf g M).length = SH.length := by simp [wsOf]
theorem ws_get {g : Gx} {M : Mm} {i : Nat} {c : SC} (h : SH[i]? = some c) : (wsOf g M)[i]? = some (g.2.1 i, ent g c (M i)) := by
  simp [wsOf, List.getElem?_mapIdx, h]
section RULES
variable {X : Xs} {d k i : Nat} {L : List (Nat × V)} {S : List V} {M : Mm} {Q : Option V → Mm → Prop} {ins : Instr} {len : Nat}

def ok0 (w nx : Nat) : Instr → Nat → Bool
  | .iconst n, 1 => Int32.ofInt n == Int32.ofInt (iZ w) && iA w ≤ 2147483647 && nx == iP w + 1
  | .bipush n, 2 => (Int8.ofInt n).toInt32 == Int32.ofInt (iZ w) && iA w ≤ 2147483647 && nx == iP w + 2
  | .sipush n, 3 => (Int16.ofInt n).toInt32 == Int32.ofInt (iZ w) && iA w ≤ 2147483647 && nx == iP w + 3
  | _, _ => false
theorem iZ_in {w : Nat} (h : iA w ≤ 2147483647) : in32 (iZ w) := by
  unfold iZ in32
  split <;> constructor <;> omega
theorem iZ_in64 {w : Nat} : in64 (iZ w) := by
  have h : iA w < 1099511627776 := Nat.mod_lt _ (by decide)
  unfold iZ in64
  split <;> constructor <;> omega
theorem T0 (hd : decode (mB k) (pcA k i) = .ok (ins, len)) (ho : ok0 (wd k i) (pcA k (i + 1)) ins len = true) (h : Wp X d k (i + 1) L (vI (iZ (wd k i)) :: S) M Q) : Wp X d k i L S M Q := by
  intro p l e R s m args below meth c g A cells slots QQ C hr hk H locs ls hH hl hL hS
  unfold ok0 at ho
  split at ho
  · simp only [Bool.and_eq_true, beq_iff_eq, decide_eq_true_eq] at ho
    have q := (h p l e R s m args below meth c g A cells slots QQ C hr hk H locs ls hH hl hL (rS1 hS (iZ_in ho.1.2)))
    rw [ho.2] at q
    exact lv_iconst C.1 C.2.1 hd ho.1.1 q
  · simp only [Bool.and_eq_true, beq_iff_eq, decide_eq_true_eq] at ho
    have q := (h p l e R s m args below meth c g A cells slots QQ C hr hk H locs ls hH hl hL (rS1 hS (iZ_in ho.1.2)))
    rw [ho.2] at q
    exact lv_bipush C.1 C.2.1 hd ho.1.1 q
  · simp only [Bool.and_eq_true, beq_iff_eq, decide_eq_true_eq] at ho
    have q := (h p l e R s m args below meth c g A cells slots QQ C hr hk H locs ls hH hl hL (rS1 hS (iZ_in ho.1.2)))
    rw [ho.2] at q
    exact lv_sipush C.1 C.2.1 hd ho.1.1 q
  · cases ho
def ok1 (k w nx : Nat) : Instr → Nat → Bool
  | .ldc n, 2 => decide (wt (iC w 0) = some (Jvm.Cond.constant (mY k).cls n (Int32.ofInt (iZ w)))) && iA w ≤ 2147483647 && nx == iP w + 2
  | .ldc_w n, 3 => decide (wt (iC w 0) = some (Jvm.Cond.constant (mY k).cls n (Int32.ofInt (iZ w)))) && iA w ≤ 2147483647 && nx == iP w + 3
  | _, _ => false
theorem T1 (hd : decode (mB k) (pcA k i) = .ok (ins, len)) (ho : ok1 k (wd k i) (pcA k (i + 1)) ins len = true) (h : Wp X d k (i + 1) L (vI (iZ (wd k i)) :: S) M Q) : Wp X d k i L S M Q := by
  intro p l e R s m args below meth c g A cells slots QQ C hr hk H locs ls hH hl hL hS
  unfold ok1 at ho
  split at ho
  · simp only [Bool.and_eq_true, beq_iff_eq, decide_eq_true_eq] at ho
    have q := (h p l e R s m args below meth c g A cells slots QQ C hr hk H locs ls hH hl hL (rS1 hS (iZ_in ho.1.2)))
    rw [ho.2] at q
    exact lv_ldc C.1 C.2.1 C.2.2.2.1 (C.2.2.2.2.1 _ (wt_in ho.1.1)) hd q
  · simp only [Bool.and_eq_true, beq_iff_eq, decide_eq_true_eq] at ho
    have q := (h p l e R s m args below meth c g A cells slots QQ C hr hk H locs ls hH hl hL (rS1 hS (iZ_in ho.1.2)))
    rw [ho.2] at q
    exact lv_ldcw C.1 C.2.1 C.2.2.2.1 (C.2.2.2.2.1 _ (wt_in ho.1.1)) hd q
  · cases ho
def ok2 (w nx : Nat) : Instr → Nat → Bool
  | .lconst n, 1 => Int64.ofNat (n : Nat) == Int64.ofInt (iZ w) && nx == iP w + 1
  | _, _ => false
theorem T2 (hd : decode (mB k) (pcA k i) = .ok (ins, len)) (ho : ok2 (wd k i) (pcA k (i + 1)) ins len = true) (h : Wp X d k (i + 1) L (vL (iZ (wd k i)) :: S) M Q) : Wp X d k i L S M Q := by
  intro p l e R s m args below meth c g A cells slots QQ C hr hk H locs ls hH hl hL hS
  unfold ok2 at ho
  split at ho
  · simp only [Bool.and_eq_true, beq_iff_eq, decide_eq_true_eq] at ho
    have q := (h p l e R s m args below meth c g A cells slots QQ C hr hk H locs ls hH hl hL (rS1 hS iZ_in64))
    rw [ho.2] at q
    exact lv_lconst C.1 C.2.1 hd ho.1 q
  · cases ho
def ok3 (k w nx : Nat) : Instr → Nat → Bool
  | .ldc2_w n, 3 => decide (wt (iC w 0) = some (Jvm.Cond.constantLong (mY k).cls n (Int64.ofInt (iZ w)))) && nx == iP w + 3
  | _, _ => false
theorem T3 (hd : decode (mB k) (pcA k i) = .ok (ins, len)) (ho : ok3 k (wd k i) (pcA k (i + 1)) ins len = true) (h : Wp X d k (i + 1) L (vL (iZ (wd k i)) :: S) M Q) : Wp X d k i L S M Q := by
  intro p l e R s m args below meth c g A cells slots QQ C hr hk H locs ls hH hl hL hS
  unfold ok3 at ho
  split at ho
  · simp only [Bool.and_eq_true, beq_iff_eq, decide_eq_true_eq] at ho
    have q := (h p l e R s m args below meth c g A cells slots QQ C hr hk H locs ls hH hl hL (rS1 hS iZ_in64))
    rw [ho.2] at q
    exact lv_ldc2 C.1 C.2.1 C.2.2.2.1 (C.2.2.2.2.1 _ (wt_in ho.1)) hd q
  · cases ho

def ok4 (w nx : Nat) : Instr → Nat → Bool
  | .iload_n n, 1 => (n : Nat) == iB w && nx == iP w + 1
  | .iload n, 2 => n == iB w && nx == iP w + 2
  | _, _ => false
theorem T4 {z : Int} (hd : decode (mB k) (pcA k i) = .ok (ins, len)) (ho : ok4 (wd k i) (pcA k (i + 1)) ins len = true) (hv : (iB (wd k i), vI z) ∈ L) (h : Wp X d k (i + 1) L (vI z :: S) M Q) : Wp X d k i L S M Q := by
  intro p l e R s m args below meth c g A cells slots QQ C hr hk H locs ls hH hl hL hS
  unfold ok4 at ho
  have q := (h p l e R s m args below meth c g A cells slots QQ C hr hk H locs ls hH hl hL (rS1 hS (hL _ hv)))
  split at ho
  · simp only [Bool.and_eq_true, beq_iff_eq, decide_eq_true_eq] at ho
    rw [ho.2] at q
    exact lv_iload_n C.1 C.2.1 hd ho.1 (lget hl hv) q
  · simp only [Bool.and_eq_true, beq_iff_eq, decide_eq_true_eq] at ho
    rw [ho.2] at q
    rw [ho.1] at hd
    exact lv_iload C.1 C.2.1 hd (lget hl hv) q
  · cases ho

def ok5 (w nx : Nat) : Instr → Nat → Bool
  | .lload_n n, 1 => (n : Nat) == iB w && nx == iP w + 1
  | .lload n, 2 => n == iB w && nx == iP w + 2
  | _, _ => false
theorem T5 {z : Int} (hd : decode (mB k) (pcA k i) = .ok (ins, len)) (ho : ok5 (wd k i) (pcA k (i + 1)) ins len = true) (hv : (iB (wd k i), vL z) ∈ L) (h : Wp X d k (i + 1) L (vL z :: S) M Q) : Wp X d k i L S M Q := by
  intro p l e R s m args below meth c g A cells slots QQ C hr hk H locs ls hH hl hL hS
  unfold ok5 at ho
  have q := (h p l e R s m args below meth c g A cells slots QQ C hr hk H locs ls hH hl hL (rS1 hS (hL _ hv)))
  split at ho
  · simp only [Bool.and_eq_true, beq_iff_eq, decide_eq_true_eq] at ho
    rw [ho.2] at q
    exact lv_lload_n C.1 C.2.1 hd ho.1 (lget hl hv) q
  · simp only [Bool.and_eq_true, beq_iff_eq, decide_eq_true_eq] at ho
    rw [ho.2] at q
    rw [ho.1] at hd
    exact lv_lload C.1 C.2.1 hd (lget hl hv) q
  · cases ho

def ok6 (w nx : Nat) : Instr → Nat → Bool
  | .aload_n n, 1 => (n : Nat) == iB w && nx == iP w + 1
  | .aload n, 2 => n == iB w && nx == iP w + 2
  | _, _ => false
theorem gad_ref {g : Gx} {t j : Nat} (h : t < 3) : ∃ a, gad g t j = .ref a := by
  match t, h with
  | 0, _ => exact ⟨_, rfl⟩
  | 1, _ => exact ⟨_, rfl⟩
  | 2, _ => exact ⟨_, rfl⟩
theorem T6 {t j : Nat} (ht : t < 3) (hd : decode (mB k) (pcA k i) = .ok (ins, len)) (ho : ok6 (wd k i) (pcA k (i + 1)) ins len = true) (hv : (iB (wd k i), vR t j) ∈ L) (h : Wp X d k (i + 1) L (vR t j :: S) M Q) : Wp X d k i L S M Q := by
  intro p l e R s m args below meth c g A cells slots QQ C hr hk H locs ls hH hl hL hS
  unfold ok6 at ho
  have q := (h p l e R s m args below meth c g A cells slots QQ C hr hk H locs ls hH hl hL (rS1 hS (hL _ hv)))
  obtain ⟨a, ha⟩ := gad_ref (g := g) (j := j) ht
  have hg := lget hl hv
  have e : cv g (vR t j) = .ref a := ha
  rw [e] at hg
  rw [List.map_cons, e] at q
  split at ho
  · simp only [Bool.and_eq_true, beq_iff_eq, decide_eq_true_eq] at ho
    rw [ho.2] at q
    exact lv_aload_n C.1 C.2.1 hd ho.1 hg q
  · simp only [Bool.and_eq_true, beq_iff_eq, decide_eq_true_eq] at ho
    rw [ho.2] at q
    rw [ho.1] at hd
    exact lv_aload C.1 C.2.1 hd hg q
  · cases ho

def ok7 (k w nx : Nat) : Instr → Nat → Bool
  | .istore_n n, 1 => (n : Nat) == iB w && decide (iB w < mN k) && nx == iP w + 1
  | .istore n, 2 => n == iB w && decide (iB w < mN k) && nx == iP w + 2
  | _, _ => false
theorem T7 {z : Int} (hd : decode (mB k) (pcA k i) = .ok (ins, len)) (ho : ok7 k (wd k i) (pcA k (i + 1)) ins len = true) (h : Wp X d k (i + 1) (stL1 (iB (wd k i)) (vI z) L) S M Q) : Wp X d k i L (vI z :: S) M Q := by
  intro p l e R s m args below meth c g A cells slots QQ C hr hk H locs ls hH hl hL hS
  unfold ok7 at ho
  have hz := hS _ List.mem_cons_self
  have q := fun ls' hl' => h p l e R s m args below meth c g A cells slots QQ C hr hk H locs ls' hH hl' (rst1 hL hz) (fun x hx => hS x (List.mem_cons_of_mem _ hx))
  split at ho
  · simp only [Bool.and_eq_true, beq_iff_eq, decide_eq_true_eq] at ho
    rw [ho.2] at q
    exact lv_istore_n C.1 C.2.1 hd ho.1.1 hl ho.1.2 (mapL_st1 C.2.2.2.2.2.2.1 _ (vI z) L) q
  · simp only [Bool.and_eq_true, beq_iff_eq, decide_eq_true_eq] at ho
    rw [ho.2] at q
    rw [ho.1.1] at hd
    exact lv_istore C.1 C.2.1 hd hl ho.1.2 (mapL_st1 C.2.2.2.2.2.2.1 _ (vI z) L) q
  · cases ho

def ok8 (k w nx : Nat) : Instr → Nat → Bool
  | .lstore_n n, 1 => (n : Nat) == iB w && decide (iB w + 1 < mN k) && nx == iP w + 1
  | .lstore n, 2 => n == iB w && decide (iB w + 1 < mN k) && nx == iP w + 2
  | _, _ => false
theorem T8 {z : Int} (hd : decode (mB k) (pcA k i) = .ok (ins, len)) (ho : ok8 k (wd k i) (pcA k (i + 1)) ins len = true) (h : Wp X d k (i + 1) (stL2 (iB (wd k i)) (vL z) L) S M Q) : Wp X d k i L (vL z :: S) M Q := by
  intro p l e R s m args below meth c g A cells slots QQ C hr hk H locs ls hH hl hL hS
  unfold ok8 at ho
  have hz := hS _ List.mem_cons_self
  have q := fun ls' hl' => h p l e R s m args below meth c g A cells slots QQ C hr hk H locs ls' hH hl' (rst2 hL hz) (fun x hx => hS x (List.mem_cons_of_mem _ hx))
  split at ho
  · simp only [Bool.and_eq_true, beq_iff_eq, decide_eq_true_eq] at ho
    rw [ho.2] at q
    exact lv_lstore_n C.1 C.2.1 hd ho.1.1 hl ho.1.2 (mapL_st2 C.2.2.2.2.2.2.1 _ (vL z) L) q
  · simp only [Bool.and_eq_true, beq_iff_eq, decide_eq_true_eq] at ho
    rw [ho.2] at q
    rw [ho.1.1] at hd
    exact lv_lstore C.1 C.2.1 hd hl ho.1.2 (mapL_st2 C.2.2.2.2.2.2.1 _ (vL z) L) q
  · cases ho

def ok9 (k w nx : Nat) : Instr → Nat → Bool
  | .astore_n n, 1 => (n : Nat) == iB w && decide (iB w < mN k) && nx == iP w + 1
  | .astore n, 2 => n == iB w && decide (iB w < mN k) && nx == iP w + 2
  | _, _ => false
theorem T9 {t j : Nat} (ht : t < 3) (hd : decode (mB k) (pcA k i) = .ok (ins, len)) (ho : ok9 k (wd k i) (pcA k (i + 1)) ins len = true) (h : Wp X d k (i + 1) (stL1 (iB (wd k i)) (vR t j) L) S M Q) : Wp X d k i L (vR t j :: S) M Q := by
  intro p l e R s m args below meth c g A cells slots QQ C hr hk H locs ls hH hl hL hS
  unfold ok9 at ho
  have hz := hS _ List.mem_cons_self
  have q := fun ls' hl' => h p l e R s m args below meth c g A cells slots QQ C hr hk H locs ls' hH hl' (rst1 hL hz) (fun x hx => hS x (List.mem_cons_of_mem _ hx))
  obtain ⟨a, ha⟩ := gad_ref (g := g) (j := j) ht
  have e : cv g (vR t j) = .ref a := ha
  have e2 := mapL_st1 C.2.2.2.2.2.2.1 (iB (wd k i)) (vR t j) L
  rw [e] at e2
  rw [List.map_cons, e]
  split at ho
  · simp only [Bool.and_eq_true, beq_iff_eq, decide_eq_true_eq] at ho
    rw [ho.2] at q
    exact lv_astore_n C.1 C.2.1 hd ho.1.1 hl ho.1.2 e2 q
  · simp only [Bool.and_eq_true, beq_iff_eq, decide_eq_true_eq] at ho
    rw [ho.2] at q
    rw [ho.1.1] at hd
    exact lv_astore C.1 C.2.1 hd hl ho.1.2 e2 q
  · cases ho
def iS (w : Nat) : Int := if iC w 0 = 0 then (iA w : Int) else -(iA w : Int)
def ok10 (k w nx : Nat) : Instr → Nat → Bool
  | .iinc n v, 3 => n == iB w && v == iS w && decide (iB w < mN k) && nx == iP w + 3
  | _, _ => false
theorem T10 {z : Int} (hd : decode (mB k) (pcA k i) = .ok (ins, len)) (ho : ok10 k (wd k i) (pcA k (i + 1)) ins len = true) (hv : (iB (wd k i), vI z) ∈ L) (h : Wp X d k (i + 1) (stL1 (iB (wd k i)) (vI (ib 0 z (iS (wd k i)))) L) S M Q) : Wp X d k i L S M Q := by
  intro p l e R s m args below meth c g A cells slots QQ C hr hk H locs ls hH hl hL hS
  unfold ok10 at ho
  have q := fun ls' hl' => h p l e R s m args below meth c g A cells slots QQ C hr hk H locs ls' hH hl' (rst1 hL (i32_r _)) hS
  split at ho
  · simp only [Bool.and_eq_true, beq_iff_eq, decide_eq_true_eq] at ho
    rw [ho.2] at q
    rw [ho.1.1.1, ho.1.1.2] at hd
    obtain ⟨y, hy⟩ := List.getElem?_of_mem (List.mem_map.mpr ⟨_, hv, rfl⟩ : (iB (wd k i), cv g (vI z)) ∈ mapL g L)
    exact lv_iinc C.1 C.2.1 hd hl hy (v := Int32.ofInt (ib 0 z (iS (wd k i)))) (Int32.ofInt_toInt _).symm ho.1.2 (mapL_st1 C.2.2.2.2.2.2.1 _ (vI (ib 0 z (iS (wd k i)))) L) q
  · cases ho

def ok11 (w nx : Nat) : Instr → Nat → Bool
  | .iadd, 1 => iB w == 0 && nx == iP w + 1
  | .isub, 1 => iB w == 1 && nx == iP w + 1
  | .imul, 1 => iB w == 2 && nx == iP w + 1
  | .iand, 1 => iB w == 3 && nx == iP w + 1
  | .ior, 1 => iB w == 4 && nx == iP w + 1
  | .ixor, 1 => iB w == 5 && nx == iP w + 1
  | .ishl, 1 => iB w == 6 && nx == iP w + 1
  | .ishr, 1 => iB w == 7 && nx == iP w + 1
  | .iushr, 1 => iB w == 8 && nx == iP w + 1
  | _, _ => false
theorem T11 {x y : Int} (hd : decode (mB k) (pcA k i) = .ok (ins, len)) (ho : ok11 (wd k i) (pcA k (i + 1)) ins len = true) (h : Wp X d k (i + 1) L (vI (ib (iB (wd k i)) x y) :: S) M Q) : Wp X d k i L (vI y :: vI x :: S) M Q := by
  intro p l e R s m args below meth c g A cells slots QQ C hr hk H locs ls hH hl hL hS
  unfold ok11 at ho
  have hS2 : ∀ v ∈ S, rV v := fun v hv => hS v (List.mem_cons_of_mem _ (List.mem_cons_of_mem _ hv))
  have hr2 : rV (vI (ib (iB (wd k i)) x y)) := by
    show in32 _
    unfold ib
    split <;> exact i32_r _
  have q := (h p l e R s m args below meth c g A cells slots QQ C hr hk H locs ls hH hl hL (rS1 hS2 hr2))
  rw [List.map_cons] at q
  split at ho
  · simp only [Bool.and_eq_true, beq_iff_eq, decide_eq_true_eq] at ho
    rw [ho.2, ho.1] at q
    refine lv_iadd C.1 C.2.1 hd ?_
    rw [show cv g (vI (ib 0 x y)) = .int _ from congrArg Value.int (Int32.ofInt_toInt _)] at q
    exact q
  · simp only [Bool.and_eq_true, beq_iff_eq, decide_eq_true_eq] at ho
    rw [ho.2, ho.1] at q
    refine lv_isub C.1 C.2.1 hd ?_
    rw [show cv g (vI (ib 1 x y)) = .int _ from congrArg Value.int (Int32.ofInt_toInt _)] at q
    exact q
  · simp only [Bool.and_eq_true, beq_iff_eq, decide_eq_true_eq] at ho
    rw [ho.2, ho.1] at q
    refine lv_imul C.1 C.2.1 hd ?_
    rw [show cv g (vI (ib 2 x y)) = .int _ from congrArg Value.int (Int32.ofInt_toInt _)] at q
    exact q
  · simp only [Bool.and_eq_true, beq_iff_eq, decide_eq_true_eq] at ho
    rw [ho.2, ho.1] at q
    refine lv_iand C.1 C.2.1 hd ?_
    rw [show cv g (vI (ib 3 x y)) = .int _ from congrArg Value.int (Int32.ofInt_toInt _)] at q
    exact q
  · simp only [Bool.and_eq_true, beq_iff_eq, decide_eq_true_eq] at ho
    rw [ho.2, ho.1] at q
    refine lv_ior C.1 C.2.1 hd ?_
    rw [show cv g (vI (ib 4 x y)) = .int _ from congrArg Value.int (Int32.ofInt_toInt _)] at q
    exact q
  · simp only [Bool.and_eq_true, beq_iff_eq, decide_eq_true_eq] at ho
    rw [ho.2, ho.1] at q
    refine lv_ixor C.1 C.2.1 hd ?_
    rw [show cv g (vI (ib 5 x y)) = .int _ from congrArg Value.int (Int32.ofInt_toInt _)] at q
    exact q
  · simp only [Bool.and_eq_true, beq_iff_eq, decide_eq_true_eq] at ho
    rw [ho.2, ho.1] at q
    refine lv_ishl C.1 C.2.1 hd ?_
    rw [show cv g (vI (ib 6 x y)) = .int _ from congrArg Value.int (Int32.ofInt_toInt _)] at q
    exact q
  · simp only [Bool.and_eq_true, beq_iff_eq, decide_eq_true_eq] at ho
    rw [ho.2, ho.1] at q
    refine lv_ishr C.1 C.2.1 hd ?_
    rw [show cv g (vI (ib 7 x y)) = .int _ from congrArg Value.int (Int32.ofInt_toInt _)] at q
    exact q
  · simp only [Bool.and_eq_true, beq_iff_eq, decide_eq_true_eq] at ho
    rw [ho.2, ho.1] at q
    exact lv_iushr C.1 C.2.1 hd (Int32.ofInt_toInt _).symm q
  · cases ho

def ok12 (w nx : Nat) : Instr → Nat → Bool
  | .ladd, 1 => iB w == 0 && nx == iP w + 1
  | .lsub, 1 => iB w == 1 && nx == iP w + 1
  | .lmul, 1 => iB w == 2 && nx == iP w + 1
  | .land, 1 => iB w == 3 && nx == iP w + 1
  | .lor, 1 => iB w == 4 && nx == iP w + 1
  | .lxor, 1 => iB w == 5 && nx == iP w + 1
  | _, _ => false
theorem T12 {x y : Int} (hd : decode (mB k) (pcA k i) = .ok (ins, len)) (ho : ok12 (wd k i) (pcA k (i + 1)) ins len = true) (h : Wp X d k (i + 1) L (vL (lb (iB (wd k i)) x y) :: S) M Q) : Wp X d k i L (vL y :: vL x :: S) M Q := by
  intro p l e R s m args below meth c g A cells slots QQ C hr hk H locs ls hH hl hL hS
  unfold ok12 at ho
  have hS2 : ∀ v ∈ S, rV v := fun v hv => hS v (List.mem_cons_of_mem _ (List.mem_cons_of_mem _ hv))
  have hr2 : rV (vL (lb (iB (wd k i)) x y)) := by
    show in64 _
    unfold lb
    split <;> exact i64_r _
  have q := (h p l e R s m args below meth c g A cells slots QQ C hr hk H locs ls hH hl hL (rS1 hS2 hr2))
  rw [List.map_cons] at q
  split at ho
  · simp only [Bool.and_eq_true, beq_iff_eq, decide_eq_true_eq] at ho
    rw [ho.2, ho.1] at q
    refine lv_ladd C.1 C.2.1 hd ?_
    rw [show cv g (vL (lb 0 x y)) = .long _ from congrArg Value.long (Int64.ofInt_toInt _)] at q
    exact q
  · simp only [Bool.and_eq_true, beq_iff_eq, decide_eq_true_eq] at ho
    rw [ho.2, ho.1] at q
    refine lv_lsub C.1 C.2.1 hd ?_
    rw [show cv g (vL (lb 1 x y)) = .long _ from congrArg Value.long (Int64.ofInt_toInt _)] at q
    exact q
  · simp only [Bool.and_eq_true, beq_iff_eq, decide_eq_true_eq] at ho
    rw [ho.2, ho.1] at q
    refine lv_lmul C.1 C.2.1 hd ?_
    rw [show cv g (vL (lb 2 x y)) = .long _ from congrArg Value.long (Int64.ofInt_toInt _)] at q
    exact q
  · simp only [Bool.and_eq_true, beq_iff_eq, decide_eq_true_eq] at ho
    rw [ho.2, ho.1] at q
    refine lv_land C.1 C.2.1 hd ?_
    rw [show cv g (vL (lb 3 x y)) = .long _ from congrArg Value.long (Int64.ofInt_toInt _)] at q
    exact q
  · simp only [Bool.and_eq_true, beq_iff_eq, decide_eq_true_eq] at ho
    rw [ho.2, ho.1] at q
    refine lv_lor C.1 C.2.1 hd ?_
    rw [show cv g (vL (lb 4 x y)) = .long _ from congrArg Value.long (Int64.ofInt_toInt _)] at q
    exact q
  · simp only [Bool.and_eq_true, beq_iff_eq, decide_eq_true_eq] at ho
    rw [ho.2, ho.1] at q
    refine lv_lxor C.1 C.2.1 hd ?_
    rw [show cv g (vL (lb 5 x y)) = .long _ from congrArg Value.long (Int64.ofInt_toInt _)] at q
    exact q
  · cases ho

def ok13 (w nx : Nat) : Instr → Nat → Bool
  | .lshl, 1 => iB w == 0 && nx == iP w + 1
  | .lshr, 1 => iB w == 1 && nx == iP w + 1
  | .lushr, 1 => iB w == 2 && nx == iP w + 1
  | _, _ => false
theorem T13 {x y : Int} (hd : decode (mB k) (pcA k i) = .ok (ins, len)) (ho : ok13 (wd k i) (pcA k (i + 1)) ins len = true) (h : Wp X d k (i + 1) L (vL (sb (iB (wd k i)) x y) :: S) M Q) : Wp X d k i L (vI y :: vL x :: S) M Q := by
  intro p l e R s m args below meth c g A cells slots QQ C hr hk H locs ls hH hl hL hS
  unfold ok13 at ho
  have hS2 : ∀ v ∈ S, rV v := fun v hv => hS v (List.mem_cons_of_mem _ (List.mem_cons_of_mem _ hv))
  have hr2 : rV (vL (sb (iB (wd k i)) x y)) := by
    show in64 _
    unfold sb
    split <;> exact i64_r _
  have q := (h p l e R s m args below meth c g A cells slots QQ C hr hk H locs ls hH hl hL (rS1 hS2 hr2))
  rw [List.map_cons] at q
  split at ho
  · simp only [Bool.and_eq_true, beq_iff_eq, decide_eq_true_eq] at ho
    rw [ho.2, ho.1] at q
    exact lv_lshl C.1 C.2.1 hd (Int64.ofInt_toInt _).symm q
  · simp only [Bool.and_eq_true, beq_iff_eq, decide_eq_true_eq] at ho
    rw [ho.2, ho.1] at q
    exact lv_lshr C.1 C.2.1 hd (Int64.ofInt_toInt _).symm q
  · simp only [Bool.and_eq_true, beq_iff_eq, decide_eq_true_eq] at ho
    rw [ho.2, ho.1] at q
    exact lv_lushr C.1 C.2.1 hd (Int64.ofInt_toInt _).symm q
  · cases ho

def ok14 (w nx : Nat) : Instr → Nat → Bool
  | .i2l, 1 => nx == iP w + 1
  | _, _ => false
theorem T14 {x : Int} (hd : decode (mB k) (pcA k i) = .ok (ins, len)) (ho : ok14 (wd k i) (pcA k (i + 1)) ins len = true) (h : Wp X d k (i + 1) L (vL x :: S) M Q) : Wp X d k i L (vI x :: S) M Q := by
  intro p l e R s m args below meth c g A cells slots QQ C hr hk H locs ls hH hl hL hS
  unfold ok14 at ho
  have hS2 : ∀ v ∈ S, rV v := fun v hv => hS v (List.mem_cons_of_mem _ hv)
  have hx : in32 x := hS _ List.mem_cons_self
  have hx6 : in64 x := ⟨by have := hx.1; omega, by have := hx.2; omega⟩
  have ex : (Int32.ofInt x).toInt64 = Int64.ofInt x := Int64.toInt_inj.mp (by rw [Int32.toInt_toInt64, i32_to hx, i64_to hx6])
  have q := (h p l e R s m args below meth c g A cells slots QQ C hr hk H locs ls hH hl hL (rS1 hS2 hx6))
  split at ho
  · simp only [Bool.and_eq_true, beq_iff_eq, decide_eq_true_eq] at ho
    rw [ho] at q
    exact lv_i2l C.1 C.2.1 hd ex q
  · cases ho

def ok15 (w nx : Nat) : Instr → Nat → Bool
  | .l2i, 1 => nx == iP w + 1
  | _, _ => false
theorem T15 {x : Int} (hd : decode (mB k) (pcA k i) = .ok (ins, len)) (ho : ok15 (wd k i) (pcA k (i + 1)) ins len = true) (h : Wp X d k (i + 1) L (vI (lo32 x) :: S) M Q) : Wp X d k i L (vL x :: S) M Q := by
  intro p l e R s m args below meth c g A cells slots QQ C hr hk H locs ls hH hl hL hS
  unfold ok15 at ho
  have hS2 : ∀ v ∈ S, rV v := fun v hv => hS v (List.mem_cons_of_mem _ hv)
  have q := (h p l e R s m args below meth c g A cells slots QQ C hr hk H locs ls hH hl hL (rS1 hS2 (i32_r _)))
  split at ho
  · simp only [Bool.and_eq_true, beq_iff_eq, decide_eq_true_eq] at ho
    rw [ho] at q
    exact lv_l2i C.1 C.2.1 hd (Int32.ofInt_toInt _).symm q
  · cases ho

def ok16 (w nx : Nat) : Instr → Nat → Bool
  | .i2c, 1 => nx == iP w + 1
  | _, _ => false
theorem T16 {x : Int} (hd : decode (mB k) (pcA k i) = .ok (ins, len)) (ho : ok16 (wd k i) (pcA k (i + 1)) ins len = true) (h : Wp X d k (i + 1) L (vI (cb x) :: S) M Q) : Wp X d k i L (vI x :: S) M Q := by
  intro p l e R s m args below meth c g A cells slots QQ C hr hk H locs ls hH hl hL hS
  unfold ok16 at ho
  have hS2 : ∀ v ∈ S, rV v := fun v hv => hS v (List.mem_cons_of_mem _ hv)
  have q := (h p l e R s m args below meth c g A cells slots QQ C hr hk H locs ls hH hl hL (rS1 hS2 (i32_r _)))
  split at ho
  · simp only [Bool.and_eq_true, beq_iff_eq, decide_eq_true_eq] at ho
    rw [ho] at q
    exact lv_i2c C.1 C.2.1 hd (Int32.ofInt_toInt _).symm q
  · cases ho

def ok17 (k w nx : Nat) : Instr → Nat → Bool
  | .ifCond c off, 3 => icN c == iA w && decide ((iP w : Int) + off = (pcA k (iB w) : Int)) && nx == iP w + 3
  | _, _ => false
theorem T17 {x : Int} (hd : decode (mB k) (pcA k i) = .ok (ins, len)) (ho : ok17 k (wd k i) (pcA k (i + 1)) ins len = true) (h1 : icP (iA (wd k i)) x 0 → Wp X d k (iB (wd k i)) L S M Q) (h2 : ¬ icP (iA (wd k i)) x 0 → Wp X d k (i + 1) L S M Q) : Wp X d k i L (vI x :: S) M Q := by
  intro p l e R s m args below meth c g A cells slots QQ C hr hk H locs ls hH hl hL hS
  unfold ok17 at ho
  have hx : in32 x := hS _ List.mem_cons_self
  have hS2 : ∀ v ∈ S, rV v := fun v hv => hS v (List.mem_cons_of_mem _ hv)
  have q1 := fun z => (h1 z p l e R s m args below meth c g A cells slots QQ C hr hk H locs ls hH hl hL hS2)
  have q2 := fun z => (h2 z p l e R s m args below meth c g A cells slots QQ C hr hk H locs ls hH hl hL hS2)
  split at ho
  · rename_i cc off
    simp only [Bool.and_eq_true, beq_iff_eq, decide_eq_true_eq] at ho
    obtain ⟨⟨ha, ht⟩, hn⟩ := ho
    rw [← ha] at q1 q2
    rw [hn] at q2
    cases cc
    · exact lv_if_eq C.1 C.2.1 hd ht (fun z => q1 ((e32 hx z32).mp (by rw [← ofz]; exact z))) (fun z => q2 (fun e => z (by rw [ofz]; exact (e32 hx z32).mpr e)))
    · exact lv_if_ne C.1 C.2.1 hd ht (fun z => q1 (fun e => z (by rw [ofz]; exact (e32 hx z32).mpr e))) (fun z => q2 (fun e => e ((e32 hx z32).mp (by rw [← ofz]; exact z))))
    · exact lv_if_lt C.1 C.2.1 hd ht (fun z => q1 ((l32 hx z32).mp (by rw [← ofz]; exact z))) (fun z => q2 (fun e => z (by rw [ofz]; exact (l32 hx z32).mpr e)))
    · exact lv_if_ge C.1 C.2.1 hd ht (fun z => q1 ((m32 z32 hx).mp (by rw [← ofz]; exact z))) (fun z => q2 (fun e => z (by rw [ofz]; exact (m32 z32 hx).mpr e)))
    · exact lv_if_gt C.1 C.2.1 hd ht (fun z => q1 ((l32 z32 hx).mp (by rw [← ofz]; exact z))) (fun z => q2 (fun e => z (by rw [ofz]; exact (l32 z32 hx).mpr e)))
    · exact lv_if_le C.1 C.2.1 hd ht (fun z => q1 ((m32 hx z32).mp (by rw [← ofz]; exact z))) (fun z => q2 (fun e => z (by rw [ofz]; exact (m32 hx z32).mpr e)))
  · cases ho

def ok18 (k w nx : Nat) : Instr → Nat → Bool
  | .if_icmp c off, 3 => icN c == iA w && decide ((iP w : Int) + off = (pcA k (iB w) : Int)) && nx == iP w + 3
  | _, _ => false
theorem T18 {x y : Int} (hd : decode (mB k) (pcA k i) = .ok (ins, len)) (ho : ok18 k (wd k i) (pcA k (i + 1)) ins len = true) (h1 : icP (iA (wd k i)) x y → Wp X d k (iB (wd k i)) L S M Q) (h2 : ¬ icP (iA (wd k i)) x y → Wp X d k (i + 1) L S M Q) : Wp X d k i L (vI y :: vI x :: S) M Q := by
  intro p l e R s m args below meth c g A cells slots QQ C hr hk H locs ls hH hl hL hS
  unfold ok18 at ho
  have hy : in32 y := hS _ List.mem_cons_self
  have hx : in32 x := hS _ (List.mem_cons_of_mem _ List.mem_cons_self)
  have hS2 : ∀ v ∈ S, rV v := fun v hv => hS v (List.mem_cons_of_mem _ (List.mem_cons_of_mem _ hv))
  have q1 := fun z => (h1 z p l e R s m args below meth c g A cells slots QQ C hr hk H locs ls hH hl hL hS2)
  have q2 := fun z => (h2 z p l e R s m args below meth c g A cells slots QQ C hr hk H locs ls hH hl hL hS2)
  split at ho
  · rename_i cc off
    simp only [Bool.and_eq_true, beq_iff_eq, decide_eq_true_eq] at ho
    obtain ⟨⟨ha, ht⟩, hn⟩ := ho
    rw [← ha] at q1 q2
    rw [hn] at q2
    cases cc
    · exact lv_icmp_eq C.1 C.2.1 hd ht (fun z => q1 ((e32 hx hy).mp z)) (fun z => q2 (fun e => z ((e32 hx hy).mpr e)))
    · exact lv_icmp_ne C.1 C.2.1 hd ht (fun z => q1 (fun e => z ((e32 hx hy).mpr e))) (fun z => q2 (fun e => e ((e32 hx hy).mp z)))
    · exact lv_icmp_lt C.1 C.2.1 hd ht (fun z => q1 ((l32 hx hy).mp z)) (fun z => q2 (fun e => z ((l32 hx hy).mpr e)))
    · exact lv_icmp_ge C.1 C.2.1 hd ht (fun z => q1 ((m32 hy hx).mp z)) (fun z => q2 (fun e => z ((m32 hy hx).mpr e)))
    · exact lv_icmp_gt C.1 C.2.1 hd ht (fun z => q1 ((l32 hy hx).mp z)) (fun z => q2 (fun e => z ((l32 hy hx).mpr e)))
    · exact lv_icmp_le C.1 C.2.1 hd ht (fun z => q1 ((m32 hx hy).mp z)) (fun z => q2 (fun e => z ((m32 hx hy).mpr e)))
  · cases ho

def ok20 (k w : Nat) : Instr → Nat → Bool
  | .goto off, 3 => decide ((iP w : Int) + off = (pcA k (iB w) : Int))
  | _, _ => false
theorem T20 (hd : decode (mB k) (pcA k i) = .ok (ins, len)) (ho : ok20 k (wd k i) ins len = true) (h : Wp X d k (iB (wd k i)) L S M Q) : Wp X d k i L S M Q := by
  intro p l e R s m args below meth c g A cells slots QQ C hr hk H locs ls hH hl hL hS
  unfold ok20 at ho
  have q := (h p l e R s m args below meth c g A cells slots QQ C hr hk H locs ls hH hl hL hS)
  split at ho
  · exact lv_goto C.1 C.2.1 hd (of_decide_eq_true ho) q
  · cases ho
end RULES
