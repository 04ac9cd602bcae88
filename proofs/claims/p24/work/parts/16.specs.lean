/-! the methods whose steps the checker goes through -/
def inlM : Nat := 6201776514562868420632995368886936971959116420378552051040272
def inlF (k : Nat) : Bool := Nat.beq (Nat.mod (Nat.shiftRight inlM k) 2) 1
def sp104_0 : Spec := (104, [(2, 0, 0), (0, -2147483648, 2147483647)], [((-2147483648, 2147483647), [])], [(52, 14)], 10)
def cu104_0 : List Cut := []
theorem os104_0 : okStart [] inlF [] cu104_0 4000 sp104_0 = true := by decide +kernel
theorem oc104_0 : cu104_0.all (okCut [] inlF [] cu104_0 4000 sp104_0) = true := by decide +kernel
theorem ok104_0 (X : Xs) : SpecOK X sp104_0 := sp_sound (sps_nil) rfl os104_0 (List.all_eq_true.mp oc104_0)
def sp176_0 : Spec := (176, [(2, 65, 0), (0, -2147483648, 2147483647)], [((-2147483648, 2147483647), [])], [(65, 38)], 10)
def cu176_0 : List Cut := []
theorem os176_0 : okStart [] inlF [] cu176_0 4000 sp176_0 = true := by decide +kernel
theorem oc176_0 : cu176_0.all (okCut [] inlF [] cu176_0 4000 sp176_0) = true := by decide +kernel
theorem ok176_0 (X : Xs) : SpecOK X sp176_0 := sp_sound (sps_nil) rfl os176_0 (List.all_eq_true.mp oc176_0)
def sp87_0 : Spec := (87, [(2, 0, 0), (0, -2147483648, 2147483647)], [((-100003, 9000), [])], [(0, 11)], 10)
def cu87_0 : List Cut := []
theorem os87_0 : okStart [] inlF [] cu87_0 4000 sp87_0 = true := by decide +kernel
theorem oc87_0 : cu87_0.all (okCut [] inlF [] cu87_0 4000 sp87_0) = true := by decide +kernel
theorem ok87_0 (X : Xs) : SpecOK X sp87_0 := sp_sound (sps_nil) rfl os87_0 (List.all_eq_true.mp oc87_0)
def sp133_0 : Spec := (133, [(2, 65, 0), (0, -2147483648, 2147483647)], [((-100003, 9000), [])], [(65, 1)], 10)
def cu133_0 : List Cut := []
theorem os133_0 : okStart [] inlF [] cu133_0 4000 sp133_0 = true := by decide +kernel
theorem oc133_0 : cu133_0.all (okCut [] inlF [] cu133_0 4000 sp133_0) = true := by decide +kernel
theorem ok133_0 (X : Xs) : SpecOK X sp133_0 := sp_sound (sps_nil) rfl os133_0 (List.all_eq_true.mp oc133_0)
def sp74_0 : Spec := (74, [(2, 1, 0), (0, 0, 29), (0, 0, 9000)], [((0, 3), [])], [], 10)
def cu74_0 : List Cut := [(5, [0, 1, 2, 3], [(2, 1, 0), (0, 0, 29), (0, 0, 9000), (0, -1, 59)], [], [(0, 0, 0), (1, 3, 1)])]
theorem os74_0 : okStart [] inlF [] cu74_0 4000 sp74_0 = true := by decide +kernel
theorem oc74_0 : cu74_0.all (okCut [] inlF [] cu74_0 4000 sp74_0) = true := by decide +kernel
theorem ok74_0 (X : Xs) : SpecOK X sp74_0 := sp_sound (sps_nil) rfl os74_0 (List.all_eq_true.mp oc74_0)
def sp83_0 : Spec := (83, [(2, 0, 0), (0, -2147483648, 2147483647), (0, -2147483648, 2147483647)], [((-100004, 3), [])], [(1, 12), (9, 0), (10, 0), (11, 0)], 20)
def cu83_0 : List Cut := []
theorem os83_0 : okStart [sp74_0] inlF [] cu83_0 4000 sp83_0 = true := by decide +kernel
theorem oc83_0 : cu83_0.all (okCut [sp74_0] inlF [] cu83_0 4000 sp83_0) = true := by decide +kernel
theorem ok83_0 (X : Xs) : SpecOK X sp83_0 := sp_sound (sps_cons (ok74_0 X) sps_nil) rfl os83_0 (List.all_eq_true.mp oc83_0)
def sp63_0 : Spec := (63, [(0, 0, 10)], [((0, 1), [])], [], 10)
def cu63_0 : List Cut := []
theorem os63_0 : okStart [] inlF [] cu63_0 4000 sp63_0 = true := by decide +kernel
theorem oc63_0 : cu63_0.all (okCut [] inlF [] cu63_0 4000 sp63_0) = true := by decide +kernel
theorem ok63_0 (X : Xs) : SpecOK X sp63_0 := sp_sound (sps_nil) rfl os63_0 (List.all_eq_true.mp oc63_0)
def sp67_0 : Spec := (67, [(2, 19, 0), (0, 0, 9999)], [((0, 8), [])], [], 10)
def cu67_0 : List Cut := [(2, [0, 1, 2], [(2, 19, 0), (0, 0, 9999), (0, 0, 8)], [], [(0, 0, 0), (-1, 2, 8)])]
theorem os67_0 : okStart [] inlF [] cu67_0 4000 sp67_0 = true := by decide +kernel
theorem oc67_0 : cu67_0.all (okCut [] inlF [] cu67_0 4000 sp67_0) = true := by decide +kernel
theorem ok67_0 (X : Xs) : SpecOK X sp67_0 := sp_sound (sps_nil) rfl os67_0 (List.all_eq_true.mp oc67_0)
def sp68_0 : Spec := (68, [(2, 19, 0), (0, 0, 8), (0, 0, 29)], [((-2147483648, 2147483647), [])], [], 10)
def cu68_0 : List Cut := []
theorem os68_0 : okStart [] inlF [] cu68_0 4000 sp68_0 = true := by decide +kernel
theorem oc68_0 : cu68_0.all (okCut [] inlF [] cu68_0 4000 sp68_0) = true := by decide +kernel
theorem ok68_0 (X : Xs) : SpecOK X sp68_0 := sp_sound (sps_nil) rfl os68_0 (List.all_eq_true.mp oc68_0)
def sp93_0 : Spec := (93, [(2, 0, 0), (0, -2147483648, 2147483647), (0, -2147483648, 2147483647), (0, -2147483648, 2147483647)], [((-2147483648, 2147483647), [])], [], 20)
def cu93_0 : List Cut := []
theorem os93_0 : okStart [sp63_0, sp67_0, sp68_0] inlF [] cu93_0 4000 sp93_0 = true := by decide +kernel
theorem oc93_0 : cu93_0.all (okCut [sp63_0, sp67_0, sp68_0] inlF [] cu93_0 4000 sp93_0) = true := by decide +kernel
theorem ok93_0 (X : Xs) : SpecOK X sp93_0 := sp_sound (sps_cons (ok63_0 X) (sps_cons (ok67_0 X) (sps_cons (ok68_0 X) sps_nil))) rfl os93_0 (List.all_eq_true.mp oc93_0)
def sp84_0 : Spec := (84, [(2, 0, 0), (0, -2147483648, 2147483647)], [((-100003, 1), [])], [(8, 0)], 10)
def cu84_0 : List Cut := []
theorem os84_0 : okStart [] inlF [] cu84_0 4000 sp84_0 = true := by decide +kernel
theorem oc84_0 : cu84_0.all (okCut [] inlF [] cu84_0 4000 sp84_0) = true := by decide +kernel
theorem ok84_0 (X : Xs) : SpecOK X sp84_0 := sp_sound (sps_nil) rfl os84_0 (List.all_eq_true.mp oc84_0)
