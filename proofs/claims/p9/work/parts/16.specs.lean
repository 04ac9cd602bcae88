/-! the methods whose steps the checker goes through -/
def inlM : Nat := 6201776514562868420632995368886936971961477603619986873647120
def inlF (k : Nat) : Bool := Nat.beq (Nat.mod (Nat.shiftRight inlM k) 2) 1
def sp48_0 : Spec := (48, [(2, 17, 0), (0, -1, 29), (0, 0, 29)], [((-2147483648, 2147483647), [])], [], 10)
def cu48_0 : List Cut := []
theorem os48_0 : okStart H0 [] inlF [] [] cu48_0 4000 sp48_0 = true := by decide +kernel
theorem oc48_0 : cu48_0.all (okCut H0 [] inlF [] cu48_0 4000 sp48_0) = true := by decide +kernel
theorem ok48_0 (X : Xs) : SpecOK X sp48_0 := sp_sound (sps_nil) rfl os48_0 (List.all_eq_true.mp oc48_0)
def sp47_0 : Spec := (47, [(2, 17, 0), (0, 0, 29), (0, -1, 29), (0, -1, 29)], [((0, 0), [])], [(18, 0)], 20)
def cu47_0 : List Cut := [(8, [0, 1, 2, 3, 4], [(2, 17, 0), (0, 0, 29), (0, -1, 29), (0, -1, 29), (0, 0, 30)], [], [(0, 0, 0), (-1, 4, 30)], [])]
theorem os47_0 : okStart H0 [sp48_0] inlF [] [] cu47_0 4000 sp47_0 = true := by decide +kernel
theorem oc47_0 : cu47_0.all (okCut H0 [sp48_0] inlF [] cu47_0 4000 sp47_0) = true := by decide +kernel
theorem ok47_0 (X : Xs) : SpecOK X sp47_0 := sp_sound (sps_cons (ok48_0 X) sps_nil) rfl os47_0 (List.all_eq_true.mp oc47_0)
def sp82_0 : Spec := (82, [(2, 0, 0), (0, -2147483648, 2147483647), (0, -2147483648, 2147483647), (0, -2147483648, 2147483647), (0, -2147483648, 2147483647), (0, -2147483648, 2147483647), (0, -2147483648, 2147483647)], [((-100004, 29), [])], [(1, 11), (2, 0), (3, 0), (4, 0), (5, 0), (6, 0), (7, 0), (8, 0), (18, 0)], 30)
def cu82_0 : List Cut := []
theorem os82_0 : okStart H0 [sp47_0] inlF [] [] cu82_0 4000 sp82_0 = true := by decide +kernel
theorem oc82_0 : cu82_0.all (okCut H0 [sp47_0] inlF [] cu82_0 4000 sp82_0) = true := by decide +kernel
theorem ok82_0 (X : Xs) : SpecOK X sp82_0 := sp_sound (sps_cons (ok47_0 X) sps_nil) rfl os82_0 (List.all_eq_true.mp oc82_0)
def sp74_0 : Spec := (74, [(2, 1, 0), (0, 0, 29), (0, 0, 9000)], [((0, 3), [])], [], 10)
def cu74_0 : List Cut := [(5, [0, 1, 2, 3], [(2, 1, 0), (0, 0, 29), (0, 0, 9000), (0, -1, 59)], [], [(0, 0, 0), (1, 3, 1)], [])]
theorem os74_0 : okStart H0 [] inlF [] [] cu74_0 4000 sp74_0 = true := by decide +kernel
theorem oc74_0 : cu74_0.all (okCut H0 [] inlF [] cu74_0 4000 sp74_0) = true := by decide +kernel
theorem ok74_0 (X : Xs) : SpecOK X sp74_0 := sp_sound (sps_nil) rfl os74_0 (List.all_eq_true.mp oc74_0)
def sp83_0 : Spec := (83, [(2, 0, 0), (0, -2147483648, 2147483647), (0, -2147483648, 2147483647)], [((-100004, 3), [])], [(1, 12), (9, 0), (10, 0), (11, 0)], 20)
def cu83_0 : List Cut := []
theorem os83_0 : okStart H0 [sp74_0] inlF [] [] cu83_0 4000 sp83_0 = true := by decide +kernel
theorem oc83_0 : cu83_0.all (okCut H0 [sp74_0] inlF [] cu83_0 4000 sp83_0) = true := by decide +kernel
theorem ok83_0 (X : Xs) : SpecOK X sp83_0 := sp_sound (sps_cons (ok74_0 X) sps_nil) rfl os83_0 (List.all_eq_true.mp oc83_0)
def sp84_0 : Spec := (84, [(2, 0, 0), (0, -2147483648, 2147483647)], [((-100003, 1), [])], [(8, 0)], 10)
def cu84_0 : List Cut := []
theorem os84_0 : okStart H0 [] inlF [] [] cu84_0 4000 sp84_0 = true := by decide +kernel
theorem oc84_0 : cu84_0.all (okCut H0 [] inlF [] cu84_0 4000 sp84_0) = true := by decide +kernel
theorem ok84_0 (X : Xs) : SpecOK X sp84_0 := sp_sound (sps_nil) rfl os84_0 (List.all_eq_true.mp oc84_0)
def sp33_0 : Spec := (33, [(2, 12, 0), (0, 0, 19), (0, 0, 7), (0, 0, 7)], [((0, 1), [])], [], 10)
def cu33_0 : List Cut := []
theorem os33_0 : okStart H0 [] inlF [] [] cu33_0 4000 sp33_0 = true := by decide +kernel
theorem oc33_0 : cu33_0.all (okCut H0 [] inlF [] cu33_0 4000 sp33_0) = true := by decide +kernel
theorem ok33_0 (X : Xs) : SpecOK X sp33_0 := sp_sound (sps_nil) rfl os33_0 (List.all_eq_true.mp oc33_0)
def sp34_0 : Spec := (34, [(2, 12, 0), (0, 0, 7), (0, 0, 7)], [((-1, 19), [])], [], 20)
def cu34_0 : List Cut := [(2, [0, 1, 2, 3], [(2, 12, 0), (0, 0, 7), (0, 0, 7), (0, 0, 20)], [], [(0, 0, 0), (-1, 3, 20)], [])]
theorem os34_0 : okStart H0 [sp33_0] inlF [] [] cu34_0 4000 sp34_0 = true := by decide +kernel
theorem oc34_0 : cu34_0.all (okCut H0 [sp33_0] inlF [] cu34_0 4000 sp34_0) = true := by decide +kernel
theorem ok34_0 (X : Xs) : SpecOK X sp34_0 := sp_sound (sps_cons (ok33_0 X) sps_nil) rfl os34_0 (List.all_eq_true.mp oc34_0)
def sp85_0 : Spec := (85, [(2, 0, 0), (0, -2147483648, 2147483647), (0, -2147483648, 2147483647)], [((-100004, 20), [])], [(12, 5), (13, 0), (14, 0), (15, 0), (16, 0)], 30)
def cu85_0 : List Cut := []
theorem os85_0 : okStart H0 [sp34_0] inlF [] [] cu85_0 4000 sp85_0 = true := by decide +kernel
theorem oc85_0 : cu85_0.all (okCut H0 [sp34_0] inlF [] cu85_0 4000 sp85_0) = true := by decide +kernel
theorem ok85_0 (X : Xs) : SpecOK X sp85_0 := sp_sound (sps_cons (ok34_0 X) sps_nil) rfl os85_0 (List.all_eq_true.mp oc85_0)
def sp86_0 : Spec := (86, [(2, 0, 0), (0, -2147483648, 2147483647), (0, -2147483648, 2147483647)], [((-100003, 1), [])], [(16, 0)], 30)
def cu86_0 : List Cut := []
theorem os86_0 : okStart H0 [sp34_0] inlF [] [] cu86_0 4000 sp86_0 = true := by decide +kernel
theorem oc86_0 : cu86_0.all (okCut H0 [sp34_0] inlF [] cu86_0 4000 sp86_0) = true := by decide +kernel
theorem ok86_0 (X : Xs) : SpecOK X sp86_0 := sp_sound (sps_cons (ok34_0 X) sps_nil) rfl os86_0 (List.all_eq_true.mp oc86_0)
def sp87_0 : Spec := (87, [(2, 0, 0), (0, -2147483648, 2147483647)], [((-100003, 9000), [])], [(0, 11)], 10)
def cu87_0 : List Cut := []
theorem os87_0 : okStart H0 [] inlF [] [] cu87_0 4000 sp87_0 = true := by decide +kernel
theorem oc87_0 : cu87_0.all (okCut H0 [] inlF [] cu87_0 4000 sp87_0) = true := by decide +kernel
theorem ok87_0 (X : Xs) : SpecOK X sp87_0 := sp_sound (sps_nil) rfl os87_0 (List.all_eq_true.mp oc87_0)
def sp88_0 : Spec := (88, [(2, 0, 0), (0, -2147483648, 2147483647), (0, -2147483648, 2147483647), (0, -2147483648, 2147483647)], [((-100002, 9000), [])], [], 20)
def cu88_0 : List Cut := []
theorem os88_0 : okStart H0 [sp74_0] inlF [] [] cu88_0 4000 sp88_0 = true := by decide +kernel
theorem oc88_0 : cu88_0.all (okCut H0 [sp74_0] inlF [] cu88_0 4000 sp88_0) = true := by decide +kernel
theorem ok88_0 (X : Xs) : SpecOK X sp88_0 := sp_sound (sps_cons (ok74_0 X) sps_nil) rfl os88_0 (List.all_eq_true.mp oc88_0)
def sp49_0 : Spec := (49, [(2, 17, 0), (0, 0, 29), (0, 0, 29)], [((0, 0), [])], [(17, 2), (17, 3), (17, 4)], 10)
def cu49_0 : List Cut := [(10, [0, 1, 2, 3, 4], [(2, 17, 0), (0, 0, 29), (0, 0, 29), (0, -2147483648, 2147483647), (0, 0, 30)], [], [(0, 0, 0), (-1, 4, 30)], [])]
theorem os49_0 : okStart H0 [] inlF [] [] cu49_0 4000 sp49_0 = true := by decide +kernel
theorem oc49_0 : cu49_0.all (okCut H0 [] inlF [] cu49_0 4000 sp49_0) = true := by decide +kernel
theorem ok49_0 (X : Xs) : SpecOK X sp49_0 := sp_sound (sps_nil) rfl os49_0 (List.all_eq_true.mp oc49_0)
def sp89_0 : Spec := (89, [(2, 0, 0), (0, -2147483648, 2147483647), (0, -2147483648, 2147483647), (0, -2147483648, 2147483647)], [((-2147483648, 2147483647), [])], [(17, 2), (17, 3), (17, 4)], 20)
def cu89_0 : List Cut := []
theorem os89_0 : okStart H0 [sp49_0] inlF [] [] cu89_0 4000 sp89_0 = true := by decide +kernel
theorem oc89_0 : cu89_0.all (okCut H0 [sp49_0] inlF [] cu89_0 4000 sp89_0) = true := by decide +kernel
theorem ok89_0 (X : Xs) : SpecOK X sp89_0 := sp_sound (sps_cons (ok49_0 X) sps_nil) rfl os89_0 (List.all_eq_true.mp oc89_0)
def sp50_0 : Spec := (50, [(2, 22, 0), (0, 1, 8), (1, -9223372036854775808, 9223372036854775807)], [((0, 0), [])], [(22, 3), (23, 0)], 10)
def cu50_0 : List Cut := [(4, [0, 2, 4], [(2, 22, 0), (1, -9223372036854775808, 9223372036854775807), (0, -1, 7)], [], [(0, 0, 0), (1, 2, 1)], [])]
theorem os50_0 : okStart H0 [] inlF [] [] cu50_0 4000 sp50_0 = true := by decide +kernel
theorem oc50_0 : cu50_0.all (okCut H0 [] inlF [] cu50_0 4000 sp50_0) = true := by decide +kernel
theorem ok50_0 (X : Xs) : SpecOK X sp50_0 := sp_sound (sps_nil) rfl os50_0 (List.all_eq_true.mp oc50_0)
def sp90_0 : Spec := (90, [(2, 0, 0), (0, -2147483648, 2147483647), (1, -9223372036854775808, 9223372036854775807)], [((-100004, 240), [])], [(22, 3), (23, 0)], 20)
def cu90_0 : List Cut := []
theorem os90_0 : okStart H0 [sp50_0] inlF [] [] cu90_0 4000 sp90_0 = true := by decide +kernel
theorem oc90_0 : cu90_0.all (okCut H0 [sp50_0] inlF [] cu90_0 4000 sp90_0) = true := by decide +kernel
theorem ok90_0 (X : Xs) : SpecOK X sp90_0 := sp_sound (sps_cons (ok50_0 X) sps_nil) rfl os90_0 (List.all_eq_true.mp oc90_0)
def sp57_0 : Spec := (57, [(2, 22, 0)], [((0, 0), [])], [(22, 4)], 10)
def cu57_0 : List Cut := [(0, [0], [(2, 22, 0)], [(22, 3, 1, 240)], [(0, 0, 0), (-1, 1, 240)], [])]
theorem os57_0 : okStart H0 [] inlF [] [] cu57_0 4000 sp57_0 = true := by decide +kernel
theorem oc57_0 : cu57_0.all (okCut H0 [] inlF [] cu57_0 4000 sp57_0) = true := by decide +kernel
theorem ok57_0 (X : Xs) : SpecOK X sp57_0 := sp_sound (sps_nil) rfl os57_0 (List.all_eq_true.mp oc57_0)
def sp58_0 : Spec := (58, [(2, 22, 0), (0, 0, 240)], [((0, 240), [])], [], 10)
def cu58_0 : List Cut := [(2, [0, 2], [(2, 22, 0), (0, 0, 240)], [], [(0, 0, 0), (-1, 1, 240)], [])]
theorem os58_0 : okStart H0 [] inlF [] [] cu58_0 4000 sp58_0 = true := by decide +kernel
theorem oc58_0 : cu58_0.all (okCut H0 [] inlF [] cu58_0 4000 sp58_0) = true := by decide +kernel
theorem ok58_0 (X : Xs) : SpecOK X sp58_0 := sp_sound (sps_nil) rfl os58_0 (List.all_eq_true.mp oc58_0)
def sp197_0 : Spec := (197, [(4, 0, 0), (0, 0, 3)], [((0, 65535), [])], [], 10)
def cu197_0 : List Cut := []
theorem os197_0 : okStart H0 [] inlF [] [] cu197_0 4000 sp197_0 = true := by decide +kernel
theorem oc197_0 : cu197_0.all (okCut H0 [] inlF [] cu197_0 4000 sp197_0) = true := by decide +kernel
theorem ok197_0 (X : Xs) : SpecOK X sp197_0 := sp_sound (sps_nil) rfl os197_0 (List.all_eq_true.mp oc197_0)
def sp59_0 : Spec := (59, [(2, 22, 0), (0, 0, 240), (0, 0, 240), (4, 0, 0)], [((0, 1), [])], [], 20)
def cu59_0 : List Cut := [(16, [0, 1, 3, 4], [(2, 22, 0), (0, 0, 236), (4, 0, 0), (0, 0, 4)], [], [(0, 0, 0), (-1, 3, 4)], [])]
theorem os59_0 : okStart H0 [sp197_0] inlF [] [] cu59_0 4000 sp59_0 = true := by decide +kernel
theorem oc59_0 : cu59_0.all (okCut H0 [sp197_0] inlF [] cu59_0 4000 sp59_0) = true := by decide +kernel
theorem ok59_0 (X : Xs) : SpecOK X sp59_0 := sp_sound (sps_cons (ok197_0 X) sps_nil) rfl os59_0 (List.all_eq_true.mp oc59_0)
def sp55_0 : Spec := (55, [(2, 22, 0), (0, 1, 9999)], [((-2147483648, 9999), [])], [(22, 4), (22, 5), (22, 6)], 20)
def cu55_0 : List Cut := [(7, [0, 1, 2, 3], [(2, 22, 0), (0, 1, 9999), (0, 0, 240), (0, -2147483648, 2147483647)], [], [(0, 0, 0), (-1, 2, 240)], [])]
theorem os55_0 : okStart H0 [sp57_0] inlF [] [] cu55_0 4000 sp55_0 = true := by decide +kernel
theorem oc55_0 : cu55_0.all (okCut H0 [sp57_0] inlF [] cu55_0 4000 sp55_0) = true := by decide +kernel
theorem ok55_0 (X : Xs) : SpecOK X sp55_0 := sp_sound (sps_cons (ok57_0 X) sps_nil) rfl os55_0 (List.all_eq_true.mp oc55_0)
def sp52_0 : Spec := (52, [(2, 22, 0)], [((0, 1), [])], [(22, 4), (22, 5), (22, 6), (24, 3), (25, 0), (26, 0)], 30)
def cu52_0 : List Cut := []
theorem os52_0 : okStart H0 [sp55_0, sp57_0, sp58_0, sp59_0] inlF [] [] cu52_0 4000 sp52_0 = true := by decide +kernel
theorem oc52_0 : cu52_0.all (okCut H0 [sp55_0, sp57_0, sp58_0, sp59_0] inlF [] cu52_0 4000 sp52_0) = true := by decide +kernel
theorem ok52_0 (X : Xs) : SpecOK X sp52_0 := sp_sound (sps_cons (ok55_0 X) (sps_cons (ok57_0 X) (sps_cons (ok58_0 X) (sps_cons (ok59_0 X) sps_nil)))) rfl os52_0 (List.all_eq_true.mp oc52_0)
def sp197_1 : Spec := (197, [(4, 1, 0), (0, 0, 3)], [((0, 65535), [])], [], 10)
def cu197_1 : List Cut := []
theorem os197_1 : okStart H0 [] inlF [] [] cu197_1 4000 sp197_1 = true := by decide +kernel
theorem oc197_1 : cu197_1.all (okCut H0 [] inlF [] cu197_1 4000 sp197_1) = true := by decide +kernel
theorem ok197_1 (X : Xs) : SpecOK X sp197_1 := sp_sound (sps_nil) rfl os197_1 (List.all_eq_true.mp oc197_1)
def sp59_1 : Spec := (59, [(2, 22, 0), (0, 0, 240), (0, 0, 240), (4, 1, 0)], [((0, 1), [])], [], 20)
def cu59_1 : List Cut := [(16, [0, 1, 3, 4], [(2, 22, 0), (0, 0, 236), (4, 1, 0), (0, 0, 4)], [], [(0, 0, 0), (-1, 3, 4)], [])]
theorem os59_1 : okStart H0 [sp197_1] inlF [] [] cu59_1 4000 sp59_1 = true := by decide +kernel
theorem oc59_1 : cu59_1.all (okCut H0 [sp197_1] inlF [] cu59_1 4000 sp59_1) = true := by decide +kernel
theorem ok59_1 (X : Xs) : SpecOK X sp59_1 := sp_sound (sps_cons (ok197_1 X) sps_nil) rfl os59_1 (List.all_eq_true.mp oc59_1)
def sp197_2 : Spec := (197, [(4, 2, 0), (0, 0, 4)], [((0, 65535), [])], [], 10)
def cu197_2 : List Cut := []
theorem os197_2 : okStart H0 [] inlF [] [] cu197_2 4000 sp197_2 = true := by decide +kernel
theorem oc197_2 : cu197_2.all (okCut H0 [] inlF [] cu197_2 4000 sp197_2) = true := by decide +kernel
theorem ok197_2 (X : Xs) : SpecOK X sp197_2 := sp_sound (sps_nil) rfl os197_2 (List.all_eq_true.mp oc197_2)
def sp59_2 : Spec := (59, [(2, 22, 0), (0, 0, 240), (0, 0, 240), (4, 2, 0)], [((0, 1), [])], [], 20)
def cu59_2 : List Cut := [(16, [0, 1, 3, 4], [(2, 22, 0), (0, 0, 235), (4, 2, 0), (0, 0, 5)], [], [(0, 0, 0), (-1, 3, 5)], [])]
theorem os59_2 : okStart H0 [sp197_2] inlF [] [] cu59_2 4000 sp59_2 = true := by decide +kernel
theorem oc59_2 : cu59_2.all (okCut H0 [sp197_2] inlF [] cu59_2 4000 sp59_2) = true := by decide +kernel
theorem ok59_2 (X : Xs) : SpecOK X sp59_2 := sp_sound (sps_cons (ok197_2 X) sps_nil) rfl os59_2 (List.all_eq_true.mp oc59_2)
def sp197_3 : Spec := (197, [(4, 3, 0), (0, 0, 2)], [((0, 65535), [])], [], 10)
def cu197_3 : List Cut := []
theorem os197_3 : okStart H0 [] inlF [] [] cu197_3 4000 sp197_3 = true := by decide +kernel
theorem oc197_3 : cu197_3.all (okCut H0 [] inlF [] cu197_3 4000 sp197_3) = true := by decide +kernel
theorem ok197_3 (X : Xs) : SpecOK X sp197_3 := sp_sound (sps_nil) rfl os197_3 (List.all_eq_true.mp oc197_3)
def sp59_3 : Spec := (59, [(2, 22, 0), (0, 0, 240), (0, 0, 240), (4, 3, 0)], [((0, 1), [])], [], 20)
def cu59_3 : List Cut := [(16, [0, 1, 3, 4], [(2, 22, 0), (0, 0, 237), (4, 3, 0), (0, 0, 3)], [], [(0, 0, 0), (-1, 3, 3)], [])]
theorem os59_3 : okStart H0 [sp197_3] inlF [] [] cu59_3 4000 sp59_3 = true := by decide +kernel
theorem oc59_3 : cu59_3.all (okCut H0 [sp197_3] inlF [] cu59_3 4000 sp59_3) = true := by decide +kernel
theorem ok59_3 (X : Xs) : SpecOK X sp59_3 := sp_sound (sps_cons (ok197_3 X) sps_nil) rfl os59_3 (List.all_eq_true.mp oc59_3)
def sp197_4 : Spec := (197, [(4, 4, 0), (0, 0, 3)], [((0, 65535), [])], [], 10)
def cu197_4 : List Cut := []
theorem os197_4 : okStart H0 [] inlF [] [] cu197_4 4000 sp197_4 = true := by decide +kernel
theorem oc197_4 : cu197_4.all (okCut H0 [] inlF [] cu197_4 4000 sp197_4) = true := by decide +kernel
theorem ok197_4 (X : Xs) : SpecOK X sp197_4 := sp_sound (sps_nil) rfl os197_4 (List.all_eq_true.mp oc197_4)
def sp59_4 : Spec := (59, [(2, 22, 0), (0, 0, 240), (0, 0, 240), (4, 4, 0)], [((0, 1), [])], [], 20)
def cu59_4 : List Cut := [(16, [0, 1, 3, 4], [(2, 22, 0), (0, 0, 236), (4, 4, 0), (0, 0, 4)], [], [(0, 0, 0), (-1, 3, 4)], [])]
theorem os59_4 : okStart H0 [sp197_4] inlF [] [] cu59_4 4000 sp59_4 = true := by decide +kernel
theorem oc59_4 : cu59_4.all (okCut H0 [sp197_4] inlF [] cu59_4 4000 sp59_4) = true := by decide +kernel
theorem ok59_4 (X : Xs) : SpecOK X sp59_4 := sp_sound (sps_cons (ok197_4 X) sps_nil) rfl os59_4 (List.all_eq_true.mp oc59_4)
def sp197_5 : Spec := (197, [(4, 5, 0), (0, 0, 3)], [((0, 65535), [])], [], 10)
def cu197_5 : List Cut := []
theorem os197_5 : okStart H0 [] inlF [] [] cu197_5 4000 sp197_5 = true := by decide +kernel
theorem oc197_5 : cu197_5.all (okCut H0 [] inlF [] cu197_5 4000 sp197_5) = true := by decide +kernel
theorem ok197_5 (X : Xs) : SpecOK X sp197_5 := sp_sound (sps_nil) rfl os197_5 (List.all_eq_true.mp oc197_5)
def sp59_5 : Spec := (59, [(2, 22, 0), (0, 0, 240), (0, 0, 240), (4, 5, 0)], [((0, 1), [])], [], 20)
def cu59_5 : List Cut := [(16, [0, 1, 3, 4], [(2, 22, 0), (0, 0, 236), (4, 5, 0), (0, 0, 4)], [], [(0, 0, 0), (-1, 3, 4)], [])]
theorem os59_5 : okStart H0 [sp197_5] inlF [] [] cu59_5 4000 sp59_5 = true := by decide +kernel
theorem oc59_5 : cu59_5.all (okCut H0 [sp197_5] inlF [] cu59_5 4000 sp59_5) = true := by decide +kernel
theorem ok59_5 (X : Xs) : SpecOK X sp59_5 := sp_sound (sps_cons (ok197_5 X) sps_nil) rfl os59_5 (List.all_eq_true.mp oc59_5)
def sp197_6 : Spec := (197, [(4, 6, 0), (0, 0, 4)], [((0, 65535), [])], [], 10)
def cu197_6 : List Cut := []
theorem os197_6 : okStart H0 [] inlF [] [] cu197_6 4000 sp197_6 = true := by decide +kernel
theorem oc197_6 : cu197_6.all (okCut H0 [] inlF [] cu197_6 4000 sp197_6) = true := by decide +kernel
theorem ok197_6 (X : Xs) : SpecOK X sp197_6 := sp_sound (sps_nil) rfl os197_6 (List.all_eq_true.mp oc197_6)
def sp59_6 : Spec := (59, [(2, 22, 0), (0, 0, 240), (0, 0, 240), (4, 6, 0)], [((0, 1), [])], [], 20)
def cu59_6 : List Cut := [(16, [0, 1, 3, 4], [(2, 22, 0), (0, 0, 235), (4, 6, 0), (0, 0, 5)], [], [(0, 0, 0), (-1, 3, 5)], [])]
theorem os59_6 : okStart H0 [sp197_6] inlF [] [] cu59_6 4000 sp59_6 = true := by decide +kernel
theorem oc59_6 : cu59_6.all (okCut H0 [sp197_6] inlF [] cu59_6 4000 sp59_6) = true := by decide +kernel
theorem ok59_6 (X : Xs) : SpecOK X sp59_6 := sp_sound (sps_cons (ok197_6 X) sps_nil) rfl os59_6 (List.all_eq_true.mp oc59_6)
def sp197_7 : Spec := (197, [(4, 7, 0), (0, 0, 3)], [((0, 65535), [])], [], 10)
def cu197_7 : List Cut := []
theorem os197_7 : okStart H0 [] inlF [] [] cu197_7 4000 sp197_7 = true := by decide +kernel
theorem oc197_7 : cu197_7.all (okCut H0 [] inlF [] cu197_7 4000 sp197_7) = true := by decide +kernel
theorem ok197_7 (X : Xs) : SpecOK X sp197_7 := sp_sound (sps_nil) rfl os197_7 (List.all_eq_true.mp oc197_7)
def sp59_7 : Spec := (59, [(2, 22, 0), (0, 0, 240), (0, 0, 240), (4, 7, 0)], [((0, 1), [])], [], 20)
def cu59_7 : List Cut := [(16, [0, 1, 3, 4], [(2, 22, 0), (0, 0, 236), (4, 7, 0), (0, 0, 4)], [], [(0, 0, 0), (-1, 3, 4)], [])]
theorem os59_7 : okStart H0 [sp197_7] inlF [] [] cu59_7 4000 sp59_7 = true := by decide +kernel
theorem oc59_7 : cu59_7.all (okCut H0 [sp197_7] inlF [] cu59_7 4000 sp59_7) = true := by decide +kernel
theorem ok59_7 (X : Xs) : SpecOK X sp59_7 := sp_sound (sps_cons (ok197_7 X) sps_nil) rfl os59_7 (List.all_eq_true.mp oc59_7)
def sp197_8 : Spec := (197, [(4, 8, 0), (0, 0, 2)], [((0, 65535), [])], [], 10)
def cu197_8 : List Cut := []
theorem os197_8 : okStart H0 [] inlF [] [] cu197_8 4000 sp197_8 = true := by decide +kernel
theorem oc197_8 : cu197_8.all (okCut H0 [] inlF [] cu197_8 4000 sp197_8) = true := by decide +kernel
theorem ok197_8 (X : Xs) : SpecOK X sp197_8 := sp_sound (sps_nil) rfl os197_8 (List.all_eq_true.mp oc197_8)
def sp59_8 : Spec := (59, [(2, 22, 0), (0, 0, 240), (0, 0, 240), (4, 8, 0)], [((0, 1), [])], [], 20)
def cu59_8 : List Cut := [(16, [0, 1, 3, 4], [(2, 22, 0), (0, 0, 237), (4, 8, 0), (0, 0, 3)], [], [(0, 0, 0), (-1, 3, 3)], [])]
theorem os59_8 : okStart H0 [sp197_8] inlF [] [] cu59_8 4000 sp59_8 = true := by decide +kernel
theorem oc59_8 : cu59_8.all (okCut H0 [sp197_8] inlF [] cu59_8 4000 sp59_8) = true := by decide +kernel
theorem ok59_8 (X : Xs) : SpecOK X sp59_8 := sp_sound (sps_cons (ok197_8 X) sps_nil) rfl os59_8 (List.all_eq_true.mp oc59_8)
def sp197_9 : Spec := (197, [(4, 9, 0), (0, 0, 3)], [((0, 65535), [])], [], 10)
def cu197_9 : List Cut := []
theorem os197_9 : okStart H0 [] inlF [] [] cu197_9 4000 sp197_9 = true := by decide +kernel
theorem oc197_9 : cu197_9.all (okCut H0 [] inlF [] cu197_9 4000 sp197_9) = true := by decide +kernel
theorem ok197_9 (X : Xs) : SpecOK X sp197_9 := sp_sound (sps_nil) rfl os197_9 (List.all_eq_true.mp oc197_9)
def sp59_9 : Spec := (59, [(2, 22, 0), (0, 0, 240), (0, 0, 240), (4, 9, 0)], [((0, 1), [])], [], 20)
def cu59_9 : List Cut := [(16, [0, 1, 3, 4], [(2, 22, 0), (0, 0, 236), (4, 9, 0), (0, 0, 4)], [], [(0, 0, 0), (-1, 3, 4)], [])]
theorem os59_9 : okStart H0 [sp197_9] inlF [] [] cu59_9 4000 sp59_9 = true := by decide +kernel
theorem oc59_9 : cu59_9.all (okCut H0 [sp197_9] inlF [] cu59_9 4000 sp59_9) = true := by decide +kernel
theorem ok59_9 (X : Xs) : SpecOK X sp59_9 := sp_sound (sps_cons (ok197_9 X) sps_nil) rfl os59_9 (List.all_eq_true.mp oc59_9)
def sp197_10 : Spec := (197, [(4, 10, 0), (0, 0, 4)], [((0, 65535), [])], [], 10)
def cu197_10 : List Cut := []
theorem os197_10 : okStart H0 [] inlF [] [] cu197_10 4000 sp197_10 = true := by decide +kernel
theorem oc197_10 : cu197_10.all (okCut H0 [] inlF [] cu197_10 4000 sp197_10) = true := by decide +kernel
theorem ok197_10 (X : Xs) : SpecOK X sp197_10 := sp_sound (sps_nil) rfl os197_10 (List.all_eq_true.mp oc197_10)
def sp59_10 : Spec := (59, [(2, 22, 0), (0, 0, 240), (0, 0, 240), (4, 10, 0)], [((0, 1), [])], [], 20)
def cu59_10 : List Cut := [(16, [0, 1, 3, 4], [(2, 22, 0), (0, 0, 235), (4, 10, 0), (0, 0, 5)], [], [(0, 0, 0), (-1, 3, 5)], [])]
theorem os59_10 : okStart H0 [sp197_10] inlF [] [] cu59_10 4000 sp59_10 = true := by decide +kernel
theorem oc59_10 : cu59_10.all (okCut H0 [sp197_10] inlF [] cu59_10 4000 sp59_10) = true := by decide +kernel
theorem ok59_10 (X : Xs) : SpecOK X sp59_10 := sp_sound (sps_cons (ok197_10 X) sps_nil) rfl os59_10 (List.all_eq_true.mp oc59_10)
def sp197_11 : Spec := (197, [(4, 11, 0), (0, 0, 3)], [((0, 65535), [])], [], 10)
def cu197_11 : List Cut := []
theorem os197_11 : okStart H0 [] inlF [] [] cu197_11 4000 sp197_11 = true := by decide +kernel
theorem oc197_11 : cu197_11.all (okCut H0 [] inlF [] cu197_11 4000 sp197_11) = true := by decide +kernel
theorem ok197_11 (X : Xs) : SpecOK X sp197_11 := sp_sound (sps_nil) rfl os197_11 (List.all_eq_true.mp oc197_11)
def sp59_11 : Spec := (59, [(2, 22, 0), (0, 0, 240), (0, 0, 240), (4, 11, 0)], [((0, 1), [])], [], 20)
def cu59_11 : List Cut := [(16, [0, 1, 3, 4], [(2, 22, 0), (0, 0, 236), (4, 11, 0), (0, 0, 4)], [], [(0, 0, 0), (-1, 3, 4)], [])]
theorem os59_11 : okStart H0 [sp197_11] inlF [] [] cu59_11 4000 sp59_11 = true := by decide +kernel
theorem oc59_11 : cu59_11.all (okCut H0 [sp197_11] inlF [] cu59_11 4000 sp59_11) = true := by decide +kernel
theorem ok59_11 (X : Xs) : SpecOK X sp59_11 := sp_sound (sps_cons (ok197_11 X) sps_nil) rfl os59_11 (List.all_eq_true.mp oc59_11)
def sp60_0 : Spec := (60, [(2, 22, 0), (0, 0, 240), (0, 0, 240)], [((-1, 10), [])], [], 30)
def cu60_0 : List Cut := [(2, [0, 1, 2, 3], [(2, 22, 0), (0, 0, 240), (0, 0, 240), (0, 0, 11)], [], [(0, 0, 0), (-1, 3, 11)], [])]
theorem os60_0 : okStart H0 [sp59_1, sp59_10, sp59_11, sp59_2, sp59_3, sp59_4, sp59_5, sp59_6, sp59_7, sp59_8, sp59_9] inlF [] [] cu60_0 4000 sp60_0 = true := by decide +kernel
theorem oc60_0 : cu60_0.all (okCut H0 [sp59_1, sp59_10, sp59_11, sp59_2, sp59_3, sp59_4, sp59_5, sp59_6, sp59_7, sp59_8, sp59_9] inlF [] cu60_0 4000 sp60_0) = true := by decide +kernel
theorem ok60_0 (X : Xs) : SpecOK X sp60_0 := sp_sound (sps_cons (ok59_1 X) (sps_cons (ok59_10 X) (sps_cons (ok59_11 X) (sps_cons (ok59_2 X) (sps_cons (ok59_3 X) (sps_cons (ok59_4 X) (sps_cons (ok59_5 X) (sps_cons (ok59_6 X) (sps_cons (ok59_7 X) (sps_cons (ok59_8 X) (sps_cons (ok59_9 X) sps_nil))))))))))) rfl os60_0 (List.all_eq_true.mp oc60_0)
def sp63_0 : Spec := (63, [(0, 0, 10)], [((0, 1), [])], [], 10)
def cu63_0 : List Cut := []
theorem os63_0 : okStart H0 [] inlF [] [] cu63_0 4000 sp63_0 = true := by decide +kernel
theorem oc63_0 : cu63_0.all (okCut H0 [] inlF [] cu63_0 4000 sp63_0) = true := by decide +kernel
theorem ok63_0 (X : Xs) : SpecOK X sp63_0 := sp_sound (sps_nil) rfl os63_0 (List.all_eq_true.mp oc63_0)
def sp62_0 : Spec := (62, [(0, 0, 10)], [((1, 9999), [])], [], 10)
def cu62_0 : List Cut := []
theorem os62_0 : okStart H0 [] inlF [] [] cu62_0 4000 sp62_0 = true := by decide +kernel
theorem oc62_0 : cu62_0.all (okCut H0 [] inlF [] cu62_0 4000 sp62_0) = true := by decide +kernel
theorem ok62_0 (X : Xs) : SpecOK X sp62_0 := sp_sound (sps_nil) rfl os62_0 (List.all_eq_true.mp oc62_0)
def sp54_0 : Spec := (54, [(2, 22, 0)], [((0, 1), [])], [(22, 4), (22, 5), (22, 6), (26, 0)], 40)
def cu54_0 : List Cut := []
theorem os54_0 : okStart H0 [sp55_0, sp58_0, sp60_0, sp62_0, sp63_0] inlF [] [] cu54_0 4000 sp54_0 = true := by decide +kernel
theorem oc54_0 : cu54_0.all (okCut H0 [sp55_0, sp58_0, sp60_0, sp62_0, sp63_0] inlF [] cu54_0 4000 sp54_0) = true := by decide +kernel
theorem ok54_0 (X : Xs) : SpecOK X sp54_0 := sp_sound (sps_cons (ok55_0 X) (sps_cons (ok58_0 X) (sps_cons (ok60_0 X) (sps_cons (ok62_0 X) (sps_cons (ok63_0 X) sps_nil))))) rfl os54_0 (List.all_eq_true.mp oc54_0)
def sp53_0 : Spec := (53, [(2, 22, 0)], [((0, 1), [])], [(22, 4), (22, 5), (22, 6), (26, 0)], 50)
def cu53_0 : List Cut := [(2, [0, 1], [(2, 22, 0), (0, 0, 241)], [], [(0, 0, 0), (-1, 1, 241)], [])]
theorem os53_0 : okStart H0 [sp54_0, sp57_0] inlF [] [] cu53_0 4000 sp53_0 = true := by decide +kernel
theorem oc53_0 : cu53_0.all (okCut H0 [sp54_0, sp57_0] inlF [] cu53_0 4000 sp53_0) = true := by decide +kernel
theorem ok53_0 (X : Xs) : SpecOK X sp53_0 := sp_sound (sps_cons (ok54_0 X) (sps_cons (ok57_0 X) sps_nil)) rfl os53_0 (List.all_eq_true.mp oc53_0)
def sp51_0 : Spec := (51, [(2, 22, 0)], [((0, 1), [])], [(22, 4), (22, 5), (22, 6), (24, 3), (25, 0), (26, 0)], 60)
def cu51_0 : List Cut := [(15, [0, 1], [(2, 22, 0), (0, 0, 9)], [], [(0, 0, 0), (-1, 1, 9)], [])]
theorem os51_0 : okStart H0 [sp52_0, sp53_0, sp57_0] inlF [] [] cu51_0 4000 sp51_0 = true := by decide +kernel
theorem oc51_0 : cu51_0.all (okCut H0 [sp52_0, sp53_0, sp57_0] inlF [] cu51_0 4000 sp51_0) = true := by decide +kernel
theorem ok51_0 (X : Xs) : SpecOK X sp51_0 := sp_sound (sps_cons (ok52_0 X) (sps_cons (ok53_0 X) (sps_cons (ok57_0 X) sps_nil))) rfl os51_0 (List.all_eq_true.mp oc51_0)
def sp91_0 : Spec := (91, [(2, 0, 0)], [((-2147483648, 2147483647), [])], [(19, 3), (20, 0), (21, 0), (22, 3), (22, 4), (22, 5), (22, 6), (24, 3), (25, 0), (26, 0)], 70)
def cu91_0 : List Cut := []
theorem os91_0 : okStart H0 [sp51_0] inlF [] [] cu91_0 4000 sp91_0 = true := by decide +kernel
theorem oc91_0 : cu91_0.all (okCut H0 [sp51_0] inlF [] cu91_0 4000 sp91_0) = true := by decide +kernel
theorem ok91_0 (X : Xs) : SpecOK X sp91_0 := sp_sound (sps_cons (ok51_0 X) sps_nil) rfl os91_0 (List.all_eq_true.mp oc91_0)
def sp92_0 : Spec := (92, [(2, 0, 0)], [((-2147483648, 2147483647), [])], [], 10)
def cu92_0 : List Cut := []
theorem os92_0 : okStart H0 [] inlF [] [] cu92_0 4000 sp92_0 = true := by decide +kernel
theorem oc92_0 : cu92_0.all (okCut H0 [] inlF [] cu92_0 4000 sp92_0) = true := by decide +kernel
theorem ok92_0 (X : Xs) : SpecOK X sp92_0 := sp_sound (sps_nil) rfl os92_0 (List.all_eq_true.mp oc92_0)
def sp67_0 : Spec := (67, [(2, 19, 0), (0, 0, 9999)], [((0, 8), [])], [], 10)
def cu67_0 : List Cut := [(2, [0, 1, 2], [(2, 19, 0), (0, 0, 9999), (0, 0, 8)], [], [(0, 0, 0), (-1, 2, 8)], [])]
theorem os67_0 : okStart H0 [] inlF [] [] cu67_0 4000 sp67_0 = true := by decide +kernel
theorem oc67_0 : cu67_0.all (okCut H0 [] inlF [] cu67_0 4000 sp67_0) = true := by decide +kernel
theorem ok67_0 (X : Xs) : SpecOK X sp67_0 := sp_sound (sps_nil) rfl os67_0 (List.all_eq_true.mp oc67_0)
def sp68_0 : Spec := (68, [(2, 19, 0), (0, 0, 8), (0, 0, 29)], [((-2147483648, 2147483647), [])], [], 10)
def cu68_0 : List Cut := []
theorem os68_0 : okStart H0 [] inlF [] [] cu68_0 4000 sp68_0 = true := by decide +kernel
theorem oc68_0 : cu68_0.all (okCut H0 [] inlF [] cu68_0 4000 sp68_0) = true := by decide +kernel
theorem ok68_0 (X : Xs) : SpecOK X sp68_0 := sp_sound (sps_nil) rfl os68_0 (List.all_eq_true.mp oc68_0)
def sp93_0 : Spec := (93, [(2, 0, 0), (0, -2147483648, 2147483647), (0, -2147483648, 2147483647), (0, -2147483648, 2147483647)], [((-2147483648, 2147483647), [])], [], 20)
def cu93_0 : List Cut := []
theorem os93_0 : okStart H0 [sp63_0, sp67_0, sp68_0] inlF [] [] cu93_0 4000 sp93_0 = true := by decide +kernel
theorem oc93_0 : cu93_0.all (okCut H0 [sp63_0, sp67_0, sp68_0] inlF [] cu93_0 4000 sp93_0) = true := by decide +kernel
theorem ok93_0 (X : Xs) : SpecOK X sp93_0 := sp_sound (sps_cons (ok63_0 X) (sps_cons (ok67_0 X) (sps_cons (ok68_0 X) sps_nil))) rfl os93_0 (List.all_eq_true.mp oc93_0)
def sp94_0 : Spec := (94, [(2, 0, 0), (0, -2147483648, 2147483647), (0, -2147483648, 2147483647), (0, -2147483648, 2147483647), (0, -2147483648, 2147483647)], [((-100004, 19), [])], [(27, 15), (28, 0), (29, 0), (30, 0), (31, 0), (32, 0), (33, 0), (34, 0), (35, 0)], 20)
def cu94_0 : List Cut := []
theorem os94_0 : okStart H0 [sp67_0] inlF [] [] cu94_0 4000 sp94_0 = true := by decide +kernel
theorem oc94_0 : cu94_0.all (okCut H0 [sp67_0] inlF [] cu94_0 4000 sp94_0) = true := by decide +kernel
theorem ok94_0 (X : Xs) : SpecOK X sp94_0 := sp_sound (sps_cons (ok67_0 X) sps_nil) rfl os94_0 (List.all_eq_true.mp oc94_0)
def sp3_0 : Spec := (3, [(2, 42, 0), (0, 0, 19), (0, 1, 2), (0, 0, 9000)], [((0, 0), [])], [(43, 0), (44, 0)], 10)
def cu3_0 : List Cut := []
theorem os3_0 : okStart H0 [] inlF [] [] cu3_0 4000 sp3_0 = true := by decide +kernel
theorem oc3_0 : cu3_0.all (okCut H0 [] inlF [] cu3_0 4000 sp3_0) = true := by decide +kernel
theorem ok3_0 (X : Xs) : SpecOK X sp3_0 := sp_sound (sps_nil) rfl os3_0 (List.all_eq_true.mp oc3_0)
def sp13_0 : Spec := (13, [(2, 42, 0), (0, 0, 29), (0, 0, 8), (0, 0, 9000)], [((0, 1), [])], [], 20)
def cu13_0 : List Cut := []
theorem os13_0 : okStart H0 [sp68_0] inlF [] [] cu13_0 4000 sp13_0 = true := by decide +kernel
theorem oc13_0 : cu13_0.all (okCut H0 [sp68_0] inlF [] cu13_0 4000 sp13_0) = true := by decide +kernel
theorem ok13_0 (X : Xs) : SpecOK X sp13_0 := sp_sound (sps_cons (ok68_0 X) sps_nil) rfl os13_0 (List.all_eq_true.mp oc13_0)
def sp14_0 : Spec := (14, [(2, 42, 0), (0, 0, 29), (0, 0, 29), (0, 0, 8)], [((0, 1), [])], [(17, 2), (17, 3), (17, 4)], 20)
def cu14_0 : List Cut := []
theorem os14_0 : okStart H0 [sp49_0, sp68_0] inlF [] [] cu14_0 4000 sp14_0 = true := by decide +kernel
theorem oc14_0 : cu14_0.all (okCut H0 [sp49_0, sp68_0] inlF [] cu14_0 4000 sp14_0) = true := by decide +kernel
theorem ok14_0 (X : Xs) : SpecOK X sp14_0 := sp_sound (sps_cons (ok49_0 X) (sps_cons (ok68_0 X) sps_nil)) rfl os14_0 (List.all_eq_true.mp oc14_0)
def sp15_0 : Spec := (15, [(2, 42, 0), (0, 0, 29), (0, -1, 19), (0, 0, 8), (0, 0, 9000)], [((0, 1), [])], [], 20)
def cu15_0 : List Cut := [(8, [0, 1, 2, 4, 5, 6], [(2, 42, 0), (0, 0, 29), (0, -1, 19), (0, 0, 9000), (0, -2147483648, 2147483647), (0, 0, 100)], [], [(0, 0, 0), (-1, 5, 100)], [])]
theorem os15_0 : okStart H0 [sp68_0] inlF [] [] cu15_0 4000 sp15_0 = true := by decide +kernel
theorem oc15_0 : cu15_0.all (okCut H0 [sp68_0] inlF [] cu15_0 4000 sp15_0) = true := by decide +kernel
theorem ok15_0 (X : Xs) : SpecOK X sp15_0 := sp_sound (sps_cons (ok68_0 X) sps_nil) rfl os15_0 (List.all_eq_true.mp oc15_0)
def sp16_0 : Spec := (16, [(2, 42, 0), (0, 0, 29), (0, 0, 8), (0, 0, 9000)], [((0, 1), [])], [], 20)
def cu16_0 : List Cut := [(8, [0, 1, 3, 4, 5], [(2, 42, 0), (0, 0, 29), (0, 0, 9000), (0, -2147483648, 2147483647), (0, 0, 20)], [], [(0, 0, 0), (-1, 4, 20)], [])]
theorem os16_0 : okStart H0 [sp68_0] inlF [] [] cu16_0 4000 sp16_0 = true := by decide +kernel
theorem oc16_0 : cu16_0.all (okCut H0 [sp68_0] inlF [] cu16_0 4000 sp16_0) = true := by decide +kernel
theorem ok16_0 (X : Xs) : SpecOK X sp16_0 := sp_sound (sps_cons (ok68_0 X) sps_nil) rfl os16_0 (List.all_eq_true.mp oc16_0)
def sp36_0 : Spec := (36, [(2, 12, 0), (0, 0, 7), (0, 0, 7), (0, 0, 9000)], [((0, 1), [])], [], 20)
def cu36_0 : List Cut := [(2, [0, 1, 2, 3, 4], [(2, 12, 0), (0, 0, 7), (0, 0, 7), (0, 0, 9000), (0, 0, 20)], [], [(0, 0, 0), (-1, 4, 20)], [])]
theorem os36_0 : okStart H0 [sp33_0] inlF [] [] cu36_0 4000 sp36_0 = true := by decide +kernel
theorem oc36_0 : cu36_0.all (okCut H0 [sp33_0] inlF [] cu36_0 4000 sp36_0) = true := by decide +kernel
theorem ok36_0 (X : Xs) : SpecOK X sp36_0 := sp_sound (sps_cons (ok33_0 X) sps_nil) rfl os36_0 (List.all_eq_true.mp oc36_0)
def sp12_0 : Spec := (12, [(2, 42, 0), (0, 0, 29), (0, 0, 29), (0, -1, 29), (0, -1, 19), (0, 0, 8), (0, 0, 9000)], [((0, 6), [])], [(17, 2), (17, 3), (17, 4)], 30)
def cu12_0 : List Cut := []
theorem os12_0 : okStart H0 [sp13_0, sp14_0, sp15_0, sp16_0, sp36_0, sp68_0] inlF [] [] cu12_0 4000 sp12_0 = true := by decide +kernel
theorem oc12_0 : cu12_0.all (okCut H0 [sp13_0, sp14_0, sp15_0, sp16_0, sp36_0, sp68_0] inlF [] cu12_0 4000 sp12_0) = true := by decide +kernel
theorem ok12_0 (X : Xs) : SpecOK X sp12_0 := sp_sound (sps_cons (ok13_0 X) (sps_cons (ok14_0 X) (sps_cons (ok15_0 X) (sps_cons (ok16_0 X) (sps_cons (ok36_0 X) (sps_cons (ok68_0 X) sps_nil)))))) rfl os12_0 (List.all_eq_true.mp oc12_0)
def sp11_0 : Spec := (11, [(2, 42, 0), (0, 0, 29), (0, 0, 19), (0, 0, 9000)], [((0, 6), [])], [(17, 2), (17, 3), (17, 4)], 40)
def cu11_0 : List Cut := []
theorem os11_0 : okStart H0 [sp12_0] inlF [] [] cu11_0 4000 sp11_0 = true := by decide +kernel
theorem oc11_0 : cu11_0.all (okCut H0 [sp12_0] inlF [] cu11_0 4000 sp11_0) = true := by decide +kernel
theorem ok11_0 (X : Xs) : SpecOK X sp11_0 := sp_sound (sps_cons (ok12_0 X) sps_nil) rfl os11_0 (List.all_eq_true.mp oc11_0)
def sp6_0 : Spec := (6, [(2, 42, 0), (0, 0, 19)], [((-2147483648, 2147483647), [])], [], 20)
def cu6_0 : List Cut := []
theorem os6_0 : okStart H0 [sp68_0] inlF [] [] cu6_0 4000 sp6_0 = true := by decide +kernel
theorem oc6_0 : cu6_0.all (okCut H0 [sp68_0] inlF [] cu6_0 4000 sp6_0) = true := by decide +kernel
theorem ok6_0 (X : Xs) : SpecOK X sp6_0 := sp_sound (sps_cons (ok68_0 X) sps_nil) rfl os6_0 (List.all_eq_true.mp oc6_0)
def sp7_0 : Spec := (7, [(2, 42, 0), (0, 0, 19)], [((0, 2147483647), [])], [], 30)
def cu7_0 : List Cut := []
theorem os7_0 : okStart H0 [sp6_0] inlF [] [] cu7_0 4000 sp7_0 = true := by decide +kernel
theorem oc7_0 : cu7_0.all (okCut H0 [sp6_0] inlF [] cu7_0 4000 sp7_0) = true := by decide +kernel
theorem ok7_0 (X : Xs) : SpecOK X sp7_0 := sp_sound (sps_cons (ok6_0 X) sps_nil) rfl os7_0 (List.all_eq_true.mp oc7_0)
def sp2_0 : Spec := (2, [(2, 42, 0), (0, 0, 99)], [((0, 0), [])], [(17, 2), (17, 3), (17, 4), (42, 11), (43, 0), (44, 0), (45, 0), (46, 0)], 50)
def cu2_0 : List Cut := []
theorem os2_0 : okStart H0 [sp11_0, sp3_0, sp7_0] inlF [] [] cu2_0 4000 sp2_0 = true := by decide +kernel
theorem oc2_0 : cu2_0.all (okCut H0 [sp11_0, sp3_0, sp7_0] inlF [] cu2_0 4000 sp2_0) = true := by decide +kernel
theorem ok2_0 (X : Xs) : SpecOK X sp2_0 := sp_sound (sps_cons (ok11_0 X) (sps_cons (ok3_0 X) (sps_cons (ok7_0 X) sps_nil))) rfl os2_0 (List.all_eq_true.mp oc2_0)
def sp1_0 : Spec := (1, [(2, 42, 0), (0, 0, 9000)], [((0, 0), [])], [(17, 2), (17, 3), (17, 4), (42, 11), (42, 12), (43, 0), (44, 0), (45, 0), (46, 0)], 60)
def cu1_0 : List Cut := [(2, [0, 1, 2], [(2, 42, 0), (0, 0, 9000), (0, 0, 20)], [], [(0, 0, 1), (-1, 2, 20)], []),
  (32, [0, 1, 2], [(2, 42, 0), (0, 0, 9000), (0, 0, 120)], [], [(0, 0, 0), (-1, 2, 120)], [])]
theorem os1_0 : okStart H0 [sp2_0, sp3_0] inlF [] [] cu1_0 4000 sp1_0 = true := by decide +kernel
theorem oc1_0 : cu1_0.all (okCut H0 [sp2_0, sp3_0] inlF [] cu1_0 4000 sp1_0) = true := by decide +kernel
theorem ok1_0 (X : Xs) : SpecOK X sp1_0 := sp_sound (sps_cons (ok2_0 X) (sps_cons (ok3_0 X) sps_nil)) rfl os1_0 (List.all_eq_true.mp oc1_0)
def sp95_0 : Spec := (95, [(2, 0, 0), (0, -2147483648, 2147483647), (0, -2147483648, 2147483647), (0, -2147483648, 2147483647), (0, -2147483648, 2147483647)], [((-100002, 6), [])], [(17, 2), (17, 3), (17, 4), (42, 11), (42, 12), (43, 0), (44, 0), (45, 0), (46, 0)], 70)
def cu95_0 : List Cut := []
theorem os95_0 : okStart H0 [sp1_0, sp11_0] inlF [] [] cu95_0 4000 sp95_0 = true := by decide +kernel
theorem oc95_0 : cu95_0.all (okCut H0 [sp1_0, sp11_0] inlF [] cu95_0 4000 sp95_0) = true := by decide +kernel
theorem ok95_0 (X : Xs) : SpecOK X sp95_0 := sp_sound (sps_cons (ok1_0 X) (sps_cons (ok11_0 X) sps_nil)) rfl os95_0 (List.all_eq_true.mp oc95_0)
def sp27_0 : Spec := (27, [(2, 27, 0), (0, 0, 29), (0, 0, 19)], [((0, 1), [])], [], 10)
def cu27_0 : List Cut := [(2, [0, 1, 2, 3], [(2, 27, 0), (0, 0, 29), (0, 0, 19), (0, 0, 100)], [], [(0, 0, 0), (-1, 3, 100)], [])]
theorem os27_0 : okStart H0 [] inlF [] [] cu27_0 4000 sp27_0 = true := by decide +kernel
theorem oc27_0 : cu27_0.all (okCut H0 [] inlF [] cu27_0 4000 sp27_0) = true := by decide +kernel
theorem ok27_0 (X : Xs) : SpecOK X sp27_0 := sp_sound (sps_nil) rfl os27_0 (List.all_eq_true.mp oc27_0)
def sp30_0 : Spec := (30, [(2, 27, 0), (0, 0, 29), (0, 0, 9000)], [((-2147483648, 2147483647), [])], [], 10)
def cu30_0 : List Cut := [(4, [0, 1, 2, 3, 4], [(2, 27, 0), (0, 0, 29), (0, 0, 9000), (0, -2147483648, 2147483647), (0, 0, 100)], [], [(0, 0, 0), (-1, 4, 100)], [])]
theorem os30_0 : okStart H0 [] inlF [] [] cu30_0 4000 sp30_0 = true := by decide +kernel
theorem oc30_0 : cu30_0.all (okCut H0 [] inlF [] cu30_0 4000 sp30_0) = true := by decide +kernel
theorem ok30_0 (X : Xs) : SpecOK X sp30_0 := sp_sound (sps_nil) rfl os30_0 (List.all_eq_true.mp oc30_0)
def sp118_0 : Spec := (118, [(2, 0, 0), (0, 0, 29), (0, 0, 19)], [((0, 1), [])], [(17, 2), (17, 3), (17, 4)], 50)
def cu118_0 : List Cut := []
theorem os118_0 : okStart H0 [sp11_0, sp27_0, sp30_0] inlF [] [] cu118_0 4000 sp118_0 = true := by decide +kernel
theorem oc118_0 : cu118_0.all (okCut H0 [sp11_0, sp27_0, sp30_0] inlF [] cu118_0 4000 sp118_0) = true := by decide +kernel
theorem ok118_0 (X : Xs) : SpecOK X sp118_0 := sp_sound (sps_cons (ok11_0 X) (sps_cons (ok27_0 X) (sps_cons (ok30_0 X) sps_nil))) rfl os118_0 (List.all_eq_true.mp oc118_0)
def sp10_0 : Spec := (10, [(2, 42, 0), (0, 0, 29), (0, 0, 8), (0, 0, 9000)], [((-2147483648, 2147483647), [])], [], 20)
def cu10_0 : List Cut := []
theorem os10_0 : okStart H0 [sp68_0, sp74_0] inlF [] [] cu10_0 4000 sp10_0 = true := by decide +kernel
theorem oc10_0 : cu10_0.all (okCut H0 [sp68_0, sp74_0] inlF [] cu10_0 4000 sp10_0) = true := by decide +kernel
theorem ok10_0 (X : Xs) : SpecOK X sp10_0 := sp_sound (sps_cons (ok68_0 X) (sps_cons (ok74_0 X) sps_nil)) rfl os10_0 (List.all_eq_true.mp oc10_0)
def sp96_0 : Spec := (96, [(2, 0, 0), (0, -2147483648, 2147483647), (0, -2147483648, 2147483647)], [((-2147483648, 2147483647), [])], [(17, 2), (17, 3), (17, 4), (27, 16), (27, 17), (35, 0), (36, 0), (37, 0), (38, 0), (39, 0), (40, 0), (41, 0), (42, 11), (42, 12), (43, 0), (44, 0), (45, 0), (46, 0)], 70)
def cu96_0 : List Cut := []
theorem os96_0 : okStart H0 [sp1_0, sp10_0, sp118_0, sp7_0] inlF [] [] cu96_0 4000 sp96_0 = true := by decide +kernel
theorem oc96_0 : cu96_0.all (okCut H0 [sp1_0, sp10_0, sp118_0, sp7_0] inlF [] cu96_0 4000 sp96_0) = true := by decide +kernel
theorem ok96_0 (X : Xs) : SpecOK X sp96_0 := sp_sound (sps_cons (ok1_0 X) (sps_cons (ok10_0 X) (sps_cons (ok118_0 X) (sps_cons (ok7_0 X) sps_nil)))) rfl os96_0 (List.all_eq_true.mp oc96_0)
def sp97_0 : Spec := (97, [(2, 0, 0), (0, -2147483648, 2147483647)], [((-100003, 2147483647), [])], [(17, 2), (17, 3), (17, 4), (27, 17), (40, 0), (41, 0), (42, 11), (42, 12), (43, 0), (44, 0), (45, 0), (46, 0)], 70)
def cu97_0 : List Cut := []
theorem os97_0 : okStart H0 [sp1_0, sp7_0] inlF [] [] cu97_0 4000 sp97_0 = true := by decide +kernel
theorem oc97_0 : cu97_0.all (okCut H0 [sp1_0, sp7_0] inlF [] cu97_0 4000 sp97_0) = true := by decide +kernel
theorem ok97_0 (X : Xs) : SpecOK X sp97_0 := sp_sound (sps_cons (ok1_0 X) (sps_cons (ok7_0 X) sps_nil)) rfl os97_0 (List.all_eq_true.mp oc97_0)
def sp29_0 : Spec := (29, [(2, 27, 0), (0, 0, 19)], [((-2147483648, 2147483647), [])], [], 10)
def cu29_0 : List Cut := [(4, [0, 1, 2, 3], [(2, 27, 0), (0, 0, 19), (0, -2147483648, 2147483647), (0, 0, 100)], [], [(0, 0, 0), (-1, 3, 100)], [])]
theorem os29_0 : okStart H0 [] inlF [] [] cu29_0 4000 sp29_0 = true := by decide +kernel
theorem oc29_0 : cu29_0.all (okCut H0 [] inlF [] cu29_0 4000 sp29_0) = true := by decide +kernel
theorem ok29_0 (X : Xs) : SpecOK X sp29_0 := sp_sound (sps_nil) rfl os29_0 (List.all_eq_true.mp oc29_0)
def sp98_0 : Spec := (98, [(2, 0, 0), (0, -2147483648, 2147483647)], [((-2147483648, 2147483647), [])], [(17, 2), (17, 3), (17, 4), (34, 0), (42, 11), (42, 12), (43, 0), (44, 0), (45, 0), (46, 0)], 70)
def cu98_0 : List Cut := []
theorem os98_0 : okStart H0 [sp1_0, sp29_0] inlF [] [] cu98_0 4000 sp98_0 = true := by decide +kernel
theorem oc98_0 : cu98_0.all (okCut H0 [sp1_0, sp29_0] inlF [] cu98_0 4000 sp98_0) = true := by decide +kernel
theorem ok98_0 (X : Xs) : SpecOK X sp98_0 := sp_sound (sps_cons (ok1_0 X) (sps_cons (ok29_0 X) sps_nil)) rfl os98_0 (List.all_eq_true.mp oc98_0)
def sp99_0 : Spec := (99, [(2, 0, 0), (0, -2147483648, 2147483647), (0, -2147483648, 2147483647)], [((-2147483648, 2147483647), [])], [(17, 2), (17, 3), (17, 4), (42, 11), (42, 12), (43, 0), (44, 0), (45, 0), (46, 0)], 70)
def cu99_0 : List Cut := []
theorem os99_0 : okStart H0 [sp1_0] inlF [] [] cu99_0 4000 sp99_0 = true := by decide +kernel
theorem oc99_0 : cu99_0.all (okCut H0 [sp1_0] inlF [] cu99_0 4000 sp99_0) = true := by decide +kernel
theorem ok99_0 (X : Xs) : SpecOK X sp99_0 := sp_sound (sps_cons (ok1_0 X) sps_nil) rfl os99_0 (List.all_eq_true.mp oc99_0)
def sp100_0 : Spec := (100, [(2, 0, 0), (0, -2147483648, 2147483647), (0, -2147483648, 2147483647), (0, -2147483648, 2147483647)], [((-2147483648, 2147483647), [])], [(17, 2), (17, 3), (17, 4), (42, 11), (42, 12), (43, 0), (44, 0), (45, 0), (46, 0)], 70)
def cu100_0 : List Cut := []
theorem os100_0 : okStart H0 [sp1_0, sp6_0, sp7_0] inlF [] [] cu100_0 4000 sp100_0 = true := by decide +kernel
theorem oc100_0 : cu100_0.all (okCut H0 [sp1_0, sp6_0, sp7_0] inlF [] cu100_0 4000 sp100_0) = true := by decide +kernel
theorem ok100_0 (X : Xs) : SpecOK X sp100_0 := sp_sound (sps_cons (ok1_0 X) (sps_cons (ok6_0 X) (sps_cons (ok7_0 X) sps_nil))) rfl os100_0 (List.all_eq_true.mp oc100_0)
def sp5_0 : Spec := (5, [(2, 42, 0), (0, 0, 9000)], [((-2147483648, 2147483647), [])], [], 10)
def cu5_0 : List Cut := [(4, [0, 1, 2, 3], [(2, 42, 0), (0, 0, 9000), (0, -2147483648, 2147483647), (0, 0, 20)], [], [(0, 0, 0), (-1, 3, 20)], [])]
theorem os5_0 : okStart H0 [] inlF [] [] cu5_0 4000 sp5_0 = true := by decide +kernel
theorem oc5_0 : cu5_0.all (okCut H0 [] inlF [] cu5_0 4000 sp5_0) = true := by decide +kernel
theorem ok5_0 (X : Xs) : SpecOK X sp5_0 := sp_sound (sps_nil) rfl os5_0 (List.all_eq_true.mp oc5_0)
def sp101_0 : Spec := (101, [(2, 0, 0), (0, -2147483648, 2147483647), (0, -2147483648, 2147483647)], [((-2147483648, 2147483647), [])], [(17, 2), (17, 3), (17, 4), (42, 11), (42, 12), (43, 0), (44, 0), (45, 0), (46, 0), (47, 0)], 70)
def cu101_0 : List Cut := []
theorem os101_0 : okStart H0 [sp1_0, sp5_0] inlF [] [] cu101_0 4000 sp101_0 = true := by decide +kernel
theorem oc101_0 : cu101_0.all (okCut H0 [sp1_0, sp5_0] inlF [] cu101_0 4000 sp101_0) = true := by decide +kernel
theorem ok101_0 (X : Xs) : SpecOK X sp101_0 := sp_sound (sps_cons (ok1_0 X) (sps_cons (ok5_0 X) sps_nil)) rfl os101_0 (List.all_eq_true.mp oc101_0)
def sp20_0 : Spec := (20, [(2, 42, 0), (0, 0, 29)], [((-2147483648, 2147483647), [])], [], 40)
def cu20_0 : List Cut := [(4, [0, 1, 2, 3], [(2, 42, 0), (0, 0, 29), (0, -2147483648, 2147483647), (0, 0, 20)], [], [(0, 0, 1), (-1, 3, 20)], []),
  (57, [0, 1, 2, 3], [(2, 42, 0), (0, 0, 29), (0, -2147483648, 2147483647), (0, 0, 100)], [], [(0, 0, 0), (-1, 3, 100)], [])]
theorem os20_0 : okStart H0 [sp68_0, sp7_0] inlF [] [] cu20_0 4000 sp20_0 = true := by decide +kernel
theorem oc20_0 : cu20_0.all (okCut H0 [sp68_0, sp7_0] inlF [] cu20_0 4000 sp20_0) = true := by decide +kernel
theorem ok20_0 (X : Xs) : SpecOK X sp20_0 := sp_sound (sps_cons (ok68_0 X) (sps_cons (ok7_0 X) sps_nil)) rfl os20_0 (List.all_eq_true.mp oc20_0)
def sp77_0 : Spec := (77, [(2, 48, 0), (0, 0, 29), (0, -2147483648, 2147483647)], [((-2147483648, 2147483647), [])], [], 10)
def cu77_0 : List Cut := [(4, [0, 1, 2, 3, 4], [(2, 48, 0), (0, 0, 29), (0, -2147483648, 2147483647), (0, -2147483648, 2147483647), (0, 0, 60)], [], [(0, 0, 0), (-1, 4, 60)], [])]
theorem os77_0 : okStart H0 [] inlF [] [] cu77_0 4000 sp77_0 = true := by decide +kernel
theorem oc77_0 : cu77_0.all (okCut H0 [] inlF [] cu77_0 4000 sp77_0) = true := by decide +kernel
theorem ok77_0 (X : Xs) : SpecOK X sp77_0 := sp_sound (sps_nil) rfl os77_0 (List.all_eq_true.mp oc77_0)
def sp119_0 : Spec := (119, [(2, 0, 0), (0, 0, 29)], [((-2147483648, 2147483647), [])], [], 50)
def cu119_0 : List Cut := []
theorem os119_0 : okStart H0 [sp20_0, sp77_0] inlF [] [] cu119_0 4000 sp119_0 = true := by decide +kernel
theorem oc119_0 : cu119_0.all (okCut H0 [sp20_0, sp77_0] inlF [] cu119_0 4000 sp119_0) = true := by decide +kernel
theorem ok119_0 (X : Xs) : SpecOK X sp119_0 := sp_sound (sps_cons (ok20_0 X) (sps_cons (ok77_0 X) sps_nil)) rfl os119_0 (List.all_eq_true.mp oc119_0)
def sp102_0 : Spec := (102, [(2, 0, 0), (0, -2147483648, 2147483647), (0, -2147483648, 2147483647)], [((-2147483648, 2147483647), [])], [(17, 2), (17, 3), (17, 4), (42, 11), (42, 12), (43, 0), (44, 0), (45, 0), (46, 0), (48, 4), (49, 0), (50, 0), (51, 0)], 70)
def cu102_0 : List Cut := []
theorem os102_0 : okStart H0 [sp1_0, sp119_0] inlF [] [] cu102_0 4000 sp102_0 = true := by decide +kernel
theorem oc102_0 : cu102_0.all (okCut H0 [sp1_0, sp119_0] inlF [] cu102_0 4000 sp102_0) = true := by decide +kernel
theorem ok102_0 (X : Xs) : SpecOK X sp102_0 := sp_sound (sps_cons (ok1_0 X) (sps_cons (ok119_0 X) sps_nil)) rfl os102_0 (List.all_eq_true.mp oc102_0)
def sp103_0 : Spec := (103, [(2, 0, 0), (0, -2147483648, 2147483647), (0, -2147483648, 2147483647), (0, -2147483648, 2147483647)], [((-2147483648, 2147483647), [])], [(17, 2), (17, 3), (17, 4), (42, 11), (42, 12), (43, 0), (44, 0), (45, 0), (46, 0)], 70)
def cu103_0 : List Cut := []
theorem os103_0 : okStart H0 [sp1_0, sp119_0, sp20_0, sp77_0] inlF [] [] cu103_0 4000 sp103_0 = true := by decide +kernel
theorem oc103_0 : cu103_0.all (okCut H0 [sp1_0, sp119_0, sp20_0, sp77_0] inlF [] cu103_0 4000 sp103_0) = true := by decide +kernel
theorem ok103_0 (X : Xs) : SpecOK X sp103_0 := sp_sound (sps_cons (ok1_0 X) (sps_cons (ok119_0 X) (sps_cons (ok20_0 X) (sps_cons (ok77_0 X) sps_nil)))) rfl os103_0 (List.all_eq_true.mp oc103_0)
def sp104_0 : Spec := (104, [(2, 0, 0), (0, -2147483648, 2147483647)], [((-2147483648, 2147483647), [])], [(52, 14)], 10)
def cu104_0 : List Cut := []
theorem os104_0 : okStart H0 [] inlF [] [] cu104_0 4000 sp104_0 = true := by decide +kernel
theorem oc104_0 : cu104_0.all (okCut H0 [] inlF [] cu104_0 4000 sp104_0) = true := by decide +kernel
theorem ok104_0 (X : Xs) : SpecOK X sp104_0 := sp_sound (sps_nil) rfl os104_0 (List.all_eq_true.mp oc104_0)
def sp9_0 : Spec := (9, [(2, 42, 0), (0, -2147483648, 2147483647)], [((0, 1), [])], [], 10)
def cu9_0 : List Cut := [(2, [0, 1, 2], [(2, 42, 0), (0, -2147483648, 2147483647), (0, 0, 20)], [], [(0, 0, 0), (-1, 2, 20)], [])]
theorem os9_0 : okStart H0 [] inlF [] [] cu9_0 4000 sp9_0 = true := by decide +kernel
theorem oc9_0 : cu9_0.all (okCut H0 [] inlF [] cu9_0 4000 sp9_0) = true := by decide +kernel
theorem ok9_0 (X : Xs) : SpecOK X sp9_0 := sp_sound (sps_nil) rfl os9_0 (List.all_eq_true.mp oc9_0)
def sp39_0 : Spec := (39, [(2, 52, 0), (0, 0, 9000)], [((0, 0), [])], [(52, 13), (58, 0)], 20)
def cu39_0 : List Cut := [(5, [0, 1, 2], [(2, 52, 0), (0, 0, 9000), (0, 0, 30)], [], [(0, 0, 0), (-1, 2, 30)], [])]
theorem os39_0 : okStart H0 [sp30_0] inlF [] [] cu39_0 4000 sp39_0 = true := by decide +kernel
theorem oc39_0 : cu39_0.all (okCut H0 [sp30_0] inlF [] cu39_0 4000 sp39_0) = true := by decide +kernel
theorem ok39_0 (X : Xs) : SpecOK X sp39_0 := sp_sound (sps_cons (ok30_0 X) sps_nil) rfl os39_0 (List.all_eq_true.mp oc39_0)
def sp46_0 : Spec := (46, [(2, 52, 0)], [((0, 0), [])], [(52, 17), (52, 18), (60, 0)], 10)
def cu46_0 : List Cut := [(6, [0, 1, 2, 3], [(2, 52, 0), (0, -2147483648, 2147483647), (0, -2147483648, 2147483647), (0, 0, 5)], [], [(0, 0, 0), (-1, 3, 5)], [])]
theorem os46_0 : okStart H0 [] inlF [] [] cu46_0 4000 sp46_0 = true := by decide +kernel
theorem oc46_0 : cu46_0.all (okCut H0 [] inlF [] cu46_0 4000 sp46_0) = true := by decide +kernel
theorem ok46_0 (X : Xs) : SpecOK X sp46_0 := sp_sound (sps_nil) rfl os46_0 (List.all_eq_true.mp oc46_0)
def sp43_5 : Spec := (43, [(2, 52, 0), (0, 5, 5)], [((0, 0), [])], [(52, 17), (52, 18), (60, 0)], 20)
def cu43_5 : List Cut := []
theorem os43_5 : okStart H0 [sp46_0] inlF [] [] cu43_5 4000 sp43_5 = true := by decide +kernel
theorem oc43_5 : cu43_5.all (okCut H0 [sp46_0] inlF [] cu43_5 4000 sp43_5) = true := by decide +kernel
theorem ok43_5 (X : Xs) : SpecOK X sp43_5 := sp_sound (sps_cons (ok46_0 X) sps_nil) rfl os43_5 (List.all_eq_true.mp oc43_5)
def sp44_0 : Spec := (44, [(2, 52, 0), (0, 0, 4), (0, -2147483648, 2147483647)], [((0, 0), [])], [(52, 13), (58, 0), (59, 0)], 10)
def cu44_0 : List Cut := [(7, [0, 2, 3], [(2, 52, 0), (0, -2147483648, 2147483647), (0, 0, 30)], [], [(0, 0, 0), (-1, 2, 30)], [])]
theorem os44_0 : okStart H0 [] inlF [] [] cu44_0 4000 sp44_0 = true := by decide +kernel
theorem oc44_0 : cu44_0.all (okCut H0 [] inlF [] cu44_0 4000 sp44_0) = true := by decide +kernel
theorem ok44_0 (X : Xs) : SpecOK X sp44_0 := sp_sound (sps_nil) rfl os44_0 (List.all_eq_true.mp oc44_0)
def sp45_0 : Spec := (45, [(2, 52, 0), (0, 0, 4), (0, -2147483648, 2147483647)], [((0, 0), [])], [(52, 13), (58, 0), (59, 0)], 10)
def cu45_0 : List Cut := [(7, [0, 2, 3], [(2, 52, 0), (0, -2147483648, 2147483647), (0, 0, 30)], [], [(0, 0, 0), (-1, 2, 30)], [])]
theorem os45_0 : okStart H0 [] inlF [] [] cu45_0 4000 sp45_0 = true := by decide +kernel
theorem oc45_0 : cu45_0.all (okCut H0 [] inlF [] cu45_0 4000 sp45_0) = true := by decide +kernel
theorem ok45_0 (X : Xs) : SpecOK X sp45_0 := sp_sound (sps_nil) rfl os45_0 (List.all_eq_true.mp oc45_0)
def sp43_4 : Spec := (43, [(2, 52, 0), (0, 4, 4)], [((0, 0), [])], [(52, 13), (52, 15), (52, 16), (52, 17), (52, 18), (58, 0), (59, 0), (60, 0)], 30)
def cu43_4 : List Cut := [(12, [0, 1, 2], [(2, 52, 0), (0, 4, 4), (0, 0, 252)], [], [(0, 0, 0), (-1, 2, 252)], [])]
theorem os43_4 : okStart H0 [sp43_5, sp44_0, sp45_0, sp46_0] inlF [] [] cu43_4 4000 sp43_4 = true := by decide +kernel
theorem oc43_4 : cu43_4.all (okCut H0 [sp43_5, sp44_0, sp45_0, sp46_0] inlF [] cu43_4 4000 sp43_4) = true := by decide +kernel
theorem ok43_4 (X : Xs) : SpecOK X sp43_4 := sp_sound (sps_cons (ok43_5 X) (sps_cons (ok44_0 X) (sps_cons (ok45_0 X) (sps_cons (ok46_0 X) sps_nil)))) rfl os43_4 (List.all_eq_true.mp oc43_4)
def sp43_3 : Spec := (43, [(2, 52, 0), (0, 3, 3)], [((0, 0), [])], [(52, 13), (52, 15), (52, 16), (52, 17), (52, 18), (58, 0), (59, 0), (60, 0)], 40)
def cu43_3 : List Cut := [(12, [0, 1, 2], [(2, 52, 0), (0, 3, 3), (0, 0, 252)], [], [(0, 0, 0), (-1, 2, 252)], [])]
theorem os43_3 : okStart H0 [sp43_4, sp44_0, sp45_0, sp46_0] inlF [] [] cu43_3 4000 sp43_3 = true := by decide +kernel
theorem oc43_3 : cu43_3.all (okCut H0 [sp43_4, sp44_0, sp45_0, sp46_0] inlF [] cu43_3 4000 sp43_3) = true := by decide +kernel
theorem ok43_3 (X : Xs) : SpecOK X sp43_3 := sp_sound (sps_cons (ok43_4 X) (sps_cons (ok44_0 X) (sps_cons (ok45_0 X) (sps_cons (ok46_0 X) sps_nil)))) rfl os43_3 (List.all_eq_true.mp oc43_3)
def sp43_2 : Spec := (43, [(2, 52, 0), (0, 2, 2)], [((0, 0), [])], [(52, 13), (52, 15), (52, 16), (52, 17), (52, 18), (58, 0), (59, 0), (60, 0)], 50)
def cu43_2 : List Cut := [(12, [0, 1, 2], [(2, 52, 0), (0, 2, 2), (0, 0, 252)], [], [(0, 0, 0), (-1, 2, 252)], [])]
theorem os43_2 : okStart H0 [sp43_3, sp44_0, sp45_0, sp46_0] inlF [] [] cu43_2 4000 sp43_2 = true := by decide +kernel
theorem oc43_2 : cu43_2.all (okCut H0 [sp43_3, sp44_0, sp45_0, sp46_0] inlF [] cu43_2 4000 sp43_2) = true := by decide +kernel
theorem ok43_2 (X : Xs) : SpecOK X sp43_2 := sp_sound (sps_cons (ok43_3 X) (sps_cons (ok44_0 X) (sps_cons (ok45_0 X) (sps_cons (ok46_0 X) sps_nil)))) rfl os43_2 (List.all_eq_true.mp oc43_2)
def sp43_1 : Spec := (43, [(2, 52, 0), (0, 1, 1)], [((0, 0), [])], [(52, 13), (52, 15), (52, 16), (52, 17), (52, 18), (58, 0), (59, 0), (60, 0)], 60)
def cu43_1 : List Cut := [(12, [0, 1, 2], [(2, 52, 0), (0, 1, 1), (0, 0, 252)], [], [(0, 0, 0), (-1, 2, 252)], [])]
theorem os43_1 : okStart H0 [sp43_2, sp44_0, sp45_0, sp46_0] inlF [] [] cu43_1 4000 sp43_1 = true := by decide +kernel
theorem oc43_1 : cu43_1.all (okCut H0 [sp43_2, sp44_0, sp45_0, sp46_0] inlF [] cu43_1 4000 sp43_1) = true := by decide +kernel
theorem ok43_1 (X : Xs) : SpecOK X sp43_1 := sp_sound (sps_cons (ok43_2 X) (sps_cons (ok44_0 X) (sps_cons (ok45_0 X) (sps_cons (ok46_0 X) sps_nil)))) rfl os43_1 (List.all_eq_true.mp oc43_1)
def sp43_0 : Spec := (43, [(2, 52, 0), (0, 0, 0)], [((0, 0), [])], [(52, 13), (52, 15), (52, 16), (52, 17), (52, 18), (58, 0), (59, 0), (60, 0)], 70)
def cu43_0 : List Cut := [(12, [0, 1, 2], [(2, 52, 0), (0, 0, 0), (0, 0, 252)], [], [(0, 0, 0), (-1, 2, 252)], [])]
theorem os43_0 : okStart H0 [sp43_1, sp44_0, sp45_0, sp46_0] inlF [] [] cu43_0 4000 sp43_0 = true := by decide +kernel
theorem oc43_0 : cu43_0.all (okCut H0 [sp43_1, sp44_0, sp45_0, sp46_0] inlF [] cu43_0 4000 sp43_0) = true := by decide +kernel
theorem ok43_0 (X : Xs) : SpecOK X sp43_0 := sp_sound (sps_cons (ok43_1 X) (sps_cons (ok44_0 X) (sps_cons (ok45_0 X) (sps_cons (ok46_0 X) sps_nil)))) rfl os43_0 (List.all_eq_true.mp oc43_0)
def sp41_0 : Spec := (41, [(2, 52, 0), (0, 0, 19), (0, 0, 9000)], [((0, 10), [])], [(17, 2), (17, 3), (17, 4), (56, 0), (57, 0)], 50)
def cu41_0 : List Cut := [(4, [0, 1, 2, 3, 4], [(2, 52, 0), (0, 0, 19), (0, 0, 9000), (0, 0, 10), (0, 0, 30)], [], [(0, 0, 0), (-1, 4, 30)], [])]
theorem os41_0 : okStart H0 [sp10_0, sp11_0, sp27_0] inlF [] [] cu41_0 4000 sp41_0 = true := by decide +kernel
theorem oc41_0 : cu41_0.all (okCut H0 [sp10_0, sp11_0, sp27_0] inlF [] cu41_0 4000 sp41_0) = true := by decide +kernel
theorem ok41_0 (X : Xs) : SpecOK X sp41_0 := sp_sound (sps_cons (ok10_0 X) (sps_cons (ok11_0 X) (sps_cons (ok27_0 X) sps_nil))) rfl os41_0 (List.all_eq_true.mp oc41_0)
def sp40_0 : Spec := (40, [(2, 52, 0), (0, 0, 4), (0, 0, 10), (0, 0, 2147483647)], [((0, 0), [])], [(54, 0), (55, 0)], 10)
def cu40_0 : List Cut := [(7, [0, 1, 2, 3, 4], [(2, 52, 0), (0, 0, 4), (0, 0, 10), (0, 0, 2147483647), (0, 0, 2147483647)], [], [(0, 0, 1), (-1, 4, 2147483647), (0, 0, 1000), (0, 0, 0)], []),
  (20, [0, 1, 2, 3, 4, 5, 6, 7, 8], [(2, 52, 0), (0, 0, 4), (0, 0, 10), (0, 0, 2147483647), (0, 0, 2147483646), (0, -2147483648, 2147483647), (0, -2147483648, 2147483647), (0, -2147483648, 2147483647), (0, 0, 10)], [], [(0, 0, 1), (-1, 4, 2147483647), (0, 0, 0), (-1, 8, 10)], [])]
theorem os40_0 : okStart H0 [] inlF [] [] cu40_0 4000 sp40_0 = true := by decide +kernel
theorem oc40_0 : cu40_0.all (okCut H0 [] inlF [] cu40_0 4000 sp40_0) = true := by decide +kernel
theorem ok40_0 (X : Xs) : SpecOK X sp40_0 := sp_sound (sps_nil) rfl os40_0 (List.all_eq_true.mp oc40_0)
def sp37_0 : Spec := (37, [(2, 52, 0), (0, -2147483648, 2147483647), (0, 0, 9000)], [((0, 0), [])], [(17, 2), (17, 3), (17, 4), (52, 12), (52, 13), (52, 15), (52, 16), (52, 17), (52, 18), (53, 0), (54, 0), (55, 0), (56, 0), (57, 0), (58, 0), (59, 0), (60, 0)], 80)
def cu37_0 : List Cut := [(5, [0, 1, 2, 3], [(2, 52, 0), (0, -2147483648, 2147483647), (0, 0, 9000), (0, 0, 20)], [], [(0, 0, 0), (-1, 3, 20)], [])]
theorem os37_0 : okStart H0 [sp39_0, sp40_0, sp41_0, sp43_0, sp7_0] inlF [] [] cu37_0 4000 sp37_0 = true := by decide +kernel
theorem oc37_0 : cu37_0.all (okCut H0 [sp39_0, sp40_0, sp41_0, sp43_0, sp7_0] inlF [] cu37_0 4000 sp37_0) = true := by decide +kernel
theorem ok37_0 (X : Xs) : SpecOK X sp37_0 := sp_sound (sps_cons (ok39_0 X) (sps_cons (ok40_0 X) (sps_cons (ok41_0 X) (sps_cons (ok43_0 X) (sps_cons (ok7_0 X) sps_nil))))) rfl os37_0 (List.all_eq_true.mp oc37_0)
def sp105_0 : Spec := (105, [(2, 0, 0), (0, -2147483648, 2147483647), (0, -2147483648, 2147483647)], [((-2147483648, 2147483647), [])], [(17, 2), (17, 3), (17, 4), (42, 11), (42, 12), (43, 0), (44, 0), (45, 0), (46, 0), (52, 12), (52, 13), (52, 15), (52, 16), (52, 17), (52, 18), (53, 0), (54, 0), (55, 0), (56, 0), (57, 0), (58, 0), (59, 0), (60, 0)], 90)
def cu105_0 : List Cut := []
theorem os105_0 : okStart H0 [sp1_0, sp37_0, sp9_0] inlF [] [] cu105_0 4000 sp105_0 = true := by decide +kernel
theorem oc105_0 : cu105_0.all (okCut H0 [sp1_0, sp37_0, sp9_0] inlF [] cu105_0 4000 sp105_0) = true := by decide +kernel
theorem ok105_0 (X : Xs) : SpecOK X sp105_0 := sp_sound (sps_cons (ok1_0 X) (sps_cons (ok37_0 X) (sps_cons (ok9_0 X) sps_nil))) rfl os105_0 (List.all_eq_true.mp oc105_0)
def sp38_0 : Spec := (38, [(2, 52, 0), (0, 0, 19)], [((-2147483648, 2147483647), [])], [], 10)
def cu38_0 : List Cut := [(2, [0, 1, 2], [(2, 52, 0), (0, 0, 19), (0, 0, 5)], [], [(0, 0, 0), (-1, 2, 5)], [])]
theorem os38_0 : okStart H0 [] inlF [] [] cu38_0 4000 sp38_0 = true := by decide +kernel
theorem oc38_0 : cu38_0.all (okCut H0 [] inlF [] cu38_0 4000 sp38_0) = true := by decide +kernel
theorem ok38_0 (X : Xs) : SpecOK X sp38_0 := sp_sound (sps_nil) rfl os38_0 (List.all_eq_true.mp oc38_0)
def sp106_0 : Spec := (106, [(2, 0, 0), (0, -2147483648, 2147483647), (0, -2147483648, 2147483647)], [((-2147483648, 2147483647), [])], [(17, 2), (17, 3), (17, 4), (42, 11), (42, 12), (43, 0), (44, 0), (45, 0), (46, 0), (52, 12), (52, 13), (52, 15), (52, 16), (52, 17), (52, 18), (53, 0), (54, 0), (55, 0), (56, 0), (57, 0), (58, 0), (59, 0), (60, 0)], 90)
def cu106_0 : List Cut := []
theorem os106_0 : okStart H0 [sp1_0, sp37_0, sp38_0, sp9_0] inlF [] [] cu106_0 4000 sp106_0 = true := by decide +kernel
theorem oc106_0 : cu106_0.all (okCut H0 [sp1_0, sp37_0, sp38_0, sp9_0] inlF [] cu106_0 4000 sp106_0) = true := by decide +kernel
theorem ok106_0 (X : Xs) : SpecOK X sp106_0 := sp_sound (sps_cons (ok1_0 X) (sps_cons (ok37_0 X) (sps_cons (ok38_0 X) (sps_cons (ok9_0 X) sps_nil)))) rfl os106_0 (List.all_eq_true.mp oc106_0)
def sp18_0 : Spec := (18, [(2, 42, 0), (0, 0, 19), (0, 0, 9000)], [((-2147483648, 2147483647), [])], [(17, 2), (17, 3), (17, 4)], 50)
def cu18_0 : List Cut := [(4, [0, 1, 2, 3, 4], [(2, 42, 0), (0, 0, 19), (0, 0, 9000), (0, -2147483648, 2147483647), (0, 0, 30)], [], [(0, 0, 0), (-1, 4, 30)], [])]
theorem os18_0 : okStart H0 [sp10_0, sp11_0, sp27_0] inlF [] [] cu18_0 4000 sp18_0 = true := by decide +kernel
theorem oc18_0 : cu18_0.all (okCut H0 [sp10_0, sp11_0, sp27_0] inlF [] cu18_0 4000 sp18_0) = true := by decide +kernel
theorem ok18_0 (X : Xs) : SpecOK X sp18_0 := sp_sound (sps_cons (ok10_0 X) (sps_cons (ok11_0 X) (sps_cons (ok27_0 X) sps_nil))) rfl os18_0 (List.all_eq_true.mp oc18_0)
def sp107_0 : Spec := (107, [(2, 0, 0), (0, -2147483648, 2147483647)], [((-100003, 2147483647), [])], [(17, 2), (17, 3), (17, 4), (42, 11), (42, 12), (43, 0), (44, 0), (45, 0), (46, 0)], 70)
def cu107_0 : List Cut := []
theorem os107_0 : okStart H0 [sp1_0, sp18_0, sp7_0] inlF [] [] cu107_0 4000 sp107_0 = true := by decide +kernel
theorem oc107_0 : cu107_0.all (okCut H0 [sp1_0, sp18_0, sp7_0] inlF [] cu107_0 4000 sp107_0) = true := by decide +kernel
theorem ok107_0 (X : Xs) : SpecOK X sp107_0 := sp_sound (sps_cons (ok1_0 X) (sps_cons (ok18_0 X) (sps_cons (ok7_0 X) sps_nil))) rfl os107_0 (List.all_eq_true.mp oc107_0)
def sp31_0 : Spec := (31, [(2, 27, 0), (0, 0, 29), (0, 0, 29)], [((-2147483648, 2147483647), [])], [], 10)
def cu31_0 : List Cut := [(4, [0, 1, 2, 3, 4], [(2, 27, 0), (0, 0, 29), (0, 0, 29), (0, -2147483648, 2147483647), (0, 0, 100)], [], [(0, 0, 0), (-1, 4, 100)], [])]
theorem os31_0 : okStart H0 [] inlF [] [] cu31_0 4000 sp31_0 = true := by decide +kernel
theorem oc31_0 : cu31_0.all (okCut H0 [] inlF [] cu31_0 4000 sp31_0) = true := by decide +kernel
theorem ok31_0 (X : Xs) : SpecOK X sp31_0 := sp_sound (sps_nil) rfl os31_0 (List.all_eq_true.mp oc31_0)
def sp108_0 : Spec := (108, [(2, 0, 0), (0, -2147483648, 2147483647), (0, -2147483648, 2147483647), (0, -2147483648, 2147483647)], [((-2147483648, 2147483647), [])], [], 20)
def cu108_0 : List Cut := []
theorem os108_0 : okStart H0 [sp31_0] inlF [] [] cu108_0 4000 sp108_0 = true := by decide +kernel
theorem oc108_0 : cu108_0.all (okCut H0 [sp31_0] inlF [] cu108_0 4000 sp108_0) = true := by decide +kernel
theorem ok108_0 (X : Xs) : SpecOK X sp108_0 := sp_sound (sps_cons (ok31_0 X) sps_nil) rfl os108_0 (List.all_eq_true.mp oc108_0)
def sp79_0 : Spec := (79, [(2, 61, 0), (2, 27, 0), (0, 1, 30)], [((0, 0), [])], [(62, 0)], 10)
def cu79_0 : List Cut := [(2, [0, 1, 2, 3], [(2, 61, 0), (2, 27, 0), (0, 1, 30), (0, 0, 30)], [], [(0, 0, 1), (-1, 3, 30)], []),
  (14, [0, 1, 3], [(2, 61, 0), (2, 27, 0), (0, 0, 100)], [], [(0, 0, 0), (-1, 2, 100)], [])]
theorem os79_0 : okStart H0 [] inlF [] [] cu79_0 4000 sp79_0 = true := by decide +kernel
theorem oc79_0 : cu79_0.all (okCut H0 [] inlF [] cu79_0 4000 sp79_0) = true := by decide +kernel
theorem ok79_0 (X : Xs) : SpecOK X sp79_0 := sp_sound (sps_nil) rfl os79_0 (List.all_eq_true.mp oc79_0)
def sp80_0 : Spec := (80, [(2, 61, 0), (0, 0, 29), (0, 1, 30)], [((0, 0), [])], [(63, 0)], 10)
def cu80_0 : List Cut := [(2, [0, 1, 2, 3], [(2, 61, 0), (0, 0, 29), (0, 1, 30), (0, 0, 30)], [], [(0, 0, 3), (-1, 3, 30), (0, 0, 1000), (0, 0, 0)], []),
  (19, [0, 2, 3], [(2, 61, 0), (0, 1, 30), (0, 1, 30)], [], [(0, 0, 2), (-1, 2, 30), (0, 0, 1000), (0, 0, 0)], []),
  (26, [0, 2, 3, 4, 5], [(2, 61, 0), (0, 2, 30), (0, 1, 29), (0, -2147483648, 2147483647), (0, 0, 30)], [], [(0, 0, 2), (-1, 2, 30), (0, 0, 1), (-1, 4, 30)], []),
  (47, [0, 2, 3, 4, 5], [(2, 61, 0), (0, 2, 30), (0, 1, 29), (0, -2147483648, 2147483647), (0, 0, 30)], [], [(0, 0, 2), (-1, 2, 30), (0, 0, 0), (-1, 4, 30)], [])]
theorem os80_0 : okStart H0 [] inlF [] [] cu80_0 4000 sp80_0 = true := by decide +kernel
theorem oc80_0 : cu80_0.all (okCut H0 [] inlF [] cu80_0 4000 sp80_0) = true := by decide +kernel
theorem ok80_0 (X : Xs) : SpecOK X sp80_0 := sp_sound (sps_nil) rfl os80_0 (List.all_eq_true.mp oc80_0)
def sp81_0 : Spec := (81, [(2, 61, 0), (0, 0, 29), (0, 0, 29), (0, 1, 30)], [((-1, 29), [])], [], 10)
def cu81_0 : List Cut := [(4, [0, 1, 2, 3, 4, 5], [(2, 61, 0), (0, 0, 29), (0, 0, 29), (0, 1, 30), (0, -1, 29), (0, 0, 30)], [], [(0, 0, 0), (-1, 5, 30)], [])]
theorem os81_0 : okStart H0 [] inlF [] [] cu81_0 4000 sp81_0 = true := by decide +kernel
theorem oc81_0 : cu81_0.all (okCut H0 [] inlF [] cu81_0 4000 sp81_0) = true := by decide +kernel
theorem ok81_0 (X : Xs) : SpecOK X sp81_0 := sp_sound (sps_nil) rfl os81_0 (List.all_eq_true.mp oc81_0)
def sp78_0 : Spec := (78, [(2, 61, 0), (0, 0, 29), (2, 27, 0), (0, 1, 30)], [((0, 0), [])], [(61, 4), (62, 0), (63, 0), (64, 0)], 20)
def cu78_0 : List Cut := [(29, [0, 1, 3, 4], [(2, 61, 0), (0, 0, 29), (0, 1, 30), (0, 0, 29)], [(61, 3, 1, 30)], [(0, 0, 0), (-1, 4, 30)], [])]
theorem os78_0 : okStart H0 [sp79_0, sp80_0, sp81_0] inlF [] [] cu78_0 4000 sp78_0 = true := by decide +kernel
theorem oc78_0 : cu78_0.all (okCut H0 [sp79_0, sp80_0, sp81_0] inlF [] cu78_0 4000 sp78_0) = true := by decide +kernel
theorem ok78_0 (X : Xs) : SpecOK X sp78_0 := sp_sound (sps_cons (ok79_0 X) (sps_cons (ok80_0 X) (sps_cons (ok81_0 X) sps_nil))) rfl os78_0 (List.all_eq_true.mp oc78_0)
def sp109_0 : Spec := (109, [(2, 0, 0), (0, -2147483648, 2147483647), (0, -2147483648, 2147483647)], [((-100001, 30), [])], [(61, 4), (62, 0), (63, 0), (64, 0)], 30)
def cu109_0 : List Cut := []
theorem os109_0 : okStart H0 [sp78_0] inlF [] [] cu109_0 4000 sp109_0 = true := by decide +kernel
theorem oc109_0 : cu109_0.all (okCut H0 [sp78_0] inlF [] cu109_0 4000 sp109_0) = true := by decide +kernel
theorem ok109_0 (X : Xs) : SpecOK X sp109_0 := sp_sound (sps_cons (ok78_0 X) sps_nil) rfl os109_0 (List.all_eq_true.mp oc109_0)
def sp19_0 : Spec := (19, [(2, 42, 0), (0, 0, 29), (0, 0, 8), (0, 0, 9000)], [((-2147483648, 2147483647), [])], [(17, 2), (17, 3), (17, 4)], 40)
def cu19_0 : List Cut := [(4, [0, 1, 2, 3, 4, 5], [(2, 42, 0), (0, 0, 29), (0, 0, 8), (0, 0, 9000), (0, -2147483648, 2147483647), (0, 0, 30)], [], [(0, 0, 0), (-1, 5, 30)], [])]
theorem os19_0 : okStart H0 [sp10_0, sp12_0] inlF [] [] cu19_0 4000 sp19_0 = true := by decide +kernel
theorem oc19_0 : cu19_0.all (okCut H0 [sp10_0, sp12_0] inlF [] cu19_0 4000 sp19_0) = true := by decide +kernel
theorem ok19_0 (X : Xs) : SpecOK X sp19_0 := sp_sound (sps_cons (ok10_0 X) (sps_cons (ok12_0 X) sps_nil)) rfl os19_0 (List.all_eq_true.mp oc19_0)
def sp110_0 : Spec := (110, [(2, 0, 0), (0, -2147483648, 2147483647), (0, -2147483648, 2147483647), (0, -2147483648, 2147483647)], [((-2147483648, 2147483647), [])], [(17, 2), (17, 3), (17, 4), (42, 11), (42, 12), (43, 0), (44, 0), (45, 0), (46, 0)], 70)
def cu110_0 : List Cut := []
theorem os110_0 : okStart H0 [sp1_0, sp19_0, sp67_0] inlF [] [] cu110_0 4000 sp110_0 = true := by decide +kernel
theorem oc110_0 : cu110_0.all (okCut H0 [sp1_0, sp19_0, sp67_0] inlF [] cu110_0 4000 sp110_0) = true := by decide +kernel
theorem ok110_0 (X : Xs) : SpecOK X sp110_0 := sp_sound (sps_cons (ok1_0 X) (sps_cons (ok19_0 X) (sps_cons (ok67_0 X) sps_nil))) rfl os110_0 (List.all_eq_true.mp oc110_0)
def sp111_0 : Spec := (111, [(2, 0, 0), (0, -2147483648, 2147483647), (0, -2147483648, 2147483647), (0, -2147483648, 2147483647)], [((-2147483648, 2147483647), [])], [(17, 2), (17, 3), (17, 4), (42, 11), (42, 12), (43, 0), (44, 0), (45, 0), (46, 0)], 70)
def cu111_0 : List Cut := [(34, [0, 1, 3, 4, 5, 6, 7], [(2, 0, 0), (0, 0, 7), (0, 0, 9000), (0, 0, 8), (0, -2147483648, 2147483647), (0, -2147483648, 2147483647), (0, 0, 30)], [], [(0, 0, 0), (-1, 6, 30)], [])]
theorem os111_0 : okStart H0 [sp1_0, sp19_0, sp67_0, sp68_0] inlF [] [] cu111_0 4000 sp111_0 = true := by decide +kernel
theorem oc111_0 : cu111_0.all (okCut H0 [sp1_0, sp19_0, sp67_0, sp68_0] inlF [] cu111_0 4000 sp111_0) = true := by decide +kernel
theorem ok111_0 (X : Xs) : SpecOK X sp111_0 := sp_sound (sps_cons (ok1_0 X) (sps_cons (ok19_0 X) (sps_cons (ok67_0 X) (sps_cons (ok68_0 X) sps_nil)))) rfl os111_0 (List.all_eq_true.mp oc111_0)
def sp35_0 : Spec := (35, [(2, 12, 0)], [((-2147483648, 2147483647), [])], [], 10)
def cu35_0 : List Cut := [(4, [0, 1, 2], [(2, 12, 0), (0, -2147483648, 2147483647), (0, 0, 20)], [], [(0, 0, 0), (-1, 2, 20)], [])]
theorem os35_0 : okStart H0 [] inlF [] [] cu35_0 4000 sp35_0 = true := by decide +kernel
theorem oc35_0 : cu35_0.all (okCut H0 [] inlF [] cu35_0 4000 sp35_0) = true := by decide +kernel
theorem ok35_0 (X : Xs) : SpecOK X sp35_0 := sp_sound (sps_nil) rfl os35_0 (List.all_eq_true.mp oc35_0)
def sp8_0 : Spec := (8, [(2, 42, 0), (0, 0, 3)], [((-2147483648, 2147483647), [])], [], 10)
def cu8_0 : List Cut := [(4, [0, 1, 2, 3], [(2, 42, 0), (0, 0, 3), (0, -2147483648, 2147483647), (0, 0, 20)], [], [(0, 0, 0), (-1, 3, 20)], [])]
theorem os8_0 : okStart H0 [] inlF [] [] cu8_0 4000 sp8_0 = true := by decide +kernel
theorem oc8_0 : cu8_0.all (okCut H0 [] inlF [] cu8_0 4000 sp8_0) = true := by decide +kernel
theorem ok8_0 (X : Xs) : SpecOK X sp8_0 := sp_sound (sps_nil) rfl os8_0 (List.all_eq_true.mp oc8_0)
def sp120_0 : Spec := (120, [(2, 0, 0)], [((-2147483648, 2147483647), [])], [], 60)
def cu120_0 : List Cut := [(4, [0, 1, 2], [(2, 0, 0), (0, -2147483648, 2147483647), (0, 0, 30)], [], [(0, 0, 0), (-1, 2, 30)], [])]
theorem os120_0 : okStart H0 [sp119_0] inlF [] [] cu120_0 4000 sp120_0 = true := by decide +kernel
theorem oc120_0 : cu120_0.all (okCut H0 [sp119_0] inlF [] cu120_0 4000 sp120_0) = true := by decide +kernel
theorem ok120_0 (X : Xs) : SpecOK X sp120_0 := sp_sound (sps_cons (ok119_0 X) sps_nil) rfl os120_0 (List.all_eq_true.mp oc120_0)
def sp112_0 : Spec := (112, [(2, 0, 0), (0, -2147483648, 2147483647)], [((-2147483648, 2147483647), [])], [(17, 2), (17, 3), (17, 4), (42, 11), (42, 12), (43, 0), (44, 0), (45, 0), (46, 0)], 70)
def cu112_0 : List Cut := []
theorem os112_0 : okStart H0 [sp1_0, sp120_0, sp35_0, sp8_0] inlF [] [] cu112_0 4000 sp112_0 = true := by decide +kernel
theorem oc112_0 : cu112_0.all (okCut H0 [sp1_0, sp120_0, sp35_0, sp8_0] inlF [] cu112_0 4000 sp112_0) = true := by decide +kernel
theorem ok112_0 (X : Xs) : SpecOK X sp112_0 := sp_sound (sps_cons (ok1_0 X) (sps_cons (ok120_0 X) (sps_cons (ok35_0 X) (sps_cons (ok8_0 X) sps_nil)))) rfl os112_0 (List.all_eq_true.mp oc112_0)
def sp125_0 : Spec := (125, [(2, 65, 0), (0, -2147483648, 2147483647), (0, -2147483648, 2147483647), (0, -2147483648, 2147483647), (0, -2147483648, 2147483647), (0, -2147483648, 2147483647), (0, -2147483648, 2147483647)], [((-100004, 29), [])], [(65, 2), (66, 0), (67, 0), (68, 0), (69, 0), (70, 0), (71, 0), (72, 0)], 10)
def cu125_0 : List Cut := []
theorem os125_0 : okStart H0 [] inlF [] [] cu125_0 4000 sp125_0 = true := by decide +kernel
theorem oc125_0 : cu125_0.all (okCut H0 [] inlF [] cu125_0 4000 sp125_0) = true := by decide +kernel
theorem ok125_0 (X : Xs) : SpecOK X sp125_0 := sp_sound (sps_nil) rfl os125_0 (List.all_eq_true.mp oc125_0)
def sp126_0 : Spec := (126, [(2, 65, 0), (0, 0, 29), (0, 0, 9000)], [((0, 3), [])], [], 10)
def cu126_0 : List Cut := [(4, [0, 1, 2, 3, 4], [(2, 65, 0), (0, 0, 29), (0, 0, 9000), (0, -1, 59), (0, 0, 60)], [], [(0, 0, 0), (-1, 4, 60)], [])]
theorem os126_0 : okStart H0 [] inlF [] [] cu126_0 4000 sp126_0 = true := by decide +kernel
theorem oc126_0 : cu126_0.all (okCut H0 [] inlF [] cu126_0 4000 sp126_0) = true := by decide +kernel
theorem ok126_0 (X : Xs) : SpecOK X sp126_0 := sp_sound (sps_nil) rfl os126_0 (List.all_eq_true.mp oc126_0)
def sp127_0 : Spec := (127, [(2, 65, 0), (0, -2147483648, 2147483647), (0, -2147483648, 2147483647)], [((-100004, 3), [])], [(65, 10), (73, 0)], 20)
def cu127_0 : List Cut := []
theorem os127_0 : okStart H0 [sp126_0] inlF [] [] cu127_0 4000 sp127_0 = true := by decide +kernel
theorem oc127_0 : cu127_0.all (okCut H0 [sp126_0] inlF [] cu127_0 4000 sp127_0) = true := by decide +kernel
theorem ok127_0 (X : Xs) : SpecOK X sp127_0 := sp_sound (sps_cons (ok126_0 X) sps_nil) rfl os127_0 (List.all_eq_true.mp oc127_0)
def sp128_0 : Spec := (128, [(2, 65, 0), (0, -2147483648, 2147483647)], [((-100003, 1), [])], [(72, 0)], 10)
def cu128_0 : List Cut := []
theorem os128_0 : okStart H0 [] inlF [] [] cu128_0 4000 sp128_0 = true := by decide +kernel
theorem oc128_0 : cu128_0.all (okCut H0 [] inlF [] cu128_0 4000 sp128_0) = true := by decide +kernel
theorem ok128_0 (X : Xs) : SpecOK X sp128_0 := sp_sound (sps_nil) rfl os128_0 (List.all_eq_true.mp oc128_0)
def sp130_0 : Spec := (130, [(2, 65, 0), (0, 0, 7), (0, 0, 7), (0, 0, 9000)], [((-1, 19), [])], [], 10)
def cu130_0 : List Cut := [(4, [0, 1, 2, 3, 4, 5], [(2, 65, 0), (0, 0, 7), (0, 0, 7), (0, 0, 9000), (0, -1, 19), (0, 0, 20)], [], [(0, 0, 0), (-1, 5, 20)], [])]
theorem os130_0 : okStart H0 [] inlF [] [] cu130_0 4000 sp130_0 = true := by decide +kernel
theorem oc130_0 : cu130_0.all (okCut H0 [] inlF [] cu130_0 4000 sp130_0) = true := by decide +kernel
theorem ok130_0 (X : Xs) : SpecOK X sp130_0 := sp_sound (sps_nil) rfl os130_0 (List.all_eq_true.mp oc130_0)
def sp131_0 : Spec := (131, [(2, 65, 0), (0, -2147483648, 2147483647), (0, -2147483648, 2147483647)], [((-100004, 20), [])], [(65, 12), (74, 0)], 20)
def cu131_0 : List Cut := []
theorem os131_0 : okStart H0 [sp130_0] inlF [] [] cu131_0 4000 sp131_0 = true := by decide +kernel
theorem oc131_0 : cu131_0.all (okCut H0 [sp130_0] inlF [] cu131_0 4000 sp131_0) = true := by decide +kernel
theorem ok131_0 (X : Xs) : SpecOK X sp131_0 := sp_sound (sps_cons (ok130_0 X) sps_nil) rfl os131_0 (List.all_eq_true.mp oc131_0)
def sp132_0 : Spec := (132, [(2, 65, 0), (0, -2147483648, 2147483647), (0, -2147483648, 2147483647)], [((-100003, 1), [])], [(74, 0)], 20)
def cu132_0 : List Cut := []
theorem os132_0 : okStart H0 [sp130_0] inlF [] [] cu132_0 4000 sp132_0 = true := by decide +kernel
theorem oc132_0 : cu132_0.all (okCut H0 [sp130_0] inlF [] cu132_0 4000 sp132_0) = true := by decide +kernel
theorem ok132_0 (X : Xs) : SpecOK X sp132_0 := sp_sound (sps_cons (ok130_0 X) sps_nil) rfl os132_0 (List.all_eq_true.mp oc132_0)
def sp133_0 : Spec := (133, [(2, 65, 0), (0, -2147483648, 2147483647)], [((-100003, 9000), [])], [(65, 1)], 10)
def cu133_0 : List Cut := []
theorem os133_0 : okStart H0 [] inlF [] [] cu133_0 4000 sp133_0 = true := by decide +kernel
theorem oc133_0 : cu133_0.all (okCut H0 [] inlF [] cu133_0 4000 sp133_0) = true := by decide +kernel
theorem ok133_0 (X : Xs) : SpecOK X sp133_0 := sp_sound (sps_nil) rfl os133_0 (List.all_eq_true.mp oc133_0)
def sp134_0 : Spec := (134, [(2, 65, 0), (0, -2147483648, 2147483647), (0, -2147483648, 2147483647), (0, -2147483648, 2147483647)], [((-2147483648, 2147483647), [])], [], 20)
def cu134_0 : List Cut := []
theorem os134_0 : okStart H0 [sp126_0] inlF [] [] cu134_0 4000 sp134_0 = true := by decide +kernel
theorem oc134_0 : cu134_0.all (okCut H0 [sp126_0] inlF [] cu134_0 4000 sp134_0) = true := by decide +kernel
theorem ok134_0 (X : Xs) : SpecOK X sp134_0 := sp_sound (sps_cons (ok126_0 X) sps_nil) rfl os134_0 (List.all_eq_true.mp oc134_0)
def sp135_0 : Spec := (135, [(2, 65, 0), (0, 0, 29), (2, 92, 0)], [((0, 0), [])], [(92, 0)], 10)
def cu135_0 : List Cut := [(2, [0, 1, 2, 3], [(2, 65, 0), (0, 0, 29), (2, 92, 0), (0, 0, 30)], [], [(0, 0, 1), (-1, 3, 30)], []),
  (18, [0, 2, 3], [(2, 65, 0), (2, 92, 0), (0, -1, 29)], [], [(0, 0, 0), (1, 2, 1)], [])]
theorem os135_0 : okStart H0 [] inlF [] [] cu135_0 4000 sp135_0 = true := by decide +kernel
theorem oc135_0 : cu135_0.all (okCut H0 [] inlF [] cu135_0 4000 sp135_0) = true := by decide +kernel
theorem ok135_0 (X : Xs) : SpecOK X sp135_0 := sp_sound (sps_nil) rfl os135_0 (List.all_eq_true.mp oc135_0)
def sp135_1 : Spec := (135, [(2, 65, 0), (0, 0, 29), (2, 93, 0)], [((0, 0), [])], [(93, 0)], 10)
def cu135_1 : List Cut := [(2, [0, 1, 2, 3], [(2, 65, 0), (0, 0, 29), (2, 93, 0), (0, 0, 30)], [], [(0, 0, 1), (-1, 3, 30)], []),
  (18, [0, 2, 3], [(2, 65, 0), (2, 93, 0), (0, -1, 29)], [], [(0, 0, 0), (1, 2, 1)], [])]
theorem os135_1 : okStart H0 [] inlF [] [] cu135_1 4000 sp135_1 = true := by decide +kernel
theorem oc135_1 : cu135_1.all (okCut H0 [] inlF [] cu135_1 4000 sp135_1) = true := by decide +kernel
theorem ok135_1 (X : Xs) : SpecOK X sp135_1 := sp_sound (sps_nil) rfl os135_1 (List.all_eq_true.mp oc135_1)
def sp136_0 : Spec := (136, [(2, 65, 0), (0, 0, 29), (0, 0, 29)], [((0, 0), [])], [(65, 41), (65, 42), (65, 43), (92, 0), (93, 0)], 20)
def cu136_0 : List Cut := [(20, [0, 1, 2, 3, 4], [(2, 65, 0), (0, 0, 29), (0, 0, 29), (0, -2147483648, 2147483647), (0, 0, 30)], [], [(0, 0, 0), (-1, 4, 30)], [])]
theorem os136_0 : okStart H0 [sp135_0, sp135_1] inlF [] [] cu136_0 4000 sp136_0 = true := by decide +kernel
theorem oc136_0 : cu136_0.all (okCut H0 [sp135_0, sp135_1] inlF [] cu136_0 4000 sp136_0) = true := by decide +kernel
theorem ok136_0 (X : Xs) : SpecOK X sp136_0 := sp_sound (sps_cons (ok135_0 X) (sps_cons (ok135_1 X) sps_nil)) rfl os136_0 (List.all_eq_true.mp oc136_0)
def sp137_0 : Spec := (137, [(2, 65, 0), (0, -2147483648, 2147483647), (0, -2147483648, 2147483647), (0, -2147483648, 2147483647)], [((-2147483648, 2147483647), [])], [(65, 41), (65, 42), (65, 43), (92, 0), (93, 0)], 30)
def cu137_0 : List Cut := []
theorem os137_0 : okStart H0 [sp136_0] inlF [] [] cu137_0 4000 sp137_0 = true := by decide +kernel
theorem oc137_0 : cu137_0.all (okCut H0 [sp136_0] inlF [] cu137_0 4000 sp137_0) = true := by decide +kernel
theorem ok137_0 (X : Xs) : SpecOK X sp137_0 := sp_sound (sps_cons (ok136_0 X) sps_nil) rfl os137_0 (List.all_eq_true.mp oc137_0)
def sp138_0 : Spec := (138, [(2, 65, 0), (0, -2147483648, 2147483647), (1, -9223372036854775808, 9223372036854775807)], [((-100004, 240), [])], [(65, 15), (75, 0)], 10)
def cu138_0 : List Cut := [(20, [0, 2, 4], [(2, 65, 0), (1, -9223372036854775808, 9223372036854775807), (0, -1, 7)], [(65, 14, 0, 240)], [(0, 0, 0), (1, 2, 1)], [(0, 3, 2, 0, 239)])]
theorem os138_0 : okStart H0 [] inlF [] [] cu138_0 4000 sp138_0 = true := by decide +kernel
theorem oc138_0 : cu138_0.all (okCut H0 [] inlF [] cu138_0 4000 sp138_0) = true := by decide +kernel
theorem ok138_0 (X : Xs) : SpecOK X sp138_0 := sp_sound (sps_nil) rfl os138_0 (List.all_eq_true.mp oc138_0)
def sp143_0 : Spec := (143, [(2, 65, 0)], [((-1, -1), []), ((0, 255), [(65, 43, 0, 239)])], [(65, 44)], 10)
def cu143_0 : List Cut := [(0, [0], [(2, 65, 0)], [(65, 43, 1, 240)], [(0, 0, 0), (-1, 1, 240)], [])]
theorem os143_0 : okStart H0 [] inlF [] [] cu143_0 4000 sp143_0 = true := by decide +kernel
theorem oc143_0 : cu143_0.all (okCut H0 [] inlF [] cu143_0 4000 sp143_0) = true := by decide +kernel
theorem ok143_0 (X : Xs) : SpecOK X sp143_0 := sp_sound (sps_nil) rfl os143_0 (List.all_eq_true.mp oc143_0)
def sp145_0 : Spec := (145, [(2, 65, 0)], [((0, 0), [])], [(65, 44), (65, 45), (65, 46)], 20)
def cu145_0 : List Cut := [(10, [0], [(2, 65, 0)], [(65, 45, 0, 240)], [(0, 0, 0), (-1, 1, 240)], [])]
theorem os145_0 : okStart H0 [sp143_0] inlF [] [] cu145_0 4000 sp145_0 = true := by decide +kernel
theorem oc145_0 : cu145_0.all (okCut H0 [sp143_0] inlF [] cu145_0 4000 sp145_0) = true := by decide +kernel
theorem ok145_0 (X : Xs) : SpecOK X sp145_0 := sp_sound (sps_cons (ok143_0 X) sps_nil) rfl os145_0 (List.all_eq_true.mp oc145_0)
def sp146_0 : Spec := (146, [(0, 80, 119), (0, 80, 119), (0, 101, 119), (0, 0, 119), (0, 0, 119)], [((-8816999, 12693263), [])], [], 10)
def cu146_0 : List Cut := []
theorem os146_0 : okStart H0 [] inlF [] [] cu146_0 4000 sp146_0 = true := by decide +kernel
theorem oc146_0 : cu146_0.all (okCut H0 [] inlF [] cu146_0 4000 sp146_0) = true := by decide +kernel
theorem ok146_0 (X : Xs) : SpecOK X sp146_0 := sp_sound (sps_nil) rfl os146_0 (List.all_eq_true.mp oc146_0)
def sp148_0 : Spec := (148, [(2, 65, 0), (0, 9999, 9999)], [((1, 2), []), ((0, 0), [(65, 47, 0, 9999)])], [(65, 16), (65, 44), (65, 47), (65, 48)], 20)
def cu148_0 : List Cut := [(22, [0, 1], [(2, 65, 0), (0, 9999, 9999)], [(65, 43, 0, 239), (65, 46, 0, 239), (65, 47, 0, 0)], [(0, 0, 0), (-1, 2, 240)], [(1, 2, 3, 0, 0)]),
  (22, [0, 1], [(2, 65, 0), (0, 9999, 9999)], [(65, 43, 1, 240), (65, 46, 0, 239), (65, 47, 0, 9)], [(0, 0, 0), (-1, 2, 240)], [(1, 2, 3, 1, 1)]),
  (22, [0, 1], [(2, 65, 0), (0, 9999, 9999)], [(65, 43, 2, 240), (65, 46, 0, 238), (65, 47, 0, 99)], [(0, 0, 0), (-1, 2, 240)], [(1, 2, 3, 2, 2)]),
  (22, [0, 1], [(2, 65, 0), (0, 9999, 9999)], [(65, 43, 3, 240), (65, 46, 0, 237), (65, 47, 0, 999)], [(0, 0, 0), (-1, 2, 240)], [(1, 2, 3, 3, 3)]),
  (22, [0, 1], [(2, 65, 0), (0, 9999, 9999)], [(65, 43, 4, 240), (65, 46, 0, 236), (65, 47, 0, 9999)], [(0, 0, 0), (-1, 2, 240)], [(1, 2, 3, 4, 240)])]
theorem os148_0 : okStart H0 [sp143_0] inlF [] [] cu148_0 4000 sp148_0 = true := by decide +kernel
theorem oc148_0 : cu148_0.all (okCut H0 [sp143_0] inlF [] cu148_0 4000 sp148_0) = true := by decide +kernel
theorem ok148_0 (X : Xs) : SpecOK X sp148_0 := sp_sound (sps_cons (ok143_0 X) sps_nil) rfl os148_0 (List.all_eq_true.mp oc148_0)
def sp147_0 : Spec := (147, [(2, 65, 0)], [((-1, 10), [])], [], 20)
def cu147_0 : List Cut := []
theorem os147_0 : okStart H0 [sp146_0] inlF [] [] cu147_0 4000 sp147_0 = true := by decide +kernel
theorem oc147_0 : cu147_0.all (okCut H0 [sp146_0] inlF [] cu147_0 4000 sp147_0) = true := by decide +kernel
theorem ok147_0 (X : Xs) : SpecOK X sp147_0 := sp_sound (sps_cons (ok146_0 X) sps_nil) rfl os147_0 (List.all_eq_true.mp oc147_0)
def sp139_0 : Spec := (139, [(0, 0, 10)], [((0, 1), [])], [], 10)
def cu139_0 : List Cut := []
theorem os139_0 : okStart H0 [] inlF [] [] cu139_0 4000 sp139_0 = true := by decide +kernel
theorem oc139_0 : cu139_0.all (okCut H0 [] inlF [] cu139_0 4000 sp139_0) = true := by decide +kernel
theorem ok139_0 (X : Xs) : SpecOK X sp139_0 := sp_sound (sps_nil) rfl os139_0 (List.all_eq_true.mp oc139_0)
def sp148_1 : Spec := (148, [(2, 65, 0), (0, 99, 99)], [((1, 2), []), ((0, 0), [(65, 47, 0, 99)])], [(65, 16), (65, 44), (65, 47), (65, 48)], 20)
def cu148_1 : List Cut := [(22, [0, 1], [(2, 65, 0), (0, 99, 99)], [(65, 43, 0, 239), (65, 46, 0, 239), (65, 47, 0, 0)], [(0, 0, 0), (-1, 2, 240)], [(1, 2, 3, 0, 0)]),
  (22, [0, 1], [(2, 65, 0), (0, 99, 99)], [(65, 43, 1, 240), (65, 46, 0, 239), (65, 47, 0, 9)], [(0, 0, 0), (-1, 2, 240)], [(1, 2, 3, 1, 1)]),
  (22, [0, 1], [(2, 65, 0), (0, 99, 99)], [(65, 43, 2, 240), (65, 46, 0, 238), (65, 47, 0, 99)], [(0, 0, 0), (-1, 2, 240)], [(1, 2, 3, 2, 2)]),
  (22, [0, 1], [(2, 65, 0), (0, 99, 99)], [(65, 43, 3, 240), (65, 46, 0, 237), (65, 47, 0, 999)], [(0, 0, 0), (-1, 2, 240)], [(1, 2, 3, 3, 3)]),
  (22, [0, 1], [(2, 65, 0), (0, 99, 99)], [(65, 43, 4, 240), (65, 46, 0, 236), (65, 47, 0, 9999)], [(0, 0, 0), (-1, 2, 240)], [(1, 2, 3, 4, 240)])]
theorem os148_1 : okStart H0 [sp143_0] inlF [] [] cu148_1 4000 sp148_1 = true := by decide +kernel
theorem oc148_1 : cu148_1.all (okCut H0 [sp143_0] inlF [] cu148_1 4000 sp148_1) = true := by decide +kernel
theorem ok148_1 (X : Xs) : SpecOK X sp148_1 := sp_sound (sps_cons (ok143_0 X) sps_nil) rfl os148_1 (List.all_eq_true.mp oc148_1)
def sp140_0 : Spec := (140, [(0, 0, 10), (0, 0, 3)], [((0, 19), [])], [], 10)
def cu140_0 : List Cut := []
theorem os140_0 : okStart H0 [] inlF [] [] cu140_0 4000 sp140_0 = true := by decide +kernel
theorem oc140_0 : cu140_0.all (okCut H0 [] inlF [] cu140_0 4000 sp140_0) = true := by decide +kernel
theorem ok140_0 (X : Xs) : SpecOK X sp140_0 := sp_sound (sps_nil) rfl os140_0 (List.all_eq_true.mp oc140_0)
def sp148_2 : Spec := (148, [(2, 65, 0), (0, 1, 1)], [((1, 2), []), ((0, 0), [(65, 47, 0, 1)])], [(65, 16), (65, 44), (65, 47), (65, 48)], 20)
def cu148_2 : List Cut := [(22, [0, 1], [(2, 65, 0), (0, 1, 1)], [(65, 43, 0, 239), (65, 46, 0, 239), (65, 47, 0, 0)], [(0, 0, 0), (-1, 2, 240)], [(1, 2, 3, 0, 0)]),
  (22, [0, 1], [(2, 65, 0), (0, 1, 1)], [(65, 43, 1, 240), (65, 46, 0, 239), (65, 47, 0, 9)], [(0, 0, 0), (-1, 2, 240)], [(1, 2, 3, 1, 1)]),
  (22, [0, 1], [(2, 65, 0), (0, 1, 1)], [(65, 43, 2, 240), (65, 46, 0, 238), (65, 47, 0, 99)], [(0, 0, 0), (-1, 2, 240)], [(1, 2, 3, 2, 2)]),
  (22, [0, 1], [(2, 65, 0), (0, 1, 1)], [(65, 43, 3, 240), (65, 46, 0, 237), (65, 47, 0, 999)], [(0, 0, 0), (-1, 2, 240)], [(1, 2, 3, 3, 3)]),
  (22, [0, 1], [(2, 65, 0), (0, 1, 1)], [(65, 43, 4, 240), (65, 46, 0, 236), (65, 47, 0, 9999)], [(0, 0, 0), (-1, 2, 240)], [(1, 2, 3, 4, 240)])]
theorem os148_2 : okStart H0 [sp143_0] inlF [] [] cu148_2 4000 sp148_2 = true := by decide +kernel
theorem oc148_2 : cu148_2.all (okCut H0 [sp143_0] inlF [] cu148_2 4000 sp148_2) = true := by decide +kernel
theorem ok148_2 (X : Xs) : SpecOK X sp148_2 := sp_sound (sps_cons (ok143_0 X) sps_nil) rfl os148_2 (List.all_eq_true.mp oc148_2)
def sp148_3 : Spec := (148, [(2, 65, 0), (0, 3, 3)], [((1, 2), []), ((0, 0), [(65, 47, 0, 3)])], [(65, 16), (65, 44), (65, 47), (65, 48)], 20)
def cu148_3 : List Cut := [(22, [0, 1], [(2, 65, 0), (0, 3, 3)], [(65, 43, 0, 239), (65, 46, 0, 239), (65, 47, 0, 0)], [(0, 0, 0), (-1, 2, 240)], [(1, 2, 3, 0, 0)]),
  (22, [0, 1], [(2, 65, 0), (0, 3, 3)], [(65, 43, 1, 240), (65, 46, 0, 239), (65, 47, 0, 9)], [(0, 0, 0), (-1, 2, 240)], [(1, 2, 3, 1, 1)]),
  (22, [0, 1], [(2, 65, 0), (0, 3, 3)], [(65, 43, 2, 240), (65, 46, 0, 238), (65, 47, 0, 99)], [(0, 0, 0), (-1, 2, 240)], [(1, 2, 3, 2, 2)]),
  (22, [0, 1], [(2, 65, 0), (0, 3, 3)], [(65, 43, 3, 240), (65, 46, 0, 237), (65, 47, 0, 999)], [(0, 0, 0), (-1, 2, 240)], [(1, 2, 3, 3, 3)]),
  (22, [0, 1], [(2, 65, 0), (0, 3, 3)], [(65, 43, 4, 240), (65, 46, 0, 236), (65, 47, 0, 9999)], [(0, 0, 0), (-1, 2, 240)], [(1, 2, 3, 4, 240)])]
theorem os148_3 : okStart H0 [sp143_0] inlF [] [] cu148_3 4000 sp148_3 = true := by decide +kernel
theorem oc148_3 : cu148_3.all (okCut H0 [sp143_0] inlF [] cu148_3 4000 sp148_3) = true := by decide +kernel
theorem ok148_3 (X : Xs) : SpecOK X sp148_3 := sp_sound (sps_cons (ok143_0 X) sps_nil) rfl os148_3 (List.all_eq_true.mp oc148_3)
def sp149_0 : Spec := (149, [(2, 65, 0), (0, 0, 7)], [((0, 2), [])], [(65, 16), (65, 44), (65, 45), (65, 46), (65, 47), (65, 48), (79, 0)], 30)
def cu149_0 : List Cut := []
theorem os149_0 : okStart H0 [sp139_0, sp140_0, sp145_0, sp147_0, sp148_0, sp148_1, sp148_2, sp148_3] inlF [] [] cu149_0 4000 sp149_0 = true := by decide +kernel
theorem oc149_0 : cu149_0.all (okCut H0 [sp139_0, sp140_0, sp145_0, sp147_0, sp148_0, sp148_1, sp148_2, sp148_3] inlF [] cu149_0 4000 sp149_0) = true := by decide +kernel
theorem ok149_0 (X : Xs) : SpecOK X sp149_0 := sp_sound (sps_cons (ok139_0 X) (sps_cons (ok140_0 X) (sps_cons (ok145_0 X) (sps_cons (ok147_0 X) (sps_cons (ok148_0 X) (sps_cons (ok148_1 X) (sps_cons (ok148_2 X) (sps_cons (ok148_3 X) sps_nil)))))))) rfl os149_0 (List.all_eq_true.mp oc149_0)
def sp150_0 : Spec := (150, [(2, 65, 0), (0, 0, 0)], [((0, 4), [])], [(65, 16), (65, 44), (65, 45), (65, 46), (65, 47), (65, 48), (78, 0), (79, 0)], 60)
def sp150_1 : Spec := (150, [(2, 65, 0), (0, 1, 1)], [((0, 4), [])], [(65, 16), (65, 44), (65, 45), (65, 46), (65, 47), (65, 48), (78, 0), (79, 0)], 60)
def sp150_2 : Spec := (150, [(2, 65, 0), (0, 2, 2)], [((0, 4), [])], [(65, 16), (65, 44), (65, 45), (65, 46), (65, 47), (65, 48), (78, 0), (79, 0)], 60)
def sp150_3 : Spec := (150, [(2, 65, 0), (0, 3, 3)], [((0, 4), [])], [(65, 16), (65, 44), (65, 45), (65, 46), (65, 47), (65, 48), (78, 0), (79, 0)], 60)
def sp150_4 : Spec := (150, [(2, 65, 0), (0, 4, 4)], [((0, 4), [])], [(65, 16), (65, 44), (65, 45), (65, 46), (65, 47), (65, 48), (78, 0), (79, 0)], 60)
def sp150_5 : Spec := (150, [(2, 65, 0), (0, 5, 5)], [((0, 4), [])], [(65, 16), (65, 44), (65, 45), (65, 46), (65, 47), (65, 48), (78, 0), (79, 0)], 60)
def sp150_6 : Spec := (150, [(2, 65, 0), (0, 6, 6)], [((0, 4), [])], [(65, 16), (65, 44), (65, 45), (65, 46), (65, 47), (65, 48), (78, 0), (79, 0)], 60)
def sp150_7 : Spec := (150, [(2, 65, 0), (0, 7, 7)], [((0, 4), [])], [(65, 16), (65, 44), (65, 45), (65, 46), (65, 47), (65, 48), (78, 0), (79, 0)], 60)
def sp150_8 : Spec := (150, [(2, 65, 0), (0, 8, 8)], [((1, 4), [])], [(65, 16), (65, 44), (65, 45), (65, 46)], 30)
def cu150_8 : List Cut := []
theorem os150_8 : okStart H0 [sp145_0, sp146_0] inlF [] [] cu150_8 4000 sp150_8 = true := by decide +kernel
theorem oc150_8 : cu150_8.all (okCut H0 [sp145_0, sp146_0] inlF [] cu150_8 4000 sp150_8) = true := by decide +kernel
theorem ok150_8 (X : Xs) : SpecOK X sp150_8 := sp_sound (sps_cons (ok145_0 X) (sps_cons (ok146_0 X) sps_nil)) rfl os150_8 (List.all_eq_true.mp oc150_8)
def sp152_0 : Spec := (152, [(2, 65, 0)], [((-2147483648, 2147483647), [])], [], 10)
def cu152_0 : List Cut := []
theorem os152_0 : okStart H0 [] inlF [] [] cu152_0 4000 sp152_0 = true := by decide +kernel
theorem oc152_0 : cu152_0.all (okCut H0 [] inlF [] cu152_0 4000 sp152_0) = true := by decide +kernel
theorem ok152_0 (X : Xs) : SpecOK X sp152_0 := sp_sound (sps_nil) rfl os152_0 (List.all_eq_true.mp oc152_0)
def sp141_0 : Spec := (141, [(0, 0, 10)], [((0, 12), [])], [], 10)
def cu141_0 : List Cut := []
theorem os141_0 : okStart H0 [] inlF [] [] cu141_0 4000 sp141_0 = true := by decide +kernel
theorem oc141_0 : cu141_0.all (okCut H0 [] inlF [] cu141_0 4000 sp141_0) = true := by decide +kernel
theorem ok141_0 (X : Xs) : SpecOK X sp141_0 := sp_sound (sps_nil) rfl os141_0 (List.all_eq_true.mp oc141_0)
def sp142_0 : Spec := (142, [(2, 65, 0), (0, 0, 10), (0, 0, 3), (0, -2147483648, 2147483647)], [((0, 2147483647), [])], [], 20)
def cu142_0 : List Cut := [(5, [0, 1, 2, 3, 4, 5], [(2, 65, 0), (0, 0, 10), (0, 0, 3), (0, -2147483648, 2147483647), (0, 0, 2147483647), (0, 0, 8)], [], [(0, 0, 0), (-1, 5, 8)], [])]
theorem os142_0 : okStart H0 [sp140_0, sp141_0] inlF [] [] cu142_0 4000 sp142_0 = true := by decide +kernel
theorem oc142_0 : cu142_0.all (okCut H0 [sp140_0, sp141_0] inlF [] cu142_0 4000 sp142_0) = true := by decide +kernel
theorem ok142_0 (X : Xs) : SpecOK X sp142_0 := sp_sound (sps_cons (ok140_0 X) (sps_cons (ok141_0 X) sps_nil)) rfl os142_0 (List.all_eq_true.mp oc142_0)
def sp153_0 : Spec := (153, [(2, 65, 0), (0, -2147483648, 2147483647), (0, -2147483648, 2147483647), (0, -2147483648, 2147483647)], [((-100002, 2147483647), [])], [], 30)
def cu153_0 : List Cut := []
theorem os153_0 : okStart H0 [sp139_0, sp142_0] inlF [] [] cu153_0 4000 sp153_0 = true := by decide +kernel
theorem oc153_0 : cu153_0.all (okCut H0 [sp139_0, sp142_0] inlF [] cu153_0 4000 sp153_0) = true := by decide +kernel
theorem ok153_0 (X : Xs) : SpecOK X sp153_0 := sp_sound (sps_cons (ok139_0 X) (sps_cons (ok142_0 X) sps_nil)) rfl os153_0 (List.all_eq_true.mp oc153_0)
def sp154_0 : Spec := (154, [(2, 65, 0), (0, -2147483648, 2147483647), (0, -2147483648, 2147483647), (0, -2147483648, 2147483647), (0, -2147483648, 2147483647)], [((-100004, 19), [])], [(65, 22), (80, 0), (81, 0), (82, 0), (83, 0), (84, 0), (85, 0)], 10)
def cu154_0 : List Cut := []
theorem os154_0 : okStart H0 [] inlF [] [] cu154_0 4000 sp154_0 = true := by decide +kernel
theorem oc154_0 : cu154_0.all (okCut H0 [] inlF [] cu154_0 4000 sp154_0) = true := by decide +kernel
theorem ok154_0 (X : Xs) : SpecOK X sp154_0 := sp_sound (sps_nil) rfl os154_0 (List.all_eq_true.mp oc154_0)
def sp157_0 : Spec := (157, [(2, 65, 0), (0, 0, 29), (0, -1, 19), (0, 0, 29), (0, -1, 29), (0, -2147483648, 2147483647), (0, 0, 9000), (0, 0, 9000)], [((0, 6), [])], [(65, 41), (65, 42), (65, 43), (92, 0), (93, 0)], 30)
def cu157_0 : List Cut := [(95, [0, 1, 2, 5, 6, 7, 9, 10], [(2, 65, 0), (0, 0, 29), (0, -1, 19), (0, -2147483648, 2147483647), (0, 0, 9000), (0, 0, 9000), (0, 0, 2147483647), (0, 0, 120)], [], [(0, 0, 1), (-1, 7, 120)], []),
  (157, [0, 1, 6, 10, 11], [(2, 65, 0), (0, 0, 29), (0, 0, 9000), (0, 0, 2147483647), (0, 0, 20)], [], [(0, 0, 0), (-1, 4, 20)], [])]
theorem os157_0 : okStart H0 [sp130_0, sp136_0, sp142_0] inlF [] [] cu157_0 4000 sp157_0 = true := by decide +kernel
theorem oc157_0 : cu157_0.all (okCut H0 [sp130_0, sp136_0, sp142_0] inlF [] cu157_0 4000 sp157_0) = true := by decide +kernel
theorem ok157_0 (X : Xs) : SpecOK X sp157_0 := sp_sound (sps_cons (ok130_0 X) (sps_cons (ok136_0 X) (sps_cons (ok142_0 X) sps_nil))) rfl os157_0 (List.all_eq_true.mp oc157_0)
def sp158_0 : Spec := (158, [(2, 65, 0), (0, 0, 29), (0, 0, 19), (0, 0, 9000), (0, 0, 9000)], [((0, 6), [])], [(65, 41), (65, 42), (65, 43), (92, 0), (93, 0)], 40)
def cu158_0 : List Cut := []
theorem os158_0 : okStart H0 [sp157_0] inlF [] [] cu158_0 4000 sp158_0 = true := by decide +kernel
theorem oc158_0 : cu158_0.all (okCut H0 [sp157_0] inlF [] cu158_0 4000 sp158_0) = true := by decide +kernel
theorem ok158_0 (X : Xs) : SpecOK X sp158_0 := sp_sound (sps_cons (ok157_0 X) sps_nil) rfl os158_0 (List.all_eq_true.mp oc158_0)
def sp155_0 : Spec := (155, [(2, 65, 0), (0, 0, 19), (0, 0, 10)], [((0, 2147483647), [])], [], 30)
def cu155_0 : List Cut := []
theorem os155_0 : okStart H0 [sp139_0, sp142_0] inlF [] [] cu155_0 4000 sp155_0 = true := by decide +kernel
theorem oc155_0 : cu155_0.all (okCut H0 [sp139_0, sp142_0] inlF [] cu155_0 4000 sp155_0) = true := by decide +kernel
theorem ok155_0 (X : Xs) : SpecOK X sp155_0 := sp_sound (sps_cons (ok139_0 X) (sps_cons (ok142_0 X) sps_nil)) rfl os155_0 (List.all_eq_true.mp oc155_0)
def sp160_0 : Spec := (160, [(2, 65, 0), (0, -2147483648, 9000)], [((0, 0), [])], [(65, 41), (65, 42), (65, 43), (92, 0), (93, 0), (94, 0), (95, 0), (96, 0), (97, 0)], 50)
def cu160_0 : List Cut := [(2, [0, 1, 2], [(2, 65, 0), (0, -2147483648, 9000), (0, 0, 20)], [], [(0, 0, 1), (-1, 2, 20)], []),
  (20, [0, 1, 2], [(2, 65, 0), (0, -2147483648, 9000), (0, 0, 120)], [], [(0, 0, 0), (-1, 2, 120)], [])]
theorem os160_0 : okStart H0 [sp142_0, sp155_0, sp158_0] inlF [] [] cu160_0 4000 sp160_0 = true := by decide +kernel
theorem oc160_0 : cu160_0.all (okCut H0 [sp142_0, sp155_0, sp158_0] inlF [] cu160_0 4000 sp160_0) = true := by decide +kernel
theorem ok160_0 (X : Xs) : SpecOK X sp160_0 := sp_sound (sps_cons (ok142_0 X) (sps_cons (ok155_0 X) (sps_cons (ok158_0 X) sps_nil))) rfl os160_0 (List.all_eq_true.mp oc160_0)
def sp162_0 : Spec := (162, [(2, 65, 0), (0, -2147483648, 2147483647), (0, -2147483648, 2147483647), (0, -2147483648, 2147483647), (0, -2147483648, 2147483647)], [((-100002, 6), [])], [(65, 41), (65, 42), (65, 43), (92, 0), (93, 0), (94, 0), (95, 0), (96, 0), (97, 0)], 60)
def cu162_0 : List Cut := []
theorem os162_0 : okStart H0 [sp158_0, sp160_0] inlF [] [] cu162_0 4000 sp162_0 = true := by decide +kernel
theorem oc162_0 : cu162_0.all (okCut H0 [sp158_0, sp160_0] inlF [] cu162_0 4000 sp162_0) = true := by decide +kernel
theorem ok162_0 (X : Xs) : SpecOK X sp162_0 := sp_sound (sps_cons (ok158_0 X) (sps_cons (ok160_0 X) sps_nil)) rfl os162_0 (List.all_eq_true.mp oc162_0)
def sp163_0 : Spec := (163, [(2, 65, 0), (0, 0, 29), (0, 0, 19)], [((0, 1), [])], [], 10)
def cu163_0 : List Cut := [(4, [0, 1, 2, 3, 4], [(2, 65, 0), (0, 0, 29), (0, 0, 19), (0, 0, 1), (0, 0, 120)], [], [(0, 0, 0), (-1, 4, 120)], [])]
theorem os163_0 : okStart H0 [] inlF [] [] cu163_0 4000 sp163_0 = true := by decide +kernel
theorem oc163_0 : cu163_0.all (okCut H0 [] inlF [] cu163_0 4000 sp163_0) = true := by decide +kernel
theorem ok163_0 (X : Xs) : SpecOK X sp163_0 := sp_sound (sps_nil) rfl os163_0 (List.all_eq_true.mp oc163_0)
def sp164_0 : Spec := (164, [(2, 65, 0), (0, 0, 29)], [((-2147483648, 2147483647), [])], [], 10)
def cu164_0 : List Cut := [(4, [0, 1, 2, 3], [(2, 65, 0), (0, 0, 29), (0, -2147483648, 2147483647), (0, 0, 120)], [], [(0, 0, 0), (-1, 3, 120)], [])]
theorem os164_0 : okStart H0 [] inlF [] [] cu164_0 4000 sp164_0 = true := by decide +kernel
theorem oc164_0 : cu164_0.all (okCut H0 [] inlF [] cu164_0 4000 sp164_0) = true := by decide +kernel
theorem ok164_0 (X : Xs) : SpecOK X sp164_0 := sp_sound (sps_nil) rfl os164_0 (List.all_eq_true.mp oc164_0)
def sp161_0 : Spec := (161, [(2, 65, 0), (0, 0, 19)], [((0, 2147483647), [])], [], 40)
def cu161_0 : List Cut := []
theorem os161_0 : okStart H0 [sp155_0] inlF [] [] cu161_0 4000 sp161_0 = true := by decide +kernel
theorem oc161_0 : cu161_0.all (okCut H0 [sp155_0] inlF [] cu161_0 4000 sp161_0) = true := by decide +kernel
theorem ok161_0 (X : Xs) : SpecOK X sp161_0 := sp_sound (sps_cons (ok155_0 X) sps_nil) rfl os161_0 (List.all_eq_true.mp oc161_0)
def sp168_0 : Spec := (168, [(2, 65, 0), (0, -2147483648, 2147483647)], [((-2147483648, 2147483647), [])], [(65, 41), (65, 42), (65, 43), (85, 0), (92, 0), (93, 0), (94, 0), (95, 0), (96, 0), (97, 0)], 60)
def cu168_0 : List Cut := [(33, [0, 1, 2, 3], [(2, 65, 0), (0, 0, 19), (0, -2147483648, 2147483647), (0, 0, 120)], [], [(0, 0, 0), (-1, 3, 120)], [])]
theorem os168_0 : okStart H0 [sp160_0] inlF [] [] cu168_0 4000 sp168_0 = true := by decide +kernel
theorem oc168_0 : cu168_0.all (okCut H0 [sp160_0] inlF [] cu168_0 4000 sp168_0) = true := by decide +kernel
theorem ok168_0 (X : Xs) : SpecOK X sp168_0 := sp_sound (sps_cons (ok160_0 X) sps_nil) rfl os168_0 (List.all_eq_true.mp oc168_0)
def sp169_0 : Spec := (169, [(2, 65, 0), (0, -2147483648, 2147483647), (0, -2147483648, 2147483647)], [((-2147483648, 2147483647), [])], [(65, 41), (65, 42), (65, 43), (92, 0), (93, 0), (94, 0), (95, 0), (96, 0), (97, 0)], 60)
def cu169_0 : List Cut := [(16, [0, 2, 3, 4], [(2, 65, 0), (0, 0, 3), (0, -2147483648, 2147483647), (0, 0, 120)], [], [(0, 0, 0), (-1, 3, 120)], [])]
theorem os169_0 : okStart H0 [sp160_0] inlF [] [] cu169_0 4000 sp169_0 = true := by decide +kernel
theorem oc169_0 : cu169_0.all (okCut H0 [sp160_0] inlF [] cu169_0 4000 sp169_0) = true := by decide +kernel
theorem ok169_0 (X : Xs) : SpecOK X sp169_0 := sp_sound (sps_cons (ok160_0 X) sps_nil) rfl os169_0 (List.all_eq_true.mp oc169_0)
def sp170_0 : Spec := (170, [(2, 65, 0), (0, -2147483648, 2147483647), (0, -2147483648, 2147483647), (0, -2147483648, 2147483647)], [((-2147483648, 2147483647), [])], [(65, 41), (65, 42), (65, 43), (92, 0), (93, 0), (94, 0), (95, 0), (96, 0), (97, 0)], 60)
def cu170_0 : List Cut := []
theorem os170_0 : okStart H0 [sp155_0, sp160_0, sp161_0] inlF [] [] cu170_0 4000 sp170_0 = true := by decide +kernel
theorem oc170_0 : cu170_0.all (okCut H0 [sp155_0, sp160_0, sp161_0] inlF [] cu170_0 4000 sp170_0) = true := by decide +kernel
theorem ok170_0 (X : Xs) : SpecOK X sp170_0 := sp_sound (sps_cons (ok155_0 X) (sps_cons (ok160_0 X) (sps_cons (ok161_0 X) sps_nil))) rfl os170_0 (List.all_eq_true.mp oc170_0)
def sp171_0 : Spec := (171, [(2, 65, 0), (0, -2147483648, 2147483647), (0, -2147483648, 2147483647)], [((-2147483648, 2147483647), [])], [(65, 41), (65, 42), (65, 43), (92, 0), (93, 0), (94, 0), (95, 0), (96, 0), (97, 0), (98, 0)], 60)
def cu171_0 : List Cut := [(15, [0, 1, 2, 3], [(2, 65, 0), (0, 0, 9000), (0, 0, 9000), (0, 0, 20)], [], [(0, 0, 1), (-1, 3, 20)], []),
  (36, [0, 1, 2, 3, 4], [(2, 65, 0), (0, 0, 9000), (0, 0, 9000), (0, -2147483648, 2147483647), (0, 0, 20)], [], [(0, 0, 0), (-1, 4, 20)], [])]
theorem os171_0 : okStart H0 [sp160_0] inlF [] [] cu171_0 4000 sp171_0 = true := by decide +kernel
theorem oc171_0 : cu171_0.all (okCut H0 [sp160_0] inlF [] cu171_0 4000 sp171_0) = true := by decide +kernel
theorem ok171_0 (X : Xs) : SpecOK X sp171_0 := sp_sound (sps_cons (ok160_0 X) sps_nil) rfl os171_0 (List.all_eq_true.mp oc171_0)
def sp172_0 : Spec := (172, [(2, 65, 0), (0, 0, 29), (0, 0, 9000)], [((-2147483648, 2147483647), [])], [], 50)
def cu172_0 : List Cut := [(4, [0, 1, 2, 3, 4], [(2, 65, 0), (0, 0, 29), (0, 0, 9000), (0, -2147483648, 2147483647), (0, 0, 20)], [], [(0, 0, 1), (-1, 4, 20)], []),
  (40, [0, 1, 2, 3, 4], [(2, 65, 0), (0, 0, 29), (0, 0, 9000), (0, -2147483648, 2147483647), (0, 0, 120)], [], [(0, 0, 0), (-1, 4, 120)], [])]
theorem os172_0 : okStart H0 [sp155_0, sp161_0] inlF [] [] cu172_0 4000 sp172_0 = true := by decide +kernel
theorem oc172_0 : cu172_0.all (okCut H0 [sp155_0, sp161_0] inlF [] cu172_0 4000 sp172_0) = true := by decide +kernel
theorem ok172_0 (X : Xs) : SpecOK X sp172_0 := sp_sound (sps_cons (ok155_0 X) (sps_cons (ok161_0 X) sps_nil)) rfl os172_0 (List.all_eq_true.mp oc172_0)
def sp173_0 : Spec := (173, [(2, 65, 0), (0, 0, 29), (0, 0, 9000)], [((-2147483648, 2147483647), [])], [], 10)
def cu173_0 : List Cut := [(4, [0, 1, 2, 3, 4], [(2, 65, 0), (0, 0, 29), (0, 0, 9000), (0, -2147483648, 2147483647), (0, 0, 60)], [], [(0, 0, 0), (-1, 4, 60)], [])]
theorem os173_0 : okStart H0 [] inlF [] [] cu173_0 4000 sp173_0 = true := by decide +kernel
theorem oc173_0 : cu173_0.all (okCut H0 [] inlF [] cu173_0 4000 sp173_0) = true := by decide +kernel
theorem ok173_0 (X : Xs) : SpecOK X sp173_0 := sp_sound (sps_nil) rfl os173_0 (List.all_eq_true.mp oc173_0)
def sp174_0 : Spec := (174, [(2, 65, 0), (0, -2147483648, 2147483647), (0, -2147483648, 2147483647)], [((-2147483648, 2147483647), [])], [(65, 36), (65, 41), (65, 42), (65, 43), (91, 0), (92, 0), (93, 0), (94, 0), (95, 0), (96, 0), (97, 0)], 60)
def cu174_0 : List Cut := []
theorem os174_0 : okStart H0 [sp160_0, sp172_0, sp173_0] inlF [] [] cu174_0 4000 sp174_0 = true := by decide +kernel
theorem oc174_0 : cu174_0.all (okCut H0 [sp160_0, sp172_0, sp173_0] inlF [] cu174_0 4000 sp174_0) = true := by decide +kernel
theorem ok174_0 (X : Xs) : SpecOK X sp174_0 := sp_sound (sps_cons (ok160_0 X) (sps_cons (ok172_0 X) (sps_cons (ok173_0 X) sps_nil))) rfl os174_0 (List.all_eq_true.mp oc174_0)
def sp175_0 : Spec := (175, [(2, 65, 0), (0, -2147483648, 2147483647), (0, -2147483648, 2147483647), (0, -2147483648, 2147483647)], [((-2147483648, 2147483647), [])], [(65, 41), (65, 42), (65, 43), (92, 0), (93, 0), (94, 0), (95, 0), (96, 0), (97, 0)], 60)
def cu175_0 : List Cut := []
theorem os175_0 : okStart H0 [sp160_0, sp172_0, sp173_0] inlF [] [] cu175_0 4000 sp175_0 = true := by decide +kernel
theorem oc175_0 : cu175_0.all (okCut H0 [sp160_0, sp172_0, sp173_0] inlF [] cu175_0 4000 sp175_0) = true := by decide +kernel
theorem ok175_0 (X : Xs) : SpecOK X sp175_0 := sp_sound (sps_cons (ok160_0 X) (sps_cons (ok172_0 X) (sps_cons (ok173_0 X) sps_nil))) rfl os175_0 (List.all_eq_true.mp oc175_0)
def sp176_0 : Spec := (176, [(2, 65, 0), (0, -2147483648, 2147483647)], [((-2147483648, 2147483647), [])], [(65, 38)], 10)
def cu176_0 : List Cut := []
theorem os176_0 : okStart H0 [] inlF [] [] cu176_0 4000 sp176_0 = true := by decide +kernel
theorem oc176_0 : cu176_0.all (okCut H0 [] inlF [] cu176_0 4000 sp176_0) = true := by decide +kernel
theorem ok176_0 (X : Xs) : SpecOK X sp176_0 := sp_sound (sps_nil) rfl os176_0 (List.all_eq_true.mp oc176_0)
def sp177_0 : Spec := (177, [(0, -1, 2147483647)], [((-2147483648, 2147483647), [])], [], 10)
def cu177_0 : List Cut := [(4, [0, 1, 2], [(0, -1, 2147483647), (0, -2147483648, 2147483647), (0, 0, 31)], [], [(0, 0, 0), (-1, 2, 31)], [])]
theorem os177_0 : okStart H0 [] inlF [] [] cu177_0 4000 sp177_0 = true := by decide +kernel
theorem oc177_0 : cu177_0.all (okCut H0 [] inlF [] cu177_0 4000 sp177_0) = true := by decide +kernel
theorem ok177_0 (X : Xs) : SpecOK X sp177_0 := sp_sound (sps_nil) rfl os177_0 (List.all_eq_true.mp oc177_0)
def sp183_0 : Spec := (183, [(2, 65, 0), (0, -2147483648, 2147483647)], [((-100003, 0), [])], [(65, 41), (65, 42), (65, 43), (65, 54), (65, 63), (65, 64), (65, 65), (65, 66), (92, 0), (93, 0), (94, 0), (95, 0), (96, 0), (97, 0), (99, 0), (100, 0), (101, 0), (102, 0), (103, 0), (104, 0), (105, 0), (106, 0)], 90)
def sp186_0 : Spec := (186, [(2, 65, 0), (0, -2147483648, 2147483647)], [((-100003, 2147483647), [])], [(65, 41), (65, 42), (65, 43), (92, 0), (93, 0), (94, 0), (95, 0), (96, 0), (97, 0)], 60)
def cu186_0 : List Cut := [(23, [0, 1, 2, 3], [(2, 65, 0), (0, 0, 19), (0, -2147483648, 2147483647), (0, 0, 30)], [], [(0, 0, 0), (-1, 3, 30)], [])]
theorem os186_0 : okStart H0 [sp126_0, sp142_0, sp158_0, sp160_0, sp161_0, sp163_0] inlF [] [] cu186_0 4000 sp186_0 = true := by decide +kernel
theorem oc186_0 : cu186_0.all (okCut H0 [sp126_0, sp142_0, sp158_0, sp160_0, sp161_0, sp163_0] inlF [] cu186_0 4000 sp186_0) = true := by decide +kernel
theorem ok186_0 (X : Xs) : SpecOK X sp186_0 := sp_sound (sps_cons (ok126_0 X) (sps_cons (ok142_0 X) (sps_cons (ok158_0 X) (sps_cons (ok160_0 X) (sps_cons (ok161_0 X) (sps_cons (ok163_0 X) sps_nil)))))) rfl os186_0 (List.all_eq_true.mp oc186_0)
def sp187_0 : Spec := (187, [(2, 65, 0), (0, -1, 29), (0, 0, 29)], [((-2147483648, 2147483647), [])], [], 10)
def cu187_0 : List Cut := [(4, [0, 1, 2, 3, 4], [(2, 65, 0), (0, -1, 29), (0, 0, 29), (0, -2147483648, 2147483647), (0, 0, 120)], [], [(0, 0, 0), (-1, 4, 120)], [])]
theorem os187_0 : okStart H0 [] inlF [] [] cu187_0 4000 sp187_0 = true := by decide +kernel
theorem oc187_0 : cu187_0.all (okCut H0 [] inlF [] cu187_0 4000 sp187_0) = true := by decide +kernel
theorem ok187_0 (X : Xs) : SpecOK X sp187_0 := sp_sound (sps_nil) rfl os187_0 (List.all_eq_true.mp oc187_0)
def sp188_0 : Spec := (188, [(2, 65, 0), (0, -2147483648, 2147483647), (0, -2147483648, 2147483647), (0, -2147483648, 2147483647)], [((-2147483648, 2147483647), [])], [], 20)
def cu188_0 : List Cut := []
theorem os188_0 : okStart H0 [sp187_0] inlF [] [] cu188_0 4000 sp188_0 = true := by decide +kernel
theorem oc188_0 : cu188_0.all (okCut H0 [sp187_0] inlF [] cu188_0 4000 sp188_0) = true := by decide +kernel
theorem ok188_0 (X : Xs) : SpecOK X sp188_0 := sp_sound (sps_cons (ok187_0 X) sps_nil) rfl os188_0 (List.all_eq_true.mp oc188_0)
def sp189_0 : Spec := (189, [(2, 65, 0), (0, -2147483648, 2147483647), (0, -2147483648, 2147483647)], [((-2147483647, 99), [])], [(107, 0)], 20)
def cu189_0 : List Cut := [(8, [0, 1, 2, 3], [(2, 65, 0), (0, 0, 29), (0, -2147483648, 2147483647), (0, 0, 30)], [], [(0, 0, 6), (-1, 3, 30), (0, 0, 1000), (0, 0, 0), (0, 0, 1000), (0, 0, 0)], []),
  (26, [0, 1, 2, 3], [(2, 65, 0), (0, 0, 29), (0, -2147483648, 2147483647), (0, 0, 30)], [], [(0, 0, 5), (-1, 3, 30), (0, 0, 1000), (0, 0, 0), (0, 0, 1000), (0, 0, 0)], []),
  (32, [0, 1, 2, 3, 4], [(2, 65, 0), (0, 0, 29), (0, -2147483648, 2147483647), (0, 0, 29), (0, 0, 30)], [], [(0, 0, 5), (-1, 3, 30), (0, 0, 4), (-1, 4, 30), (0, 0, 1000), (0, 0, 0)], []),
  (38, [0, 1, 2, 3, 4, 5], [(2, 65, 0), (0, 0, 29), (0, -2147483648, 2147483647), (0, 0, 29), (0, 0, 29), (0, 0, 30)], [], [(0, 0, 5), (-1, 3, 30), (0, 0, 4), (-1, 4, 30), (0, 0, 3), (-1, 5, 30)], []),
  (92, [0, 1, 2, 3, 4], [(2, 65, 0), (0, 0, 29), (0, -2147483648, 2147483647), (0, -2147483648, 99), (0, 0, 30)], [], [(0, 0, 2), (-1, 4, 30), (0, 0, 1000), (0, 0, 0), (0, 0, 1000), (0, 0, 0)], []),
  (149, [0, 1, 2, 3, 4, 5], [(2, 65, 0), (0, 0, 29), (0, 0, 98), (0, 0, 98), (0, -1, 29), (0, 0, 100)], [], [(0, 0, 1), (-1, 5, 100), (0, 0, 1000), (0, 0, 0), (0, 0, 1000), (0, 0, 0)], []),
  (159, [0, 1, 2, 3, 4, 5, 6, 7], [(2, 65, 0), (0, 0, 29), (0, 1, 98), (0, 0, 98), (0, -1, 29), (0, 0, 99), (0, -1, 29), (0, -1, 29)], [], [(0, 0, 1), (-1, 5, 100), (0, 0, 0), (1, 7, 1), (0, 0, 1000), (0, 0, 0)], [])]
theorem os189_0 : okStart H0 [sp187_0] inlF [] [] cu189_0 4000 sp189_0 = true := by decide +kernel
theorem oc189_0 : cu189_0.all (okCut H0 [sp187_0] inlF [] cu189_0 4000 sp189_0) = true := by decide +kernel
theorem ok189_0 (X : Xs) : SpecOK X sp189_0 := sp_sound (sps_cons (ok187_0 X) sps_nil) rfl os189_0 (List.all_eq_true.mp oc189_0)
def sp190_0 : Spec := (190, [(2, 65, 0), (0, 0, 29), (0, 0, 9000)], [((-2147483648, 2147483647), [])], [(65, 41), (65, 42), (65, 43), (92, 0), (93, 0)], 40)
def cu190_0 : List Cut := [(4, [0, 1, 2, 3, 4], [(2, 65, 0), (0, 0, 29), (0, 0, 9000), (0, -2147483648, 2147483647), (0, 0, 30)], [], [(0, 0, 0), (-1, 4, 30)], [])]
theorem os190_0 : okStart H0 [sp126_0, sp142_0, sp157_0] inlF [] [] cu190_0 4000 sp190_0 = true := by decide +kernel
theorem oc190_0 : cu190_0.all (okCut H0 [sp126_0, sp142_0, sp157_0] inlF [] cu190_0 4000 sp190_0) = true := by decide +kernel
theorem ok190_0 (X : Xs) : SpecOK X sp190_0 := sp_sound (sps_cons (ok126_0 X) (sps_cons (ok142_0 X) (sps_cons (ok157_0 X) sps_nil))) rfl os190_0 (List.all_eq_true.mp oc190_0)
def sp191_0 : Spec := (191, [(2, 65, 0), (0, -2147483648, 2147483647), (0, -2147483648, 2147483647), (0, -2147483648, 2147483647)], [((-2147483648, 2147483647), [])], [(65, 41), (65, 42), (65, 43), (92, 0), (93, 0), (94, 0), (95, 0), (96, 0), (97, 0)], 60)
def cu191_0 : List Cut := []
theorem os191_0 : okStart H0 [sp160_0, sp190_0] inlF [] [] cu191_0 4000 sp191_0 = true := by decide +kernel
theorem oc191_0 : cu191_0.all (okCut H0 [sp160_0, sp190_0] inlF [] cu191_0 4000 sp191_0) = true := by decide +kernel
theorem ok191_0 (X : Xs) : SpecOK X sp191_0 := sp_sound (sps_cons (ok160_0 X) (sps_cons (ok190_0 X) sps_nil)) rfl os191_0 (List.all_eq_true.mp oc191_0)
def sp192_0 : Spec := (192, [(2, 65, 0), (0, -2147483648, 2147483647), (0, -2147483648, 2147483647), (0, -2147483648, 2147483647)], [((-2147483648, 2147483647), [])], [(65, 41), (65, 42), (65, 43), (92, 0), (93, 0), (94, 0), (95, 0), (96, 0), (97, 0)], 60)
def cu192_0 : List Cut := [(23, [0, 1, 2, 3, 4, 5], [(2, 65, 0), (0, 0, 7), (0, 0, 3), (0, 0, 9000), (0, -2147483648, 2147483647), (0, 0, 30)], [], [(0, 0, 0), (-1, 5, 30)], [])]
theorem os192_0 : okStart H0 [sp142_0, sp160_0, sp190_0] inlF [] [] cu192_0 4000 sp192_0 = true := by decide +kernel
theorem oc192_0 : cu192_0.all (okCut H0 [sp142_0, sp160_0, sp190_0] inlF [] cu192_0 4000 sp192_0) = true := by decide +kernel
theorem ok192_0 (X : Xs) : SpecOK X sp192_0 := sp_sound (sps_cons (ok142_0 X) (sps_cons (ok160_0 X) (sps_cons (ok190_0 X) sps_nil))) rfl os192_0 (List.all_eq_true.mp oc192_0)
def sp193_0 : Spec := (193, [(2, 65, 0), (0, -2147483648, 2147483647)], [((-2147483648, 2147483647), [])], [(65, 41), (65, 42), (65, 43), (92, 0), (93, 0), (94, 0), (95, 0), (96, 0), (97, 0)], 60)
def cu193_0 : List Cut := [(8, [0, 1, 2, 3], [(2, 65, 0), (0, -2147483648, 2147483647), (0, -2147483648, 2147483647), (0, 0, 20)], [], [(0, 0, 2), (-1, 3, 20)], []),
  (33, [0, 1, 2, 3, 4], [(2, 65, 0), (0, -2147483648, 2147483647), (0, -2147483648, 2147483647), (0, -2147483648, 2147483647), (0, 0, 30)], [], [(0, 0, 1), (-1, 4, 30)], []),
  (63, [0, 1, 2, 3, 4, 5], [(2, 65, 0), (0, -2147483648, 2147483647), (0, -2147483648, 2147483647), (0, -2147483648, 2147483647), (0, -2147483648, 2147483647), (0, 0, 20)], [], [(0, 0, 0), (-1, 5, 20)], [])]
theorem os193_0 : okStart H0 [sp160_0, sp172_0, sp173_0] inlF [] [] cu193_0 4000 sp193_0 = true := by decide +kernel
theorem oc193_0 : cu193_0.all (okCut H0 [sp160_0, sp172_0, sp173_0] inlF [] cu193_0 4000 sp193_0) = true := by decide +kernel
theorem ok193_0 (X : Xs) : SpecOK X sp193_0 := sp_sound (sps_cons (ok160_0 X) (sps_cons (ok172_0 X) (sps_cons (ok173_0 X) sps_nil))) rfl os193_0 (List.all_eq_true.mp oc193_0)
def sp178_0 : Spec := (178, [(2, 65, 0), (0, 0, 4)], [((0, 0), [])], [(65, 41), (65, 42), (65, 43), (92, 0), (93, 0), (100, 0), (101, 0), (102, 0)], 50)
def cu178_0 : List Cut := [(12, [0, 1, 2, 3], [(2, 65, 0), (0, 0, 4), (0, 0, 19), (0, 0, 30)], [], [(0, 0, 2), (-1, 3, 30), (0, 0, 1000), (0, 0, 0)], []),
  (64, [0, 1, 2, 3, 4], [(2, 65, 0), (0, 0, 4), (0, 0, 19), (0, 0, 2147483647), (0, 0, 1024)], [], [(0, 0, 1), (-1, 4, 1024), (0, 0, 1000), (0, 0, 0)], []),
  (73, [0, 1, 2, 3, 4, 5, 6, 7], [(2, 65, 0), (0, 0, 4), (0, 0, 19), (0, 0, 2147483647), (0, 0, 1023), (0, -2147483648, 2147483647), (0, 0, 1000), (0, 0, 10)], [], [(0, 0, 1), (-1, 4, 1024), (0, 0, 0), (-1, 7, 10)], [])]
theorem os178_0 : okStart H0 [sp126_0, sp142_0, sp158_0, sp161_0, sp163_0] inlF [] [] cu178_0 4000 sp178_0 = true := by decide +kernel
theorem oc178_0 : cu178_0.all (okCut H0 [sp126_0, sp142_0, sp158_0, sp161_0, sp163_0] inlF [] cu178_0 4000 sp178_0) = true := by decide +kernel
theorem ok178_0 (X : Xs) : SpecOK X sp178_0 := sp_sound (sps_cons (ok126_0 X) (sps_cons (ok142_0 X) (sps_cons (ok158_0 X) (sps_cons (ok161_0 X) (sps_cons (ok163_0 X) sps_nil))))) rfl os178_0 (List.all_eq_true.mp oc178_0)
def sp180_0 : Spec := (180, [(2, 65, 0), (0, 0, 4), (0, 0, 1023)], [((0, 1), [])], [], 10)
def cu180_0 : List Cut := [(4, [0, 1, 2, 3, 4], [(2, 65, 0), (0, 0, 4), (0, 0, 1023), (0, 0, 1), (0, 0, 10)], [], [(0, 0, 0), (-1, 4, 10)], [])]
theorem os180_0 : okStart H0 [] inlF [] [] cu180_0 4000 sp180_0 = true := by decide +kernel
theorem oc180_0 : cu180_0.all (okCut H0 [] inlF [] cu180_0 4000 sp180_0) = true := by decide +kernel
theorem ok180_0 (X : Xs) : SpecOK X sp180_0 := sp_sound (sps_nil) rfl os180_0 (List.all_eq_true.mp oc180_0)
def sp181_0 : Spec := (181, [(2, 65, 0), (0, 0, 4)], [((0, 0), [])], [(65, 65), (65, 66), (104, 0)], 20)
def cu181_0 : List Cut := [(6, [0, 1, 2, 3, 4], [(2, 65, 0), (0, 0, 4), (0, -2147483648, 2147483647), (0, -2147483648, 2147483647), (0, 0, 5)], [], [(0, 0, 1), (-1, 4, 5)], []),
  (59, [0, 1, 4], [(2, 65, 0), (0, 0, 4), (0, 0, 5)], [], [(0, 0, 0), (-1, 2, 5)], [])]
theorem os181_0 : okStart H0 [sp177_0] inlF [] [] cu181_0 4000 sp181_0 = true := by decide +kernel
theorem oc181_0 : cu181_0.all (okCut H0 [sp177_0] inlF [] cu181_0 4000 sp181_0) = true := by decide +kernel
theorem ok181_0 (X : Xs) : SpecOK X sp181_0 := sp_sound (sps_cons (ok177_0 X) sps_nil) rfl os181_0 (List.all_eq_true.mp oc181_0)
def sp179_0 : Spec := (179, [(2, 65, 0), (0, 0, 4), (0, 0, 1024), (0, -1, 1)], [((0, 0), [])], [(105, 0)], 10)
def cu179_0 : List Cut := [(2, [0, 1, 2, 3, 4], [(2, 65, 0), (0, 0, 4), (0, 0, 1024), (0, -1, 1), (0, 0, 10)], [], [(0, 0, 0), (-1, 4, 10)], [])]
theorem os179_0 : okStart H0 [] inlF [] [] cu179_0 4000 sp179_0 = true := by decide +kernel
theorem oc179_0 : cu179_0.all (okCut H0 [] inlF [] cu179_0 4000 sp179_0) = true := by decide +kernel
theorem ok179_0 (X : Xs) : SpecOK X sp179_0 := sp_sound (sps_nil) rfl os179_0 (List.all_eq_true.mp oc179_0)
def sp182_0 : Spec := (182, [(2, 65, 0)], [((0, 0), [])], [(65, 63), (65, 64), (65, 65), (65, 66), (103, 0), (104, 0), (105, 0), (106, 0)], 30)
def cu182_0 : List Cut := [(14, [0, 1], [(2, 65, 0), (0, 0, 30)], [(103, 0, -1, 1025), (103, 1, -1, 1025), (103, 2, -1, 1025), (103, 3, -1, 1025), (103, 4, -1, 1025)], [(0, 0, 3), (-1, 1, 30), (0, 0, 0), (0, 0, 0), (0, 0, 0), (0, 0, 0)], []),
  (39, [0, 1], [(2, 65, 0), (0, 0, 5)], [(103, 0, -1, 1025), (103, 1, -1, 1025), (103, 2, -1, 1025), (103, 3, -1, 1025), (103, 4, -1, 1025)], [(0, 0, 2), (-1, 1, 30), (0, 0, 0), (0, 0, 0), (0, 0, 0), (0, 0, 0)], []),
  (56, [0, 1], [(2, 65, 0), (0, -1, -1)], [(103, 0, 1025, 1025), (103, 1, -1, 1025), (103, 2, -1, 1025), (103, 3, -1, 1025), (103, 4, -1, 1025)], [(0, 0, 1), (-2, 2, 2050), (-2, 3, 2050), (-2, 4, 2050), (-2, 5, 2050), (-2, 6, 2050)], []),
  (56, [0, 1], [(2, 65, 0), (0, 0, 0)], [(103, 0, -1, 1024), (103, 1, -1, 1025), (103, 2, -1, 1025), (103, 3, -1, 1025), (103, 4, -1, 1025)], [(0, 0, 1), (-2, 2, 2050), (-2, 3, 2050), (-2, 4, 2050), (-2, 5, 2050), (-2, 6, 2050)], []),
  (56, [0, 1], [(2, 65, 0), (0, 1, 1)], [(103, 0, 0, 1024), (103, 1, -1, 1024), (103, 2, -1, 1025), (103, 3, -1, 1025), (103, 4, -1, 1025)], [(0, 0, 1), (-2, 2, 2050), (-2, 3, 2050), (-2, 4, 2050), (-2, 5, 2050), (-2, 6, 2050)], []),
  (56, [0, 1], [(2, 65, 0), (0, 2, 2)], [(103, 0, 0, 1024), (103, 1, 0, 1024), (103, 2, -1, 1024), (103, 3, -1, 1025), (103, 4, -1, 1025)], [(0, 0, 1), (-2, 2, 2050), (-2, 3, 2050), (-2, 4, 2050), (-2, 5, 2050), (-2, 6, 2050)], []),
  (56, [0, 1], [(2, 65, 0), (0, 3, 3)], [(103, 0, 0, 1024), (103, 1, 0, 1024), (103, 2, 0, 1024), (103, 3, -1, 1024), (103, 4, -1, 1025)], [(0, 0, 1), (-2, 2, 2050), (-2, 3, 2050), (-2, 4, 2050), (-2, 5, 2050), (-2, 6, 2050)], []),
  (56, [0, 1], [(2, 65, 0), (0, 4, 4)], [(103, 0, 0, 1024), (103, 1, 0, 1024), (103, 2, 0, 1024), (103, 3, 0, 1024), (103, 4, -1, 1024)], [(0, 0, 1), (-2, 2, 2050), (-2, 3, 2050), (-2, 4, 2050), (-2, 5, 2050), (-2, 6, 2050)], []),
  (81, [0, 1, 2], [(2, 65, 0), (0, 0, 0), (0, 0, 1025)], [(103, 0, -1, 1024), (103, 1, -1, 1025), (103, 2, -1, 1025), (103, 3, -1, 1025), (103, 4, -1, 1025)], [(0, 0, 1), (-2, 2, 2051), (-2, 4, 2050), (-2, 5, 2050), (-2, 6, 2050), (-2, 7, 2050)], []),
  (81, [0, 1, 2], [(2, 65, 0), (0, 1, 1), (0, 0, 1025)], [(103, 0, 0, 1024), (103, 1, -1, 1024), (103, 2, -1, 1025), (103, 3, -1, 1025), (103, 4, -1, 1025)], [(0, 0, 1), (-2, 3, 2050), (-2, 2, 2051), (-2, 5, 2050), (-2, 6, 2050), (-2, 7, 2050)], []),
  (81, [0, 1, 2], [(2, 65, 0), (0, 2, 2), (0, 0, 1025)], [(103, 0, 0, 1024), (103, 1, 0, 1024), (103, 2, -1, 1024), (103, 3, -1, 1025), (103, 4, -1, 1025)], [(0, 0, 1), (-2, 3, 2050), (-2, 4, 2050), (-2, 2, 2051), (-2, 6, 2050), (-2, 7, 2050)], []),
  (81, [0, 1, 2], [(2, 65, 0), (0, 3, 3), (0, 0, 1025)], [(103, 0, 0, 1024), (103, 1, 0, 1024), (103, 2, 0, 1024), (103, 3, -1, 1024), (103, 4, -1, 1025)], [(0, 0, 1), (-2, 3, 2050), (-2, 4, 2050), (-2, 5, 2050), (-2, 2, 2051), (-2, 7, 2050)], []),
  (81, [0, 1, 2], [(2, 65, 0), (0, 4, 4), (0, 0, 1025)], [(103, 0, 0, 1024), (103, 1, 0, 1024), (103, 2, 0, 1024), (103, 3, 0, 1024), (103, 4, -1, 1024)], [(0, 0, 1), (-2, 3, 2050), (-2, 4, 2050), (-2, 5, 2050), (-2, 6, 2050), (-2, 2, 2051)], [])]
theorem os182_0 : okStart H0 [sp164_0, sp179_0, sp180_0, sp181_0] inlF [] [(103, 0, -1, 1025), (103, 1, -1, 1025), (103, 2, -1, 1025), (103, 3, -1, 1025), (103, 4, -1, 1025)] cu182_0 4000 sp182_0 = true := by decide +kernel
theorem oc182_0 : cu182_0.all (okCut H0 [sp164_0, sp179_0, sp180_0, sp181_0] inlF [] cu182_0 4000 sp182_0) = true := by decide +kernel
theorem ok182_0 (X : Xs) : SpecOK X sp182_0 := sp_sound (sps_cons (ok164_0 X) (sps_cons (ok179_0 X) (sps_cons (ok180_0 X) (sps_cons (ok181_0 X) sps_nil)))) rfl os182_0 (List.all_eq_true.mp oc182_0)
