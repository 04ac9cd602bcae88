/-! the constructors: data and contracts -/
theorem obw : obW 538 539 := ⟨by decide +kernel, by decide +kernel⟩
def fi0 : List Value := [.null, .null, .null, .null, .null, .null, .null, .null, .null, .null, .int (Int32.ofInt 0), .int (Int32.ofInt 0)]
theorem ini0 : iniB (RX0, TX0, 12) fi0 = true := by decide +kernel
def os0 : List Dd := [(0, 4, 2, 5, 1074, 0, 20), (0, 12, 2, 6, 1076, 0, 20), (0, 20, 2, 7, 1078, 0, 20), (0, 28, 2, 8, 1080, 0, 100), (0, 36, 2, 9, 1082, 0, 20), (2, 44, 1, 0, 1069, 1, 0), (2, 49, 1, 1, 1070, 2, 0), (2, 54, 1, 2, 1071, 3, 0), (2, 59, 2, 3, 1072, 4, 0), (2, 65, 2, 4, 1073, 5, 0)]
theorem ctw0 : ctW yX0_init cX0_init 6 1067 1066 521 5 := ⟨by decide +kernel, by decide +kernel, by decide +kernel, rfl, by decide, by decide, by decide +kernel⟩
theorem oc0 : os0.all (ddB cX0_init RX0 (RX0, TX0, 12) 12 6) = true := by decide +kernel
theorem ct0 (l : Launch) (D : va_G) (z : KZ) (sz h0 h1 h2 h3 h4 h5 : Nat) : Met l yX0_init (wl yX0_init cX0_init 6) (Rc os0) (va_Pc ([.ref h0, .ref h1, .ref h2, .ref h3, .ref h4, .ref h5]) (Pz D z [(h0, .inr (0, fi0))] sz)) (va_Qv (fun _ : Nat → Nat => True) (fun q => Bz D sz (h0, .inr (0, fi0)) ((h0, .inr (0, runF [h0, h1, h2, h3, h4, h5] os0 fi0 q 0)) :: runA z os0 q 0)) (va_A [(h0, .inr (0, fi0))] sz)) (runC os0) (runS os0) (va_A [(h0, .inr (0, fi0))] sz) :=
  mk_met (pcE := 71) (pl := 1068) (own := RX0) (r := (RX0, TX0, 12)) (nl := 6) obw (by decide) rfl rfl rfl (by decide +kernel) (by decide +kernel) (by decide +kernel) oc0 (by decide +kernel) (Nat.le_of_ble_eq_true rfl) l D z sz h0 [h1, h2, h3, h4, h5] rfl fi0 rfl
def fi1 : List Value := [.null, .null, .null, .null, .null, .null, .null, .null, .null, .null, .null, .null, .null, .null, .int (Int32.ofInt 0), .int (Int32.ofInt 0), .int (Int32.ofInt 0)]
theorem ini1 : iniB (RX1, TX1, 17) fi1 = true := by decide +kernel
def os1 : List Dd := [(0, 4, 2, 0, 706, 0, 20), (0, 12, 2, 1, 709, 0, 20), (0, 20, 2, 2, 713, 0, 20), (0, 28, 2, 3, 716, 0, 20), (0, 36, 2, 4, 718, 0, 20), (0, 44, 2, 5, 721, 0, 20), (0, 52, 2, 6, 725, 0, 20), (0, 60, 2, 7, 727, 0, 20), (0, 68, 2, 8, 730, 0, 100), (0, 76, 2, 9, 734, 0, 100), (0, 84, 2, 10, 738, 0, 100), (0, 92, 2, 11, 741, 0, 100), (0, 100, 2, 12, 743, 0, 120), (0, 108, 2, 13, 745, 0, 120)]
theorem ctw1 : ctW yX1_init cX1_init 1 704 703 520 0 := ⟨by decide +kernel, by decide +kernel, by decide +kernel, rfl, by decide, by decide, by decide +kernel⟩
theorem oc1 : os1.all (ddB cX1_init RX1 (RX1, TX1, 17) 17 1) = true := by decide +kernel
theorem ct1 (l : Launch) (D : va_G) (z : KZ) (sz h0 : Nat) : Met l yX1_init (wl yX1_init cX1_init 1) (Rc os1) (va_Pc ([.ref h0]) (Pz D z [(h0, .inr (1, fi1))] sz)) (va_Qv (fun _ : Nat → Nat => True) (fun q => Bz D sz (h0, .inr (1, fi1)) ((h0, .inr (1, runF [h0] os1 fi1 q 0)) :: runA z os1 q 0)) (va_A [(h0, .inr (1, fi1))] sz)) (runC os1) (runS os1) (va_A [(h0, .inr (1, fi1))] sz) :=
  mk_met (pcE := 116) (pl := 705) (own := RX1) (r := (RX1, TX1, 17)) (nl := 1) obw (by decide) rfl rfl rfl (by decide +kernel) (by decide +kernel) (by decide +kernel) oc1 (by decide +kernel) (Nat.le_of_ble_eq_true rfl) l D z sz h0 [] rfl fi1 rfl
def fi2 : List Value := [.null, .null, .null, .null, .int (Int32.ofInt 0)]
theorem ini2 : iniB (RX2, TX2, 5) fi2 = true := by decide +kernel
def os2 : List Dd := [(0, 4, 2, 0, 603, 0, 20), (0, 12, 2, 1, 604, 0, 20), (0, 20, 2, 2, 605, 0, 20), (0, 28, 2, 3, 606, 0, 20)]
theorem ctw2 : ctW yX2_init cX2_init 1 601 600 515 0 := ⟨by decide +kernel, by decide +kernel, by decide +kernel, rfl, by decide, by decide, by decide +kernel⟩
theorem oc2 : os2.all (ddB cX2_init RX2 (RX2, TX2, 5) 5 1) = true := by decide +kernel
theorem ct2 (l : Launch) (D : va_G) (z : KZ) (sz h0 : Nat) : Met l yX2_init (wl yX2_init cX2_init 1) (Rc os2) (va_Pc ([.ref h0]) (Pz D z [(h0, .inr (2, fi2))] sz)) (va_Qv (fun _ : Nat → Nat => True) (fun q => Bz D sz (h0, .inr (2, fi2)) ((h0, .inr (2, runF [h0] os2 fi2 q 0)) :: runA z os2 q 0)) (va_A [(h0, .inr (2, fi2))] sz)) (runC os2) (runS os2) (va_A [(h0, .inr (2, fi2))] sz) :=
  mk_met (pcE := 36) (pl := 602) (own := RX2) (r := (RX2, TX2, 5)) (nl := 1) obw (by decide) rfl rfl rfl (by decide +kernel) (by decide +kernel) (by decide +kernel) oc2 (by decide +kernel) (Nat.le_of_ble_eq_true rfl) l D z sz h0 [] rfl fi2 rfl
def fi3 : List Value := [.null, .null, .null, .null, .null, .null, .null, .null, .null, .null, .null, .int (Int32.ofInt 0), .int (Int32.ofInt 0), .int (Int32.ofInt 0), .int (Int32.ofInt 0), .int (Int32.ofInt 0), .int (Int32.ofInt 0), .int (Int32.ofInt 0)]
theorem ini3 : iniB (RX3, TX3, 18) fi3 = true := by decide +kernel
def os3 : List Dd := [(0, 4, 1, 3, 1140, 0, 5), (0, 11, 1, 4, 1141, 0, 5), (0, 18, 3, 5, 1142, 0, 1260), (0, 27, 2, 6, 1143, 0, 10), (0, 35, 2, 7, 1144, 0, 10), (0, 43, 2, 8, 1145, 0, 30), (0, 51, 1, 9, 1146, 0, 5), (0, 58, 1, 10, 1147, 0, 5), (1, 65, 3, 13, 1150, 0, 1000), (2, 72, 1, 0, 1137, 1, 0), (2, 77, 1, 1, 1138, 2, 0), (2, 82, 1, 2, 1139, 3, 0)]
theorem ctw3 : ctW yX3_init cX3_init 4 1135 1134 523 3 := ⟨by decide +kernel, by decide +kernel, by decide +kernel, rfl, by decide, by decide, by decide +kernel⟩
theorem oc3 : os3.all (ddB cX3_init RX3 (RX3, TX3, 18) 18 4) = true := by decide +kernel
theorem ct3 (l : Launch) (D : va_G) (z : KZ) (sz h0 h1 h2 h3 : Nat) : Met l yX3_init (wl yX3_init cX3_init 4) (Rc os3) (va_Pc ([.ref h0, .ref h1, .ref h2, .ref h3]) (Pz D z [(h0, .inr (3, fi3))] sz)) (va_Qv (fun _ : Nat → Nat => True) (fun q => Bz D sz (h0, .inr (3, fi3)) ((h0, .inr (3, runF [h0, h1, h2, h3] os3 fi3 q 0)) :: runA z os3 q 0)) (va_A [(h0, .inr (3, fi3))] sz)) (runC os3) (runS os3) (va_A [(h0, .inr (3, fi3))] sz) :=
  mk_met (pcE := 87) (pl := 1136) (own := RX3) (r := (RX3, TX3, 18)) (nl := 4) obw (by decide) rfl rfl rfl (by decide +kernel) (by decide +kernel) (by decide +kernel) oc3 (by decide +kernel) (Nat.le_of_ble_eq_true rfl) l D z sz h0 [h1, h2, h3] rfl fi3 rfl
def fi4 : List Value := [.null, .int (Int32.ofInt 0), .int (Int32.ofInt 0), .int (Int32.ofInt 0)]
theorem ini4 : iniB (RX4, TX4, 4) fi4 = true := by decide +kernel
def os4 : List Dd := [(0, 4, 3, 0, 627, 0, 900)]
theorem ctw4 : ctW yX4_init cX4_init 1 625 624 516 0 := ⟨by decide +kernel, by decide +kernel, by decide +kernel, rfl, by decide, by decide, by decide +kernel⟩
theorem oc4 : os4.all (ddB cX4_init RX4 (RX4, TX4, 4) 4 1) = true := by decide +kernel
theorem ct4 (l : Launch) (D : va_G) (z : KZ) (sz h0 : Nat) : Met l yX4_init (wl yX4_init cX4_init 1) (Rc os4) (va_Pc ([.ref h0]) (Pz D z [(h0, .inr (4, fi4))] sz)) (va_Qv (fun _ : Nat → Nat => True) (fun q => Bz D sz (h0, .inr (4, fi4)) ((h0, .inr (4, runF [h0] os4 fi4 q 0)) :: runA z os4 q 0)) (va_A [(h0, .inr (4, fi4))] sz)) (runC os4) (runS os4) (va_A [(h0, .inr (4, fi4))] sz) :=
  mk_met (pcE := 13) (pl := 626) (own := RX4) (r := (RX4, TX4, 4)) (nl := 1) obw (by decide) rfl rfl rfl (by decide +kernel) (by decide +kernel) (by decide +kernel) oc4 (by decide +kernel) (Nat.le_of_ble_eq_true rfl) l D z sz h0 [] rfl fi4 rfl
def fi5 : List Value := [.null, .null, .int (Int32.ofInt 0), .int (Int32.ofInt 0), .int (Int32.ofInt 0), .int (Int32.ofInt 0)]
theorem ini5 : iniB (RX5, TX5, 6) fi5 = true := by decide +kernel
def os5 : List Dd := [(0, 4, 3, 0, 677, 0, 240)]
theorem ctw5 : ctW yX5_init cX5_init 1 673 672 519 0 := ⟨by decide +kernel, by decide +kernel, by decide +kernel, rfl, by decide, by decide, by decide +kernel⟩
theorem oc5 : os5.all (ddB cX5_init RX5 (RX5, TX5, 6) 6 1) = true := by decide +kernel
def fi6 : List Value := [.null, .null, .int (Int32.ofInt 0)]
theorem ini6 : iniB (RX6, TX6, 3) fi6 = true := by decide +kernel
def os6 : List Dd := [(0, 4, 2, 0, 656, 0, 9), (0, 12, 3, 1, 658, 0, 180)]
theorem ctw6 : ctW yX6_init cX6_init 1 649 648 517 0 := ⟨by decide +kernel, by decide +kernel, by decide +kernel, rfl, by decide, by decide, by decide +kernel⟩
theorem oc6 : os6.all (ddB cX6_init RX6 (RX6, TX6, 3) 3 1) = true := by decide +kernel
def fi7 : List Value := [.null, .null, .null, .null, .null, .null, .null, .null, .null, .null, .int (Int32.ofInt 0), .int (Int32.ofInt 0)]
theorem ini7 : iniB (RX7, TX7, 12) fi7 = true := by decide +kernel
def os7 : List Dd := [(0, 4, 2, 0, 546, 0, 30), (0, 12, 2, 1, 549, 0, 30), (0, 20, 2, 2, 552, 0, 30), (0, 28, 2, 3, 553, 0, 30), (0, 36, 2, 4, 555, 0, 30), (0, 44, 2, 5, 557, 0, 30), (0, 52, 2, 6, 560, 0, 30), (0, 60, 2, 7, 562, 0, 60), (0, 68, 2, 8, 563, 0, 60), (0, 76, 2, 9, 564, 0, 60)]
theorem ctw7 : ctW yX7_init cX7_init 1 544 543 514 0 := ⟨by decide +kernel, by decide +kernel, by decide +kernel, rfl, by decide, by decide, by decide +kernel⟩
theorem oc7 : os7.all (ddB cX7_init RX7 (RX7, TX7, 12) 12 1) = true := by decide +kernel
theorem ct7 (l : Launch) (D : va_G) (z : KZ) (sz h0 : Nat) : Met l yX7_init (wl yX7_init cX7_init 1) (Rc os7) (va_Pc ([.ref h0]) (Pz D z [(h0, .inr (7, fi7))] sz)) (va_Qv (fun _ : Nat → Nat => True) (fun q => Bz D sz (h0, .inr (7, fi7)) ((h0, .inr (7, runF [h0] os7 fi7 q 0)) :: runA z os7 q 0)) (va_A [(h0, .inr (7, fi7))] sz)) (runC os7) (runS os7) (va_A [(h0, .inr (7, fi7))] sz) :=
  mk_met (pcE := 84) (pl := 545) (own := RX7) (r := (RX7, TX7, 12)) (nl := 1) obw (by decide) rfl rfl rfl (by decide +kernel) (by decide +kernel) (by decide +kernel) oc7 (by decide +kernel) (Nat.le_of_ble_eq_true rfl) l D z sz h0 [] rfl fi7 rfl
def fi8 : List Value := [.null, .null, .null, .int (Int32.ofInt 0)]
theorem ini8 : iniB (RX8, TX8, 4) fi8 = true := by decide +kernel
def os8 : List Dd := [(0, 4, 2, 0, 1117, 0, 60), (0, 12, 2, 1, 1118, 0, 60), (0, 20, 2, 2, 1119, 0, 60)]
theorem ctw8 : ctW yX8_init cX8_init 1 1115 1114 522 0 := ⟨by decide +kernel, by decide +kernel, by decide +kernel, rfl, by decide, by decide, by decide +kernel⟩
theorem oc8 : os8.all (ddB cX8_init RX8 (RX8, TX8, 4) 4 1) = true := by decide +kernel
theorem ct8 (l : Launch) (D : va_G) (z : KZ) (sz h0 : Nat) : Met l yX8_init (wl yX8_init cX8_init 1) (Rc os8) (va_Pc ([.ref h0]) (Pz D z [(h0, .inr (8, fi8))] sz)) (va_Qv (fun _ : Nat → Nat => True) (fun q => Bz D sz (h0, .inr (8, fi8)) ((h0, .inr (8, runF [h0] os8 fi8 q 0)) :: runA z os8 q 0)) (va_A [(h0, .inr (8, fi8))] sz)) (runC os8) (runS os8) (va_A [(h0, .inr (8, fi8))] sz) :=
  mk_met (pcE := 28) (pl := 1116) (own := RX8) (r := (RX8, TX8, 4)) (nl := 1) obw (by decide) rfl rfl rfl (by decide +kernel) (by decide +kernel) (by decide +kernel) oc8 (by decide +kernel) (Nat.le_of_ble_eq_true rfl) l D z sz h0 [] rfl fi8 rfl
def fi9 : List Value := [.null, .null, .null, .int (Int32.ofInt 0)]
theorem ini9 : iniB (RX9, TX9, 4) fi9 = true := by decide +kernel
def os9 : List Dd := [(0, 4, 2, 0, 1203, 0, 30), (0, 12, 2, 1, 1204, 0, 30), (0, 20, 2, 2, 1205, 0, 30)]
theorem ctw9 : ctW yX9_init cX9_init 1 1201 1200 524 0 := ⟨by decide +kernel, by decide +kernel, by decide +kernel, rfl, by decide, by decide, by decide +kernel⟩
theorem oc9 : os9.all (ddB cX9_init RX9 (RX9, TX9, 4) 4 1) = true := by decide +kernel
theorem ct9 (l : Launch) (D : va_G) (z : KZ) (sz h0 : Nat) : Met l yX9_init (wl yX9_init cX9_init 1) (Rc os9) (va_Pc ([.ref h0]) (Pz D z [(h0, .inr (9, fi9))] sz)) (va_Qv (fun _ : Nat → Nat => True) (fun q => Bz D sz (h0, .inr (9, fi9)) ((h0, .inr (9, runF [h0] os9 fi9 q 0)) :: runA z os9 q 0)) (va_A [(h0, .inr (9, fi9))] sz)) (runC os9) (runS os9) (va_A [(h0, .inr (9, fi9))] sz) :=
  mk_met (pcE := 28) (pl := 1202) (own := RX9) (r := (RX9, TX9, 4)) (nl := 1) obw (by decide) rfl rfl rfl (by decide +kernel) (by decide +kernel) (by decide +kernel) oc9 (by decide +kernel) (Nat.le_of_ble_eq_true rfl) l D z sz h0 [] rfl fi9 rfl
def fi10 : List Value := [.null, .null, .null, .null, .null, .null, .null, .null, .null, .null, .int (Int32.ofInt 0)]
theorem ini10 : iniB (RX10, TX10, 11) fi10 = true := by decide +kernel
def os10 : List Dd := []
theorem ctw10 : ctW yX10_init cX10_init 1 536 535 513 0 := ⟨by decide +kernel, by decide +kernel, by decide +kernel, rfl, by decide, by decide, by decide +kernel⟩
theorem oc10 : os10.all (ddB cX10_init RX10 (RX10, TX10, 11) 11 1) = true := by decide +kernel
def fi11 : List Value := [.int (Int32.ofInt 0), .int (Int32.ofInt 0), .null, .null, .null, .null, .null, .null, .null, .int (Int32.ofInt 0), .null, .int (Int32.ofInt 0), .null, .null, .int (Int32.ofInt 0), .int (Int32.ofInt 0), .int (Int32.ofInt 0), .null, .null, .null, .null, .int (Int32.ofInt 0), .null, .null, .null, .null, .null, .null, .int (Int32.ofInt 0), .null, .null, .null, .null, .null, .int (Int32.ofInt 0), .int (Int32.ofInt 0), .null, .int (Int32.ofInt 0), .null, .null, .int (Int32.ofInt 0), .int (Int32.ofInt 0), .int (Int32.ofInt 0), .int (Int32.ofInt 0), .long (Int64.ofInt 0), .int (Int32.ofInt 0), .int (Int32.ofInt 0), .int (Int32.ofInt 0), .null, .null, .null, .null, .null, .int (Int32.ofInt 0), .null, .null, .null, .null, .null, .null, .null, .null, .int (Int32.ofInt 0), .int (Int32.ofInt 0), .int (Int32.ofInt 0), .int (Int32.ofInt 0), .null]
theorem ini11 : iniB (RX11, TX11, 67) fi11 = true := by decide +kernel
def os11 : List Dd := [(0, 4, 2, 2, 2648, 0, 30), (0, 12, 2, 3, 2649, 0, 30), (0, 20, 2, 4, 2650, 0, 30), (0, 28, 2, 5, 2651, 0, 30), (0, 36, 2, 6, 2652, 0, 30), (0, 44, 2, 7, 2653, 0, 30), (0, 52, 2, 8, 2654, 0, 30), (0, 60, 3, 10, 2656, 0, 180), (0, 69, 2, 12, 2658, 0, 80), (0, 77, 3, 13, 2659, 0, 240), (1, 86, 1, 15, 2661, 0, -1), (0, 91, 2, 17, 2663, 0, 8), (0, 99, 3, 18, 2664, 0, 160), (0, 108, 2, 19, 2665, 0, 8), (0, 116, 3, 20, 2666, 0, 160), (0, 125, 2, 22, 2668, 0, 20), (0, 133, 2, 23, 2669, 0, 20), (0, 141, 2, 24, 2670, 0, 20), (0, 149, 2, 25, 2671, 0, 20), (0, 157, 2, 26, 2672, 0, 20), (0, 165, 2, 27, 2673, 0, 20), (0, 173, 2, 29, 2675, 0, 120), (0, 181, 2, 30, 2676, 0, 120), (0, 189, 2, 31, 2677, 0, 120), (0, 197, 2, 32, 2678, 1, 120), (0, 205, 2, 33, 2679, 0, 120), (0, 213, 3, 36, 2682, 0, 180), (1, 222, 3, 37, 2683, 0, 1000), (0, 229, 2, 38, 2684, 0, 30), (0, 237, 2, 39, 2685, 0, 30), (0, 245, 2, 48, 2694, 0, 20), (0, 253, 2, 49, 2695, 0, 20), (0, 261, 2, 50, 2696, 0, 20), (0, 269, 2, 51, 2697, 0, 120), (0, 277, 2, 52, 2698, 0, 20), (0, 285, 1, 54, 2700, 0, 5), (0, 292, 1, 55, 2701, 0, 5), (0, 299, 2, 56, 2702, 0, 50), (0, 307, 3, 57, 2703, 1, 5120), (0, 316, 1, 58, 2704, 0, 5), (0, 323, 1, 59, 2705, 0, 5), (0, 330, 2, 60, 2706, 0, 30), (0, 338, 2, 61, 2707, 0, 30), (0, 346, 2, 66, 2712, 0, 30)]
theorem ctw11 : ctW yX11_init cX11_init 1 2644 2643 525 0 := ⟨by decide +kernel, by decide +kernel, by decide +kernel, rfl, by decide, by decide, by decide +kernel⟩
theorem oc11 : os11.all (ddB cX11_init RX11 (RX11, TX11, 67) 67 1) = true := by decide +kernel
theorem ct11 (l : Launch) (D : va_G) (z : KZ) (sz h0 : Nat) : Met l yX11_init (wl yX11_init cX11_init 1) (Rc os11) (va_Pc ([.ref h0]) (Pz D z [(h0, .inr (11, fi11))] sz)) (va_Qv (fun _ : Nat → Nat => True) (fun q => Bz D sz (h0, .inr (11, fi11)) ((h0, .inr (11, runF [h0] os11 fi11 q 0)) :: runA z os11 q 0)) (va_A [(h0, .inr (11, fi11))] sz)) (runC os11) (runS os11) (va_A [(h0, .inr (11, fi11))] sz) :=
  mk_met (pcE := 354) (pl := 2645) (own := RX11) (r := (RX11, TX11, 67)) (nl := 1) obw (by decide) rfl rfl rfl (by decide +kernel) (by decide +kernel) (by decide +kernel) oc11 (by decide +kernel) (Nat.le_of_ble_eq_true rfl) l D z sz h0 [] rfl fi11 rfl
def w6 (z : KZ) (h0 : Nat) (q : Nat → Nat) : va_W := [(h0, .inr (6, [.ref (q 0), .ref (q 1), .int (Int32.ofInt 0)])), (q 0, .inl (z.1, 9, .inl fun _ => Int32.ofInt 0)), (q 1, .inl (z.1, 180, .inl AF))]
theorem AF_cpy : va_cpy AF (fun _ => Int32.ofInt 0) (Int32.ofInt 0).toNatClampNeg (Int32.ofInt 0).toNatClampNeg (Int32.ofInt 20).toNatClampNeg = AF := by
  funext j
  have e0 : (Int32.ofInt 0).toNatClampNeg = 0 := by decide
  have e1 : (Int32.ofInt 20).toNatClampNeg = 20 := by decide
  rw [e0, e1]
  unfold va_cpy
  by_cases h : j < 20
  · rw [if_pos ⟨Nat.zero_le _, by omega⟩, Nat.zero_add, Nat.sub_zero]
  · rw [if_neg (fun q => by omega)]
    unfold AF
    rw [List.getD_eq_getElem?_getD, List.getElem?_eq_none (by show 20 ≤ j; omega)]
    rfl
set_option maxRecDepth 100000 in
theorem ct6 (l : Launch) (D : va_G) (z : KZ) (t0 sz h0 : Nat) : Met l yX6_init (wl yX6_init cX6_init 1) { frames := 1, cells := 2, slots := 189, locals := 64 } (va_Pc [.ref h0] (Pzo D z t0 [(h0, .inr (6, fi6))] sz)) (va_Qv (fun _ : Nat → Nat => True) (fun q => Bz D sz (h0, .inr (6, fi6)) (w6 z h0 q)) (va_A [(h0, .inr (6, fi6))] sz)) 2 189 (va_A [(h0, .inr (6, fi6))] sz) := by
  refine Met.ofW (cc := cX6_init) (maxL := 1) (ret := none) (by decide) rfl ?_
  intro p e s m args below meth c s₁ B hml hv
  obtain ⟨rfl, ⟨hsz, hP, hK, hD0⟩, hO⟩ := hv
  have hx := B.exec
  have hb := B.bytes
  have hr2 := B.returns
  have hts := atoms_spec (ws := wl yX6_init cX6_init 1) B.pre
  have hown : s.vm.findClass RX6 = some m.cls := findClass_of_methodNamed B.named
  have hlocks := B.notSynchronized
  have hin : meth.name = "<init>" := (name_of_methodNamed B.named B.method).1
  subst hsz
  have hD := hD0.self (sz := s.heap.size)
  rw [lg_entry_eq]
  have hl : lv_has (lg_sl ([Value.ref h0]) ++ List.replicate (1 - (lg_sl ([Value.ref h0])).length) Slot.unset).toArray 1 (lv_args 0 ([h0].map Value.ref)) := lv_entry ([h0].map Value.ref) (n := 1) (by rw [sl_refs]; exact Nat.le_of_ble_eq_true rfl)
  generalize (lg_sl ([Value.ref h0]) ++ List.replicate (1 - (lg_sl ([Value.ref h0])).length) Slot.unset).toArray = ls at hl ⊢
  have hls : ∀ (k x : Nat), [h0][k]? = some x → ls[k]? = some (.val (.ref x)) := fun k x hk => by
    have := hl.2.2 _ (lv_refs _ 0 k x hk)
    rw [Nat.zero_add] at this
    exact this
  have C : Cz D z cX6_init 1 RX6 p s m [Value.ref h0].toArray c (va_A [(h0, .inr (6, fi6))] s.heap.size) := ⟨hx, hb, hml, hown, fun w hw => hts w (List.mem_cons_of_mem _ hw), hK, fun q h => Or.inr h⟩
  refine obj_any C obw hl.1 (by decide +kernel) (hls 0 h0 rfl) (pl := 650) (by decide +kernel) (Nat.le_of_ble_eq_true rfl) (Nat.le_of_ble_eq_true rfl) ?_
  refine run_all C hin (ci := 6) (r := (RX6, TX6, 3)) rfl hls rfl (pcE := 21) os6 4 0 0 0 fi6 [] s.heap [] (by decide +kernel) oc6 rfl hP hD va_S.rf (Nat.le_of_ble_eq_true rfl) (Nat.le_of_ble_eq_true rfl) fun q H1 locs1 hP1 hD1 hS1 => ?_
  refine va_gets (index := 18) hx hb hO.1 hS1 hown (C.2.2.2.2.1 _ (wt_mem (i := 651) (by decide +kernel))) (fun x hx => hx) (by decide +kernel) ?_
  refine push_any (v := 0) (ln := 1) C (by decide +kernel) (load_any (k := 0) (ln := 1) C (by decide +kernel) (hls 0 h0 rfl) (get_any (ci := 6) (r := (RX6, TX6, 3)) (slot := 1) (pf := 658) C rfl (by decide +kernel) rfl hP1 ?_))
  refine push_any (v := 0) (ln := 1) C (by decide +kernel) (push_any (v := 20) (ln := 2) C (by decide +kernel) ?_)
  refine va_copyx (index := 21) hx hb (by rw [hml]; exact hl.1.symm) hown (C.2.2.2.2.1 _ (wt_mem (i := 653) (by decide +kernel))) (C.2.2.2.2.1 _ (wt_mem (i := 655) (by decide +kernel))) (C.2.2.2.2.1 _ (wt_mem (i := 654) (by decide +kernel))) (C.2.2.2.2.1 _ (wt_mem (i := 518) (by decide +kernel))) hK hP1 hD1 hS1 hO.2.1 hO.2.2.1 hO.2.2.2 2 0 rfl rfl (by decide) (by decide) (by decide) (Nat.le_of_ble_eq_true rfl) (Nat.le_of_ble_eq_true rfl) (Nat.le_of_ble_eq_true rfl) (Nat.le_of_ble_eq_true rfl) (by decide +kernel) fun H2 locs2 hP2 hD2 hS2 => ?_
  rw [AF_cpy] at hP2 hD2
  exact W.vret hx hb hr2 (fun t ht hW => ⟨⟨q, rfl, trivial, by rw [ht]; exact hP2, hD2⟩, hS2.F ht⟩) hS2.2.2 (by decide +kernel) hlocks
def os5b : List Dd := [(1, 24, 1, 5, 685, 0, -1)]
theorem oc5b : os5b.all (ddB cX5_init RX5 (RX5, TX5, 6) 6 1) = true := by decide +kernel
def w5 (z : KZ) (h0 : Nat) (q : Nat → Nat) : va_W := [(h0, .inr (5, [.ref (q 0), .ref (q 1), .int (Int32.ofInt 0), .int (Int32.ofInt 0), .int (Int32.ofInt 0), .int (Int32.ofInt (-1))])), (q 0, .inl (z.1, 240, .inl fun _ => Int32.ofInt 0)), (q 1, .inr (6, [.ref (q 2), .ref (q 3), .int (Int32.ofInt 0)])), (q 2, .inl (z.1, 9, .inl fun _ => Int32.ofInt 0)), (q 3, .inl (z.1, 180, .inl AF))]
set_option maxRecDepth 100000 in
theorem ct5 (l : Launch) (D : va_G) (z : KZ) (t0 sz h0 : Nat) : Met l yX5_init (wl yX5_init cX5_init 1) { frames := 2, cells := 4, slots := 432, locals := 120 } (va_Pc [.ref h0] (Pzo D z t0 [(h0, .inr (5, fi5))] sz)) (va_Qv (fun _ : Nat → Nat => True) (fun q => Bz D sz (h0, .inr (5, fi5)) (w5 z h0 q)) (va_A [(h0, .inr (5, fi5))] sz)) 4 432 (va_A [(h0, .inr (5, fi5))] sz) := by
  refine Met.ofW (cc := cX5_init) (maxL := 1) (ret := none) (by decide) rfl ?_
  intro p e s m args below meth c s₁ B hml hv
  obtain ⟨rfl, ⟨hsz, hP, hK, hD0⟩, hO⟩ := hv
  have hx := B.exec
  have hb := B.bytes
  have hr2 := B.returns
  have hts := atoms_spec (ws := wl yX5_init cX5_init 1) B.pre
  have hown : s.vm.findClass RX5 = some m.cls := findClass_of_methodNamed B.named
  have hlocks := B.notSynchronized
  have hin : meth.name = "<init>" := (name_of_methodNamed B.named B.method).1
  subst hsz
  have hD := hD0.self (sz := s.heap.size)
  rw [lg_entry_eq]
  have hl : lv_has (lg_sl ([Value.ref h0]) ++ List.replicate (1 - (lg_sl ([Value.ref h0])).length) Slot.unset).toArray 1 (lv_args 0 ([h0].map Value.ref)) := lv_entry ([h0].map Value.ref) (n := 1) (by rw [sl_refs]; exact Nat.le_of_ble_eq_true rfl)
  generalize (lg_sl ([Value.ref h0]) ++ List.replicate (1 - (lg_sl ([Value.ref h0])).length) Slot.unset).toArray = ls at hl ⊢
  have hls : ∀ (k x : Nat), [h0][k]? = some x → ls[k]? = some (.val (.ref x)) := fun k x hk => by
    have := hl.2.2 _ (lv_refs _ 0 k x hk)
    rw [Nat.zero_add] at this
    exact this
  have C : Cz D z cX5_init 1 RX5 p s m [Value.ref h0].toArray c (va_A [(h0, .inr (5, fi5))] s.heap.size) := ⟨hx, hb, hml, hown, fun w hw => hts w (List.mem_cons_of_mem _ hw), hK, fun q h => Or.inr h⟩
  refine obj_any C obw hl.1 (by decide +kernel) (hls 0 h0 rfl) (pl := 674) (by decide +kernel) (Nat.le_of_ble_eq_true rfl) (Nat.le_of_ble_eq_true rfl) ?_
  refine run_all C hin (ci := 5) (r := (RX5, TX5, 6)) rfl hls rfl (pcE := 13) os5 4 0 0 0 fi5 [] s.heap [] (by decide +kernel) oc5 rfl hP hD va_S.rf (Nat.le_of_ble_eq_true rfl) (Nat.le_of_ble_eq_true rfl) fun q1 H1 locs1 hP1 hD1 hS1 => ?_
  refine load_any (k := 0) (ln := 1) C (by decide +kernel) (hls 0 h0 rfl) ?_
  refine new_any (ci := 6) (r := (RX6, TX6, 3)) (pl := 675) (p2 := 646) (p3 := 517) C rfl (by decide +kernel) (by decide +kernel) (by decide +kernel) ini6 hP1 hD1 hS1 (Nat.le_of_ble_eq_true rfl) (Nat.le_of_ble_eq_true rfl) fun q2 H2 hP2 hD2 hS2 => ?_
  refine dup_any C (by decide +kernel) ?_
  refine sub_call (As := []) (pl := 676) (nw := []) C hl.1 ctw6 (.inl (by decide +kernel)) (ct6 l D z t0 H2.size q2) rfl ⟨rfl, rfl, Nat.le_of_ble_eq_true rfl, Nat.le_of_ble_eq_true rfl⟩ ⟨Nat.le_of_ble_eq_true rfl, Nat.le_of_ble_eq_true rfl⟩ (Nat.le_of_ble_eq_true rfl) pzo_blind (pzo_pre C hO hP2 hD2 hS2) hP2 hD2 hS2 fun u H3 locs3 hP3 hD3 hS3 => ?_
  refine put_any (ci := 5) (r := (RX5, TX5, 6)) (slot := 1) (pf := 678) (ty := .object "SwornCourt$Laws") C hin rfl (by decide +kernel) (by decide +kernel) rfl rfl hP3 hD3 hS3 (Nat.le_of_ble_eq_true rfl) fun H4 locs4 hP4 hD4 hS4 => ?_
  refine run_all C hin (ci := 5) (r := (RX5, TX5, 6)) rfl hls rfl (pcE := 29) os5b 24 0 _ _ _ _ H4 locs4 (by decide +kernel) oc5b rfl hP4 hD4 hS4 (Nat.le_of_ble_eq_true rfl) (Nat.le_of_ble_eq_true rfl) fun q5 H5 locs5 hP5 hD5 hS5 => ?_
  exact W.vret hx hb hr2 (fun t ht hW => ⟨⟨fun i => [q1 0, q2, u 0, u 1].getD i 0, rfl, trivial, by rw [ht]; exact hP5, hD5⟩, hS5.F ht⟩) hS5.2.2 (by decide +kernel) hlocks
