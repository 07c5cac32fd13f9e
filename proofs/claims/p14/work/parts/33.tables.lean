abbrev mm_cl : List vw_C := [(RX0, TX0, 1), (RX1, TX1, 5), (RX2, TX2, 5), (RX3, TX3, 12), (RX4, TX4, 19), (RX5, TX5, 11), (RX6, TX6, 5), (RX7, TX7, 7), (RX8, TX8, 7), (RX9, TX9, 4), (RX10, TX10, 13), (RX11, TX11, 11), (RX12, TX12, 80)]
theorem inq_0 : ∀ w ∈ u_ws RX0 TX0 1, w ∈ mm_AW := by
  intro w h
  have e : u_ws RX0 TX0 1 = [397].filterMap (fun i => lw_tbl[i]?) := by decide +kernel
  have g : (u_ws RX0 TX0 1).all goodWord = true := by decide +kernel
  have g1 := List.all_eq_true.mp g w h
  rw [e] at h
  obtain ⟨i, -, hi⟩ := List.mem_filterMap.mp h
  exact mm_aw hi g1
theorem nfs_0 : ∀ j, j < 1 → defaultValue (tyX0 j) = vp_V [.null] j := by decide +kernel
theorem inq_1 : ∀ w ∈ u_ws RX1 TX1 5, w ∈ mm_AW := by
  intro w h
  have e : u_ws RX1 TX1 5 = [254, 256, 258, 260, 262].filterMap (fun i => lw_tbl[i]?) := by decide +kernel
  have g : (u_ws RX1 TX1 5).all goodWord = true := by decide +kernel
  have g1 := List.all_eq_true.mp g w h
  rw [e] at h
  obtain ⟨i, -, hi⟩ := List.mem_filterMap.mp h
  exact mm_aw hi g1
theorem nfs_1 : ∀ j, j < 5 → defaultValue (tyX1 j) = vp_V [.null, .null, .null, .null, .int 0] j := by decide +kernel
theorem inq_2 : ∀ w ∈ u_ws RX2 TX2 5, w ∈ mm_AW := by
  intro w h
  have e : u_ws RX2 TX2 5 = [607, 609, 611, 613, 615].filterMap (fun i => lw_tbl[i]?) := by decide +kernel
  have g : (u_ws RX2 TX2 5).all goodWord = true := by decide +kernel
  have g1 := List.all_eq_true.mp g w h
  rw [e] at h
  obtain ⟨i, -, hi⟩ := List.mem_filterMap.mp h
  exact mm_aw hi g1
theorem nfs_2 : ∀ j, j < 5 → defaultValue (tyX2 j) = vp_V [.int 0, .null, .null, .null, .int 0] j := by decide +kernel
theorem inq_3 : ∀ w ∈ u_ws RX3 TX3 12, w ∈ mm_AW := by
  intro w h
  have e : u_ws RX3 TX3 12 = [298, 300, 302, 304, 306, 308, 310, 312, 314, 316, 318, 320].filterMap (fun i => lw_tbl[i]?) := by decide +kernel
  have g : (u_ws RX3 TX3 12).all goodWord = true := by decide +kernel
  have g1 := List.all_eq_true.mp g w h
  rw [e] at h
  obtain ⟨i, -, hi⟩ := List.mem_filterMap.mp h
  exact mm_aw hi g1
theorem nfs_3 : ∀ j, j < 12 → defaultValue (tyX3 j) = vp_V [.int 0, .int 0, .int 0, .int 0, .int 0, .null, .null, .null, .null, .null, .null, .null] j := by decide +kernel
theorem inq_4 : ∀ w ∈ u_ws RX4 TX4 19, w ∈ mm_AW := by
  intro w h
  have e : u_ws RX4 TX4 19 = [351, 353, 355, 357, 359, 361, 363, 365, 367, 369, 371, 373, 375, 377, 379, 381, 383, 385, 387].filterMap (fun i => lw_tbl[i]?) := by decide +kernel
  have g : (u_ws RX4 TX4 19).all goodWord = true := by decide +kernel
  have g1 := List.all_eq_true.mp g w h
  rw [e] at h
  obtain ⟨i, -, hi⟩ := List.mem_filterMap.mp h
  exact mm_aw hi g1
theorem nfs_4 : ∀ j, j < 19 → defaultValue (tyX4 j) = vp_V [.int 0, .null, .null, .null, .int 0, .int 0, .int 0, .int 0, .int 0, .int 0, .int 0, .int 0, .int 0, .int 0, .null, .null, .null, .null, .null] j := by decide +kernel
theorem inq_5 : ∀ w ∈ u_ws RX5 TX5 11, w ∈ mm_AW := by
  intro w h
  have e : u_ws RX5 TX5 11 = [527, 529, 531, 533, 535, 537, 539, 541, 543, 545, 547].filterMap (fun i => lw_tbl[i]?) := by decide +kernel
  have g : (u_ws RX5 TX5 11).all goodWord = true := by decide +kernel
  have g1 := List.all_eq_true.mp g w h
  rw [e] at h
  obtain ⟨i, -, hi⟩ := List.mem_filterMap.mp h
  exact mm_aw hi g1
theorem nfs_5 : ∀ j, j < 11 → defaultValue (tyX5 j) = vp_V [.int 0, .int 0, .int 0, .null, .null, .null, .null, .null, .null, .int 0, .int 0] j := by decide +kernel
theorem inq_6 : ∀ w ∈ u_ws RX6 TX6 5, w ∈ mm_AW := by
  intro w h
  have e : u_ws RX6 TX6 5 = [449, 451, 453, 455, 457].filterMap (fun i => lw_tbl[i]?) := by decide +kernel
  have g : (u_ws RX6 TX6 5).all goodWord = true := by decide +kernel
  have g1 := List.all_eq_true.mp g w h
  rw [e] at h
  obtain ⟨i, -, hi⟩ := List.mem_filterMap.mp h
  exact mm_aw hi g1
theorem nfs_6 : ∀ j, j < 5 → defaultValue (tyX6 j) = vp_V [.null, .int 0, .null, .null, .null] j := by decide +kernel
theorem inq_7 : ∀ w ∈ u_ws RX7 TX7 7, w ∈ mm_AW := by
  intro w h
  have e : u_ws RX7 TX7 7 = [586, 588, 590, 592, 594, 596, 598].filterMap (fun i => lw_tbl[i]?) := by decide +kernel
  have g : (u_ws RX7 TX7 7).all goodWord = true := by decide +kernel
  have g1 := List.all_eq_true.mp g w h
  rw [e] at h
  obtain ⟨i, -, hi⟩ := List.mem_filterMap.mp h
  exact mm_aw hi g1
theorem nfs_7 : ∀ j, j < 7 → defaultValue (tyX7 j) = vp_V [.null, .null, .null, .null, .int 0, .int 0, .int 0] j := by decide +kernel
theorem inq_8 : ∀ w ∈ u_ws RX8 TX8 7, w ∈ mm_AW := by
  intro w h
  have e : u_ws RX8 TX8 7 = [218, 220, 222, 224, 226, 228, 230].filterMap (fun i => lw_tbl[i]?) := by decide +kernel
  have g : (u_ws RX8 TX8 7).all goodWord = true := by decide +kernel
  have g1 := List.all_eq_true.mp g w h
  rw [e] at h
  obtain ⟨i, -, hi⟩ := List.mem_filterMap.mp h
  exact mm_aw hi g1
theorem nfs_8 : ∀ j, j < 7 → defaultValue (tyX8 j) = vp_V [.int 0, .null, .null, .null, .null, .null, .int 0] j := by decide +kernel
theorem inq_9 : ∀ w ∈ u_ws RX9 TX9 4, w ∈ mm_AW := by
  intro w h
  have e : u_ws RX9 TX9 4 = [426, 428, 430, 432].filterMap (fun i => lw_tbl[i]?) := by decide +kernel
  have g : (u_ws RX9 TX9 4).all goodWord = true := by decide +kernel
  have g1 := List.all_eq_true.mp g w h
  rw [e] at h
  obtain ⟨i, -, hi⟩ := List.mem_filterMap.mp h
  exact mm_aw hi g1
theorem nfs_9 : ∀ j, j < 4 → defaultValue (tyX9 j) = vp_V [.null, .null, .null, .null] j := by decide +kernel
theorem inq_10 : ∀ w ∈ u_ws RX10 TX10 13, w ∈ mm_AW := by
  intro w h
  have e : u_ws RX10 TX10 13 = [480, 482, 484, 486, 488, 490, 492, 494, 496, 498, 500, 502, 504].filterMap (fun i => lw_tbl[i]?) := by decide +kernel
  have g : (u_ws RX10 TX10 13).all goodWord = true := by decide +kernel
  have g1 := List.all_eq_true.mp g w h
  rw [e] at h
  obtain ⟨i, -, hi⟩ := List.mem_filterMap.mp h
  exact mm_aw hi g1
theorem nfs_10 : ∀ j, j < 13 → defaultValue (tyX10 j) = vp_V [.int 0, .null, .null, .null, .null, .null, .null, .null, .null, .null, .null, .null, .int 0] j := by decide +kernel
theorem inq_11 : ∀ w ∈ u_ws RX11 TX11 11, w ∈ mm_AW := by
  intro w h
  have e : u_ws RX11 TX11 11 = [860, 862, 864, 866, 868, 870, 872, 874, 876, 878, 880].filterMap (fun i => lw_tbl[i]?) := by decide +kernel
  have g : (u_ws RX11 TX11 11).all goodWord = true := by decide +kernel
  have g1 := List.all_eq_true.mp g w h
  rw [e] at h
  obtain ⟨i, -, hi⟩ := List.mem_filterMap.mp h
  exact mm_aw hi g1
theorem nfs_11 : ∀ j, j < 11 → defaultValue (tyX11 j) = vp_V [.null, .null, .null, .null, .null, .null, .null, .null, .null, .null, .null] j := by decide +kernel
theorem inq_12 : ∀ w ∈ u_ws RX12 TX12 80, w ∈ mm_AW := by
  intro w h
  have e : u_ws RX12 TX12 80 = [1495, 1497, 1499, 1501, 1503, 1505, 1507, 1509, 1511, 1513, 1515, 1517, 1519, 1521, 1523, 1525, 1527, 1529, 1531, 1533, 1535, 1537, 1539, 1541, 1543, 1545, 1547, 1549, 1551, 1553, 1555, 1557, 1559, 1561, 1563, 1565, 1567, 1569, 1571, 1573, 1575, 1577, 1579, 1581, 1583, 1585, 1587, 1589, 1591, 1593, 1595, 1597, 1599, 1601, 1603, 1605, 1607, 1609, 1611, 1613, 1615, 1617, 1619, 1621, 1623, 1625, 1627, 1629, 1631, 1633, 1635, 1637, 1639, 1641, 1643, 1645, 1647, 1649, 1651, 1653].filterMap (fun i => lw_tbl[i]?) := by decide +kernel
  have g : (u_ws RX12 TX12 80).all goodWord = true := by decide +kernel
  have g1 := List.all_eq_true.mp g w h
  rw [e] at h
  obtain ⟨i, -, hi⟩ := List.mem_filterMap.mp h
  exact mm_aw hi g1
theorem nfs_12 : ∀ j, j < 80 → defaultValue (tyX12 j) = vp_V [.int 0, .null, .int 0, .null, .int 0, .null, .null, .null, .null, .null, .int 0, .int 0, .int 0, .int 0, .int 0, .int 0, .int 0, .int 0, .int 0, .int 0, .int 0, .null, .null, .null, .null, .null, .null, .null, .null, .null, .null, .null, .null, .null, .null, .null, .null, .null, .int 0, .null, .null, .null, .null, .null, .int 0, .null, .null, .null, .int 0, .null, .null, .int 0, .null, .null, .null, .int 0, .null, .null, .int 0, .int 0, .int 0, .null, .null, .null, .null, .null, .null, .int 0, .null, .null, .null, .null, .int 0, .null, .null, .null, .null, .null, .null, .null] j := by decide +kernel
def mm_sl : List (List Int32) := [[5, 3, 4, 2], [4, 2, 5, 3], [1, 0, (-1), 0], [0, 1, 0, (-1)], [1, 10, 100, 1000, 10000, 100000, 1000000]]
def mm_sn : List String := ["COMES_BENEATH", "COMES_TOP", "STEP_X", "STEP_Y", "TENS"]
def mm_xt : mm_X := fun j => mm_sl[j]?
def mm_sb : List (List Int32) := [[121, 97, 114, 100, 32, 115, 104, 117, 116, 32, 112, 97, 105, 110, 116, 32, 99, 114, 97, 116, 101, 32, 112, 114, 105, 110, 116, 115, 32, 116, 97, 107, 101, 115, 32, 99, 111, 115, 116, 115, 32, 115, 108, 105, 112, 115, 32, 115, 101, 101, 100, 32, 105, 102, 32, 116, 104, 101, 110, 32, 101, 108, 115, 101, 32, 108, 101, 102, 116, 32, 116, 111, 112, 32, 102, 108, 97, 103, 32, 111, 118, 101, 114, 32, 98, 101, 110, 101, 97, 116, 104, 32, 116, 105, 112, 115, 32, 109, 105, 110, 117, 116, 101, 32, 119, 104, 105, 99, 104, 32, 119, 97, 121, 32], [59, 61, 43, 45, 42, 47, 60, 40, 41]]
/-- what is known of a state at every call -/
def mm_EX (f : Nat → Nat) (D : va_G) (cA : FieldType → ClassId) (U : State) : Prop :=
  va_K D mm_cl [] U ∧ mm_Ar cA U ∧ mm_Xt f mm_xt U ∧ (∀ (j : Nat) (n : String), mm_sn[j]? = some n → va_Z "TippedCrates" n "[I" (.ref (f (1000 + j))) (fun q => f 0 ≤ q) U U.heap) ∧ va_Z "java/lang/String" "COMPACT_STRINGS" "Z" (.int 1) (fun q => f 0 ≤ q) U U.heap ∧ va_Z "jdk/internal/util/Preconditions" "SIOOBE_FORMATTER" "Ljava/util/function/BiFunction;" (mm_e f (.retAddr 0)) (fun q => f 0 ≤ q) U U.heap ∧ mm_Tx f mm_sb U ∧ vk_R "TippedCrates$Tape" 27 "yard shut paint crate prints takes costs slips seed if then else left top flag over beneath tips minute which way " (f (1100 + 0)) U ∧ vk_R "TippedCrates$Tape" 70 ";=+-*/<()" (f (1100 + 1)) U ∧ va_AO "TippedCrates$State" U ∧ va_Nw (Cond.fieldLinkNest "TippedCrates$Drays" 38 "TippedCrates" "COMES_TOP" "[I" "TippedCrates") U ∧ va_Nw (Cond.fieldLinkNest "TippedCrates$Drays" 41 "TippedCrates" "COMES_BENEATH" "[I" "TippedCrates") U ∧ va_Nw (Cond.fieldLinkNest "TippedCrates$Drays" 60 "TippedCrates" "STEP_X" "[I" "TippedCrates") U ∧ va_Nw (Cond.fieldLinkNest "TippedCrates$Drays" 66 "TippedCrates" "STEP_Y" "[I" "TippedCrates") U ∧ va_Nw (Cond.methodLinkNest "TippedCrates$Drays" 104 (⟨"TippedCrates", "turnFaces", "([III)V"⟩ : MethodName) "TippedCrates") U ∧ va_Nw (Cond.methodLinkNest "TippedCrates$Past" 24 (⟨"TippedCrates$State", "<init>", "()V"⟩ : MethodName) "TippedCrates") U ∧ va_Nw (Cond.methodLinkNest "TippedCrates$Plan" 23 (⟨"TippedCrates$Laws", "<init>", "()V"⟩ : MethodName) "TippedCrates") U ∧ va_Nw (Cond.fieldLinkNest "TippedCrates$Plan" 64 "TippedCrates" "STEP_X" "[I" "TippedCrates") U ∧ va_Nw (Cond.fieldLinkNest "TippedCrates$Plan" 67 "TippedCrates" "STEP_Y" "[I" "TippedCrates") U ∧ va_Nw (Cond.methodLinkNest "TippedCrates$Plan" 70 (⟨"TippedCrates", "within", "(III)Z"⟩ : MethodName) "TippedCrates") U ∧ va_Nw (Cond.methodLinkNest "TippedCrates$Reader" 17 (⟨"TippedCrates$Laws", "<init>", "()V"⟩ : MethodName) "TippedCrates") U ∧ va_Nw (Cond.methodLinkNest "TippedCrates$Reader" 118 (⟨"TippedCrates", "within", "(III)Z"⟩ : MethodName) "TippedCrates") U ∧ va_Nw (Cond.fieldLinkNest "TippedCrates$Rows" 91 "TippedCrates" "TENS" "[I" "TippedCrates") U ∧ va_Nw (Cond.methodLinkNest "TippedCrates$Turns" 30 (⟨"TippedCrates", "turnFaces", "([III)V"⟩ : MethodName) "TippedCrates") U ∧ va_Nw (Cond.methodLinkNest "TippedCrates" 18 (⟨"TippedCrates$Plan", "<init>", "()V"⟩ : MethodName) "TippedCrates") U ∧ va_Nw (Cond.methodLinkNest "TippedCrates" 84 (⟨"TippedCrates$State", "<init>", "()V"⟩ : MethodName) "TippedCrates") U ∧ True
theorem mm_EX_go (f : Nat → Nat) (D : va_G) (cA : FieldType → ClassId) : mm_go f (mm_EX f D cA) := by
  intro u U hal hV hNf hNm hq h
  obtain ⟨hK, hA, hX, hZs, hZc, hZq, hTx, s0, s1, hAO, hN⟩ := h
  refine ⟨va_K.moved hal hK, fun ty ht => ⟨arrOfT_moved hal (hA ty ht).1, (hA ty ht).2.moved hal⟩, fun j xs hj => ((hX j xs hj).moved hal).kept hq, fun j n hj => ((hZs j n hj).moved hal).kept hq, (hZc.moved hal).kept hq, (hZq.moved hal).kept hq, vk_S.kept (vk_S.moved hal hTx) hq, hV _ _ _ _ s0, hV _ _ _ _ s1, hAO.moved hal, hNf _ _ _ _ _ _ (hN.1), hNf _ _ _ _ _ _ (hN.2.1), hNf _ _ _ _ _ _ (hN.2.2.1), hNf _ _ _ _ _ _ (hN.2.2.2.1), hNm _ _ _ _ (hN.2.2.2.2.1), hNm _ _ _ _ (hN.2.2.2.2.2.1), hNm _ _ _ _ (hN.2.2.2.2.2.2.1), hNf _ _ _ _ _ _ (hN.2.2.2.2.2.2.2.1), hNf _ _ _ _ _ _ (hN.2.2.2.2.2.2.2.2.1), hNm _ _ _ _ (hN.2.2.2.2.2.2.2.2.2.1), hNm _ _ _ _ (hN.2.2.2.2.2.2.2.2.2.2.1), hNm _ _ _ _ (hN.2.2.2.2.2.2.2.2.2.2.2.1), hNf _ _ _ _ _ _ (hN.2.2.2.2.2.2.2.2.2.2.2.2.1), hNm _ _ _ _ (hN.2.2.2.2.2.2.2.2.2.2.2.2.2.1), hNm _ _ _ _ (hN.2.2.2.2.2.2.2.2.2.2.2.2.2.2.1), hNm _ _ _ _ (hN.2.2.2.2.2.2.2.2.2.2.2.2.2.2.2.1), trivial⟩
