/-! one call on the new objects, for each method: the walker says true (by the kernel; printed by program) -/
def zl_t : List Nat := [252, 315, 338, 351, 374, 407, 430, 463, 496, 519, 542, 565, 588, 611, 634, 657, 710, 723, 736, 749, 762, 785, 808, 831, 864, 887, 920, 943, 966, 1019, 1042, 1065, 1098, 1151, 1194, 1237, 1270, 1283, 1346, 1409, 1472, 1505, 1528, 1561, 1584, 1607, 1640, 1673, 1726, 1749, 1772]
set_option maxRecDepth 1000000 in
theorem zk_0 : zx_T 60000 40 zm_law zx_kf 80 zx_zf [] 252 zx_w1 [] zx_h1 zx_e1 192 192 15906 = true := by decide +kernel
set_option maxRecDepth 1000000 in
theorem zk_1 : zx_T 60000 40 zm_law zx_kf 80 zx_zf [] 315 zx_w1 [] zx_h1 zx_e1 192 192 15906 = true := by decide +kernel
set_option maxRecDepth 1000000 in
theorem zk_2 : zx_T 60000 40 zm_law zx_kf 80 zx_zf [] 338 zx_w1 [] zx_h1 zx_e1 192 192 15906 = true := by decide +kernel
set_option maxRecDepth 1000000 in
theorem zk_3 : zx_T 60000 40 zm_law zx_kf 80 zx_zf [] 351 zx_w1 [] zx_h1 zx_e1 192 192 15906 = true := by decide +kernel
set_option maxRecDepth 1000000 in
theorem zk_4 : zx_T 60000 40 zm_law zx_kf 80 zx_zf [] 374 zx_w1 [] zx_h1 zx_e1 192 192 15906 = true := by decide +kernel
set_option maxRecDepth 1000000 in
theorem zk_5 : zx_T 60000 40 zm_law zx_kf 80 zx_zf [] 407 zx_w1 [] zx_h1 zx_e1 192 192 15906 = true := by decide +kernel
set_option maxRecDepth 1000000 in
theorem zk_6 : zx_T 60000 40 zm_law zx_kf 80 zx_zf [] 430 zx_w1 [] zx_h1 zx_e1 192 192 15906 = true := by decide +kernel
set_option maxRecDepth 1000000 in
theorem zk_7 : zx_T 60000 40 zm_law zx_kf 80 zx_zf [] 463 zx_w1 [] zx_h1 zx_e1 192 192 15906 = true := by decide +kernel
set_option maxRecDepth 1000000 in
theorem zk_8 : zx_T 60000 40 zm_law zx_kf 80 zx_zf [] 496 zx_w1 [] zx_h1 zx_e1 192 192 15906 = true := by decide +kernel
set_option maxRecDepth 1000000 in
theorem zk_9 : zx_T 60000 40 zm_law zx_kf 80 zx_zf [] 519 zx_w1 [] zx_h1 zx_e1 192 192 15906 = true := by decide +kernel
set_option maxRecDepth 1000000 in
theorem zk_10 : zx_T 60000 40 zm_law zx_kf 80 zx_zf [] 542 zx_w1 [] zx_h1 zx_e1 192 192 15906 = true := by decide +kernel
set_option maxRecDepth 1000000 in
theorem zk_11 : zx_T 60000 40 zm_law zx_kf 80 zx_zf [] 565 zx_w1 [] zx_h1 zx_e1 192 192 15906 = true := by decide +kernel
set_option maxRecDepth 1000000 in
theorem zk_12 : zx_T 60000 40 zm_law zx_kf 80 zx_zf [] 588 zx_w1 [] zx_h1 zx_e1 192 192 15906 = true := by decide +kernel
set_option maxRecDepth 1000000 in
theorem zk_13 : zx_T 60000 40 zm_law zx_kf 80 zx_zf [] 611 zx_w1 [] zx_h1 zx_e1 192 192 15906 = true := by decide +kernel
set_option maxRecDepth 1000000 in
theorem zk_14 : zx_T 60000 40 zm_law zx_kf 80 zx_zf [] 634 zx_w1 [] zx_h1 zx_e1 192 192 15906 = true := by decide +kernel
set_option maxRecDepth 1000000 in
theorem zk_15 : zx_T 60000 40 zm_law zx_kf 80 zx_zf [] 657 zx_w1 [] zx_h1 zx_e1 192 192 15906 = true := by decide +kernel
set_option maxRecDepth 1000000 in
theorem zk_16 : zx_T 60000 40 zm_law zx_kf 80 zx_zf [] 710 zx_w1 [] zx_h1 zx_e1 192 192 15906 = true := by decide +kernel
set_option maxRecDepth 1000000 in
theorem zk_17 : zx_T 60000 40 zm_law zx_kf 80 zx_zf [] 723 zx_w1 [] zx_h1 zx_e1 192 192 15906 = true := by decide +kernel
set_option maxRecDepth 1000000 in
theorem zk_18 : zx_T 60000 40 zm_law zx_kf 80 zx_zf [] 736 zx_w1 [] zx_h1 zx_e1 192 192 15906 = true := by decide +kernel
set_option maxRecDepth 1000000 in
theorem zk_19 : zx_T 60000 40 zm_law zx_kf 80 zx_zf [] 749 zx_w1 [] zx_h1 zx_e1 192 192 15906 = true := by decide +kernel
set_option maxRecDepth 1000000 in
theorem zk_20 : zx_T 60000 40 zm_law zx_kf 80 zx_zf [] 762 zx_w1 [] zx_h1 zx_e1 192 192 15906 = true := by decide +kernel
set_option maxRecDepth 1000000 in
theorem zk_21 : zx_T 60000 40 zm_law zx_kf 80 zx_zf [] 785 zx_w1 [] zx_h1 zx_e1 192 192 15906 = true := by decide +kernel
set_option maxRecDepth 1000000 in
theorem zk_22 : zx_T 60000 40 zm_law zx_kf 80 zx_zf [] 808 zx_w1 [] zx_h1 zx_e1 192 192 15906 = true := by decide +kernel
set_option maxRecDepth 1000000 in
theorem zk_23 : zx_T 60000 40 zm_law zx_kf 80 zx_zf [] 831 zx_w1 [] zx_h1 zx_e1 192 192 15906 = true := by decide +kernel
set_option maxRecDepth 1000000 in
theorem zk_24 : zx_T 60000 40 zm_law zx_kf 80 zx_zf [] 864 zx_w1 [] zx_h1 zx_e1 192 192 15906 = true := by decide +kernel
set_option maxRecDepth 1000000 in
theorem zk_25 : zx_T 60000 40 zm_law zx_kf 80 zx_zf [] 887 zx_w1 [] zx_h1 zx_e1 192 192 15906 = true := by decide +kernel
set_option maxRecDepth 1000000 in
theorem zk_26 : zx_T 60000 40 zm_law zx_kf 80 zx_zf [] 920 zx_w1 [] zx_h1 zx_e1 192 192 15906 = true := by decide +kernel
set_option maxRecDepth 1000000 in
theorem zk_27 : zx_T 60000 40 zm_law zx_kf 80 zx_zf [] 943 zx_w1 [] zx_h1 zx_e1 192 192 15906 = true := by decide +kernel
set_option maxRecDepth 1000000 in
theorem zk_28 : zx_T 60000 40 zm_law zx_kf 80 zx_zf [] 966 zx_w1 [] zx_h1 zx_e1 192 192 15906 = true := by decide +kernel
set_option maxRecDepth 1000000 in
theorem zk_29 : zx_T 60000 40 zm_law zx_kf 80 zx_zf [] 1019 zx_w1 [] zx_h1 zx_e1 192 192 15906 = true := by decide +kernel
set_option maxRecDepth 1000000 in
theorem zk_30 : zx_T 60000 40 zm_law zx_kf 80 zx_zf [] 1042 zx_w1 [] zx_h1 zx_e1 192 192 15906 = true := by decide +kernel
set_option maxRecDepth 1000000 in
theorem zk_31 : zx_T 60000 40 zm_law zx_kf 80 zx_zf [] 1065 zx_w1 [] zx_h1 zx_e1 192 192 15906 = true := by decide +kernel
set_option maxRecDepth 1000000 in
theorem zk_32 : zx_T 60000 40 zm_law zx_kf 80 zx_zf [] 1098 zx_w1 [] zx_h1 zx_e1 192 192 15906 = true := by decide +kernel
set_option maxRecDepth 1000000 in
theorem zk_33 : zx_T 60000 40 zm_law zx_kf 80 zx_zf [] 1151 zx_w1 [] zx_h1 zx_e1 192 192 15906 = true := by decide +kernel
set_option maxRecDepth 1000000 in
theorem zk_34 : zx_T 60000 40 zm_law zx_kf 80 zx_zf [] 1194 zx_w1 [] zx_h1 zx_e1 192 192 15906 = true := by decide +kernel
set_option maxRecDepth 1000000 in
theorem zk_35 : zx_T 60000 40 zm_law zx_kf 80 zx_zf [] 1237 zx_w1 [] zx_h1 zx_e1 192 192 15906 = true := by decide +kernel
set_option maxRecDepth 1000000 in
theorem zk_36 : zx_T 60000 40 zm_law zx_kf 80 zx_zf [] 1270 zx_w1 [] zx_h1 zx_e1 192 192 15906 = true := by decide +kernel
set_option maxRecDepth 1000000 in
theorem zk_37 : zx_T 60000 40 zm_law zx_kf 80 zx_zf [] 1283 zx_w1 [] zx_h1 zx_e1 192 192 15906 = true := by decide +kernel
set_option maxRecDepth 1000000 in
theorem zk_38 : zx_T 60000 40 zm_law zx_kf 80 zx_zf [] 1346 zx_w1 [] zx_h1 zx_e1 192 192 15906 = true := by decide +kernel
set_option maxRecDepth 1000000 in
theorem zk_39 : zx_T 60000 40 zm_law zx_kf 80 zx_zf [] 1409 zx_w1 [] zx_h1 zx_e1 192 192 15906 = true := by decide +kernel
set_option maxRecDepth 1000000 in
theorem zk_40 : zx_T 60000 40 zm_law zx_kf 80 zx_zf [] 1472 zx_w1 [] zx_h1 zx_e1 192 192 15906 = true := by decide +kernel
set_option maxRecDepth 1000000 in
theorem zk_41 : zx_T 60000 40 zm_law zx_kf 80 zx_zf [] 1505 zx_w1 [] zx_h1 zx_e1 192 192 15906 = true := by decide +kernel
set_option maxRecDepth 1000000 in
theorem zk_42 : zx_T 60000 40 zm_law zx_kf 80 zx_zf [] 1528 zx_w1 [] zx_h1 zx_e1 192 192 15906 = true := by decide +kernel
set_option maxRecDepth 1000000 in
theorem zk_43 : zx_T 60000 40 zm_law zx_kf 80 zx_zf [] 1561 zx_w1 [] zx_h1 zx_e1 192 192 15906 = true := by decide +kernel
set_option maxRecDepth 1000000 in
theorem zk_44 : zx_T 60000 40 zm_law zx_kf 80 zx_zf [] 1584 zx_w1 [] zx_h1 zx_e1 192 192 15906 = true := by decide +kernel
set_option maxRecDepth 1000000 in
theorem zk_45 : zx_T 60000 40 zm_law zx_kf 80 zx_zf [] 1607 zx_w1 [] zx_h1 zx_e1 192 192 15906 = true := by decide +kernel
set_option maxRecDepth 1000000 in
theorem zk_46 : zx_T 60000 40 zm_law zx_kf 80 zx_zf [] 1640 zx_w1 [] zx_h1 zx_e1 192 192 15906 = true := by decide +kernel
set_option maxRecDepth 1000000 in
theorem zk_47 : zx_T 60000 40 zm_law zx_kf 80 zx_zf [] 1673 zx_w1 [] zx_h1 zx_e1 192 192 15906 = true := by decide +kernel
set_option maxRecDepth 1000000 in
theorem zk_48 : zx_T 60000 40 zm_law zx_kf 80 zx_zf [] 1726 zx_w1 [] zx_h1 zx_e1 192 192 15906 = true := by decide +kernel
set_option maxRecDepth 1000000 in
theorem zk_49 : zx_T 60000 40 zm_law zx_kf 80 zx_zf [] 1749 zx_w1 [] zx_h1 zx_e1 192 192 15906 = true := by decide +kernel
set_option maxRecDepth 1000000 in
theorem zk_50 : zx_T 60000 40 zm_law zx_kf 80 zx_zf [] 1772 zx_w1 [] zx_h1 zx_e1 192 192 15906 = true := by decide +kernel
set_option maxRecDepth 1000000 in
theorem zk_51 : zx_T 60000 40 zm_law zx_kf 80 zx_zf [] 1795 zx_w1 [] zx_h1 zx_e1 192 192 15906 = true := by decide +kernel
theorem zk_all : ∀ j, j < 51 → zx_T 60000 40 zm_law zx_kf 80 zx_zf [] (zl_t.getD j 0) zx_w1 [] zx_h1 zx_e1 192 192 15906 = true := by
  intro j hj
  match j, hj with
  | 0, _ => exact zk_0
  | 1, _ => exact zk_1
  | 2, _ => exact zk_2
  | 3, _ => exact zk_3
  | 4, _ => exact zk_4
  | 5, _ => exact zk_5
  | 6, _ => exact zk_6
  | 7, _ => exact zk_7
  | 8, _ => exact zk_8
  | 9, _ => exact zk_9
  | 10, _ => exact zk_10
  | 11, _ => exact zk_11
  | 12, _ => exact zk_12
  | 13, _ => exact zk_13
  | 14, _ => exact zk_14
  | 15, _ => exact zk_15
  | 16, _ => exact zk_16
  | 17, _ => exact zk_17
  | 18, _ => exact zk_18
  | 19, _ => exact zk_19
  | 20, _ => exact zk_20
  | 21, _ => exact zk_21
  | 22, _ => exact zk_22
  | 23, _ => exact zk_23
  | 24, _ => exact zk_24
  | 25, _ => exact zk_25
  | 26, _ => exact zk_26
  | 27, _ => exact zk_27
  | 28, _ => exact zk_28
  | 29, _ => exact zk_29
  | 30, _ => exact zk_30
  | 31, _ => exact zk_31
  | 32, _ => exact zk_32
  | 33, _ => exact zk_33
  | 34, _ => exact zk_34
  | 35, _ => exact zk_35
  | 36, _ => exact zk_36
  | 37, _ => exact zk_37
  | 38, _ => exact zk_38
  | 39, _ => exact zk_39
  | 40, _ => exact zk_40
  | 41, _ => exact zk_41
  | 42, _ => exact zk_42
  | 43, _ => exact zk_43
  | 44, _ => exact zk_44
  | 45, _ => exact zk_45
  | 46, _ => exact zk_46
  | 47, _ => exact zk_47
  | 48, _ => exact zk_48
  | 49, _ => exact zk_49
  | 50, _ => exact zk_50
  | (n + 51), hj => exact absurd hj (by omega)
