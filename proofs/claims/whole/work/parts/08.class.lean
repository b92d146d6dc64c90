/-! the classes, by their numbers in vwCl -/
def x_cl : Nat → vw_C
  | 0 => (RX0, TX0, 3)
  | 1 => (RX1, TX1, 6)
  | 2 => (RX2, TX2, 2)
  | 3 => (RX3, TX3, 3)
  | 4 => (RX4, TX4, 13)
  | 5 => (RX5, TX5, 12)
  | 6 => (RX6, TX6, 10)
  | 7 => (RX7, TX7, 7)
  | _ => (RX8, TX8, 34)
theorem xc_in0 : GoodIn lw_tbl (u_ws RX0 TX0 3) := goodIn_r _ [366, 368, 370] (by decide +kernel) (by decide +kernel)
theorem xc_in1 : GoodIn lw_tbl (u_ws RX1 TX1 6) := goodIn_r _ [1153, 1155, 1157, 1159, 1161, 1163] (by decide +kernel) (by decide +kernel)
theorem xc_in2 : GoodIn lw_tbl (u_ws RX2 TX2 2) := goodIn_r _ [383, 385] (by decide +kernel) (by decide +kernel)
theorem xc_in3 : GoodIn lw_tbl (u_ws RX3 TX3 3) := goodIn_r _ [347, 349, 351] (by decide +kernel) (by decide +kernel)
theorem xc_in4 : GoodIn lw_tbl (u_ws RX4 TX4 13) := goodIn_r _ [205, 207, 209, 211, 213, 215, 217, 219, 221, 223, 225, 227, 229] (by decide +kernel) (by decide +kernel)
theorem xc_in5 : GoodIn lw_tbl (u_ws RX5 TX5 12) := goodIn_r _ [249, 251, 253, 255, 257, 259, 261, 263, 265, 267, 269, 271] (by decide +kernel) (by decide +kernel)
theorem xc_in6 : GoodIn lw_tbl (u_ws RX6 TX6 10) := goodIn_r _ [314, 316, 318, 320, 322, 324, 326, 328, 330, 332] (by decide +kernel) (by decide +kernel)
theorem xc_in7 : GoodIn lw_tbl (u_ws RX7 TX7 7) := goodIn_r _ [395, 397, 399, 401, 403, 405, 407] (by decide +kernel) (by decide +kernel)
theorem xc_in8 : GoodIn lw_tbl (u_ws RX8 TX8 34) := goodIn_r _ [1276, 1278, 1280, 1282, 1284, 1286, 1288, 1290, 1292, 1294, 1296, 1298, 1300, 1302, 1304, 1306, 1308, 1310, 1312, 1314, 1316, 1318, 1320, 1322, 1324, 1326, 1328, 1330, 1332, 1334, 1336, 1338, 1340, 1342] (by decide +kernel) (by decide +kernel)
def x_clok (q : Nat) : Prop := vwCl[q]? = some (x_cl q) ∧ (∀ w ∈ u_ws (x_cl q).1 (x_cl q).2.1 (x_cl q).2.2, w ∈ x_tb) ∧ (∀ k, k < (x_cl q).2.2 → parseFieldDescriptor ((x_cl q).2.1 k).2.2.1 = some (x_ty q k)) ∧ (∀ a, a < (x_cl q).2.2 → ∀ b, b < (x_cl q).2.2 → a ≠ b → ((x_cl q).2.1 a).2.1 ≠ ((x_cl q).2.1 b).2.1) ∧ (x_cl q).2.2 = x_N q
theorem x_tb_of {ws : List Jvm.Cond} (h : GoodIn lw_tbl ws) (hg : ws.all goodWord = true) : ∀ w ∈ ws, w ∈ x_tb := fun w hw => List.mem_filter.mpr ⟨(h w hw).1, List.all_eq_true.mp hg w hw⟩
theorem xc_ok : ∀ q, q < 9 → x_clok q
  | 0, _ => ⟨rfl, x_tb_of xc_in0 (by decide +kernel), tyX0_ok, nmX0, rfl⟩
  | 1, _ => ⟨rfl, x_tb_of xc_in1 (by decide +kernel), tyX1_ok, nmX1, rfl⟩
  | 2, _ => ⟨rfl, x_tb_of xc_in2 (by decide +kernel), tyX2_ok, nmX2, rfl⟩
  | 3, _ => ⟨rfl, x_tb_of xc_in3 (by decide +kernel), tyX3_ok, nmX3, rfl⟩
  | 4, _ => ⟨rfl, x_tb_of xc_in4 (by decide +kernel), tyX4_ok, nmX4, rfl⟩
  | 5, _ => ⟨rfl, x_tb_of xc_in5 (by decide +kernel), tyX5_ok, nmX5, rfl⟩
  | 6, _ => ⟨rfl, x_tb_of xc_in6 (by decide +kernel), tyX6_ok, nmX6, rfl⟩
  | 7, _ => ⟨rfl, x_tb_of xc_in7 (by decide +kernel), tyX7_ok, nmX7, rfl⟩
  | 8, _ => ⟨rfl, x_tb_of xc_in8 (by decide +kernel), tyX8_ok, nmX8, rfl⟩
  | q + 9, h => absurd h (by omega)
