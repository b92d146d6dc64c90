/-! the classes, by their numbers in vwCl -/
def x_cl : Nat → vw_C
  | 0 => (RX0, TX0, 3)
  | 1 => (RX1, TX1, 6)
  | 2 => (RX2, TX2, 2)
  | 3 => (RX3, TX3, 3)
  | 4 => (RX4, TX4, 13)
  | 5 => (RX5, TX5, 12)
  | 6 => (RX6, TX6, 10)
  | 7 => (RX7, TX7, 7)
  | 8 => (RJ0, TJ0, 4)
  | _ => (RJ4, TJ4, 4)
theorem xc_in0 : GoodIn x_tbl (u_ws RX0 TX0 3) := goodIn_r _ [292, 294, 296] (by decide +kernel) (by decide +kernel)
theorem xc_in1 : GoodIn x_tbl (u_ws RX1 TX1 6) := goodIn_r _ [603, 605, 607, 609, 611, 613] (by decide +kernel) (by decide +kernel)
theorem xc_in2 : GoodIn x_tbl (u_ws RX2 TX2 2) := goodIn_r _ [307, 309] (by decide +kernel) (by decide +kernel)
theorem xc_in3 : GoodIn x_tbl (u_ws RX3 TX3 3) := goodIn_r _ [273, 275, 277] (by decide +kernel) (by decide +kernel)
theorem xc_in4 : GoodIn x_tbl (u_ws RX4 TX4 13) := goodIn_r _ [138, 140, 142, 144, 146, 148, 150, 152, 154, 156, 158, 160, 162] (by decide +kernel) (by decide +kernel)
theorem xc_in5 : GoodIn x_tbl (u_ws RX5 TX5 12) := goodIn_r _ [180, 182, 184, 186, 188, 190, 192, 194, 196, 198, 200, 202] (by decide +kernel) (by decide +kernel)
theorem xc_in6 : GoodIn x_tbl (u_ws RX6 TX6 10) := goodIn_r _ [240, 242, 244, 246, 248, 250, 252, 254, 256, 258] (by decide +kernel) (by decide +kernel)
theorem xc_in7 : GoodIn x_tbl (u_ws RX7 TX7 7) := goodIn_r _ [319, 321, 323, 325, 327, 329, 331] (by decide +kernel) (by decide +kernel)
theorem xc_in8 : GoodIn x_tbl (u_ws RJ0 TJ0 4) := goodIn_r _ [1030, 1032, 1034, 1036] (by decide +kernel) (by decide +kernel)
theorem xc_in9 : GoodIn x_tbl (u_ws RJ4 TJ4 4) := goodIn_r _ [828, 830, 832, 834] (by decide +kernel) (by decide +kernel)
def x_clok (q : Nat) : Prop := vwCl[q]? = some (x_cl q) ∧ (∀ w ∈ u_ws (x_cl q).1 (x_cl q).2.1 (x_cl q).2.2, w ∈ x_tb) ∧ (∀ k, k < (x_cl q).2.2 → parseFieldDescriptor ((x_cl q).2.1 k).2.2.1 = some (x_ty q k)) ∧ (∀ a, a < (x_cl q).2.2 → ∀ b, b < (x_cl q).2.2 → a ≠ b → ((x_cl q).2.1 a).2.1 ≠ ((x_cl q).2.1 b).2.1) ∧ (x_cl q).2.2 = x_N q
theorem x_tb_of {ws : List Jvm.Cond} (h : GoodIn x_tbl ws) (hg : ws.all goodWord = true) : ∀ w ∈ ws, w ∈ x_tb := fun w hw => List.mem_filter.mpr ⟨(h w hw).1, List.all_eq_true.mp hg w hw⟩
theorem xc_ok : ∀ q, q < 10 → x_clok q
  | 0, _ => ⟨rfl, x_tb_of xc_in0 (by decide +kernel), tyX0_ok, nmX0, rfl⟩
  | 1, _ => ⟨rfl, x_tb_of xc_in1 (by decide +kernel), tyX1_ok, nmX1, rfl⟩
  | 2, _ => ⟨rfl, x_tb_of xc_in2 (by decide +kernel), tyX2_ok, nmX2, rfl⟩
  | 3, _ => ⟨rfl, x_tb_of xc_in3 (by decide +kernel), tyX3_ok, nmX3, rfl⟩
  | 4, _ => ⟨rfl, x_tb_of xc_in4 (by decide +kernel), tyX4_ok, nmX4, rfl⟩
  | 5, _ => ⟨rfl, x_tb_of xc_in5 (by decide +kernel), tyX5_ok, nmX5, rfl⟩
  | 6, _ => ⟨rfl, x_tb_of xc_in6 (by decide +kernel), tyX6_ok, nmX6, rfl⟩
  | 7, _ => ⟨rfl, x_tb_of xc_in7 (by decide +kernel), tyX7_ok, nmX7, rfl⟩
  | 8, _ => ⟨rfl, x_tb_of xc_in8 (by decide +kernel), tyJ0_ok, nmJ0, rfl⟩
  | 9, _ => ⟨rfl, x_tb_of xc_in9 (by decide +kernel), tyJ4_ok, nmJ4, rfl⟩
  | q + 10, h => absurd h (by omega)
