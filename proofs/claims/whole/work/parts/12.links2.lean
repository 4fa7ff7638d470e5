set_option maxRecDepth 100000 in
theorem cst_ok_0 : ∀ q ∈ pCst_0, cstP q := List.forall_mem_cons.mpr ⟨(gwc_5 (i := 22) rfl rfl), List.forall_mem_cons.mpr ⟨(gwc_4 (i := 151) rfl rfl), List.forall_mem_cons.mpr ⟨(gwc_8 (i := 41) rfl rfl), List.forall_mem_cons.mpr ⟨(gwc_7 (i := 186) rfl rfl), List.forall_mem_cons.mpr ⟨(gwc_4 (i := 211) rfl rfl), List.forall_mem_cons.mpr ⟨(gwc_4 (i := 212) rfl rfl), List.forall_mem_cons.mpr ⟨(gwc_4 (i := 213) rfl rfl), fun _ h => absurd h List.not_mem_nil⟩⟩⟩⟩⟩⟩⟩
theorem cst_ok : ∀ q ∈ pCst, cstP q := cst_ok_0
set_option maxRecDepth 100000 in
theorem cstL_ok_0 : ∀ q ∈ pCstL_0, cstLP q := List.forall_mem_cons.mpr ⟨(gwc_5 (i := 128) rfl rfl), List.forall_mem_cons.mpr ⟨(gwc_1 (i := 86) rfl rfl), List.forall_mem_cons.mpr ⟨(gwc_3 (i := 133) rfl rfl), List.forall_mem_cons.mpr ⟨(gwc_6 (i := 51) rfl rfl), List.forall_mem_cons.mpr ⟨(gwc_8 (i := 121) rfl rfl), fun _ h => absurd h List.not_mem_nil⟩⟩⟩⟩⟩
theorem cstL_ok : ∀ q ∈ pCstL, cstLP q := cstL_ok_0
set_option maxRecDepth 100000 in
theorem cls_ok_0 : ∀ q ∈ pCls_0, clsP q := List.forall_mem_cons.mpr ⟨⟨(gwc_2 (i := 84) rfl rfl), (gwc_2 (i := 85) rfl rfl), (gwc_1 (i := 13) rfl rfl), by decide⟩, List.forall_mem_cons.mpr ⟨⟨(gwc_2 (i := 178) rfl rfl), (gwc_2 (i := 85) rfl rfl), (gwc_1 (i := 13) rfl rfl), by decide⟩, List.forall_mem_cons.mpr ⟨⟨(gwc_1 (i := 175) rfl rfl), (gwc_1 (i := 176) rfl rfl), (gwc_1 (i := 10) rfl rfl), by decide⟩, List.forall_mem_cons.mpr ⟨⟨(gwc_1 (i := 31) rfl rfl), (gwc_1 (i := 32) rfl rfl), (gwc_1 (i := 2) rfl rfl), by decide⟩, List.forall_mem_cons.mpr ⟨⟨(gwc_1 (i := 110) rfl rfl), (gwc_1 (i := 111) rfl rfl), (gwc_1 (i := 7) rfl rfl), by decide⟩, List.forall_mem_cons.mpr ⟨⟨(gwc_1 (i := 138) rfl rfl), (gwc_1 (i := 139) rfl rfl), (gwc_1 (i := 8) rfl rfl), by decide⟩, List.forall_mem_cons.mpr ⟨⟨(gwc_1 (i := 169) rfl rfl), (gwc_1 (i := 170) rfl rfl), (gwc_1 (i := 9) rfl rfl), by decide⟩, List.forall_mem_cons.mpr ⟨⟨(gwc_2 (i := 78) rfl rfl), (gwc_2 (i := 79) rfl rfl), (gwc_1 (i := 12) rfl rfl), by decide⟩, List.forall_mem_cons.mpr ⟨⟨(gwc_2 (i := 172) rfl rfl), (gwc_2 (i := 173) rfl rfl), (gwc_1 (i := 14) rfl rfl), by decide⟩, List.forall_mem_cons.mpr ⟨⟨(gwc_2 (i := 192) rfl rfl), (gwc_2 (i := 85) rfl rfl), (gwc_1 (i := 13) rfl rfl), by decide⟩, List.forall_mem_cons.mpr ⟨⟨(gwc_2 (i := 194) rfl rfl), (gwc_2 (i := 195) rfl rfl), (gwc_1 (i := 15) rfl rfl), by decide⟩, List.forall_mem_cons.mpr ⟨⟨(gwc_2 (i := 225) rfl rfl), (gwc_2 (i := 226) rfl rfl), (gwc_1 (i := 16) rfl rfl), by decide⟩, List.forall_mem_cons.mpr ⟨⟨(gwc_3 (i := 4) rfl rfl), (gwc_3 (i := 5) rfl rfl), (gwc_1 (i := 17) rfl rfl), by decide⟩, List.forall_mem_cons.mpr ⟨⟨(gwc_1 (i := 23) rfl rfl), (gwc_1 (i := 24) rfl rfl), (gwc_1 (i := 1) rfl rfl), by decide⟩, List.forall_mem_cons.mpr ⟨⟨(gwc_6 (i := 35) rfl rfl), (gwc_6 (i := 36) rfl rfl), (gwc_1 (i := 18) rfl rfl), by decide⟩, fun _ h => absurd h List.not_mem_nil⟩⟩⟩⟩⟩⟩⟩⟩⟩⟩⟩⟩⟩⟩⟩
theorem cls_ok : ∀ q ∈ pCls, clsP q := cls_ok_0
set_option maxRecDepth 100000 in
theorem acl_ok_0 : ∀ q ∈ pAcl_0, aclP q := List.forall_mem_cons.mpr ⟨(gwc_2 (i := 178) rfl rfl), List.forall_mem_cons.mpr ⟨(gwc_2 (i := 192) rfl rfl), fun _ h => absurd h List.not_mem_nil⟩⟩
theorem acl_ok : ∀ q ∈ pAcl, aclP q := acl_ok_0
set_option maxRecDepth 100000 in
theorem oin_ok_0 : ∀ q ∈ pOin_0, oinP q := List.forall_mem_cons.mpr ⟨(gwc_2 (i := 83) rfl rfl), List.forall_mem_cons.mpr ⟨(gwc_1 (i := 115) rfl rfl), List.forall_mem_cons.mpr ⟨(gwc_2 (i := 177) rfl rfl), List.forall_mem_cons.mpr ⟨(gwc_1 (i := 180) rfl rfl), List.forall_mem_cons.mpr ⟨(gwc_2 (i := 199) rfl rfl), List.forall_mem_cons.mpr ⟨(gwc_2 (i := 230) rfl rfl), List.forall_mem_cons.mpr ⟨(gwc_3 (i := 9) rfl rfl), List.forall_mem_cons.mpr ⟨(gwc_2 (i := 89) rfl rfl), List.forall_mem_cons.mpr ⟨(gwc_1 (i := 143) rfl rfl), List.forall_mem_cons.mpr ⟨(gwc_1 (i := 174) rfl rfl), List.forall_mem_cons.mpr ⟨(gwc_1 (i := 36) rfl rfl), List.forall_mem_cons.mpr ⟨(gwc_1 (i := 28) rfl rfl), List.forall_mem_cons.mpr ⟨(gwc_6 (i := 40) rfl rfl), fun _ h => absurd h List.not_mem_nil⟩⟩⟩⟩⟩⟩⟩⟩⟩⟩⟩⟩⟩
theorem oin_ok : ∀ q ∈ pOin, oinP q := oin_ok_0
set_option maxRecDepth 100000 in
theorem cpy_ok_0 : ∀ q ∈ pCpy_0, cpyP q := List.forall_mem_cons.mpr ⟨(gwc_5 (i := 141) rfl rfl), List.forall_mem_cons.mpr ⟨(gwc_4 (i := 235) rfl rfl), fun _ h => absurd h List.not_mem_nil⟩⟩
theorem cpy_ok : ∀ q ∈ pCpy, cpyP q := cpy_ok_0
set_option maxRecDepth 100000 in
theorem mth_ok_0 : ∀ q ∈ pMth_0, mthP q := List.forall_mem_cons.mpr ⟨(gwc_4 (i := 32) rfl rfl), List.forall_mem_cons.mpr ⟨(gwc_4 (i := 238) rfl rfl), List.forall_mem_cons.mpr ⟨(gwc_4 (i := 187) rfl rfl), List.forall_mem_cons.mpr ⟨(gwc_5 (i := 125) rfl rfl), List.forall_mem_cons.mpr ⟨(gwc_6 (i := 3) rfl rfl), List.forall_mem_cons.mpr ⟨(gwc_4 (i := 194) rfl rfl), List.forall_mem_cons.mpr ⟨(gwc_4 (i := 195) rfl rfl), List.forall_mem_cons.mpr ⟨(gwc_3 (i := 157) rfl rfl), List.forall_mem_cons.mpr ⟨(gwc_3 (i := 154) rfl rfl), fun _ h => absurd h List.not_mem_nil⟩⟩⟩⟩⟩⟩⟩⟩⟩
theorem mth_ok : ∀ q ∈ pMth, mthP q := mth_ok_0
set_option maxRecDepth 20000 in
theorem w_arr_int : Cond.arrayClass .int ∈ gw := (gwc_1 (i := 106) rfl rfl)
set_option maxRecDepth 20000 in
theorem w_arr_boolean : Cond.arrayClass .boolean ∈ gw := (gwc_1 (i := 107) rfl rfl)
set_option maxRecDepth 20000 in
theorem w_arr_long : Cond.arrayClass .long ∈ gw := (gwc_1 (i := 108) rfl rfl)
set_option maxRecDepth 20000 in
theorem w_arr_byte : Cond.arrayClass .byte ∈ gw := (gwc_1 (i := 109) rfl rfl)
set_option maxRecDepth 20000 in
theorem w_oinM : Cond.instanceMethod objectInit ∈ gw ∧ Cond.code objectInit ⟨#[0xb1]⟩ 1 none ∈ gw := ⟨(gwc_1 (i := 29) rfl rfl), (gwc_1 (i := 30) rfl rfl)⟩
set_option maxRecDepth 20000 in
theorem w_cpyM : Cond.native arraycopyName ∈ gw ∧ Cond.static arraycopyName ∈ gw ∧ Cond.initialized "java/lang/System" ∈ gw := ⟨(gwc_4 (i := 237) rfl rfl), (gwc_4 (i := 236) rfl rfl), (gwc_1 (i := 22) rfl rfl)⟩
set_option maxRecDepth 20000 in
theorem w_mmax : Cond.static Lib.Math.max.name ∈ gw ∧ Cond.initialized "java/lang/Math" ∈ gw ∧ Cond.code Lib.Math.max.name Lib.Math.max.code 2 (some .int) ∈ gw := ⟨(gwc_3 (i := 155) rfl rfl), (gwc_1 (i := 19) rfl rfl), (gwc_3 (i := 156) rfl rfl)⟩
set_option maxRecDepth 20000 in
theorem w_mmin : Cond.static Lib.Math.min.name ∈ gw ∧ Cond.initialized "java/lang/Math" ∈ gw ∧ Cond.code Lib.Math.min.name Lib.Math.min.code 2 (some .int) ∈ gw := ⟨(gwc_3 (i := 158) rfl rfl), (gwc_1 (i := 19) rfl rfl), (gwc_3 (i := 159) rfl rfl)⟩
set_option maxRecDepth 20000 in
theorem w_mminJ : Cond.static Lib.MathLoose.min_long.x ∈ gw ∧ Cond.initialized "java/lang/Math" ∈ gw ∧ Cond.code Lib.MathLoose.min_long.x Lib.MathLoose.min_long.code 4 (some .long) ∈ gw := ⟨(gwc_6 (i := 4) rfl rfl), (gwc_1 (i := 19) rfl rfl), (gwc_6 (i := 5) rfl rfl)⟩
set_option maxRecDepth 20000 in
theorem lay_0_0 : u_lay RX0 TX0 0 ∈ gw := (gwc_2 (i := 161) rfl rfl)
set_option maxRecDepth 20000 in
theorem lay_0_1 : u_lay RX0 TX0 1 ∈ gw := (gwc_2 (i := 163) rfl rfl)
set_option maxRecDepth 20000 in
theorem lay_0_2 : u_lay RX0 TX0 2 ∈ gw := (gwc_2 (i := 165) rfl rfl)
set_option maxRecDepth 20000 in
theorem lay_0_3 : u_lay RX0 TX0 3 ∈ gw := (gwc_2 (i := 167) rfl rfl)
set_option maxRecDepth 20000 in
theorem lay_0_4 : u_lay RX0 TX0 4 ∈ gw := (gwc_2 (i := 169) rfl rfl)
set_option maxRecDepth 100000 in
theorem lays_0 : ∀ w ∈ wsX00, w ∈ gw := by
  show ∀ w ∈ [u_lay RX0 TX0 0, u_lay RX0 TX0 1, u_lay RX0 TX0 2, u_lay RX0 TX0 3, u_lay RX0 TX0 4], w ∈ gw
  exact List.forall_mem_cons.mpr ⟨lay_0_0, List.forall_mem_cons.mpr ⟨lay_0_1, List.forall_mem_cons.mpr ⟨lay_0_2, List.forall_mem_cons.mpr ⟨lay_0_3, List.forall_mem_cons.mpr ⟨lay_0_4, fun _ h => absurd h List.not_mem_nil⟩⟩⟩⟩⟩
set_option maxRecDepth 20000 in
theorem lay_1_0 : u_lay RX1 TX1 0 ∈ gw := (gwc_1 (i := 123) rfl rfl)
set_option maxRecDepth 20000 in
theorem lay_1_1 : u_lay RX1 TX1 1 ∈ gw := (gwc_1 (i := 125) rfl rfl)
set_option maxRecDepth 20000 in
theorem lay_1_2 : u_lay RX1 TX1 2 ∈ gw := (gwc_1 (i := 127) rfl rfl)
set_option maxRecDepth 20000 in
theorem lay_1_3 : u_lay RX1 TX1 3 ∈ gw := (gwc_1 (i := 129) rfl rfl)
set_option maxRecDepth 20000 in
theorem lay_1_4 : u_lay RX1 TX1 4 ∈ gw := (gwc_1 (i := 131) rfl rfl)
set_option maxRecDepth 20000 in
theorem lay_1_5 : u_lay RX1 TX1 5 ∈ gw := (gwc_1 (i := 133) rfl rfl)
set_option maxRecDepth 20000 in
theorem lay_1_6 : u_lay RX1 TX1 6 ∈ gw := (gwc_1 (i := 135) rfl rfl)
set_option maxRecDepth 100000 in
theorem lays_1 : ∀ w ∈ wsX10, w ∈ gw := by
  show ∀ w ∈ [u_lay RX1 TX1 0, u_lay RX1 TX1 1, u_lay RX1 TX1 2, u_lay RX1 TX1 3, u_lay RX1 TX1 4, u_lay RX1 TX1 5, u_lay RX1 TX1 6], w ∈ gw
  exact List.forall_mem_cons.mpr ⟨lay_1_0, List.forall_mem_cons.mpr ⟨lay_1_1, List.forall_mem_cons.mpr ⟨lay_1_2, List.forall_mem_cons.mpr ⟨lay_1_3, List.forall_mem_cons.mpr ⟨lay_1_4, List.forall_mem_cons.mpr ⟨lay_1_5, List.forall_mem_cons.mpr ⟨lay_1_6, fun _ h => absurd h List.not_mem_nil⟩⟩⟩⟩⟩⟩⟩
set_option maxRecDepth 20000 in
theorem lay_2_0 : u_lay RX2 TX2 0 ∈ gw := (gwc_2 (i := 185) rfl rfl)
set_option maxRecDepth 20000 in
theorem lay_2_1 : u_lay RX2 TX2 1 ∈ gw := (gwc_2 (i := 187) rfl rfl)
set_option maxRecDepth 20000 in
theorem lay_2_2 : u_lay RX2 TX2 2 ∈ gw := (gwc_2 (i := 189) rfl rfl)
set_option maxRecDepth 100000 in
theorem lays_2 : ∀ w ∈ wsX20, w ∈ gw := by
  show ∀ w ∈ [u_lay RX2 TX2 0, u_lay RX2 TX2 1, u_lay RX2 TX2 2], w ∈ gw
  exact List.forall_mem_cons.mpr ⟨lay_2_0, List.forall_mem_cons.mpr ⟨lay_2_1, List.forall_mem_cons.mpr ⟨lay_2_2, fun _ h => absurd h List.not_mem_nil⟩⟩⟩
set_option maxRecDepth 20000 in
theorem lay_3_0 : u_lay RX3 TX3 0 ∈ gw := (gwc_1 (i := 184) rfl rfl)
set_option maxRecDepth 20000 in
theorem lay_3_1 : u_lay RX3 TX3 1 ∈ gw := (gwc_1 (i := 186) rfl rfl)
set_option maxRecDepth 20000 in
theorem lay_3_2 : u_lay RX3 TX3 2 ∈ gw := (gwc_1 (i := 188) rfl rfl)
set_option maxRecDepth 100000 in
theorem lays_3 : ∀ w ∈ wsX30, w ∈ gw := by
  show ∀ w ∈ [u_lay RX3 TX3 0, u_lay RX3 TX3 1, u_lay RX3 TX3 2], w ∈ gw
  exact List.forall_mem_cons.mpr ⟨lay_3_0, List.forall_mem_cons.mpr ⟨lay_3_1, List.forall_mem_cons.mpr ⟨lay_3_2, fun _ h => absurd h List.not_mem_nil⟩⟩⟩
set_option maxRecDepth 20000 in
theorem lay_4_0 : u_lay RX4 TX4 0 ∈ gw := (gwc_2 (i := 208) rfl rfl)
set_option maxRecDepth 20000 in
theorem lay_4_1 : u_lay RX4 TX4 1 ∈ gw := (gwc_2 (i := 210) rfl rfl)
set_option maxRecDepth 20000 in
theorem lay_4_2 : u_lay RX4 TX4 2 ∈ gw := (gwc_2 (i := 212) rfl rfl)
set_option maxRecDepth 20000 in
theorem lay_4_3 : u_lay RX4 TX4 3 ∈ gw := (gwc_2 (i := 214) rfl rfl)
set_option maxRecDepth 20000 in
theorem lay_4_4 : u_lay RX4 TX4 4 ∈ gw := (gwc_2 (i := 216) rfl rfl)
set_option maxRecDepth 20000 in
theorem lay_4_5 : u_lay RX4 TX4 5 ∈ gw := (gwc_2 (i := 218) rfl rfl)
set_option maxRecDepth 20000 in
theorem lay_4_6 : u_lay RX4 TX4 6 ∈ gw := (gwc_2 (i := 220) rfl rfl)
set_option maxRecDepth 20000 in
theorem lay_4_7 : u_lay RX4 TX4 7 ∈ gw := (gwc_2 (i := 222) rfl rfl)
set_option maxRecDepth 100000 in
theorem lays_4 : ∀ w ∈ wsX40, w ∈ gw := by
  show ∀ w ∈ [u_lay RX4 TX4 0, u_lay RX4 TX4 1, u_lay RX4 TX4 2, u_lay RX4 TX4 3, u_lay RX4 TX4 4, u_lay RX4 TX4 5, u_lay RX4 TX4 6, u_lay RX4 TX4 7], w ∈ gw
  exact List.forall_mem_cons.mpr ⟨lay_4_0, List.forall_mem_cons.mpr ⟨lay_4_1, List.forall_mem_cons.mpr ⟨lay_4_2, List.forall_mem_cons.mpr ⟨lay_4_3, List.forall_mem_cons.mpr ⟨lay_4_4, List.forall_mem_cons.mpr ⟨lay_4_5, List.forall_mem_cons.mpr ⟨lay_4_6, List.forall_mem_cons.mpr ⟨lay_4_7, fun _ h => absurd h List.not_mem_nil⟩⟩⟩⟩⟩⟩⟩⟩
set_option maxRecDepth 20000 in
theorem lay_5_0 : u_lay RX5 TX5 0 ∈ gw := (gwc_2 (i := 237) rfl rfl)
set_option maxRecDepth 20000 in
theorem lay_5_1 : u_lay RX5 TX5 1 ∈ gw := (gwc_2 (i := 239) rfl rfl)
set_option maxRecDepth 20000 in
theorem lay_5_2 : u_lay RX5 TX5 2 ∈ gw := (gwc_3 (i := 1) rfl rfl)
set_option maxRecDepth 100000 in
theorem lays_5 : ∀ w ∈ wsX50, w ∈ gw := by
  show ∀ w ∈ [u_lay RX5 TX5 0, u_lay RX5 TX5 1, u_lay RX5 TX5 2], w ∈ gw
  exact List.forall_mem_cons.mpr ⟨lay_5_0, List.forall_mem_cons.mpr ⟨lay_5_1, List.forall_mem_cons.mpr ⟨lay_5_2, fun _ h => absurd h List.not_mem_nil⟩⟩⟩
set_option maxRecDepth 20000 in
theorem lay_6_0 : u_lay RX6 TX6 0 ∈ gw := (gwc_3 (i := 13) rfl rfl)
set_option maxRecDepth 20000 in
theorem lay_6_1 : u_lay RX6 TX6 1 ∈ gw := (gwc_3 (i := 15) rfl rfl)
set_option maxRecDepth 20000 in
theorem lay_6_2 : u_lay RX6 TX6 2 ∈ gw := (gwc_3 (i := 17) rfl rfl)
set_option maxRecDepth 100000 in
theorem lays_6 : ∀ w ∈ wsX60, w ∈ gw := by
  show ∀ w ∈ [u_lay RX6 TX6 0, u_lay RX6 TX6 1, u_lay RX6 TX6 2], w ∈ gw
  exact List.forall_mem_cons.mpr ⟨lay_6_0, List.forall_mem_cons.mpr ⟨lay_6_1, List.forall_mem_cons.mpr ⟨lay_6_2, fun _ h => absurd h List.not_mem_nil⟩⟩⟩
set_option maxRecDepth 20000 in
theorem lay_7_0 : u_lay RX7 TX7 0 ∈ gw := (gwc_2 (i := 123) rfl rfl)
set_option maxRecDepth 20000 in
theorem lay_7_1 : u_lay RX7 TX7 1 ∈ gw := (gwc_2 (i := 125) rfl rfl)
set_option maxRecDepth 20000 in
theorem lay_7_2 : u_lay RX7 TX7 2 ∈ gw := (gwc_2 (i := 127) rfl rfl)
set_option maxRecDepth 20000 in
theorem lay_7_3 : u_lay RX7 TX7 3 ∈ gw := (gwc_2 (i := 129) rfl rfl)
set_option maxRecDepth 20000 in
theorem lay_7_4 : u_lay RX7 TX7 4 ∈ gw := (gwc_2 (i := 131) rfl rfl)
set_option maxRecDepth 20000 in
theorem lay_7_5 : u_lay RX7 TX7 5 ∈ gw := (gwc_2 (i := 133) rfl rfl)
set_option maxRecDepth 20000 in
theorem lay_7_6 : u_lay RX7 TX7 6 ∈ gw := (gwc_2 (i := 135) rfl rfl)
set_option maxRecDepth 20000 in
theorem lay_7_7 : u_lay RX7 TX7 7 ∈ gw := (gwc_2 (i := 137) rfl rfl)
set_option maxRecDepth 20000 in
theorem lay_7_8 : u_lay RX7 TX7 8 ∈ gw := (gwc_2 (i := 139) rfl rfl)
set_option maxRecDepth 20000 in
theorem lay_7_9 : u_lay RX7 TX7 9 ∈ gw := (gwc_2 (i := 141) rfl rfl)
set_option maxRecDepth 20000 in
theorem lay_7_10 : u_lay RX7 TX7 10 ∈ gw := (gwc_2 (i := 143) rfl rfl)
set_option maxRecDepth 20000 in
theorem lay_7_11 : u_lay RX7 TX7 11 ∈ gw := (gwc_2 (i := 145) rfl rfl)
set_option maxRecDepth 100000 in
theorem lays_7 : ∀ w ∈ wsX70, w ∈ gw := by
  show ∀ w ∈ [u_lay RX7 TX7 0, u_lay RX7 TX7 1, u_lay RX7 TX7 2, u_lay RX7 TX7 3, u_lay RX7 TX7 4, u_lay RX7 TX7 5, u_lay RX7 TX7 6, u_lay RX7 TX7 7, u_lay RX7 TX7 8, u_lay RX7 TX7 9, u_lay RX7 TX7 10, u_lay RX7 TX7 11], w ∈ gw
  exact List.forall_mem_cons.mpr ⟨lay_7_0, List.forall_mem_cons.mpr ⟨lay_7_1, List.forall_mem_cons.mpr ⟨lay_7_2, List.forall_mem_cons.mpr ⟨lay_7_3, List.forall_mem_cons.mpr ⟨lay_7_4, List.forall_mem_cons.mpr ⟨lay_7_5, List.forall_mem_cons.mpr ⟨lay_7_6, List.forall_mem_cons.mpr ⟨lay_7_7, List.forall_mem_cons.mpr ⟨lay_7_8, List.forall_mem_cons.mpr ⟨lay_7_9, List.forall_mem_cons.mpr ⟨lay_7_10, List.forall_mem_cons.mpr ⟨lay_7_11, fun _ h => absurd h List.not_mem_nil⟩⟩⟩⟩⟩⟩⟩⟩⟩⟩⟩⟩
set_option maxRecDepth 20000 in
theorem lay_8_0 : u_lay RX8 TX8 0 ∈ gw := (gwc_1 (i := 152) rfl rfl)
set_option maxRecDepth 20000 in
theorem lay_8_1 : u_lay RX8 TX8 1 ∈ gw := (gwc_1 (i := 154) rfl rfl)
set_option maxRecDepth 20000 in
theorem lay_8_2 : u_lay RX8 TX8 2 ∈ gw := (gwc_1 (i := 156) rfl rfl)
set_option maxRecDepth 20000 in
theorem lay_8_3 : u_lay RX8 TX8 3 ∈ gw := (gwc_1 (i := 158) rfl rfl)
set_option maxRecDepth 20000 in
theorem lay_8_4 : u_lay RX8 TX8 4 ∈ gw := (gwc_1 (i := 160) rfl rfl)
set_option maxRecDepth 20000 in
theorem lay_8_5 : u_lay RX8 TX8 5 ∈ gw := (gwc_1 (i := 162) rfl rfl)
set_option maxRecDepth 20000 in
theorem lay_8_6 : u_lay RX8 TX8 6 ∈ gw := (gwc_1 (i := 164) rfl rfl)
set_option maxRecDepth 20000 in
theorem lay_8_7 : u_lay RX8 TX8 7 ∈ gw := (gwc_1 (i := 166) rfl rfl)
set_option maxRecDepth 100000 in
theorem lays_8 : ∀ w ∈ wsX80, w ∈ gw := by
  show ∀ w ∈ [u_lay RX8 TX8 0, u_lay RX8 TX8 1, u_lay RX8 TX8 2, u_lay RX8 TX8 3, u_lay RX8 TX8 4, u_lay RX8 TX8 5, u_lay RX8 TX8 6, u_lay RX8 TX8 7], w ∈ gw
  exact List.forall_mem_cons.mpr ⟨lay_8_0, List.forall_mem_cons.mpr ⟨lay_8_1, List.forall_mem_cons.mpr ⟨lay_8_2, List.forall_mem_cons.mpr ⟨lay_8_3, List.forall_mem_cons.mpr ⟨lay_8_4, List.forall_mem_cons.mpr ⟨lay_8_5, List.forall_mem_cons.mpr ⟨lay_8_6, List.forall_mem_cons.mpr ⟨lay_8_7, fun _ h => absurd h List.not_mem_nil⟩⟩⟩⟩⟩⟩⟩⟩
set_option maxRecDepth 20000 in
theorem lay_9_0 : u_lay RX9 TX9 0 ∈ gw := (gwc_2 (i := 37) rfl rfl)
set_option maxRecDepth 20000 in
theorem lay_9_1 : u_lay RX9 TX9 1 ∈ gw := (gwc_2 (i := 39) rfl rfl)
set_option maxRecDepth 20000 in
theorem lay_9_2 : u_lay RX9 TX9 2 ∈ gw := (gwc_2 (i := 41) rfl rfl)
set_option maxRecDepth 20000 in
theorem lay_9_3 : u_lay RX9 TX9 3 ∈ gw := (gwc_2 (i := 43) rfl rfl)
set_option maxRecDepth 20000 in
theorem lay_9_4 : u_lay RX9 TX9 4 ∈ gw := (gwc_2 (i := 45) rfl rfl)
set_option maxRecDepth 20000 in
theorem lay_9_5 : u_lay RX9 TX9 5 ∈ gw := (gwc_2 (i := 47) rfl rfl)
set_option maxRecDepth 20000 in
theorem lay_9_6 : u_lay RX9 TX9 6 ∈ gw := (gwc_2 (i := 49) rfl rfl)
set_option maxRecDepth 20000 in
theorem lay_9_7 : u_lay RX9 TX9 7 ∈ gw := (gwc_2 (i := 51) rfl rfl)
set_option maxRecDepth 20000 in
theorem lay_9_8 : u_lay RX9 TX9 8 ∈ gw := (gwc_2 (i := 53) rfl rfl)
set_option maxRecDepth 20000 in
theorem lay_9_9 : u_lay RX9 TX9 9 ∈ gw := (gwc_2 (i := 55) rfl rfl)
set_option maxRecDepth 20000 in
theorem lay_9_10 : u_lay RX9 TX9 10 ∈ gw := (gwc_2 (i := 57) rfl rfl)
set_option maxRecDepth 20000 in
theorem lay_9_11 : u_lay RX9 TX9 11 ∈ gw := (gwc_2 (i := 59) rfl rfl)
set_option maxRecDepth 20000 in
theorem lay_9_12 : u_lay RX9 TX9 12 ∈ gw := (gwc_2 (i := 61) rfl rfl)
set_option maxRecDepth 20000 in
theorem lay_9_13 : u_lay RX9 TX9 13 ∈ gw := (gwc_2 (i := 63) rfl rfl)
set_option maxRecDepth 20000 in
theorem lay_9_14 : u_lay RX9 TX9 14 ∈ gw := (gwc_2 (i := 65) rfl rfl)
set_option maxRecDepth 20000 in
theorem lay_9_15 : u_lay RX9 TX9 15 ∈ gw := (gwc_2 (i := 67) rfl rfl)
set_option maxRecDepth 20000 in
theorem lay_9_16 : u_lay RX9 TX9 16 ∈ gw := (gwc_2 (i := 69) rfl rfl)
set_option maxRecDepth 20000 in
theorem lay_9_17 : u_lay RX9 TX9 17 ∈ gw := (gwc_2 (i := 71) rfl rfl)
set_option maxRecDepth 20000 in
theorem lay_9_18 : u_lay RX9 TX9 18 ∈ gw := (gwc_2 (i := 73) rfl rfl)
set_option maxRecDepth 20000 in
theorem lay_9_19 : u_lay RX9 TX9 19 ∈ gw := (gwc_2 (i := 75) rfl rfl)
set_option maxRecDepth 100000 in
theorem lays_9 : ∀ w ∈ wsX90, w ∈ gw := by
  show ∀ w ∈ [u_lay RX9 TX9 0, u_lay RX9 TX9 1, u_lay RX9 TX9 2, u_lay RX9 TX9 3, u_lay RX9 TX9 4, u_lay RX9 TX9 5, u_lay RX9 TX9 6, u_lay RX9 TX9 7, u_lay RX9 TX9 8, u_lay RX9 TX9 9, u_lay RX9 TX9 10, u_lay RX9 TX9 11, u_lay RX9 TX9 12, u_lay RX9 TX9 13, u_lay RX9 TX9 14, u_lay RX9 TX9 15, u_lay RX9 TX9 16, u_lay RX9 TX9 17, u_lay RX9 TX9 18, u_lay RX9 TX9 19], w ∈ gw
  exact List.forall_mem_cons.mpr ⟨lay_9_0, List.forall_mem_cons.mpr ⟨lay_9_1, List.forall_mem_cons.mpr ⟨lay_9_2, List.forall_mem_cons.mpr ⟨lay_9_3, List.forall_mem_cons.mpr ⟨lay_9_4, List.forall_mem_cons.mpr ⟨lay_9_5, List.forall_mem_cons.mpr ⟨lay_9_6, List.forall_mem_cons.mpr ⟨lay_9_7, List.forall_mem_cons.mpr ⟨lay_9_8, List.forall_mem_cons.mpr ⟨lay_9_9, List.forall_mem_cons.mpr ⟨lay_9_10, List.forall_mem_cons.mpr ⟨lay_9_11, List.forall_mem_cons.mpr ⟨lay_9_12, List.forall_mem_cons.mpr ⟨lay_9_13, List.forall_mem_cons.mpr ⟨lay_9_14, List.forall_mem_cons.mpr ⟨lay_9_15, List.forall_mem_cons.mpr ⟨lay_9_16, List.forall_mem_cons.mpr ⟨lay_9_17, List.forall_mem_cons.mpr ⟨lay_9_18, List.forall_mem_cons.mpr ⟨lay_9_19, fun _ h => absurd h List.not_mem_nil⟩⟩⟩⟩⟩⟩⟩⟩⟩⟩⟩⟩⟩⟩⟩⟩⟩⟩⟩⟩
set_option maxRecDepth 20000 in
theorem lay_10_0 : u_lay RX10 TX10 0 ∈ gw := (gwc_1 (i := 93) rfl rfl)
set_option maxRecDepth 20000 in
theorem lay_10_1 : u_lay RX10 TX10 1 ∈ gw := (gwc_1 (i := 95) rfl rfl)
set_option maxRecDepth 20000 in
theorem lay_10_2 : u_lay RX10 TX10 2 ∈ gw := (gwc_1 (i := 97) rfl rfl)
set_option maxRecDepth 20000 in
theorem lay_10_3 : u_lay RX10 TX10 3 ∈ gw := (gwc_1 (i := 99) rfl rfl)
set_option maxRecDepth 20000 in
theorem lay_10_4 : u_lay RX10 TX10 4 ∈ gw := (gwc_1 (i := 101) rfl rfl)
set_option maxRecDepth 20000 in
theorem lay_10_5 : u_lay RX10 TX10 5 ∈ gw := (gwc_1 (i := 103) rfl rfl)
set_option maxRecDepth 100000 in
theorem lays_10 : ∀ w ∈ wsX100, w ∈ gw := by
  show ∀ w ∈ [u_lay RX10 TX10 0, u_lay RX10 TX10 1, u_lay RX10 TX10 2, u_lay RX10 TX10 3, u_lay RX10 TX10 4, u_lay RX10 TX10 5], w ∈ gw
  exact List.forall_mem_cons.mpr ⟨lay_10_0, List.forall_mem_cons.mpr ⟨lay_10_1, List.forall_mem_cons.mpr ⟨lay_10_2, List.forall_mem_cons.mpr ⟨lay_10_3, List.forall_mem_cons.mpr ⟨lay_10_4, List.forall_mem_cons.mpr ⟨lay_10_5, fun _ h => absurd h List.not_mem_nil⟩⟩⟩⟩⟩⟩
set_option maxRecDepth 20000 in
theorem lay_11_0 : u_lay RX11 TX11 0 ∈ gw := (gwc_3 (i := 56) rfl rfl)
set_option maxRecDepth 20000 in
theorem lay_11_1 : u_lay RX11 TX11 1 ∈ gw := (gwc_3 (i := 58) rfl rfl)
set_option maxRecDepth 20000 in
theorem lay_11_2 : u_lay RX11 TX11 2 ∈ gw := (gwc_3 (i := 60) rfl rfl)
set_option maxRecDepth 20000 in
theorem lay_11_3 : u_lay RX11 TX11 3 ∈ gw := (gwc_3 (i := 62) rfl rfl)
set_option maxRecDepth 20000 in
theorem lay_11_4 : u_lay RX11 TX11 4 ∈ gw := (gwc_3 (i := 64) rfl rfl)
set_option maxRecDepth 20000 in
theorem lay_11_5 : u_lay RX11 TX11 5 ∈ gw := (gwc_3 (i := 66) rfl rfl)
set_option maxRecDepth 20000 in
theorem lay_11_6 : u_lay RX11 TX11 6 ∈ gw := (gwc_3 (i := 68) rfl rfl)
set_option maxRecDepth 20000 in
theorem lay_11_7 : u_lay RX11 TX11 7 ∈ gw := (gwc_3 (i := 70) rfl rfl)
set_option maxRecDepth 20000 in
theorem lay_11_8 : u_lay RX11 TX11 8 ∈ gw := (gwc_3 (i := 72) rfl rfl)
set_option maxRecDepth 20000 in
theorem lay_11_9 : u_lay RX11 TX11 9 ∈ gw := (gwc_3 (i := 74) rfl rfl)
set_option maxRecDepth 20000 in
theorem lay_11_10 : u_lay RX11 TX11 10 ∈ gw := (gwc_3 (i := 76) rfl rfl)
set_option maxRecDepth 20000 in
theorem lay_11_11 : u_lay RX11 TX11 11 ∈ gw := (gwc_3 (i := 78) rfl rfl)
set_option maxRecDepth 20000 in
theorem lay_11_12 : u_lay RX11 TX11 12 ∈ gw := (gwc_3 (i := 80) rfl rfl)
set_option maxRecDepth 20000 in
theorem lay_11_13 : u_lay RX11 TX11 13 ∈ gw := (gwc_3 (i := 82) rfl rfl)
set_option maxRecDepth 20000 in
theorem lay_11_14 : u_lay RX11 TX11 14 ∈ gw := (gwc_3 (i := 84) rfl rfl)
set_option maxRecDepth 20000 in
theorem lay_11_15 : u_lay RX11 TX11 15 ∈ gw := (gwc_3 (i := 86) rfl rfl)
set_option maxRecDepth 20000 in
theorem lay_11_16 : u_lay RX11 TX11 16 ∈ gw := (gwc_3 (i := 88) rfl rfl)
set_option maxRecDepth 20000 in
theorem lay_11_17 : u_lay RX11 TX11 17 ∈ gw := (gwc_3 (i := 90) rfl rfl)
set_option maxRecDepth 100000 in
theorem lays_11 : ∀ w ∈ wsX110, w ∈ gw := by
  show ∀ w ∈ [u_lay RX11 TX11 0, u_lay RX11 TX11 1, u_lay RX11 TX11 2, u_lay RX11 TX11 3, u_lay RX11 TX11 4, u_lay RX11 TX11 5, u_lay RX11 TX11 6, u_lay RX11 TX11 7, u_lay RX11 TX11 8, u_lay RX11 TX11 9, u_lay RX11 TX11 10, u_lay RX11 TX11 11, u_lay RX11 TX11 12, u_lay RX11 TX11 13, u_lay RX11 TX11 14, u_lay RX11 TX11 15, u_lay RX11 TX11 16, u_lay RX11 TX11 17], w ∈ gw
  exact List.forall_mem_cons.mpr ⟨lay_11_0, List.forall_mem_cons.mpr ⟨lay_11_1, List.forall_mem_cons.mpr ⟨lay_11_2, List.forall_mem_cons.mpr ⟨lay_11_3, List.forall_mem_cons.mpr ⟨lay_11_4, List.forall_mem_cons.mpr ⟨lay_11_5, List.forall_mem_cons.mpr ⟨lay_11_6, List.forall_mem_cons.mpr ⟨lay_11_7, List.forall_mem_cons.mpr ⟨lay_11_8, List.forall_mem_cons.mpr ⟨lay_11_9, List.forall_mem_cons.mpr ⟨lay_11_10, List.forall_mem_cons.mpr ⟨lay_11_11, List.forall_mem_cons.mpr ⟨lay_11_12, List.forall_mem_cons.mpr ⟨lay_11_13, List.forall_mem_cons.mpr ⟨lay_11_14, List.forall_mem_cons.mpr ⟨lay_11_15, List.forall_mem_cons.mpr ⟨lay_11_16, List.forall_mem_cons.mpr ⟨lay_11_17, fun _ h => absurd h List.not_mem_nil⟩⟩⟩⟩⟩⟩⟩⟩⟩⟩⟩⟩⟩⟩⟩⟩⟩⟩
set_option maxRecDepth 20000 in
theorem lay_12_0 : u_lay RX12 TX12 0 ∈ gw := (gwc_6 (i := 134) rfl rfl)
set_option maxRecDepth 20000 in
theorem lay_12_1 : u_lay RX12 TX12 1 ∈ gw := (gwc_6 (i := 136) rfl rfl)
set_option maxRecDepth 20000 in
theorem lay_12_2 : u_lay RX12 TX12 2 ∈ gw := (gwc_6 (i := 138) rfl rfl)
set_option maxRecDepth 20000 in
theorem lay_12_3 : u_lay RX12 TX12 3 ∈ gw := (gwc_6 (i := 140) rfl rfl)
set_option maxRecDepth 20000 in
theorem lay_12_4 : u_lay RX12 TX12 4 ∈ gw := (gwc_6 (i := 142) rfl rfl)
set_option maxRecDepth 20000 in
theorem lay_12_5 : u_lay RX12 TX12 5 ∈ gw := (gwc_6 (i := 144) rfl rfl)
set_option maxRecDepth 20000 in
theorem lay_12_6 : u_lay RX12 TX12 6 ∈ gw := (gwc_6 (i := 146) rfl rfl)
set_option maxRecDepth 20000 in
theorem lay_12_7 : u_lay RX12 TX12 7 ∈ gw := (gwc_6 (i := 148) rfl rfl)
set_option maxRecDepth 20000 in
theorem lay_12_8 : u_lay RX12 TX12 8 ∈ gw := (gwc_6 (i := 150) rfl rfl)
set_option maxRecDepth 20000 in
theorem lay_12_9 : u_lay RX12 TX12 9 ∈ gw := (gwc_6 (i := 152) rfl rfl)
set_option maxRecDepth 20000 in
theorem lay_12_10 : u_lay RX12 TX12 10 ∈ gw := (gwc_6 (i := 154) rfl rfl)
set_option maxRecDepth 20000 in
theorem lay_12_11 : u_lay RX12 TX12 11 ∈ gw := (gwc_6 (i := 156) rfl rfl)
set_option maxRecDepth 20000 in
theorem lay_12_12 : u_lay RX12 TX12 12 ∈ gw := (gwc_6 (i := 158) rfl rfl)
set_option maxRecDepth 20000 in
theorem lay_12_13 : u_lay RX12 TX12 13 ∈ gw := (gwc_6 (i := 160) rfl rfl)
set_option maxRecDepth 20000 in
theorem lay_12_14 : u_lay RX12 TX12 14 ∈ gw := (gwc_6 (i := 162) rfl rfl)
set_option maxRecDepth 20000 in
theorem lay_12_15 : u_lay RX12 TX12 15 ∈ gw := (gwc_6 (i := 164) rfl rfl)
set_option maxRecDepth 20000 in
theorem lay_12_16 : u_lay RX12 TX12 16 ∈ gw := (gwc_6 (i := 166) rfl rfl)
set_option maxRecDepth 20000 in
theorem lay_12_17 : u_lay RX12 TX12 17 ∈ gw := (gwc_6 (i := 168) rfl rfl)
set_option maxRecDepth 20000 in
theorem lay_12_18 : u_lay RX12 TX12 18 ∈ gw := (gwc_6 (i := 170) rfl rfl)
set_option maxRecDepth 20000 in
theorem lay_12_19 : u_lay RX12 TX12 19 ∈ gw := (gwc_6 (i := 172) rfl rfl)
set_option maxRecDepth 20000 in
theorem lay_12_20 : u_lay RX12 TX12 20 ∈ gw := (gwc_6 (i := 174) rfl rfl)
set_option maxRecDepth 20000 in
theorem lay_12_21 : u_lay RX12 TX12 21 ∈ gw := (gwc_6 (i := 176) rfl rfl)
set_option maxRecDepth 20000 in
theorem lay_12_22 : u_lay RX12 TX12 22 ∈ gw := (gwc_6 (i := 178) rfl rfl)
set_option maxRecDepth 20000 in
theorem lay_12_23 : u_lay RX12 TX12 23 ∈ gw := (gwc_6 (i := 180) rfl rfl)
set_option maxRecDepth 20000 in
theorem lay_12_24 : u_lay RX12 TX12 24 ∈ gw := (gwc_6 (i := 182) rfl rfl)
set_option maxRecDepth 20000 in
theorem lay_12_25 : u_lay RX12 TX12 25 ∈ gw := (gwc_6 (i := 184) rfl rfl)
set_option maxRecDepth 20000 in
theorem lay_12_26 : u_lay RX12 TX12 26 ∈ gw := (gwc_6 (i := 186) rfl rfl)
set_option maxRecDepth 20000 in
theorem lay_12_27 : u_lay RX12 TX12 27 ∈ gw := (gwc_6 (i := 188) rfl rfl)
set_option maxRecDepth 20000 in
theorem lay_12_28 : u_lay RX12 TX12 28 ∈ gw := (gwc_6 (i := 190) rfl rfl)
set_option maxRecDepth 20000 in
theorem lay_12_29 : u_lay RX12 TX12 29 ∈ gw := (gwc_6 (i := 192) rfl rfl)
set_option maxRecDepth 20000 in
theorem lay_12_30 : u_lay RX12 TX12 30 ∈ gw := (gwc_6 (i := 194) rfl rfl)
set_option maxRecDepth 20000 in
theorem lay_12_31 : u_lay RX12 TX12 31 ∈ gw := (gwc_6 (i := 196) rfl rfl)
set_option maxRecDepth 20000 in
theorem lay_12_32 : u_lay RX12 TX12 32 ∈ gw := (gwc_6 (i := 198) rfl rfl)
set_option maxRecDepth 20000 in
theorem lay_12_33 : u_lay RX12 TX12 33 ∈ gw := (gwc_6 (i := 200) rfl rfl)
set_option maxRecDepth 20000 in
theorem lay_12_34 : u_lay RX12 TX12 34 ∈ gw := (gwc_6 (i := 202) rfl rfl)
set_option maxRecDepth 20000 in
theorem lay_12_35 : u_lay RX12 TX12 35 ∈ gw := (gwc_6 (i := 204) rfl rfl)
set_option maxRecDepth 20000 in
theorem lay_12_36 : u_lay RX12 TX12 36 ∈ gw := (gwc_6 (i := 206) rfl rfl)
set_option maxRecDepth 20000 in
theorem lay_12_37 : u_lay RX12 TX12 37 ∈ gw := (gwc_6 (i := 208) rfl rfl)
set_option maxRecDepth 20000 in
theorem lay_12_38 : u_lay RX12 TX12 38 ∈ gw := (gwc_6 (i := 210) rfl rfl)
set_option maxRecDepth 20000 in
theorem lay_12_39 : u_lay RX12 TX12 39 ∈ gw := (gwc_6 (i := 212) rfl rfl)
set_option maxRecDepth 20000 in
theorem lay_12_40 : u_lay RX12 TX12 40 ∈ gw := (gwc_6 (i := 214) rfl rfl)
set_option maxRecDepth 20000 in
theorem lay_12_41 : u_lay RX12 TX12 41 ∈ gw := (gwc_6 (i := 216) rfl rfl)
set_option maxRecDepth 20000 in
theorem lay_12_42 : u_lay RX12 TX12 42 ∈ gw := (gwc_6 (i := 218) rfl rfl)
set_option maxRecDepth 20000 in
theorem lay_12_43 : u_lay RX12 TX12 43 ∈ gw := (gwc_6 (i := 220) rfl rfl)
set_option maxRecDepth 20000 in
theorem lay_12_44 : u_lay RX12 TX12 44 ∈ gw := (gwc_6 (i := 222) rfl rfl)
set_option maxRecDepth 20000 in
theorem lay_12_45 : u_lay RX12 TX12 45 ∈ gw := (gwc_6 (i := 224) rfl rfl)
set_option maxRecDepth 20000 in
theorem lay_12_46 : u_lay RX12 TX12 46 ∈ gw := (gwc_6 (i := 226) rfl rfl)
set_option maxRecDepth 20000 in
theorem lay_12_47 : u_lay RX12 TX12 47 ∈ gw := (gwc_6 (i := 228) rfl rfl)
set_option maxRecDepth 20000 in
theorem lay_12_48 : u_lay RX12 TX12 48 ∈ gw := (gwc_6 (i := 230) rfl rfl)
set_option maxRecDepth 20000 in
theorem lay_12_49 : u_lay RX12 TX12 49 ∈ gw := (gwc_6 (i := 232) rfl rfl)
set_option maxRecDepth 20000 in
theorem lay_12_50 : u_lay RX12 TX12 50 ∈ gw := (gwc_6 (i := 234) rfl rfl)
set_option maxRecDepth 20000 in
theorem lay_12_51 : u_lay RX12 TX12 51 ∈ gw := (gwc_6 (i := 236) rfl rfl)
set_option maxRecDepth 20000 in
theorem lay_12_52 : u_lay RX12 TX12 52 ∈ gw := (gwc_6 (i := 238) rfl rfl)
set_option maxRecDepth 20000 in
theorem lay_12_53 : u_lay RX12 TX12 53 ∈ gw := (gwc_7 (i := 0) rfl rfl)
set_option maxRecDepth 20000 in
theorem lay_12_54 : u_lay RX12 TX12 54 ∈ gw := (gwc_7 (i := 2) rfl rfl)
set_option maxRecDepth 20000 in
theorem lay_12_55 : u_lay RX12 TX12 55 ∈ gw := (gwc_7 (i := 4) rfl rfl)
set_option maxRecDepth 20000 in
theorem lay_12_56 : u_lay RX12 TX12 56 ∈ gw := (gwc_7 (i := 6) rfl rfl)
set_option maxRecDepth 20000 in
theorem lay_12_57 : u_lay RX12 TX12 57 ∈ gw := (gwc_7 (i := 8) rfl rfl)
set_option maxRecDepth 20000 in
theorem lay_12_58 : u_lay RX12 TX12 58 ∈ gw := (gwc_7 (i := 10) rfl rfl)
set_option maxRecDepth 20000 in
theorem lay_12_59 : u_lay RX12 TX12 59 ∈ gw := (gwc_7 (i := 12) rfl rfl)
set_option maxRecDepth 20000 in
theorem lay_12_60 : u_lay RX12 TX12 60 ∈ gw := (gwc_7 (i := 14) rfl rfl)
set_option maxRecDepth 20000 in
theorem lay_12_61 : u_lay RX12 TX12 61 ∈ gw := (gwc_7 (i := 16) rfl rfl)
set_option maxRecDepth 20000 in
theorem lay_12_62 : u_lay RX12 TX12 62 ∈ gw := (gwc_7 (i := 18) rfl rfl)
set_option maxRecDepth 20000 in
theorem lay_12_63 : u_lay RX12 TX12 63 ∈ gw := (gwc_7 (i := 20) rfl rfl)
set_option maxRecDepth 20000 in
theorem lay_12_64 : u_lay RX12 TX12 64 ∈ gw := (gwc_7 (i := 22) rfl rfl)
set_option maxRecDepth 20000 in
theorem lay_12_65 : u_lay RX12 TX12 65 ∈ gw := (gwc_7 (i := 24) rfl rfl)
set_option maxRecDepth 20000 in
theorem lay_12_66 : u_lay RX12 TX12 66 ∈ gw := (gwc_7 (i := 26) rfl rfl)
set_option maxRecDepth 20000 in
theorem lay_12_67 : u_lay RX12 TX12 67 ∈ gw := (gwc_7 (i := 28) rfl rfl)
set_option maxRecDepth 20000 in
theorem lay_12_68 : u_lay RX12 TX12 68 ∈ gw := (gwc_7 (i := 30) rfl rfl)
set_option maxRecDepth 20000 in
theorem lay_12_69 : u_lay RX12 TX12 69 ∈ gw := (gwc_7 (i := 32) rfl rfl)
set_option maxRecDepth 20000 in
theorem lay_12_70 : u_lay RX12 TX12 70 ∈ gw := (gwc_7 (i := 34) rfl rfl)
set_option maxRecDepth 20000 in
theorem lay_12_71 : u_lay RX12 TX12 71 ∈ gw := (gwc_7 (i := 36) rfl rfl)
set_option maxRecDepth 20000 in
theorem lay_12_72 : u_lay RX12 TX12 72 ∈ gw := (gwc_7 (i := 38) rfl rfl)
set_option maxRecDepth 20000 in
theorem lay_12_73 : u_lay RX12 TX12 73 ∈ gw := (gwc_7 (i := 40) rfl rfl)
set_option maxRecDepth 20000 in
theorem lay_12_74 : u_lay RX12 TX12 74 ∈ gw := (gwc_7 (i := 42) rfl rfl)
set_option maxRecDepth 100000 in
theorem lays_12 : ∀ w ∈ wsX120, w ∈ gw := by
  show ∀ w ∈ [u_lay RX12 TX12 0, u_lay RX12 TX12 1, u_lay RX12 TX12 2, u_lay RX12 TX12 3, u_lay RX12 TX12 4, u_lay RX12 TX12 5, u_lay RX12 TX12 6, u_lay RX12 TX12 7, u_lay RX12 TX12 8, u_lay RX12 TX12 9, u_lay RX12 TX12 10, u_lay RX12 TX12 11, u_lay RX12 TX12 12, u_lay RX12 TX12 13, u_lay RX12 TX12 14, u_lay RX12 TX12 15, u_lay RX12 TX12 16, u_lay RX12 TX12 17, u_lay RX12 TX12 18, u_lay RX12 TX12 19, u_lay RX12 TX12 20, u_lay RX12 TX12 21, u_lay RX12 TX12 22, u_lay RX12 TX12 23, u_lay RX12 TX12 24, u_lay RX12 TX12 25, u_lay RX12 TX12 26, u_lay RX12 TX12 27, u_lay RX12 TX12 28, u_lay RX12 TX12 29, u_lay RX12 TX12 30, u_lay RX12 TX12 31, u_lay RX12 TX12 32, u_lay RX12 TX12 33, u_lay RX12 TX12 34, u_lay RX12 TX12 35, u_lay RX12 TX12 36, u_lay RX12 TX12 37, u_lay RX12 TX12 38, u_lay RX12 TX12 39, u_lay RX12 TX12 40, u_lay RX12 TX12 41, u_lay RX12 TX12 42, u_lay RX12 TX12 43, u_lay RX12 TX12 44, u_lay RX12 TX12 45, u_lay RX12 TX12 46, u_lay RX12 TX12 47, u_lay RX12 TX12 48, u_lay RX12 TX12 49, u_lay RX12 TX12 50, u_lay RX12 TX12 51, u_lay RX12 TX12 52, u_lay RX12 TX12 53, u_lay RX12 TX12 54, u_lay RX12 TX12 55, u_lay RX12 TX12 56, u_lay RX12 TX12 57, u_lay RX12 TX12 58, u_lay RX12 TX12 59, u_lay RX12 TX12 60, u_lay RX12 TX12 61, u_lay RX12 TX12 62, u_lay RX12 TX12 63, u_lay RX12 TX12 64, u_lay RX12 TX12 65, u_lay RX12 TX12 66, u_lay RX12 TX12 67, u_lay RX12 TX12 68, u_lay RX12 TX12 69, u_lay RX12 TX12 70, u_lay RX12 TX12 71, u_lay RX12 TX12 72, u_lay RX12 TX12 73, u_lay RX12 TX12 74], w ∈ gw
  exact List.forall_mem_cons.mpr ⟨lay_12_0, List.forall_mem_cons.mpr ⟨lay_12_1, List.forall_mem_cons.mpr ⟨lay_12_2, List.forall_mem_cons.mpr ⟨lay_12_3, List.forall_mem_cons.mpr ⟨lay_12_4, List.forall_mem_cons.mpr ⟨lay_12_5, List.forall_mem_cons.mpr ⟨lay_12_6, List.forall_mem_cons.mpr ⟨lay_12_7, List.forall_mem_cons.mpr ⟨lay_12_8, List.forall_mem_cons.mpr ⟨lay_12_9, List.forall_mem_cons.mpr ⟨lay_12_10, List.forall_mem_cons.mpr ⟨lay_12_11, List.forall_mem_cons.mpr ⟨lay_12_12, List.forall_mem_cons.mpr ⟨lay_12_13, List.forall_mem_cons.mpr ⟨lay_12_14, List.forall_mem_cons.mpr ⟨lay_12_15, List.forall_mem_cons.mpr ⟨lay_12_16, List.forall_mem_cons.mpr ⟨lay_12_17, List.forall_mem_cons.mpr ⟨lay_12_18, List.forall_mem_cons.mpr ⟨lay_12_19, List.forall_mem_cons.mpr ⟨lay_12_20, List.forall_mem_cons.mpr ⟨lay_12_21, List.forall_mem_cons.mpr ⟨lay_12_22, List.forall_mem_cons.mpr ⟨lay_12_23, List.forall_mem_cons.mpr ⟨lay_12_24, List.forall_mem_cons.mpr ⟨lay_12_25, List.forall_mem_cons.mpr ⟨lay_12_26, List.forall_mem_cons.mpr ⟨lay_12_27, List.forall_mem_cons.mpr ⟨lay_12_28, List.forall_mem_cons.mpr ⟨lay_12_29, List.forall_mem_cons.mpr ⟨lay_12_30, List.forall_mem_cons.mpr ⟨lay_12_31, List.forall_mem_cons.mpr ⟨lay_12_32, List.forall_mem_cons.mpr ⟨lay_12_33, List.forall_mem_cons.mpr ⟨lay_12_34, List.forall_mem_cons.mpr ⟨lay_12_35, List.forall_mem_cons.mpr ⟨lay_12_36, List.forall_mem_cons.mpr ⟨lay_12_37, List.forall_mem_cons.mpr ⟨lay_12_38, List.forall_mem_cons.mpr ⟨lay_12_39, List.forall_mem_cons.mpr ⟨lay_12_40, List.forall_mem_cons.mpr ⟨lay_12_41, List.forall_mem_cons.mpr ⟨lay_12_42, List.forall_mem_cons.mpr ⟨lay_12_43, List.forall_mem_cons.mpr ⟨lay_12_44, List.forall_mem_cons.mpr ⟨lay_12_45, List.forall_mem_cons.mpr ⟨lay_12_46, List.forall_mem_cons.mpr ⟨lay_12_47, List.forall_mem_cons.mpr ⟨lay_12_48, List.forall_mem_cons.mpr ⟨lay_12_49, List.forall_mem_cons.mpr ⟨lay_12_50, List.forall_mem_cons.mpr ⟨lay_12_51, List.forall_mem_cons.mpr ⟨lay_12_52, List.forall_mem_cons.mpr ⟨lay_12_53, List.forall_mem_cons.mpr ⟨lay_12_54, List.forall_mem_cons.mpr ⟨lay_12_55, List.forall_mem_cons.mpr ⟨lay_12_56, List.forall_mem_cons.mpr ⟨lay_12_57, List.forall_mem_cons.mpr ⟨lay_12_58, List.forall_mem_cons.mpr ⟨lay_12_59, List.forall_mem_cons.mpr ⟨lay_12_60, List.forall_mem_cons.mpr ⟨lay_12_61, List.forall_mem_cons.mpr ⟨lay_12_62, List.forall_mem_cons.mpr ⟨lay_12_63, List.forall_mem_cons.mpr ⟨lay_12_64, List.forall_mem_cons.mpr ⟨lay_12_65, List.forall_mem_cons.mpr ⟨lay_12_66, List.forall_mem_cons.mpr ⟨lay_12_67, List.forall_mem_cons.mpr ⟨lay_12_68, List.forall_mem_cons.mpr ⟨lay_12_69, List.forall_mem_cons.mpr ⟨lay_12_70, List.forall_mem_cons.mpr ⟨lay_12_71, List.forall_mem_cons.mpr ⟨lay_12_72, List.forall_mem_cons.mpr ⟨lay_12_73, List.forall_mem_cons.mpr ⟨lay_12_74, fun _ h => absurd h List.not_mem_nil⟩⟩⟩⟩⟩⟩⟩⟩⟩⟩⟩⟩⟩⟩⟩⟩⟩⟩⟩⟩⟩⟩⟩⟩⟩⟩⟩⟩⟩⟩⟩⟩⟩⟩⟩⟩⟩⟩⟩⟩⟩⟩⟩⟩⟩⟩⟩⟩⟩⟩⟩⟩⟩⟩⟩⟩⟩⟩⟩⟩⟩⟩⟩⟩⟩⟩⟩⟩⟩⟩⟩⟩⟩⟩⟩
def fldSP (q : Nat × Nat × Nat × Nat) : Prop := q.2.2.1 = 50 ∧ ((q.2.2.2 = 0 ∧ Cond.fieldLink (pOwnN q.1) q.2.1 "java/lang/String" "value" "[B" ∈ gw) ∨ (q.2.2.2 = 1 ∧ Cond.fieldLink (pOwnN q.1) q.2.1 "java/lang/String" "coder" "B" ∈ gw))
def statP (q : Nat × Nat × Nat) : Prop := (q.2.2 = 0 → Cond.fieldLink (pOwnN q.1) q.2.1 "java/lang/String" "COMPACT_STRINGS" "Z" ∈ gw) ∧ (q.2.2 = 1 → Cond.fieldLink (pOwnN q.1) q.2.1 "jdk/internal/util/Preconditions" "SIOOBE_FORMATTER" "Ljava/util/function/BiFunction;" ∈ gw)
set_option maxRecDepth 100000 in
theorem fldS_ok_0 : ∀ q ∈ pFldS_0, fldSP q := List.forall_mem_cons.mpr ⟨⟨rfl, Or.inl ⟨rfl, (gwc_8 (i := 221) rfl rfl)⟩⟩, List.forall_mem_cons.mpr ⟨⟨rfl, Or.inr ⟨rfl, (gwc_8 (i := 222) rfl rfl)⟩⟩, fun _ h => absurd h List.not_mem_nil⟩⟩
theorem fldS_ok : ∀ q ∈ pFldS, fldSP q := fldS_ok_0
set_option maxRecDepth 100000 in
theorem stat_ok_0 : ∀ q ∈ pStat_0, statP q := List.forall_mem_cons.mpr ⟨⟨fun _ => (gwc_1 (i := 46) rfl rfl), fun h => absurd h (by decide)⟩, List.forall_mem_cons.mpr ⟨⟨fun h => absurd h (by decide), fun _ => (gwc_1 (i := 62) rfl rfl)⟩, fun _ h => absurd h List.not_mem_nil⟩⟩
theorem stat_ok : ∀ q ∈ pStat, statP q := stat_ok_0
