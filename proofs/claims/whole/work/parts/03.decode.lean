theorem rd_d0 : ∀ e ∈ rd_c0, decode cX0_init e.1 = .ok (e.2.1, e.2.2.1) := by decide +kernel
theorem rd_d1 : ∀ e ∈ rd_c1, decode cX0_isWornOut e.1 = .ok (e.2.1, e.2.2.1) := by decide +kernel
theorem rd_d2 : ∀ e ∈ rd_c2, decode cX0_cuesDone e.1 = .ok (e.2.1, e.2.2.1) := by decide +kernel
theorem rd_d3 : ∀ e ∈ rd_c3, decode cX0_begin e.1 = .ok (e.2.1, e.2.2.1) := by decide +kernel
theorem rd_d4 : ∀ e ∈ rd_c4, decode cX0_isAtCue e.1 = .ok (e.2.1, e.2.2.1) := by decide +kernel
theorem rd_d5 : ∀ e ∈ rd_c5, decode cX0_doCue e.1 = .ok (e.2.1, e.2.2.1) := by decide +kernel
theorem rd_d6 : ∀ e ∈ rd_c6, decode cX0_callHeld e.1 = .ok (e.2.1, e.2.2.1) := by decide +kernel
theorem rd_d7 : ∀ e ∈ rd_c7, decode cX0_bringAll e.1 = .ok (e.2.1, e.2.2.1) := by decide +kernel
theorem rd_d8 : ∀ e ∈ rd_c8, decode cX0_tell e.1 = .ok (e.2.1, e.2.2.1) := by decide +kernel
theorem rd_d9 : ∀ e ∈ rd_c9, decode cX0_recover e.1 = .ok (e.2.1, e.2.2.1) := by decide +kernel
theorem rd_d10 : ∀ e ∈ rd_c10, decode cX0_arrive e.1 = .ok (e.2.1, e.2.2.1) := by decide +kernel
theorem rd_d11 : ∀ e ∈ rd_c11, decode cX0_toldSize e.1 = .ok (e.2.1, e.2.2.1) := by decide +kernel
theorem rd_d12 : ∀ e ∈ rd_c12, decode cX0_toldNumber e.1 = .ok (e.2.1, e.2.2.1) := by decide +kernel
theorem rd_d13 : ∀ e ∈ rd_c13, decode cX0_emptyTold e.1 = .ok (e.2.1, e.2.2.1) := by decide +kernel
theorem rd_d14 : ∀ e ∈ rd_c14, decode cX1_init e.1 = .ok (e.2.1, e.2.2.1) := by decide +kernel
theorem rd_d15 : ∀ e ∈ rd_c15, decode cX1_isCue e.1 = .ok (e.2.1, e.2.2.1) := by decide +kernel
theorem rd_d16 : ∀ e ∈ rd_c16, decode cX1_isWithin e.1 = .ok (e.2.1, e.2.2.1) := by decide +kernel
theorem rd_d17 : ∀ e ∈ rd_c17, decode cX1_size e.1 = .ok (e.2.1, e.2.2.1) := by decide +kernel
theorem rd_d18 : ∀ e ∈ rd_c18, decode cX1_add e.1 = .ok (e.2.1, e.2.2.1) := by decide +kernel
theorem rd_d19 : ∀ e ∈ rd_c19, decode cX1_removeAll e.1 = .ok (e.2.1, e.2.2.1) := by decide +kernel
theorem rd_d20 : ∀ e ∈ rd_c20, decode cX2_init e.1 = .ok (e.2.1, e.2.2.1) := by decide +kernel
theorem rd_d21 : ∀ e ∈ rd_c21, decode cX2_add e.1 = .ok (e.2.1, e.2.2.1) := by decide +kernel
theorem rd_d22 : ∀ e ∈ rd_c22, decode cX2_orders e.1 = .ok (e.2.1, e.2.2.1) := by decide +kernel
theorem rd_d23 : ∀ e ∈ rd_c23, decode cX2_addOrder e.1 = .ok (e.2.1, e.2.2.1) := by decide +kernel
theorem rd_d24 : ∀ e ∈ rd_c24, decode cX2_countMeeting e.1 = .ok (e.2.1, e.2.2.1) := by decide +kernel
theorem rd_d25 : ∀ e ∈ rd_c25, decode cX2_survey e.1 = .ok (e.2.1, e.2.2.1) := by decide +kernel
theorem rd_d26 : ∀ e ∈ rd_c26, decode cX2_surveyOne e.1 = .ok (e.2.1, e.2.2.1) := by decide +kernel
theorem rd_d27 : ∀ e ∈ rd_c27, decode cX2_meeting e.1 = .ok (e.2.1, e.2.2.1) := by decide +kernel
theorem rd_d28 : ∀ e ∈ rd_c28, decode cX2_isTooFew e.1 = .ok (e.2.1, e.2.2.1) := by decide +kernel
theorem rd_d29 : ∀ e ∈ rd_c29, decode cX2_isTooMany e.1 = .ok (e.2.1, e.2.2.1) := by decide +kernel
theorem rd_d30 : ∀ e ∈ rd_c30, decode cX2_isExpected e.1 = .ok (e.2.1, e.2.2.1) := by decide +kernel
theorem rd_d31 : ∀ e ∈ rd_c31, decode cX2_callAhead e.1 = .ok (e.2.1, e.2.2.1) := by decide +kernel
theorem rd_d32 : ∀ e ∈ rd_c32, decode cX3_init e.1 = .ok (e.2.1, e.2.2.1) := by decide +kernel
theorem rd_d33 : ∀ e ∈ rd_c33, decode cX3_size e.1 = .ok (e.2.1, e.2.2.1) := by decide +kernel
theorem rd_d34 : ∀ e ∈ rd_c34, decode cX3_has e.1 = .ok (e.2.1, e.2.2.1) := by decide +kernel
theorem rd_d35 : ∀ e ∈ rd_c35, decode cX3_add e.1 = .ok (e.2.1, e.2.2.1) := by decide +kernel
theorem rd_d36 : ∀ e ∈ rd_c36, decode cX3_inherit e.1 = .ok (e.2.1, e.2.2.1) := by decide +kernel
theorem rd_d37 : ∀ e ∈ rd_c37, decode cX3_isFixed e.1 = .ok (e.2.1, e.2.2.1) := by decide +kernel
theorem rd_d38 : ∀ e ∈ rd_c38, decode cX3_fix e.1 = .ok (e.2.1, e.2.2.1) := by decide +kernel
theorem rd_d39 : ∀ e ∈ rd_c39, decode cX3_addMethod e.1 = .ok (e.2.1, e.2.2.1) := by decide +kernel
theorem rd_d40 : ∀ e ∈ rd_c40, decode cX3_methods e.1 = .ok (e.2.1, e.2.2.1) := by decide +kernel
theorem rd_d41 : ∀ e ∈ rd_c41, decode cX3_lineage e.1 = .ok (e.2.1, e.2.2.1) := by decide +kernel
theorem rd_d42 : ∀ e ∈ rd_c42, decode cX3_signature e.1 = .ok (e.2.1, e.2.2.1) := by decide +kernel
theorem rd_d43 : ∀ e ∈ rd_c43, decode cX3_takes e.1 = .ok (e.2.1, e.2.2.1) := by decide +kernel
theorem rd_d44 : ∀ e ∈ rd_c44, decode cX3_takesStand e.1 = .ok (e.2.1, e.2.2.1) := by decide +kernel
theorem rd_d45 : ∀ e ∈ rd_c45, decode cX3_gives e.1 = .ok (e.2.1, e.2.2.1) := by decide +kernel
theorem rd_d46 : ∀ e ∈ rd_c46, decode cX3_mayFail e.1 = .ok (e.2.1, e.2.2.1) := by decide +kernel
theorem rd_d47 : ∀ e ∈ rd_c47, decode cX4_init e.1 = .ok (e.2.1, e.2.2.1) := by decide +kernel
theorem rd_d48 : ∀ e ∈ rd_c48, decode cX4_hasLatest e.1 = .ok (e.2.1, e.2.2.1) := by decide +kernel
theorem rd_d49 : ∀ e ∈ rd_c49, decode cX4_size e.1 = .ok (e.2.1, e.2.2.1) := by decide +kernel
theorem rd_d50 : ∀ e ∈ rd_c50, decode cX4_lost e.1 = .ok (e.2.1, e.2.2.1) := by decide +kernel
theorem rd_d51 : ∀ e ∈ rd_c51, decode cX4_column e.1 = .ok (e.2.1, e.2.2.1) := by decide +kernel
theorem rd_d52 : ∀ e ∈ rd_c52, decode cX4_keepLatest e.1 = .ok (e.2.1, e.2.2.1) := by decide +kernel
theorem rd_d53 : ∀ e ∈ rd_c53, decode cX4_empty e.1 = .ok (e.2.1, e.2.2.1) := by decide +kernel
theorem rd_d54 : ∀ e ∈ rd_c54, decode cX5_init e.1 = .ok (e.2.1, e.2.2.1) := by decide +kernel
theorem rd_d55 : ∀ e ∈ rd_c55, decode cX5_size e.1 = .ok (e.2.1, e.2.2.1) := by decide +kernel
theorem rd_d56 : ∀ e ∈ rd_c56, decode cX5_has e.1 = .ok (e.2.1, e.2.2.1) := by decide +kernel
theorem rd_d57 : ∀ e ∈ rd_c57, decode cX5_add e.1 = .ok (e.2.1, e.2.2.1) := by decide +kernel
theorem rd_d58 : ∀ e ∈ rd_c58, decode cX5_signature e.1 = .ok (e.2.1, e.2.2.1) := by decide +kernel
theorem rd_d59 : ∀ e ∈ rd_c59, decode cX5_hasParameter e.1 = .ok (e.2.1, e.2.2.1) := by decide +kernel
theorem rd_d60 : ∀ e ∈ rd_c60, decode cX5_isCatching e.1 = .ok (e.2.1, e.2.2.1) := by decide +kernel
theorem rd_d61 : ∀ e ∈ rd_c61, decode cX5_setCondition e.1 = .ok (e.2.1, e.2.2.1) := by decide +kernel
theorem rd_d62 : ∀ e ∈ rd_c62, decode cX5_isCondition e.1 = .ok (e.2.1, e.2.2.1) := by decide +kernel
theorem rd_d63 : ∀ e ∈ rd_c63, decode cX5_fits e.1 = .ok (e.2.1, e.2.2.1) := by decide +kernel
theorem rd_d64 : ∀ e ∈ rd_c64, decode cX5_holds e.1 = .ok (e.2.1, e.2.2.1) := by decide +kernel
theorem rd_d65 : ∀ e ∈ rd_c65, decode cX6_init e.1 = .ok (e.2.1, e.2.2.1) := by decide +kernel
theorem rd_d66 : ∀ e ∈ rd_c66, decode cX6_isAnswer e.1 = .ok (e.2.1, e.2.2.1) := by decide +kernel
theorem rd_d67 : ∀ e ∈ rd_c67, decode cX6_addAnswer e.1 = .ok (e.2.1, e.2.2.1) := by decide +kernel
theorem rd_d68 : ∀ e ∈ rd_c68, decode cX6_find e.1 = .ok (e.2.1, e.2.2.1) := by decide +kernel
theorem rd_d69 : ∀ e ∈ rd_c69, decode cX6_use e.1 = .ok (e.2.1, e.2.2.1) := by decide +kernel
theorem rd_d70 : ∀ e ∈ rd_c70, decode cX6_answerKind e.1 = .ok (e.2.1, e.2.2.1) := by decide +kernel
theorem rd_d71 : ∀ e ∈ rd_c71, decode cX6_answerValue e.1 = .ok (e.2.1, e.2.2.1) := by decide +kernel
theorem rd_d72 : ∀ e ∈ rd_c72, decode cX6_holdsCaught e.1 = .ok (e.2.1, e.2.2.1) := by decide +kernel
theorem rd_d73 : ∀ e ∈ rd_c73, decode cX6_caughtValue e.1 = .ok (e.2.1, e.2.2.1) := by decide +kernel
theorem rd_d74 : ∀ e ∈ rd_c74, decode cX6_release e.1 = .ok (e.2.1, e.2.2.1) := by decide +kernel
theorem rd_d75 : ∀ e ∈ rd_c75, decode cX6_startAgain e.1 = .ok (e.2.1, e.2.2.1) := by decide +kernel
theorem rd_d76 : ∀ e ∈ rd_c76, decode cX7_init e.1 = .ok (e.2.1, e.2.2.1) := by decide +kernel
theorem rd_d77 : ∀ e ∈ rd_c77, decode cX7_begin e.1 = .ok (e.2.1, e.2.2.1) := by decide +kernel
theorem rd_d78 : ∀ e ∈ rd_c78, decode cX7_bring e.1 = .ok (e.2.1, e.2.2.1) := by decide +kernel
theorem rd_d79 : ∀ e ∈ rd_c79, decode cX7_perform e.1 = .ok (e.2.1, e.2.2.1) := by decide +kernel
theorem rd_d80 : ∀ e ∈ rd_c80, decode cX7_answerBy e.1 = .ok (e.2.1, e.2.2.1) := by decide +kernel
theorem rd_d81 : ∀ e ∈ rd_c81, decode cX7_callThrough e.1 = .ok (e.2.1, e.2.2.1) := by decide +kernel
theorem rd_d82 : ∀ e ∈ rd_c82, decode cX7_giveParameter e.1 = .ok (e.2.1, e.2.2.1) := by decide +kernel
theorem rd_d83 : ∀ e ∈ rd_c83, decode cX7_giveWhole e.1 = .ok (e.2.1, e.2.2.1) := by decide +kernel
theorem rd_d84 : ∀ e ∈ rd_c84, decode cX7_giveStand e.1 = .ok (e.2.1, e.2.2.1) := by decide +kernel
theorem rd_d85 : ∀ e ∈ rd_c85, decode cX7_failWith e.1 = .ok (e.2.1, e.2.2.1) := by decide +kernel
theorem rd_d86 : ∀ e ∈ rd_c86, decode cX8_init e.1 = .ok (e.2.1, e.2.2.1) := by decide +kernel
theorem rd_d87 : ∀ e ∈ rd_c87, decode cX8_size e.1 = .ok (e.2.1, e.2.2.1) := by decide +kernel
theorem rd_d88 : ∀ e ∈ rd_c88, decode cX8_has e.1 = .ok (e.2.1, e.2.2.1) := by decide +kernel
theorem rd_d89 : ∀ e ∈ rd_c89, decode cX8_add e.1 = .ok (e.2.1, e.2.2.1) := by decide +kernel
theorem rd_d90 : ∀ e ∈ rd_c90, decode cX8_isOf e.1 = .ok (e.2.1, e.2.2.1) := by decide +kernel
theorem rd_d91 : ∀ e ∈ rd_c91, decode cX8_thing e.1 = .ok (e.2.1, e.2.2.1) := by decide +kernel
theorem rd_d92 : ∀ e ∈ rd_c92, decode cX8_signature e.1 = .ok (e.2.1, e.2.2.1) := by decide +kernel
theorem rd_d93 : ∀ e ∈ rd_c93, decode cX8_hasNoneBeside e.1 = .ok (e.2.1, e.2.2.1) := by decide +kernel
theorem rd_d94 : ∀ e ∈ rd_c94, decode cX8_setNoneBeside e.1 = .ok (e.2.1, e.2.2.1) := by decide +kernel
theorem rd_d95 : ∀ e ∈ rd_c95, decode cX9_init e.1 = .ok (e.2.1, e.2.2.1) := by decide +kernel
theorem rd_d96 : ∀ e ∈ rd_c96, decode cX9_closeAll e.1 = .ok (e.2.1, e.2.2.1) := by decide +kernel
theorem rd_d97 : ∀ e ∈ rd_c97, decode cX9_open e.1 = .ok (e.2.1, e.2.2.1) := by decide +kernel
theorem rd_d98 : ∀ e ∈ rd_c98, decode cX9_closeLeft e.1 = .ok (e.2.1, e.2.2.1) := by decide +kernel
theorem rd_d99 : ∀ e ∈ rd_c99, decode cX9_take e.1 = .ok (e.2.1, e.2.2.1) := by decide +kernel
theorem rd_d100 : ∀ e ∈ rd_c100, decode cX10_init e.1 = .ok (e.2.1, e.2.2.1) := by decide +kernel
theorem rd_d101 : ∀ e ∈ rd_c101, decode cX10_size e.1 = .ok (e.2.1, e.2.2.1) := by decide +kernel
theorem rd_d102 : ∀ e ∈ rd_c102, decode cX10_part e.1 = .ok (e.2.1, e.2.2.1) := by decide +kernel
theorem rd_d103 : ∀ e ∈ rd_c103, decode cX10_find e.1 = .ok (e.2.1, e.2.2.1) := by decide +kernel
theorem rd_d104 : ∀ e ∈ rd_c104, decode cX10_findNumbers e.1 = .ok (e.2.1, e.2.2.1) := by decide +kernel
theorem rd_d105 : ∀ e ∈ rd_c105, decode cX10_findOrders e.1 = .ok (e.2.1, e.2.2.1) := by decide +kernel
theorem rd_d106 : ∀ e ∈ rd_c106, decode cX10_add e.1 = .ok (e.2.1, e.2.2.1) := by decide +kernel
theorem rd_d107 : ∀ e ∈ rd_c107, decode cX11_init e.1 = .ok (e.2.1, e.2.2.1) := by decide +kernel
theorem rd_d108 : ∀ e ∈ rd_c108, decode cX11_face e.1 = .ok (e.2.1, e.2.2.1) := by decide +kernel
theorem rd_d109 : ∀ e ∈ rd_c109, decode cX11_method e.1 = .ok (e.2.1, e.2.2.1) := by decide +kernel
theorem rd_d110 : ∀ e ∈ rd_c110, decode cX11_stand e.1 = .ok (e.2.1, e.2.2.1) := by decide +kernel
theorem rd_d111 : ∀ e ∈ rd_c111, decode cX11_of e.1 = .ok (e.2.1, e.2.2.1) := by decide +kernel
theorem rd_d112 : ∀ e ∈ rd_c112, decode cX11_level e.1 = .ok (e.2.1, e.2.2.1) := by decide +kernel
theorem rd_d113 : ∀ e ∈ rd_c113, decode cX11_rule e.1 = .ok (e.2.1, e.2.2.1) := by decide +kernel
theorem rd_d114 : ∀ e ∈ rd_c114, decode cX11_on e.1 = .ok (e.2.1, e.2.2.1) := by decide +kernel
theorem rd_d115 : ∀ e ∈ rd_c115, decode cX11_answer e.1 = .ok (e.2.1, e.2.2.1) := by decide +kernel
theorem rd_d116 : ∀ e ∈ rd_c116, decode cX11_caught e.1 = .ok (e.2.1, e.2.2.1) := by decide +kernel
theorem rd_d117 : ∀ e ∈ rd_c117, decode cX11_call e.1 = .ok (e.2.1, e.2.2.1) := by decide +kernel
theorem rd_d118 : ∀ e ∈ rd_c118, decode cX11_canCome e.1 = .ok (e.2.1, e.2.2.1) := by decide +kernel
theorem rd_d119 : ∀ e ∈ rd_c119, decode cX11_came e.1 = .ok (e.2.1, e.2.2.1) := by decide +kernel
theorem rd_d120 : ∀ e ∈ rd_c120, decode cX11_recorded e.1 = .ok (e.2.1, e.2.2.1) := by decide +kernel
theorem rd_d121 : ∀ e ∈ rd_c121, decode cX11_expect e.1 = .ok (e.2.1, e.2.2.1) := by decide +kernel
theorem rd_d122 : ∀ e ∈ rd_c122, decode cX11_with e.1 = .ok (e.2.1, e.2.2.1) := by decide +kernel
theorem rd_d123 : ∀ e ∈ rd_c123, decode cX11_order e.1 = .ok (e.2.1, e.2.2.1) := by decide +kernel
theorem rd_d124 : ∀ e ∈ rd_c124, decode cX11_beside e.1 = .ok (e.2.1, e.2.2.1) := by decide +kernel
theorem rd_d125 : ∀ e ∈ rd_c125, decode cX11_met e.1 = .ok (e.2.1, e.2.2.1) := by decide +kernel
theorem rd_d126 : ∀ e ∈ rd_c126, decode cX11_verify e.1 = .ok (e.2.1, e.2.2.1) := by decide +kernel
theorem rd_d127 : ∀ e ∈ rd_c127, decode cX11_wrong e.1 = .ok (e.2.1, e.2.2.1) := by decide +kernel
theorem rd_d128 : ∀ e ∈ rd_c128, decode cX11_cue e.1 = .ok (e.2.1, e.2.2.1) := by decide +kernel
theorem rd_d129 : ∀ e ∈ rd_c129, decode cX11_clear e.1 = .ok (e.2.1, e.2.2.1) := by decide +kernel
theorem rd_d130 : ∀ e ∈ rd_c130, decode cX11_run e.1 = .ok (e.2.1, e.2.2.1) := by decide +kernel
theorem rd_d131 : ∀ e ∈ rd_c131, decode cX11_desk e.1 = .ok (e.2.1, e.2.2.1) := by decide +kernel
theorem rd_d132 : ∀ e ∈ rd_c132, decode cX11_told e.1 = .ok (e.2.1, e.2.2.1) := by decide +kernel
theorem rd_d133 : ∀ e ∈ rd_c133, decode cX11_count e.1 = .ok (e.2.1, e.2.2.1) := by decide +kernel
theorem rd_d134 : ∀ e ∈ rd_c134, decode cX11_countMethods e.1 = .ok (e.2.1, e.2.2.1) := by decide +kernel
theorem rd_d135 : ∀ e ∈ rd_c135, decode cX11_forget e.1 = .ok (e.2.1, e.2.2.1) := by decide +kernel
theorem rd_d136 : ∀ e ∈ rd_c136, decode cX12_init e.1 = .ok (e.2.1, e.2.2.1) := by decide +kernel
theorem rd_d137 : ∀ e ∈ rd_c137, decode cX12_in e.1 = .ok (e.2.1, e.2.2.1) := by decide +kernel
theorem rd_d138 : ∀ e ∈ rd_c138, decode cX12_face e.1 = .ok (e.2.1, e.2.2.1) := by decide +kernel
theorem rd_d139 : ∀ e ∈ rd_c139, decode cX12_isBelow e.1 = .ok (e.2.1, e.2.2.1) := by decide +kernel
theorem rd_d140 : ∀ e ∈ rd_c140, decode cX12_method e.1 = .ok (e.2.1, e.2.2.1) := by decide +kernel
theorem rd_d141 : ∀ e ∈ rd_c141, decode cX12_stand e.1 = .ok (e.2.1, e.2.2.1) := by decide +kernel
theorem rd_d142 : ∀ e ∈ rd_c142, decode cX12_isStand e.1 = .ok (e.2.1, e.2.2.1) := by decide +kernel
theorem rd_d143 : ∀ e ∈ rd_c143, decode cX12_of e.1 = .ok (e.2.1, e.2.2.1) := by decide +kernel
theorem rd_d144 : ∀ e ∈ rd_c144, decode cX12_level e.1 = .ok (e.2.1, e.2.2.1) := by decide +kernel
theorem rd_d145 : ∀ e ∈ rd_c145, decode cX12_isMethod e.1 = .ok (e.2.1, e.2.2.1) := by decide +kernel
theorem rd_d146 : ∀ e ∈ rd_c146, decode cX12_methodAt e.1 = .ok (e.2.1, e.2.2.1) := by decide +kernel
theorem rd_d147 : ∀ e ∈ rd_c147, decode cX12_isStandParameter e.1 = .ok (e.2.1, e.2.2.1) := by decide +kernel
theorem rd_d148 : ∀ e ∈ rd_c148, decode cX12_begin e.1 = .ok (e.2.1, e.2.2.1) := by decide +kernel
theorem rd_d149 : ∀ e ∈ rd_c149, decode cX12_putCondition e.1 = .ok (e.2.1, e.2.2.1) := by decide +kernel
theorem rd_d150 : ∀ e ∈ rd_c150, decode cX12_holds e.1 = .ok (e.2.1, e.2.2.1) := by decide +kernel
theorem rd_d151 : ∀ e ∈ rd_c151, decode cX12_meets e.1 = .ok (e.2.1, e.2.2.1) := by decide +kernel
theorem rd_d152 : ∀ e ∈ rd_c152, decode cX12_isRule e.1 = .ok (e.2.1, e.2.2.1) := by decide +kernel
theorem rd_d153 : ∀ e ∈ rd_c153, decode cX12_rule e.1 = .ok (e.2.1, e.2.2.1) := by decide +kernel
theorem rd_d154 : ∀ e ∈ rd_c154, decode cX12_on e.1 = .ok (e.2.1, e.2.2.1) := by decide +kernel
theorem rd_d155 : ∀ e ∈ rd_c155, decode cX12_answer e.1 = .ok (e.2.1, e.2.2.1) := by decide +kernel
theorem rd_d156 : ∀ e ∈ rd_c156, decode cX12_caught e.1 = .ok (e.2.1, e.2.2.1) := by decide +kernel
theorem rd_d157 : ∀ e ∈ rd_c157, decode cX12_give e.1 = .ok (e.2.1, e.2.2.1) := by decide +kernel
theorem rd_d158 : ∀ e ∈ rd_c158, decode cX12_fail e.1 = .ok (e.2.1, e.2.2.1) := by decide +kernel
theorem rd_d159 : ∀ e ∈ rd_c159, decode cX12_sumOf e.1 = .ok (e.2.1, e.2.2.1) := by decide +kernel
theorem rd_d160 : ∀ e ∈ rd_c160, decode cX12_through e.1 = .ok (e.2.1, e.2.2.1) := by decide +kernel
theorem rd_d161 : ∀ e ∈ rd_c161, decode cX12_ruleFor e.1 = .ok (e.2.1, e.2.2.1) := by decide +kernel
theorem rd_d162 : ∀ e ∈ rd_c162, decode cX12_byRule e.1 = .ok (e.2.1, e.2.2.1) := by decide +kernel
theorem rd_d163 : ∀ e ∈ rd_c163, decode cX12_answerCall e.1 = .ok (e.2.1, e.2.2.1) := by decide +kernel
theorem rd_d164 : ∀ e ∈ rd_c164, decode cX12_mayCome e.1 = .ok (e.2.1, e.2.2.1) := by decide +kernel
theorem rd_d165 : ∀ e ∈ rd_c165, decode cX12_call e.1 = .ok (e.2.1, e.2.2.1) := by decide +kernel
theorem rd_d166 : ∀ e ∈ rd_c166, decode cX12_came e.1 = .ok (e.2.1, e.2.2.1) := by decide +kernel
theorem rd_d167 : ∀ e ∈ rd_c167, decode cX12_recorded e.1 = .ok (e.2.1, e.2.2.1) := by decide +kernel
theorem rd_d168 : ∀ e ∈ rd_c168, decode cX12_isExpectation e.1 = .ok (e.2.1, e.2.2.1) := by decide +kernel
theorem rd_d169 : ∀ e ∈ rd_c169, decode cX12_expect e.1 = .ok (e.2.1, e.2.2.1) := by decide +kernel
theorem rd_d170 : ∀ e ∈ rd_c170, decode cX12_with e.1 = .ok (e.2.1, e.2.2.1) := by decide +kernel
theorem rd_d171 : ∀ e ∈ rd_c171, decode cX12_order e.1 = .ok (e.2.1, e.2.2.1) := by decide +kernel
theorem rd_d172 : ∀ e ∈ rd_c172, decode cX12_beside e.1 = .ok (e.2.1, e.2.2.1) := by decide +kernel
theorem rd_d173 : ∀ e ∈ rd_c173, decode cX12_callMeets e.1 = .ok (e.2.1, e.2.2.1) := by decide +kernel
theorem rd_d174 : ∀ e ∈ rd_c174, decode cX12_metBy e.1 = .ok (e.2.1, e.2.2.1) := by decide +kernel
theorem rd_d175 : ∀ e ∈ rd_c175, decode cX12_met e.1 = .ok (e.2.1, e.2.2.1) := by decide +kernel
theorem rd_d176 : ∀ e ∈ rd_c176, decode cX12_note e.1 = .ok (e.2.1, e.2.2.1) := by decide +kernel
theorem rd_d177 : ∀ e ∈ rd_c177, decode cX12_wrongOrder e.1 = .ok (e.2.1, e.2.2.1) := by decide +kernel
theorem rd_d178 : ∀ e ∈ rd_c178, decode cX12_meetsAny e.1 = .ok (e.2.1, e.2.2.1) := by decide +kernel
theorem rd_d179 : ∀ e ∈ rd_c179, decode cX12_verify e.1 = .ok (e.2.1, e.2.2.1) := by decide +kernel
theorem rd_d180 : ∀ e ∈ rd_c180, decode cX12_wrong e.1 = .ok (e.2.1, e.2.2.1) := by decide +kernel
theorem rd_d181 : ∀ e ∈ rd_c181, decode cX12_cue e.1 = .ok (e.2.1, e.2.2.1) := by decide +kernel
theorem rd_d182 : ∀ e ∈ rd_c182, decode cX12_clear e.1 = .ok (e.2.1, e.2.2.1) := by decide +kernel
theorem rd_d183 : ∀ e ∈ rd_c183, decode cX12_nextFor e.1 = .ok (e.2.1, e.2.2.1) := by decide +kernel
theorem rd_d184 : ∀ e ∈ rd_c184, decode cX12_callBy e.1 = .ok (e.2.1, e.2.2.1) := by decide +kernel
theorem rd_d185 : ∀ e ∈ rd_c185, decode cX12_done e.1 = .ok (e.2.1, e.2.2.1) := by decide +kernel
theorem rd_d186 : ∀ e ∈ rd_c186, decode cX12_comeTo e.1 = .ok (e.2.1, e.2.2.1) := by decide +kernel
theorem rd_d187 : ∀ e ∈ rd_c187, decode cX12_run e.1 = .ok (e.2.1, e.2.2.1) := by decide +kernel
theorem rd_d188 : ∀ e ∈ rd_c188, decode cX12_desk e.1 = .ok (e.2.1, e.2.2.1) := by decide +kernel
theorem rd_d189 : ∀ e ∈ rd_c189, decode cX12_told e.1 = .ok (e.2.1, e.2.2.1) := by decide +kernel
theorem rd_d190 : ∀ e ∈ rd_c190, decode cX12_count e.1 = .ok (e.2.1, e.2.2.1) := by decide +kernel
theorem rd_d191 : ∀ e ∈ rd_c191, decode cX12_forget e.1 = .ok (e.2.1, e.2.2.1) := by decide +kernel
theorem rd_d192 : ∀ e ∈ rd_c192, decode cJ9_min_7cf53 e.1 = .ok (e.2.1, e.2.2.1) := by decide +kernel
theorem rd_d193 : ∀ e ∈ rd_c193, decode cJ7_fill_53178 e.1 = .ok (e.2.1, e.2.2.1) := by decide +kernel
theorem rd_d194_0 : ∀ e ∈ (rd_c194.drop 0).take 50, decode cL_law e.1 = .ok (e.2.1, e.2.2.1) := by decide +kernel
theorem rd_d194_50 : ∀ e ∈ (rd_c194.drop 50).take 50, decode cL_law e.1 = .ok (e.2.1, e.2.2.1) := by decide +kernel
theorem rd_d194_100 : ∀ e ∈ (rd_c194.drop 100).take 50, decode cL_law e.1 = .ok (e.2.1, e.2.2.1) := by decide +kernel
theorem rd_d194_150 : ∀ e ∈ (rd_c194.drop 150).take 50, decode cL_law e.1 = .ok (e.2.1, e.2.2.1) := by decide +kernel
theorem rd_d194_200 : ∀ e ∈ (rd_c194.drop 200).take 50, decode cL_law e.1 = .ok (e.2.1, e.2.2.1) := by decide +kernel
theorem rd_d194_250 : ∀ e ∈ (rd_c194.drop 250).take 50, decode cL_law e.1 = .ok (e.2.1, e.2.2.1) := by decide +kernel
theorem rd_d194_300 : ∀ e ∈ (rd_c194.drop 300).take 50, decode cL_law e.1 = .ok (e.2.1, e.2.2.1) := by decide +kernel
theorem rd_d194_350 : ∀ e ∈ (rd_c194.drop 350).take 50, decode cL_law e.1 = .ok (e.2.1, e.2.2.1) := by decide +kernel
theorem rd_d194_400 : ∀ e ∈ (rd_c194.drop 400).take 50, decode cL_law e.1 = .ok (e.2.1, e.2.2.1) := by decide +kernel
theorem rd_d194_450 : ∀ e ∈ (rd_c194.drop 450).take 50, decode cL_law e.1 = .ok (e.2.1, e.2.2.1) := by decide +kernel
theorem rd_d194_500 : ∀ e ∈ (rd_c194.drop 500).take 50, decode cL_law e.1 = .ok (e.2.1, e.2.2.1) := by decide +kernel
theorem rd_d194_550 : ∀ e ∈ (rd_c194.drop 550).take 50, decode cL_law e.1 = .ok (e.2.1, e.2.2.1) := by decide +kernel
theorem rd_d194_600 : ∀ e ∈ (rd_c194.drop 600).take 50, decode cL_law e.1 = .ok (e.2.1, e.2.2.1) := by decide +kernel
theorem rd_d194_650 : ∀ e ∈ (rd_c194.drop 650).take 50, decode cL_law e.1 = .ok (e.2.1, e.2.2.1) := by decide +kernel
theorem rd_d194_700 : ∀ e ∈ (rd_c194.drop 700).take 50, decode cL_law e.1 = .ok (e.2.1, e.2.2.1) := by decide +kernel
theorem rd_d194_750 : ∀ e ∈ (rd_c194.drop 750).take 50, decode cL_law e.1 = .ok (e.2.1, e.2.2.1) := by decide +kernel
theorem rd_cut {α : Type} (p : α → Prop) : ∀ (n : Nat) (l : List α), (∀ e ∈ l.take n, p e) → (∀ e ∈ l.drop n, p e) → ∀ e ∈ l, p e := by
  intro n l h1 h2 e he
  rw [← List.take_append_drop n l] at he
  exact (List.mem_append.mp he).elim (h1 e) (h2 e)
theorem rd_d194 : ∀ e ∈ rd_c194, decode cL_law e.1 = .ok (e.2.1, e.2.2.1) := by
  refine rd_cut _ 50 _ rd_d194_0 ?_
  refine rd_cut _ 50 _ rd_d194_50 ?_
  rw [List.drop_drop]
  refine rd_cut _ 50 _ rd_d194_100 ?_
  rw [List.drop_drop]
  refine rd_cut _ 50 _ rd_d194_150 ?_
  rw [List.drop_drop]
  refine rd_cut _ 50 _ rd_d194_200 ?_
  rw [List.drop_drop]
  refine rd_cut _ 50 _ rd_d194_250 ?_
  rw [List.drop_drop]
  refine rd_cut _ 50 _ rd_d194_300 ?_
  rw [List.drop_drop]
  refine rd_cut _ 50 _ rd_d194_350 ?_
  rw [List.drop_drop]
  refine rd_cut _ 50 _ rd_d194_400 ?_
  rw [List.drop_drop]
  refine rd_cut _ 50 _ rd_d194_450 ?_
  rw [List.drop_drop]
  refine rd_cut _ 50 _ rd_d194_500 ?_
  rw [List.drop_drop]
  refine rd_cut _ 50 _ rd_d194_550 ?_
  rw [List.drop_drop]
  refine rd_cut _ 50 _ rd_d194_600 ?_
  rw [List.drop_drop]
  refine rd_cut _ 50 _ rd_d194_650 ?_
  rw [List.drop_drop]
  refine rd_cut _ 50 _ rd_d194_700 ?_
  rw [List.drop_drop]
  intro e he
  exact rd_d194_750 e (by rw [List.take_of_length_le (by decide +kernel)]; exact he)
def rd_dz : List (List rd_Et) → List rd_M → Prop
  | l :: ls, m :: ms => (∀ e ∈ l, decode m.2.1 e.1 = .ok (e.2.1, e.2.2.1)) ∧ rd_dz ls ms
  | _, _ => True
theorem rd_dz_ok : rd_dz rd_ct rd_mt := ⟨rd_d0, rd_d1, rd_d2, rd_d3, rd_d4, rd_d5, rd_d6, rd_d7, rd_d8, rd_d9, rd_d10, rd_d11, rd_d12, rd_d13, rd_d14, rd_d15, rd_d16, rd_d17, rd_d18, rd_d19, rd_d20, rd_d21, rd_d22, rd_d23, rd_d24, rd_d25, rd_d26, rd_d27, rd_d28, rd_d29, rd_d30, rd_d31, rd_d32, rd_d33, rd_d34, rd_d35, rd_d36, rd_d37, rd_d38, rd_d39, rd_d40, rd_d41, rd_d42, rd_d43, rd_d44, rd_d45, rd_d46, rd_d47, rd_d48, rd_d49, rd_d50, rd_d51, rd_d52, rd_d53, rd_d54, rd_d55, rd_d56, rd_d57, rd_d58, rd_d59, rd_d60, rd_d61, rd_d62, rd_d63, rd_d64, rd_d65, rd_d66, rd_d67, rd_d68, rd_d69, rd_d70, rd_d71, rd_d72, rd_d73, rd_d74, rd_d75, rd_d76, rd_d77, rd_d78, rd_d79, rd_d80, rd_d81, rd_d82, rd_d83, rd_d84, rd_d85, rd_d86, rd_d87, rd_d88, rd_d89, rd_d90, rd_d91, rd_d92, rd_d93, rd_d94, rd_d95, rd_d96, rd_d97, rd_d98, rd_d99, rd_d100, rd_d101, rd_d102, rd_d103, rd_d104, rd_d105, rd_d106, rd_d107, rd_d108, rd_d109, rd_d110, rd_d111, rd_d112, rd_d113, rd_d114, rd_d115, rd_d116, rd_d117, rd_d118, rd_d119, rd_d120, rd_d121, rd_d122, rd_d123, rd_d124, rd_d125, rd_d126, rd_d127, rd_d128, rd_d129, rd_d130, rd_d131, rd_d132, rd_d133, rd_d134, rd_d135, rd_d136, rd_d137, rd_d138, rd_d139, rd_d140, rd_d141, rd_d142, rd_d143, rd_d144, rd_d145, rd_d146, rd_d147, rd_d148, rd_d149, rd_d150, rd_d151, rd_d152, rd_d153, rd_d154, rd_d155, rd_d156, rd_d157, rd_d158, rd_d159, rd_d160, rd_d161, rd_d162, rd_d163, rd_d164, rd_d165, rd_d166, rd_d167, rd_d168, rd_d169, rd_d170, rd_d171, rd_d172, rd_d173, rd_d174, rd_d175, rd_d176, rd_d177, rd_d178, rd_d179, rd_d180, rd_d181, rd_d182, rd_d183, rd_d184, rd_d185, rd_d186, rd_d187, rd_d188, rd_d189, rd_d190, rd_d191, rd_d192, rd_d193, rd_d194, trivial⟩
