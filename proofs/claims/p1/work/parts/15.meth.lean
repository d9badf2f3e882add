/-! what is known of every method and of every call -/
theorem me_J7_fill_53178 : rMeth 1 := fun o rk hh nL ini h => by
  cases (show mI[1]? = some _ from rfl).symm.trans h
  exact ⟨yJ7_fill_53178, cJ7_fill_53178, _, _, rfl, rfl, by decide +kernel, ⟨by decide +kernel, by decide +kernel⟩, mA 183 (by decide +kernel), mA 44 (by decide +kernel), rfl, fun h => (by first | rfl | cases h), trivial, kd_J7_fill_53178, by decide⟩
theorem me_Jx35411_hasNext_aae02 : rMeth 2 := fun o rk hh nL ini h => by
  cases (show mI[2]? = some _ from rfl).symm.trans h
  exact ⟨yJx35411_hasNext_aae02, cJx35411_hasNext_aae02, _, _, rfl, rfl, by decide +kernel, ⟨by decide +kernel, by decide +kernel⟩, mA 669 (by decide +kernel), mA 46 (by decide +kernel), rfl, fun h => (by first | rfl | cases h), trivial, kd_Jx35411_hasNext_aae02, by decide⟩
theorem me_Jx35411_init_45d68 : rMeth 3 := fun o rk hh nL ini h => by
  cases (show mI[3]? = some _ from rfl).symm.trans h
  exact ⟨yJx35411_init_45d68, cJx35411_init_45d68, _, _, rfl, rfl, by decide +kernel, ⟨by decide +kernel, by decide +kernel⟩, mA 651 (by decide +kernel), mA 46 (by decide +kernel), rfl, fun h => (by first | rfl | cases h), trivial, kd_Jx35411_init_45d68, by decide⟩
theorem me_Jx4a65c_add_72be8 : rMeth 4 := fun o rk hh nL ini h => by
  cases (show mI[4]? = some _ from rfl).symm.trans h
  exact ⟨yJx4a65c_add_72be8, cJx4a65c_add_72be8, _, _, rfl, rfl, by decide +kernel, ⟨by decide +kernel, by decide +kernel⟩, mA 246 (by decide +kernel), mA 35 (by decide +kernel), rfl, fun h => (by first | rfl | cases h), trivial, kd_Jx4a65c_add_72be8, by decide⟩
theorem me_Jx4a65c_add_9ea2d : rMeth 5 := fun o rk hh nL ini h => by
  cases (show mI[5]? = some _ from rfl).symm.trans h
  exact ⟨yJx4a65c_add_9ea2d, cJx4a65c_add_9ea2d, _, _, rfl, rfl, by decide +kernel, ⟨by decide +kernel, by decide +kernel⟩, mA 243 (by decide +kernel), mA 35 (by decide +kernel), rfl, fun h => (by first | rfl | cases h), trivial, kd_Jx4a65c_add_9ea2d, by decide⟩
theorem me_Jx4a65c_clear_da8c8 : rMeth 6 := fun o rk hh nL ini h => by
  cases (show mI[6]? = some _ from rfl).symm.trans h
  exact ⟨yJx4a65c_clear_da8c8, cJx4a65c_clear_da8c8, _, _, rfl, rfl, by decide +kernel, ⟨by decide +kernel, by decide +kernel⟩, mA 332 (by decide +kernel), mA 35 (by decide +kernel), rfl, fun h => (by first | rfl | cases h), trivial, kd_Jx4a65c_clear_da8c8, by decide⟩
theorem me_Jx4a65c_grow_92f84 : rMeth 7 := fun o rk hh nL ini h => by
  cases (show mI[7]? = some _ from rfl).symm.trans h
  exact ⟨yJx4a65c_grow_92f84, cJx4a65c_grow_92f84, _, _, rfl, rfl, by decide +kernel, ⟨by decide +kernel, by decide +kernel⟩, mA 252 (by decide +kernel), mA 35 (by decide +kernel), ⟨_, rfl, (by first | exact Or.inl ⟨_, rfl⟩ | exact Or.inr ⟨_, rfl⟩)⟩, fun h => (by first | rfl | cases h), trivial, kd_Jx4a65c_grow_92f84, by decide⟩
theorem me_Jx4a65c_grow_d5877 : rMeth 8 := fun o rk hh nL ini h => by
  cases (show mI[8]? = some _ from rfl).symm.trans h
  exact ⟨yJx4a65c_grow_d5877, cJx4a65c_grow_d5877, _, _, rfl, rfl, by decide +kernel, ⟨by decide +kernel, by decide +kernel⟩, mA 249 (by decide +kernel), mA 35 (by decide +kernel), ⟨_, rfl, (by first | exact Or.inl ⟨_, rfl⟩ | exact Or.inr ⟨_, rfl⟩)⟩, fun h => (by first | rfl | cases h), trivial, kd_Jx4a65c_grow_d5877, by decide⟩
theorem me_Jx4a65c_init_da8c8 : rMeth 9 := fun o rk hh nL ini h => by
  cases (show mI[9]? = some _ from rfl).symm.trans h
  exact ⟨yJx4a65c_init_da8c8, cJx4a65c_init_da8c8, _, _, rfl, rfl, by decide +kernel, ⟨by decide +kernel, by decide +kernel⟩, mA 64 (by decide +kernel), mA 35 (by decide +kernel), rfl, fun h => (by first | rfl | cases h), trivial, kd_Jx4a65c_init_da8c8, by decide⟩
theorem me_Jx4a65c_isEmpty_aae02 : rMeth 10 := fun o rk hh nL ini h => by
  cases (show mI[10]? = some _ from rfl).symm.trans h
  exact ⟨yJx4a65c_isEmpty_aae02, cJx4a65c_isEmpty_aae02, _, _, rfl, rfl, by decide +kernel, ⟨by decide +kernel, by decide +kernel⟩, mA 560 (by decide +kernel), mA 35 (by decide +kernel), rfl, fun h => (by first | rfl | cases h), trivial, kd_Jx4a65c_isEmpty_aae02, by decide⟩
theorem me_Jx4a65c_iterator_32c93 : rMeth 11 := fun o rk hh nL ini h => by
  cases (show mI[11]? = some _ from rfl).symm.trans h
  exact ⟨yJx4a65c_iterator_32c93, cJx4a65c_iterator_32c93, _, _, rfl, rfl, by decide +kernel, ⟨by decide +kernel, by decide +kernel⟩, mA 646 (by decide +kernel), mA 35 (by decide +kernel), ⟨_, rfl, (by first | exact Or.inl ⟨_, rfl⟩ | exact Or.inr ⟨_, rfl⟩)⟩, fun h => (by first | rfl | cases h), trivial, kd_Jx4a65c_iterator_32c93, by decide⟩
theorem me_Jx4a65c_size_8abf5 : rMeth 12 := fun o rk hh nL ini h => by
  cases (show mI[12]? = some _ from rfl).symm.trans h
  exact ⟨yJx4a65c_size_8abf5, cJx4a65c_size_8abf5, _, _, rfl, rfl, by decide +kernel, ⟨by decide +kernel, by decide +kernel⟩, mA 164 (by decide +kernel), mA 35 (by decide +kernel), rfl, fun h => (by first | rfl | cases h), trivial, kd_Jx4a65c_size_8abf5, by decide⟩
theorem me_Jxa1e45_init_da8c8 : rMeth 13 := fun o rk hh nL ini h => by
  cases (show mI[13]? = some _ from rfl).symm.trans h
  exact ⟨yJxa1e45_init_da8c8, cJxa1e45_init_da8c8, _, _, rfl, rfl, by decide +kernel, ⟨by decide +kernel, by decide +kernel⟩, mA 70 (by decide +kernel), mA 33 (by decide +kernel), rfl, fun h => (by first | rfl | cases h), trivial, kd_Jxa1e45_init_da8c8, by decide⟩
theorem me_Jxc12de_init_da8c8 : rMeth 14 := fun o rk hh nL ini h => by
  cases (show mI[14]? = some _ from rfl).symm.trans h
  exact ⟨yJxc12de_init_da8c8, cJxc12de_init_da8c8, _, _, rfl, rfl, by decide +kernel, ⟨by decide +kernel, by decide +kernel⟩, mA 67 (by decide +kernel), mA 34 (by decide +kernel), rfl, fun h => (by first | rfl | cases h), trivial, kd_Jxc12de_init_da8c8, by decide⟩
theorem me_L_abandon : rMeth 15 := fun o rk hh nL ini h => by
  cases (show mI[15]? = some _ from rfl).symm.trans h
  exact ⟨yL_abandon, cL_abandon, _, _, rfl, rfl, by decide +kernel, ⟨by decide +kernel, by decide +kernel⟩, mA 434 (by decide +kernel), mA 31 (by decide +kernel), rfl, fun h => (by first | rfl | cases h), ⟨⟨rfl, rfl, rfl, by decide, "java/lang/IllegalStateException", rfl, mA 196 (by decide +kernel), mA 213 (by decide +kernel)⟩, trivial⟩, kd_L_abandon, by decide⟩
theorem me_L_addClub : rMeth 16 := fun o rk hh nL ini h => by
  cases (show mI[16]? = some _ from rfl).symm.trans h
  exact ⟨yL_addClub, cL_addClub, _, _, rfl, rfl, by decide +kernel, ⟨by decide +kernel, by decide +kernel⟩, mA 194 (by decide +kernel), mA 31 (by decide +kernel), rfl, fun h => (by first | rfl | cases h), ⟨⟨rfl, rfl, rfl, by decide, "java/lang/IllegalArgumentException", rfl, mA 195 (by decide +kernel), mA 208 (by decide +kernel)⟩, ⟨⟨rfl, rfl, rfl, by decide, "java/lang/IllegalStateException", rfl, mA 196 (by decide +kernel), mA 213 (by decide +kernel)⟩, trivial⟩⟩, kd_L_addClub, by decide⟩
theorem me_L_addPlayer : rMeth 17 := fun o rk hh nL ini h => by
  cases (show mI[17]? = some _ from rfl).symm.trans h
  exact ⟨yL_addPlayer, cL_addPlayer, _, _, rfl, rfl, by decide +kernel, ⟨by decide +kernel, by decide +kernel⟩, mA 258 (by decide +kernel), mA 31 (by decide +kernel), rfl, fun h => (by first | rfl | cases h), ⟨⟨rfl, rfl, rfl, by decide, "java/lang/IndexOutOfBoundsException", rfl, mA 259 (by decide +kernel), mA 268 (by decide +kernel)⟩, ⟨⟨rfl, rfl, rfl, by decide, "java/lang/IllegalStateException", rfl, mA 196 (by decide +kernel), mA 213 (by decide +kernel)⟩, trivial⟩⟩, kd_L_addPlayer, by decide⟩
theorem me_L_appeal : rMeth 18 := fun o rk hh nL ini h => by
  cases (show mI[18]? = some _ from rfl).symm.trans h
  exact ⟨yL_appeal, cL_appeal, _, _, rfl, rfl, by decide +kernel, ⟨by decide +kernel, by decide +kernel⟩, mA 441 (by decide +kernel), mA 31 (by decide +kernel), rfl, fun h => (by first | rfl | cases h), ⟨⟨rfl, rfl, rfl, by decide, "java/lang/IndexOutOfBoundsException", rfl, mA 259 (by decide +kernel), mA 268 (by decide +kernel)⟩, trivial⟩, kd_L_appeal, by decide⟩
theorem me_L_ban : rMeth 19 := fun o rk hh nL ini h => by
  cases (show mI[19]? = some _ from rfl).symm.trans h
  exact ⟨yL_ban, cL_ban, _, _, rfl, rfl, by decide +kernel, ⟨by decide +kernel, by decide +kernel⟩, mA 459 (by decide +kernel), mA 31 (by decide +kernel), rfl, fun h => (by first | rfl | cases h), ⟨⟨rfl, rfl, rfl, by decide, "java/lang/IndexOutOfBoundsException", rfl, mA 259 (by decide +kernel), mA 268 (by decide +kernel)⟩, trivial⟩, kd_L_ban, by decide⟩
theorem me_L_callBack : rMeth 20 := fun o rk hh nL ini h => by
  cases (show mI[20]? = some _ from rfl).symm.trans h
  exact ⟨yL_callBack, cL_callBack, _, _, rfl, rfl, by decide +kernel, ⟨by decide +kernel, by decide +kernel⟩, mA 307 (by decide +kernel), mA 31 (by decide +kernel), rfl, fun h => (by first | rfl | cases h), ⟨⟨rfl, rfl, rfl, by decide, "java/lang/IndexOutOfBoundsException", rfl, mA 259 (by decide +kernel), mA 268 (by decide +kernel)⟩, ⟨⟨rfl, rfl, rfl, by decide, "java/lang/UnsupportedOperationException", rfl, mA 289 (by decide +kernel), mA 297 (by decide +kernel)⟩, trivial⟩⟩, kd_L_callBack, by decide⟩
theorem me_L_card : rMeth 21 := fun o rk hh nL ini h => by
  cases (show mI[21]? = some _ from rfl).symm.trans h
  exact ⟨yL_card, cL_card, _, _, rfl, rfl, by decide +kernel, ⟨by decide +kernel, by decide +kernel⟩, mA 413 (by decide +kernel), mA 31 (by decide +kernel), rfl, fun h => (by first | rfl | cases h), ⟨⟨rfl, rfl, rfl, by decide, "java/lang/IndexOutOfBoundsException", rfl, mA 259 (by decide +kernel), mA 268 (by decide +kernel)⟩, ⟨⟨rfl, rfl, rfl, by decide, "java/lang/IllegalStateException", rfl, mA 196 (by decide +kernel), mA 213 (by decide +kernel)⟩, ⟨⟨rfl, rfl, rfl, by decide, "java/lang/UnsupportedOperationException", rfl, mA 289 (by decide +kernel), mA 297 (by decide +kernel)⟩, trivial⟩⟩⟩, kd_L_card, by decide⟩
theorem me_L_change : rMeth 22 := fun o rk hh nL ini h => by
  cases (show mI[22]? = some _ from rfl).symm.trans h
  exact ⟨yL_change, cL_change, _, _, rfl, rfl, by decide +kernel, ⟨by decide +kernel, by decide +kernel⟩, mA 420 (by decide +kernel), mA 31 (by decide +kernel), rfl, fun h => (by first | rfl | cases h), ⟨⟨rfl, rfl, rfl, by decide, "java/lang/IndexOutOfBoundsException", rfl, mA 259 (by decide +kernel), mA 268 (by decide +kernel)⟩, ⟨⟨rfl, rfl, rfl, by decide, "java/lang/IllegalStateException", rfl, mA 196 (by decide +kernel), mA 213 (by decide +kernel)⟩, ⟨⟨rfl, rfl, rfl, by decide, "java/lang/UnsupportedOperationException", rfl, mA 289 (by decide +kernel), mA 297 (by decide +kernel)⟩, trivial⟩⟩⟩, kd_L_change, by decide⟩
theorem me_L_clubAt : rMeth 23 := fun o rk hh nL ini h => by
  cases (show mI[23]? = some _ from rfl).symm.trans h
  exact ⟨yL_clubAt, cL_clubAt, _, _, rfl, rfl, by decide +kernel, ⟨by decide +kernel, by decide +kernel⟩, mA 501 (by decide +kernel), mA 31 (by decide +kernel), rfl, fun h => (by first | rfl | cases h), ⟨⟨rfl, rfl, rfl, by decide, "java/lang/IllegalArgumentException", rfl, mA 195 (by decide +kernel), mA 208 (by decide +kernel)⟩, ⟨⟨rfl, rfl, rfl, by decide, "java/lang/IndexOutOfBoundsException", rfl, mA 259 (by decide +kernel), mA 268 (by decide +kernel)⟩, trivial⟩⟩, kd_L_clubAt, by decide⟩
theorem me_L_divisionOf : rMeth 24 := fun o rk hh nL ini h => by
  cases (show mI[24]? = some _ from rfl).symm.trans h
  exact ⟨yL_divisionOf, cL_divisionOf, _, _, rfl, rfl, by decide +kernel, ⟨by decide +kernel, by decide +kernel⟩, mA 533 (by decide +kernel), mA 31 (by decide +kernel), rfl, fun h => (by first | rfl | cases h), ⟨⟨rfl, rfl, rfl, by decide, "java/lang/IndexOutOfBoundsException", rfl, mA 259 (by decide +kernel), mA 268 (by decide +kernel)⟩, trivial⟩, kd_L_divisionOf, by decide⟩
theorem me_L_end : rMeth 25 := fun o rk hh nL ini h => by
  cases (show mI[25]? = some _ from rfl).symm.trans h
  exact ⟨yL_end, cL_end, _, _, rfl, rfl, by decide +kernel, ⟨by decide +kernel, by decide +kernel⟩, mA 427 (by decide +kernel), mA 31 (by decide +kernel), rfl, fun h => (by first | rfl | cases h), ⟨⟨rfl, rfl, rfl, by decide, "java/lang/IllegalStateException", rfl, mA 196 (by decide +kernel), mA 213 (by decide +kernel)⟩, trivial⟩, kd_L_end, by decide⟩
theorem me_L_endSeason : rMeth 26 := fun o rk hh nL ini h => by
  cases (show mI[26]? = some _ from rfl).symm.trans h
  exact ⟨yL_endSeason, cL_endSeason, _, _, rfl, rfl, by decide +kernel, ⟨by decide +kernel, by decide +kernel⟩, mA 547 (by decide +kernel), mA 31 (by decide +kernel), rfl, fun h => (by first | rfl | cases h), ⟨⟨rfl, rfl, rfl, by decide, "java/lang/IllegalStateException", rfl, mA 196 (by decide +kernel), mA 213 (by decide +kernel)⟩, trivial⟩, kd_L_endSeason, by decide⟩
theorem me_L_fixture : rMeth 27 := fun o rk hh nL ini h => by
  cases (show mI[27]? = some _ from rfl).symm.trans h
  exact ⟨yL_fixture, cL_fixture, _, _, rfl, rfl, by decide +kernel, ⟨by decide +kernel, by decide +kernel⟩, mA 346 (by decide +kernel), mA 31 (by decide +kernel), rfl, fun h => (by first | rfl | cases h), ⟨⟨rfl, rfl, rfl, by decide, "java/lang/IndexOutOfBoundsException", rfl, mA 259 (by decide +kernel), mA 268 (by decide +kernel)⟩, ⟨⟨rfl, rfl, rfl, by decide, "java/lang/IllegalArgumentException", rfl, mA 195 (by decide +kernel), mA 208 (by decide +kernel)⟩, trivial⟩⟩, kd_L_fixture, by decide⟩
theorem me_L_goOn : rMeth 28 := fun o rk hh nL ini h => by
  cases (show mI[28]? = some _ from rfl).symm.trans h
  exact ⟨yL_goOn, cL_goOn, _, _, rfl, rfl, by decide +kernel, ⟨by decide +kernel, by decide +kernel⟩, mA 281 (by decide +kernel), mA 31 (by decide +kernel), rfl, fun h => (by first | rfl | cases h), ⟨⟨rfl, rfl, rfl, by decide, "java/lang/IllegalArgumentException", rfl, mA 195 (by decide +kernel), mA 208 (by decide +kernel)⟩, ⟨⟨rfl, rfl, rfl, by decide, "java/lang/IllegalStateException", rfl, mA 196 (by decide +kernel), mA 213 (by decide +kernel)⟩, trivial⟩⟩, kd_L_goOn, by decide⟩
theorem me_L_goal : rMeth 29 := fun o rk hh nL ini h => by
  cases (show mI[29]? = some _ from rfl).symm.trans h
  exact ⟨yL_goal, cL_goal, _, _, rfl, rfl, by decide +kernel, ⟨by decide +kernel, by decide +kernel⟩, mA 403 (by decide +kernel), mA 31 (by decide +kernel), rfl, fun h => (by first | rfl | cases h), ⟨⟨rfl, rfl, rfl, by decide, "java/lang/IndexOutOfBoundsException", rfl, mA 259 (by decide +kernel), mA 268 (by decide +kernel)⟩, ⟨⟨rfl, rfl, rfl, by decide, "java/lang/IllegalStateException", rfl, mA 196 (by decide +kernel), mA 213 (by decide +kernel)⟩, ⟨⟨rfl, rfl, rfl, by decide, "java/lang/UnsupportedOperationException", rfl, mA 289 (by decide +kernel), mA 297 (by decide +kernel)⟩, trivial⟩⟩⟩, kd_L_goal, by decide⟩
theorem me_L_isGuilty : rMeth 30 := fun o rk hh nL ini h => by
  cases (show mI[30]? = some _ from rfl).symm.trans h
  exact ⟨yL_isGuilty, cL_isGuilty, _, _, rfl, rfl, by decide +kernel, ⟨by decide +kernel, by decide +kernel⟩, mA 473 (by decide +kernel), mA 31 (by decide +kernel), rfl, fun h => (by first | rfl | cases h), ⟨⟨rfl, rfl, rfl, by decide, "java/lang/IndexOutOfBoundsException", rfl, mA 259 (by decide +kernel), mA 268 (by decide +kernel)⟩, ⟨⟨rfl, rfl, rfl, by decide, "java/lang/UnsupportedOperationException", rfl, mA 289 (by decide +kernel), mA 297 (by decide +kernel)⟩, trivial⟩⟩, kd_L_isGuilty, by decide⟩
theorem me_L_kickOff : rMeth 31 := fun o rk hh nL ini h => by
  cases (show mI[31]? = some _ from rfl).symm.trans h
  exact ⟨yL_kickOff, cL_kickOff, _, _, rfl, rfl, by decide +kernel, ⟨by decide +kernel, by decide +kernel⟩, mA 370 (by decide +kernel), mA 31 (by decide +kernel), rfl, fun h => (by first | rfl | cases h), ⟨⟨rfl, rfl, rfl, by decide, "java/lang/IndexOutOfBoundsException", rfl, mA 259 (by decide +kernel), mA 268 (by decide +kernel)⟩, ⟨⟨rfl, rfl, rfl, by decide, "java/lang/UnsupportedOperationException", rfl, mA 289 (by decide +kernel), mA 297 (by decide +kernel)⟩, ⟨⟨rfl, rfl, rfl, by decide, "java/lang/IllegalStateException", rfl, mA 196 (by decide +kernel), mA 213 (by decide +kernel)⟩, trivial⟩⟩⟩, kd_L_kickOff, by decide⟩
theorem me_L_lend : rMeth 32 := fun o rk hh nL ini h => by
  cases (show mI[32]? = some _ from rfl).symm.trans h
  exact ⟨yL_lend, cL_lend, _, _, rfl, rfl, by decide +kernel, ⟨by decide +kernel, by decide +kernel⟩, mA 300 (by decide +kernel), mA 31 (by decide +kernel), rfl, fun h => (by first | rfl | cases h), ⟨⟨rfl, rfl, rfl, by decide, "java/lang/IndexOutOfBoundsException", rfl, mA 259 (by decide +kernel), mA 268 (by decide +kernel)⟩, ⟨⟨rfl, rfl, rfl, by decide, "java/lang/IllegalArgumentException", rfl, mA 195 (by decide +kernel), mA 208 (by decide +kernel)⟩, ⟨⟨rfl, rfl, rfl, by decide, "java/lang/UnsupportedOperationException", rfl, mA 289 (by decide +kernel), mA 297 (by decide +kernel)⟩, trivial⟩⟩⟩, kd_L_lend, by decide⟩
theorem me_L_meanGoals : rMeth 33 := fun o rk hh nL ini h => by
  cases (show mI[33]? = some _ from rfl).symm.trans h
  exact ⟨yL_meanGoals, cL_meanGoals, _, _, rfl, rfl, by decide +kernel, ⟨by decide +kernel, by decide +kernel⟩, mA 580 (by decide +kernel), mA 31 (by decide +kernel), rfl, fun h => (by first | rfl | cases h), ⟨⟨rfl, rfl, rfl, by decide, "java/lang/ArithmeticException", rfl, mA 568 (by decide +kernel), mA 569 (by decide +kernel)⟩, trivial⟩, kd_L_meanGoals, by decide⟩
theorem me_L_name : rMeth 34 := fun o rk hh nL ini h => by
  cases (show mI[34]? = some _ from rfl).symm.trans h
  exact ⟨yL_name, cL_name, _, _, rfl, rfl, by decide +kernel, ⟨by decide +kernel, by decide +kernel⟩, mA 360 (by decide +kernel), mA 31 (by decide +kernel), rfl, fun h => (by first | rfl | cases h), ⟨⟨rfl, rfl, rfl, by decide, "java/lang/IndexOutOfBoundsException", rfl, mA 259 (by decide +kernel), mA 268 (by decide +kernel)⟩, ⟨⟨rfl, rfl, rfl, by decide, "java/lang/UnsupportedOperationException", rfl, mA 289 (by decide +kernel), mA 297 (by decide +kernel)⟩, ⟨⟨rfl, rfl, rfl, by decide, "java/lang/IllegalArgumentException", rfl, mA 195 (by decide +kernel), mA 208 (by decide +kernel)⟩, ⟨⟨rfl, rfl, rfl, by decide, "java/lang/IllegalStateException", rfl, mA 196 (by decide +kernel), mA 213 (by decide +kernel)⟩, trivial⟩⟩⟩⟩, kd_L_name, by decide⟩
theorem me_L_overShare : rMeth 35 := fun o rk hh nL ini h => by
  cases (show mI[35]? = some _ from rfl).symm.trans h
  exact ⟨yL_overShare, cL_overShare, _, _, rfl, rfl, by decide +kernel, ⟨by decide +kernel, by decide +kernel⟩, mA 567 (by decide +kernel), mA 31 (by decide +kernel), rfl, fun h => (by first | rfl | cases h), ⟨⟨rfl, rfl, rfl, by decide, "java/lang/ArithmeticException", rfl, mA 568 (by decide +kernel), mA 569 (by decide +kernel)⟩, trivial⟩, kd_L_overShare, by decide⟩
theorem me_L_plan : rMeth 36 := fun o rk hh nL ini h => by
  cases (show mI[36]? = some _ from rfl).symm.trans h
  exact ⟨yL_plan, cL_plan, _, _, rfl, rfl, by decide +kernel, ⟨by decide +kernel, by decide +kernel⟩, mA 321 (by decide +kernel), mA 31 (by decide +kernel), rfl, fun h => (by first | rfl | cases h), ⟨⟨rfl, rfl, rfl, by decide, "java/lang/IllegalArgumentException", rfl, mA 195 (by decide +kernel), mA 208 (by decide +kernel)⟩, ⟨⟨rfl, rfl, rfl, by decide, "java/lang/IllegalStateException", rfl, mA 196 (by decide +kernel), mA 213 (by decide +kernel)⟩, ⟨⟨rfl, rfl, rfl, by decide, "java/util/NoSuchElementException", rfl, mA 322 (by decide +kernel), mA 333 (by decide +kernel)⟩, trivial⟩⟩⟩, kd_L_plan, by decide⟩
theorem me_L_points : rMeth 37 := fun o rk hh nL ini h => by
  cases (show mI[37]? = some _ from rfl).symm.trans h
  exact ⟨yL_points, cL_points, _, _, rfl, rfl, by decide +kernel, ⟨by decide +kernel, by decide +kernel⟩, mA 526 (by decide +kernel), mA 31 (by decide +kernel), rfl, fun h => (by first | rfl | cases h), ⟨⟨rfl, rfl, rfl, by decide, "java/lang/IndexOutOfBoundsException", rfl, mA 259 (by decide +kernel), mA 268 (by decide +kernel)⟩, trivial⟩, kd_L_points, by decide⟩
theorem me_L_putOff : rMeth 38 := fun o rk hh nL ini h => by
  cases (show mI[38]? = some _ from rfl).symm.trans h
  exact ⟨yL_putOff, cL_putOff, _, _, rfl, rfl, by decide +kernel, ⟨by decide +kernel, by decide +kernel⟩, mA 336 (by decide +kernel), mA 31 (by decide +kernel), rfl, fun h => (by first | rfl | cases h), ⟨⟨rfl, rfl, rfl, by decide, "java/lang/IndexOutOfBoundsException", rfl, mA 259 (by decide +kernel), mA 268 (by decide +kernel)⟩, ⟨⟨rfl, rfl, rfl, by decide, "java/lang/IllegalArgumentException", rfl, mA 195 (by decide +kernel), mA 208 (by decide +kernel)⟩, ⟨⟨rfl, rfl, rfl, by decide, "java/lang/UnsupportedOperationException", rfl, mA 289 (by decide +kernel), mA 297 (by decide +kernel)⟩, trivial⟩⟩⟩, kd_L_putOff, by decide⟩
theorem me_L_registered : rMeth 39 := fun o rk hh nL ini h => by
  cases (show mI[39]? = some _ from rfl).symm.trans h
  exact ⟨yL_registered, cL_registered, _, _, rfl, rfl, by decide +kernel, ⟨by decide +kernel, by decide +kernel⟩, mA 540 (by decide +kernel), mA 31 (by decide +kernel), rfl, fun h => (by first | rfl | cases h), ⟨⟨rfl, rfl, rfl, by decide, "java/lang/IndexOutOfBoundsException", rfl, mA 259 (by decide +kernel), mA 268 (by decide +kernel)⟩, trivial⟩, kd_L_registered, by decide⟩
theorem me_L_resultOf : rMeth 40 := fun o rk hh nL ini h => by
  cases (show mI[40]? = some _ from rfl).symm.trans h
  exact ⟨yL_resultOf, cL_resultOf, _, _, rfl, rfl, by decide +kernel, ⟨by decide +kernel, by decide +kernel⟩, mA 480 (by decide +kernel), mA 31 (by decide +kernel), rfl, fun h => (by first | rfl | cases h), ⟨⟨rfl, rfl, rfl, by decide, "java/lang/IndexOutOfBoundsException", rfl, mA 259 (by decide +kernel), mA 268 (by decide +kernel)⟩, ⟨⟨rfl, rfl, rfl, by decide, "java/lang/UnsupportedOperationException", rfl, mA 289 (by decide +kernel), mA 297 (by decide +kernel)⟩, trivial⟩⟩, kd_L_resultOf, by decide⟩
theorem me_L_sell : rMeth 41 := fun o rk hh nL ini h => by
  cases (show mI[41]? = some _ from rfl).symm.trans h
  exact ⟨yL_sell, cL_sell, _, _, rfl, rfl, by decide +kernel, ⟨by decide +kernel, by decide +kernel⟩, mA 288 (by decide +kernel), mA 31 (by decide +kernel), rfl, fun h => (by first | rfl | cases h), ⟨⟨rfl, rfl, rfl, by decide, "java/lang/IndexOutOfBoundsException", rfl, mA 259 (by decide +kernel), mA 268 (by decide +kernel)⟩, ⟨⟨rfl, rfl, rfl, by decide, "java/lang/IllegalArgumentException", rfl, mA 195 (by decide +kernel), mA 208 (by decide +kernel)⟩, ⟨⟨rfl, rfl, rfl, by decide, "java/lang/UnsupportedOperationException", rfl, mA 289 (by decide +kernel), mA 297 (by decide +kernel)⟩, trivial⟩⟩⟩, kd_L_sell, by decide⟩
theorem me_L_setDerby : rMeth 42 := fun o rk hh nL ini h => by
  cases (show mI[42]? = some _ from rfl).symm.trans h
  exact ⟨yL_setDerby, cL_setDerby, _, _, rfl, rfl, by decide +kernel, ⟨by decide +kernel, by decide +kernel⟩, mA 314 (by decide +kernel), mA 31 (by decide +kernel), rfl, fun h => (by first | rfl | cases h), ⟨⟨rfl, rfl, rfl, by decide, "java/lang/IndexOutOfBoundsException", rfl, mA 259 (by decide +kernel), mA 268 (by decide +kernel)⟩, ⟨⟨rfl, rfl, rfl, by decide, "java/lang/IllegalArgumentException", rfl, mA 195 (by decide +kernel), mA 208 (by decide +kernel)⟩, trivial⟩⟩, kd_L_setDerby, by decide⟩
theorem me_L_setWindow : rMeth 43 := fun o rk hh nL ini h => by
  cases (show mI[43]? = some _ from rfl).symm.trans h
  exact ⟨yL_setWindow, cL_setWindow, _, _, rfl, rfl, by decide +kernel, ⟨by decide +kernel, by decide +kernel⟩, mA 271 (by decide +kernel), mA 31 (by decide +kernel), rfl, fun h => (by first | rfl | cases h), ⟨⟨rfl, rfl, rfl, by decide, "java/lang/IllegalArgumentException", rfl, mA 195 (by decide +kernel), mA 208 (by decide +kernel)⟩, trivial⟩, kd_L_setWindow, by decide⟩
theorem me_L_stateOf : rMeth 44 := fun o rk hh nL ini h => by
  cases (show mI[44]? = some _ from rfl).symm.trans h
  exact ⟨yL_stateOf, cL_stateOf, _, _, rfl, rfl, by decide +kernel, ⟨by decide +kernel, by decide +kernel⟩, mA 353 (by decide +kernel), mA 31 (by decide +kernel), rfl, fun h => (by first | rfl | cases h), ⟨⟨rfl, rfl, rfl, by decide, "java/lang/IndexOutOfBoundsException", rfl, mA 259 (by decide +kernel), mA 268 (by decide +kernel)⟩, trivial⟩, kd_L_stateOf, by decide⟩
theorem me_L_strike : rMeth 45 := fun o rk hh nL ini h => by
  cases (show mI[45]? = some _ from rfl).symm.trans h
  exact ⟨yL_strike, cL_strike, _, _, rfl, rfl, by decide +kernel, ⟨by decide +kernel, by decide +kernel⟩, mA 494 (by decide +kernel), mA 31 (by decide +kernel), rfl, fun h => (by first | rfl | cases h), ⟨⟨rfl, rfl, rfl, by decide, "java/lang/IndexOutOfBoundsException", rfl, mA 259 (by decide +kernel), mA 268 (by decide +kernel)⟩, ⟨⟨rfl, rfl, rfl, by decide, "java/lang/IllegalStateException", rfl, mA 196 (by decide +kernel), mA 213 (by decide +kernel)⟩, trivial⟩⟩, kd_L_strike, by decide⟩
theorem me_L_takePoints : rMeth 46 := fun o rk hh nL ini h => by
  cases (show mI[46]? = some _ from rfl).symm.trans h
  exact ⟨yL_takePoints, cL_takePoints, _, _, rfl, rfl, by decide +kernel, ⟨by decide +kernel, by decide +kernel⟩, mA 487 (by decide +kernel), mA 31 (by decide +kernel), rfl, fun h => (by first | rfl | cases h), ⟨⟨rfl, rfl, rfl, by decide, "java/lang/IndexOutOfBoundsException", rfl, mA 259 (by decide +kernel), mA 268 (by decide +kernel)⟩, ⟨⟨rfl, rfl, rfl, by decide, "java/lang/IllegalArgumentException", rfl, mA 195 (by decide +kernel), mA 208 (by decide +kernel)⟩, trivial⟩⟩, kd_L_takePoints, by decide⟩
theorem me_L_wipe : rMeth 47 := fun o rk hh nL ini h => by
  cases (show mI[47]? = some _ from rfl).symm.trans h
  exact ⟨yL_wipe, cL_wipe, _, _, rfl, rfl, by decide +kernel, ⟨by decide +kernel, by decide +kernel⟩, mA 448 (by decide +kernel), mA 31 (by decide +kernel), rfl, fun h => (by first | rfl | cases h), ⟨⟨rfl, rfl, rfl, by decide, "java/lang/IllegalStateException", rfl, mA 196 (by decide +kernel), mA 213 (by decide +kernel)⟩, trivial⟩, kd_L_wipe, by decide⟩
theorem me_L_yellows : rMeth 48 := fun o rk hh nL ini h => by
  cases (show mI[48]? = some _ from rfl).symm.trans h
  exact ⟨yL_yellows, cL_yellows, _, _, rfl, rfl, by decide +kernel, ⟨by decide +kernel, by decide +kernel⟩, mA 466 (by decide +kernel), mA 31 (by decide +kernel), rfl, fun h => (by first | rfl | cases h), ⟨⟨rfl, rfl, rfl, by decide, "java/lang/IndexOutOfBoundsException", rfl, mA 259 (by decide +kernel), mA 268 (by decide +kernel)⟩, trivial⟩, kd_L_yellows, by decide⟩
theorem me_X0_count : rMeth 49 := fun o rk hh nL ini h => by
  cases (show mI[49]? = some _ from rfl).symm.trans h
  exact ⟨yX0_count, cX0_count, _, _, rfl, rfl, by decide +kernel, ⟨by decide +kernel, by decide +kernel⟩, mA 187 (by decide +kernel), mA 36 (by decide +kernel), rfl, fun h => (by first | rfl | cases h), trivial, kd_X0_count, by decide⟩
theorem me_X0_countAnew : rMeth 50 := fun o rk hh nL ini h => by
  cases (show mI[50]? = some _ from rfl).symm.trans h
  exact ⟨yX0_countAnew, cX0_countAnew, _, _, rfl, rfl, by decide +kernel, ⟨by decide +kernel, by decide +kernel⟩, mA 180 (by decide +kernel), mA 36 (by decide +kernel), rfl, fun h => (by first | rfl | cases h), trivial, kd_X0_countAnew, by decide⟩
theorem me_X0_init : rMeth 51 := fun o rk hh nL ini h => by
  cases (show mI[51]? = some _ from rfl).symm.trans h
  exact ⟨yX0_init, cX0_init, _, _, rfl, rfl, by decide +kernel, ⟨by decide +kernel, by decide +kernel⟩, mA 87 (by decide +kernel), mA 36 (by decide +kernel), rfl, fun h => (by first | rfl | cases h), trivial, kd_X0_init, by decide⟩
theorem me_X0_isFull : rMeth 52 := fun o rk hh nL ini h => by
  cases (show mI[52]? = some _ from rfl).symm.trans h
  exact ⟨yX0_isFull, cX0_isFull, _, _, rfl, rfl, by decide +kernel, ⟨by decide +kernel, by decide +kernel⟩, mA 378 (by decide +kernel), mA 36 (by decide +kernel), rfl, fun h => (by first | rfl | cases h), trivial, kd_X0_isFull, by decide⟩
theorem me_X0_isSameAnew : rMeth 53 := fun o rk hh nL ini h => by
  cases (show mI[53]? = some _ from rfl).symm.trans h
  exact ⟨yX0_isSameAnew, cX0_isSameAnew, _, _, rfl, rfl, by decide +kernel, ⟨by decide +kernel, by decide +kernel⟩, mA 173 (by decide +kernel), mA 36 (by decide +kernel), rfl, fun h => (by first | rfl | cases h), trivial, kd_X0_isSameAnew, by decide⟩
theorem me_X0_playersWithYellows : rMeth 54 := fun o rk hh nL ini h => by
  cases (show mI[54]? = some _ from rfl).symm.trans h
  exact ⟨yX0_playersWithYellows, cX0_playersWithYellows, _, _, rfl, rfl, by decide +kernel, ⟨by decide +kernel, by decide +kernel⟩, mA 456 (by decide +kernel), mA 36 (by decide +kernel), rfl, fun h => (by first | rfl | cases h), trivial, kd_X0_playersWithYellows, by decide⟩
theorem me_X0_write : rMeth 55 := fun o rk hh nL ini h => by
  cases (show mI[55]? = some _ from rfl).symm.trans h
  exact ⟨yX0_write, cX0_write, _, _, rfl, rfl, by decide +kernel, ⟨by decide +kernel, by decide +kernel⟩, mA 399 (by decide +kernel), mA 36 (by decide +kernel), rfl, fun h => (by first | rfl | cases h), trivial, kd_X0_write, by decide⟩
theorem me_X11_init : rMeth 56 := fun o rk hh nL ini h => by
  cases (show mI[56]? = some _ from rfl).symm.trans h
  exact ⟨yX11_init, cX11_init, _, _, rfl, rfl, by decide +kernel, ⟨by decide +kernel, by decide +kernel⟩, mA 680 (by decide +kernel), mA 47 (by decide +kernel), rfl, fun h => (by first | rfl | cases h), trivial, kd_X11_init, by decide⟩
theorem me_X12_init : rMeth 57 := fun o rk hh nL ini h => by
  cases (show mI[57]? = some _ from rfl).symm.trans h
  exact ⟨yX12_init, cX12_init, _, _, rfl, rfl, by decide +kernel, ⟨by decide +kernel, by decide +kernel⟩, mA 776 (by decide +kernel), mA 50 (by decide +kernel), rfl, fun h => (by first | rfl | cases h), trivial, kd_X12_init, by decide⟩
theorem me_X15_abandon : rMeth 58 := fun o rk hh nL ini h => by
  cases (show mI[58]? = some _ from rfl).symm.trans h
  exact ⟨yX15_abandon, cX15_abandon, _, _, rfl, rfl, by decide +kernel, ⟨by decide +kernel, by decide +kernel⟩, mA 812 (by decide +kernel), mA 39 (by decide +kernel), rfl, fun h => (by first | rfl | cases h), trivial, kd_X15_abandon, by decide⟩
theorem me_X15_addClub : rMeth 59 := fun o rk hh nL ini h => by
  cases (show mI[59]? = some _ from rfl).symm.trans h
  exact ⟨yX15_addClub, cX15_addClub, _, _, rfl, rfl, by decide +kernel, ⟨by decide +kernel, by decide +kernel⟩, mA 626 (by decide +kernel), mA 39 (by decide +kernel), rfl, fun h => (by first | rfl | cases h), trivial, kd_X15_addClub, by decide⟩
theorem me_X15_addPlayer : rMeth 60 := fun o rk hh nL ini h => by
  cases (show mI[60]? = some _ from rfl).symm.trans h
  exact ⟨yX15_addPlayer, cX15_addPlayer, _, _, rfl, rfl, by decide +kernel, ⟨by decide +kernel, by decide +kernel⟩, mA 703 (by decide +kernel), mA 39 (by decide +kernel), rfl, fun h => (by first | rfl | cases h), trivial, kd_X15_addPlayer, by decide⟩
theorem me_X15_appeal : rMeth 61 := fun o rk hh nL ini h => by
  cases (show mI[61]? = some _ from rfl).symm.trans h
  exact ⟨yX15_appeal, cX15_appeal, _, _, rfl, rfl, by decide +kernel, ⟨by decide +kernel, by decide +kernel⟩, mA 816 (by decide +kernel), mA 39 (by decide +kernel), rfl, fun h => (by first | rfl | cases h), trivial, kd_X15_appeal, by decide⟩
theorem me_X15_ban : rMeth 62 := fun o rk hh nL ini h => by
  cases (show mI[62]? = some _ from rfl).symm.trans h
  exact ⟨yX15_ban, cX15_ban, _, _, rfl, rfl, by decide +kernel, ⟨by decide +kernel, by decide +kernel⟩, mA 824 (by decide +kernel), mA 39 (by decide +kernel), rfl, fun h => (by first | rfl | cases h), trivial, kd_X15_ban, by decide⟩
theorem me_X15_callBack : rMeth 63 := fun o rk hh nL ini h => by
  cases (show mI[63]? = some _ from rfl).symm.trans h
  exact ⟨yX15_callBack, cX15_callBack, _, _, rfl, rfl, by decide +kernel, ⟨by decide +kernel, by decide +kernel⟩, mA 734 (by decide +kernel), mA 39 (by decide +kernel), rfl, fun h => (by first | rfl | cases h), trivial, kd_X15_callBack, by decide⟩
theorem me_X15_card : rMeth 64 := fun o rk hh nL ini h => by
  cases (show mI[64]? = some _ from rfl).symm.trans h
  exact ⟨yX15_card, cX15_card, _, _, rfl, rfl, by decide +kernel, ⟨by decide +kernel, by decide +kernel⟩, mA 800 (by decide +kernel), mA 39 (by decide +kernel), rfl, fun h => (by first | rfl | cases h), trivial, kd_X15_card, by decide⟩
theorem me_X15_change : rMeth 65 := fun o rk hh nL ini h => by
  cases (show mI[65]? = some _ from rfl).symm.trans h
  exact ⟨yX15_change, cX15_change, _, _, rfl, rfl, by decide +kernel, ⟨by decide +kernel, by decide +kernel⟩, mA 804 (by decide +kernel), mA 39 (by decide +kernel), rfl, fun h => (by first | rfl | cases h), trivial, kd_X15_change, by decide⟩
theorem me_X15_clubAt : rMeth 66 := fun o rk hh nL ini h => by
  cases (show mI[66]? = some _ from rfl).symm.trans h
  exact ⟨yX15_clubAt, cX15_clubAt, _, _, rfl, rfl, by decide +kernel, ⟨by decide +kernel, by decide +kernel⟩, mA 848 (by decide +kernel), mA 39 (by decide +kernel), rfl, fun h => (by first | rfl | cases h), trivial, kd_X15_clubAt, by decide⟩
theorem me_X15_clubsIn : rMeth 67 := fun o rk hh nL ini h => by
  cases (show mI[67]? = some _ from rfl).symm.trans h
  exact ⟨yX15_clubsIn, cX15_clubsIn, _, _, rfl, rfl, by decide +kernel, ⟨by decide +kernel, by decide +kernel⟩, mA 637 (by decide +kernel), mA 39 (by decide +kernel), rfl, fun h => (by first | rfl | cases h), trivial, kd_X15_clubsIn, by decide⟩
theorem me_X15_counting : rMeth 68 := fun o rk hh nL ini h => by
  cases (show mI[68]? = some _ from rfl).symm.trans h
  exact ⟨yX15_counting, cX15_counting, _, _, rfl, rfl, by decide +kernel, ⟨by decide +kernel, by decide +kernel⟩, mA 854 (by decide +kernel), mA 39 (by decide +kernel), ⟨_, rfl, (by first | exact Or.inl ⟨_, rfl⟩ | exact Or.inr ⟨_, rfl⟩)⟩, fun h => (by first | rfl | cases h), trivial, kd_X15_counting, by decide⟩
theorem me_X15_divisionOf : rMeth 69 := fun o rk hh nL ini h => by
  cases (show mI[69]? = some _ from rfl).symm.trans h
  exact ⟨yX15_divisionOf, cX15_divisionOf, _, _, rfl, rfl, by decide +kernel, ⟨by decide +kernel, by decide +kernel⟩, mA 868 (by decide +kernel), mA 39 (by decide +kernel), rfl, fun h => (by first | rfl | cases h), trivial, kd_X15_divisionOf, by decide⟩
theorem me_X15_end : rMeth 70 := fun o rk hh nL ini h => by
  cases (show mI[70]? = some _ from rfl).symm.trans h
  exact ⟨yX15_end, cX15_end, _, _, rfl, rfl, by decide +kernel, ⟨by decide +kernel, by decide +kernel⟩, mA 808 (by decide +kernel), mA 39 (by decide +kernel), rfl, fun h => (by first | rfl | cases h), trivial, kd_X15_end, by decide⟩
theorem me_X15_endSeason : rMeth 71 := fun o rk hh nL ini h => by
  cases (show mI[71]? = some _ from rfl).symm.trans h
  exact ⟨yX15_endSeason, cX15_endSeason, _, _, rfl, rfl, by decide +kernel, ⟨by decide +kernel, by decide +kernel⟩, mA 876 (by decide +kernel), mA 39 (by decide +kernel), rfl, fun h => (by first | rfl | cases h), trivial, kd_X15_endSeason, by decide⟩
theorem me_X15_fixture : rMeth 72 := fun o rk hh nL ini h => by
  cases (show mI[72]? = some _ from rfl).symm.trans h
  exact ⟨yX15_fixture, cX15_fixture, _, _, rfl, rfl, by decide +kernel, ⟨by decide +kernel, by decide +kernel⟩, mA 756 (by decide +kernel), mA 39 (by decide +kernel), rfl, fun h => (by first | rfl | cases h), trivial, kd_X15_fixture, by decide⟩
theorem me_X15_goOn : rMeth 73 := fun o rk hh nL ini h => by
  cases (show mI[73]? = some _ from rfl).symm.trans h
  exact ⟨yX15_goOn, cX15_goOn, _, _, rfl, rfl, by decide +kernel, ⟨by decide +kernel, by decide +kernel⟩, mA 718 (by decide +kernel), mA 39 (by decide +kernel), rfl, fun h => (by first | rfl | cases h), trivial, kd_X15_goOn, by decide⟩
theorem me_X15_goal : rMeth 74 := fun o rk hh nL ini h => by
  cases (show mI[74]? = some _ from rfl).symm.trans h
  exact ⟨yX15_goal, cX15_goal, _, _, rfl, rfl, by decide +kernel, ⟨by decide +kernel, by decide +kernel⟩, mA 793 (by decide +kernel), mA 39 (by decide +kernel), rfl, fun h => (by first | rfl | cases h), trivial, kd_X15_goal, by decide⟩
theorem me_X15_goesThrough : rMeth 75 := fun o rk hh nL ini h => by
  cases (show mI[75]? = some _ from rfl).symm.trans h
  exact ⟨yX15_goesThrough, cX15_goesThrough, _, _, rfl, rfl, by decide +kernel, ⟨by decide +kernel, by decide +kernel⟩, mA 771 (by decide +kernel), mA 39 (by decide +kernel), rfl, fun h => (by first | rfl | cases h), trivial, kd_X15_goesThrough, by decide⟩
theorem me_X15_hasFixtures : rMeth 76 := fun o rk hh nL ini h => by
  cases (show mI[76]? = some _ from rfl).symm.trans h
  exact ⟨yX15_hasFixtures, cX15_hasFixtures, _, _, rfl, rfl, by decide +kernel, ⟨by decide +kernel, by decide +kernel⟩, mA 745 (by decide +kernel), mA 39 (by decide +kernel), rfl, fun h => (by first | rfl | cases h), trivial, kd_X15_hasFixtures, by decide⟩
theorem me_X15_init : rMeth 77 := fun o rk hh nL ini h => by
  cases (show mI[77]? = some _ from rfl).symm.trans h
  exact ⟨yX15_init, cX15_init, _, _, rfl, rfl, by decide +kernel, ⟨by decide +kernel, by decide +kernel⟩, mA 589 (by decide +kernel), mA 39 (by decide +kernel), rfl, fun h => (by first | rfl | cases h), trivial, kd_X15_init, by decide⟩
theorem me_X15_isClub : rMeth 78 := fun o rk hh nL ini h => by
  cases (show mI[78]? = some _ from rfl).symm.trans h
  exact ⟨yX15_isClub, cX15_isClub, _, _, rfl, rfl, by decide +kernel, ⟨by decide +kernel, by decide +kernel⟩, mA 706 (by decide +kernel), mA 39 (by decide +kernel), rfl, fun h => (by first | rfl | cases h), trivial, kd_X15_isClub, by decide⟩
theorem me_X15_isGuilty : rMeth 79 := fun o rk hh nL ini h => by
  cases (show mI[79]? = some _ from rfl).symm.trans h
  exact ⟨yX15_isGuilty, cX15_isGuilty, _, _, rfl, rfl, by decide +kernel, ⟨by decide +kernel, by decide +kernel⟩, mA 832 (by decide +kernel), mA 39 (by decide +kernel), rfl, fun h => (by first | rfl | cases h), trivial, kd_X15_isGuilty, by decide⟩
theorem me_X15_isIn : rMeth 80 := fun o rk hh nL ini h => by
  cases (show mI[80]? = some _ from rfl).symm.trans h
  exact ⟨yX15_isIn, cX15_isIn, _, _, rfl, rfl, by decide +kernel, ⟨by decide +kernel, by decide +kernel⟩, mA 629 (by decide +kernel), mA 39 (by decide +kernel), rfl, fun h => (by first | rfl | cases h), trivial, kd_X15_isIn, by decide⟩
theorem me_X15_isOpen : rMeth 81 := fun o rk hh nL ini h => by
  cases (show mI[81]? = some _ from rfl).symm.trans h
  exact ⟨yX15_isOpen, cX15_isOpen, _, _, rfl, rfl, by decide +kernel, ⟨by decide +kernel, by decide +kernel⟩, mA 714 (by decide +kernel), mA 39 (by decide +kernel), rfl, fun h => (by first | rfl | cases h), trivial, kd_X15_isOpen, by decide⟩
theorem me_X15_isPlayer : rMeth 82 := fun o rk hh nL ini h => by
  cases (show mI[82]? = some _ from rfl).symm.trans h
  exact ⟨yX15_isPlayer, cX15_isPlayer, _, _, rfl, rfl, by decide +kernel, ⟨by decide +kernel, by decide +kernel⟩, mA 726 (by decide +kernel), mA 39 (by decide +kernel), rfl, fun h => (by first | rfl | cases h), trivial, kd_X15_isPlayer, by decide⟩
theorem me_X15_isSound : rMeth 83 := fun o rk hh nL ini h => by
  cases (show mI[83]? = some _ from rfl).symm.trans h
  exact ⟨yX15_isSound, cX15_isSound, _, _, rfl, rfl, by decide +kernel, ⟨by decide +kernel, by decide +kernel⟩, mA 901 (by decide +kernel), mA 39 (by decide +kernel), rfl, fun h => (by first | rfl | cases h), trivial, kd_X15_isSound, by decide⟩
theorem me_X15_kickOff : rMeth 84 := fun o rk hh nL ini h => by
  cases (show mI[84]? = some _ from rfl).symm.trans h
  exact ⟨yX15_kickOff, cX15_kickOff, _, _, rfl, rfl, by decide +kernel, ⟨by decide +kernel, by decide +kernel⟩, mA 768 (by decide +kernel), mA 39 (by decide +kernel), rfl, fun h => (by first | rfl | cases h), trivial, kd_X15_kickOff, by decide⟩
theorem me_X15_lend : rMeth 85 := fun o rk hh nL ini h => by
  cases (show mI[85]? = some _ from rfl).symm.trans h
  exact ⟨yX15_lend, cX15_lend, _, _, rfl, rfl, by decide +kernel, ⟨by decide +kernel, by decide +kernel⟩, mA 730 (by decide +kernel), mA 39 (by decide +kernel), rfl, fun h => (by first | rfl | cases h), trivial, kd_X15_lend, by decide⟩
theorem me_X15_meanGoals : rMeth 86 := fun o rk hh nL ini h => by
  cases (show mI[86]? = some _ from rfl).symm.trans h
  exact ⟨yX15_meanGoals, cX15_meanGoals, _, _, rfl, rfl, by decide +kernel, ⟨by decide +kernel, by decide +kernel⟩, mA 897 (by decide +kernel), mA 39 (by decide +kernel), rfl, fun h => (by first | rfl | cases h), trivial, kd_X15_meanGoals, by decide⟩
theorem me_X15_money : rMeth 87 := fun o rk hh nL ini h => by
  cases (show mI[87]? = some _ from rfl).symm.trans h
  exact ⟨yX15_money, cX15_money, _, _, rfl, rfl, by decide +kernel, ⟨by decide +kernel, by decide +kernel⟩, mA 886 (by decide +kernel), mA 39 (by decide +kernel), rfl, fun h => (by first | rfl | cases h), trivial, kd_X15_money, by decide⟩
theorem me_X15_name : rMeth 88 := fun o rk hh nL ini h => by
  cases (show mI[88]? = some _ from rfl).symm.trans h
  exact ⟨yX15_name, cX15_name, _, _, rfl, rfl, by decide +kernel, ⟨by decide +kernel, by decide +kernel⟩, mA 764 (by decide +kernel), mA 39 (by decide +kernel), rfl, fun h => (by first | rfl | cases h), trivial, kd_X15_name, by decide⟩
theorem me_X15_no : rMeth 89 := fun o rk hh nL ini h => by
  cases (show mI[89]? = some _ from rfl).symm.trans h
  exact ⟨yX15_no, cX15_no, _, _, rfl, rfl, by decide +kernel, ⟨by decide +kernel, by decide +kernel⟩, mA 634 (by decide +kernel), mA 39 (by decide +kernel), rfl, fun h => (by first | rfl | cases h), trivial, kd_X15_no, by decide⟩
theorem me_X15_noMatch : rMeth 90 := fun o rk hh nL ini h => by
  cases (show mI[90]? = some _ from rfl).symm.trans h
  exact ⟨yX15_noMatch, cX15_noMatch, _, _, rfl, rfl, by decide +kernel, ⟨by decide +kernel, by decide +kernel⟩, mA 752 (by decide +kernel), mA 39 (by decide +kernel), rfl, fun h => (by first | rfl | cases h), trivial, kd_X15_noMatch, by decide⟩
theorem me_X15_noOn : rMeth 91 := fun o rk hh nL ini h => by
  cases (show mI[91]? = some _ from rfl).symm.trans h
  exact ⟨yX15_noOn, cX15_noOn, _, _, rfl, rfl, by decide +kernel, ⟨by decide +kernel, by decide +kernel⟩, mA 796 (by decide +kernel), mA 39 (by decide +kernel), rfl, fun h => (by first | rfl | cases h), trivial, kd_X15_noOn, by decide⟩
theorem me_X15_over : rMeth 92 := fun o rk hh nL ini h => by
  cases (show mI[92]? = some _ from rfl).symm.trans h
  exact ⟨yX15_over, cX15_over, _, _, rfl, rfl, by decide +kernel, ⟨by decide +kernel, by decide +kernel⟩, mA 893 (by decide +kernel), mA 39 (by decide +kernel), rfl, fun h => (by first | rfl | cases h), trivial, kd_X15_over, by decide⟩
theorem me_X15_overShare : rMeth 93 := fun o rk hh nL ini h => by
  cases (show mI[93]? = some _ from rfl).symm.trans h
  exact ⟨yX15_overShare, cX15_overShare, _, _, rfl, rfl, by decide +kernel, ⟨by decide +kernel, by decide +kernel⟩, mA 890 (by decide +kernel), mA 39 (by decide +kernel), rfl, fun h => (by first | rfl | cases h), trivial, kd_X15_overShare, by decide⟩
theorem me_X15_plan : rMeth 94 := fun o rk hh nL ini h => by
  cases (show mI[94]? = some _ from rfl).symm.trans h
  exact ⟨yX15_plan, cX15_plan, _, _, rfl, rfl, by decide +kernel, ⟨by decide +kernel, by decide +kernel⟩, mA 742 (by decide +kernel), mA 39 (by decide +kernel), rfl, fun h => (by first | rfl | cases h), trivial, kd_X15_plan, by decide⟩
theorem me_X15_points : rMeth 95 := fun o rk hh nL ini h => by
  cases (show mI[95]? = some _ from rfl).symm.trans h
  exact ⟨yX15_points, cX15_points, _, _, rfl, rfl, by decide +kernel, ⟨by decide +kernel, by decide +kernel⟩, mA 864 (by decide +kernel), mA 39 (by decide +kernel), rfl, fun h => (by first | rfl | cases h), trivial, kd_X15_points, by decide⟩
theorem me_X15_putOff : rMeth 96 := fun o rk hh nL ini h => by
  cases (show mI[96]? = some _ from rfl).symm.trans h
  exact ⟨yX15_putOff, cX15_putOff, _, _, rfl, rfl, by decide +kernel, ⟨by decide +kernel, by decide +kernel⟩, mA 749 (by decide +kernel), mA 39 (by decide +kernel), rfl, fun h => (by first | rfl | cases h), trivial, kd_X15_putOff, by decide⟩
theorem me_X15_registered : rMeth 97 := fun o rk hh nL ini h => by
  cases (show mI[97]? = some _ from rfl).symm.trans h
  exact ⟨yX15_registered, cX15_registered, _, _, rfl, rfl, by decide +kernel, ⟨by decide +kernel, by decide +kernel⟩, mA 872 (by decide +kernel), mA 39 (by decide +kernel), rfl, fun h => (by first | rfl | cases h), trivial, kd_X15_registered, by decide⟩
theorem me_X15_resultOf : rMeth 98 := fun o rk hh nL ini h => by
  cases (show mI[98]? = some _ from rfl).symm.trans h
  exact ⟨yX15_resultOf, cX15_resultOf, _, _, rfl, rfl, by decide +kernel, ⟨by decide +kernel, by decide +kernel⟩, mA 836 (by decide +kernel), mA 39 (by decide +kernel), rfl, fun h => (by first | rfl | cases h), trivial, kd_X15_resultOf, by decide⟩
theorem me_X15_sell : rMeth 99 := fun o rk hh nL ini h => by
  cases (show mI[99]? = some _ from rfl).symm.trans h
  exact ⟨yX15_sell, cX15_sell, _, _, rfl, rfl, by decide +kernel, ⟨by decide +kernel, by decide +kernel⟩, mA 723 (by decide +kernel), mA 39 (by decide +kernel), rfl, fun h => (by first | rfl | cases h), trivial, kd_X15_sell, by decide⟩
theorem me_X15_setDerby : rMeth 100 := fun o rk hh nL ini h => by
  cases (show mI[100]? = some _ from rfl).symm.trans h
  exact ⟨yX15_setDerby, cX15_setDerby, _, _, rfl, rfl, by decide +kernel, ⟨by decide +kernel, by decide +kernel⟩, mA 738 (by decide +kernel), mA 39 (by decide +kernel), rfl, fun h => (by first | rfl | cases h), trivial, kd_X15_setDerby, by decide⟩
theorem me_X15_setWindow : rMeth 101 := fun o rk hh nL ini h => by
  cases (show mI[101]? = some _ from rfl).symm.trans h
  exact ⟨yX15_setWindow, cX15_setWindow, _, _, rfl, rfl, by decide +kernel, ⟨by decide +kernel, by decide +kernel⟩, mA 710 (by decide +kernel), mA 39 (by decide +kernel), rfl, fun h => (by first | rfl | cases h), trivial, kd_X15_setWindow, by decide⟩
theorem me_X15_stateOf : rMeth 102 := fun o rk hh nL ini h => by
  cases (show mI[102]? = some _ from rfl).symm.trans h
  exact ⟨yX15_stateOf, cX15_stateOf, _, _, rfl, rfl, by decide +kernel, ⟨by decide +kernel, by decide +kernel⟩, mA 760 (by decide +kernel), mA 39 (by decide +kernel), rfl, fun h => (by first | rfl | cases h), trivial, kd_X15_stateOf, by decide⟩
theorem me_X15_strike : rMeth 103 := fun o rk hh nL ini h => by
  cases (show mI[103]? = some _ from rfl).symm.trans h
  exact ⟨yX15_strike, cX15_strike, _, _, rfl, rfl, by decide +kernel, ⟨by decide +kernel, by decide +kernel⟩, mA 844 (by decide +kernel), mA 39 (by decide +kernel), rfl, fun h => (by first | rfl | cases h), trivial, kd_X15_strike, by decide⟩
theorem me_X15_table : rMeth 104 := fun o rk hh nL ini h => by
  cases (show mI[104]? = some _ from rfl).symm.trans h
  exact ⟨yX15_table, cX15_table, _, _, rfl, rfl, by decide +kernel, ⟨by decide +kernel, by decide +kernel⟩, mA 851 (by decide +kernel), mA 39 (by decide +kernel), ⟨_, rfl, (by first | exact Or.inl ⟨_, rfl⟩ | exact Or.inr ⟨_, rfl⟩)⟩, fun h => (by first | rfl | cases h), trivial, kd_X15_table, by decide⟩
theorem me_X15_takePoints : rMeth 105 := fun o rk hh nL ini h => by
  cases (show mI[105]? = some _ from rfl).symm.trans h
  exact ⟨yX15_takePoints, cX15_takePoints, _, _, rfl, rfl, by decide +kernel, ⟨by decide +kernel, by decide +kernel⟩, mA 840 (by decide +kernel), mA 39 (by decide +kernel), rfl, fun h => (by first | rfl | cases h), trivial, kd_X15_takePoints, by decide⟩
theorem me_X15_thrown : rMeth 106 := fun o rk hh nL ini h => by
  cases (show mI[106]? = some _ from rfl).symm.trans h
  exact ⟨yX15_thrown, cX15_thrown, _, _, rfl, rfl, by decide +kernel, ⟨by decide +kernel, by decide +kernel⟩, mA 622 (by decide +kernel), mA 39 (by decide +kernel), rfl, fun h => (by first | rfl | cases h), trivial, kd_X15_thrown, by decide⟩
theorem me_X15_wipe : rMeth 107 := fun o rk hh nL ini h => by
  cases (show mI[107]? = some _ from rfl).symm.trans h
  exact ⟨yX15_wipe, cX15_wipe, _, _, rfl, rfl, by decide +kernel, ⟨by decide +kernel, by decide +kernel⟩, mA 820 (by decide +kernel), mA 39 (by decide +kernel), rfl, fun h => (by first | rfl | cases h), trivial, kd_X15_wipe, by decide⟩
theorem me_X15_yellows : rMeth 108 := fun o rk hh nL ini h => by
  cases (show mI[108]? = some _ from rfl).symm.trans h
  exact ⟨yX15_yellows, cX15_yellows, _, _, rfl, rfl, by decide +kernel, ⟨by decide +kernel, by decide +kernel⟩, mA 828 (by decide +kernel), mA 39 (by decide +kernel), rfl, fun h => (by first | rfl | cases h), trivial, kd_X15_yellows, by decide⟩
theorem me_X2_init : rMeth 109 := fun o rk hh nL ini h => by
  cases (show mI[109]? = some _ from rfl).symm.trans h
  exact ⟨yX2_init, cX2_init, _, _, rfl, rfl, by decide +kernel, ⟨by decide +kernel, by decide +kernel⟩, mA 217 (by decide +kernel), mA 42 (by decide +kernel), rfl, fun h => (by first | rfl | cases h), trivial, kd_X2_init, by decide⟩
theorem me_X3_init : rMeth 110 := fun o rk hh nL ini h => by
  cases (show mI[110]? = some _ from rfl).symm.trans h
  exact ⟨yX3_init, cX3_init, _, _, rfl, rfl, by decide +kernel, ⟨by decide +kernel, by decide +kernel⟩, mA 383 (by decide +kernel), mA 49 (by decide +kernel), rfl, fun h => (by first | rfl | cases h), trivial, kd_X3_init, by decide⟩
theorem me_X5_init : rMeth 111 := fun o rk hh nL ini h => by
  cases (show mI[111]? = some _ from rfl).symm.trans h
  exact ⟨yX5_init, cX5_init, _, _, rfl, rfl, by decide +kernel, ⟨by decide +kernel, by decide +kernel⟩, mA 109 (by decide +kernel), mA 37 (by decide +kernel), rfl, fun h => (by first | rfl | cases h), trivial, kd_X5_init, by decide⟩
theorem me_X8_addRows : rMeth 112 := fun o rk hh nL ini h => by
  cases (show mI[112]? = some _ from rfl).symm.trans h
  exact ⟨yX8_addRows, cX8_addRows, _, _, rfl, rfl, by decide +kernel, ⟨by decide +kernel, by decide +kernel⟩, mA 514 (by decide +kernel), mA 38 (by decide +kernel), rfl, fun h => (by first | rfl | cases h), trivial, kd_X8_addRows, by decide⟩
theorem me_X8_countAmong : rMeth 113 := fun o rk hh nL ini h => by
  cases (show mI[113]? = some _ from rfl).symm.trans h
  exact ⟨yX8_countAmong, cX8_countAmong, _, _, rfl, rfl, by decide +kernel, ⟨by decide +kernel, by decide +kernel⟩, mA 517 (by decide +kernel), mA 38 (by decide +kernel), rfl, fun h => (by first | rfl | cases h), trivial, kd_X8_countAmong, by decide⟩
theorem me_X8_draw : rMeth 114 := fun o rk hh nL ini h => by
  cases (show mI[114]? = some _ from rfl).symm.trans h
  exact ⟨yX8_draw, cX8_draw, _, _, rfl, rfl, by decide +kernel, ⟨by decide +kernel, by decide +kernel⟩, mA 509 (by decide +kernel), mA 38 (by decide +kernel), rfl, fun h => (by first | rfl | cases h), trivial, kd_X8_draw, by decide⟩
theorem me_X8_firstToRise : rMeth 115 := fun o rk hh nL ini h => by
  cases (show mI[115]? = some _ from rfl).symm.trans h
  exact ⟨yX8_firstToRise, cX8_firstToRise, _, _, rfl, rfl, by decide +kernel, ⟨by decide +kernel, by decide +kernel⟩, mA 558 (by decide +kernel), mA 38 (by decide +kernel), ⟨_, rfl, (by first | exact Or.inl ⟨_, rfl⟩ | exact Or.inr ⟨_, rfl⟩)⟩, fun h => (by first | rfl | cases h), trivial, kd_X8_firstToRise, by decide⟩
theorem me_X8_init : rMeth 116 := fun o rk hh nL ini h => by
  cases (show mI[116]? = some _ from rfl).symm.trans h
  exact ⟨yX8_init, cX8_init, _, _, rfl, rfl, by decide +kernel, ⟨by decide +kernel, by decide +kernel⟩, mA 131 (by decide +kernel), mA 38 (by decide +kernel), rfl, fun h => (by first | rfl | cases h), trivial, kd_X8_init, by decide⟩
theorem me_X8_partTies : rMeth 117 := fun o rk hh nL ini h => by
  cases (show mI[117]? = some _ from rfl).symm.trans h
  exact ⟨yX8_partTies, cX8_partTies, _, _, rfl, rfl, by decide +kernel, ⟨by decide +kernel, by decide +kernel⟩, mA 523 (by decide +kernel), mA 38 (by decide +kernel), rfl, fun h => (by first | rfl | cases h), trivial, kd_X8_partTies, by decide⟩
theorem me_X8_sort : rMeth 118 := fun o rk hh nL ini h => by
  cases (show mI[118]? = some _ from rfl).symm.trans h
  exact ⟨yX8_sort, cX8_sort, _, _, rfl, rfl, by decide +kernel, ⟨by decide +kernel, by decide +kernel⟩, mA 520 (by decide +kernel), mA 38 (by decide +kernel), rfl, fun h => (by first | rfl | cases h), trivial, kd_X8_sort, by decide⟩
theorem me_X9_abandon : rMeth 119 := fun o rk hh nL ini h => by
  cases (show mI[119]? = some _ from rfl).symm.trans h
  exact ⟨yX9_abandon, cX9_abandon, _, _, rfl, rfl, by decide +kernel, ⟨by decide +kernel, by decide +kernel⟩, mA 438 (by decide +kernel), mA 32 (by decide +kernel), rfl, fun h => (by first | rfl | cases h), trivial, kd_X9_abandon, by decide⟩
theorem me_X9_addClub : rMeth 120 := fun o rk hh nL ini h => by
  cases (show mI[120]? = some _ from rfl).symm.trans h
  exact ⟨yX9_addClub, cX9_addClub, _, _, rfl, rfl, by decide +kernel, ⟨by decide +kernel, by decide +kernel⟩, mA 200 (by decide +kernel), mA 32 (by decide +kernel), rfl, fun h => (by first | rfl | cases h), trivial, kd_X9_addClub, by decide⟩
theorem me_X9_addPlayer : rMeth 121 := fun o rk hh nL ini h => by
  cases (show mI[121]? = some _ from rfl).symm.trans h
  exact ⟨yX9_addPlayer, cX9_addPlayer, _, _, rfl, rfl, by decide +kernel, ⟨by decide +kernel, by decide +kernel⟩, mA 263 (by decide +kernel), mA 32 (by decide +kernel), rfl, fun h => (by first | rfl | cases h), trivial, kd_X9_addPlayer, by decide⟩
theorem me_X9_appeal : rMeth 122 := fun o rk hh nL ini h => by
  cases (show mI[122]? = some _ from rfl).symm.trans h
  exact ⟨yX9_appeal, cX9_appeal, _, _, rfl, rfl, by decide +kernel, ⟨by decide +kernel, by decide +kernel⟩, mA 445 (by decide +kernel), mA 32 (by decide +kernel), rfl, fun h => (by first | rfl | cases h), trivial, kd_X9_appeal, by decide⟩
theorem me_X9_ban : rMeth 123 := fun o rk hh nL ini h => by
  cases (show mI[123]? = some _ from rfl).symm.trans h
  exact ⟨yX9_ban, cX9_ban, _, _, rfl, rfl, by decide +kernel, ⟨by decide +kernel, by decide +kernel⟩, mA 463 (by decide +kernel), mA 32 (by decide +kernel), rfl, fun h => (by first | rfl | cases h), trivial, kd_X9_ban, by decide⟩
theorem me_X9_callBack : rMeth 124 := fun o rk hh nL ini h => by
  cases (show mI[124]? = some _ from rfl).symm.trans h
  exact ⟨yX9_callBack, cX9_callBack, _, _, rfl, rfl, by decide +kernel, ⟨by decide +kernel, by decide +kernel⟩, mA 311 (by decide +kernel), mA 32 (by decide +kernel), rfl, fun h => (by first | rfl | cases h), trivial, kd_X9_callBack, by decide⟩
theorem me_X9_card : rMeth 125 := fun o rk hh nL ini h => by
  cases (show mI[125]? = some _ from rfl).symm.trans h
  exact ⟨yX9_card, cX9_card, _, _, rfl, rfl, by decide +kernel, ⟨by decide +kernel, by decide +kernel⟩, mA 417 (by decide +kernel), mA 32 (by decide +kernel), rfl, fun h => (by first | rfl | cases h), trivial, kd_X9_card, by decide⟩
theorem me_X9_change : rMeth 126 := fun o rk hh nL ini h => by
  cases (show mI[126]? = some _ from rfl).symm.trans h
  exact ⟨yX9_change, cX9_change, _, _, rfl, rfl, by decide +kernel, ⟨by decide +kernel, by decide +kernel⟩, mA 424 (by decide +kernel), mA 32 (by decide +kernel), rfl, fun h => (by first | rfl | cases h), trivial, kd_X9_change, by decide⟩
theorem me_X9_clearSeason : rMeth 127 := fun o rk hh nL ini h => by
  cases (show mI[127]? = some _ from rfl).symm.trans h
  exact ⟨yX9_clearSeason, cX9_clearSeason, _, _, rfl, rfl, by decide +kernel, ⟨by decide +kernel, by decide +kernel⟩, mA 563 (by decide +kernel), mA 32 (by decide +kernel), rfl, fun h => (by first | rfl | cases h), trivial, kd_X9_clearSeason, by decide⟩
theorem me_X9_clubAt : rMeth 128 := fun o rk hh nL ini h => by
  cases (show mI[128]? = some _ from rfl).symm.trans h
  exact ⟨yX9_clubAt, cX9_clubAt, _, _, rfl, rfl, by decide +kernel, ⟨by decide +kernel, by decide +kernel⟩, mA 505 (by decide +kernel), mA 32 (by decide +kernel), rfl, fun h => (by first | rfl | cases h), trivial, kd_X9_clubAt, by decide⟩
theorem me_X9_clubsIn : rMeth 129 := fun o rk hh nL ini h => by
  cases (show mI[129]? = some _ from rfl).symm.trans h
  exact ⟨yX9_clubsIn, cX9_clubsIn, _, _, rfl, rfl, by decide +kernel, ⟨by decide +kernel, by decide +kernel⟩, mA 211 (by decide +kernel), mA 32 (by decide +kernel), rfl, fun h => (by first | rfl | cases h), trivial, kd_X9_clubsIn, by decide⟩
theorem me_X9_divisionOf : rMeth 130 := fun o rk hh nL ini h => by
  cases (show mI[130]? = some _ from rfl).symm.trans h
  exact ⟨yX9_divisionOf, cX9_divisionOf, _, _, rfl, rfl, by decide +kernel, ⟨by decide +kernel, by decide +kernel⟩, mA 537 (by decide +kernel), mA 32 (by decide +kernel), rfl, fun h => (by first | rfl | cases h), trivial, kd_X9_divisionOf, by decide⟩
theorem me_X9_end : rMeth 131 := fun o rk hh nL ini h => by
  cases (show mI[131]? = some _ from rfl).symm.trans h
  exact ⟨yX9_end, cX9_end, _, _, rfl, rfl, by decide +kernel, ⟨by decide +kernel, by decide +kernel⟩, mA 431 (by decide +kernel), mA 32 (by decide +kernel), rfl, fun h => (by first | rfl | cases h), trivial, kd_X9_end, by decide⟩
theorem me_X9_endSeason : rMeth 132 := fun o rk hh nL ini h => by
  cases (show mI[132]? = some _ from rfl).symm.trans h
  exact ⟨yX9_endSeason, cX9_endSeason, _, _, rfl, rfl, by decide +kernel, ⟨by decide +kernel, by decide +kernel⟩, mA 551 (by decide +kernel), mA 32 (by decide +kernel), rfl, fun h => (by first | rfl | cases h), trivial, kd_X9_endSeason, by decide⟩
theorem me_X9_fixture : rMeth 133 := fun o rk hh nL ini h => by
  cases (show mI[133]? = some _ from rfl).symm.trans h
  exact ⟨yX9_fixture, cX9_fixture, _, _, rfl, rfl, by decide +kernel, ⟨by decide +kernel, by decide +kernel⟩, mA 350 (by decide +kernel), mA 32 (by decide +kernel), rfl, fun h => (by first | rfl | cases h), trivial, kd_X9_fixture, by decide⟩
theorem me_X9_fixturesOver : rMeth 134 := fun o rk hh nL ini h => by
  cases (show mI[134]? = some _ from rfl).symm.trans h
  exact ⟨yX9_fixturesOver, cX9_fixturesOver, _, _, rfl, rfl, by decide +kernel, ⟨by decide +kernel, by decide +kernel⟩, mA 577 (by decide +kernel), mA 32 (by decide +kernel), rfl, fun h => (by first | rfl | cases h), trivial, kd_X9_fixturesOver, by decide⟩
theorem me_X9_goOn : rMeth 135 := fun o rk hh nL ini h => by
  cases (show mI[135]? = some _ from rfl).symm.trans h
  exact ⟨yX9_goOn, cX9_goOn, _, _, rfl, rfl, by decide +kernel, ⟨by decide +kernel, by decide +kernel⟩, mA 285 (by decide +kernel), mA 32 (by decide +kernel), rfl, fun h => (by first | rfl | cases h), trivial, kd_X9_goOn, by decide⟩
theorem me_X9_goal : rMeth 136 := fun o rk hh nL ini h => by
  cases (show mI[136]? = some _ from rfl).symm.trans h
  exact ⟨yX9_goal, cX9_goal, _, _, rfl, rfl, by decide +kernel, ⟨by decide +kernel, by decide +kernel⟩, mA 407 (by decide +kernel), mA 32 (by decide +kernel), rfl, fun h => (by first | rfl | cases h), trivial, kd_X9_goal, by decide⟩
theorem me_X9_hasFixtures : rMeth 137 := fun o rk hh nL ini h => by
  cases (show mI[137]? = some _ from rfl).symm.trans h
  exact ⟨yX9_hasFixtures, cX9_hasFixtures, _, _, rfl, rfl, by decide +kernel, ⟨by decide +kernel, by decide +kernel⟩, mA 329 (by decide +kernel), mA 32 (by decide +kernel), rfl, fun h => (by first | rfl | cases h), trivial, kd_X9_hasFixtures, by decide⟩
theorem me_X9_init : rMeth 138 := fun o rk hh nL ini h => by
  cases (show mI[138]? = some _ from rfl).symm.trans h
  exact ⟨yX9_init, cX9_init, _, _, rfl, rfl, by decide +kernel, ⟨by decide +kernel, by decide +kernel⟩, mA 56 (by decide +kernel), mA 32 (by decide +kernel), rfl, fun h => (by first | rfl | cases h), trivial, kd_X9_init, by decide⟩
theorem me_X9_isDivision : rMeth 139 := fun o rk hh nL ini h => by
  cases (show mI[139]? = some _ from rfl).symm.trans h
  exact ⟨yX9_isDivision, cX9_isDivision, _, _, rfl, rfl, by decide +kernel, ⟨by decide +kernel, by decide +kernel⟩, mA 203 (by decide +kernel), mA 32 (by decide +kernel), rfl, fun h => (by first | rfl | cases h), trivial, kd_X9_isDivision, by decide⟩
theorem me_X9_isFixtureLeft : rMeth 140 := fun o rk hh nL ini h => by
  cases (show mI[140]? = some _ from rfl).symm.trans h
  exact ⟨yX9_isFixtureLeft, cX9_isFixtureLeft, _, _, rfl, rfl, by decide +kernel, ⟨by decide +kernel, by decide +kernel⟩, mA 554 (by decide +kernel), mA 32 (by decide +kernel), rfl, fun h => (by first | rfl | cases h), trivial, kd_X9_isFixtureLeft, by decide⟩
theorem me_X9_isGuilty : rMeth 141 := fun o rk hh nL ini h => by
  cases (show mI[141]? = some _ from rfl).symm.trans h
  exact ⟨yX9_isGuilty, cX9_isGuilty, _, _, rfl, rfl, by decide +kernel, ⟨by decide +kernel, by decide +kernel⟩, mA 477 (by decide +kernel), mA 32 (by decide +kernel), rfl, fun h => (by first | rfl | cases h), trivial, kd_X9_isGuilty, by decide⟩
theorem me_X9_isSound : rMeth 142 := fun o rk hh nL ini h => by
  cases (show mI[142]? = some _ from rfl).symm.trans h
  exact ⟨yX9_isSound, cX9_isSound, _, _, rfl, rfl, by decide +kernel, ⟨by decide +kernel, by decide +kernel⟩, mA 169 (by decide +kernel), mA 32 (by decide +kernel), rfl, fun h => (by first | rfl | cases h), trivial, kd_X9_isSound, by decide⟩
theorem me_X9_isWindowOpen : rMeth 143 := fun o rk hh nL ini h => by
  cases (show mI[143]? = some _ from rfl).symm.trans h
  exact ⟨yX9_isWindowOpen, cX9_isWindowOpen, _, _, rfl, rfl, by decide +kernel, ⟨by decide +kernel, by decide +kernel⟩, mA 278 (by decide +kernel), mA 32 (by decide +kernel), rfl, fun h => (by first | rfl | cases h), trivial, kd_X9_isWindowOpen, by decide⟩
theorem me_X9_isWithin : rMeth 144 := fun o rk hh nL ini h => by
  cases (show mI[144]? = some _ from rfl).symm.trans h
  exact ⟨yX9_isWithin, cX9_isWithin, _, _, rfl, rfl, by decide +kernel, ⟨by decide +kernel, by decide +kernel⟩, mA 206 (by decide +kernel), mA 32 (by decide +kernel), rfl, fun h => (by first | rfl | cases h), trivial, kd_X9_isWithin, by decide⟩
theorem me_X9_kickOff : rMeth 145 := fun o rk hh nL ini h => by
  cases (show mI[145]? = some _ from rfl).symm.trans h
  exact ⟨yX9_kickOff, cX9_kickOff, _, _, rfl, rfl, by decide +kernel, ⟨by decide +kernel, by decide +kernel⟩, mA 374 (by decide +kernel), mA 32 (by decide +kernel), rfl, fun h => (by first | rfl | cases h), trivial, kd_X9_kickOff, by decide⟩
theorem me_X9_knownBit : rMeth 146 := fun o rk hh nL ini h => by
  cases (show mI[146]? = some _ from rfl).symm.trans h
  exact ⟨yX9_knownBit, cX9_knownBit, _, _, rfl, rfl, by decide +kernel, ⟨by decide +kernel, by decide +kernel⟩, mA 367 (by decide +kernel), mA 32 (by decide +kernel), rfl, fun h => (by first | rfl | cases h), trivial, kd_X9_knownBit, by decide⟩
theorem me_X9_knownClub : rMeth 147 := fun o rk hh nL ini h => by
  cases (show mI[147]? = some _ from rfl).symm.trans h
  exact ⟨yX9_knownClub, cX9_knownClub, _, _, rfl, rfl, by decide +kernel, ⟨by decide +kernel, by decide +kernel⟩, mA 266 (by decide +kernel), mA 32 (by decide +kernel), ⟨_, rfl, (by first | exact Or.inl ⟨_, rfl⟩ | exact Or.inr ⟨_, rfl⟩)⟩, fun h => (by first | rfl | cases h), trivial, kd_X9_knownClub, by decide⟩
theorem me_X9_knownFixture : rMeth 148 := fun o rk hh nL ini h => by
  cases (show mI[148]? = some _ from rfl).symm.trans h
  exact ⟨yX9_knownFixture, cX9_knownFixture, _, _, rfl, rfl, by decide +kernel, ⟨by decide +kernel, by decide +kernel⟩, mA 343 (by decide +kernel), mA 32 (by decide +kernel), ⟨_, rfl, (by first | exact Or.inl ⟨_, rfl⟩ | exact Or.inr ⟨_, rfl⟩)⟩, fun h => (by first | rfl | cases h), trivial, kd_X9_knownFixture, by decide⟩
theorem me_X9_knownMatch : rMeth 149 := fun o rk hh nL ini h => by
  cases (show mI[149]? = some _ from rfl).symm.trans h
  exact ⟨yX9_knownMatch, cX9_knownMatch, _, _, rfl, rfl, by decide +kernel, ⟨by decide +kernel, by decide +kernel⟩, mA 410 (by decide +kernel), mA 32 (by decide +kernel), ⟨_, rfl, (by first | exact Or.inl ⟨_, rfl⟩ | exact Or.inr ⟨_, rfl⟩)⟩, fun h => (by first | rfl | cases h), trivial, kd_X9_knownMatch, by decide⟩
theorem me_X9_knownPlayer : rMeth 150 := fun o rk hh nL ini h => by
  cases (show mI[150]? = some _ from rfl).symm.trans h
  exact ⟨yX9_knownPlayer, cX9_knownPlayer, _, _, rfl, rfl, by decide +kernel, ⟨by decide +kernel, by decide +kernel⟩, mA 296 (by decide +kernel), mA 32 (by decide +kernel), ⟨_, rfl, (by first | exact Or.inl ⟨_, rfl⟩ | exact Or.inr ⟨_, rfl⟩)⟩, fun h => (by first | rfl | cases h), trivial, kd_X9_knownPlayer, by decide⟩
theorem me_X9_lend : rMeth 151 := fun o rk hh nL ini h => by
  cases (show mI[151]? = some _ from rfl).symm.trans h
  exact ⟨yX9_lend, cX9_lend, _, _, rfl, rfl, by decide +kernel, ⟨by decide +kernel, by decide +kernel⟩, mA 304 (by decide +kernel), mA 32 (by decide +kernel), rfl, fun h => (by first | rfl | cases h), trivial, kd_X9_lend, by decide⟩
theorem me_X9_meanGoals : rMeth 152 := fun o rk hh nL ini h => by
  cases (show mI[152]? = some _ from rfl).symm.trans h
  exact ⟨yX9_meanGoals, cX9_meanGoals, _, _, rfl, rfl, by decide +kernel, ⟨by decide +kernel, by decide +kernel⟩, mA 584 (by decide +kernel), mA 32 (by decide +kernel), rfl, fun h => (by first | rfl | cases h), trivial, kd_X9_meanGoals, by decide⟩
theorem me_X9_money : rMeth 153 := fun o rk hh nL ini h => by
  cases (show mI[153]? = some _ from rfl).symm.trans h
  exact ⟨yX9_money, cX9_money, _, _, rfl, rfl, by decide +kernel, ⟨by decide +kernel, by decide +kernel⟩, mA 160 (by decide +kernel), mA 32 (by decide +kernel), rfl, fun h => (by first | rfl | cases h), trivial, kd_X9_money, by decide⟩
theorem me_X9_name : rMeth 154 := fun o rk hh nL ini h => by
  cases (show mI[154]? = some _ from rfl).symm.trans h
  exact ⟨yX9_name, cX9_name, _, _, rfl, rfl, by decide +kernel, ⟨by decide +kernel, by decide +kernel⟩, mA 364 (by decide +kernel), mA 32 (by decide +kernel), rfl, fun h => (by first | rfl | cases h), trivial, kd_X9_name, by decide⟩
theorem me_X9_overShare : rMeth 155 := fun o rk hh nL ini h => by
  cases (show mI[155]? = some _ from rfl).symm.trans h
  exact ⟨yX9_overShare, cX9_overShare, _, _, rfl, rfl, by decide +kernel, ⟨by decide +kernel, by decide +kernel⟩, mA 573 (by decide +kernel), mA 32 (by decide +kernel), rfl, fun h => (by first | rfl | cases h), trivial, kd_X9_overShare, by decide⟩
theorem me_X9_plan : rMeth 156 := fun o rk hh nL ini h => by
  cases (show mI[156]? = some _ from rfl).symm.trans h
  exact ⟨yX9_plan, cX9_plan, _, _, rfl, rfl, by decide +kernel, ⟨by decide +kernel, by decide +kernel⟩, mA 326 (by decide +kernel), mA 32 (by decide +kernel), rfl, fun h => (by first | rfl | cases h), trivial, kd_X9_plan, by decide⟩
theorem me_X9_points : rMeth 157 := fun o rk hh nL ini h => by
  cases (show mI[157]? = some _ from rfl).symm.trans h
  exact ⟨yX9_points, cX9_points, _, _, rfl, rfl, by decide +kernel, ⟨by decide +kernel, by decide +kernel⟩, mA 530 (by decide +kernel), mA 32 (by decide +kernel), rfl, fun h => (by first | rfl | cases h), trivial, kd_X9_points, by decide⟩
theorem me_X9_putOff : rMeth 158 := fun o rk hh nL ini h => by
  cases (show mI[158]? = some _ from rfl).symm.trans h
  exact ⟨yX9_putOff, cX9_putOff, _, _, rfl, rfl, by decide +kernel, ⟨by decide +kernel, by decide +kernel⟩, mA 340 (by decide +kernel), mA 32 (by decide +kernel), rfl, fun h => (by first | rfl | cases h), trivial, kd_X9_putOff, by decide⟩
theorem me_X9_registered : rMeth 159 := fun o rk hh nL ini h => by
  cases (show mI[159]? = some _ from rfl).symm.trans h
  exact ⟨yX9_registered, cX9_registered, _, _, rfl, rfl, by decide +kernel, ⟨by decide +kernel, by decide +kernel⟩, mA 544 (by decide +kernel), mA 32 (by decide +kernel), rfl, fun h => (by first | rfl | cases h), trivial, kd_X9_registered, by decide⟩
theorem me_X9_resultOf : rMeth 160 := fun o rk hh nL ini h => by
  cases (show mI[160]? = some _ from rfl).symm.trans h
  exact ⟨yX9_resultOf, cX9_resultOf, _, _, rfl, rfl, by decide +kernel, ⟨by decide +kernel, by decide +kernel⟩, mA 484 (by decide +kernel), mA 32 (by decide +kernel), rfl, fun h => (by first | rfl | cases h), trivial, kd_X9_resultOf, by decide⟩
theorem me_X9_sell : rMeth 161 := fun o rk hh nL ini h => by
  cases (show mI[161]? = some _ from rfl).symm.trans h
  exact ⟨yX9_sell, cX9_sell, _, _, rfl, rfl, by decide +kernel, ⟨by decide +kernel, by decide +kernel⟩, mA 293 (by decide +kernel), mA 32 (by decide +kernel), rfl, fun h => (by first | rfl | cases h), trivial, kd_X9_sell, by decide⟩
theorem me_X9_setDerby : rMeth 162 := fun o rk hh nL ini h => by
  cases (show mI[162]? = some _ from rfl).symm.trans h
  exact ⟨yX9_setDerby, cX9_setDerby, _, _, rfl, rfl, by decide +kernel, ⟨by decide +kernel, by decide +kernel⟩, mA 318 (by decide +kernel), mA 32 (by decide +kernel), rfl, fun h => (by first | rfl | cases h), trivial, kd_X9_setDerby, by decide⟩
theorem me_X9_setWindow : rMeth 163 := fun o rk hh nL ini h => by
  cases (show mI[163]? = some _ from rfl).symm.trans h
  exact ⟨yX9_setWindow, cX9_setWindow, _, _, rfl, rfl, by decide +kernel, ⟨by decide +kernel, by decide +kernel⟩, mA 275 (by decide +kernel), mA 32 (by decide +kernel), rfl, fun h => (by first | rfl | cases h), trivial, kd_X9_setWindow, by decide⟩
theorem me_X9_stateOf : rMeth 164 := fun o rk hh nL ini h => by
  cases (show mI[164]? = some _ from rfl).symm.trans h
  exact ⟨yX9_stateOf, cX9_stateOf, _, _, rfl, rfl, by decide +kernel, ⟨by decide +kernel, by decide +kernel⟩, mA 357 (by decide +kernel), mA 32 (by decide +kernel), rfl, fun h => (by first | rfl | cases h), trivial, kd_X9_stateOf, by decide⟩
theorem me_X9_strike : rMeth 165 := fun o rk hh nL ini h => by
  cases (show mI[165]? = some _ from rfl).symm.trans h
  exact ⟨yX9_strike, cX9_strike, _, _, rfl, rfl, by decide +kernel, ⟨by decide +kernel, by decide +kernel⟩, mA 498 (by decide +kernel), mA 32 (by decide +kernel), rfl, fun h => (by first | rfl | cases h), trivial, kd_X9_strike, by decide⟩
theorem me_X9_takePoints : rMeth 166 := fun o rk hh nL ini h => by
  cases (show mI[166]? = some _ from rfl).symm.trans h
  exact ⟨yX9_takePoints, cX9_takePoints, _, _, rfl, rfl, by decide +kernel, ⟨by decide +kernel, by decide +kernel⟩, mA 491 (by decide +kernel), mA 32 (by decide +kernel), rfl, fun h => (by first | rfl | cases h), trivial, kd_X9_takePoints, by decide⟩
theorem me_X9_wipe : rMeth 167 := fun o rk hh nL ini h => by
  cases (show mI[167]? = some _ from rfl).symm.trans h
  exact ⟨yX9_wipe, cX9_wipe, _, _, rfl, rfl, by decide +kernel, ⟨by decide +kernel, by decide +kernel⟩, mA 452 (by decide +kernel), mA 32 (by decide +kernel), rfl, fun h => (by first | rfl | cases h), trivial, kd_X9_wipe, by decide⟩
theorem me_X9_yellows : rMeth 168 := fun o rk hh nL ini h => by
  cases (show mI[168]? = some _ from rfl).symm.trans h
  exact ⟨yX9_yellows, cX9_yellows, _, _, rfl, rfl, by decide +kernel, ⟨by decide +kernel, by decide +kernel⟩, mA 470 (by decide +kernel), mA 32 (by decide +kernel), rfl, fun h => (by first | rfl | cases h), trivial, kd_X9_yellows, by decide⟩
theorem me_all : ∀ i ∈ ([1, 2, 3, 4, 5, 6, 7, 8, 9, 10, 11, 12, 13, 14, 15, 16, 17, 18, 19, 20, 21, 22, 23, 24, 25, 26, 27, 28, 29, 30, 31, 32, 33, 34, 35, 36, 37, 38, 39, 40, 41, 42, 43, 44, 45, 46, 47, 48, 49, 50, 51, 52, 53, 54, 55, 56, 57, 58, 59, 60, 61, 62, 63, 64, 65, 66, 67, 68, 69, 70, 71, 72, 73, 74, 75, 76, 77, 78, 79, 80, 81, 82, 83, 84, 85, 86, 87, 88, 89, 90, 91, 92, 93, 94, 95, 96, 97, 98, 99, 100, 101, 102, 103, 104, 105, 106, 107, 108, 109, 110, 111, 112, 113, 114, 115, 116, 117, 118, 119, 120, 121, 122, 123, 124, 125, 126, 127, 128, 129, 130, 131, 132, 133, 134, 135, 136, 137, 138, 139, 140, 141, 142, 143, 144, 145, 146, 147, 148, 149, 150, 151, 152, 153, 154, 155, 156, 157, 158, 159, 160, 161, 162, 163, 164, 165, 166, 167, 168] : List Nat), rMeth i := List.forall_mem_cons.mpr ⟨me_J7_fill_53178, List.forall_mem_cons.mpr ⟨me_Jx35411_hasNext_aae02, List.forall_mem_cons.mpr ⟨me_Jx35411_init_45d68, List.forall_mem_cons.mpr ⟨me_Jx4a65c_add_72be8, List.forall_mem_cons.mpr ⟨me_Jx4a65c_add_9ea2d, List.forall_mem_cons.mpr ⟨me_Jx4a65c_clear_da8c8, List.forall_mem_cons.mpr ⟨me_Jx4a65c_grow_92f84, List.forall_mem_cons.mpr ⟨me_Jx4a65c_grow_d5877, List.forall_mem_cons.mpr ⟨me_Jx4a65c_init_da8c8, List.forall_mem_cons.mpr ⟨me_Jx4a65c_isEmpty_aae02, List.forall_mem_cons.mpr ⟨me_Jx4a65c_iterator_32c93, List.forall_mem_cons.mpr ⟨me_Jx4a65c_size_8abf5, List.forall_mem_cons.mpr ⟨me_Jxa1e45_init_da8c8, List.forall_mem_cons.mpr ⟨me_Jxc12de_init_da8c8, List.forall_mem_cons.mpr ⟨me_L_abandon, List.forall_mem_cons.mpr ⟨me_L_addClub, List.forall_mem_cons.mpr ⟨me_L_addPlayer, List.forall_mem_cons.mpr ⟨me_L_appeal, List.forall_mem_cons.mpr ⟨me_L_ban, List.forall_mem_cons.mpr ⟨me_L_callBack, List.forall_mem_cons.mpr ⟨me_L_card, List.forall_mem_cons.mpr ⟨me_L_change, List.forall_mem_cons.mpr ⟨me_L_clubAt, List.forall_mem_cons.mpr ⟨me_L_divisionOf, List.forall_mem_cons.mpr ⟨me_L_end, List.forall_mem_cons.mpr ⟨me_L_endSeason, List.forall_mem_cons.mpr ⟨me_L_fixture, List.forall_mem_cons.mpr ⟨me_L_goOn, List.forall_mem_cons.mpr ⟨me_L_goal, List.forall_mem_cons.mpr ⟨me_L_isGuilty, List.forall_mem_cons.mpr ⟨me_L_kickOff, List.forall_mem_cons.mpr ⟨me_L_lend, List.forall_mem_cons.mpr ⟨me_L_meanGoals, List.forall_mem_cons.mpr ⟨me_L_name, List.forall_mem_cons.mpr ⟨me_L_overShare, List.forall_mem_cons.mpr ⟨me_L_plan, List.forall_mem_cons.mpr ⟨me_L_points, List.forall_mem_cons.mpr ⟨me_L_putOff, List.forall_mem_cons.mpr ⟨me_L_registered, List.forall_mem_cons.mpr ⟨me_L_resultOf, List.forall_mem_cons.mpr ⟨me_L_sell, List.forall_mem_cons.mpr ⟨me_L_setDerby, List.forall_mem_cons.mpr ⟨me_L_setWindow, List.forall_mem_cons.mpr ⟨me_L_stateOf, List.forall_mem_cons.mpr ⟨me_L_strike, List.forall_mem_cons.mpr ⟨me_L_takePoints, List.forall_mem_cons.mpr ⟨me_L_wipe, List.forall_mem_cons.mpr ⟨me_L_yellows, List.forall_mem_cons.mpr ⟨me_X0_count, List.forall_mem_cons.mpr ⟨me_X0_countAnew, List.forall_mem_cons.mpr ⟨me_X0_init, List.forall_mem_cons.mpr ⟨me_X0_isFull, List.forall_mem_cons.mpr ⟨me_X0_isSameAnew, List.forall_mem_cons.mpr ⟨me_X0_playersWithYellows, List.forall_mem_cons.mpr ⟨me_X0_write, List.forall_mem_cons.mpr ⟨me_X11_init, List.forall_mem_cons.mpr ⟨me_X12_init, List.forall_mem_cons.mpr ⟨me_X15_abandon, List.forall_mem_cons.mpr ⟨me_X15_addClub, List.forall_mem_cons.mpr ⟨me_X15_addPlayer, List.forall_mem_cons.mpr ⟨me_X15_appeal, List.forall_mem_cons.mpr ⟨me_X15_ban, List.forall_mem_cons.mpr ⟨me_X15_callBack, List.forall_mem_cons.mpr ⟨me_X15_card, List.forall_mem_cons.mpr ⟨me_X15_change, List.forall_mem_cons.mpr ⟨me_X15_clubAt, List.forall_mem_cons.mpr ⟨me_X15_clubsIn, List.forall_mem_cons.mpr ⟨me_X15_counting, List.forall_mem_cons.mpr ⟨me_X15_divisionOf, List.forall_mem_cons.mpr ⟨me_X15_end, List.forall_mem_cons.mpr ⟨me_X15_endSeason, List.forall_mem_cons.mpr ⟨me_X15_fixture, List.forall_mem_cons.mpr ⟨me_X15_goOn, List.forall_mem_cons.mpr ⟨me_X15_goal, List.forall_mem_cons.mpr ⟨me_X15_goesThrough, List.forall_mem_cons.mpr ⟨me_X15_hasFixtures, List.forall_mem_cons.mpr ⟨me_X15_init, List.forall_mem_cons.mpr ⟨me_X15_isClub, List.forall_mem_cons.mpr ⟨me_X15_isGuilty, List.forall_mem_cons.mpr ⟨me_X15_isIn, List.forall_mem_cons.mpr ⟨me_X15_isOpen, List.forall_mem_cons.mpr ⟨me_X15_isPlayer, List.forall_mem_cons.mpr ⟨me_X15_isSound, List.forall_mem_cons.mpr ⟨me_X15_kickOff, List.forall_mem_cons.mpr ⟨me_X15_lend, List.forall_mem_cons.mpr ⟨me_X15_meanGoals, List.forall_mem_cons.mpr ⟨me_X15_money, List.forall_mem_cons.mpr ⟨me_X15_name, List.forall_mem_cons.mpr ⟨me_X15_no, List.forall_mem_cons.mpr ⟨me_X15_noMatch, List.forall_mem_cons.mpr ⟨me_X15_noOn, List.forall_mem_cons.mpr ⟨me_X15_over, List.forall_mem_cons.mpr ⟨me_X15_overShare, List.forall_mem_cons.mpr ⟨me_X15_plan, List.forall_mem_cons.mpr ⟨me_X15_points, List.forall_mem_cons.mpr ⟨me_X15_putOff, List.forall_mem_cons.mpr ⟨me_X15_registered, List.forall_mem_cons.mpr ⟨me_X15_resultOf, List.forall_mem_cons.mpr ⟨me_X15_sell, List.forall_mem_cons.mpr ⟨me_X15_setDerby, List.forall_mem_cons.mpr ⟨me_X15_setWindow, List.forall_mem_cons.mpr ⟨me_X15_stateOf, List.forall_mem_cons.mpr ⟨me_X15_strike, List.forall_mem_cons.mpr ⟨me_X15_table, List.forall_mem_cons.mpr ⟨me_X15_takePoints, List.forall_mem_cons.mpr ⟨me_X15_thrown, List.forall_mem_cons.mpr ⟨me_X15_wipe, List.forall_mem_cons.mpr ⟨me_X15_yellows, List.forall_mem_cons.mpr ⟨me_X2_init, List.forall_mem_cons.mpr ⟨me_X3_init, List.forall_mem_cons.mpr ⟨me_X5_init, List.forall_mem_cons.mpr ⟨me_X8_addRows, List.forall_mem_cons.mpr ⟨me_X8_countAmong, List.forall_mem_cons.mpr ⟨me_X8_draw, List.forall_mem_cons.mpr ⟨me_X8_firstToRise, List.forall_mem_cons.mpr ⟨me_X8_init, List.forall_mem_cons.mpr ⟨me_X8_partTies, List.forall_mem_cons.mpr ⟨me_X8_sort, List.forall_mem_cons.mpr ⟨me_X9_abandon, List.forall_mem_cons.mpr ⟨me_X9_addClub, List.forall_mem_cons.mpr ⟨me_X9_addPlayer, List.forall_mem_cons.mpr ⟨me_X9_appeal, List.forall_mem_cons.mpr ⟨me_X9_ban, List.forall_mem_cons.mpr ⟨me_X9_callBack, List.forall_mem_cons.mpr ⟨me_X9_card, List.forall_mem_cons.mpr ⟨me_X9_change, List.forall_mem_cons.mpr ⟨me_X9_clearSeason, List.forall_mem_cons.mpr ⟨me_X9_clubAt, List.forall_mem_cons.mpr ⟨me_X9_clubsIn, List.forall_mem_cons.mpr ⟨me_X9_divisionOf, List.forall_mem_cons.mpr ⟨me_X9_end, List.forall_mem_cons.mpr ⟨me_X9_endSeason, List.forall_mem_cons.mpr ⟨me_X9_fixture, List.forall_mem_cons.mpr ⟨me_X9_fixturesOver, List.forall_mem_cons.mpr ⟨me_X9_goOn, List.forall_mem_cons.mpr ⟨me_X9_goal, List.forall_mem_cons.mpr ⟨me_X9_hasFixtures, List.forall_mem_cons.mpr ⟨me_X9_init, List.forall_mem_cons.mpr ⟨me_X9_isDivision, List.forall_mem_cons.mpr ⟨me_X9_isFixtureLeft, List.forall_mem_cons.mpr ⟨me_X9_isGuilty, List.forall_mem_cons.mpr ⟨me_X9_isSound, List.forall_mem_cons.mpr ⟨me_X9_isWindowOpen, List.forall_mem_cons.mpr ⟨me_X9_isWithin, List.forall_mem_cons.mpr ⟨me_X9_kickOff, List.forall_mem_cons.mpr ⟨me_X9_knownBit, List.forall_mem_cons.mpr ⟨me_X9_knownClub, List.forall_mem_cons.mpr ⟨me_X9_knownFixture, List.forall_mem_cons.mpr ⟨me_X9_knownMatch, List.forall_mem_cons.mpr ⟨me_X9_knownPlayer, List.forall_mem_cons.mpr ⟨me_X9_lend, List.forall_mem_cons.mpr ⟨me_X9_meanGoals, List.forall_mem_cons.mpr ⟨me_X9_money, List.forall_mem_cons.mpr ⟨me_X9_name, List.forall_mem_cons.mpr ⟨me_X9_overShare, List.forall_mem_cons.mpr ⟨me_X9_plan, List.forall_mem_cons.mpr ⟨me_X9_points, List.forall_mem_cons.mpr ⟨me_X9_putOff, List.forall_mem_cons.mpr ⟨me_X9_registered, List.forall_mem_cons.mpr ⟨me_X9_resultOf, List.forall_mem_cons.mpr ⟨me_X9_sell, List.forall_mem_cons.mpr ⟨me_X9_setDerby, List.forall_mem_cons.mpr ⟨me_X9_setWindow, List.forall_mem_cons.mpr ⟨me_X9_stateOf, List.forall_mem_cons.mpr ⟨me_X9_strike, List.forall_mem_cons.mpr ⟨me_X9_takePoints, List.forall_mem_cons.mpr ⟨me_X9_wipe, List.forall_mem_cons.mpr ⟨me_X9_yellows, fun _ h => absurd h List.not_mem_nil⟩⟩⟩⟩⟩⟩⟩⟩⟩⟩⟩⟩⟩⟩⟩⟩⟩⟩⟩⟩⟩⟩⟩⟩⟩⟩⟩⟩⟩⟩⟩⟩⟩⟩⟩⟩⟩⟩⟩⟩⟩⟩⟩⟩⟩⟩⟩⟩⟩⟩⟩⟩⟩⟩⟩⟩⟩⟩⟩⟩⟩⟩⟩⟩⟩⟩⟩⟩⟩⟩⟩⟩⟩⟩⟩⟩⟩⟩⟩⟩⟩⟩⟩⟩⟩⟩⟩⟩⟩⟩⟩⟩⟩⟩⟩⟩⟩⟩⟩⟩⟩⟩⟩⟩⟩⟩⟩⟩⟩⟩⟩⟩⟩⟩⟩⟩⟩⟩⟩⟩⟩⟩⟩⟩⟩⟩⟩⟩⟩⟩⟩⟩⟩⟩⟩⟩⟩⟩⟩⟩⟩⟩⟩⟩⟩⟩⟩⟩⟩⟩⟩⟩⟩⟩⟩⟩⟩⟩⟩⟩⟩⟩⟩⟩⟩⟩⟩⟩
theorem meth_ok (i : Nat) (h0 : i ≠ 0) : rMeth i := by
  by_cases h : i < 169
  · have hm : ∀ i, i < 169 → i ≠ 0 → i ∈ ([1, 2, 3, 4, 5, 6, 7, 8, 9, 10, 11, 12, 13, 14, 15, 16, 17, 18, 19, 20, 21, 22, 23, 24, 25, 26, 27, 28, 29, 30, 31, 32, 33, 34, 35, 36, 37, 38, 39, 40, 41, 42, 43, 44, 45, 46, 47, 48, 49, 50, 51, 52, 53, 54, 55, 56, 57, 58, 59, 60, 61, 62, 63, 64, 65, 66, 67, 68, 69, 70, 71, 72, 73, 74, 75, 76, 77, 78, 79, 80, 81, 82, 83, 84, 85, 86, 87, 88, 89, 90, 91, 92, 93, 94, 95, 96, 97, 98, 99, 100, 101, 102, 103, 104, 105, 106, 107, 108, 109, 110, 111, 112, 113, 114, 115, 116, 117, 118, 119, 120, 121, 122, 123, 124, 125, 126, 127, 128, 129, 130, 131, 132, 133, 134, 135, 136, 137, 138, 139, 140, 141, 142, 143, 144, 145, 146, 147, 148, 149, 150, 151, 152, 153, 154, 155, 156, 157, 158, 159, 160, 161, 162, 163, 164, 165, 166, 167, 168] : List Nat) := by decide +kernel
    exact me_all i (hm i h h0)
  · intro o rk hh nL ini h2
    rw [List.getElem?_eq_none (by show mI.length ≤ i; have : mI.length = 169 := rfl; omega)] at h2
    cases h2
theorem cT_0 : rCall (1, 5, 137, 138, 1, 0, 0) := ⟨RL, yX9_init, cX9_init, _, _, rfl, rfl, by decide, rfl, rfl, rfl, mA 54 (by decide +kernel), mA 55 (by decide +kernel), by decide, by decide +kernel⟩
theorem cT_1 : rCall (1, 5, 140, 77, 1, 0, 0) := ⟨RL, yX15_init, cX15_init, _, _, rfl, rfl, by decide, rfl, rfl, rfl, mA 587 (by decide +kernel), mA 588 (by decide +kernel), by decide, by decide +kernel⟩
theorem cT_2 : rCall (5, 5, 141, 16, 5, 0, 0) := ⟨RL, yL_addClub, cL_addClub, _, _, rfl, rfl, by decide, by decide, mA 192 (by decide +kernel), mA 193 (by decide +kernel), by decide +kernel⟩
theorem cT_3 : rCall (0, 5, 146, 59, 4, 10, 0) := ⟨RL, yX15_addClub, cX15_addClub, _, _, rfl, rfl, by decide, rfl, ⟨TX15, 13, rfl⟩, mA 623 (by decide +kernel), mA 624 (by decide +kernel), mA 625 (by decide +kernel), by decide, by decide +kernel⟩
theorem cT_4 : rCall (0, 5, 147, 106, 1, 10, 0) := ⟨RL, yX15_thrown, cX15_thrown, _, _, rfl, rfl, by decide, rfl, ⟨TX15, 13, rfl⟩, mA 619 (by decide +kernel), mA 620 (by decide +kernel), mA 621 (by decide +kernel), by decide, by decide +kernel⟩
theorem cT_5 : rCall (5, 5, 150, 17, 3, 0, 0) := ⟨RL, yL_addPlayer, cL_addPlayer, _, _, rfl, rfl, by decide, by decide, mA 256 (by decide +kernel), mA 257 (by decide +kernel), by decide +kernel⟩
theorem cT_6 : rCall (0, 5, 153, 60, 2, 10, 0) := ⟨RL, yX15_addPlayer, cX15_addPlayer, _, _, rfl, rfl, by decide, rfl, ⟨TX15, 13, rfl⟩, mA 700 (by decide +kernel), mA 701 (by decide +kernel), mA 702 (by decide +kernel), by decide, by decide +kernel⟩
theorem cT_7 : rCall (5, 5, 154, 43, 4, 0, 0) := ⟨RL, yL_setWindow, cL_setWindow, _, _, rfl, rfl, by decide, by decide, mA 269 (by decide +kernel), mA 270 (by decide +kernel), by decide +kernel⟩
theorem cT_8 : rCall (0, 5, 157, 101, 3, 10, 0) := ⟨RL, yX15_setWindow, cX15_setWindow, _, _, rfl, rfl, by decide, rfl, ⟨TX15, 13, rfl⟩, mA 707 (by decide +kernel), mA 708 (by decide +kernel), mA 709 (by decide +kernel), by decide, by decide +kernel⟩
theorem cT_9 : rCall (5, 5, 158, 28, 3, 0, 0) := ⟨RL, yL_goOn, cL_goOn, _, _, rfl, rfl, by decide, by decide, mA 279 (by decide +kernel), mA 280 (by decide +kernel), by decide +kernel⟩
theorem cT_10 : rCall (0, 5, 160, 73, 2, 10, 0) := ⟨RL, yX15_goOn, cX15_goOn, _, _, rfl, rfl, by decide, rfl, ⟨TX15, 13, rfl⟩, mA 715 (by decide +kernel), mA 716 (by decide +kernel), mA 717 (by decide +kernel), by decide, by decide +kernel⟩
theorem cT_11 : rCall (5, 5, 161, 41, 5, 0, 0) := ⟨RL, yL_sell, cL_sell, _, _, rfl, rfl, by decide, by decide, mA 286 (by decide +kernel), mA 287 (by decide +kernel), by decide +kernel⟩
theorem cT_12 : rCall (0, 5, 163, 99, 4, 10, 0) := ⟨RL, yX15_sell, cX15_sell, _, _, rfl, rfl, by decide, rfl, ⟨TX15, 13, rfl⟩, mA 720 (by decide +kernel), mA 721 (by decide +kernel), mA 722 (by decide +kernel), by decide, by decide +kernel⟩
theorem cT_13 : rCall (5, 5, 164, 32, 4, 0, 0) := ⟨RL, yL_lend, cL_lend, _, _, rfl, rfl, by decide, by decide, mA 298 (by decide +kernel), mA 299 (by decide +kernel), by decide +kernel⟩
theorem cT_14 : rCall (0, 5, 166, 85, 3, 10, 0) := ⟨RL, yX15_lend, cX15_lend, _, _, rfl, rfl, by decide, rfl, ⟨TX15, 13, rfl⟩, mA 727 (by decide +kernel), mA 728 (by decide +kernel), mA 729 (by decide +kernel), by decide, by decide +kernel⟩
theorem cT_15 : rCall (5, 5, 167, 20, 3, 0, 0) := ⟨RL, yL_callBack, cL_callBack, _, _, rfl, rfl, by decide, by decide, mA 305 (by decide +kernel), mA 306 (by decide +kernel), by decide +kernel⟩
theorem cT_16 : rCall (0, 5, 169, 63, 2, 10, 0) := ⟨RL, yX15_callBack, cX15_callBack, _, _, rfl, rfl, by decide, rfl, ⟨TX15, 13, rfl⟩, mA 731 (by decide +kernel), mA 732 (by decide +kernel), mA 733 (by decide +kernel), by decide, by decide +kernel⟩
theorem cT_17 : rCall (5, 5, 170, 42, 5, 0, 0) := ⟨RL, yL_setDerby, cL_setDerby, _, _, rfl, rfl, by decide, by decide, mA 312 (by decide +kernel), mA 313 (by decide +kernel), by decide +kernel⟩
theorem cT_18 : rCall (0, 5, 173, 100, 4, 10, 0) := ⟨RL, yX15_setDerby, cX15_setDerby, _, _, rfl, rfl, by decide, rfl, ⟨TX15, 13, rfl⟩, mA 735 (by decide +kernel), mA 736 (by decide +kernel), mA 737 (by decide +kernel), by decide, by decide +kernel⟩
theorem cT_19 : rCall (5, 5, 174, 36, 3, 0, 0) := ⟨RL, yL_plan, cL_plan, _, _, rfl, rfl, by decide, by decide, mA 319 (by decide +kernel), mA 320 (by decide +kernel), by decide +kernel⟩
theorem cT_20 : rCall (0, 5, 176, 94, 2, 10, 0) := ⟨RL, yX15_plan, cX15_plan, _, _, rfl, rfl, by decide, rfl, ⟨TX15, 13, rfl⟩, mA 739 (by decide +kernel), mA 740 (by decide +kernel), mA 741 (by decide +kernel), by decide, by decide +kernel⟩
theorem cT_21 : rCall (5, 5, 177, 38, 4, 0, 0) := ⟨RL, yL_putOff, cL_putOff, _, _, rfl, rfl, by decide, by decide, mA 334 (by decide +kernel), mA 335 (by decide +kernel), by decide +kernel⟩
theorem cT_22 : rCall (0, 5, 179, 96, 3, 10, 0) := ⟨RL, yX15_putOff, cX15_putOff, _, _, rfl, rfl, by decide, rfl, ⟨TX15, 13, rfl⟩, mA 746 (by decide +kernel), mA 747 (by decide +kernel), mA 748 (by decide +kernel), by decide, by decide +kernel⟩
theorem cT_23 : rCall (5, 5, 180, 27, 4, 0, 0) := ⟨RL, yL_fixture, cL_fixture, _, _, rfl, rfl, by decide, by decide, mA 344 (by decide +kernel), mA 345 (by decide +kernel), by decide +kernel⟩
theorem cT_24 : rCall (0, 5, 183, 72, 3, 10, 0) := ⟨RL, yX15_fixture, cX15_fixture, _, _, rfl, rfl, by decide, rfl, ⟨TX15, 13, rfl⟩, mA 753 (by decide +kernel), mA 754 (by decide +kernel), mA 755 (by decide +kernel), by decide, by decide +kernel⟩
theorem cT_25 : rCall (5, 5, 184, 44, 3, 0, 0) := ⟨RL, yL_stateOf, cL_stateOf, _, _, rfl, rfl, by decide, by decide, mA 351 (by decide +kernel), mA 352 (by decide +kernel), by decide +kernel⟩
theorem cT_26 : rCall (0, 5, 186, 102, 2, 10, 0) := ⟨RL, yX15_stateOf, cX15_stateOf, _, _, rfl, rfl, by decide, rfl, ⟨TX15, 13, rfl⟩, mA 757 (by decide +kernel), mA 758 (by decide +kernel), mA 759 (by decide +kernel), by decide, by decide +kernel⟩
theorem cT_27 : rCall (5, 5, 187, 34, 5, 0, 0) := ⟨RL, yL_name, cL_name, _, _, rfl, rfl, by decide, by decide, mA 358 (by decide +kernel), mA 359 (by decide +kernel), by decide +kernel⟩
theorem cT_28 : rCall (0, 5, 190, 88, 4, 10, 0) := ⟨RL, yX15_name, cX15_name, _, _, rfl, rfl, by decide, rfl, ⟨TX15, 13, rfl⟩, mA 761 (by decide +kernel), mA 762 (by decide +kernel), mA 763 (by decide +kernel), by decide, by decide +kernel⟩
theorem cT_29 : rCall (5, 5, 191, 31, 3, 0, 0) := ⟨RL, yL_kickOff, cL_kickOff, _, _, rfl, rfl, by decide, by decide, mA 368 (by decide +kernel), mA 369 (by decide +kernel), by decide +kernel⟩
theorem cT_30 : rCall (0, 5, 193, 84, 2, 10, 0) := ⟨RL, yX15_kickOff, cX15_kickOff, _, _, rfl, rfl, by decide, rfl, ⟨TX15, 13, rfl⟩, mA 765 (by decide +kernel), mA 766 (by decide +kernel), mA 767 (by decide +kernel), by decide, by decide +kernel⟩
theorem cT_31 : rCall (5, 5, 194, 29, 3, 0, 0) := ⟨RL, yL_goal, cL_goal, _, _, rfl, rfl, by decide, by decide, mA 401 (by decide +kernel), mA 402 (by decide +kernel), by decide +kernel⟩
theorem cT_32 : rCall (0, 5, 196, 74, 2, 10, 0) := ⟨RL, yX15_goal, cX15_goal, _, _, rfl, rfl, by decide, rfl, ⟨TX15, 13, rfl⟩, mA 790 (by decide +kernel), mA 791 (by decide +kernel), mA 792 (by decide +kernel), by decide, by decide +kernel⟩
theorem cT_33 : rCall (5, 5, 197, 21, 4, 0, 0) := ⟨RL, yL_card, cL_card, _, _, rfl, rfl, by decide, by decide, mA 411 (by decide +kernel), mA 412 (by decide +kernel), by decide +kernel⟩
theorem cT_34 : rCall (0, 5, 200, 64, 3, 10, 0) := ⟨RL, yX15_card, cX15_card, _, _, rfl, rfl, by decide, rfl, ⟨TX15, 13, rfl⟩, mA 797 (by decide +kernel), mA 798 (by decide +kernel), mA 799 (by decide +kernel), by decide, by decide +kernel⟩
theorem cT_35 : rCall (5, 5, 201, 22, 4, 0, 0) := ⟨RL, yL_change, cL_change, _, _, rfl, rfl, by decide, by decide, mA 418 (by decide +kernel), mA 419 (by decide +kernel), by decide +kernel⟩
theorem cT_36 : rCall (0, 5, 203, 65, 3, 10, 0) := ⟨RL, yX15_change, cX15_change, _, _, rfl, rfl, by decide, rfl, ⟨TX15, 13, rfl⟩, mA 801 (by decide +kernel), mA 802 (by decide +kernel), mA 803 (by decide +kernel), by decide, by decide +kernel⟩
theorem cT_37 : rCall (5, 5, 204, 25, 2, 0, 0) := ⟨RL, yL_end, cL_end, _, _, rfl, rfl, by decide, by decide, mA 425 (by decide +kernel), mA 426 (by decide +kernel), by decide +kernel⟩
theorem cT_38 : rCall (0, 5, 207, 70, 1, 10, 0) := ⟨RL, yX15_end, cX15_end, _, _, rfl, rfl, by decide, rfl, ⟨TX15, 13, rfl⟩, mA 805 (by decide +kernel), mA 806 (by decide +kernel), mA 807 (by decide +kernel), by decide, by decide +kernel⟩
theorem cT_39 : rCall (5, 5, 208, 15, 3, 0, 0) := ⟨RL, yL_abandon, cL_abandon, _, _, rfl, rfl, by decide, by decide, mA 432 (by decide +kernel), mA 433 (by decide +kernel), by decide +kernel⟩
theorem cT_40 : rCall (0, 5, 211, 58, 2, 10, 0) := ⟨RL, yX15_abandon, cX15_abandon, _, _, rfl, rfl, by decide, rfl, ⟨TX15, 13, rfl⟩, mA 809 (by decide +kernel), mA 810 (by decide +kernel), mA 811 (by decide +kernel), by decide, by decide +kernel⟩
theorem cT_41 : rCall (5, 5, 212, 18, 4, 0, 0) := ⟨RL, yL_appeal, cL_appeal, _, _, rfl, rfl, by decide, by decide, mA 439 (by decide +kernel), mA 440 (by decide +kernel), by decide +kernel⟩
theorem cT_42 : rCall (0, 5, 214, 61, 3, 10, 0) := ⟨RL, yX15_appeal, cX15_appeal, _, _, rfl, rfl, by decide, rfl, ⟨TX15, 13, rfl⟩, mA 813 (by decide +kernel), mA 814 (by decide +kernel), mA 815 (by decide +kernel), by decide, by decide +kernel⟩
theorem cT_43 : rCall (5, 5, 215, 47, 2, 0, 0) := ⟨RL, yL_wipe, cL_wipe, _, _, rfl, rfl, by decide, by decide, mA 446 (by decide +kernel), mA 447 (by decide +kernel), by decide +kernel⟩
theorem cT_44 : rCall (0, 5, 217, 107, 1, 10, 0) := ⟨RL, yX15_wipe, cX15_wipe, _, _, rfl, rfl, by decide, rfl, ⟨TX15, 13, rfl⟩, mA 817 (by decide +kernel), mA 818 (by decide +kernel), mA 819 (by decide +kernel), by decide, by decide +kernel⟩
theorem cT_45 : rCall (5, 5, 218, 19, 3, 0, 0) := ⟨RL, yL_ban, cL_ban, _, _, rfl, rfl, by decide, by decide, mA 457 (by decide +kernel), mA 458 (by decide +kernel), by decide +kernel⟩
theorem cT_46 : rCall (0, 5, 220, 62, 2, 10, 0) := ⟨RL, yX15_ban, cX15_ban, _, _, rfl, rfl, by decide, rfl, ⟨TX15, 13, rfl⟩, mA 821 (by decide +kernel), mA 822 (by decide +kernel), mA 823 (by decide +kernel), by decide, by decide +kernel⟩
theorem cT_47 : rCall (5, 5, 221, 48, 3, 0, 0) := ⟨RL, yL_yellows, cL_yellows, _, _, rfl, rfl, by decide, by decide, mA 464 (by decide +kernel), mA 465 (by decide +kernel), by decide +kernel⟩
theorem cT_48 : rCall (0, 5, 223, 108, 2, 10, 0) := ⟨RL, yX15_yellows, cX15_yellows, _, _, rfl, rfl, by decide, rfl, ⟨TX15, 13, rfl⟩, mA 825 (by decide +kernel), mA 826 (by decide +kernel), mA 827 (by decide +kernel), by decide, by decide +kernel⟩
theorem cT_49 : rCall (5, 5, 224, 30, 4, 0, 0) := ⟨RL, yL_isGuilty, cL_isGuilty, _, _, rfl, rfl, by decide, by decide, mA 471 (by decide +kernel), mA 472 (by decide +kernel), by decide +kernel⟩
theorem cT_50 : rCall (0, 5, 226, 79, 3, 10, 0) := ⟨RL, yX15_isGuilty, cX15_isGuilty, _, _, rfl, rfl, by decide, rfl, ⟨TX15, 13, rfl⟩, mA 829 (by decide +kernel), mA 830 (by decide +kernel), mA 831 (by decide +kernel), by decide, by decide +kernel⟩
theorem cT_51 : rCall (5, 5, 227, 40, 3, 0, 0) := ⟨RL, yL_resultOf, cL_resultOf, _, _, rfl, rfl, by decide, by decide, mA 478 (by decide +kernel), mA 479 (by decide +kernel), by decide +kernel⟩
theorem cT_52 : rCall (0, 5, 229, 98, 2, 10, 0) := ⟨RL, yX15_resultOf, cX15_resultOf, _, _, rfl, rfl, by decide, rfl, ⟨TX15, 13, rfl⟩, mA 833 (by decide +kernel), mA 834 (by decide +kernel), mA 835 (by decide +kernel), by decide, by decide +kernel⟩
theorem cT_53 : rCall (5, 5, 230, 46, 4, 0, 0) := ⟨RL, yL_takePoints, cL_takePoints, _, _, rfl, rfl, by decide, by decide, mA 485 (by decide +kernel), mA 486 (by decide +kernel), by decide +kernel⟩
theorem cT_54 : rCall (0, 5, 232, 105, 3, 10, 0) := ⟨RL, yX15_takePoints, cX15_takePoints, _, _, rfl, rfl, by decide, rfl, ⟨TX15, 13, rfl⟩, mA 837 (by decide +kernel), mA 838 (by decide +kernel), mA 839 (by decide +kernel), by decide, by decide +kernel⟩
theorem cT_55 : rCall (5, 5, 233, 45, 4, 0, 0) := ⟨RL, yL_strike, cL_strike, _, _, rfl, rfl, by decide, by decide, mA 492 (by decide +kernel), mA 493 (by decide +kernel), by decide +kernel⟩
theorem cT_56 : rCall (0, 5, 235, 103, 3, 10, 0) := ⟨RL, yX15_strike, cX15_strike, _, _, rfl, rfl, by decide, rfl, ⟨TX15, 13, rfl⟩, mA 841 (by decide +kernel), mA 842 (by decide +kernel), mA 843 (by decide +kernel), by decide, by decide +kernel⟩
theorem cT_57 : rCall (5, 5, 236, 23, 4, 0, 0) := ⟨RL, yL_clubAt, cL_clubAt, _, _, rfl, rfl, by decide, by decide, mA 499 (by decide +kernel), mA 500 (by decide +kernel), by decide +kernel⟩
theorem cT_58 : rCall (0, 5, 238, 66, 3, 10, 0) := ⟨RL, yX15_clubAt, cX15_clubAt, _, _, rfl, rfl, by decide, rfl, ⟨TX15, 13, rfl⟩, mA 845 (by decide +kernel), mA 846 (by decide +kernel), mA 847 (by decide +kernel), by decide, by decide +kernel⟩
theorem cT_59 : rCall (5, 5, 239, 37, 3, 0, 0) := ⟨RL, yL_points, cL_points, _, _, rfl, rfl, by decide, by decide, mA 524 (by decide +kernel), mA 525 (by decide +kernel), by decide +kernel⟩
theorem cT_60 : rCall (0, 5, 241, 95, 2, 10, 0) := ⟨RL, yX15_points, cX15_points, _, _, rfl, rfl, by decide, rfl, ⟨TX15, 13, rfl⟩, mA 861 (by decide +kernel), mA 862 (by decide +kernel), mA 863 (by decide +kernel), by decide, by decide +kernel⟩
theorem cT_61 : rCall (5, 5, 242, 24, 3, 0, 0) := ⟨RL, yL_divisionOf, cL_divisionOf, _, _, rfl, rfl, by decide, by decide, mA 531 (by decide +kernel), mA 532 (by decide +kernel), by decide +kernel⟩
theorem cT_62 : rCall (0, 5, 244, 69, 2, 10, 0) := ⟨RL, yX15_divisionOf, cX15_divisionOf, _, _, rfl, rfl, by decide, rfl, ⟨TX15, 13, rfl⟩, mA 865 (by decide +kernel), mA 866 (by decide +kernel), mA 867 (by decide +kernel), by decide, by decide +kernel⟩
theorem cT_63 : rCall (5, 5, 245, 39, 3, 0, 0) := ⟨RL, yL_registered, cL_registered, _, _, rfl, rfl, by decide, by decide, mA 538 (by decide +kernel), mA 539 (by decide +kernel), by decide +kernel⟩
theorem cT_64 : rCall (0, 5, 247, 97, 2, 10, 0) := ⟨RL, yX15_registered, cX15_registered, _, _, rfl, rfl, by decide, rfl, ⟨TX15, 13, rfl⟩, mA 869 (by decide +kernel), mA 870 (by decide +kernel), mA 871 (by decide +kernel), by decide, by decide +kernel⟩
theorem cT_65 : rCall (5, 5, 248, 26, 2, 0, 0) := ⟨RL, yL_endSeason, cL_endSeason, _, _, rfl, rfl, by decide, by decide, mA 545 (by decide +kernel), mA 546 (by decide +kernel), by decide +kernel⟩
theorem cT_66 : rCall (0, 5, 250, 71, 1, 10, 0) := ⟨RL, yX15_endSeason, cX15_endSeason, _, _, rfl, rfl, by decide, rfl, ⟨TX15, 13, rfl⟩, mA 873 (by decide +kernel), mA 874 (by decide +kernel), mA 875 (by decide +kernel), by decide, by decide +kernel⟩
theorem cT_67 : rCall (0, 5, 251, 153, 1, 7, 0) := ⟨RL, yX9_money, cX9_money, _, _, rfl, rfl, by decide, rfl, ⟨TX9, 10, rfl⟩, mA 157 (by decide +kernel), mA 158 (by decide +kernel), mA 159 (by decide +kernel), by decide, by decide +kernel⟩
theorem cT_68 : rCall (0, 5, 255, 87, 1, 10, 0) := ⟨RL, yX15_money, cX15_money, _, _, rfl, rfl, by decide, rfl, ⟨TX15, 13, rfl⟩, mA 883 (by decide +kernel), mA 884 (by decide +kernel), mA 885 (by decide +kernel), by decide, by decide +kernel⟩
theorem cT_69 : rCall (5, 5, 256, 35, 2, 0, 0) := ⟨RL, yL_overShare, cL_overShare, _, _, rfl, rfl, by decide, by decide, mA 565 (by decide +kernel), mA 566 (by decide +kernel), by decide +kernel⟩
theorem cT_70 : rCall (0, 5, 259, 93, 1, 10, 0) := ⟨RL, yX15_overShare, cX15_overShare, _, _, rfl, rfl, by decide, rfl, ⟨TX15, 13, rfl⟩, mA 887 (by decide +kernel), mA 888 (by decide +kernel), mA 889 (by decide +kernel), by decide, by decide +kernel⟩
theorem cT_71 : rCall (5, 5, 260, 33, 2, 0, 0) := ⟨RL, yL_meanGoals, cL_meanGoals, _, _, rfl, rfl, by decide, by decide, mA 578 (by decide +kernel), mA 579 (by decide +kernel), by decide +kernel⟩
theorem cT_72 : rCall (0, 5, 262, 86, 1, 10, 0) := ⟨RL, yX15_meanGoals, cX15_meanGoals, _, _, rfl, rfl, by decide, rfl, ⟨TX15, 13, rfl⟩, mA 894 (by decide +kernel), mA 895 (by decide +kernel), mA 896 (by decide +kernel), by decide, by decide +kernel⟩
theorem cT_73 : rCall (0, 5, 263, 142, 1, 7, 0) := ⟨RL, yX9_isSound, cX9_isSound, _, _, rfl, rfl, by decide, rfl, ⟨TX9, 10, rfl⟩, mA 166 (by decide +kernel), mA 167 (by decide +kernel), mA 168 (by decide +kernel), by decide, by decide +kernel⟩
theorem cT_74 : rCall (0, 5, 267, 83, 1, 10, 0) := ⟨RL, yX15_isSound, cX15_isSound, _, _, rfl, rfl, by decide, rfl, ⟨TX15, 13, rfl⟩, mA 898 (by decide +kernel), mA 899 (by decide +kernel), mA 900 (by decide +kernel), by decide, by decide +kernel⟩
theorem cT_75 : rCall (0, 2, 129, 8, 1, 1, 0) := ⟨RJx4a65c, yJx4a65c_grow_d5877, cJx4a65c_grow_d5877, _, _, rfl, rfl, by decide, rfl, ⟨TJx4a65c, 3, rfl⟩, mA 247 (by decide +kernel), mA 248 (by decide +kernel), mA 3 (by decide +kernel), by decide, by decide +kernel⟩
theorem cT_76 : rCall (0, 2, 131, 4, 4, 1, 0) := ⟨RJx4a65c, yJx4a65c_add_72be8, cJx4a65c_add_72be8, _, _, rfl, rfl, by decide, rfl, ⟨TJx4a65c, 3, rfl⟩, mA 244 (by decide +kernel), mA 245 (by decide +kernel), mA 2 (by decide +kernel), by decide, by decide +kernel⟩
theorem cT_77 : rCall (0, 2, 69, 7, 2, 1, 0) := ⟨RJx4a65c, yJx4a65c_grow_92f84, cJx4a65c_grow_92f84, _, _, rfl, rfl, by decide, rfl, ⟨TJx4a65c, 3, rfl⟩, mA 250 (by decide +kernel), mA 251 (by decide +kernel), mA 4 (by decide +kernel), by decide, by decide +kernel⟩
theorem cT_78 : rCall (1, 2, 1, 14, 1, 0, 0) := ⟨RJx4a65c, yJxc12de_init_da8c8, cJxc12de_init_da8c8, _, _, rfl, rfl, by decide, rfl, rfl, rfl, mA 65 (by decide +kernel), mA 66 (by decide +kernel), by decide, by decide +kernel⟩
theorem cT_79 : rCall (1, 2, 269, 3, 2, 0, 0) := ⟨RJx4a65c, yJx35411_init_45d68, cJx35411_init_45d68, _, _, rfl, rfl, by decide, rfl, rfl, rfl, mA 649 (by decide +kernel), mA 650 (by decide +kernel), by decide, by decide +kernel⟩
theorem cT_80 : rCall (1, 4, 1, 13, 1, 0, 0) := ⟨RJxc12de, yJxa1e45_init_da8c8, cJxa1e45_init_da8c8, _, _, rfl, rfl, by decide, rfl, rfl, rfl, mA 68 (by decide +kernel), mA 69 (by decide +kernel), by decide, by decide +kernel⟩
theorem cT_81 : rCall (0, 5, 83, 119, 2, 7, 0) := ⟨RL, yX9_abandon, cX9_abandon, _, _, rfl, rfl, by decide, rfl, ⟨TX9, 10, rfl⟩, mA 435 (by decide +kernel), mA 436 (by decide +kernel), mA 437 (by decide +kernel), by decide, by decide +kernel⟩
theorem cT_82 : rCall (0, 5, 7, 120, 4, 7, 0) := ⟨RL, yX9_addClub, cX9_addClub, _, _, rfl, rfl, by decide, rfl, ⟨TX9, 10, rfl⟩, mA 197 (by decide +kernel), mA 198 (by decide +kernel), mA 199 (by decide +kernel), by decide, by decide +kernel⟩
theorem cT_83 : rCall (0, 5, 17, 121, 2, 7, 0) := ⟨RL, yX9_addPlayer, cX9_addPlayer, _, _, rfl, rfl, by decide, rfl, ⟨TX9, 10, rfl⟩, mA 260 (by decide +kernel), mA 261 (by decide +kernel), mA 262 (by decide +kernel), by decide, by decide +kernel⟩
theorem cT_84 : rCall (0, 5, 87, 122, 3, 7, 0) := ⟨RL, yX9_appeal, cX9_appeal, _, _, rfl, rfl, by decide, rfl, ⟨TX9, 10, rfl⟩, mA 442 (by decide +kernel), mA 443 (by decide +kernel), mA 444 (by decide +kernel), by decide, by decide +kernel⟩
theorem cT_85 : rCall (0, 5, 94, 123, 2, 7, 0) := ⟨RL, yX9_ban, cX9_ban, _, _, rfl, rfl, by decide, rfl, ⟨TX9, 10, rfl⟩, mA 460 (by decide +kernel), mA 461 (by decide +kernel), mA 462 (by decide +kernel), by decide, by decide +kernel⟩
theorem cT_86 : rCall (0, 5, 39, 124, 2, 7, 0) := ⟨RL, yX9_callBack, cX9_callBack, _, _, rfl, rfl, by decide, rfl, ⟨TX9, 10, rfl⟩, mA 308 (by decide +kernel), mA 309 (by decide +kernel), mA 310 (by decide +kernel), by decide, by decide +kernel⟩
theorem cT_87 : rCall (0, 5, 72, 125, 3, 7, 0) := ⟨RL, yX9_card, cX9_card, _, _, rfl, rfl, by decide, rfl, ⟨TX9, 10, rfl⟩, mA 414 (by decide +kernel), mA 415 (by decide +kernel), mA 416 (by decide +kernel), by decide, by decide +kernel⟩
theorem cT_88 : rCall (0, 5, 76, 126, 3, 7, 0) := ⟨RL, yX9_change, cX9_change, _, _, rfl, rfl, by decide, rfl, ⟨TX9, 10, rfl⟩, mA 421 (by decide +kernel), mA 422 (by decide +kernel), mA 423 (by decide +kernel), by decide, by decide +kernel⟩
theorem cT_89 : rCall (0, 5, 112, 128, 3, 7, 0) := ⟨RL, yX9_clubAt, cX9_clubAt, _, _, rfl, rfl, by decide, rfl, ⟨TX9, 10, rfl⟩, mA 502 (by decide +kernel), mA 503 (by decide +kernel), mA 504 (by decide +kernel), by decide, by decide +kernel⟩
theorem cT_90 : rCall (0, 5, 118, 130, 2, 7, 0) := ⟨RL, yX9_divisionOf, cX9_divisionOf, _, _, rfl, rfl, by decide, rfl, ⟨TX9, 10, rfl⟩, mA 534 (by decide +kernel), mA 535 (by decide +kernel), mA 536 (by decide +kernel), by decide, by decide +kernel⟩
theorem cT_91 : rCall (0, 5, 79, 131, 1, 7, 0) := ⟨RL, yX9_end, cX9_end, _, _, rfl, rfl, by decide, rfl, ⟨TX9, 10, rfl⟩, mA 428 (by decide +kernel), mA 429 (by decide +kernel), mA 430 (by decide +kernel), by decide, by decide +kernel⟩
theorem cT_92 : rCall (0, 5, 124, 132, 1, 7, 0) := ⟨RL, yX9_endSeason, cX9_endSeason, _, _, rfl, rfl, by decide, rfl, ⟨TX9, 10, rfl⟩, mA 548 (by decide +kernel), mA 549 (by decide +kernel), mA 550 (by decide +kernel), by decide, by decide +kernel⟩
theorem cT_93 : rCall (0, 5, 54, 133, 3, 7, 0) := ⟨RL, yX9_fixture, cX9_fixture, _, _, rfl, rfl, by decide, rfl, ⟨TX9, 10, rfl⟩, mA 347 (by decide +kernel), mA 348 (by decide +kernel), mA 349 (by decide +kernel), by decide, by decide +kernel⟩
theorem cT_94 : rCall (0, 5, 27, 135, 2, 7, 0) := ⟨RL, yX9_goOn, cX9_goOn, _, _, rfl, rfl, by decide, rfl, ⟨TX9, 10, rfl⟩, mA 282 (by decide +kernel), mA 283 (by decide +kernel), mA 284 (by decide +kernel), by decide, by decide +kernel⟩
theorem cT_95 : rCall (0, 5, 69, 136, 2, 7, 0) := ⟨RL, yX9_goal, cX9_goal, _, _, rfl, rfl, by decide, rfl, ⟨TX9, 10, rfl⟩, mA 404 (by decide +kernel), mA 405 (by decide +kernel), mA 406 (by decide +kernel), by decide, by decide +kernel⟩
theorem cT_96 : rCall (0, 5, 100, 141, 3, 7, 0) := ⟨RL, yX9_isGuilty, cX9_isGuilty, _, _, rfl, rfl, by decide, rfl, ⟨TX9, 10, rfl⟩, mA 474 (by decide +kernel), mA 475 (by decide +kernel), mA 476 (by decide +kernel), by decide, by decide +kernel⟩
theorem cT_97 : rCall (0, 5, 66, 145, 2, 7, 0) := ⟨RL, yX9_kickOff, cX9_kickOff, _, _, rfl, rfl, by decide, rfl, ⟨TX9, 10, rfl⟩, mA 371 (by decide +kernel), mA 372 (by decide +kernel), mA 373 (by decide +kernel), by decide, by decide +kernel⟩
theorem cT_98 : rCall (0, 5, 35, 151, 3, 7, 0) := ⟨RL, yX9_lend, cX9_lend, _, _, rfl, rfl, by decide, rfl, ⟨TX9, 10, rfl⟩, mA 301 (by decide +kernel), mA 302 (by decide +kernel), mA 303 (by decide +kernel), by decide, by decide +kernel⟩
theorem cT_99 : rCall (0, 5, 133, 152, 1, 7, 0) := ⟨RL, yX9_meanGoals, cX9_meanGoals, _, _, rfl, rfl, by decide, rfl, ⟨TX9, 10, rfl⟩, mA 581 (by decide +kernel), mA 582 (by decide +kernel), mA 583 (by decide +kernel), by decide, by decide +kernel⟩
theorem cT_100 : rCall (0, 5, 62, 154, 4, 7, 0) := ⟨RL, yX9_name, cX9_name, _, _, rfl, rfl, by decide, rfl, ⟨TX9, 10, rfl⟩, mA 361 (by decide +kernel), mA 362 (by decide +kernel), mA 363 (by decide +kernel), by decide, by decide +kernel⟩
theorem cT_101 : rCall (0, 5, 127, 155, 1, 7, 0) := ⟨RL, yX9_overShare, cX9_overShare, _, _, rfl, rfl, by decide, rfl, ⟨TX9, 10, rfl⟩, mA 570 (by decide +kernel), mA 571 (by decide +kernel), mA 572 (by decide +kernel), by decide, by decide +kernel⟩
theorem cT_102 : rCall (0, 5, 46, 156, 2, 7, 0) := ⟨RL, yX9_plan, cX9_plan, _, _, rfl, rfl, by decide, rfl, ⟨TX9, 10, rfl⟩, mA 323 (by decide +kernel), mA 324 (by decide +kernel), mA 325 (by decide +kernel), by decide, by decide +kernel⟩
theorem cT_103 : rCall (0, 5, 115, 157, 2, 7, 0) := ⟨RL, yX9_points, cX9_points, _, _, rfl, rfl, by decide, rfl, ⟨TX9, 10, rfl⟩, mA 527 (by decide +kernel), mA 528 (by decide +kernel), mA 529 (by decide +kernel), by decide, by decide +kernel⟩
theorem cT_104 : rCall (0, 5, 51, 158, 3, 7, 0) := ⟨RL, yX9_putOff, cX9_putOff, _, _, rfl, rfl, by decide, rfl, ⟨TX9, 10, rfl⟩, mA 337 (by decide +kernel), mA 338 (by decide +kernel), mA 339 (by decide +kernel), by decide, by decide +kernel⟩
theorem cT_105 : rCall (0, 5, 121, 159, 2, 7, 0) := ⟨RL, yX9_registered, cX9_registered, _, _, rfl, rfl, by decide, rfl, ⟨TX9, 10, rfl⟩, mA 541 (by decide +kernel), mA 542 (by decide +kernel), mA 543 (by decide +kernel), by decide, by decide +kernel⟩
theorem cT_106 : rCall (0, 5, 103, 160, 2, 7, 0) := ⟨RL, yX9_resultOf, cX9_resultOf, _, _, rfl, rfl, by decide, rfl, ⟨TX9, 10, rfl⟩, mA 481 (by decide +kernel), mA 482 (by decide +kernel), mA 483 (by decide +kernel), by decide, by decide +kernel⟩
theorem cT_107 : rCall (0, 5, 30, 161, 4, 7, 0) := ⟨RL, yX9_sell, cX9_sell, _, _, rfl, rfl, by decide, rfl, ⟨TX9, 10, rfl⟩, mA 290 (by decide +kernel), mA 291 (by decide +kernel), mA 292 (by decide +kernel), by decide, by decide +kernel⟩
theorem cT_108 : rCall (0, 5, 42, 162, 4, 7, 0) := ⟨RL, yX9_setDerby, cX9_setDerby, _, _, rfl, rfl, by decide, rfl, ⟨TX9, 10, rfl⟩, mA 315 (by decide +kernel), mA 316 (by decide +kernel), mA 317 (by decide +kernel), by decide, by decide +kernel⟩
theorem cT_109 : rCall (0, 5, 23, 163, 3, 7, 0) := ⟨RL, yX9_setWindow, cX9_setWindow, _, _, rfl, rfl, by decide, rfl, ⟨TX9, 10, rfl⟩, mA 272 (by decide +kernel), mA 273 (by decide +kernel), mA 274 (by decide +kernel), by decide, by decide +kernel⟩
theorem cT_110 : rCall (0, 5, 58, 164, 2, 7, 0) := ⟨RL, yX9_stateOf, cX9_stateOf, _, _, rfl, rfl, by decide, rfl, ⟨TX9, 10, rfl⟩, mA 354 (by decide +kernel), mA 355 (by decide +kernel), mA 356 (by decide +kernel), by decide, by decide +kernel⟩
theorem cT_111 : rCall (0, 5, 109, 165, 3, 7, 0) := ⟨RL, yX9_strike, cX9_strike, _, _, rfl, rfl, by decide, rfl, ⟨TX9, 10, rfl⟩, mA 495 (by decide +kernel), mA 496 (by decide +kernel), mA 497 (by decide +kernel), by decide, by decide +kernel⟩
theorem cT_112 : rCall (0, 5, 106, 166, 3, 7, 0) := ⟨RL, yX9_takePoints, cX9_takePoints, _, _, rfl, rfl, by decide, rfl, ⟨TX9, 10, rfl⟩, mA 488 (by decide +kernel), mA 489 (by decide +kernel), mA 490 (by decide +kernel), by decide, by decide +kernel⟩
theorem cT_113 : rCall (0, 5, 91, 167, 1, 7, 0) := ⟨RL, yX9_wipe, cX9_wipe, _, _, rfl, rfl, by decide, rfl, ⟨TX9, 10, rfl⟩, mA 449 (by decide +kernel), mA 450 (by decide +kernel), mA 451 (by decide +kernel), by decide, by decide +kernel⟩
theorem cT_114 : rCall (0, 5, 97, 168, 2, 7, 0) := ⟨RL, yX9_yellows, cX9_yellows, _, _, rfl, rfl, by decide, rfl, ⟨TX9, 10, rfl⟩, mA 467 (by decide +kernel), mA 468 (by decide +kernel), mA 469 (by decide +kernel), by decide, by decide +kernel⟩
theorem cT_115 : rCall (2, 6, 46, 1, 2, 0, 0) := ⟨RX0, yJ7_fill_53178, cJ7_fill_53178, _, _, rfl, rfl, by decide, rfl, mA 181 (by decide +kernel), mA 182 (by decide +kernel), by decide +kernel⟩
theorem cT_116 : rCall (0, 6, 34, 12, 1, 1, 0) := ⟨RX0, yJx4a65c_size_8abf5, cJx4a65c_size_8abf5, _, _, rfl, rfl, by decide, rfl, ⟨TJx4a65c, 3, rfl⟩, mA 184 (by decide +kernel), mA 162 (by decide +kernel), mA 163 (by decide +kernel), by decide, by decide +kernel⟩
theorem cT_117 : rCall (1, 6, 11, 9, 1, 0, 0) := ⟨RX0, yJx4a65c_init_da8c8, cJx4a65c_init_da8c8, _, _, rfl, rfl, by decide, rfl, rfl, rfl, mA 90 (by decide +kernel), mA 63 (by decide +kernel), by decide, by decide +kernel⟩
theorem cT_118 : rCall (0, 6, 74, 50, 1, 2, 0) := ⟨RX0, yX0_countAnew, cX0_countAnew, _, _, rfl, rfl, by decide, rfl, ⟨TX0, 6, rfl⟩, mA 177 (by decide +kernel), mA 178 (by decide +kernel), mA 179 (by decide +kernel), by decide, by decide +kernel⟩
theorem cT_119 : rCall (0, 6, 38, 5, 2, 1, 0) := ⟨RX0, yJx4a65c_add_9ea2d, cJx4a65c_add_9ea2d, _, _, rfl, rfl, by decide, rfl, ⟨TJx4a65c, 3, rfl⟩, mA 400 (by decide +kernel), mA 241 (by decide +kernel), mA 242 (by decide +kernel), by decide, by decide +kernel⟩
theorem cT_120 : rCall (0, 6, 42, 49, 2, 2, 0) := ⟨RX0, yX0_count, cX0_count, _, _, rfl, rfl, by decide, rfl, ⟨TX0, 6, rfl⟩, mA 185 (by decide +kernel), mA 186 (by decide +kernel), mA 0 (by decide +kernel), by decide, by decide +kernel⟩
theorem cT_121 : rCall (1, 8, 9, 9, 1, 0, 0) := ⟨RX12, yJx4a65c_init_da8c8, cJx4a65c_init_da8c8, _, _, rfl, rfl, by decide, rfl, rfl, rfl, mA 779 (by decide +kernel), mA 63 (by decide +kernel), by decide, by decide +kernel⟩
theorem cT_122 : rCall (0, 9, 63, 89, 3, 10, 0) := ⟨RX15, yX15_no, cX15_no, _, _, rfl, rfl, by decide, rfl, ⟨TX15, 13, rfl⟩, mA 632 (by decide +kernel), mA 633 (by decide +kernel), mA 19 (by decide +kernel), by decide, by decide +kernel⟩
theorem cT_123 : rCall (2, 9, 59, 80, 3, 0, 0) := ⟨RX15, yX15_isIn, cX15_isIn, _, _, rfl, rfl, by decide, rfl, mA 627 (by decide +kernel), mA 628 (by decide +kernel), by decide +kernel⟩
theorem cT_124 : rCall (0, 9, 155, 67, 2, 10, 0) := ⟨RX15, yX15_clubsIn, cX15_clubsIn, _, _, rfl, rfl, by decide, rfl, ⟨TX15, 13, rfl⟩, mA 635 (by decide +kernel), mA 636 (by decide +kernel), mA 20 (by decide +kernel), by decide, by decide +kernel⟩
theorem cT_125 : rCall (4, 9, 53, 12, 1, 1, 1) := ⟨RX15, yJx4a65c_size_8abf5, cJx4a65c_size_8abf5, _, _, rfl, rfl, by decide, rfl, ⟨yF0, RJx4a65c, TJx4a65c, 3, rfl, mA 671 (by decide +kernel), mA 673 (by decide +kernel), mA 672 (by decide +kernel), mA 674 (by decide +kernel), mA 162 (by decide +kernel), mA 676 (by decide +kernel), mA 675 (by decide +kernel), mA 641 (by decide +kernel), by decide +kernel, ⟨by decide +kernel, by decide +kernel⟩⟩, by decide⟩
theorem cT_126 : rCall (1, 9, 158, 56, 4, 0, 0) := ⟨RX15, yX11_init, cX11_init, _, _, rfl, rfl, by decide, rfl, rfl, rfl, mA 678 (by decide +kernel), mA 679 (by decide +kernel), by decide, by decide +kernel⟩
theorem cT_127 : rCall (4, 9, 161, 5, 2, 1, 2) := ⟨RX15, yJx4a65c_add_9ea2d, cJx4a65c_add_9ea2d, _, _, rfl, rfl, by decide, rfl, ⟨yF1, RJx4a65c, TJx4a65c, 3, rfl, mA 694 (by decide +kernel), mA 696 (by decide +kernel), mA 695 (by decide +kernel), mA 697 (by decide +kernel), mA 241 (by decide +kernel), mA 699 (by decide +kernel), mA 698 (by decide +kernel), mA 641 (by decide +kernel), by decide +kernel, ⟨by decide +kernel, by decide +kernel⟩⟩, by decide⟩
theorem cT_128 : rCall (0, 9, 165, 78, 2, 10, 0) := ⟨RX15, yX15_isClub, cX15_isClub, _, _, rfl, rfl, by decide, rfl, ⟨TX15, 13, rfl⟩, mA 704 (by decide +kernel), mA 705 (by decide +kernel), mA 21 (by decide +kernel), by decide, by decide +kernel⟩
theorem cT_129 : rCall (0, 9, 184, 82, 2, 10, 0) := ⟨RX15, yX15_isPlayer, cX15_isPlayer, _, _, rfl, rfl, by decide, rfl, ⟨TX15, 13, rfl⟩, mA 724 (by decide +kernel), mA 725 (by decide +kernel), mA 23 (by decide +kernel), by decide, by decide +kernel⟩
theorem cT_130 : rCall (0, 9, 265, 91, 2, 10, 0) := ⟨RX15, yX15_noOn, cX15_noOn, _, _, rfl, rfl, by decide, rfl, ⟨TX15, 13, rfl⟩, mA 794 (by decide +kernel), mA 795 (by decide +kernel), mA 27 (by decide +kernel), by decide, by decide +kernel⟩
theorem cT_131 : rCall (4, 9, 67, 11, 1, 1, 1) := ⟨RX15, yJx4a65c_iterator_32c93, cJx4a65c_iterator_32c93, _, _, rfl, rfl, by decide, rfl, ⟨yF2, RJx4a65c, TJx4a65c, 3, rfl, mA 638 (by decide +kernel), mA 640 (by decide +kernel), mA 639 (by decide +kernel), mA 642 (by decide +kernel), mA 644 (by decide +kernel), mA 645 (by decide +kernel), mA 643 (by decide +kernel), mA 641 (by decide +kernel), by decide +kernel, ⟨by decide +kernel, by decide +kernel⟩⟩, by decide⟩
theorem cT_132 : rCall (4, 9, 71, 2, 1, 0, 1) := ⟨RX15, yJx35411_hasNext_aae02, cJx35411_hasNext_aae02, _, _, rfl, rfl, by decide, rfl, ⟨yF3, RJx35411, TJx35411, 4, rfl, mA 661 (by decide +kernel), mA 663 (by decide +kernel), mA 662 (by decide +kernel), mA 665 (by decide +kernel), mA 667 (by decide +kernel), mA 668 (by decide +kernel), mA 666 (by decide +kernel), mA 664 (by decide +kernel), by decide +kernel, ⟨by decide +kernel, by decide +kernel⟩⟩, by decide⟩
theorem cT_133 : rCall (1, 9, 9, 9, 1, 0, 0) := ⟨RX15, yJx4a65c_init_da8c8, cJx4a65c_init_da8c8, _, _, rfl, rfl, by decide, rfl, rfl, rfl, mA 592 (by decide +kernel), mA 63 (by decide +kernel), by decide, by decide +kernel⟩
theorem cT_134 : rCall (0, 9, 253, 75, 1, 10, 0) := ⟨RX15, yX15_goesThrough, cX15_goesThrough, _, _, rfl, rfl, by decide, rfl, ⟨TX15, 13, rfl⟩, mA 769 (by decide +kernel), mA 770 (by decide +kernel), mA 26 (by decide +kernel), by decide, by decide +kernel⟩
theorem cT_135 : rCall (0, 9, 344, 104, 2, 10, 0) := ⟨RX15, yX15_table, cX15_table, _, _, rfl, rfl, by decide, rfl, ⟨TX15, 13, rfl⟩, mA 849 (by decide +kernel), mA 850 (by decide +kernel), mA 28 (by decide +kernel), by decide, by decide +kernel⟩
theorem cT_136 : rCall (4, 9, 350, 6, 1, 1, 1) := ⟨RX15, yJx4a65c_clear_da8c8, cJx4a65c_clear_da8c8, _, _, rfl, rfl, by decide, rfl, ⟨yF4, RJx4a65c, TJx4a65c, 3, rfl, mA 877 (by decide +kernel), mA 879 (by decide +kernel), mA 878 (by decide +kernel), mA 880 (by decide +kernel), mA 330 (by decide +kernel), mA 882 (by decide +kernel), mA 881 (by decide +kernel), mA 641 (by decide +kernel), by decide +kernel, ⟨by decide +kernel, by decide +kernel⟩⟩, by decide⟩
theorem cT_137 : rCall (1, 9, 256, 57, 5, 0, 0) := ⟨RX15, yX12_init, cX12_init, _, _, rfl, rfl, by decide, rfl, rfl, rfl, mA 774 (by decide +kernel), mA 775 (by decide +kernel), by decide, by decide +kernel⟩
theorem cT_138 : rCall (0, 9, 237, 90, 2, 10, 0) := ⟨RX15, yX15_noMatch, cX15_noMatch, _, _, rfl, rfl, by decide, rfl, ⟨TX15, 13, rfl⟩, mA 750 (by decide +kernel), mA 751 (by decide +kernel), mA 25 (by decide +kernel), by decide, by decide +kernel⟩
theorem cT_139 : rCall (0, 9, 353, 92, 1, 10, 0) := ⟨RX15, yX15_over, cX15_over, _, _, rfl, rfl, by decide, rfl, ⟨TX15, 13, rfl⟩, mA 891 (by decide +kernel), mA 892 (by decide +kernel), mA 30 (by decide +kernel), by decide, by decide +kernel⟩
theorem cT_140 : rCall (4, 9, 313, 10, 1, 1, 1) := ⟨RX15, yJx4a65c_isEmpty_aae02, cJx4a65c_isEmpty_aae02, _, _, rfl, rfl, by decide, rfl, ⟨yF5, RJx4a65c, TJx4a65c, 3, rfl, mA 855 (by decide +kernel), mA 857 (by decide +kernel), mA 856 (by decide +kernel), mA 858 (by decide +kernel), mA 559 (by decide +kernel), mA 860 (by decide +kernel), mA 859 (by decide +kernel), mA 641 (by decide +kernel), by decide +kernel, ⟨by decide +kernel, by decide +kernel⟩⟩, by decide⟩
theorem cT_141 : rCall (0, 9, 224, 76, 2, 10, 0) := ⟨RX15, yX15_hasFixtures, cX15_hasFixtures, _, _, rfl, rfl, by decide, rfl, ⟨TX15, 13, rfl⟩, mA 743 (by decide +kernel), mA 744 (by decide +kernel), mA 24 (by decide +kernel), by decide, by decide +kernel⟩
theorem cT_142 : rCall (0, 9, 179, 81, 1, 10, 0) := ⟨RX15, yX15_isOpen, cX15_isOpen, _, _, rfl, rfl, by decide, rfl, ⟨TX15, 13, rfl⟩, mA 712 (by decide +kernel), mA 713 (by decide +kernel), mA 22 (by decide +kernel), by decide, by decide +kernel⟩
theorem cT_143 : rCall (0, 9, 305, 68, 2, 10, 0) := ⟨RX15, yX15_counting, cX15_counting, _, _, rfl, rfl, by decide, rfl, ⟨TX15, 13, rfl⟩, mA 852 (by decide +kernel), mA 853 (by decide +kernel), mA 29 (by decide +kernel), by decide, by decide +kernel⟩
theorem cT_144 : rCall (1, 12, 11, 9, 1, 0, 0) := ⟨RX5, yJx4a65c_init_da8c8, cJx4a65c_init_da8c8, _, _, rfl, rfl, by decide, rfl, rfl, rfl, mA 112 (by decide +kernel), mA 63 (by decide +kernel), by decide, by decide +kernel⟩
theorem cT_145 : rCall (0, 13, 21, 12, 1, 1, 0) := ⟨RX8, yJx4a65c_size_8abf5, cJx4a65c_size_8abf5, _, _, rfl, rfl, by decide, rfl, ⟨TJx4a65c, 3, rfl⟩, mA 511 (by decide +kernel), mA 162 (by decide +kernel), mA 163 (by decide +kernel), by decide, by decide +kernel⟩
theorem cT_146 : rCall (0, 13, 18, 6, 1, 1, 0) := ⟨RX8, yJx4a65c_clear_da8c8, cJx4a65c_clear_da8c8, _, _, rfl, rfl, by decide, rfl, ⟨TJx4a65c, 3, rfl⟩, mA 510 (by decide +kernel), mA 330 (by decide +kernel), mA 331 (by decide +kernel), by decide, by decide +kernel⟩
theorem cT_147 : rCall (0, 13, 35, 112, 4, 6, 0) := ⟨RX8, yX8_addRows, cX8_addRows, _, _, rfl, rfl, by decide, rfl, ⟨TX8, 1, rfl⟩, mA 512 (by decide +kernel), mA 513 (by decide +kernel), mA 12 (by decide +kernel), by decide, by decide +kernel⟩
theorem cT_148 : rCall (0, 13, 39, 113, 4, 6, 0) := ⟨RX8, yX8_countAmong, cX8_countAmong, _, _, rfl, rfl, by decide, rfl, ⟨TX8, 1, rfl⟩, mA 515 (by decide +kernel), mA 516 (by decide +kernel), mA 13 (by decide +kernel), by decide, by decide +kernel⟩
theorem cT_149 : rCall (0, 13, 65, 118, 3, 6, 0) := ⟨RX8, yX8_sort, cX8_sort, _, _, rfl, rfl, by decide, rfl, ⟨TX8, 1, rfl⟩, mA 518 (by decide +kernel), mA 519 (by decide +kernel), mA 14 (by decide +kernel), by decide, by decide +kernel⟩
theorem cT_150 : rCall (0, 13, 69, 117, 5, 6, 0) := ⟨RX8, yX8_partTies, cX8_partTies, _, _, rfl, rfl, by decide, rfl, ⟨TX8, 1, rfl⟩, mA 521 (by decide +kernel), mA 522 (by decide +kernel), mA 15 (by decide +kernel), by decide, by decide +kernel⟩
theorem cT_151 : rCall (1, 13, 11, 9, 1, 0, 0) := ⟨RX8, yJx4a65c_init_da8c8, cJx4a65c_init_da8c8, _, _, rfl, rfl, by decide, rfl, rfl, rfl, mA 134 (by decide +kernel), mA 63 (by decide +kernel), by decide, by decide +kernel⟩
theorem cT_152 : rCall (0, 14, 297, 149, 1, 7, 0) := ⟨RX9, yX9_knownMatch, cX9_knownMatch, _, _, rfl, rfl, by decide, rfl, ⟨TX9, 10, rfl⟩, mA 408 (by decide +kernel), mA 409 (by decide +kernel), mA 11 (by decide +kernel), by decide, by decide +kernel⟩
theorem cT_153 : rCall (2, 14, 57, 139, 1, 0, 0) := ⟨RX9, yX9_isDivision, cX9_isDivision, _, _, rfl, rfl, by decide, rfl, mA 201 (by decide +kernel), mA 202 (by decide +kernel), by decide +kernel⟩
theorem cT_154 : rCall (2, 14, 61, 144, 3, 0, 0) := ⟨RX9, yX9_isWithin, cX9_isWithin, _, _, rfl, rfl, by decide, rfl, mA 204 (by decide +kernel), mA 205 (by decide +kernel), by decide +kernel⟩
theorem cT_155 : rCall (0, 14, 72, 129, 2, 7, 0) := ⟨RX9, yX9_clubsIn, cX9_clubsIn, _, _, rfl, rfl, by decide, rfl, ⟨TX9, 10, rfl⟩, mA 209 (by decide +kernel), mA 210 (by decide +kernel), mA 1 (by decide +kernel), by decide, by decide +kernel⟩
theorem cT_156 : rCall (0, 14, 83, 12, 1, 1, 0) := ⟨RX9, yJx4a65c_size_8abf5, cJx4a65c_size_8abf5, _, _, rfl, rfl, by decide, rfl, ⟨TJx4a65c, 3, rfl⟩, mA 161 (by decide +kernel), mA 162 (by decide +kernel), mA 163 (by decide +kernel), by decide, by decide +kernel⟩
theorem cT_157 : rCall (1, 14, 87, 109, 5, 0, 0) := ⟨RX9, yX2_init, cX2_init, _, _, rfl, rfl, by decide, rfl, rfl, rfl, mA 215 (by decide +kernel), mA 216 (by decide +kernel), by decide, by decide +kernel⟩
theorem cT_158 : rCall (0, 14, 90, 5, 2, 1, 0) := ⟨RX9, yJx4a65c_add_9ea2d, cJx4a65c_add_9ea2d, _, _, rfl, rfl, by decide, rfl, ⟨TJx4a65c, 3, rfl⟩, mA 240 (by decide +kernel), mA 241 (by decide +kernel), mA 242 (by decide +kernel), by decide, by decide +kernel⟩
theorem cT_159 : rCall (0, 14, 97, 147, 2, 7, 0) := ⟨RX9, yX9_knownClub, cX9_knownClub, _, _, rfl, rfl, by decide, rfl, ⟨TX9, 10, rfl⟩, mA 264 (by decide +kernel), mA 265 (by decide +kernel), mA 5 (by decide +kernel), by decide, by decide +kernel⟩
theorem cT_160 : rCall (0, 14, 118, 150, 2, 7, 0) := ⟨RX9, yX9_knownPlayer, cX9_knownPlayer, _, _, rfl, rfl, by decide, rfl, ⟨TX9, 10, rfl⟩, mA 294 (by decide +kernel), mA 295 (by decide +kernel), mA 7 (by decide +kernel), by decide, by decide +kernel⟩
theorem cT_161 : rCall (0, 14, 237, 146, 2, 7, 0) := ⟨RX9, yX9_knownBit, cX9_knownBit, _, _, rfl, rfl, by decide, rfl, ⟨TX9, 10, rfl⟩, mA 365 (by decide +kernel), mA 366 (by decide +kernel), mA 10 (by decide +kernel), by decide, by decide +kernel⟩
theorem cT_162 : rCall (0, 14, 428, 6, 1, 1, 0) := ⟨RX9, yJx4a65c_clear_da8c8, cJx4a65c_clear_da8c8, _, _, rfl, rfl, by decide, rfl, ⟨TJx4a65c, 3, rfl⟩, mA 564 (by decide +kernel), mA 330 (by decide +kernel), mA 331 (by decide +kernel), by decide, by decide +kernel⟩
theorem cT_163 : rCall (1, 14, 290, 110, 5, 0, 0) := ⟨RX9, yX3_init, cX3_init, _, _, rfl, rfl, by decide, rfl, rfl, rfl, mA 381 (by decide +kernel), mA 382 (by decide +kernel), by decide, by decide +kernel⟩
theorem cT_164 : rCall (0, 14, 293, 55, 2, 2, 0) := ⟨RX9, yX0_write, cX0_write, _, _, rfl, rfl, by decide, rfl, ⟨TX0, 6, rfl⟩, mA 396 (by decide +kernel), mA 397 (by decide +kernel), mA 398 (by decide +kernel), by decide, by decide +kernel⟩
theorem cT_165 : rCall (0, 14, 410, 140, 1, 7, 0) := ⟨RX9, yX9_isFixtureLeft, cX9_isFixtureLeft, _, _, rfl, rfl, by decide, rfl, ⟨TX9, 10, rfl⟩, mA 552 (by decide +kernel), mA 553 (by decide +kernel), mA 16 (by decide +kernel), by decide, by decide +kernel⟩
theorem cT_166 : rCall (0, 14, 263, 52, 1, 2, 0) := ⟨RX9, yX0_isFull, cX0_isFull, _, _, rfl, rfl, by decide, rfl, ⟨TX0, 6, rfl⟩, mA 375 (by decide +kernel), mA 376 (by decide +kernel), mA 377 (by decide +kernel), by decide, by decide +kernel⟩
theorem cT_167 : rCall (0, 14, 397, 114, 4, 6, 0) := ⟨RX9, yX8_draw, cX8_draw, _, _, rfl, rfl, by decide, rfl, ⟨TX8, 1, rfl⟩, mA 506 (by decide +kernel), mA 507 (by decide +kernel), mA 508 (by decide +kernel), by decide, by decide +kernel⟩
theorem cT_168 : rCall (0, 14, 415, 115, 1, 6, 0) := ⟨RX9, yX8_firstToRise, cX8_firstToRise, _, _, rfl, rfl, by decide, rfl, ⟨TX8, 1, rfl⟩, mA 555 (by decide +kernel), mA 556 (by decide +kernel), mA 557 (by decide +kernel), by decide, by decide +kernel⟩
theorem cT_169 : rCall (0, 14, 422, 127, 1, 7, 0) := ⟨RX9, yX9_clearSeason, cX9_clearSeason, _, _, rfl, rfl, by decide, rfl, ⟨TX9, 10, rfl⟩, mA 561 (by decide +kernel), mA 562 (by decide +kernel), mA 17 (by decide +kernel), by decide, by decide +kernel⟩
theorem cT_170 : rCall (0, 14, 191, 148, 2, 7, 0) := ⟨RX9, yX9_knownFixture, cX9_knownFixture, _, _, rfl, rfl, by decide, rfl, ⟨TX9, 10, rfl⟩, mA 341 (by decide +kernel), mA 342 (by decide +kernel), mA 9 (by decide +kernel), by decide, by decide +kernel⟩
theorem cT_171 : rCall (1, 14, 9, 9, 1, 0, 0) := ⟨RX9, yJx4a65c_init_da8c8, cJx4a65c_init_da8c8, _, _, rfl, rfl, by decide, rfl, rfl, rfl, mA 62 (by decide +kernel), mA 63 (by decide +kernel), by decide, by decide +kernel⟩
theorem cT_172 : rCall (3, 14, 24, 51, 1, 0, 0) := ⟨RX9, yX0_init, cX0_init, _, _, rfl, rfl, by decide, rfl, rfl, rfl, ⟨"Goalmouth", mA 85 (by decide +kernel)⟩, mA 86 (by decide +kernel), by decide, by decide +kernel⟩
theorem cT_173 : rCall (3, 14, 31, 111, 1, 0, 0) := ⟨RX9, yX5_init, cX5_init, _, _, rfl, rfl, by decide, rfl, rfl, rfl, ⟨"Goalmouth", mA 107 (by decide +kernel)⟩, mA 108 (by decide +kernel), by decide, by decide +kernel⟩
theorem cT_174 : rCall (3, 14, 38, 116, 1, 0, 0) := ⟨RX9, yX8_init, cX8_init, _, _, rfl, rfl, by decide, rfl, rfl, rfl, ⟨"Goalmouth", mA 129 (by decide +kernel)⟩, mA 130 (by decide +kernel), by decide, by decide +kernel⟩
theorem cT_175 : rCall (0, 14, 448, 53, 1, 2, 0) := ⟨RX9, yX0_isSameAnew, cX0_isSameAnew, _, _, rfl, rfl, by decide, rfl, ⟨TX0, 6, rfl⟩, mA 170 (by decide +kernel), mA 171 (by decide +kernel), mA 172 (by decide +kernel), by decide, by decide +kernel⟩
theorem cT_176 : rCall (0, 14, 456, 153, 1, 7, 0) := ⟨RX9, yX9_money, cX9_money, _, _, rfl, rfl, by decide, rfl, ⟨TX9, 10, rfl⟩, mA 191 (by decide +kernel), mA 158 (by decide +kernel), mA 159 (by decide +kernel), by decide, by decide +kernel⟩
theorem cT_177 : rCall (0, 14, 436, 134, 1, 7, 0) := ⟨RX9, yX9_fixturesOver, cX9_fixturesOver, _, _, rfl, rfl, by decide, rfl, ⟨TX9, 10, rfl⟩, mA 575 (by decide +kernel), mA 576 (by decide +kernel), mA 18 (by decide +kernel), by decide, by decide +kernel⟩
theorem cT_178 : rCall (0, 14, 167, 137, 2, 7, 0) := ⟨RX9, yX9_hasFixtures, cX9_hasFixtures, _, _, rfl, rfl, by decide, rfl, ⟨TX9, 10, rfl⟩, mA 327 (by decide +kernel), mA 328 (by decide +kernel), mA 8 (by decide +kernel), by decide, by decide +kernel⟩
theorem cT_179 : rCall (0, 14, 110, 143, 1, 7, 0) := ⟨RX9, yX9_isWindowOpen, cX9_isWindowOpen, _, _, rfl, rfl, by decide, rfl, ⟨TX9, 10, rfl⟩, mA 276 (by decide +kernel), mA 277 (by decide +kernel), mA 6 (by decide +kernel), by decide, by decide +kernel⟩
theorem cT_180 : rCall (0, 14, 367, 54, 1, 2, 0) := ⟨RX9, yX0_playersWithYellows, cX0_playersWithYellows, _, _, rfl, rfl, by decide, rfl, ⟨TX0, 6, rfl⟩, mA 453 (by decide +kernel), mA 454 (by decide +kernel), mA 455 (by decide +kernel), by decide, by decide +kernel⟩
theorem cT_ok : ∀ q ∈ cT, rCall q := List.forall_mem_cons.mpr ⟨cT_0, List.forall_mem_cons.mpr ⟨cT_1, List.forall_mem_cons.mpr ⟨cT_2, List.forall_mem_cons.mpr ⟨cT_3, List.forall_mem_cons.mpr ⟨cT_4, List.forall_mem_cons.mpr ⟨cT_5, List.forall_mem_cons.mpr ⟨cT_6, List.forall_mem_cons.mpr ⟨cT_7, List.forall_mem_cons.mpr ⟨cT_8, List.forall_mem_cons.mpr ⟨cT_9, List.forall_mem_cons.mpr ⟨cT_10, List.forall_mem_cons.mpr ⟨cT_11, List.forall_mem_cons.mpr ⟨cT_12, List.forall_mem_cons.mpr ⟨cT_13, List.forall_mem_cons.mpr ⟨cT_14, List.forall_mem_cons.mpr ⟨cT_15, List.forall_mem_cons.mpr ⟨cT_16, List.forall_mem_cons.mpr ⟨cT_17, List.forall_mem_cons.mpr ⟨cT_18, List.forall_mem_cons.mpr ⟨cT_19, List.forall_mem_cons.mpr ⟨cT_20, List.forall_mem_cons.mpr ⟨cT_21, List.forall_mem_cons.mpr ⟨cT_22, List.forall_mem_cons.mpr ⟨cT_23, List.forall_mem_cons.mpr ⟨cT_24, List.forall_mem_cons.mpr ⟨cT_25, List.forall_mem_cons.mpr ⟨cT_26, List.forall_mem_cons.mpr ⟨cT_27, List.forall_mem_cons.mpr ⟨cT_28, List.forall_mem_cons.mpr ⟨cT_29, List.forall_mem_cons.mpr ⟨cT_30, List.forall_mem_cons.mpr ⟨cT_31, List.forall_mem_cons.mpr ⟨cT_32, List.forall_mem_cons.mpr ⟨cT_33, List.forall_mem_cons.mpr ⟨cT_34, List.forall_mem_cons.mpr ⟨cT_35, List.forall_mem_cons.mpr ⟨cT_36, List.forall_mem_cons.mpr ⟨cT_37, List.forall_mem_cons.mpr ⟨cT_38, List.forall_mem_cons.mpr ⟨cT_39, List.forall_mem_cons.mpr ⟨cT_40, List.forall_mem_cons.mpr ⟨cT_41, List.forall_mem_cons.mpr ⟨cT_42, List.forall_mem_cons.mpr ⟨cT_43, List.forall_mem_cons.mpr ⟨cT_44, List.forall_mem_cons.mpr ⟨cT_45, List.forall_mem_cons.mpr ⟨cT_46, List.forall_mem_cons.mpr ⟨cT_47, List.forall_mem_cons.mpr ⟨cT_48, List.forall_mem_cons.mpr ⟨cT_49, List.forall_mem_cons.mpr ⟨cT_50, List.forall_mem_cons.mpr ⟨cT_51, List.forall_mem_cons.mpr ⟨cT_52, List.forall_mem_cons.mpr ⟨cT_53, List.forall_mem_cons.mpr ⟨cT_54, List.forall_mem_cons.mpr ⟨cT_55, List.forall_mem_cons.mpr ⟨cT_56, List.forall_mem_cons.mpr ⟨cT_57, List.forall_mem_cons.mpr ⟨cT_58, List.forall_mem_cons.mpr ⟨cT_59, List.forall_mem_cons.mpr ⟨cT_60, List.forall_mem_cons.mpr ⟨cT_61, List.forall_mem_cons.mpr ⟨cT_62, List.forall_mem_cons.mpr ⟨cT_63, List.forall_mem_cons.mpr ⟨cT_64, List.forall_mem_cons.mpr ⟨cT_65, List.forall_mem_cons.mpr ⟨cT_66, List.forall_mem_cons.mpr ⟨cT_67, List.forall_mem_cons.mpr ⟨cT_68, List.forall_mem_cons.mpr ⟨cT_69, List.forall_mem_cons.mpr ⟨cT_70, List.forall_mem_cons.mpr ⟨cT_71, List.forall_mem_cons.mpr ⟨cT_72, List.forall_mem_cons.mpr ⟨cT_73, List.forall_mem_cons.mpr ⟨cT_74, List.forall_mem_cons.mpr ⟨cT_75, List.forall_mem_cons.mpr ⟨cT_76, List.forall_mem_cons.mpr ⟨cT_77, List.forall_mem_cons.mpr ⟨cT_78, List.forall_mem_cons.mpr ⟨cT_79, List.forall_mem_cons.mpr ⟨cT_80, List.forall_mem_cons.mpr ⟨cT_81, List.forall_mem_cons.mpr ⟨cT_82, List.forall_mem_cons.mpr ⟨cT_83, List.forall_mem_cons.mpr ⟨cT_84, List.forall_mem_cons.mpr ⟨cT_85, List.forall_mem_cons.mpr ⟨cT_86, List.forall_mem_cons.mpr ⟨cT_87, List.forall_mem_cons.mpr ⟨cT_88, List.forall_mem_cons.mpr ⟨cT_89, List.forall_mem_cons.mpr ⟨cT_90, List.forall_mem_cons.mpr ⟨cT_91, List.forall_mem_cons.mpr ⟨cT_92, List.forall_mem_cons.mpr ⟨cT_93, List.forall_mem_cons.mpr ⟨cT_94, List.forall_mem_cons.mpr ⟨cT_95, List.forall_mem_cons.mpr ⟨cT_96, List.forall_mem_cons.mpr ⟨cT_97, List.forall_mem_cons.mpr ⟨cT_98, List.forall_mem_cons.mpr ⟨cT_99, List.forall_mem_cons.mpr ⟨cT_100, List.forall_mem_cons.mpr ⟨cT_101, List.forall_mem_cons.mpr ⟨cT_102, List.forall_mem_cons.mpr ⟨cT_103, List.forall_mem_cons.mpr ⟨cT_104, List.forall_mem_cons.mpr ⟨cT_105, List.forall_mem_cons.mpr ⟨cT_106, List.forall_mem_cons.mpr ⟨cT_107, List.forall_mem_cons.mpr ⟨cT_108, List.forall_mem_cons.mpr ⟨cT_109, List.forall_mem_cons.mpr ⟨cT_110, List.forall_mem_cons.mpr ⟨cT_111, List.forall_mem_cons.mpr ⟨cT_112, List.forall_mem_cons.mpr ⟨cT_113, List.forall_mem_cons.mpr ⟨cT_114, List.forall_mem_cons.mpr ⟨cT_115, List.forall_mem_cons.mpr ⟨cT_116, List.forall_mem_cons.mpr ⟨cT_117, List.forall_mem_cons.mpr ⟨cT_118, List.forall_mem_cons.mpr ⟨cT_119, List.forall_mem_cons.mpr ⟨cT_120, List.forall_mem_cons.mpr ⟨cT_121, List.forall_mem_cons.mpr ⟨cT_122, List.forall_mem_cons.mpr ⟨cT_123, List.forall_mem_cons.mpr ⟨cT_124, List.forall_mem_cons.mpr ⟨cT_125, List.forall_mem_cons.mpr ⟨cT_126, List.forall_mem_cons.mpr ⟨cT_127, List.forall_mem_cons.mpr ⟨cT_128, List.forall_mem_cons.mpr ⟨cT_129, List.forall_mem_cons.mpr ⟨cT_130, List.forall_mem_cons.mpr ⟨cT_131, List.forall_mem_cons.mpr ⟨cT_132, List.forall_mem_cons.mpr ⟨cT_133, List.forall_mem_cons.mpr ⟨cT_134, List.forall_mem_cons.mpr ⟨cT_135, List.forall_mem_cons.mpr ⟨cT_136, List.forall_mem_cons.mpr ⟨cT_137, List.forall_mem_cons.mpr ⟨cT_138, List.forall_mem_cons.mpr ⟨cT_139, List.forall_mem_cons.mpr ⟨cT_140, List.forall_mem_cons.mpr ⟨cT_141, List.forall_mem_cons.mpr ⟨cT_142, List.forall_mem_cons.mpr ⟨cT_143, List.forall_mem_cons.mpr ⟨cT_144, List.forall_mem_cons.mpr ⟨cT_145, List.forall_mem_cons.mpr ⟨cT_146, List.forall_mem_cons.mpr ⟨cT_147, List.forall_mem_cons.mpr ⟨cT_148, List.forall_mem_cons.mpr ⟨cT_149, List.forall_mem_cons.mpr ⟨cT_150, List.forall_mem_cons.mpr ⟨cT_151, List.forall_mem_cons.mpr ⟨cT_152, List.forall_mem_cons.mpr ⟨cT_153, List.forall_mem_cons.mpr ⟨cT_154, List.forall_mem_cons.mpr ⟨cT_155, List.forall_mem_cons.mpr ⟨cT_156, List.forall_mem_cons.mpr ⟨cT_157, List.forall_mem_cons.mpr ⟨cT_158, List.forall_mem_cons.mpr ⟨cT_159, List.forall_mem_cons.mpr ⟨cT_160, List.forall_mem_cons.mpr ⟨cT_161, List.forall_mem_cons.mpr ⟨cT_162, List.forall_mem_cons.mpr ⟨cT_163, List.forall_mem_cons.mpr ⟨cT_164, List.forall_mem_cons.mpr ⟨cT_165, List.forall_mem_cons.mpr ⟨cT_166, List.forall_mem_cons.mpr ⟨cT_167, List.forall_mem_cons.mpr ⟨cT_168, List.forall_mem_cons.mpr ⟨cT_169, List.forall_mem_cons.mpr ⟨cT_170, List.forall_mem_cons.mpr ⟨cT_171, List.forall_mem_cons.mpr ⟨cT_172, List.forall_mem_cons.mpr ⟨cT_173, List.forall_mem_cons.mpr ⟨cT_174, List.forall_mem_cons.mpr ⟨cT_175, List.forall_mem_cons.mpr ⟨cT_176, List.forall_mem_cons.mpr ⟨cT_177, List.forall_mem_cons.mpr ⟨cT_178, List.forall_mem_cons.mpr ⟨cT_179, List.forall_mem_cons.mpr ⟨cT_180, fun _ h => absurd h List.not_mem_nil⟩⟩⟩⟩⟩⟩⟩⟩⟩⟩⟩⟩⟩⟩⟩⟩⟩⟩⟩⟩⟩⟩⟩⟩⟩⟩⟩⟩⟩⟩⟩⟩⟩⟩⟩⟩⟩⟩⟩⟩⟩⟩⟩⟩⟩⟩⟩⟩⟩⟩⟩⟩⟩⟩⟩⟩⟩⟩⟩⟩⟩⟩⟩⟩⟩⟩⟩⟩⟩⟩⟩⟩⟩⟩⟩⟩⟩⟩⟩⟩⟩⟩⟩⟩⟩⟩⟩⟩⟩⟩⟩⟩⟩⟩⟩⟩⟩⟩⟩⟩⟩⟩⟩⟩⟩⟩⟩⟩⟩⟩⟩⟩⟩⟩⟩⟩⟩⟩⟩⟩⟩⟩⟩⟩⟩⟩⟩⟩⟩⟩⟩⟩⟩⟩⟩⟩⟩⟩⟩⟩⟩⟩⟩⟩⟩⟩⟩⟩⟩⟩⟩⟩⟩⟩⟩⟩⟩⟩⟩⟩⟩⟩⟩⟩⟩⟩⟩⟩⟩⟩⟩⟩⟩⟩⟩⟩⟩⟩⟩⟩⟩
