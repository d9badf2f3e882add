/-! what is known of every method and of every call -/
theorem me_J7_fill_53178 : rMeth 1 := fun o rk hh nL ini h => by
  cases (show mI[1]? = some _ from rfl).symm.trans h
  exact ⟨yJ7_fill_53178, cJ7_fill_53178, _, _, rfl, rfl, by decide +kernel, ⟨by decide +kernel, by decide +kernel⟩, mA 183 (by decide +kernel), mA 44 (by decide +kernel), rfl, fun h => (by first | rfl | cases h), trivial, kd_J7_fill_53178, by decide⟩
theorem me_Jx35411_hasNext_aae02 : rMeth 2 := fun o rk hh nL ini h => by
  cases (show mI[2]? = some _ from rfl).symm.trans h
  exact ⟨yJx35411_hasNext_aae02, cJx35411_hasNext_aae02, _, _, rfl, rfl, by decide +kernel, ⟨by decide +kernel, by decide +kernel⟩, mA 669 (by decide +kernel), mA 46 (by decide +kernel), rfl, fun h => (by first | rfl | cases h), trivial, kd_Jx35411_hasNext_aae02, by decide⟩
theorem me_Jx35411_init_45d68 : rMeth 3 := fun o rk hh nL ini h => by
  cases (show mI[3]? = some _ from rfl).symm.trans h
  exact ⟨yJx35411_init_45d68, cJx35411_init_45d68, _, _, rfl, rfl, by decide +kernel, ⟨by decide +kernel, by decide +kernel⟩, mA 651 (by decide +kernel), mA 46 (by decide +kernel), rfl, fun h => (by first | rfl | cases h), trivial, kd_Jx35411_init_45d68, by decide⟩
theorem me_Jx4a65c_add_72be8 : rMeth 4 := fun o rk hh nL ini h => by
  cases (show mI[4]? = some _ from rfl).symm.trans h
  exact ⟨yJx4a65c_add_72be8, cJx4a65c_add_72be8, _, _, rfl, rfl, by decide +kernel, ⟨by decide +kernel, by decide +kernel⟩, mA 246 (by decide +kernel), mA 35 (by decide +kernel), rfl, fun h => (by first | rfl | cases h), trivial, kd_Jx4a65c_add_72be8, by decide⟩
theorem me_Jx4a65c_add_9ea2d : rMeth 5 := fun o rk hh nL ini h => by
  cases (show mI[5]? = some _ from rfl).symm.trans h
  exact ⟨yJx4a65c_add_9ea2d, cJx4a65c_add_9ea2d, _, _, rfl, rfl, by decide +kernel, ⟨by decide +kernel, by decide +kernel⟩, mA 243 (by decide +kernel), mA 35 (by decide +kernel), rfl, fun h => (by first | rfl | cases h), trivial, kd_Jx4a65c_add_9ea2d, by decide⟩
theorem me_Jx4a65c_clear_da8c8 : rMeth 6 := fun o rk hh nL ini h => by
  cases (show mI[6]? = some _ from rfl).symm.trans h
  exact ⟨yJx4a65c_clear_da8c8, cJx4a65c_clear_da8c8, _, _, rfl, rfl, by decide +kernel, ⟨by decide +kernel, by decide +kernel⟩, mA 332 (by decide +kernel), mA 35 (by decide +kernel), rfl, fun h => (by first | rfl | cases h), trivial, kd_Jx4a65c_clear_da8c8, by decide⟩
theorem me_Jx4a65c_grow_92f84 : rMeth 7 := fun o rk hh nL ini h => by
  cases (show mI[7]? = some _ from rfl).symm.trans h
  exact ⟨yJx4a65c_grow_92f84, cJx4a65c_grow_92f84, _, _, rfl, rfl, by decide +kernel, ⟨by decide +kernel, by decide +kernel⟩, mA 252 (by decide +kernel), mA 35 (by decide +kernel), ⟨_, rfl, (by first | exact Or.inl ⟨_, rfl⟩ | exact Or.inr ⟨_, rfl⟩)⟩, fun h => (by first | rfl | cases h), trivial, kd_Jx4a65c_grow_92f84, by decide⟩
theorem me_Jx4a65c_grow_d5877 : rMeth 8 := fun o rk hh nL ini h => by
  cases (show mI[8]? = some _ from rfl).symm.trans h
  exact ⟨yJx4a65c_grow_d5877, cJx4a65c_grow_d5877, _, _, rfl, rfl, by decide +kernel, ⟨by decide +kernel, by decide +kernel⟩, mA 249 (by decide +kernel), mA 35 (by decide +kernel), ⟨_, rfl, (by first | exact Or.inl ⟨_, rfl⟩ | exact Or.inr ⟨_, rfl⟩)⟩, fun h => (by first | rfl | cases h), trivial, kd_Jx4a65c_grow_d5877, by decide⟩
theorem me_Jx4a65c_init_da8c8 : rMeth 9 := fun o rk hh nL ini h => by
  cases (show mI[9]? = some _ from rfl).symm.trans h
  exact ⟨yJx4a65c_init_da8c8, cJx4a65c_init_da8c8, _, _, rfl, rfl, by decide +kernel, ⟨by decide +kernel, by decide +kernel⟩, mA 64 (by decide +kernel), mA 35 (by decide +kernel), rfl, fun h => (by first | rfl | cases h), trivial, kd_Jx4a65c_init_da8c8, by decide⟩
theorem me_Jx4a65c_isEmpty_aae02 : rMeth 10 := fun o rk hh nL ini h => by
  cases (show mI[10]? = some _ from rfl).symm.trans h
  exact ⟨yJx4a65c_isEmpty_aae02, cJx4a65c_isEmpty_aae02, _, _, rfl, rfl, by decide +kernel, ⟨by decide +kernel, by decide +kernel⟩, mA 560 (by decide +kernel), mA 35 (by decide +kernel), rfl, fun h => (by first | rfl | cases h), trivial, kd_Jx4a65c_isEmpty_aae02, by decide⟩
theorem me_Jx4a65c_iterator_32c93 : rMeth 11 := fun o rk hh nL ini h => by
  cases (show mI[11]? = some _ from rfl).symm.trans h
  exact ⟨yJx4a65c_iterator_32c93, cJx4a65c_iterator_32c93, _, _, rfl, rfl, by decide +kernel, ⟨by decide +kernel, by decide +kernel⟩, mA 646 (by decide +kernel), mA 35 (by decide +kernel), ⟨_, rfl, (by first | exact Or.inl ⟨_, rfl⟩ | exact Or.inr ⟨_, rfl⟩)⟩, fun h => (by first | rfl | cases h), trivial, kd_Jx4a65c_iterator_32c93, by decide⟩
theorem me_Jx4a65c_size_8abf5 : rMeth 12 := fun o rk hh nL ini h => by
  cases (show mI[12]? = some _ from rfl).symm.trans h
  exact ⟨yJx4a65c_size_8abf5, cJx4a65c_size_8abf5, _, _, rfl, rfl, by decide +kernel, ⟨by decide +kernel, by decide +kernel⟩, mA 164 (by decide +kernel), mA 35 (by decide +kernel), rfl, fun h => (by first | rfl | cases h), trivial, kd_Jx4a65c_size_8abf5, by decide⟩
theorem me_Jxa1e45_init_da8c8 : rMeth 13 := fun o rk hh nL ini h => by
  cases (show mI[13]? = some _ from rfl).symm.trans h
  exact ⟨yJxa1e45_init_da8c8, cJxa1e45_init_da8c8, _, _, rfl, rfl, by decide +kernel, ⟨by decide +kernel, by decide +kernel⟩, mA 70 (by decide +kernel), mA 33 (by decide +kernel), rfl, fun h => (by first | rfl | cases h), trivial, kd_Jxa1e45_init_da8c8, by decide⟩
theorem me_Jxc12de_init_da8c8 : rMeth 14 := fun o rk hh nL ini h => by
  cases (show mI[14]? = some _ from rfl).symm.trans h
  exact ⟨yJxc12de_init_da8c8, cJxc12de_init_da8c8, _, _, rfl, rfl, by decide +kernel, ⟨by decide +kernel, by decide +kernel⟩, mA 67 (by decide +kernel), mA 34 (by decide +kernel), rfl, fun h => (by first | rfl | cases h), trivial, kd_Jxc12de_init_da8c8, by decide⟩
theorem me_L_abandon : rMeth 15 := fun o rk hh nL ini h => by
  cases (show mI[15]? = some _ from rfl).symm.trans h
  exact ⟨yL_abandon, cL_abandon, _, _, rfl, rfl, by decide +kernel, ⟨by decide +kernel, by decide +kernel⟩, mA 434 (by decide +kernel), mA 31 (by decide +kernel), rfl, fun h => (by first | rfl | cases h), ⟨⟨rfl, rfl, rfl, by decide, "java/lang/IllegalStateException", rfl, mA 196 (by decide +kernel), mA 213 (by decide +kernel)⟩, trivial⟩, kd_L_abandon, by decide⟩
theorem me_L_addClub : rMeth 16 := fun o rk hh nL ini h => by
  cases (show mI[16]? = some _ from rfl).symm.trans h
  exact ⟨yL_addClub, cL_addClub, _, _, rfl, rfl, by decide +kernel, ⟨by decide +kernel, by decide +kernel⟩, mA 194 (by decide +kernel), mA 31 (by decide +kernel), rfl, fun h => (by first | rfl | cases h), ⟨⟨rfl, rfl, rfl, by decide, "java/lang/IllegalArgumentException", rfl, mA 195 (by decide +kernel), mA 208 (by decide +kernel)⟩, ⟨⟨rfl, rfl, rfl, by decide, "java/lang/IllegalStateException", rfl, mA 196 (by decide +kernel), mA 213 (by decide +kernel)⟩, trivial⟩⟩, kd_L_addClub, by decide⟩
theorem me_L_addPlayer : rMeth 17 := fun o rk hh nL ini h => by
  cases (show mI[17]? = some _ from rfl).symm.trans h
  exact ⟨yL_addPlayer, cL_addPlayer, _, _, rfl, rfl, by decide +kernel, ⟨by decide +kernel, by decide +kernel⟩, mA 258 (by decide +kernel), mA 31 (by decide +kernel), rfl, fun h => (by first | rfl | cases h), ⟨⟨rfl, rfl, rfl, by decide, "java/lang/IndexOutOfBoundsException", rfl, mA 259 (by decide +kernel), mA 268 (by decide +kernel)⟩, ⟨⟨rfl, rfl, rfl, by decide, "java/lang/IllegalStateException", rfl, mA 196 (by decide +kernel), mA 213 (by decide +kernel)⟩, trivial⟩⟩, kd_L_addPlayer, by decide⟩
theorem me_L_appeal : rMeth 18 := fun o rk hh nL ini h => by
  cases (show mI[18]? = some _ from rfl).symm.trans h
  exact ⟨yL_appeal, cL_appeal, _, _, rfl, rfl, by decide +kernel, ⟨by decide +kernel, by decide +kernel⟩, mA 441 (by decide +kernel), mA 31 (by decide +kernel), rfl, fun h => (by first | rfl | cases h), ⟨⟨rfl, rfl, rfl, by decide, "java/lang/IndexOutOfBoundsException", rfl, mA 259 (by decide +kernel), mA 268 (by decide +kernel)⟩, trivial⟩, kd_L_appeal, by decide⟩
theorem me_L_ban : rMeth 19 := fun o rk hh nL ini h => by
  cases (show mI[19]? = some _ from rfl).symm.trans h
  exact ⟨yL_ban, cL_ban, _, _, rfl, rfl, by decide +kernel, ⟨by decide +kernel, by decide +kernel⟩, mA 459 (by decide +kernel), mA 31 (by decide +kernel), rfl, fun h => (by first | rfl | cases h), ⟨⟨rfl, rfl, rfl, by decide, "java/lang/IndexOutOfBoundsException", rfl, mA 259 (by decide +kernel), mA 268 (by decide +kernel)⟩, trivial⟩, kd_L_ban, by decide⟩
theorem me_L_callBack : rMeth 20 := fun o rk hh nL ini h => by
  cases (show mI[20]? = some _ from rfl).symm.trans h
  exact ⟨yL_callBack, cL_callBack, _, _, rfl, rfl, by decide +kernel, ⟨by decide +kernel, by decide +kernel⟩, mA 307 (by decide +kernel), mA 31 (by decide +kernel), rfl, fun h => (by first | rfl | cases h), ⟨⟨rfl, rfl, rfl, by decide, "java/lang/IndexOutOfBoundsException", rfl, mA 259 (by decide +kernel), mA 268 (by decide +kernel)⟩, ⟨⟨rfl, rfl, rfl, by decide, "java/lang/UnsupportedOperationException", rfl, mA 289 (by decide +kernel), mA 297 (by decide +kernel)⟩, trivial⟩⟩, kd_L_callBack, by decide⟩
theorem me_L_card : rMeth 21 := fun o rk hh nL ini h => by
  cases (show mI[21]? = some _ from rfl).symm.trans h
  exact ⟨yL_card, cL_card, _, _, rfl, rfl, by decide +kernel, ⟨by decide +kernel, by decide +kernel⟩, mA 413 (by decide +kernel), mA 31 (by decide +kernel), rfl, fun h => (by first | rfl | cases h), ⟨⟨rfl, rfl, rfl, by decide, "java/lang/IndexOutOfBoundsException", rfl, mA 259 (by decide +kernel), mA 268 (by decide +kernel)⟩, ⟨⟨rfl, rfl, rfl, by decide, "java/lang/IllegalStateException", rfl, mA 196 (by decide +kernel), mA 213 (by decide +kernel)⟩, ⟨⟨rfl, rfl, rfl, by decide, "java/lang/UnsupportedOperationException", rfl, mA 289 (by decide +kernel), mA 297 (by decide +kernel)⟩, trivial⟩⟩⟩, kd_L_card, by decide⟩
theorem me_L_change : rMeth 22 := fun o rk hh nL ini h => by
  cases (show mI[22]? = some _ from rfl).symm.trans h
  exact ⟨yL_change, cL_change, _, _, rfl, rfl, by decide +kernel, ⟨by decide +kernel, by decide +kernel⟩, mA 420 (by decide +kernel), mA 31 (by decide +kernel), rfl, fun h => (by first | rfl | cases h), ⟨⟨rfl, rfl, rfl, by decide, "java/lang/IndexOutOfBoundsException", rfl, mA 259 (by decide +kernel), mA 268 (by decide +kernel)⟩, ⟨⟨rfl, rfl, rfl, by decide, "java/lang/IllegalStateException", rfl, mA 196 (by decide +kernel), mA 213 (by decide +kernel)⟩, ⟨⟨rfl, rfl, rfl, by decide, "java/lang/UnsupportedOperationException", rfl, mA 289 (by decide +kernel), mA 297 (by decide +kernel)⟩, trivial⟩⟩⟩, kd_L_change, by decide⟩
theorem me_L_clubAt : rMeth 23 := fun o rk hh nL ini h => by
  cases (show mI[23]? = some _ from rfl).symm.trans h
  exact ⟨yL_clubAt, cL_clubAt, _, _, rfl, rfl, by decide +kernel, ⟨by decide +kernel, by decide +kernel⟩, mA 501 (by decide +kernel), mA 31 (by decide +kernel), rfl, fun h => (by first | rfl | cases h), ⟨⟨rfl, rfl, rfl, by decide, "java/lang/IllegalArgumentException", rfl, mA 195 (by decide +kernel), mA 208 (by decide +kernel)⟩, ⟨⟨rfl, rfl, rfl, by decide, "java/lang/IndexOutOfBoundsException", rfl, mA 259 (by decide +kernel), mA 268 (by decide +kernel)⟩, trivial⟩⟩, kd_L_clubAt, by decide⟩
theorem me_L_divisionOf : rMeth 24 := fun o rk hh nL ini h => by
  cases (show mI[24]? = some _ from rfl).symm.trans h
  exact ⟨yL_divisionOf, cL_divisionOf, _, _, rfl, rfl, by decide +kernel, ⟨by decide +kernel, by decide +kernel⟩, mA 533 (by decide +kernel), mA 31 (by decide +kernel), rfl, fun h => (by first | rfl | cases h), ⟨⟨rfl, rfl, rfl, by decide, "java/lang/IndexOutOfBoundsException", rfl, mA 259 (by decide +kernel), mA 268 (by decide +kernel)⟩, trivial⟩, kd_L_divisionOf, by decide⟩
theorem me_L_end : rMeth 25 := fun o rk hh nL ini h => by
  cases (show mI[25]? = some _ from rfl).symm.trans h
  exact ⟨yL_end, cL_end, _, _, rfl, rfl, by decide +kernel, ⟨by decide +kernel, by decide +kernel⟩, mA 427 (by decide +kernel), mA 31 (by decide +kernel), rfl, fun h => (by first | rfl | cases h), ⟨⟨rfl, rfl, rfl, by decide, "java/lang/IllegalStateException", rfl, mA 196 (by decide +kernel), mA 213 (by decide +kernel)⟩, trivial⟩, kd_L_end, by decide⟩
theorem me_L_endSeason : rMeth 26 := fun o rk hh nL ini h => by
  cases (show mI[26]? = some _ from rfl).symm.trans h
  exact ⟨yL_endSeason, cL_endSeason, _, _, rfl, rfl, by decide +kernel, ⟨by decide +kernel, by decide +kernel⟩, mA 547 (by decide +kernel), mA 31 (by decide +kernel), rfl, fun h => (by first | rfl | cases h), ⟨⟨rfl, rfl, rfl, by decide, "java/lang/IllegalStateException", rfl, mA 196 (by decide +kernel), mA 213 (by decide +kernel)⟩, trivial⟩, kd_L_endSeason, by decide⟩
theorem me_L_fixture : rMeth 27 := fun o rk hh nL ini h => by
  cases (show mI[27]? = some _ from rfl).symm.trans h
  exact ⟨yL_fixture, cL_fixture, _, _, rfl, rfl, by decide +kernel, ⟨by decide +kernel, by decide +kernel⟩, mA 346 (by decide +kernel), mA 31 (by decide +kernel), rfl, fun h => (by first | rfl | cases h), ⟨⟨rfl, rfl, rfl, by decide, "java/lang/IndexOutOfBoundsException", rfl, mA 259 (by decide +kernel), mA 268 (by decide +kernel)⟩, ⟨⟨rfl, rfl, rfl, by decide, "java/lang/IllegalArgumentException", rfl, mA 195 (by decide +kernel), mA 208 (by decide +kernel)⟩, trivial⟩⟩, kd_L_fixture, by decide⟩
theorem me_L_goOn : rMeth 28 := fun o rk hh nL ini h => by
  cases (show mI[28]? = some _ from rfl).symm.trans h
  exact ⟨yL_goOn, cL_goOn, _, _, rfl, rfl, by decide +kernel, ⟨by decide +kernel, by decide +kernel⟩, mA 281 (by decide +kernel), mA 31 (by decide +kernel), rfl, fun h => (by first | rfl | cases h), ⟨⟨rfl, rfl, rfl, by decide, "java/lang/IllegalArgumentException", rfl, mA 195 (by decide +kernel), mA 208 (by decide +kernel)⟩, ⟨⟨rfl, rfl, rfl, by decide, "java/lang/IllegalStateException", rfl, mA 196 (by decide +kernel), mA 213 (by decide +kernel)⟩, trivial⟩⟩, kd_L_goOn, by decide⟩
theorem me_L_goal : rMeth 29 := fun o rk hh nL ini h => by
  cases (show mI[29]? = some _ from rfl).symm.trans h
  exact ⟨yL_goal, cL_goal, _, _, rfl, rfl, by decide +kernel, ⟨by decide +kernel, by decide +kernel⟩, mA 403 (by decide +kernel), mA 31 (by decide +kernel), rfl, fun h => (by first | rfl | cases h), ⟨⟨rfl, rfl, rfl, by decide, "java/lang/IndexOutOfBoundsException", rfl, mA 259 (by decide +kernel), mA 268 (by decide +kernel)⟩, ⟨⟨rfl, rfl, rfl, by decide, "java/lang/IllegalStateException", rfl, mA 196 (by decide +kernel), mA 213 (by decide +kernel)⟩, ⟨⟨rfl, rfl, rfl, by decide, "java/lang/UnsupportedOperationException", rfl, mA 289 (by decide +kernel), mA 297 (by decide +kernel)⟩, trivial⟩⟩⟩, kd_L_goal, by decide⟩
theorem me_L_isGuilty : rMeth 30 := fun o rk hh nL ini h => by
  cases (show mI[30]? = some _ from rfl).symm.trans h
  exact ⟨yL_isGuilty, cL_isGuilty, _, _, rfl, rfl, by decide +kernel, ⟨by decide +kernel, by decide +kernel⟩, mA 473 (by decide +kernel), mA 31 (by decide +kernel), rfl, fun h => (by first | rfl | cases h), ⟨⟨rfl, rfl, rfl, by decide, "java/lang/IndexOutOfBoundsException", rfl, mA 259 (by decide +kernel), mA 268 (by decide +kernel)⟩, ⟨⟨rfl, rfl, rfl, by decide, "java/lang/UnsupportedOperationException", rfl, mA 289 (by decide +kernel), mA 297 (by decide +kernel)⟩, trivial⟩⟩, kd_L_isGuilty, by decide⟩
theorem me_L_kickOff : rMeth 31 := fun o rk hh nL ini h => by
  cases (show mI[31]? = some _ from rfl).symm.trans h
  exact ⟨yL_kickOff, cL_kickOff, _, _, rfl, rfl, by decide +kernel, ⟨by decide +kernel, by decide +kernel⟩, mA 370 (by decide +kernel), mA 31 (by decide +kernel), rfl, fun h => (by first | rfl | cases h), ⟨⟨rfl, rfl, rfl, by decide, "java/lang/IndexOutOfBoundsException", rfl, mA 259 (by decide +kernel), mA 268 (by decide +kernel)⟩, ⟨⟨rfl, rfl, rfl, by decide, "java/lang/UnsupportedOperationException", rfl, mA 289 (by decide +kernel), mA 297 (by decide +kernel)⟩, ⟨⟨rfl, rfl, rfl, by decide, "java/lang/IllegalStateException", rfl, mA 196 (by decide +kernel), mA 213 (by decide +kernel)⟩, trivial⟩⟩⟩, kd_L_kickOff, by decide⟩
theorem me_L_lend : rMeth 32 := fun o rk hh nL ini h => by
  cases (show mI[32]? = some _ from rfl).symm.trans h
  exact ⟨yL_lend, cL_lend, _, _, rfl, rfl, by decide +kernel, ⟨by decide +kernel, by decide +kernel⟩, mA 300 (by decide +kernel), mA 31 (by decide +kernel), rfl, fun h => (by first | rfl | cases h), ⟨⟨rfl, rfl, rfl, by decide, "java/lang/IndexOutOfBoundsException", rfl, mA 259 (by decide +kernel), mA 268 (by decide +kernel)⟩, ⟨⟨rfl, rfl, rfl, by decide, "java/lang/IllegalArgumentException", rfl, mA 195 (by decide +kernel), mA 208 (by decide +kernel)⟩, ⟨⟨rfl, rfl, rfl, by decide, "java/lang/UnsupportedOperationException", rfl, mA 289 (by decide +kernel), mA 297 (by decide +kernel)⟩, trivial⟩⟩⟩, kd_L_lend, by decide⟩
theorem me_L_meanGoals : rMeth 33 := fun o rk hh nL ini h => by
  cases (show mI[33]? = some _ from rfl).symm.trans h
  exact ⟨yL_meanGoals, cL_meanGoals, _, _, rfl, rfl, by decide +kernel, ⟨by decide +kernel, by decide +kernel⟩, mA 580 (by decide +kernel), mA 31 (by decide +kernel), rfl, fun h => (by first | rfl | cases h), ⟨⟨rfl, rfl, rfl, by decide, "java/lang/ArithmeticException", rfl, mA 568 (by decide +kernel), mA 569 (by decide +kernel)⟩, trivial⟩, kd_L_meanGoals, by decide⟩
theorem me_L_name : rMeth 34 := fun o rk hh nL ini h => by
  cases (show mI[34]? = some _ from rfl).symm.trans h
  exact ⟨yL_name, cL_name, _, _, rfl, rfl, by decide +kernel, ⟨by decide +kernel, by decide +kernel⟩, mA 360 (by decide +kernel), mA 31 (by decide +kernel), rfl, fun h => (by first | rfl | cases h), ⟨⟨rfl, rfl, rfl, by decide, "java/lang/IndexOutOfBoundsException", rfl, mA 259 (by decide +kernel), mA 268 (by decide +kernel)⟩, ⟨⟨rfl, rfl, rfl, by decide, "java/lang/UnsupportedOperationException", rfl, mA 289 (by decide +kernel), mA 297 (by decide +kernel)⟩, ⟨⟨rfl, rfl, rfl, by decide, "java/lang/IllegalArgumentException", rfl, mA 195 (by decide +kernel), mA 208 (by decide +kernel)⟩, ⟨⟨rfl, rfl, rfl, by decide, "java/lang/IllegalStateException", rfl, mA 196 (by decide +kernel), mA 213 (by decide +kernel)⟩, trivial⟩⟩⟩⟩, kd_L_name, by decide⟩
theorem me_L_overShare : rMeth 35 := fun o rk hh nL ini h => by
  cases (show mI[35]? = some _ from rfl).symm.trans h
  exact ⟨yL_overShare, cL_overShare, _, _, rfl, rfl, by decide +kernel, ⟨by decide +kernel, by decide +kernel⟩, mA 567 (by decide +kernel), mA 31 (by decide +kernel), rfl, fun h => (by first | rfl | cases h), ⟨⟨rfl, rfl, rfl, by decide, "java/lang/ArithmeticException", rfl, mA 568 (by decide +kernel), mA 569 (by decide +kernel)⟩, trivial⟩, kd_L_overShare, by decide⟩
theorem me_L_plan : rMeth 36 := fun o rk hh nL ini h => by
  cases (show mI[36]? = some _ from rfl).symm.trans h
  exact ⟨yL_plan, cL_plan, _, _, rfl, rfl, by decide +kernel, ⟨by decide +kernel, by decide +kernel⟩, mA 321 (by decide +kernel), mA 31 (by decide +kernel), rfl, fun h => (by first | rfl | cases h), ⟨⟨rfl, rfl, rfl, by decide, "java/lang/IllegalArgumentException", rfl, mA 195 (by decide +kernel), mA 208 (by decide +kernel)⟩, ⟨⟨rfl, rfl, rfl, by decide, "java/lang/IllegalStateException", rfl, mA 196 (by decide +kernel), mA 213 (by decide +kernel)⟩, ⟨⟨rfl, rfl, rfl, by decide, "java/util/NoSuchElementException", rfl, mA 322 (by decide +kernel), mA 333 (by decide +kernel)⟩, trivial⟩⟩⟩, kd_L_plan, by decide⟩
theorem me_L_points : rMeth 37 := fun o rk hh nL ini h => by
  cases (show mI[37]? = some _ from rfl).symm.trans h
  exact ⟨yL_points, cL_points, _, _, rfl, rfl, by decide +kernel, ⟨by decide +kernel, by decide +kernel⟩, mA 526 (by decide +kernel), mA 31 (by decide +kernel), rfl, fun h => (by first | rfl | cases h), ⟨⟨rfl, rfl, rfl, by decide, "java/lang/IndexOutOfBoundsException", rfl, mA 259 (by decide +kernel), mA 268 (by decide +kernel)⟩, trivial⟩, kd_L_points, by decide⟩
theorem me_L_putOff : rMeth 38 := fun o rk hh nL ini h => by
  cases (show mI[38]? = some _ from rfl).symm.trans h
  exact ⟨yL_putOff, cL_putOff, _, _, rfl, rfl, by decide +kernel, ⟨by decide +kernel, by decide +kernel⟩, mA 336 (by decide +kernel), mA 31 (by decide +kernel), rfl, fun h => (by first | rfl | cases h), ⟨⟨rfl, rfl, rfl, by decide, "java/lang/IndexOutOfBoundsException", rfl, mA 259 (by decide +kernel), mA 268 (by decide +kernel)⟩, ⟨⟨rfl, rfl, rfl, by decide, "java/lang/IllegalArgumentException", rfl, mA 195 (by decide +kernel), mA 208 (by decide +kernel)⟩, ⟨⟨rfl, rfl, rfl, by decide, "java/lang/UnsupportedOperationException", rfl, mA 289 (by decide +kernel), mA 297 (by decide +kernel)⟩, trivial⟩⟩⟩, kd_L_putOff, by decide⟩
theorem me_L_registered : rMeth 39 := fun o rk hh nL ini h => by
  cases (show mI[39]? = some _ from rfl).symm.trans h
  exact ⟨yL_registered, cL_registered, _, _, rfl, rfl, by decide +kernel, ⟨by decide +kernel, by decide +kernel⟩, mA 540 (by decide +kernel), mA 31 (by decide +kernel), rfl, fun h => (by first | rfl | cases h), ⟨⟨rfl, rfl, rfl, by decide, "java/lang/IndexOutOfBoundsException", rfl, mA 259 (by decide +kernel), mA 268 (by decide +kernel)⟩, trivial⟩, kd_L_registered, by decide⟩
theorem me_L_resultOf : rMeth 40 := fun o rk hh nL ini h => by
  cases (show mI[40]? = some _ from rfl).symm.trans h
  exact ⟨yL_resultOf, cL_resultOf, _, _, rfl, rfl, by decide +kernel, ⟨by decide +kernel, by decide +kernel⟩, mA 480 (by decide +kernel), mA 31 (by decide +kernel), rfl, fun h => (by first | rfl | cases h), ⟨⟨rfl, rfl, rfl, by decide, "java/lang/IndexOutOfBoundsException", rfl, mA 259 (by decide +kernel), mA 268 (by decide +kernel)⟩, ⟨⟨rfl, rfl, rfl, by decide, "java/lang/UnsupportedOperationException", rfl, mA 289 (by decide +kernel), mA 297 (by decide +kernel)⟩, trivial⟩⟩, kd_L_resultOf, by decide⟩
theorem me_L_sell : rMeth 41 := fun o rk hh nL ini h => by
  cases (show mI[41]? = some _ from rfl).symm.trans h
  exact ⟨yL_sell, cL_sell, _, _, rfl, rfl, by decide +kernel, ⟨by decide +kernel, by decide +kernel⟩, mA 288 (by decide +kernel), mA 31 (by decide +kernel), rfl, fun h => (by first | rfl | cases h), ⟨⟨rfl, rfl, rfl, by decide, "java/lang/IndexOutOfBoundsException", rfl, mA 259 (by decide +kernel), mA 268 (by decide +kernel)⟩, ⟨⟨rfl, rfl, rfl, by decide, "java/lang/IllegalArgumentException", rfl, mA 195 (by decide +kernel), mA 208 (by decide +kernel)⟩, ⟨⟨rfl, rfl, rfl, by decide, "java/lang/UnsupportedOperationException", rfl, mA 289 (by decide +kernel), mA 297 (by decide +kernel)⟩, trivial⟩⟩⟩, kd_L_sell, by decide⟩
theorem me_L_setDerby : rMeth 42 := fun o rk hh nL ini h => by
  cases (show mI[42]? = some _ from rfl).symm.trans h
  exact ⟨yL_setDerby, cL_setDerby, _, _, rfl, rfl, by decide +kernel, ⟨by decide +kernel, by decide +kernel⟩, mA 314 (by decide +kernel), mA 31 (by decide +kernel), rfl, fun h => (by first | rfl | cases h), ⟨⟨rfl, rfl, rfl, by decide, "java/lang/IndexOutOfBoundsException", rfl, mA 259 (by decide +kernel), mA 268 (by decide +kernel)⟩, ⟨⟨rfl, rfl, rfl, by decide, "java/lang/IllegalArgumentException", rfl, mA 195 (by decide +kernel), mA 208 (by decide +kernel)⟩, trivial⟩⟩, kd_L_setDerby, by decide⟩
theorem me_L_setWindow : rMeth 43 := fun o rk hh nL ini h => by
  cases (show mI[43]? = some _ from rfl).symm.trans h
  exact ⟨yL_setWindow, cL_setWindow, _, _, rfl, rfl, by decide +kernel, ⟨by decide +kernel, by decide +kernel⟩, mA 271 (by decide +kernel), mA 31 (by decide +kernel), rfl, fun h => (by first | rfl | cases h), ⟨⟨rfl, rfl, rfl, by decide, "java/lang/IllegalArgumentException", rfl, mA 195 (by decide +kernel), mA 208 (by decide +kernel)⟩, trivial⟩, kd_L_setWindow, by decide⟩
theorem me_L_stateOf : rMeth 44 := fun o rk hh nL ini h => by
  cases (show mI[44]? = some _ from rfl).symm.trans h
  exact ⟨yL_stateOf, cL_stateOf, _, _, rfl, rfl, by decide +kernel, ⟨by decide +kernel, by decide +kernel⟩, mA 353 (by decide +kernel), mA 31 (by decide +kernel), rfl, fun h => (by first | rfl | cases h), ⟨⟨rfl, rfl, rfl, by decide, "java/lang/IndexOutOfBoundsException", rfl, mA 259 (by decide +kernel), mA 268 (by decide +kernel)⟩, trivial⟩, kd_L_stateOf, by decide⟩
theorem me_L_strike : rMeth 45 := fun o rk hh nL ini h => by
  cases (show mI[45]? = some _ from rfl).symm.trans h
  exact ⟨yL_strike, cL_strike, _, _, rfl, rfl, by decide +kernel, ⟨by decide +kernel, by decide +kernel⟩, mA 494 (by decide +kernel), mA 31 (by decide +kernel), rfl, fun h => (by first | rfl | cases h), ⟨⟨rfl, rfl, rfl, by decide, "java/lang/IndexOutOfBoundsException", rfl, mA 259 (by decide +kernel), mA 268 (by decide +kernel)⟩, ⟨⟨rfl, rfl, rfl, by decide, "java/lang/IllegalStateException", rfl, mA 196 (by decide +kernel), mA 213 (by decide +kernel)⟩, trivial⟩⟩, kd_L_strike, by decide⟩
theorem me_L_takePoints : rMeth 46 := fun o rk hh nL ini h => by
  cases (show mI[46]? = some _ from rfl).symm.trans h
  exact ⟨yL_takePoints, cL_takePoints, _, _, rfl, rfl, by decide +kernel, ⟨by decide +kernel, by decide +kernel⟩, mA 487 (by decide +kernel), mA 31 (by decide +kernel), rfl, fun h => (by first | rfl | cases h), ⟨⟨rfl, rfl, rfl, by decide, "java/lang/IndexOutOfBoundsException", rfl, mA 259 (by decide +kernel), mA 268 (by decide +kernel)⟩, ⟨⟨rfl, rfl, rfl, by decide, "java/lang/IllegalArgumentException", rfl, mA 195 (by decide +kernel), mA 208 (by decide +kernel)⟩, trivial⟩⟩, kd_L_takePoints, by decide⟩
theorem me_L_wipe : rMeth 47 := fun o rk hh nL ini h => by
  cases (show mI[47]? = some _ from rfl).symm.trans h
  exact ⟨yL_wipe, cL_wipe, _, _, rfl, rfl, by decide +kernel, ⟨by decide +kernel, by decide +kernel⟩, mA 448 (by decide +kernel), mA 31 (by decide +kernel), rfl, fun h => (by first | rfl | cases h), ⟨⟨rfl, rfl, rfl, by decide, "java/lang/IllegalStateException", rfl, mA 196 (by decide +kernel), mA 213 (by decide +kernel)⟩, trivial⟩, kd_L_wipe, by decide⟩
theorem me_L_yellows : rMeth 48 := fun o rk hh nL ini h => by
  cases (show mI[48]? = some _ from rfl).symm.trans h
  exact ⟨yL_yellows, cL_yellows, _, _, rfl, rfl, by decide +kernel, ⟨by decide +kernel, by decide +kernel⟩, mA 466 (by decide +kernel), mA 31 (by decide +kernel), rfl, fun h => (by first | rfl | cases h), ⟨⟨rfl, rfl, rfl, by decide, "java/lang/IndexOutOfBoundsException", rfl, mA 259 (by decide +kernel), mA 268 (by decide +kernel)⟩, trivial⟩, kd_L_yellows, by decide⟩
theorem me_X0_count : rMeth 49 := fun o rk hh nL ini h => by
  cases (show mI[49]? = some _ from rfl).symm.trans h
  exact ⟨yX0_count, cX0_count, _, _, rfl, rfl, by decide +kernel, ⟨by decide +kernel, by decide +kernel⟩, mA 187 (by decide +kernel), mA 36 (by decide +kernel), rfl, fun h => (by first | rfl | cases h), trivial, kd_X0_count, by decide⟩
theorem me_X0_countAnew : rMeth 50 := fun o rk hh nL ini h => by
  cases (show mI[50]? = some _ from rfl).symm.trans h
  exact ⟨yX0_countAnew, cX0_countAnew, _, _, rfl, rfl, by decide +kernel, ⟨by decide +kernel, by decide +kernel⟩, mA 180 (by decide +kernel), mA 36 (by decide +kernel), rfl, fun h => (by first | rfl | cases h), trivial, kd_X0_countAnew, by decide⟩
theorem me_X0_init : rMeth 51 := fun o rk hh nL ini h => by
  cases (show mI[51]? = some _ from rfl).symm.trans h
  exact ⟨yX0_init, cX0_init, _, _, rfl, rfl, by decide +kernel, ⟨by decide +kernel, by decide +kernel⟩, mA 87 (by decide +kernel), mA 36 (by decide +kernel), rfl, fun h => (by first | rfl | cases h), trivial, kd_X0_init, by decide⟩
theorem me_X0_isFull : rMeth 52 := fun o rk hh nL ini h => by
  cases (show mI[52]? = some _ from rfl).symm.trans h
  exact ⟨yX0_isFull, cX0_isFull, _, _, rfl, rfl, by decide +kernel, ⟨by decide +kernel, by decide +kernel⟩, mA 378 (by decide +kernel), mA 36 (by decide +kernel), rfl, fun h => (by first | rfl | cases h), trivial, kd_X0_isFull, by decide⟩
theorem me_X0_isSameAnew : rMeth 53 := fun o rk hh nL ini h => by
  cases (show mI[53]? = some _ from rfl).symm.trans h
  exact ⟨yX0_isSameAnew, cX0_isSameAnew, _, _, rfl, rfl, by decide +kernel, ⟨by decide +kernel, by decide +kernel⟩, mA 173 (by decide +kernel), mA 36 (by decide +kernel), rfl, fun h => (by first | rfl | cases h), trivial, kd_X0_isSameAnew, by decide⟩
theorem me_X0_playersWithYellows : rMeth 54 := fun o rk hh nL ini h => by
  cases (show mI[54]? = some _ from rfl).symm.trans h
  exact ⟨yX0_playersWithYellows, cX0_playersWithYellows, _, _, rfl, rfl, by decide +kernel, ⟨by decide +kernel, by decide +kernel⟩, mA 456 (by decide +kernel), mA 36 (by decide +kernel), rfl, fun h => (by first | rfl | cases h), trivial, kd_X0_playersWithYellows, by decide⟩
theorem me_X0_write : rMeth 55 := fun o rk hh nL ini h => by
  cases (show mI[55]? = some _ from rfl).symm.trans h
  exact ⟨yX0_write, cX0_write, _, _, rfl, rfl, by decide +kernel, ⟨by decide +kernel, by decide +kernel⟩, mA 399 (by decide +kernel), mA 36 (by decide +kernel), rfl, fun h => (by first | rfl | cases h), trivial, kd_X0_write, by decide⟩
theorem me_X11_init : rMeth 56 := fun o rk hh nL ini h => by
  cases (show mI[56]? = some _ from rfl).symm.trans h
  exact ⟨yX11_init, cX11_init, _, _, rfl, rfl, by decide +kernel, ⟨by decide +kernel, by decide +kernel⟩, mA 680 (by decide +kernel), mA 47 (by decide +kernel), rfl, fun h => (by first | rfl | cases h), trivial, kd_X11_init, by decide⟩
theorem me_X12_init : rMeth 57 := fun o rk hh nL ini h => by
  cases (show mI[57]? = some _ from rfl).symm.trans h
  exact ⟨yX12_init, cX12_init, _, _, rfl, rfl, by decide +kernel, ⟨by decide +kernel, by decide +kernel⟩, mA 776 (by decide +kernel), mA 50 (by decide +kernel), rfl, fun h => (by first | rfl | cases h), trivial, kd_X12_init, by decide⟩
theorem me_X15_abandon : rMeth 58 := fun o rk hh nL ini h => by
  cases (show mI[58]? = some _ from rfl).symm.trans h
  exact ⟨yX15_abandon, cX15_abandon, _, _, rfl, rfl, by decide +kernel, ⟨by decide +kernel, by decide +kernel⟩, mA 812 (by decide +kernel), mA 39 (by decide +kernel), rfl, fun h => (by first | rfl | cases h), trivial, kd_X15_abandon, by decide⟩
theorem me_X15_addClub : rMeth 59 := fun o rk hh nL ini h => by
  cases (show mI[59]? = some _ from rfl).symm.trans h
  exact ⟨yX15_addClub, cX15_addClub, _, _, rfl, rfl, by decide +kernel, ⟨by decide +kernel, by decide +kernel⟩, mA 626 (by decide +kernel), mA 39 (by decide +kernel), rfl, fun h => (by first | rfl | cases h), trivial, kd_X15_addClub, by decide⟩
theorem me_X15_addPlayer : rMeth 60 := fun o rk hh nL ini h => by
  cases (show mI[60]? = some _ from rfl).symm.trans h
  exact ⟨yX15_addPlayer, cX15_addPlayer, _, _, rfl, rfl, by decide +kernel, ⟨by decide +kernel, by decide +kernel⟩, mA 703 (by decide +kernel), mA 39 (by decide +kernel), rfl, fun h => (by first | rfl | cases h), trivial, kd_X15_addPlayer, by decide⟩
theorem me_X15_appeal : rMeth 61 := fun o rk hh nL ini h => by
  cases (show mI[61]? = some _ from rfl).symm.trans h
  exact ⟨yX15_appeal, cX15_appeal, _, _, rfl, rfl, by decide +kernel, ⟨by decide +kernel, by decide +kernel⟩, mA 816 (by decide +kernel), mA 39 (by decide +kernel), rfl, fun h => (by first | rfl | cases h), trivial, kd_X15_appeal, by decide⟩
theorem me_X15_ban : rMeth 62 := fun o rk hh nL ini h => by
  cases (show mI[62]? = some _ from rfl).symm.trans h
  exact ⟨yX15_ban, cX15_ban, _, _, rfl, rfl, by decide +kernel, ⟨by decide +kernel, by decide +kernel⟩, mA 824 (by decide +kernel), mA 39 (by decide +kernel), rfl, fun h => (by first | rfl | cases h), trivial, kd_X15_ban, by decide⟩
theorem me_X15_callBack : rMeth 63 := fun o rk hh nL ini h => by
  cases (show mI[63]? = some _ from rfl).symm.trans h
  exact ⟨yX15_callBack, cX15_callBack, _, _, rfl, rfl, by decide +kernel, ⟨by decide +kernel, by decide +kernel⟩, mA 734 (by decide +kernel), mA 39 (by decide +kernel), rfl, fun h => (by first | rfl | cases h), trivial, kd_X15_callBack, by decide⟩
theorem me_X15_card : rMeth 64 := fun o rk hh nL ini h => by
  cases (show mI[64]? = some _ from rfl).symm.trans h
  exact ⟨yX15_card, cX15_card, _, _, rfl, rfl, by decide +kernel, ⟨by decide +kernel, by decide +kernel⟩, mA 800 (by decide +kernel), mA 39 (by decide +kernel), rfl, fun h => (by first | rfl | cases h), trivial, kd_X15_card, by decide⟩
theorem me_X15_change : rMeth 65 := fun o rk hh nL ini h => by
  cases (show mI[65]? = some _ from rfl).symm.trans h
  exact ⟨yX15_change, cX15_change, _, _, rfl, rfl, by decide +kernel, ⟨by decide +kernel, by decide +kernel⟩, mA 804 (by decide +kernel), mA 39 (by decide +kernel), rfl, fun h => (by first | rfl | cases h), trivial, kd_X15_change, by decide⟩
theorem me_X15_clubAt : rMeth 66 := fun o rk hh nL ini h => by
  cases (show mI[66]? = some _ from rfl).symm.trans h
  exact ⟨yX15_clubAt, cX15_clubAt, _, _, rfl, rfl, by decide +kernel, ⟨by decide +kernel, by decide +kernel⟩, mA 848 (by decide +kernel), mA 39 (by decide +kernel), rfl, fun h => (by first | rfl | cases h), trivial, kd_X15_clubAt, by decide⟩
theorem me_X15_clubsIn : rMeth 67 := fun o rk hh nL ini h => by
  cases (show mI[67]? = some _ from rfl).symm.trans h
  exact ⟨yX15_clubsIn, cX15_clubsIn, _, _, rfl, rfl, by decide +kernel, ⟨by decide +kernel, by decide +kernel⟩, mA 637 (by decide +kernel), mA 39 (by decide +kernel), rfl, fun h => (by first | rfl | cases h), trivial, kd_X15_clubsIn, by decide⟩
theorem me_X15_counting : rMeth 68 := fun o rk hh nL ini h => by
  cases (show mI[68]? = some _ from rfl).symm.trans h
  exact ⟨yX15_counting, cX15_counting, _, _, rfl, rfl, by decide +kernel, ⟨by decide +kernel, by decide +kernel⟩, mA 854 (by decide +kernel), mA 39 (by decide +kernel), ⟨_, rfl, (by first | exact Or.inl ⟨_, rfl⟩ | exact Or.inr ⟨_, rfl⟩)⟩, fun h => (by first | rfl | cases h), trivial, kd_X15_counting, by decide⟩
theorem me_X15_divisionOf : rMeth 69 := fun o rk hh nL ini h => by
  cases (show mI[69]? = some _ from rfl).symm.trans h
  exact ⟨yX15_divisionOf, cX15_divisionOf, _, _, rfl, rfl, by decide +kernel, ⟨by decide +kernel, by decide +kernel⟩, mA 868 (by decide +kernel), mA 39 (by decide +kernel), rfl, fun h => (by first | rfl | cases h), trivial, kd_X15_divisionOf, by decide⟩
theorem me_X15_end : rMeth 70 := fun o rk hh nL ini h => by
  cases (show mI[70]? = some _ from rfl).symm.trans h
  exact ⟨yX15_end, cX15_end, _, _, rfl, rfl, by decide +kernel, ⟨by decide +kernel, by decide +kernel⟩, mA 808 (by decide +kernel), mA 39 (by decide +kernel), rfl, fun h => (by first | rfl | cases h), trivial, kd_X15_end, by decide⟩
theorem me_X15_endSeason : rMeth 71 := fun o rk hh nL ini h => by
  cases (show mI[71]? = some _ from rfl).symm.trans h
  exact ⟨yX15_endSeason, cX15_endSeason, _, _, rfl, rfl, by decide +kernel, ⟨by decide +kernel, by decide +kernel⟩, mA 876 (by decide +kernel), mA 39 (by decide +kernel), rfl, fun h => (by first | rfl | cases h), trivial, kd_X15_endSeason, by decide⟩
theorem me_X15_fixture : rMeth 72 := fun o rk hh nL ini h => by
  cases (show mI[72]? = some _ from rfl).symm.trans h
  exact ⟨yX15_fixture, cX15_fixture, _, _, rfl, rfl, by decide +kernel, ⟨by decide +kernel, by decide +kernel⟩, mA 756 (by decide +kernel), mA 39 (by decide +kernel), rfl, fun h => (by first | rfl | cases h), trivial, kd_X15_fixture, by decide⟩
theorem me_X15_goOn : rMeth 73 := fun o rk hh nL ini h => by
  cases (show mI[73]? = some _ from rfl).symm.trans h
  exact ⟨yX15_goOn, cX15_goOn, _, _, rfl, rfl, by decide +kernel, ⟨by decide +kernel, by decide +kernel⟩, mA 718 (by decide +kernel), mA 39 (by decide +kernel), rfl, fun h => (by first | rfl | cases h), trivial, kd_X15_goOn, by decide⟩
theorem me_X15_goal : rMeth 74 := fun o rk hh nL ini h => by
  cases (show mI[74]? = some _ from rfl).symm.trans h
  exact ⟨yX15_goal, cX15_goal, _, _, rfl, rfl, by decide +kernel, ⟨by decide +kernel, by decide +kernel⟩, mA 793 (by decide +kernel), mA 39 (by decide +kernel), rfl, fun h => (by first | rfl | cases h), trivial, kd_X15_goal, by decide⟩
theorem me_X15_goesThrough : rMeth 75 := fun o rk hh nL ini h => by
  cases (show mI[75]? = some _ from rfl).symm.trans h
  exact ⟨yX15_goesThrough, cX15_goesThrough, _, _, rfl, rfl, by decide +kernel, ⟨by decide +kernel, by decide +kernel⟩, mA 771 (by decide +kernel), mA 39 (by decide +kernel), rfl, fun h => (by first | rfl | cases h), trivial, kd_X15_goesThrough, by decide⟩
theorem me_X15_hasFixtures : rMeth 76 := fun o rk hh nL ini h => by
  cases (show mI[76]? = some _ from rfl).symm.trans h
  exact ⟨yX15_hasFixtures, cX15_hasFixtures, _, _, rfl, rfl, by decide +kernel, ⟨by decide +kernel, by decide +kernel⟩, mA 745 (by decide +kernel), mA 39 (by decide +kernel), rfl, fun h => (by first | rfl | cases h), trivial, kd_X15_hasFixtures, by decide⟩
theorem me_X15_init : rMeth 77 := fun o rk hh nL ini h => by
  cases (show mI[77]? = some _ from rfl).symm.trans h
  exact ⟨yX15_init, cX15_init, _, _, rfl, rfl, by decide +kernel, ⟨by decide +kernel, by decide +kernel⟩, mA 589 (by decide +kernel), mA 39 (by decide +kernel), rfl, fun h => (by first | rfl | cases h), trivial, kd_X15_init, by decide⟩
theorem me_X15_isClub : rMeth 78 := fun o rk hh nL ini h => by
  cases (show mI[78]? = some _ from rfl).symm.trans h
  exact ⟨yX15_isClub, cX15_isClub, _, _, rfl, rfl, by decide +kernel, ⟨by decide +kernel, by decide +kernel⟩, mA 706 (by decide +kernel), mA 39 (by decide +kernel), rfl, fun h => (by first | rfl | cases h), trivial, kd_X15_isClub, by decide⟩
theorem me_X15_isGuilty : rMeth 79 := fun o rk hh nL ini h => by
  cases (show mI[79]? = some _ from rfl).symm.trans h
  exact ⟨yX15_isGuilty, cX15_isGuilty, _, _, rfl, rfl, by decide +kernel, ⟨by decide +kernel, by decide +kernel⟩, mA 832 (by decide +kernel), mA 39 (by decide +kernel), rfl, fun h => (by first | rfl | cases h), trivial, kd_X15_isGuilty, by decide⟩
theorem me_X15_isIn : rMeth 80 := fun o rk hh nL ini h => by
  cases (show mI[80]? = some _ from rfl).symm.trans h
  exact ⟨yX15_isIn, cX15_isIn, _, _, rfl, rfl, by decide +kernel, ⟨by decide +kernel, by decide +kernel⟩, mA 629 (by decide +kernel), mA 39 (by decide +kernel), rfl, fun h => (by first | rfl | cases h), trivial, kd_X15_isIn, by decide⟩
theorem me_X15_isOpen : rMeth 81 := fun o rk hh nL ini h => by
  cases (show mI[81]? = some _ from rfl).symm.trans h
  exact ⟨yX15_isOpen, cX15_isOpen, _, _, rfl, rfl, by decide +kernel, ⟨by decide +kernel, by decide +kernel⟩, mA 714 (by decide +kernel), mA 39 (by decide +kernel), rfl, fun h => (by first | rfl | cases h), trivial, kd_X15_isOpen, by decide⟩
theorem me_X15_isPlayer : rMeth 82 := fun o rk hh nL ini h => by
  cases (show mI[82]? = some _ from rfl).symm.trans h
  exact ⟨yX15_isPlayer, cX15_isPlayer, _, _, rfl, rfl, by decide +kernel, ⟨by decide +kernel, by decide +kernel⟩, mA 726 (by decide +kernel), mA 39 (by decide +kernel), rfl, fun h => (by first | rfl | cases h), trivial, kd_X15_isPlayer, by decide⟩
theorem me_X15_isSound : rMeth 83 := fun o rk hh nL ini h => by
  cases (show mI[83]? = some _ from rfl).symm.trans h
  exact ⟨yX15_isSound, cX15_isSound, _, _, rfl, rfl, by decide +kernel, ⟨by decide +kernel, by decide +kernel⟩, mA 901 (by decide +kernel), mA 39 (by decide +kernel), rfl, fun h => (by first | rfl | cases h), trivial, kd_X15_isSound, by decide⟩
theorem me_X15_kickOff : rMeth 84 := fun o rk hh nL ini h => by
  cases (show mI[84]? = some _ from rfl).symm.trans h
  exact ⟨yX15_kickOff, cX15_kickOff, _, _, rfl, rfl, by decide +kernel, ⟨by decide +kernel, by decide +kernel⟩, mA 768 (by decide +kernel), mA 39 (by decide +kernel), rfl, fun h => (by first | rfl | cases h), trivial, kd_X15_kickOff, by decide⟩
theorem me_X15_lend : rMeth 85 := fun o rk hh nL ini h => by
  cases (show mI[85]? = some _ from rfl).symm.trans h
  exact ⟨yX15_lend, cX15_lend, _, _, rfl, rfl, by decide +kernel, ⟨by decide +kernel, by decide +kernel⟩, mA 730 (by decide +kernel), mA 39 (by decide +kernel), rfl, fun h => (by first | rfl | cases h), trivial, kd_X15_lend, by decide⟩
theorem me_X15_meanGoals : rMeth 86 := fun o rk hh nL ini h => by
  cases (show mI[86]? = some _ from rfl).symm.trans h
  exact ⟨yX15_meanGoals, cX15_meanGoals, _, _, rfl, rfl, by decide +kernel, ⟨by decide +kernel, by decide +kernel⟩, mA 897 (by decide +kernel), mA 39 (by decide +kernel), rfl, fun h => (by first | rfl | cases h), trivial, kd_X15_meanGoals, by decide⟩
theorem me_X15_money : rMeth 87 := fun o rk hh nL ini h => by
  cases (show mI[87]? = some _ from rfl).symm.trans h
  exact ⟨yX15_money, cX15_money, _, _, rfl, rfl, by decide +kernel, ⟨by decide +kernel, by decide +kernel⟩, mA 886 (by decide +kernel), mA 39 (by decide +kernel), rfl, fun h => (by first | rfl | cases h), trivial, kd_X15_money, by decide⟩
theorem me_X15_name : rMeth 88 := fun o rk hh nL ini h => by
  cases (show mI[88]? = some _ from rfl).symm.trans h
  exact ⟨yX15_name, cX15_name, _, _, rfl, rfl, by decide +kernel, ⟨by decide +kernel, by decide +kernel⟩, mA 764 (by decide +kernel), mA 39 (by decide +kernel), rfl, fun h => (by first | rfl | cases h), trivial, kd_X15_name, by decide⟩
theorem me_X15_no : rMeth 89 := fun o rk hh nL ini h => by
  cases (show mI[89]? = some _ from rfl).symm.trans h
  exact ⟨yX15_no, cX15_no, _, _, rfl, rfl, by decide +kernel, ⟨by decide +kernel, by decide +kernel⟩, mA 634 (by decide +kernel), mA 39 (by decide +kernel), rfl, fun h => (by first | rfl | cases h), trivial, kd_X15_no, by decide⟩
theorem me_X15_noMatch : rMeth 90 := fun o rk hh nL ini h => by
  cases (show mI[90]? = some _ from rfl).symm.trans h
  exact ⟨yX15_noMatch, cX15_noMatch, _, _, rfl, rfl, by decide +kernel, ⟨by decide +kernel, by decide +kernel⟩, mA 752 (by decide +kernel), mA 39 (by decide +kernel), rfl, fun h => (by first | rfl | cases h), trivial, kd_X15_noMatch, by decide⟩
theorem me_X15_noOn : rMeth 91 := fun o rk hh nL ini h => by
  cases (show mI[91]? = some _ from rfl).symm.trans h
  exact ⟨yX15_noOn, cX15_noOn, _, _, rfl, rfl, by decide +kernel, ⟨by decide +kernel, by decide +kernel⟩, mA 796 (by decide +kernel), mA 39 (by decide +kernel), rfl, fun h => (by first | rfl | cases h), trivial, kd_X15_noOn, by decide⟩
theorem me_X15_over : rMeth 92 := fun o rk hh nL ini h => by
  cases (show mI[92]? = some _ from rfl).symm.trans h
  exact ⟨yX15_over, cX15_over, _, _, rfl, rfl, by decide +kernel, ⟨by decide +kernel, by decide +kernel⟩, mA 893 (by decide +kernel), mA 39 (by decide +kernel), rfl, fun h => (by first | rfl | cases h), trivial, kd_X15_over, by decide⟩
theorem me_X15_overShare : rMeth 93 := fun o rk hh nL ini h => by
  cases (show mI[93]? = some _ from rfl).symm.trans h
  exact ⟨yX15_overShare, cX15_overShare, _, _, rfl, rfl, by decide +kernel, ⟨by decide +kernel, by decide +kernel⟩, mA 890 (by decide +kernel), mA 39 (by decide +kernel), rfl, fun h => (by first | rfl | cases h), trivial, kd_X15_overShare, by decide⟩
theorem me_X15_plan : rMeth 94 := fun o rk hh nL ini h => by
  cases (show mI[94]? = some _ from rfl).symm.trans h
  exact ⟨yX15_plan, cX15_plan, _, _, rfl, rfl, by decide +kernel, ⟨by decide +kernel, by decide +kernel⟩, mA 742 (by decide +kernel), mA 39 (by decide +kernel), rfl, fun h => (by first | rfl | cases h), trivial, kd_X15_plan, by decide⟩
theorem me_X15_points : rMeth 95 := fun o rk hh nL ini h => by
  cases (show mI[95]? = some _ from rfl).symm.trans h
  exact ⟨yX15_points, cX15_points, _, _, rfl, rfl, by decide +kernel, ⟨by decide +kernel, by decide +kernel⟩, mA 864 (by decide +kernel), mA 39 (by decide +kernel), rfl, fun h => (by first | rfl | cases h), trivial, kd_X15_points, by decide⟩
theorem me_X15_putOff : rMeth 96 := fun o rk hh nL ini h => by
  cases (show mI[96]? = some _ from rfl).symm.trans h
  exact ⟨yX15_putOff, cX15_putOff, _, _, rfl, rfl, by decide +kernel, ⟨by decide +kernel, by decide +kernel⟩, mA 749 (by decide +kernel), mA 39 (by decide +kernel), rfl, fun h => (by first | rfl | cases h), trivial, kd_X15_putOff, by decide⟩
theorem me_X15_registered : rMeth 97 := fun o rk hh nL ini h => by
  cases (show mI[97]? = some _ from rfl).symm.trans h
  exact ⟨yX15_registered, cX15_registered, _, _, rfl, rfl, by decide +kernel, ⟨by decide +kernel, by decide +kernel⟩, mA 872 (by decide +kernel), mA 39 (by decide +kernel), rfl, fun h => (by first | rfl | cases h), trivial, kd_X15_registered, by decide⟩
theorem me_X15_resultOf : rMeth 98 := fun o rk hh nL ini h => by
  cases (show mI[98]? = some _ from rfl).symm.trans h
  exact ⟨yX15_resultOf, cX15_resultOf, _, _, rfl, rfl, by decide +kernel, ⟨by decide +kernel, by decide +kernel⟩, mA 836 (by decide +kernel), mA 39 (by decide +kernel), rfl, fun h => (by first | rfl | cases h), trivial, kd_X15_resultOf, by decide⟩
theorem me_X15_sell : rMeth 99 := fun o rk hh nL ini h => by
  cases (show mI[99]? = some _ from rfl).symm.trans h
  exact ⟨yX15_sell, cX15_sell, _, _, rfl, rfl, by decide +kernel, ⟨by decide +kernel, by decide +kernel⟩, mA 723 (by decide +kernel), mA 39 (by decide +kernel), rfl, fun h => (by first | rfl | cases h), trivial, kd_X15_sell, by decide⟩
theorem me_X15_setDerby : rMeth 100 := fun o rk hh nL ini h => by
  cases (show mI[100]? = some _ from rfl).symm.trans h
  exact ⟨yX15_setDerby, cX15_setDerby, _, _, rfl, rfl, by decide +kernel, ⟨by decide +kernel, by decide +kernel⟩, mA 738 (by decide +kernel), mA 39 (by decide +kernel), rfl, fun h => (by first | rfl | cases h), trivial, kd_X15_setDerby, by decide⟩
theorem me_X15_setWindow : rMeth 101 := fun o rk hh nL ini h => by
  cases (show mI[101]? = some _ from rfl).symm.trans h
  exact ⟨yX15_setWindow, cX15_setWindow, _, _, rfl, rfl, by decide +kernel, ⟨by decide +kernel, by decide +kernel⟩, mA 710 (by decide +kernel), mA 39 (by decide +kernel), rfl, fun h => (by first | rfl | cases h), trivial, kd_X15_setWindow, by decide⟩
theorem me_X15_stateOf : rMeth 102 := fun o rk hh nL ini h => by
  cases (show mI[102]? = some _ from rfl).symm.trans h
  exact ⟨yX15_stateOf, cX15_stateOf, _, _, rfl, rfl, by decide +kernel, ⟨by decide +kernel, by decide +kernel⟩, mA 760 (by decide +kernel), mA 39 (by decide +kernel), rfl, fun h => (by first | rfl | cases h), trivial, kd_X15_stateOf, by decide⟩
theorem me_X15_strike : rMeth 103 := fun o rk hh nL ini h => by
  cases (show mI[103]? = some _ from rfl).symm.trans h
  exact ⟨yX15_strike, cX15_strike, _, _, rfl, rfl, by decide +kernel, ⟨by decide +kernel, by decide +kernel⟩, mA 844 (by decide +kernel), mA 39 (by decide +kernel), rfl, fun h => (by first | rfl | cases h), trivial, kd_X15_strike, by decide⟩
theorem me_X15_table : rMeth 104 := fun o rk hh nL ini h => by
  cases (show mI[104]? = some _ from rfl).symm.trans h
  exact ⟨yX15_table, cX15_table, _, _, rfl, rfl, by decide +kernel, ⟨by decide +kernel, by decide +kernel⟩, mA 851 (by decide +kernel), mA 39 (by decide +kernel), ⟨_, rfl, (by first | exact Or.inl ⟨_, rfl⟩ | exact Or.inr ⟨_, rfl⟩)⟩, fun h => (by first | rfl | cases h), trivial, kd_X15_table, by decide⟩
theorem me_X15_takePoints : rMeth 105 := fun o rk hh nL ini h => by
  cases (show mI[105]? = some _ from rfl).symm.trans h
  exact ⟨yX15_takePoints, cX15_takePoints, _, _, rfl, rfl, by decide +kernel, ⟨by decide +kernel, by decide +kernel⟩, mA 840 (by decide +kernel), mA 39 (by decide +kernel), rfl, fun h => (by first | rfl | cases h), trivial, kd_X15_takePoints, by decide⟩
theorem me_X15_thrown : rMeth 106 := fun o rk hh nL ini h => by
  cases (show mI[106]? = some _ from rfl).symm.trans h
  exact ⟨yX15_thrown, cX15_thrown, _, _, rfl, rfl, by decide +kernel, ⟨by decide +kernel, by decide +kernel⟩, mA 622 (by decide +kernel), mA 39 (by decide +kernel), rfl, fun h => (by first | rfl | cases h), trivial, kd_X15_thrown, by decide⟩
theorem me_X15_wipe : rMeth 107 := fun o rk hh nL ini h => by
  cases (show mI[107]? = some _ from rfl).symm.trans h
  exact ⟨yX15_wipe, cX15_wipe, _, _, rfl, rfl, by decide +kernel, ⟨by decide +kernel, by decide +kernel⟩, mA 820 (by decide +kernel), mA 39 (by decide +kernel), rfl, fun h => (by first | rfl | cases h), trivial, kd_X15_wipe, by decide⟩
theorem me_X15_yellows : rMeth 108 := fun o rk hh nL ini h => by
  cases (show mI[108]? = some _ from rfl).symm.trans h
  exact ⟨yX15_yellows, cX15_yellows, _, _, rfl, rfl, by decide +kernel, ⟨by decide +kernel, by decide +kernel⟩, mA 828 (by decide +kernel), mA 39 (by decide +kernel), rfl, fun h => (by first | rfl | cases h), trivial, kd_X15_yellows, by decide⟩
theorem me_X2_init : rMeth 109 := fun o rk hh nL ini h => by
  cases (show mI[109]? = some _ from rfl).symm.trans h
  exact ⟨yX2_init, cX2_init, _, _, rfl, rfl, by decide +kernel, ⟨by decide +kernel, by decide +kernel⟩, mA 217 (by decide +kernel), mA 42 (by decide +kernel), rfl, fun h => (by first | rfl | cases h), trivial, kd_X2_init, by decide⟩
theorem me_X3_init : rMeth 110 := fun o rk hh nL ini h => by
  cases (show mI[110]? = some _ from rfl).symm.trans h
  exact ⟨yX3_init, cX3_init, _, _, rfl, rfl, by decide +kernel, ⟨by decide +kernel, by decide +kernel⟩, mA 383 (by decide +kernel), mA 49 (by decide +kernel), rfl, fun h => (by first | rfl | cases h), trivial, kd_X3_init, by decide⟩
theorem me_X5_init : rMeth 111 := fun o rk hh nL ini h => by
  cases (show mI[111]? = some _ from rfl).symm.trans h
  exact ⟨yX5_init, cX5_init, _, _, rfl, rfl, by decide +kernel, ⟨by decide +kernel, by decide +kernel⟩, mA 109 (by decide +kernel), mA 37 (by decide +kernel), rfl, fun h => (by first | rfl | cases h), trivial, kd_X5_init, by decide⟩
theorem me_X8_addRows : rMeth 112 := fun o rk hh nL ini h => by
  cases (show mI[112]? = some _ from rfl).symm.trans h
  exact ⟨yX8_addRows, cX8_addRows, _, _, rfl, rfl, by decide +kernel, ⟨by decide +kernel, by decide +kernel⟩, mA 514 (by decide +kernel), mA 38 (by decide +kernel), rfl, fun h => (by first | rfl | cases h), trivial, kd_X8_addRows, by decide⟩
theorem me_X8_countAmong : rMeth 113 := fun o rk hh nL ini h => by
  cases (show mI[113]? = some _ from rfl).symm.trans h
  exact ⟨yX8_countAmong, cX8_countAmong, _, _, rfl, rfl, by decide +kernel, ⟨by decide +kernel, by decide +kernel⟩, mA 517 (by decide +kernel), mA 38 (by decide +kernel), rfl, fun h => (by first | rfl | cases h), trivial, kd_X8_countAmong, by decide⟩
theorem me_X8_draw : rMeth 114 := fun o rk hh nL ini h => by
  cases (show mI[114]? = some _ from rfl).symm.trans h
  exact ⟨yX8_draw, cX8_draw, _, _, rfl, rfl, by decide +kernel, ⟨by decide +kernel, by decide +kernel⟩, mA 509 (by decide +kernel), mA 38 (by decide +kernel), rfl, fun h => (by first | rfl | cases h), trivial, kd_X8_draw, by decide⟩
theorem me_X8_firstToRise : rMeth 115 := fun o rk hh nL ini h => by
  cases (show mI[115]? = some _ from rfl).symm.trans h
  exact ⟨yX8_firstToRise, cX8_firstToRise, _, _, rfl, rfl, by decide +kernel, ⟨by decide +kernel, by decide +kernel⟩, mA 558 (by decide +kernel), mA 38 (by decide +kernel), ⟨_, rfl, (by first | exact Or.inl ⟨_, rfl⟩ | exact Or.inr ⟨_, rfl⟩)⟩, fun h => (by first | rfl | cases h), trivial, kd_X8_firstToRise, by decide⟩
theorem me_X8_init : rMeth 116 := fun o rk hh nL ini h => by
  cases (show mI[116]? = some _ from rfl).symm.trans h
  exact ⟨yX8_init, cX8_init, _, _, rfl, rfl, by decide +kernel, ⟨by decide +kernel, by decide +kernel⟩, mA 131 (by decide +kernel), mA 38 (by decide +kernel), rfl, fun h => (by first | rfl | cases h), trivial, kd_X8_init, by decide⟩
theorem me_X8_partTies : rMeth 117 := fun o rk hh nL ini h => by
  cases (show mI[117]? = some _ from rfl).symm.trans h
  exact ⟨yX8_partTies, cX8_partTies, _, _, rfl, rfl, by decide +kernel, ⟨by decide +kernel, by decide +kernel⟩, mA 523 (by decide +kernel), mA 38 (by decide +kernel), rfl, fun h => (by first | rfl | cases h), trivial, kd_X8_partTies, by decide⟩
theorem me_X8_sort : rMeth 118 := fun o rk hh nL ini h => by
  cases (show mI[118]? = some _ from rfl).symm.trans h
  exact ⟨yX8_sort, cX8_sort, _, _, rfl, rfl, by decide +kernel, ⟨by decide +kernel, by decide +kernel⟩, mA 520 (by decide +kernel), mA 38 (by decide +kernel), rfl, fun h => (by first | rfl | cases h), trivial, kd_X8_sort, by decide⟩
theorem me_X9_abandon : rMeth 119 := fun o rk hh nL ini h => by
  cases (show mI[119]? = some _ from rfl).symm.trans h
  exact ⟨yX9_abandon, cX9_abandon, _, _, rfl, rfl, by decide +kernel, ⟨by decide +kernel, by decide +kernel⟩, mA 438 (by decide +kernel), mA 32 (by decide +kernel), rfl, fun h => (by first | rfl | cases h), trivial, kd_X9_abandon, by decide⟩
theorem me_X9_addClub : rMeth 120 := fun o rk hh nL ini h => by
  cases (show mI[120]? = some _ from rfl).symm.trans h
  exact ⟨yX9_addClub, cX9_addClub, _, _, rfl, rfl, by decide +kernel, ⟨by decide +kernel, by decide +kernel⟩, mA 200 (by decide +kernel), mA 32 (by decide +kernel), rfl, fun h => (by first | rfl | cases h), trivial, kd_X9_addClub, by decide⟩
theorem me_X9_addPlayer : rMeth 121 := fun o rk hh nL ini h => by
  cases (show mI[121]? = some _ from rfl).symm.trans h
  exact ⟨yX9_addPlayer, cX9_addPlayer, _, _, rfl, rfl, by decide +kernel, ⟨by decide +kernel, by decide +kernel⟩, mA 263 (by decide +kernel), mA 32 (by decide +kernel), rfl, fun h => (by first | rfl | cases h), trivial, kd_X9_addPlayer, by decide⟩
theorem me_X9_appeal : rMeth 122 := fun o rk hh nL ini h => by
  cases (show mI[122]? = some _ from rfl).symm.trans h
  exact ⟨yX9_appeal, cX9_appeal, _, _, rfl, rfl, by decide +kernel, ⟨by decide +kernel, by decide +kernel⟩, mA 445 (by decide +kernel), mA 32 (by decide +kernel), rfl, fun h => (by first | rfl | cases h), trivial, kd_X9_appeal, by decide⟩
theorem me_X9_ban : rMeth 123 := fun o rk hh nL ini h => by
  cases (show mI[123]? = some _ from rfl).symm.trans h
  exact ⟨yX9_ban, cX9_ban, _, _, rfl, rfl, by decide +kernel, ⟨by decide +kernel, by decide +kernel⟩, mA 463 (by decide +kernel), mA 32 (by decide +kernel), rfl, fun h => (by first | rfl | cases h), trivial, kd_X9_ban, by decide⟩
theorem me_X9_callBack : rMeth 124 := fun o rk hh nL ini h => by
  cases (show mI[124]? = some _ from rfl).symm.trans h
  exact ⟨yX9_callBack, cX9_callBack, _, _, rfl, rfl, by decide +kernel, ⟨by decide +kernel, by decide +kernel⟩, mA 311 (by decide +kernel), mA 32 (by decide +kernel), rfl, fun h => (by first | rfl | cases h), trivial, kd_X9_callBack, by decide⟩
theorem me_X9_card : rMeth 125 := fun o rk hh nL ini h => by
  cases (show mI[125]? = some _ from rfl).symm.trans h
  exact ⟨yX9_card, cX9_card, _, _, rfl, rfl, by decide +kernel, ⟨by decide +kernel, by decide +kernel⟩, mA 417 (by decide +kernel), mA 32 (by decide +kernel), rfl, fun h => (by first | rfl | cases h), trivial, kd_X9_card, by decide⟩
theorem me_X9_change : rMeth 126 := fun o rk hh nL ini h => by
  cases (show mI[126]? = some _ from rfl).symm.trans h
  exact ⟨yX9_change, cX9_change, _, _, rfl, rfl, by decide +kernel, ⟨by decide +kernel, by decide +kernel⟩, mA 424 (by decide +kernel), mA 32 (by decide +kernel), rfl, fun h => (by first | rfl | cases h), trivial, kd_X9_change, by decide⟩
theorem me_X9_clearSeason : rMeth 127 := fun o rk hh nL ini h => by
  cases (show mI[127]? = some _ from rfl).symm.trans h
  exact ⟨yX9_clearSeason, cX9_clearSeason, _, _, rfl, rfl, by decide +kernel, ⟨by decide +kernel, by decide +kernel⟩, mA 563 (by decide +kernel), mA 32 (by decide +kernel), rfl, fun h => (by first | rfl | cases h), trivial, kd_X9_clearSeason, by decide⟩
theorem me_X9_clubAt : rMeth 128 := fun o rk hh nL ini h => by
  cases (show mI[128]? = some _ from rfl).symm.trans h
  exact ⟨yX9_clubAt, cX9_clubAt, _, _, rfl, rfl, by decide +kernel, ⟨by decide +kernel, by decide +kernel⟩, mA 505 (by decide +kernel), mA 32 (by decide +kernel), rfl, fun h => (by first | rfl | cases h), trivial, kd_X9_clubAt, by decide⟩
theorem me_X9_clubsIn : rMeth 129 := fun o rk hh nL ini h => by
  cases (show mI[129]? = some _ from rfl).symm.trans h
  exact ⟨yX9_clubsIn, cX9_clubsIn, _, _, rfl, rfl, by decide +kernel, ⟨by decide +kernel, by decide +kernel⟩, mA 211 (by decide +kernel), mA 32 (by decide +kernel), rfl, fun h => (by first | rfl | cases h), trivial, kd_X9_clubsIn, by decide⟩
theorem me_X9_divisionOf : rMeth 130 := fun o rk hh nL ini h => by
  cases (show mI[130]? = some _ from rfl).symm.trans h
  exact ⟨yX9_divisionOf, cX9_divisionOf, _, _, rfl, rfl, by decide +kernel, ⟨by decide +kernel, by decide +kernel⟩, mA 537 (by decide +kernel), mA 32 (by decide +kernel), rfl, fun h => (by first | rfl | cases h), trivial, kd_X9_divisionOf, by decide⟩
theorem me_X9_end : rMeth 131 := fun o rk hh nL ini h => by
  cases (show mI[131]? = some _ from rfl).symm.trans h
  exact ⟨yX9_end, cX9_end, _, _, rfl, rfl, by decide +kernel, ⟨by decide +kernel, by decide +kernel⟩, mA 431 (by decide +kernel), mA 32 (by decide +kernel), rfl, fun h => (by first | rfl | cases h), trivial, kd_X9_end, by decide⟩
theorem me_X9_endSeason : rMeth 132 := fun o rk hh nL ini h => by
  cases (show mI[132]? = some _ from rfl).symm.trans h
  exact ⟨yX9_endSeason, cX9_endSeason, _, _, rfl, rfl, by decide +kernel, ⟨by decide +kernel, by decide +kernel⟩, mA 551 (by decide +kernel), mA 32 (by decide +kernel), rfl, fun h => (by first | rfl | cases h), trivial, kd_X9_endSeason, by decide⟩
theorem me_X9_fixture : rMeth 133 := fun o rk hh nL ini h => by
  cases (show mI[133]? = some _ from rfl).symm.trans h
  exact ⟨yX9_fixture, cX9_fixture, _, _, rfl, rfl, by decide +kernel, ⟨by decide +kernel, by decide +kernel⟩, mA 350 (by decide +kernel), mA 32 (by decide +kernel), rfl, fun h => (by first | rfl | cases h), trivial, kd_X9_fixture, by decide⟩
theorem me_X9_fixturesOver : rMeth 134 := fun o rk hh nL ini h => by
  cases (show mI[134]? = some _ from rfl).symm.trans h
  exact ⟨yX9_fixturesOver, cX9_fixturesOver, _, _, rfl, rfl, by decide +kernel, ⟨by decide +kernel, by decide +kernel⟩, mA 577 (by decide +kernel), mA 32 (by decide +kernel), rfl, fun h => (by first | rfl | cases h), trivial, kd_X9_fixturesOver, by decide⟩
theorem me_X9_goOn : rMeth 135 := fun o rk hh nL ini h => by
  cases (show mI[135]? = some _ from rfl).symm.trans h
  exact ⟨yX9_goOn, cX9_goOn, _, _, rfl, rfl, by decide +kernel, ⟨by decide +kernel, by decide +kernel⟩, mA 285 (by decide +kernel), mA 32 (by decide +kernel), rfl, fun h => (by first | rfl | cases h), trivial, kd_X9_goOn, by decide⟩
theorem me_X9_goal : rMeth 136 := fun o rk hh nL ini h => by
  cases (show mI[136]? = some _ from rfl).symm.trans h
  exact ⟨yX9_goal, cX9_goal, _, _, rfl, rfl, by decide +kernel, ⟨by decide +kernel, by decide +kernel⟩, mA 407 (by decide +kernel), mA 32 (by decide +kernel), rfl, fun h => (by first | rfl | cases h), trivial, kd_X9_goal, by decide⟩
theorem me_X9_hasFixtures : rMeth 137 := fun o rk hh nL ini h => by
  cases (show mI[137]? = some _ from rfl).symm.trans h
  exact ⟨yX9_hasFixtures, cX9_hasFixtures, _, _, rfl, rfl, by decide +kernel, ⟨by decide +kernel, by decide +kernel⟩, mA 329 (by decide +kernel), mA 32 (by decide +kernel), rfl, fun h => (by first | rfl | cases h), trivial, kd_X9_hasFixtures, by decide⟩
theorem me_X9_init : rMeth 138 := fun o rk hh nL ini h => by
  cases (show mI[138]? = some _ from rfl).symm.trans h
  exact ⟨yX9_init, cX9_init, _, _, rfl, rfl, by decide +kernel, ⟨by decide +kernel, by decide +kernel⟩, mA 56 (by decide +kernel), mA 32 (by decide +kernel), rfl, fun h => (by first | rfl | cases h), trivial, kd_X9_init, by decide⟩
theorem me_X9_isDivision : rMeth 139 := fun o rk hh nL ini h => by
  cases (show mI[139]? = some _ from rfl).symm.trans h
  exact ⟨yX9_isDivision, cX9_isDivision, _, _, rfl, rfl, by decide +kernel, ⟨by decide +kernel, by decide +kernel⟩, mA 203 (by decide +kernel), mA 32 (by decide +kernel), rfl, fun h => (by first | rfl | cases h), trivial, kd_X9_isDivision, by decide⟩
theorem me_X9_isFixtureLeft : rMeth 140 := fun o rk hh nL ini h => by
  cases (show mI[140]? = some _ from rfl).symm.trans h
  exact ⟨yX9_isFixtureLeft, cX9_isFixtureLeft, _, _, rfl, rfl, by decide +kernel, ⟨by decide +kernel, by decide +kernel⟩, mA 554 (by decide +kernel), mA 32 (by decide +kernel), rfl, fun h => (by first | rfl | cases h), trivial, kd_X9_isFixtureLeft, by decide⟩
theorem me_X9_isGuilty : rMeth 141 := fun o rk hh nL ini h => by
  cases (show mI[141]? = some _ from rfl).symm.trans h
  exact ⟨yX9_isGuilty, cX9_isGuilty, _, _, rfl, rfl, by decide +kernel, ⟨by decide +kernel, by decide +kernel⟩, mA 477 (by decide +kernel), mA 32 (by decide +kernel), rfl, fun h => (by first | rfl | cases h), trivial, kd_X9_isGuilty, by decide⟩
theorem me_X9_isSound : rMeth 142 := fun o rk hh nL ini h => by
  cases (show mI[142]? = some _ from rfl).symm.trans h
  exact ⟨yX9_isSound, cX9_isSound, _, _, rfl, rfl, by decide +kernel, ⟨by decide +kernel, by decide +kernel⟩, mA 169 (by decide +kernel), mA 32 (by decide +kernel), rfl, fun h => (by first | rfl | cases h), trivial, kd_X9_isSound, by decide⟩
theorem me_X9_isWindowOpen : rMeth 143 := fun o rk hh nL ini h => by
  cases (show mI[143]? = some _ from rfl).symm.trans h
  exact ⟨yX9_isWindowOpen, cX9_isWindowOpen, _, _, rfl, rfl, by decide +kernel, ⟨by decide +kernel, by decide +kernel⟩, mA 278 (by decide +kernel), mA 32 (by decide +kernel), rfl, fun h => (by first | rfl | cases h), trivial, kd_X9_isWindowOpen, by decide⟩
theorem me_X9_isWithin : rMeth 144 := fun o rk hh nL ini h => by
  cases (show mI[144]? = some _ from rfl).symm.trans h
  exact ⟨yX9_isWithin, cX9_isWithin, _, _, rfl, rfl, by decide +kernel, ⟨by decide +kernel, by decide +kernel⟩, mA 206 (by decide +kernel), mA 32 (by decide +kernel), rfl, fun h => (by first | rfl | cases h), trivial, kd_X9_isWithin, by decide⟩
theorem me_X9_kickOff : rMeth 145 := fun o rk hh nL ini h => by
  cases (show mI[145]? = some _ from rfl).symm.trans h
  exact ⟨yX9_kickOff, cX9_kickOff, _, _, rfl, rfl, by decide +kernel, ⟨by decide +kernel, by decide +kernel⟩, mA 374 (by decide +kernel), mA 32 (by decide +kernel), rfl, fun h => (by first | rfl | cases h), trivial, kd_X9_kickOff, by decide⟩
theorem me_X9_knownBit : rMeth 146 := fun o rk hh nL ini h => by
  cases (show mI[146]? = some _ from rfl).symm.trans h
  exact ⟨yX9_knownBit, cX9_knownBit, _, _, rfl, rfl, by decide +kernel, ⟨by decide +kernel, by decide +kernel⟩, mA 367 (by decide +kernel), mA 32 (by decide +kernel), rfl, fun h => (by first | rfl | cases h), trivial, kd_X9_knownBit, by decide⟩
theorem me_X9_knownClub : rMeth 147 := fun o rk hh nL ini h => by
  cases (show mI[147]? = some _ from rfl).symm.trans h
  exact ⟨yX9_knownClub, cX9_knownClub, _, _, rfl, rfl, by decide +kernel, ⟨by decide +kernel, by decide +kernel⟩, mA 266 (by decide +kernel), mA 32 (by decide +kernel), ⟨_, rfl, (by first | exact Or.inl ⟨_, rfl⟩ | exact Or.inr ⟨_, rfl⟩)⟩, fun h => (by first | rfl | cases h), trivial, kd_X9_knownClub, by decide⟩
theorem me_X9_knownFixture : rMeth 148 := fun o rk hh nL ini h => by
  cases (show mI[148]? = some _ from rfl).symm.trans h
  exact ⟨yX9_knownFixture, cX9_knownFixture, _, _, rfl, rfl, by decide +kernel, ⟨by decide +kernel, by decide +kernel⟩, mA 343 (by decide +kernel), mA 32 (by decide +kernel), ⟨_, rfl, (by first | exact Or.inl ⟨_, rfl⟩ | exact Or.inr ⟨_, rfl⟩)⟩, fun h => (by first | rfl | cases h), trivial, kd_X9_knownFixture, by decide⟩
theorem me_X9_knownMatch : rMeth 149 := fun o rk hh nL ini h => by
  cases (show mI[149]? = some _ from rfl).symm.trans h
  exact ⟨yX9_knownMatch, cX9_knownMatch, _, _, rfl, rfl, by decide +kernel, ⟨by decide +kernel, by decide +kernel⟩, mA 410 (by decide +kernel), mA 32 (by decide +kernel), ⟨_, rfl, (by first | exact Or.inl ⟨_, rfl⟩ | exact Or.inr ⟨_, rfl⟩)⟩, fun h => (by first | rfl | cases h), trivial, kd_X9_knownMatch, by decide⟩
theorem me_X9_knownPlayer : rMeth 150 := fun o rk hh nL ini h => by
  cases (show mI[150]? = some _ from rfl).symm.trans h
  exact ⟨yX9_knownPlayer, cX9_knownPlayer, _, _, rfl, rfl, by decide +kernel, ⟨by decide +kernel, by decide +kernel⟩, mA 296 (by decide +kernel), mA 32 (by decide +kernel), ⟨_, rfl, (by first | exact Or.inl ⟨_, rfl⟩ | exact Or.inr ⟨_, rfl⟩)⟩, fun h => (by first | rfl | cases h), trivial, kd_X9_knownPlayer, by decide⟩
theorem me_X9_lend : rMeth 151 := fun o rk hh nL ini h => by
  cases (show mI[151]? = some _ from rfl).symm.trans h
  exact ⟨yX9_lend, cX9_lend, _, _, rfl, rfl, by decide +kernel, ⟨by decide +kernel, by decide +kernel⟩, mA 304 (by decide +kernel), mA 32 (by decide +kernel), rfl, fun h => (by first | rfl | cases h), trivial, kd_X9_lend, by decide⟩
theorem me_X9_meanGoals : rMeth 152 := fun o rk hh nL ini h => by
  cases (show mI[152]? = some _ from rfl).symm.trans h
  exact ⟨yX9_meanGoals, cX9_meanGoals, _, _, rfl, rfl, by decide +kernel, ⟨by decide +kernel, by decide +kernel⟩, mA 584 (by decide +kernel), mA 32 (by decide +kernel), rfl, fun h => (by first | rfl | cases h), trivial, kd_X9_meanGoals, by decide⟩
theorem me_X9_money : rMeth 153 := fun o rk hh nL ini h => by
  cases (show mI[153]? = some _ from rfl).symm.trans h
  exact ⟨yX9_money, cX9_money, _, _, rfl, rfl, by decide +kernel, ⟨by decide +kernel, by decide +kernel⟩, mA 160 (by decide +kernel), mA 32 (by decide +kernel), rfl, fun h => (by first | rfl | cases h), trivial, kd_X9_money, by decide⟩
theorem me_X9_name : rMeth 154 := fun o rk hh nL ini h => by
  cases (show mI[154]? = some _ from rfl).symm.trans h
  exact ⟨yX9_name, cX9_name, _, _, rfl, rfl, by decide +kernel, ⟨by decide +kernel, by decide +kernel⟩, mA 364 (by decide +kernel), mA 32 (by decide +kernel), rfl, fun h => (by first | rfl | cases h), trivial, kd_X9_name, by decide⟩
theorem me_X9_overShare : rMeth 155 := fun o rk hh nL ini h => by
  cases (show mI[155]? = some _ from rfl).symm.trans h
  exact ⟨yX9_overShare, cX9_overShare, _, _, rfl, rfl, by decide +kernel, ⟨by decide +kernel, by decide +kernel⟩, mA 573 (by decide +kernel), mA 32 (by decide +kernel), rfl, fun h => (by first | rfl | cases h), trivial, kd_X9_overShare, by decide⟩
theorem me_X9_plan : rMeth 156 := fun o rk hh nL ini h => by
  cases (show mI[156]? = some _ from rfl).symm.trans h
  exact ⟨yX9_plan, cX9_plan, _, _, rfl, rfl, by decide +kernel, ⟨by decide +kernel, by decide +kernel⟩, mA 326 (by decide +kernel), mA 32 (by decide +kernel), rfl, fun h => (by first | rfl | cases h), trivial, kd_X9_plan, by decide⟩
theorem me_X9_points : rMeth 157 := fun o rk hh nL ini h => by
  cases (show mI[157]? = some _ from rfl).symm.trans h
  exact ⟨yX9_points, cX9_points, _, _, rfl, rfl, by decide +kernel, ⟨by decide +kernel, by decide +kernel⟩, mA 530 (by decide +kernel), mA 32 (by decide +kernel), rfl, fun h => (by first | rfl | cases h), trivial, kd_X9_points, by decide⟩
theorem me_X9_putOff : rMeth 158 := fun o rk hh nL ini h => by
  cases (show mI[158]? = some _ from rfl).symm.trans h
  exact ⟨yX9_putOff, cX9_putOff, _, _, rfl, rfl, by decide +kernel, ⟨by decide +kernel, by decide +kernel⟩, mA 340 (by decide +kernel), mA 32 (by decide +kernel), rfl, fun h => (by first | rfl | cases h), trivial, kd_X9_putOff, by decide⟩
theorem me_X9_registered : rMeth 159 := fun o rk hh nL ini h => by
  cases (show mI[159]? = some _ from rfl).symm.trans h
  exact ⟨yX9_registered, cX9_registered, _, _, rfl, rfl, by decide +kernel, ⟨by decide +kernel, by decide +kernel⟩, mA 544 (by decide +kernel), mA 32 (by decide +kernel), rfl, fun h => (by first | rfl | cases h), trivial, kd_X9_registered, by decide⟩
theorem me_X9_resultOf : rMeth 160 := fun o rk hh nL ini h => by
  cases (show mI[160]? = some _ from rfl).symm.trans h
  exact ⟨yX9_resultOf, cX9_resultOf, _, _, rfl, rfl, by decide +kernel, ⟨by decide +kernel, by decide +kernel⟩, mA 484 (by decide +kernel), mA 32 (by decide +kernel), rfl, fun h => (by first | rfl | cases h), trivial, kd_X9_resultOf, by decide⟩
theorem me_X9_sell : rMeth 161 := fun o rk hh nL ini h => by
  cases (show mI[161]? = some _ from rfl).symm.trans h
  exact ⟨yX9_sell, cX9_sell, _, _, rfl, rfl, by decide +kernel, ⟨by decide +kernel, by decide +kernel⟩, mA 293 (by decide +kernel), mA 32 (by decide +kernel), rfl, fun h => (by first | rfl | cases h), trivial, kd_X9_sell, by decide⟩
theorem me_X9_setDerby : rMeth 162 := fun o rk hh nL ini h => by
  cases (show mI[162]? = some _ from rfl).symm.trans h
  exact ⟨yX9_setDerby, cX9_setDerby, _, _, rfl, rfl, by decide +kernel, ⟨by decide +kernel, by decide +kernel⟩, mA 318 (by decide +kernel), mA 32 (by decide +kernel), rfl, fun h => (by first | rfl | cases h), trivial, kd_X9_setDerby, by decide⟩
theorem me_X9_setWindow : rMeth 163 := fun o rk hh nL ini h => by
  cases (show mI[163]? = some _ from rfl).symm.trans h
  exact ⟨yX9_setWindow, cX9_setWindow, _, _, rfl, rfl, by decide +kernel, ⟨by decide +kernel, by decide +kernel⟩, mA 275 (by decide +kernel), mA 32 (by decide +kernel), rfl, fun h => (by first | rfl | cases h), trivial, kd_X9_setWindow, by decide⟩
theorem me_X9_stateOf : rMeth 164 := fun o rk hh nL ini h => by
  cases (show mI[164]? = some _ from rfl).symm.trans h
  exact ⟨yX9_stateOf, cX9_stateOf, _, _, rfl, rfl, by decide +kernel, ⟨by decide +kernel, by decide +kernel⟩, mA 357 (by decide +kernel), mA 32 (by decide +kernel), rfl, fun h => (by first | rfl | cases h), trivial, kd_X9_stateOf, by decide⟩
theorem me_X9_strike : rMeth 165 := fun o rk hh nL ini h => by
  cases (show mI[165]? = some _ from rfl).symm.trans h
  exact ⟨yX9_strike, cX9_strike, _, _, rfl, rfl, by decide +kernel, ⟨by decide +kernel, by decide +kernel⟩, mA 498 (by decide +kernel), mA 32 (by decide +kernel), rfl, fun h => (by first | rfl | cases h), trivial, kd_X9_strike, by decide⟩
theorem me_X9_takePoints : rMeth 166 := fun o rk hh nL ini h => by
  cases (show mI[166]? = some _ from rfl).symm.trans h
  exact ⟨yX9_takePoints, cX9_takePoints, _, _, rfl, rfl, by decide +kernel, ⟨by decide +kernel, by decide +kernel⟩, mA 491 (by decide +kernel), mA 32 (by decide +kernel), rfl, fun h => (by first | rfl | cases h), trivial, kd_X9_takePoints, by decide⟩
theorem me_X9_wipe : rMeth 167 := fun o rk hh nL ini h => by
  cases (show mI[167]? = some _ from rfl).symm.trans h
  exact ⟨yX9_wipe, cX9_wipe, _, _, rfl, rfl, by decide +kernel, ⟨by decide +kernel, by decide +kernel⟩, mA 452 (by decide +kernel), mA 32 (by decide +kernel), rfl, fun h => (by first | rfl | cases h), trivial, kd_X9_wipe, by decide⟩
theorem me_X9_yellows : rMeth 168 := fun o rk hh nL ini h => by
  cases (show mI[168]? = some _ from rfl).symm.trans h
  exact ⟨yX9_yellows, cX9_yellows, _, _, rfl, rfl, by decide +kernel, ⟨by decide +kernel, by decide +kernel⟩, mA 470 (by decide +kernel), mA 32 (by decide +kernel), rfl, fun h => (by first | rfl | cases h), trivial, kd_X9_yellows, by decide⟩
theorem me_all : ∀ i ∈ ([1, 2, 3, 4, 5, 6, 7, 8, 9, 10, 11, 12, 13, 14, 15, 16, 17, 18, 19, 20, 21, 22, 23, 24, 25, 26, 27, 28, 29, 30, 31, 32, 33, 34, 35, 36, 37, 38, 39, 40, 41, 42, 43, 44, 45, 46, 47, 48, 49, 50, 51, 52, 53, 54, 55, 56, 57, 58, 59, 60, 61, 62, 63, 64, 65, 66, 67, 68, 69, 70, 71, 72, 73, 74, 75, 76, 77, 78, 79, 80, 81, 82, 83, 84, 85, 86, 87, 88, 89, 90, 91, 92, 93, 94, 95, 96, 97, 98, 99, 100, 101, 102, 103, 104, 105, 106, 107, 108, 109, 110, 111, 112, 113, 114, 115, 116, 117, 118, 119, 120, 121, 122, 123, 124, 125, 126, 127, 128, 129, 130, 131, 132, 133, 134, 135, 136, 137, 138, 139, 140, 141, 142, 143, 144, 145, 146, 147, 148, 149, 150, 151, 152, 153, 154, 155, 156, 157, 158, 159, 160, 161, 162, 163, 164, 165, 166, 167, 168] : List Nat), rMeth i := List.forall_mem_cons.mpr ⟨me_J7_fill_53178, List.forall_mem_cons.mpr ⟨me_Jx35411_hasNext_aae02, List.forall_mem_cons.mpr ⟨me_Jx35411_init_45d68, List.forall_mem_cons.mpr ⟨me_Jx4a65c_add_72be8, List.forall_mem_cons.mpr ⟨me_Jx4a65c_add_9ea2d, List.forall_mem_cons.mpr ⟨me_Jx4a65c_clear_da8c8, List.forall_mem_cons.mpr ⟨me_Jx4a65c_grow_92f84, List.forall_mem_cons.mpr ⟨me_Jx4a65c_grow_d5877, List.forall_mem_cons.mpr ⟨me_Jx4a65c_init_da8c8, List.forall_mem_cons.mpr ⟨me_Jx4a65c_isEmpty_aae02, List.forall_mem_cons.mpr ⟨me_Jx4a65c_iterator_32c93, List.forall_mem_cons.mpr ⟨me_Jx4a65c_size_8abf5, List.forall_mem_cons.mpr ⟨me_Jxa1e45_init_da8c8, List.forall_mem_cons.mpr ⟨me_Jxc12de_init_da8c8, List.forall_mem_cons.mpr ⟨me_L_abandon, List.forall_mem_cons.mpr ⟨me_L_addClub, List.forall_mem_cons.mpr ⟨me_L_addPlayer, List.forall_mem_cons.mpr ⟨me_L_appeal, List.forall_mem_cons.mpr ⟨me_L_ban, List.forall_mem_cons.mpr ⟨me_L_callBack, List.forall_mem_cons.mpr ⟨me_L_card, List.forall_mem_cons.mpr ⟨me_L_change, List.forall_mem_cons.mpr ⟨me_L_clubAt, List.forall_mem_cons.mpr ⟨me_L_divisionOf, List.forall_mem_cons.mpr ⟨me_L_end, List.forall_mem_cons.mpr ⟨me_L_endSeason, List.forall_mem_cons.mpr ⟨me_L_fixture, List.forall_mem_cons.mpr ⟨me_L_goOn, List.forall_mem_cons.mpr ⟨me_L_goal, List.forall_mem_cons.mpr ⟨me_L_isGuilty, List.forall_mem_cons.mpr ⟨me_L_kickOff, List.forall_mem_cons.mpr ⟨me_L_lend, List.forall_mem_cons.mpr ⟨me_L_meanGoals, List.forall_mem_cons.mpr ⟨me_L_name, List.forall_mem_cons.mpr ⟨me_L_overShare, List.forall_mem_cons.mpr ⟨me_L_plan, List.forall_mem_cons.mpr ⟨me_L_points, List.forall_mem_cons.mpr ⟨me_L_putOff, List.forall_mem_cons.mpr ⟨me_L_registered, List.forall_mem_cons.mpr ⟨me_L_resultOf, List.forall_mem_cons.mpr ⟨me_L_sell, List.forall_mem_cons.mpr ⟨me_L_setDerby, List.forall_mem_cons.mpr ⟨me_L_setWindow, List.forall_mem_cons.mpr ⟨me_L_stateOf, List.forall_mem_cons.mpr ⟨me_L_strike, List.forall_mem_cons.mpr ⟨me_L_takePoints, List.forall_mem_cons.mpr ⟨me_L_wipe, List.forall_mem_cons.mpr ⟨me_L_yellows, List.forall_mem_cons.mpr ⟨me_X0_count, List.forall_mem_cons.mpr ⟨me_X0_countAnew, List.forall_mem_cons.mpr ⟨me_X0_init, List.forall_mem_cons.mpr ⟨me_X0_isFull, List.forall_mem_cons.mpr ⟨me_X0_isSameAnew, List.forall_mem_cons.mpr ⟨me_X0_playersWithYellows, List.forall_mem_cons.mpr ⟨me_X0_write, List.forall_mem_cons.mpr ⟨me_X11_init, List.forall_mem_cons.mpr ⟨me_X12_init, List.forall_mem_cons.mpr ⟨me_X15_abandon, List.forall_mem_cons.mpr ⟨me_X15_addClub, List.forall_mem_cons.mpr ⟨me_X15_addPlayer, List.forall_mem_cons.mpr ⟨me_X15_appeal, List.forall_mem_cons.mpr ⟨me_X15_ban, List.forall_mem_cons.mpr ⟨me_X15_callBack, List.forall_mem_cons.mpr ⟨me_X15_card, List.forall_mem_cons.mpr ⟨me_X15_change, List.forall_mem_cons.mpr ⟨me_X15_clubAt, List.forall_mem_cons.mpr ⟨me_X15_clubsIn, List.forall_mem_cons.mpr ⟨me_X15_counting, List.forall_mem_cons.mpr ⟨me_X15_divisionOf, List.forall_mem_cons.mpr ⟨me_X15_end, List.forall_mem_cons.mpr ⟨me_X15_endSeason, List.forall_mem_cons.mpr ⟨me_X15_fixture, List.forall_mem_cons.mpr ⟨me_X15_goOn, List.forall_mem_cons.mpr ⟨me_X15_goal, List.forall_mem_cons.mpr ⟨me_X15_goesThrough, List.forall_mem_cons.mpr ⟨me_X15_hasFixtures, List.forall_mem_cons.mpr ⟨me_X15_init, List.forall_mem_cons.mpr ⟨me_X15_isClub, List.forall_mem_cons.mpr ⟨me_X15_isGuilty, List.forall_mem_cons.mpr ⟨me_X15_isIn, List.forall_mem_cons.mpr ⟨me_X15_isOpen, List.forall_mem_cons.mpr ⟨me_X15_isPlayer, List.forall_mem_cons.mpr ⟨me_X15_isSound, List.forall_mem_cons.mpr ⟨me_X15_kickOff, List.forall_mem_cons.mpr ⟨me_X15_lend, List.forall_mem_cons.mpr ⟨me_X15_meanGoals, List.forall_mem_cons.mpr ⟨me_X15_money, List.forall_mem_cons.mpr ⟨me_X15_name, List.forall_mem_cons.mpr ⟨me_X15_no, List.forall_mem_cons.mpr ⟨me_X15_noMatch, List.forall_mem_cons.mpr ⟨me_X15_noOn, List.forall_mem_cons.mpr ⟨me_X15_over, List.forall_mem_cons.mpr ⟨me_X15_overShare, List.forall_mem_cons.mpr ⟨me_X15_plan, List.forall_mem_cons.mpr ⟨me_X15_points, List.forall_mem_cons.mpr ⟨me_X15_putOff, List.forall_mem_cons.mpr ⟨me_X15_registered, List.forall_mem_cons.mpr ⟨me_X15_resultOf, List.forall_mem_cons.mpr ⟨me_X15_sell, List.forall_mem_cons.mpr ⟨me_X15_setDerby, List.forall_mem_cons.mpr ⟨me_X15_setWindow, List.forall_mem_cons.mpr ⟨me_X15_stateOf, List.forall_mem_cons.mpr ⟨me_X15_strike, List.forall_mem_cons.mpr ⟨me_X15_table, List.forall_mem_cons.mpr ⟨me_X15_takePoints, List.forall_mem_cons.mpr ⟨me_X15_thrown, List.forall_mem_cons.mpr ⟨me_X15_wipe, List.forall_mem_cons.mpr ⟨me_X15_yellows, List.forall_mem_cons.mpr ⟨me_X2_init, List.forall_mem_cons.mpr ⟨me_X3_init, List.forall_mem_cons.mpr ⟨me_X5_init, List.forall_mem_cons.mpr ⟨me_X8_addRows, List.forall_mem_cons.mpr ⟨me_X8_countAmong, List.forall_mem_cons.mpr ⟨me_X8_draw, List.forall_mem_cons.mpr ⟨me_X8_firstToRise, List.forall_mem_cons.mpr ⟨me_X8_init, List.forall_mem_cons.mpr ⟨me_X8_partTies, List.forall_mem_cons.mpr ⟨me_X8_sort, List.forall_mem_cons.mpr ⟨me_X9_abandon, List.forall_mem_cons.mpr ⟨me_X9_addClub, List.forall_mem_cons.mpr ⟨me_X9_addPlayer, List.forall_mem_cons.mpr ⟨me_X9_appeal, List.forall_mem_cons.mpr ⟨me_X9_ban, List.forall_mem_cons.mpr ⟨me_X9_callBack, List.forall_mem_cons.mpr ⟨me_X9_card, List.forall_mem_cons.mpr ⟨me_X9_change, List.forall_mem_cons.mpr ⟨me_X9_clearSeason, List.forall_mem_cons.mpr ⟨me_X9_clubAt, List.forall_mem_cons.mpr ⟨me_X9_clubsIn, List.forall_mem_cons.mpr ⟨me_X9_divisionOf, List.forall_mem_cons.mpr ⟨me_X9_end, List.forall_mem_cons.mpr ⟨me_X9_endSeason, List.forall_mem_cons.mpr ⟨me_X9_fixture, List.forall_mem_cons.mpr ⟨me_X9_fixturesOver, List.forall_mem_cons.mpr ⟨me_X9_goOn, List.forall_mem_cons.mpr ⟨me_X9_goal, List.forall_mem_cons.mpr ⟨me_X9_hasFixtures, List.forall_mem_cons.mpr ⟨me_X9_init, List.forall_mem_cons.mpr ⟨me_X9_isDivision, List.forall_mem_cons.mpr ⟨me_X9_isFixtureLeft, List.forall_mem_cons.mpr ⟨me_X9_isGuilty, List.forall_mem_cons.mpr ⟨me_X9_isSound, List.forall_mem_cons.mpr ⟨me_X9_isWindowOpen, List.forall_mem_cons.mpr ⟨me_X9_isWithin, List.forall_mem_cons.mpr ⟨me_X9_kickOff, List.forall_mem_cons.mpr ⟨me_X9_knownBit, List.forall_mem_cons.mpr ⟨me_X9_knownClub, List.forall_mem_cons.mpr ⟨me_X9_knownFixture, List.forall_mem_cons.mpr ⟨me_X9_knownMatch, List.forall_mem_cons.mpr ⟨me_X9_knownPlayer, List.forall_mem_cons.mpr ⟨me_X9_lend, List.forall_mem_cons.mpr ⟨me_X9_meanGoals, List.forall_mem_cons.mpr ⟨me_X9_money, List.forall_mem_cons.mpr ⟨me_X9_name, List.forall_mem_cons.mpr ⟨me_X9_overShare, List.forall_mem_cons.mpr ⟨me_X9_plan, List.forall_mem_cons.mpr ⟨me_X9_points, List.forall_mem_cons.mpr ⟨me_X9_putOff, List.forall_mem_cons.mpr ⟨me_X9_registered, List.forall_mem_cons.mpr ⟨me_X9_resultOf, List.forall_mem_cons.mpr ⟨me_X9_sell, List.forall_mem_cons.mpr ⟨me_X9_setDerby, List.forall_mem_cons.mpr ⟨me_X9_setWindow, List.forall_mem_cons.mpr ⟨me_X9_stateOf, List.forall_mem_cons.mpr ⟨me_X9_strike, List.forall_mem_cons.mpr ⟨me_X9_takePoints, List.forall_mem_cons.mpr ⟨me_X9_wipe, List.forall_mem_cons.mpr ⟨me_X9_yellows, fun _ h => absurd h List.not_mem_nil⟩⟩⟩⟩⟩⟩⟩⟩⟩⟩⟩⟩⟩⟩⟩⟩⟩⟩⟩⟩⟩⟩⟩⟩⟩⟩⟩⟩⟩⟩⟩⟩⟩⟩⟩⟩⟩⟩⟩⟩⟩⟩⟩⟩⟩⟩⟩⟩⟩⟩⟩⟩⟩⟩⟩⟩⟩⟩⟩⟩⟩⟩⟩⟩⟩⟩⟩⟩⟩⟩⟩⟩⟩⟩⟩⟩⟩⟩⟩⟩⟩⟩⟩⟩⟩⟩⟩⟩⟩⟩⟩⟩⟩⟩⟩⟩⟩⟩⟩⟩⟩⟩⟩⟩⟩⟩⟩⟩⟩⟩⟩⟩⟩⟩⟩⟩⟩⟩⟩⟩⟩⟩⟩⟩⟩⟩⟩⟩⟩⟩⟩⟩⟩⟩⟩⟩⟩⟩⟩⟩⟩⟩⟩⟩⟩⟩⟩⟩⟩⟩⟩⟩⟩⟩⟩⟩⟩⟩⟩⟩⟩⟩⟩⟩⟩⟩⟩⟩
theorem meth_ok (i : Nat) (h0 : i ≠ 0) : rMeth i := by
  by_cases h : i < 169
  · have hm : ∀ i, i < 169 → i ≠ 0 → i ∈ ([1, 2, 3, 4, 5, 6, 7, 8, 9, 10, 11, 12, 13, 14, 15, 16, 17, 18, 19, 20, 21, 22, 23, 24, 25, 26, 27, 28, 29, 30, 31, 32, 33, 34, 35, 36, 37, 38, 39, 40, 41, 42, 43, 44, 45, 46, 47, 48, 49, 50, 51, 52, 53, 54, 55, 56, 57, 58, 59, 60, 61, 62, 63, 64, 65, 66, 67, 68, 69, 70, 71, 72, 73, 74, 75, 76, 77, 78, 79, 80, 81, 82, 83, 84, 85, 86, 87, 88, 89, 90, 91, 92, 93, 94, 95, 96, 97, 98, 99, 100, 101, 102, 103, 104, 105, 106, 107, 108, 109, 110, 111, 112, 113, 114, 115, 116, 117, 118, 119, 120, 121, 122, 123, 124, 125, 126, 127, 128, 129, 130, 131, 132, 133, 134, 135, 136, 137, 138, 139, 140, 141, 142, 143, 144, 145, 146, 147, 148, 149, 150, 151, 152, 153, 154, 155, 156, 157, 158, 159, 160, 161, 162, 163, 164, 165, 166, 167, 168] : List Nat) := by decide +kernel
    exact me_all i (hm i h h0)
  · intro o rk hh nL ini h2
    rw [List.getElem?_eq_none (by show mI.length ≤ i; have : mI.length = 169 := rfl; omega)] at h2
    cases h2
