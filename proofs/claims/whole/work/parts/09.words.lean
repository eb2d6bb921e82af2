theorem w_objLinkless : Cond.instanceMethod Lib.objectInit ∈ zGB := zGB_of ⟨List.mem_of_getElem? (i := 68) (by decide +kernel), by decide +kernel⟩
theorem w_objCode : Cond.code Lib.objectInit ⟨#[0xb1]⟩ 1 none ∈ zGB := zGB_of ⟨List.mem_of_getElem? (i := 69) (by decide +kernel), by decide +kernel⟩
abbrev k_X0_addSize : zMi := (yX0_addSize, cX0_addSize, 6, none, { frames := 1, cells := 0, slots := 0, locals := 24 })
theorem m_X0_addSize : zMw (k_X0_addSize) 1 := ⟨zGB_of ⟨List.mem_of_getElem? (i := 54) (by decide +kernel), by decide +kernel⟩, zGB_of ⟨List.mem_of_getElem? (i := 423) (by decide +kernel), by decide +kernel⟩, ⟨by decide +kernel, by decide +kernel⟩, by decide +kernel⟩
theorem i_X0_addSize : zIn k_X0_addSize := ⟨zGB_of ⟨List.mem_of_getElem? (i := 422) (by decide +kernel), by decide +kernel⟩, zGB_of ⟨List.mem_of_getElem? (i := 6) (by decide +kernel), by decide +kernel⟩⟩
abbrev k_X0_append : zMi := (yX0_append, cX0_append, 2, none, { frames := 0, cells := 0, slots := 0, locals := 0 })
theorem m_X0_append : zMw (k_X0_append) 1 := ⟨zGB_of ⟨List.mem_of_getElem? (i := 54) (by decide +kernel), by decide +kernel⟩, zGB_of ⟨List.mem_of_getElem? (i := 407) (by decide +kernel), by decide +kernel⟩, ⟨by decide +kernel, by decide +kernel⟩, by decide +kernel⟩
theorem i_X0_append : zIn k_X0_append := ⟨zGB_of ⟨List.mem_of_getElem? (i := 406) (by decide +kernel), by decide +kernel⟩, zGB_of ⟨List.mem_of_getElem? (i := 5) (by decide +kernel), by decide +kernel⟩⟩
abbrev k_X0_bitLength : zMi := (yX0_bitLength, cX0_bitLength, 3, (some .int), { frames := 0, cells := 0, slots := 0, locals := 0 })
theorem m_X0_bitLength : zMw (k_X0_bitLength) 0 := ⟨zGB_of ⟨List.mem_of_getElem? (i := 54) (by decide +kernel), by decide +kernel⟩, zGB_of ⟨List.mem_of_getElem? (i := 483) (by decide +kernel), by decide +kernel⟩, ⟨by decide +kernel, by decide +kernel⟩, by decide +kernel⟩
theorem i_X0_bitLength : zIn k_X0_bitLength := ⟨zGB_of ⟨List.mem_of_getElem? (i := 481) (by decide +kernel), by decide +kernel⟩, zGB_of ⟨List.mem_of_getElem? (i := 482) (by decide +kernel), by decide +kernel⟩⟩
abbrev k_X0_compareSizes : zMi := (yX0_compareSizes, cX0_compareSizes, 3, (some .int), { frames := 0, cells := 0, slots := 0, locals := 0 })
theorem m_X0_compareSizes : zMw (k_X0_compareSizes) 1 := ⟨zGB_of ⟨List.mem_of_getElem? (i := 54) (by decide +kernel), by decide +kernel⟩, zGB_of ⟨List.mem_of_getElem? (i := 431) (by decide +kernel), by decide +kernel⟩, ⟨by decide +kernel, by decide +kernel⟩, by decide +kernel⟩
theorem i_X0_compareSizes : zIn k_X0_compareSizes := ⟨zGB_of ⟨List.mem_of_getElem? (i := 429) (by decide +kernel), by decide +kernel⟩, zGB_of ⟨List.mem_of_getElem? (i := 430) (by decide +kernel), by decide +kernel⟩⟩
abbrev k_X0_copy : zMi := (yX0_copy, cX0_copy, 4, none, { frames := 1, cells := 0, slots := 0, locals := 24 })
theorem m_X0_copy : zMw (k_X0_copy) 1 := ⟨zGB_of ⟨List.mem_of_getElem? (i := 54) (by decide +kernel), by decide +kernel⟩, zGB_of ⟨List.mem_of_getElem? (i := 411) (by decide +kernel), by decide +kernel⟩, ⟨by decide +kernel, by decide +kernel⟩, by decide +kernel⟩
theorem i_X0_copy : zIn k_X0_copy := ⟨zGB_of ⟨List.mem_of_getElem? (i := 409) (by decide +kernel), by decide +kernel⟩, zGB_of ⟨List.mem_of_getElem? (i := 410) (by decide +kernel), by decide +kernel⟩⟩
abbrev k_X0_init (N : Nat) : zMi := (yX0_init, cX0_init, 2, none, { frames := 1, cells := 1, slots := N, locals := 20 })
theorem m_X0_init0 : zMw (k_X0_init 0) 1 := ⟨zGB_of ⟨List.mem_of_getElem? (i := 54) (by decide +kernel), by decide +kernel⟩, zGB_of ⟨List.mem_of_getElem? (i := 86) (by decide +kernel), by decide +kernel⟩, ⟨by decide +kernel, by decide +kernel⟩, by decide +kernel⟩
theorem m_X0_init (N : Nat) : zMw (k_X0_init N) 1 := m_X0_init0
theorem i_X0_init : Cond.instanceMethod yX0_init ∈ zGB := zGB_of ⟨List.mem_of_getElem? (i := 85) (by decide +kernel), by decide +kernel⟩
abbrev k_X0_isLike : zMi := (yX0_isLike, cX0_isLike, 2, (some .boolean), { frames := 1, cells := 0, slots := 0, locals := 22 })
theorem m_X0_isLike : zMw (k_X0_isLike) 1 := ⟨zGB_of ⟨List.mem_of_getElem? (i := 54) (by decide +kernel), by decide +kernel⟩, zGB_of ⟨List.mem_of_getElem? (i := 518) (by decide +kernel), by decide +kernel⟩, ⟨by decide +kernel, by decide +kernel⟩, by decide +kernel⟩
theorem i_X0_isLike : zIn k_X0_isLike := ⟨zGB_of ⟨List.mem_of_getElem? (i := 516) (by decide +kernel), by decide +kernel⟩, zGB_of ⟨List.mem_of_getElem? (i := 517) (by decide +kernel), by decide +kernel⟩⟩
abbrev k_X0_modulo : zMi := (yX0_modulo, cX0_modulo, 5, (some .int), { frames := 0, cells := 0, slots := 0, locals := 0 })
theorem m_X0_modulo : zMw (k_X0_modulo) 1 := ⟨zGB_of ⟨List.mem_of_getElem? (i := 54) (by decide +kernel), by decide +kernel⟩, zGB_of ⟨List.mem_of_getElem? (i := 495) (by decide +kernel), by decide +kernel⟩, ⟨by decide +kernel, by decide +kernel⟩, by decide +kernel⟩
theorem i_X0_modulo : zIn k_X0_modulo := ⟨zGB_of ⟨List.mem_of_getElem? (i := 493) (by decide +kernel), by decide +kernel⟩, zGB_of ⟨List.mem_of_getElem? (i := 494) (by decide +kernel), by decide +kernel⟩⟩
abbrev k_X0_negate : zMi := (yX0_negate, cX0_negate, 1, none, { frames := 0, cells := 0, slots := 0, locals := 0 })
theorem m_X0_negate : zMw (k_X0_negate) 0 := ⟨zGB_of ⟨List.mem_of_getElem? (i := 54) (by decide +kernel), by decide +kernel⟩, zGB_of ⟨List.mem_of_getElem? (i := 402) (by decide +kernel), by decide +kernel⟩, ⟨by decide +kernel, by decide +kernel⟩, by decide +kernel⟩
theorem i_X0_negate : zIn k_X0_negate := ⟨zGB_of ⟨List.mem_of_getElem? (i := 400) (by decide +kernel), by decide +kernel⟩, zGB_of ⟨List.mem_of_getElem? (i := 401) (by decide +kernel), by decide +kernel⟩⟩
abbrev k_X0_plus : zMi := (yX0_plus, cX0_plus, 2, none, { frames := 2, cells := 0, slots := 0, locals := 51 })
theorem m_X0_plus : zMw (k_X0_plus) 1 := ⟨zGB_of ⟨List.mem_of_getElem? (i := 54) (by decide +kernel), by decide +kernel⟩, zGB_of ⟨List.mem_of_getElem? (i := 418) (by decide +kernel), by decide +kernel⟩, ⟨by decide +kernel, by decide +kernel⟩, by decide +kernel⟩
theorem i_X0_plus : zIn k_X0_plus := ⟨zGB_of ⟨List.mem_of_getElem? (i := 416) (by decide +kernel), by decide +kernel⟩, zGB_of ⟨List.mem_of_getElem? (i := 417) (by decide +kernel), by decide +kernel⟩⟩
abbrev k_X0_product : zMi := (yX0_product, cX0_product, 12, none, { frames := 1, cells := 0, slots := 0, locals := 21 })
theorem m_X0_product : zMw (k_X0_product) 2 := ⟨zGB_of ⟨List.mem_of_getElem? (i := 54) (by decide +kernel), by decide +kernel⟩, zGB_of ⟨List.mem_of_getElem? (i := 387) (by decide +kernel), by decide +kernel⟩, ⟨by decide +kernel, by decide +kernel⟩, by decide +kernel⟩
theorem i_X0_product : zIn k_X0_product := ⟨zGB_of ⟨List.mem_of_getElem? (i := 385) (by decide +kernel), by decide +kernel⟩, zGB_of ⟨List.mem_of_getElem? (i := 386) (by decide +kernel), by decide +kernel⟩⟩
abbrev k_X0_put : zMi := (yX0_put, cX0_put, 2, none, { frames := 0, cells := 0, slots := 0, locals := 0 })
theorem m_X0_put : zMw (k_X0_put) 1 := ⟨zGB_of ⟨List.mem_of_getElem? (i := 54) (by decide +kernel), by decide +kernel⟩, zGB_of ⟨List.mem_of_getElem? (i := 379) (by decide +kernel), by decide +kernel⟩, ⟨by decide +kernel, by decide +kernel⟩, by decide +kernel⟩
theorem i_X0_put : zIn k_X0_put := ⟨zGB_of ⟨List.mem_of_getElem? (i := 377) (by decide +kernel), by decide +kernel⟩, zGB_of ⟨List.mem_of_getElem? (i := 378) (by decide +kernel), by decide +kernel⟩⟩
abbrev k_X0_putBack : zMi := (yX0_putBack, cX0_putBack, 5, (some .int), { frames := 0, cells := 0, slots := 0, locals := 0 })
theorem m_X0_putBack : zMw (k_X0_putBack) 1 := ⟨zGB_of ⟨List.mem_of_getElem? (i := 54) (by decide +kernel), by decide +kernel⟩, zGB_of ⟨List.mem_of_getElem? (i := 614) (by decide +kernel), by decide +kernel⟩, ⟨by decide +kernel, by decide +kernel⟩, by decide +kernel⟩
theorem i_X0_putBack : zIn k_X0_putBack := ⟨zGB_of ⟨List.mem_of_getElem? (i := 613) (by decide +kernel), by decide +kernel⟩, zGB_of ⟨List.mem_of_getElem? (i := 19) (by decide +kernel), by decide +kernel⟩⟩
abbrev k_X0_putDifference : zMi := (yX0_putDifference, cX0_putDifference, 8, none, { frames := 1, cells := 0, slots := 0, locals := 24 })
theorem m_X0_putDifference : zMw (k_X0_putDifference) 2 := ⟨zGB_of ⟨List.mem_of_getElem? (i := 54) (by decide +kernel), by decide +kernel⟩, zGB_of ⟨List.mem_of_getElem? (i := 435) (by decide +kernel), by decide +kernel⟩, ⟨by decide +kernel, by decide +kernel⟩, by decide +kernel⟩
theorem i_X0_putDifference : zIn k_X0_putDifference := ⟨zGB_of ⟨List.mem_of_getElem? (i := 434) (by decide +kernel), by decide +kernel⟩, zGB_of ⟨List.mem_of_getElem? (i := 7) (by decide +kernel), by decide +kernel⟩⟩
abbrev k_X0_sixteenBits : zMi := (yX0_sixteenBits, cX0_sixteenBits, 10, (some .int), { frames := 0, cells := 0, slots := 0, locals := 0 })
theorem m_X0_sixteenBits : zMw (k_X0_sixteenBits) 1 := ⟨zGB_of ⟨List.mem_of_getElem? (i := 54) (by decide +kernel), by decide +kernel⟩, zGB_of ⟨List.mem_of_getElem? (i := 503) (by decide +kernel), by decide +kernel⟩, ⟨by decide +kernel, by decide +kernel⟩, by decide +kernel⟩
theorem i_X0_sixteenBits : zIn k_X0_sixteenBits := ⟨zGB_of ⟨List.mem_of_getElem? (i := 501) (by decide +kernel), by decide +kernel⟩, zGB_of ⟨List.mem_of_getElem? (i := 502) (by decide +kernel), by decide +kernel⟩⟩
abbrev k_X0_takeAway : zMi := (yX0_takeAway, cX0_takeAway, 9, (some .long), { frames := 0, cells := 0, slots := 0, locals := 0 })
theorem m_X0_takeAway : zMw (k_X0_takeAway) 2 := ⟨zGB_of ⟨List.mem_of_getElem? (i := 54) (by decide +kernel), by decide +kernel⟩, zGB_of ⟨List.mem_of_getElem? (i := 610) (by decide +kernel), by decide +kernel⟩, ⟨by decide +kernel, by decide +kernel⟩, by decide +kernel⟩
theorem i_X0_takeAway : zIn k_X0_takeAway := ⟨zGB_of ⟨List.mem_of_getElem? (i := 609) (by decide +kernel), by decide +kernel⟩, zGB_of ⟨List.mem_of_getElem? (i := 18) (by decide +kernel), by decide +kernel⟩⟩
abbrev k_X0_takeQuotient : zMi := (yX0_takeQuotient, cX0_takeQuotient, 10, (some .int), { frames := 2, cells := 0, slots := 0, locals := 52 })
theorem m_X0_takeQuotient : zMw (k_X0_takeQuotient) 2 := ⟨zGB_of ⟨List.mem_of_getElem? (i := 54) (by decide +kernel), by decide +kernel⟩, zGB_of ⟨List.mem_of_getElem? (i := 602) (by decide +kernel), by decide +kernel⟩, ⟨by decide +kernel, by decide +kernel⟩, by decide +kernel⟩
theorem i_X0_takeQuotient : zIn k_X0_takeQuotient := ⟨zGB_of ⟨List.mem_of_getElem? (i := 600) (by decide +kernel), by decide +kernel⟩, zGB_of ⟨List.mem_of_getElem? (i := 601) (by decide +kernel), by decide +kernel⟩⟩
abbrev k_X0_times : zMi := (yX0_times, cX0_times, 9, none, { frames := 1, cells := 0, slots := 0, locals := 24 })
theorem m_X0_times : zMw (k_X0_times) 1 := ⟨zGB_of ⟨List.mem_of_getElem? (i := 54) (by decide +kernel), by decide +kernel⟩, zGB_of ⟨List.mem_of_getElem? (i := 398) (by decide +kernel), by decide +kernel⟩, ⟨by decide +kernel, by decide +kernel⟩, by decide +kernel⟩
theorem i_X0_times : zIn k_X0_times := ⟨zGB_of ⟨List.mem_of_getElem? (i := 396) (by decide +kernel), by decide +kernel⟩, zGB_of ⟨List.mem_of_getElem? (i := 397) (by decide +kernel), by decide +kernel⟩⟩
abbrev k_X0_trim : zMi := (yX0_trim, cX0_trim, 1, none, { frames := 0, cells := 0, slots := 0, locals := 0 })
theorem m_X0_trim : zMw (k_X0_trim) 0 := ⟨zGB_of ⟨List.mem_of_getElem? (i := 54) (by decide +kernel), by decide +kernel⟩, zGB_of ⟨List.mem_of_getElem? (i := 393) (by decide +kernel), by decide +kernel⟩, ⟨by decide +kernel, by decide +kernel⟩, by decide +kernel⟩
theorem i_X0_trim : zIn k_X0_trim := ⟨zGB_of ⟨List.mem_of_getElem? (i := 392) (by decide +kernel), by decide +kernel⟩, zGB_of ⟨List.mem_of_getElem? (i := 4) (by decide +kernel), by decide +kernel⟩⟩
abbrev k_X1_addPart : zMi := (yX1_addPart, cX1_addPart, 4, (some .boolean), { frames := 0, cells := 0, slots := 0, locals := 0 })
theorem m_X1_addPart : zMw (k_X1_addPart) 3 := ⟨zGB_of ⟨List.mem_of_getElem? (i := 59) (by decide +kernel), by decide +kernel⟩, zGB_of ⟨List.mem_of_getElem? (i := 531) (by decide +kernel), by decide +kernel⟩, ⟨by decide +kernel, by decide +kernel⟩, by decide +kernel⟩
theorem i_X1_addPart : zIn k_X1_addPart := ⟨zGB_of ⟨List.mem_of_getElem? (i := 529) (by decide +kernel), by decide +kernel⟩, zGB_of ⟨List.mem_of_getElem? (i := 530) (by decide +kernel), by decide +kernel⟩⟩
abbrev k_X1_init : zMi := (yX1_init, cX1_init, 1, none, { frames := 1, cells := 3, slots := 12, locals := 20 })
theorem m_X1_init : zMw (k_X1_init) 0 := ⟨zGB_of ⟨List.mem_of_getElem? (i := 59) (by decide +kernel), by decide +kernel⟩, zGB_of ⟨List.mem_of_getElem? (i := 253) (by decide +kernel), by decide +kernel⟩, ⟨by decide +kernel, by decide +kernel⟩, by decide +kernel⟩
theorem i_X1_init : Cond.instanceMethod yX1_init ∈ zGB := zGB_of ⟨List.mem_of_getElem? (i := 252) (by decide +kernel), by decide +kernel⟩
abbrev k_X2_add : zMi := (yX2_add, cX2_add, 4, none, { frames := 4, cells := 0, slots := 0, locals := 95 })
theorem m_X2_add : zMw (k_X2_add) 3 := ⟨zGB_of ⟨List.mem_of_getElem? (i := 55) (by decide +kernel), by decide +kernel⟩, zGB_of ⟨List.mem_of_getElem? (i := 575) (by decide +kernel), by decide +kernel⟩, ⟨by decide +kernel, by decide +kernel⟩, by decide +kernel⟩
theorem i_X2_add : zIn k_X2_add := ⟨zGB_of ⟨List.mem_of_getElem? (i := 573) (by decide +kernel), by decide +kernel⟩, zGB_of ⟨List.mem_of_getElem? (i := 574) (by decide +kernel), by decide +kernel⟩⟩
abbrev k_X2_addUpon : zMi := (yX2_addUpon, cX2_addUpon, 4, none, { frames := 3, cells := 0, slots := 0, locals := 72 })
theorem m_X2_addUpon : zMw (k_X2_addUpon) 3 := ⟨zGB_of ⟨List.mem_of_getElem? (i := 55) (by decide +kernel), by decide +kernel⟩, zGB_of ⟨List.mem_of_getElem? (i := 579) (by decide +kernel), by decide +kernel⟩, ⟨by decide +kernel, by decide +kernel⟩, by decide +kernel⟩
theorem i_X2_addUpon : zIn k_X2_addUpon := ⟨zGB_of ⟨List.mem_of_getElem? (i := 578) (by decide +kernel), by decide +kernel⟩, zGB_of ⟨List.mem_of_getElem? (i := 15) (by decide +kernel), by decide +kernel⟩⟩
abbrev k_X2_init : zMi := (yX2_init, cX2_init, 1, none, { frames := 2, cells := 8, slots := 2652, locals := 41 })
theorem m_X2_init : zMw (k_X2_init) 0 := ⟨zGB_of ⟨List.mem_of_getElem? (i := 55) (by decide +kernel), by decide +kernel⟩, zGB_of ⟨List.mem_of_getElem? (i := 123) (by decide +kernel), by decide +kernel⟩, ⟨by decide +kernel, by decide +kernel⟩, by decide +kernel⟩
theorem i_X2_init : Cond.instanceMethod yX2_init ∈ zGB := zGB_of ⟨List.mem_of_getElem? (i := 122) (by decide +kernel), by decide +kernel⟩
abbrev k_X2_open : zMi := (yX2_open, cX2_open, 1, none, { frames := 1, cells := 0, slots := 0, locals := 21 })
theorem m_X2_open : zMw (k_X2_open) 0 := ⟨zGB_of ⟨List.mem_of_getElem? (i := 55) (by decide +kernel), by decide +kernel⟩, zGB_of ⟨List.mem_of_getElem? (i := 561) (by decide +kernel), by decide +kernel⟩, ⟨by decide +kernel, by decide +kernel⟩, by decide +kernel⟩
theorem i_X2_open : zIn k_X2_open := ⟨zGB_of ⟨List.mem_of_getElem? (i := 559) (by decide +kernel), by decide +kernel⟩, zGB_of ⟨List.mem_of_getElem? (i := 560) (by decide +kernel), by decide +kernel⟩⟩
abbrev k_X2_read : zMi := (yX2_read, cX2_read, 6, none, { frames := 4, cells := 0, slots := 0, locals := 110 })
theorem m_X2_read : zMw (k_X2_read) 1 := ⟨zGB_of ⟨List.mem_of_getElem? (i := 55) (by decide +kernel), by decide +kernel⟩, zGB_of ⟨List.mem_of_getElem? (i := 586) (by decide +kernel), by decide +kernel⟩, ⟨by decide +kernel, by decide +kernel⟩, by decide +kernel⟩
theorem i_X2_read : zIn k_X2_read := ⟨zGB_of ⟨List.mem_of_getElem? (i := 584) (by decide +kernel), by decide +kernel⟩, zGB_of ⟨List.mem_of_getElem? (i := 585) (by decide +kernel), by decide +kernel⟩⟩
abbrev k_X2_readFigures : zMi := (yX2_readFigures, cX2_readFigures, 9, none, { frames := 3, cells := 0, slots := 0, locals := 81 })
theorem m_X2_readFigures : zMw (k_X2_readFigures) 3 := ⟨zGB_of ⟨List.mem_of_getElem? (i := 55) (by decide +kernel), by decide +kernel⟩, zGB_of ⟨List.mem_of_getElem? (i := 618) (by decide +kernel), by decide +kernel⟩, ⟨by decide +kernel, by decide +kernel⟩, by decide +kernel⟩
theorem i_X2_readFigures : zIn k_X2_readFigures := ⟨zGB_of ⟨List.mem_of_getElem? (i := 617) (by decide +kernel), by decide +kernel⟩, zGB_of ⟨List.mem_of_getElem? (i := 20) (by decide +kernel), by decide +kernel⟩⟩
abbrev k_X2_readWhole : zMi := (yX2_readWhole, cX2_readWhole, 10, (some .boolean), { frames := 3, cells := 0, slots := 0, locals := 81 })
theorem m_X2_readWhole : zMw (k_X2_readWhole) 3 := ⟨zGB_of ⟨List.mem_of_getElem? (i := 55) (by decide +kernel), by decide +kernel⟩, zGB_of ⟨List.mem_of_getElem? (i := 598) (by decide +kernel), by decide +kernel⟩, ⟨by decide +kernel, by decide +kernel⟩, by decide +kernel⟩
theorem i_X2_readWhole : zIn k_X2_readWhole := ⟨zGB_of ⟨List.mem_of_getElem? (i := 597) (by decide +kernel), by decide +kernel⟩, zGB_of ⟨List.mem_of_getElem? (i := 17) (by decide +kernel), by decide +kernel⟩⟩
abbrev k_X2_scale : zMi := (yX2_scale, cX2_scale, 2, none, { frames := 2, cells := 0, slots := 0, locals := 52 })
theorem m_X2_scale : zMw (k_X2_scale) 0 := ⟨zGB_of ⟨List.mem_of_getElem? (i := 55) (by decide +kernel), by decide +kernel⟩, zGB_of ⟨List.mem_of_getElem? (i := 590) (by decide +kernel), by decide +kernel⟩, ⟨by decide +kernel, by decide +kernel⟩, by decide +kernel⟩
theorem i_X2_scale : zIn k_X2_scale := ⟨zGB_of ⟨List.mem_of_getElem? (i := 589) (by decide +kernel), by decide +kernel⟩, zGB_of ⟨List.mem_of_getElem? (i := 16) (by decide +kernel), by decide +kernel⟩⟩
abbrev k_X3_behindPoint : zMi := (yX3_behindPoint, cX3_behindPoint, 2, (some .int), { frames := 0, cells := 0, slots := 0, locals := 0 })
theorem m_X3_behindPoint : zMw (k_X3_behindPoint) 1 := ⟨zGB_of ⟨List.mem_of_getElem? (i := 57) (by decide +kernel), by decide +kernel⟩, zGB_of ⟨List.mem_of_getElem? (i := 647) (by decide +kernel), by decide +kernel⟩, ⟨by decide +kernel, by decide +kernel⟩, by decide +kernel⟩
theorem i_X3_behindPoint : zIn k_X3_behindPoint := ⟨zGB_of ⟨List.mem_of_getElem? (i := 645) (by decide +kernel), by decide +kernel⟩, zGB_of ⟨List.mem_of_getElem? (i := 646) (by decide +kernel), by decide +kernel⟩⟩
abbrev k_X3_comesAt : zMi := (yX3_comesAt, cX3_comesAt, 6, (some .boolean), { frames := 1, cells := 0, slots := 0, locals := 21 })
theorem m_X3_comesAt : zMw (k_X3_comesAt) 3 := ⟨zGB_of ⟨List.mem_of_getElem? (i := 57) (by decide +kernel), by decide +kernel⟩, zGB_of ⟨List.mem_of_getElem? (i := 668) (by decide +kernel), by decide +kernel⟩, ⟨by decide +kernel, by decide +kernel⟩, by decide +kernel⟩
theorem i_X3_comesAt : zIn k_X3_comesAt := ⟨zGB_of ⟨List.mem_of_getElem? (i := 667) (by decide +kernel), by decide +kernel⟩, zGB_of ⟨List.mem_of_getElem? (i := 22) (by decide +kernel), by decide +kernel⟩⟩
abbrev k_X3_firstDifference : zMi := (yX3_firstDifference, cX3_firstDifference, 4, (some .int), { frames := 1, cells := 0, slots := 0, locals := 24 })
theorem m_X3_firstDifference : zMw (k_X3_firstDifference) 1 := ⟨zGB_of ⟨List.mem_of_getElem? (i := 57) (by decide +kernel), by decide +kernel⟩, zGB_of ⟨List.mem_of_getElem? (i := 680) (by decide +kernel), by decide +kernel⟩, ⟨by decide +kernel, by decide +kernel⟩, by decide +kernel⟩
theorem i_X3_firstDifference : zIn k_X3_firstDifference := ⟨zGB_of ⟨List.mem_of_getElem? (i := 678) (by decide +kernel), by decide +kernel⟩, zGB_of ⟨List.mem_of_getElem? (i := 679) (by decide +kernel), by decide +kernel⟩⟩
abbrev k_X3_howOften : zMi := (yX3_howOften, cX3_howOften, 4, (some .int), { frames := 1, cells := 0, slots := 0, locals := 21 })
theorem m_X3_howOften : zMw (k_X3_howOften) 1 := ⟨zGB_of ⟨List.mem_of_getElem? (i := 57) (by decide +kernel), by decide +kernel⟩, zGB_of ⟨List.mem_of_getElem? (i := 655) (by decide +kernel), by decide +kernel⟩, ⟨by decide +kernel, by decide +kernel⟩, by decide +kernel⟩
theorem i_X3_howOften : zIn k_X3_howOften := ⟨zGB_of ⟨List.mem_of_getElem? (i := 653) (by decide +kernel), by decide +kernel⟩, zGB_of ⟨List.mem_of_getElem? (i := 654) (by decide +kernel), by decide +kernel⟩⟩
abbrev k_X3_init : zMi := (yX3_init, cX3_init, 1, none, { frames := 1, cells := 1, slots := 100, locals := 20 })
theorem m_X3_init : zMw (k_X3_init) 0 := ⟨zGB_of ⟨List.mem_of_getElem? (i := 57) (by decide +kernel), by decide +kernel⟩, zGB_of ⟨List.mem_of_getElem? (i := 191) (by decide +kernel), by decide +kernel⟩, ⟨by decide +kernel, by decide +kernel⟩, by decide +kernel⟩
theorem i_X3_init : Cond.instanceMethod yX3_init ∈ zGB := zGB_of ⟨List.mem_of_getElem? (i := 190) (by decide +kernel), by decide +kernel⟩
abbrev k_X3_placeOf : zMi := (yX3_placeOf, cX3_placeOf, 4, (some .int), { frames := 2, cells := 0, slots := 0, locals := 46 })
theorem m_X3_placeOf : zMw (k_X3_placeOf) 2 := ⟨zGB_of ⟨List.mem_of_getElem? (i := 57) (by decide +kernel), by decide +kernel⟩, zGB_of ⟨List.mem_of_getElem? (i := 664) (by decide +kernel), by decide +kernel⟩, ⟨by decide +kernel, by decide +kernel⟩, by decide +kernel⟩
theorem i_X3_placeOf : zIn k_X3_placeOf := ⟨zGB_of ⟨List.mem_of_getElem? (i := 662) (by decide +kernel), by decide +kernel⟩, zGB_of ⟨List.mem_of_getElem? (i := 663) (by decide +kernel), by decide +kernel⟩⟩
abbrev k_X3_take : zMi := (yX3_take, cX3_take, 8, (some .boolean), { frames := 0, cells := 0, slots := 0, locals := 0 })
theorem m_X3_take : zMw (k_X3_take) 3 := ⟨zGB_of ⟨List.mem_of_getElem? (i := 57) (by decide +kernel), by decide +kernel⟩, zGB_of ⟨List.mem_of_getElem? (i := 623) (by decide +kernel), by decide +kernel⟩, ⟨by decide +kernel, by decide +kernel⟩, by decide +kernel⟩
theorem i_X3_take : zIn k_X3_take := ⟨zGB_of ⟨List.mem_of_getElem? (i := 621) (by decide +kernel), by decide +kernel⟩, zGB_of ⟨List.mem_of_getElem? (i := 622) (by decide +kernel), by decide +kernel⟩⟩
abbrev k_X4_goOn : zMi := (yX4_goOn, cX4_goOn, 8, none, { frames := 3, cells := 0, slots := 0, locals := 72 })
theorem m_X4_goOn : zMw (k_X4_goOn) 3 := ⟨zGB_of ⟨List.mem_of_getElem? (i := 53) (by decide +kernel), by decide +kernel⟩, zGB_of ⟨List.mem_of_getElem? (i := 383) (by decide +kernel), by decide +kernel⟩, ⟨by decide +kernel, by decide +kernel⟩, by decide +kernel⟩
theorem i_X4_goOn : zIn k_X4_goOn := ⟨zGB_of ⟨List.mem_of_getElem? (i := 381) (by decide +kernel), by decide +kernel⟩, zGB_of ⟨List.mem_of_getElem? (i := 382) (by decide +kernel), by decide +kernel⟩⟩
abbrev k_X4_init : zMi := (yX4_init, cX4_init, 1, none, { frames := 2, cells := 8, slots := 692, locals := 41 })
theorem m_X4_init : zMw (k_X4_init) 0 := ⟨zGB_of ⟨List.mem_of_getElem? (i := 53) (by decide +kernel), by decide +kernel⟩, zGB_of ⟨List.mem_of_getElem? (i := 80) (by decide +kernel), by decide +kernel⟩, ⟨by decide +kernel, by decide +kernel⟩, by decide +kernel⟩
theorem i_X4_init : Cond.instanceMethod yX4_init ∈ zGB := zGB_of ⟨List.mem_of_getElem? (i := 79) (by decide +kernel), by decide +kernel⟩
abbrev k_X4_multiplyInto : zMi := (yX4_multiplyInto, cX4_multiplyInto, 4, none, { frames := 2, cells := 0, slots := 0, locals := 52 })
theorem m_X4_multiplyInto : zMw (k_X4_multiplyInto) 3 := ⟨zGB_of ⟨List.mem_of_getElem? (i := 53) (by decide +kernel), by decide +kernel⟩, zGB_of ⟨List.mem_of_getElem? (i := 455) (by decide +kernel), by decide +kernel⟩, ⟨by decide +kernel, by decide +kernel⟩, by decide +kernel⟩
theorem i_X4_multiplyInto : zIn k_X4_multiplyInto := ⟨zGB_of ⟨List.mem_of_getElem? (i := 454) (by decide +kernel), by decide +kernel⟩, zGB_of ⟨List.mem_of_getElem? (i := 8) (by decide +kernel), by decide +kernel⟩⟩
abbrev k_X4_putTogether : zMi := (yX4_putTogether, cX4_putTogether, 6, none, { frames := 3, cells := 0, slots := 0, locals := 75 })
theorem m_X4_putTogether : zMw (k_X4_putTogether) 3 := ⟨zGB_of ⟨List.mem_of_getElem? (i := 53) (by decide +kernel), by decide +kernel⟩, zGB_of ⟨List.mem_of_getElem? (i := 451) (by decide +kernel), by decide +kernel⟩, ⟨by decide +kernel, by decide +kernel⟩, by decide +kernel⟩
theorem i_X4_putTogether : zIn k_X4_putTogether := ⟨zGB_of ⟨List.mem_of_getElem? (i := 449) (by decide +kernel), by decide +kernel⟩, zGB_of ⟨List.mem_of_getElem? (i := 450) (by decide +kernel), by decide +kernel⟩⟩
abbrev k_X5_hasNumbersOf : zMi := (yX5_hasNumbersOf, cX5_hasNumbersOf, 2, (some .boolean), { frames := 2, cells := 0, slots := 0, locals := 43 })
theorem m_X5_hasNumbersOf : zMw (k_X5_hasNumbersOf) 1 := ⟨zGB_of ⟨List.mem_of_getElem? (i := 56) (by decide +kernel), by decide +kernel⟩, zGB_of ⟨List.mem_of_getElem? (i := 514) (by decide +kernel), by decide +kernel⟩, ⟨by decide +kernel, by decide +kernel⟩, by decide +kernel⟩
theorem i_X5_hasNumbersOf : zIn k_X5_hasNumbersOf := ⟨zGB_of ⟨List.mem_of_getElem? (i := 512) (by decide +kernel), by decide +kernel⟩, zGB_of ⟨List.mem_of_getElem? (i := 513) (by decide +kernel), by decide +kernel⟩⟩
abbrev k_X5_init : zMi := (yX5_init, cX5_init, 1, none, { frames := 2, cells := 8, slots := 437, locals := 41 })
theorem m_X5_init : zMw (k_X5_init) 0 := ⟨zGB_of ⟨List.mem_of_getElem? (i := 56) (by decide +kernel), by decide +kernel⟩, zGB_of ⟨List.mem_of_getElem? (i := 143) (by decide +kernel), by decide +kernel⟩, ⟨by decide +kernel, by decide +kernel⟩, by decide +kernel⟩
theorem i_X5_init : Cond.instanceMethod yX5_init ∈ zGB := zGB_of ⟨List.mem_of_getElem? (i := 142) (by decide +kernel), by decide +kernel⟩
abbrev k_X5_number : zMi := (yX5_number, cX5_number, 2, (some (.object "ConstantMill$Big")), { frames := 0, cells := 0, slots := 0, locals := 0 })
theorem m_X5_number : zMw (k_X5_number) 1 := ⟨zGB_of ⟨List.mem_of_getElem? (i := 56) (by decide +kernel), by decide +kernel⟩, zGB_of ⟨List.mem_of_getElem? (i := 475) (by decide +kernel), by decide +kernel⟩, ⟨by decide +kernel, by decide +kernel⟩, by decide +kernel⟩
theorem i_X5_number : zIn k_X5_number := ⟨zGB_of ⟨List.mem_of_getElem? (i := 473) (by decide +kernel), by decide +kernel⟩, zGB_of ⟨List.mem_of_getElem? (i := 474) (by decide +kernel), by decide +kernel⟩⟩
abbrev k_X5_open : zMi := (yX5_open, cX5_open, 3, none, { frames := 1, cells := 0, slots := 0, locals := 21 })
theorem m_X5_open : zMw (k_X5_open) 2 := ⟨zGB_of ⟨List.mem_of_getElem? (i := 56) (by decide +kernel), by decide +kernel⟩, zGB_of ⟨List.mem_of_getElem? (i := 375) (by decide +kernel), by decide +kernel⟩, ⟨by decide +kernel, by decide +kernel⟩, by decide +kernel⟩
theorem i_X5_open : zIn k_X5_open := ⟨zGB_of ⟨List.mem_of_getElem? (i := 373) (by decide +kernel), by decide +kernel⟩, zGB_of ⟨List.mem_of_getElem? (i := 374) (by decide +kernel), by decide +kernel⟩⟩
abbrev k_X5_terms : zMi := (yX5_terms, cX5_terms, 1, (some .int), { frames := 0, cells := 0, slots := 0, locals := 0 })
theorem m_X5_terms : zMw (k_X5_terms) 0 := ⟨zGB_of ⟨List.mem_of_getElem? (i := 56) (by decide +kernel), by decide +kernel⟩, zGB_of ⟨List.mem_of_getElem? (i := 439) (by decide +kernel), by decide +kernel⟩, ⟨by decide +kernel, by decide +kernel⟩, by decide +kernel⟩
theorem i_X5_terms : zIn k_X5_terms := ⟨zGB_of ⟨List.mem_of_getElem? (i := 437) (by decide +kernel), by decide +kernel⟩, zGB_of ⟨List.mem_of_getElem? (i := 438) (by decide +kernel), by decide +kernel⟩⟩
abbrev k_X6_firstFall : zMi := (yX6_firstFall, cX6_firstFall, 5, (some .int), { frames := 3, cells := 0, slots := 0, locals := 73 })
theorem m_X6_firstFall : zMw (k_X6_firstFall) 3 := ⟨zGB_of ⟨List.mem_of_getElem? (i := 58) (by decide +kernel), by decide +kernel⟩, zGB_of ⟨List.mem_of_getElem? (i := 348) (by decide +kernel), by decide +kernel⟩, ⟨by decide +kernel, by decide +kernel⟩, by decide +kernel⟩
theorem i_X6_firstFall : zIn k_X6_firstFall := ⟨zGB_of ⟨List.mem_of_getElem? (i := 346) (by decide +kernel), by decide +kernel⟩, zGB_of ⟨List.mem_of_getElem? (i := 347) (by decide +kernel), by decide +kernel⟩⟩
abbrev k_X6_init : zMi := (yX6_init, cX6_init, 1, none, { frames := 1, cells := 3, slots := 12, locals := 20 })
theorem m_X6_init : zMw (k_X6_init) 0 := ⟨zGB_of ⟨List.mem_of_getElem? (i := 58) (by decide +kernel), by decide +kernel⟩, zGB_of ⟨List.mem_of_getElem? (i := 230) (by decide +kernel), by decide +kernel⟩, ⟨by decide +kernel, by decide +kernel⟩, by decide +kernel⟩
theorem i_X6_init : Cond.instanceMethod yX6_init ∈ zGB := zGB_of ⟨List.mem_of_getElem? (i := 229) (by decide +kernel), by decide +kernel⟩
abbrev k_X6_lower : zMi := (yX6_lower, cX6_lower, 4, (some .long), { frames := 0, cells := 0, slots := 0, locals := 0 })
theorem m_X6_lower : zMw (k_X6_lower) 2 := ⟨zGB_of ⟨List.mem_of_getElem? (i := 58) (by decide +kernel), by decide +kernel⟩, zGB_of ⟨List.mem_of_getElem? (i := 363) (by decide +kernel), by decide +kernel⟩, ⟨by decide +kernel, by decide +kernel⟩, by decide +kernel⟩
theorem s_X6_lower : Cond.static k_X6_lower.1 ∈ zGB := zGB_of ⟨List.mem_of_getElem? (i := 362) (by decide +kernel), by decide +kernel⟩
abbrev k_X6_outgrowsBound : zMi := (yX6_outgrowsBound, cX6_outgrowsBound, 12, (some .boolean), { frames := 2, cells := 0, slots := 0, locals := 42 })
theorem m_X6_outgrowsBound : zMw (k_X6_outgrowsBound) 1 := ⟨zGB_of ⟨List.mem_of_getElem? (i := 58) (by decide +kernel), by decide +kernel⟩, zGB_of ⟨List.mem_of_getElem? (i := 353) (by decide +kernel), by decide +kernel⟩, ⟨by decide +kernel, by decide +kernel⟩, by decide +kernel⟩
theorem i_X6_outgrowsBound : zIn k_X6_outgrowsBound := ⟨zGB_of ⟨List.mem_of_getElem? (i := 352) (by decide +kernel), by decide +kernel⟩, zGB_of ⟨List.mem_of_getElem? (i := 2) (by decide +kernel), by decide +kernel⟩⟩
abbrev k_X6_setRule : zMi := (yX6_setRule, cX6_setRule, 5, none, { frames := 1, cells := 0, slots := 0, locals := 20 })
theorem m_X6_setRule : zMw (k_X6_setRule) 4 := ⟨zGB_of ⟨List.mem_of_getElem? (i := 58) (by decide +kernel), by decide +kernel⟩, zGB_of ⟨List.mem_of_getElem? (i := 320) (by decide +kernel), by decide +kernel⟩, ⟨by decide +kernel, by decide +kernel⟩, by decide +kernel⟩
theorem i_X6_setRule : zIn k_X6_setRule := ⟨zGB_of ⟨List.mem_of_getElem? (i := 318) (by decide +kernel), by decide +kernel⟩, zGB_of ⟨List.mem_of_getElem? (i := 319) (by decide +kernel), by decide +kernel⟩⟩
abbrev k_X6_upper : zMi := (yX6_upper, cX6_upper, 12, (some .long), { frames := 0, cells := 0, slots := 0, locals := 0 })
theorem m_X6_upper : zMw (k_X6_upper) 2 := ⟨zGB_of ⟨List.mem_of_getElem? (i := 58) (by decide +kernel), by decide +kernel⟩, zGB_of ⟨List.mem_of_getElem? (i := 359) (by decide +kernel), by decide +kernel⟩, ⟨by decide +kernel, by decide +kernel⟩, by decide +kernel⟩
theorem s_X6_upper : Cond.static k_X6_upper.1 ∈ zGB := zGB_of ⟨List.mem_of_getElem? (i := 358) (by decide +kernel), by decide +kernel⟩
abbrev k_X6_value : zMi := (yX6_value, cX6_value, 3, (some .int), { frames := 1, cells := 0, slots := 0, locals := 20 })
theorem m_X6_value : zMw (k_X6_value) 2 := ⟨zGB_of ⟨List.mem_of_getElem? (i := 58) (by decide +kernel), by decide +kernel⟩, zGB_of ⟨List.mem_of_getElem? (i := 340) (by decide +kernel), by decide +kernel⟩, ⟨by decide +kernel, by decide +kernel⟩, by decide +kernel⟩
theorem i_X6_value : zIn k_X6_value := ⟨zGB_of ⟨List.mem_of_getElem? (i := 338) (by decide +kernel), by decide +kernel⟩, zGB_of ⟨List.mem_of_getElem? (i := 339) (by decide +kernel), by decide +kernel⟩⟩
abbrev k_X7_about : zMi := (yX7_about, cX7_about, 2, (some .int), { frames := 0, cells := 0, slots := 0, locals := 0 })
theorem m_X7_about : zMw (k_X7_about) 1 := ⟨zGB_of ⟨List.mem_of_getElem? (i := 52) (by decide +kernel), by decide +kernel⟩, zGB_of ⟨List.mem_of_getElem? (i := 672) (by decide +kernel), by decide +kernel⟩, ⟨by decide +kernel, by decide +kernel⟩, by decide +kernel⟩
theorem i_X7_about : zIn k_X7_about := ⟨zGB_of ⟨List.mem_of_getElem? (i := 670) (by decide +kernel), by decide +kernel⟩, zGB_of ⟨List.mem_of_getElem? (i := 671) (by decide +kernel), by decide +kernel⟩⟩
abbrev k_X7_agree : zMi := (yX7_agree, cX7_agree, 9, (some .int), { frames := 7, cells := 0, slots := 0, locals := 173 })
theorem m_X7_agree : zMw (k_X7_agree) 5 := ⟨zGB_of ⟨List.mem_of_getElem? (i := 52) (by decide +kernel), by decide +kernel⟩, zGB_of ⟨List.mem_of_getElem? (i := 676) (by decide +kernel), by decide +kernel⟩, ⟨by decide +kernel, by decide +kernel⟩, by decide +kernel⟩
theorem i_X7_agree : zIn k_X7_agree := ⟨zGB_of ⟨List.mem_of_getElem? (i := 674) (by decide +kernel), by decide +kernel⟩, zGB_of ⟨List.mem_of_getElem? (i := 675) (by decide +kernel), by decide +kernel⟩⟩
abbrev k_X7_areFigures : zMi := (yX7_areFigures, cX7_areFigures, 2, (some .boolean), { frames := 0, cells := 0, slots := 0, locals := 0 })
theorem m_X7_areFigures : zMw (k_X7_areFigures) 2 := ⟨zGB_of ⟨List.mem_of_getElem? (i := 52) (by decide +kernel), by decide +kernel⟩, zGB_of ⟨List.mem_of_getElem? (i := 546) (by decide +kernel), by decide +kernel⟩, ⟨by decide +kernel, by decide +kernel⟩, by decide +kernel⟩
theorem s_X7_areFigures : Cond.static k_X7_areFigures.1 ∈ zGB := zGB_of ⟨List.mem_of_getElem? (i := 545) (by decide +kernel), by decide +kernel⟩
abbrev k_X7_areTerms : zMi := (yX7_areTerms, cX7_areTerms, 1, (some .boolean), { frames := 0, cells := 0, slots := 0, locals := 0 })
theorem m_X7_areTerms : zMw (k_X7_areTerms) 1 := ⟨zGB_of ⟨List.mem_of_getElem? (i := 52) (by decide +kernel), by decide +kernel⟩, zGB_of ⟨List.mem_of_getElem? (i := 549) (by decide +kernel), by decide +kernel⟩, ⟨by decide +kernel, by decide +kernel⟩, by decide +kernel⟩
theorem s_X7_areTerms : Cond.static k_X7_areTerms.1 ∈ zGB := zGB_of ⟨List.mem_of_getElem? (i := 548) (by decide +kernel), by decide +kernel⟩
abbrev k_X7_at : zMi := (yX7_at, cX7_at, 5, (some .int), { frames := 2, cells := 0, slots := 0, locals := 42 })
theorem m_X7_at : zMw (k_X7_at) 3 := ⟨zGB_of ⟨List.mem_of_getElem? (i := 52) (by decide +kernel), by decide +kernel⟩, zGB_of ⟨List.mem_of_getElem? (i := 334) (by decide +kernel), by decide +kernel⟩, ⟨by decide +kernel, by decide +kernel⟩, by decide +kernel⟩
theorem i_X7_at : zIn k_X7_at := ⟨zGB_of ⟨List.mem_of_getElem? (i := 332) (by decide +kernel), by decide +kernel⟩, zGB_of ⟨List.mem_of_getElem? (i := 333) (by decide +kernel), by decide +kernel⟩⟩
abbrev k_X7_bits : zMi := (yX7_bits, cX7_bits, 5, (some .int), { frames := 2, cells := 0, slots := 0, locals := 45 })
theorem m_X7_bits : zMw (k_X7_bits) 2 := ⟨zGB_of ⟨List.mem_of_getElem? (i := 52) (by decide +kernel), by decide +kernel⟩, zGB_of ⟨List.mem_of_getElem? (i := 467) (by decide +kernel), by decide +kernel⟩, ⟨by decide +kernel, by decide +kernel⟩, by decide +kernel⟩
theorem i_X7_bits : zIn k_X7_bits := ⟨zGB_of ⟨List.mem_of_getElem? (i := 465) (by decide +kernel), by decide +kernel⟩, zGB_of ⟨List.mem_of_getElem? (i := 466) (by decide +kernel), by decide +kernel⟩⟩
abbrev k_X7_bound : zMi := (yX7_bound, cX7_bound, 5, (some .int), { frames := 1, cells := 0, slots := 0, locals := 26 })
theorem m_X7_bound : zMw (k_X7_bound) 3 := ⟨zGB_of ⟨List.mem_of_getElem? (i := 52) (by decide +kernel), by decide +kernel⟩, zGB_of ⟨List.mem_of_getElem? (i := 329) (by decide +kernel), by decide +kernel⟩, ⟨by decide +kernel, by decide +kernel⟩, by decide +kernel⟩
theorem i_X7_bound : zIn k_X7_bound := ⟨zGB_of ⟨List.mem_of_getElem? (i := 327) (by decide +kernel), by decide +kernel⟩, zGB_of ⟨List.mem_of_getElem? (i := 328) (by decide +kernel), by decide +kernel⟩⟩
abbrev k_X7_clear : zMi := (yX7_clear, cX7_clear, 4, (some .int), { frames := 1, cells := 0, slots := 0, locals := 21 })
theorem m_X7_clear : zMw (k_X7_clear) 1 := ⟨zGB_of ⟨List.mem_of_getElem? (i := 52) (by decide +kernel), by decide +kernel⟩, zGB_of ⟨List.mem_of_getElem? (i := 535) (by decide +kernel), by decide +kernel⟩, ⟨by decide +kernel, by decide +kernel⟩, by decide +kernel⟩
theorem i_X7_clear : zIn k_X7_clear := ⟨zGB_of ⟨List.mem_of_getElem? (i := 533) (by decide +kernel), by decide +kernel⟩, zGB_of ⟨List.mem_of_getElem? (i := 534) (by decide +kernel), by decide +kernel⟩⟩
abbrev k_X7_constantAt : zMi := (yX7_constantAt, cX7_constantAt, 2, (some (.object "ConstantMill$Constant")), { frames := 0, cells := 0, slots := 0, locals := 0 })
theorem m_X7_constantAt : zMw (k_X7_constantAt) 1 := ⟨zGB_of ⟨List.mem_of_getElem? (i := 52) (by decide +kernel), by decide +kernel⟩, zGB_of ⟨List.mem_of_getElem? (i := 526) (by decide +kernel), by decide +kernel⟩, ⟨by decide +kernel, by decide +kernel⟩, by decide +kernel⟩
theorem i_X7_constantAt : zIn k_X7_constantAt := ⟨zGB_of ⟨List.mem_of_getElem? (i := 525) (by decide +kernel), by decide +kernel⟩, zGB_of ⟨List.mem_of_getElem? (i := 11) (by decide +kernel), by decide +kernel⟩⟩
abbrev k_X7_count : zMi := (yX7_count, cX7_count, 2, (some .int), { frames := 2, cells := 0, slots := 0, locals := 44 })
theorem m_X7_count : zMw (k_X7_count) 1 := ⟨zGB_of ⟨List.mem_of_getElem? (i := 52) (by decide +kernel), by decide +kernel⟩, zGB_of ⟨List.mem_of_getElem? (i := 651) (by decide +kernel), by decide +kernel⟩, ⟨by decide +kernel, by decide +kernel⟩, by decide +kernel⟩
theorem i_X7_count : zIn k_X7_count := ⟨zGB_of ⟨List.mem_of_getElem? (i := 649) (by decide +kernel), by decide +kernel⟩, zGB_of ⟨List.mem_of_getElem? (i := 650) (by decide +kernel), by decide +kernel⟩⟩
abbrev k_X7_drawerAt : zMi := (yX7_drawerAt, cX7_drawerAt, 2, (some (.object "ConstantMill$Span")), { frames := 0, cells := 0, slots := 0, locals := 0 })
theorem m_X7_drawerAt : zMw (k_X7_drawerAt) 1 := ⟨zGB_of ⟨List.mem_of_getElem? (i := 52) (by decide +kernel), by decide +kernel⟩, zGB_of ⟨List.mem_of_getElem? (i := 371) (by decide +kernel), by decide +kernel⟩, ⟨by decide +kernel, by decide +kernel⟩, by decide +kernel⟩
theorem i_X7_drawerAt : zIn k_X7_drawerAt := ⟨zGB_of ⟨List.mem_of_getElem? (i := 370) (by decide +kernel), by decide +kernel⟩, zGB_of ⟨List.mem_of_getElem? (i := 3) (by decide +kernel), by decide +kernel⟩⟩
abbrev k_X7_empty : zMi := (yX7_empty, cX7_empty, 3, (some .int), { frames := 1, cells := 0, slots := 0, locals := 21 })
theorem m_X7_empty : zMw (k_X7_empty) 1 := ⟨zGB_of ⟨List.mem_of_getElem? (i := 52) (by decide +kernel), by decide +kernel⟩, zGB_of ⟨List.mem_of_getElem? (i := 459) (by decide +kernel), by decide +kernel⟩, ⟨by decide +kernel, by decide +kernel⟩, by decide +kernel⟩
theorem i_X7_empty : zIn k_X7_empty := ⟨zGB_of ⟨List.mem_of_getElem? (i := 457) (by decide +kernel), by decide +kernel⟩, zGB_of ⟨List.mem_of_getElem? (i := 458) (by decide +kernel), by decide +kernel⟩⟩
abbrev k_X7_emptyDrawersOf : zMi := (yX7_emptyDrawersOf, cX7_emptyDrawersOf, 7, (some .int), { frames := 0, cells := 0, slots := 0, locals := 0 })
theorem m_X7_emptyDrawersOf : zMw (k_X7_emptyDrawersOf) 1 := ⟨zGB_of ⟨List.mem_of_getElem? (i := 52) (by decide +kernel), by decide +kernel⟩, zGB_of ⟨List.mem_of_getElem? (i := 325) (by decide +kernel), by decide +kernel⟩, ⟨by decide +kernel, by decide +kernel⟩, by decide +kernel⟩
theorem i_X7_emptyDrawersOf : zIn k_X7_emptyDrawersOf := ⟨zGB_of ⟨List.mem_of_getElem? (i := 324) (by decide +kernel), by decide +kernel⟩, zGB_of ⟨List.mem_of_getElem? (i := 1) (by decide +kernel), by decide +kernel⟩⟩
abbrev k_X7_enclosePart : zMi := (yX7_enclosePart, cX7_enclosePart, 10, none, { frames := 5, cells := 0, slots := 0, locals := 118 })
theorem m_X7_enclosePart : zMw (k_X7_enclosePart) 4 := ⟨zGB_of ⟨List.mem_of_getElem? (i := 52) (by decide +kernel), by decide +kernel⟩, zGB_of ⟨List.mem_of_getElem? (i := 566) (by decide +kernel), by decide +kernel⟩, ⟨by decide +kernel, by decide +kernel⟩, by decide +kernel⟩
theorem i_X7_enclosePart : zIn k_X7_enclosePart := ⟨zGB_of ⟨List.mem_of_getElem? (i := 565) (by decide +kernel), by decide +kernel⟩, zGB_of ⟨List.mem_of_getElem? (i := 14) (by decide +kernel), by decide +kernel⟩⟩
abbrev k_X7_falls : zMi := (yX7_falls, cX7_falls, 4, (some .int), { frames := 4, cells := 0, slots := 0, locals := 97 })
theorem m_X7_falls : zMw (k_X7_falls) 2 := ⟨zGB_of ⟨List.mem_of_getElem? (i := 52) (by decide +kernel), by decide +kernel⟩, zGB_of ⟨List.mem_of_getElem? (i := 344) (by decide +kernel), by decide +kernel⟩, ⟨by decide +kernel, by decide +kernel⟩, by decide +kernel⟩
theorem i_X7_falls : zIn k_X7_falls := ⟨zGB_of ⟨List.mem_of_getElem? (i := 342) (by decide +kernel), by decide +kernel⟩, zGB_of ⟨List.mem_of_getElem? (i := 343) (by decide +kernel), by decide +kernel⟩⟩
abbrev k_X7_figure : zMi := (yX7_figure, cX7_figure, 2, (some .int), { frames := 1, cells := 0, slots := 0, locals := 21 })
theorem m_X7_figure : zMw (k_X7_figure) 1 := ⟨zGB_of ⟨List.mem_of_getElem? (i := 52) (by decide +kernel), by decide +kernel⟩, zGB_of ⟨List.mem_of_getElem? (i := 643) (by decide +kernel), by decide +kernel⟩, ⟨by decide +kernel, by decide +kernel⟩, by decide +kernel⟩
theorem i_X7_figure : zIn k_X7_figure := ⟨zGB_of ⟨List.mem_of_getElem? (i := 641) (by decide +kernel), by decide +kernel⟩, zGB_of ⟨List.mem_of_getElem? (i := 642) (by decide +kernel), by decide +kernel⟩⟩
abbrev k_X7_figures : zMi := (yX7_figures, cX7_figures, 7, (some .int), { frames := 7, cells := 0, slots := 0, locals := 173 })
theorem m_X7_figures : zMw (k_X7_figures) 4 := ⟨zGB_of ⟨List.mem_of_getElem? (i := 52) (by decide +kernel), by decide +kernel⟩, zGB_of ⟨List.mem_of_getElem? (i := 543) (by decide +kernel), by decide +kernel⟩, ⟨by decide +kernel, by decide +kernel⟩, by decide +kernel⟩
theorem i_X7_figures : zIn k_X7_figures := ⟨zGB_of ⟨List.mem_of_getElem? (i := 541) (by decide +kernel), by decide +kernel⟩, zGB_of ⟨List.mem_of_getElem? (i := 542) (by decide +kernel), by decide +kernel⟩⟩
abbrev k_X7_firstFallOf : zMi := (yX7_firstFallOf, cX7_firstFallOf, 6, (some .int), { frames := 4, cells := 0, slots := 0, locals := 97 })
theorem m_X7_firstFallOf : zMw (k_X7_firstFallOf) 2 := ⟨zGB_of ⟨List.mem_of_getElem? (i := 52) (by decide +kernel), by decide +kernel⟩, zGB_of ⟨List.mem_of_getElem? (i := 553) (by decide +kernel), by decide +kernel⟩, ⟨by decide +kernel, by decide +kernel⟩, by decide +kernel⟩
theorem i_X7_firstFallOf : zIn k_X7_firstFallOf := ⟨zGB_of ⟨List.mem_of_getElem? (i := 552) (by decide +kernel), by decide +kernel⟩, zGB_of ⟨List.mem_of_getElem? (i := 12) (by decide +kernel), by decide +kernel⟩⟩
abbrev k_X7_grind : zMi := (yX7_grind, cX7_grind, 8, (some .int), { frames := 4, cells := 0, slots := 0, locals := 99 })
theorem m_X7_grind : zMw (k_X7_grind) 4 := ⟨zGB_of ⟨List.mem_of_getElem? (i := 52) (by decide +kernel), by decide +kernel⟩, zGB_of ⟨List.mem_of_getElem? (i := 367) (by decide +kernel), by decide +kernel⟩, ⟨by decide +kernel, by decide +kernel⟩, by decide +kernel⟩
theorem i_X7_grind : zIn k_X7_grind := ⟨zGB_of ⟨List.mem_of_getElem? (i := 365) (by decide +kernel), by decide +kernel⟩, zGB_of ⟨List.mem_of_getElem? (i := 366) (by decide +kernel), by decide +kernel⟩⟩
abbrev k_X7_init : zMi := (yX7_init, cX7_init, 2, none, { frames := 3, cells := 148, slots := 7865, locals := 61 })
theorem m_X7_init : zMw (k_X7_init) 0 := ⟨zGB_of ⟨List.mem_of_getElem? (i := 52) (by decide +kernel), by decide +kernel⟩, zGB_of ⟨List.mem_of_getElem? (i := 66) (by decide +kernel), by decide +kernel⟩, ⟨by decide +kernel, by decide +kernel⟩, by decide +kernel⟩
theorem i_X7_init : Cond.instanceMethod yX7_init ∈ zGB := zGB_of ⟨List.mem_of_getElem? (i := 65) (by decide +kernel), by decide +kernel⟩
abbrev k_X7_isCoefficient : zMi := (yX7_isCoefficient, cX7_isCoefficient, 1, (some .boolean), { frames := 0, cells := 0, slots := 0, locals := 0 })
theorem m_X7_isCoefficient : zMw (k_X7_isCoefficient) 1 := ⟨zGB_of ⟨List.mem_of_getElem? (i := 52) (by decide +kernel), by decide +kernel⟩, zGB_of ⟨List.mem_of_getElem? (i := 316) (by decide +kernel), by decide +kernel⟩, ⟨by decide +kernel, by decide +kernel⟩, by decide +kernel⟩
theorem s_X7_isCoefficient : Cond.static k_X7_isCoefficient.1 ∈ zGB := zGB_of ⟨List.mem_of_getElem? (i := 315) (by decide +kernel), by decide +kernel⟩
abbrev k_X7_isRule : zMi := (yX7_isRule, cX7_isRule, 1, (some .boolean), { frames := 0, cells := 0, slots := 0, locals := 0 })
theorem m_X7_isRule : zMw (k_X7_isRule) 1 := ⟨zGB_of ⟨List.mem_of_getElem? (i := 52) (by decide +kernel), by decide +kernel⟩, zGB_of ⟨List.mem_of_getElem? (i := 313) (by decide +kernel), by decide +kernel⟩, ⟨by decide +kernel, by decide +kernel⟩, by decide +kernel⟩
theorem s_X7_isRule : Cond.static k_X7_isRule.1 ∈ zGB := zGB_of ⟨List.mem_of_getElem? (i := 312) (by decide +kernel), by decide +kernel⟩
abbrev k_X7_join : zMi := (yX7_join, cX7_join, 7, (some .int), { frames := 4, cells := 0, slots := 0, locals := 100 })
theorem m_X7_join : zMw (k_X7_join) 3 := ⟨zGB_of ⟨List.mem_of_getElem? (i := 52) (by decide +kernel), by decide +kernel⟩, zGB_of ⟨List.mem_of_getElem? (i := 447) (by decide +kernel), by decide +kernel⟩, ⟨by decide +kernel, by decide +kernel⟩, by decide +kernel⟩
theorem i_X7_join : zIn k_X7_join := ⟨zGB_of ⟨List.mem_of_getElem? (i := 445) (by decide +kernel), by decide +kernel⟩, zGB_of ⟨List.mem_of_getElem? (i := 446) (by decide +kernel), by decide +kernel⟩⟩
abbrev k_X7_more : zMi := (yX7_more, cX7_more, 7, (some .int), { frames := 4, cells := 0, slots := 0, locals := 99 })
theorem m_X7_more : zMw (k_X7_more) 2 := ⟨zGB_of ⟨List.mem_of_getElem? (i := 52) (by decide +kernel), by decide +kernel⟩, zGB_of ⟨List.mem_of_getElem? (i := 443) (by decide +kernel), by decide +kernel⟩, ⟨by decide +kernel, by decide +kernel⟩, by decide +kernel⟩
theorem i_X7_more : zIn k_X7_more := ⟨zGB_of ⟨List.mem_of_getElem? (i := 441) (by decide +kernel), by decide +kernel⟩, zGB_of ⟨List.mem_of_getElem? (i := 442) (by decide +kernel), by decide +kernel⟩⟩
abbrev k_X7_mostTermsOf : zMi := (yX7_mostTermsOf, cX7_mostTermsOf, 6, (some .int), { frames := 4, cells := 0, slots := 0, locals := 97 })
theorem m_X7_mostTermsOf : zMw (k_X7_mostTermsOf) 1 := ⟨zGB_of ⟨List.mem_of_getElem? (i := 52) (by decide +kernel), by decide +kernel⟩, zGB_of ⟨List.mem_of_getElem? (i := 631) (by decide +kernel), by decide +kernel⟩, ⟨by decide +kernel, by decide +kernel⟩, by decide +kernel⟩
theorem i_X7_mostTermsOf : zIn k_X7_mostTermsOf := ⟨zGB_of ⟨List.mem_of_getElem? (i := 630) (by decide +kernel), by decide +kernel⟩, zGB_of ⟨List.mem_of_getElem? (i := 21) (by decide +kernel), by decide +kernel⟩⟩
abbrev k_X7_need : zMi := (yX7_need, cX7_need, 10, (some .int), { frames := 7, cells := 0, slots := 0, locals := 173 })
theorem m_X7_need : zMw (k_X7_need) 3 := ⟨zGB_of ⟨List.mem_of_getElem? (i := 52) (by decide +kernel), by decide +kernel⟩, zGB_of ⟨List.mem_of_getElem? (i := 627) (by decide +kernel), by decide +kernel⟩, ⟨by decide +kernel, by decide +kernel⟩, by decide +kernel⟩
theorem i_X7_need : zIn k_X7_need := ⟨zGB_of ⟨List.mem_of_getElem? (i := 625) (by decide +kernel), by decide +kernel⟩, zGB_of ⟨List.mem_of_getElem? (i := 626) (by decide +kernel), by decide +kernel⟩⟩
abbrev k_X7_numberAt : zMi := (yX7_numberAt, cX7_numberAt, 4, (some (.object "ConstantMill$Big")), { frames := 1, cells := 0, slots := 0, locals := 21 })
theorem m_X7_numberAt : zMw (k_X7_numberAt) 2 := ⟨zGB_of ⟨List.mem_of_getElem? (i := 52) (by decide +kernel), by decide +kernel⟩, zGB_of ⟨List.mem_of_getElem? (i := 479) (by decide +kernel), by decide +kernel⟩, ⟨by decide +kernel, by decide +kernel⟩, by decide +kernel⟩
theorem i_X7_numberAt : zIn k_X7_numberAt := ⟨zGB_of ⟨List.mem_of_getElem? (i := 478) (by decide +kernel), by decide +kernel⟩, zGB_of ⟨List.mem_of_getElem? (i := 10) (by decide +kernel), by decide +kernel⟩⟩
abbrev k_X7_part : zMi := (yX7_part, cX7_part, 6, (some .int), { frames := 1, cells := 0, slots := 0, locals := 23 })
theorem m_X7_part : zMw (k_X7_part) 4 := ⟨zGB_of ⟨List.mem_of_getElem? (i := 52) (by decide +kernel), by decide +kernel⟩, zGB_of ⟨List.mem_of_getElem? (i := 522) (by decide +kernel), by decide +kernel⟩, ⟨by decide +kernel, by decide +kernel⟩, by decide +kernel⟩
theorem i_X7_part : zIn k_X7_part := ⟨zGB_of ⟨List.mem_of_getElem? (i := 520) (by decide +kernel), by decide +kernel⟩, zGB_of ⟨List.mem_of_getElem? (i := 521) (by decide +kernel), by decide +kernel⟩⟩
abbrev k_X7_refusalOfNumber : zMi := (yX7_refusalOfNumber, cX7_refusalOfNumber, 5, (some .int), { frames := 1, cells := 0, slots := 0, locals := 21 })
theorem m_X7_refusalOfNumber : zMw (k_X7_refusalOfNumber) 3 := ⟨zGB_of ⟨List.mem_of_getElem? (i := 52) (by decide +kernel), by decide +kernel⟩, zGB_of ⟨List.mem_of_getElem? (i := 471) (by decide +kernel), by decide +kernel⟩, ⟨by decide +kernel, by decide +kernel⟩, by decide +kernel⟩
theorem i_X7_refusalOfNumber : zIn k_X7_refusalOfNumber := ⟨zGB_of ⟨List.mem_of_getElem? (i := 470) (by decide +kernel), by decide +kernel⟩, zGB_of ⟨List.mem_of_getElem? (i := 9) (by decide +kernel), by decide +kernel⟩⟩
abbrev k_X7_rest : zMi := (yX7_rest, cX7_rest, 6, (some .int), { frames := 2, cells := 0, slots := 0, locals := 45 })
theorem m_X7_rest : zMw (k_X7_rest) 3 := ⟨zGB_of ⟨List.mem_of_getElem? (i := 52) (by decide +kernel), by decide +kernel⟩, zGB_of ⟨List.mem_of_getElem? (i := 491) (by decide +kernel), by decide +kernel⟩, ⟨by decide +kernel, by decide +kernel⟩, by decide +kernel⟩
theorem i_X7_rest : zIn k_X7_rest := ⟨zGB_of ⟨List.mem_of_getElem? (i := 489) (by decide +kernel), by decide +kernel⟩, zGB_of ⟨List.mem_of_getElem? (i := 490) (by decide +kernel), by decide +kernel⟩⟩
abbrev k_X7_rule : zMi := (yX7_rule, cX7_rule, 7, (some .int), { frames := 2, cells := 0, slots := 0, locals := 44 })
theorem m_X7_rule : zMw (k_X7_rule) 5 := ⟨zGB_of ⟨List.mem_of_getElem? (i := 52) (by decide +kernel), by decide +kernel⟩, zGB_of ⟨List.mem_of_getElem? (i := 306) (by decide +kernel), by decide +kernel⟩, ⟨by decide +kernel, by decide +kernel⟩, by decide +kernel⟩
theorem i_X7_rule : zIn k_X7_rule := ⟨zGB_of ⟨List.mem_of_getElem? (i := 304) (by decide +kernel), by decide +kernel⟩, zGB_of ⟨List.mem_of_getElem? (i := 305) (by decide +kernel), by decide +kernel⟩⟩
abbrev k_X7_same : zMi := (yX7_same, cX7_same, 5, (some .int), { frames := 3, cells := 0, slots := 0, locals := 64 })
theorem m_X7_same : zMw (k_X7_same) 2 := ⟨zGB_of ⟨List.mem_of_getElem? (i := 52) (by decide +kernel), by decide +kernel⟩, zGB_of ⟨List.mem_of_getElem? (i := 510) (by decide +kernel), by decide +kernel⟩, ⟨by decide +kernel, by decide +kernel⟩, by decide +kernel⟩
theorem i_X7_same : zIn k_X7_same := ⟨zGB_of ⟨List.mem_of_getElem? (i := 508) (by decide +kernel), by decide +kernel⟩, zGB_of ⟨List.mem_of_getElem? (i := 509) (by decide +kernel), by decide +kernel⟩⟩
abbrev k_X7_sign : zMi := (yX7_sign, cX7_sign, 5, (some .int), { frames := 2, cells := 0, slots := 0, locals := 45 })
theorem m_X7_sign : zMw (k_X7_sign) 2 := ⟨zGB_of ⟨List.mem_of_getElem? (i := 52) (by decide +kernel), by decide +kernel⟩, zGB_of ⟨List.mem_of_getElem? (i := 487) (by decide +kernel), by decide +kernel⟩, ⟨by decide +kernel, by decide +kernel⟩, by decide +kernel⟩
theorem i_X7_sign : zIn k_X7_sign := ⟨zGB_of ⟨List.mem_of_getElem? (i := 485) (by decide +kernel), by decide +kernel⟩, zGB_of ⟨List.mem_of_getElem? (i := 486) (by decide +kernel), by decide +kernel⟩⟩
abbrev k_X7_signOf : zMi := (yX7_signOf, cX7_signOf, 1, (some .int), { frames := 0, cells := 0, slots := 0, locals := 0 })
theorem m_X7_signOf : zMw (k_X7_signOf) 0 := ⟨zGB_of ⟨List.mem_of_getElem? (i := 52) (by decide +kernel), by decide +kernel⟩, zGB_of ⟨List.mem_of_getElem? (i := 635) (by decide +kernel), by decide +kernel⟩, ⟨by decide +kernel, by decide +kernel⟩, by decide +kernel⟩
theorem i_X7_signOf : zIn k_X7_signOf := ⟨zGB_of ⟨List.mem_of_getElem? (i := 633) (by decide +kernel), by decide +kernel⟩, zGB_of ⟨List.mem_of_getElem? (i := 634) (by decide +kernel), by decide +kernel⟩⟩
abbrev k_X7_span : zMi := (yX7_span, cX7_span, 4, (some .int), { frames := 1, cells := 0, slots := 0, locals := 21 })
theorem m_X7_span : zMw (k_X7_span) 2 := ⟨zGB_of ⟨List.mem_of_getElem? (i := 52) (by decide +kernel), by decide +kernel⟩, zGB_of ⟨List.mem_of_getElem? (i := 463) (by decide +kernel), by decide +kernel⟩, ⟨by decide +kernel, by decide +kernel⟩, by decide +kernel⟩
theorem i_X7_span : zIn k_X7_span := ⟨zGB_of ⟨List.mem_of_getElem? (i := 461) (by decide +kernel), by decide +kernel⟩, zGB_of ⟨List.mem_of_getElem? (i := 462) (by decide +kernel), by decide +kernel⟩⟩
abbrev k_X7_sumAt : zMi := (yX7_sumAt, cX7_sumAt, 2, (some (.object "ConstantMill$Sum")), { frames := 0, cells := 0, slots := 0, locals := 0 })
theorem m_X7_sumAt : zMw (k_X7_sumAt) 1 := ⟨zGB_of ⟨List.mem_of_getElem? (i := 52) (by decide +kernel), by decide +kernel⟩, zGB_of ⟨List.mem_of_getElem? (i := 310) (by decide +kernel), by decide +kernel⟩, ⟨by decide +kernel, by decide +kernel⟩, by decide +kernel⟩
theorem i_X7_sumAt : zIn k_X7_sumAt := ⟨zGB_of ⟨List.mem_of_getElem? (i := 309) (by decide +kernel), by decide +kernel⟩, zGB_of ⟨List.mem_of_getElem? (i := 0) (by decide +kernel), by decide +kernel⟩⟩
abbrev k_X7_tell : zMi := (yX7_tell, cX7_tell, 7, none, { frames := 6, cells := 0, slots := 0, locals := 147 })
theorem m_X7_tell : zMw (k_X7_tell) 5 := ⟨zGB_of ⟨List.mem_of_getElem? (i := 52) (by decide +kernel), by decide +kernel⟩, zGB_of ⟨List.mem_of_getElem? (i := 557) (by decide +kernel), by decide +kernel⟩, ⟨by decide +kernel, by decide +kernel⟩, by decide +kernel⟩
theorem i_X7_tell : zIn k_X7_tell := ⟨zGB_of ⟨List.mem_of_getElem? (i := 556) (by decide +kernel), by decide +kernel⟩, zGB_of ⟨List.mem_of_getElem? (i := 13) (by decide +kernel), by decide +kernel⟩⟩
abbrev k_X7_told : zMi := (yX7_told, cX7_told, 5, (some .int), { frames := 1, cells := 0, slots := 0, locals := 21 })
theorem m_X7_told : zMw (k_X7_told) 3 := ⟨zGB_of ⟨List.mem_of_getElem? (i := 52) (by decide +kernel), by decide +kernel⟩, zGB_of ⟨List.mem_of_getElem? (i := 539) (by decide +kernel), by decide +kernel⟩, ⟨by decide +kernel, by decide +kernel⟩, by decide +kernel⟩
theorem i_X7_told : zIn k_X7_told := ⟨zGB_of ⟨List.mem_of_getElem? (i := 537) (by decide +kernel), by decide +kernel⟩, zGB_of ⟨List.mem_of_getElem? (i := 538) (by decide +kernel), by decide +kernel⟩⟩
abbrev k_X7_where : zMi := (yX7_where, cX7_where, 3, (some .int), { frames := 3, cells := 0, slots := 0, locals := 69 })
theorem m_X7_where : zMw (k_X7_where) 2 := ⟨zGB_of ⟨List.mem_of_getElem? (i := 52) (by decide +kernel), by decide +kernel⟩, zGB_of ⟨List.mem_of_getElem? (i := 660) (by decide +kernel), by decide +kernel⟩, ⟨by decide +kernel, by decide +kernel⟩, by decide +kernel⟩
theorem i_X7_where : zIn k_X7_where := ⟨zGB_of ⟨List.mem_of_getElem? (i := 658) (by decide +kernel), by decide +kernel⟩, zGB_of ⟨List.mem_of_getElem? (i := 659) (by decide +kernel), by decide +kernel⟩⟩
abbrev k_X7_whole : zMi := (yX7_whole, cX7_whole, 1, (some .long), { frames := 0, cells := 0, slots := 0, locals := 0 })
theorem m_X7_whole : zMw (k_X7_whole) 0 := ⟨zGB_of ⟨List.mem_of_getElem? (i := 52) (by decide +kernel), by decide +kernel⟩, zGB_of ⟨List.mem_of_getElem? (i := 639) (by decide +kernel), by decide +kernel⟩, ⟨by decide +kernel, by decide +kernel⟩, by decide +kernel⟩
theorem i_X7_whole : zIn k_X7_whole := ⟨zGB_of ⟨List.mem_of_getElem? (i := 637) (by decide +kernel), by decide +kernel⟩, zGB_of ⟨List.mem_of_getElem? (i := 638) (by decide +kernel), by decide +kernel⟩⟩
abbrev k_X7_word : zMi := (yX7_word, cX7_word, 6, (some .int), { frames := 2, cells := 0, slots := 0, locals := 45 })
theorem m_X7_word : zMw (k_X7_word) 3 := ⟨zGB_of ⟨List.mem_of_getElem? (i := 52) (by decide +kernel), by decide +kernel⟩, zGB_of ⟨List.mem_of_getElem? (i := 499) (by decide +kernel), by decide +kernel⟩, ⟨by decide +kernel, by decide +kernel⟩, by decide +kernel⟩
theorem i_X7_word : zIn k_X7_word := ⟨zGB_of ⟨List.mem_of_getElem? (i := 497) (by decide +kernel), by decide +kernel⟩, zGB_of ⟨List.mem_of_getElem? (i := 498) (by decide +kernel), by decide +kernel⟩⟩
abbrev k_X8_about : zMi := (yX8_about, cX8_about, 2, (some .int), { frames := 1, cells := 0, slots := 0, locals := 25 })
theorem m_X8_about : zMw (k_X8_about) 1 := ⟨zGB_of ⟨List.mem_of_getElem? (i := 60) (by decide +kernel), by decide +kernel⟩, zGB_of ⟨List.mem_of_getElem? (i := 1022) (by decide +kernel), by decide +kernel⟩, ⟨by decide +kernel, by decide +kernel⟩, by decide +kernel⟩
theorem i_X8_about : zIn k_X8_about := ⟨zGB_of ⟨List.mem_of_getElem? (i := 1020) (by decide +kernel), by decide +kernel⟩, zGB_of ⟨List.mem_of_getElem? (i := 1021) (by decide +kernel), by decide +kernel⟩⟩
abbrev k_X8_add : zMi := (yX8_add, cX8_add, 5, none, { frames := 2, cells := 0, slots := 0, locals := 48 })
theorem m_X8_add : zMw (k_X8_add) 3 := ⟨zGB_of ⟨List.mem_of_getElem? (i := 60) (by decide +kernel), by decide +kernel⟩, zGB_of ⟨List.mem_of_getElem? (i := 861) (by decide +kernel), by decide +kernel⟩, ⟨by decide +kernel, by decide +kernel⟩, by decide +kernel⟩
theorem i_X8_add : zIn k_X8_add := ⟨zGB_of ⟨List.mem_of_getElem? (i := 860) (by decide +kernel), by decide +kernel⟩, zGB_of ⟨List.mem_of_getElem? (i := 33) (by decide +kernel), by decide +kernel⟩⟩
abbrev k_X8_agree : zMi := (yX8_agree, cX8_agree, 12, (some .int), { frames := 6, cells := 0, slots := 0, locals := 154 })
theorem m_X8_agree : zMw (k_X8_agree) 5 := ⟨zGB_of ⟨List.mem_of_getElem? (i := 60) (by decide +kernel), by decide +kernel⟩, zGB_of ⟨List.mem_of_getElem? (i := 1027) (by decide +kernel), by decide +kernel⟩, ⟨by decide +kernel, by decide +kernel⟩, by decide +kernel⟩
theorem i_X8_agree : zIn k_X8_agree := ⟨zGB_of ⟨List.mem_of_getElem? (i := 1025) (by decide +kernel), by decide +kernel⟩, zGB_of ⟨List.mem_of_getElem? (i := 1026) (by decide +kernel), by decide +kernel⟩⟩
abbrev k_X8_at : zMi := (yX8_at, cX8_at, 4, (some .int), { frames := 2, cells := 0, slots := 0, locals := 45 })
theorem m_X8_at : zMw (k_X8_at) 3 := ⟨zGB_of ⟨List.mem_of_getElem? (i := 60) (by decide +kernel), by decide +kernel⟩, zGB_of ⟨List.mem_of_getElem? (i := 795) (by decide +kernel), by decide +kernel⟩, ⟨by decide +kernel, by decide +kernel⟩, by decide +kernel⟩
theorem i_X8_at : zIn k_X8_at := ⟨zGB_of ⟨List.mem_of_getElem? (i := 793) (by decide +kernel), by decide +kernel⟩, zGB_of ⟨List.mem_of_getElem? (i := 794) (by decide +kernel), by decide +kernel⟩⟩
abbrev k_X8_bars : zMi := (yX8_bars, cX8_bars, 3, (some .int), { frames := 2, cells := 0, slots := 0, locals := 45 })
theorem m_X8_bars : zMw (k_X8_bars) 2 := ⟨zGB_of ⟨List.mem_of_getElem? (i := 60) (by decide +kernel), by decide +kernel⟩, zGB_of ⟨List.mem_of_getElem? (i := 902) (by decide +kernel), by decide +kernel⟩, ⟨by decide +kernel, by decide +kernel⟩, by decide +kernel⟩
theorem i_X8_bars : zIn k_X8_bars := ⟨zGB_of ⟨List.mem_of_getElem? (i := 901) (by decide +kernel), by decide +kernel⟩, zGB_of ⟨List.mem_of_getElem? (i := 38) (by decide +kernel), by decide +kernel⟩⟩
abbrev k_X8_begin : zMi := (yX8_begin, cX8_begin, 2, none, { frames := 1, cells := 0, slots := 0, locals := 25 })
theorem m_X8_begin : zMw (k_X8_begin) 1 := ⟨zGB_of ⟨List.mem_of_getElem? (i := 60) (by decide +kernel), by decide +kernel⟩, zGB_of ⟨List.mem_of_getElem? (i := 837) (by decide +kernel), by decide +kernel⟩, ⟨by decide +kernel, by decide +kernel⟩, by decide +kernel⟩
theorem i_X8_begin : zIn k_X8_begin := ⟨zGB_of ⟨List.mem_of_getElem? (i := 836) (by decide +kernel), by decide +kernel⟩, zGB_of ⟨List.mem_of_getElem? (i := 27) (by decide +kernel), by decide +kernel⟩⟩
abbrev k_X8_beginParts : zMi := (yX8_beginParts, cX8_beginParts, 3, none, { frames := 2, cells := 0, slots := 0, locals := 46 })
theorem m_X8_beginParts : zMw (k_X8_beginParts) 1 := ⟨zGB_of ⟨List.mem_of_getElem? (i := 60) (by decide +kernel), by decide +kernel⟩, zGB_of ⟨List.mem_of_getElem? (i := 956) (by decide +kernel), by decide +kernel⟩, ⟨by decide +kernel, by decide +kernel⟩, by decide +kernel⟩
theorem i_X8_beginParts : zIn k_X8_beginParts := ⟨zGB_of ⟨List.mem_of_getElem? (i := 955) (by decide +kernel), by decide +kernel⟩, zGB_of ⟨List.mem_of_getElem? (i := 41) (by decide +kernel), by decide +kernel⟩⟩
abbrev k_X8_bits : zMi := (yX8_bits, cX8_bits, 8, (some .int), { frames := 3, cells := 0, slots := 0, locals := 67 })
theorem m_X8_bits : zMw (k_X8_bits) 2 := ⟨zGB_of ⟨List.mem_of_getElem? (i := 60) (by decide +kernel), by decide +kernel⟩, zGB_of ⟨List.mem_of_getElem? (i := 898) (by decide +kernel), by decide +kernel⟩, ⟨by decide +kernel, by decide +kernel⟩, by decide +kernel⟩
theorem i_X8_bits : zIn k_X8_bits := ⟨zGB_of ⟨List.mem_of_getElem? (i := 896) (by decide +kernel), by decide +kernel⟩, zGB_of ⟨List.mem_of_getElem? (i := 897) (by decide +kernel), by decide +kernel⟩⟩
abbrev k_X8_bound : zMi := (yX8_bound, cX8_bound, 4, (some .int), { frames := 2, cells := 0, slots := 0, locals := 45 })
theorem m_X8_bound : zMw (k_X8_bound) 3 := ⟨zGB_of ⟨List.mem_of_getElem? (i := 60) (by decide +kernel), by decide +kernel⟩, zGB_of ⟨List.mem_of_getElem? (i := 790) (by decide +kernel), by decide +kernel⟩, ⟨by decide +kernel, by decide +kernel⟩, by decide +kernel⟩
theorem i_X8_bound : zIn k_X8_bound := ⟨zGB_of ⟨List.mem_of_getElem? (i := 788) (by decide +kernel), by decide +kernel⟩, zGB_of ⟨List.mem_of_getElem? (i := 789) (by decide +kernel), by decide +kernel⟩⟩
abbrev k_X8_build : zMi := (yX8_build, cX8_build, 4, none, { frames := 5, cells := 0, slots := 0, locals := 122 })
theorem m_X8_build : zMw (k_X8_build) 2 := ⟨zGB_of ⟨List.mem_of_getElem? (i := 60) (by decide +kernel), by decide +kernel⟩, zGB_of ⟨List.mem_of_getElem? (i := 952) (by decide +kernel), by decide +kernel⟩, ⟨by decide +kernel, by decide +kernel⟩, by decide +kernel⟩
theorem i_X8_build : zIn k_X8_build := ⟨zGB_of ⟨List.mem_of_getElem? (i := 951) (by decide +kernel), by decide +kernel⟩, zGB_of ⟨List.mem_of_getElem? (i := 40) (by decide +kernel), by decide +kernel⟩⟩
abbrev k_X8_clear : zMi := (yX8_clear, cX8_clear, 3, (some .int), { frames := 2, cells := 0, slots := 0, locals := 45 })
theorem m_X8_clear : zMw (k_X8_clear) 1 := ⟨zGB_of ⟨List.mem_of_getElem? (i := 60) (by decide +kernel), by decide +kernel⟩, zGB_of ⟨List.mem_of_getElem? (i := 932) (by decide +kernel), by decide +kernel⟩, ⟨by decide +kernel, by decide +kernel⟩, by decide +kernel⟩
theorem i_X8_clear : zIn k_X8_clear := ⟨zGB_of ⟨List.mem_of_getElem? (i := 930) (by decide +kernel), by decide +kernel⟩, zGB_of ⟨List.mem_of_getElem? (i := 931) (by decide +kernel), by decide +kernel⟩⟩
abbrev k_X8_combine : zMi := (yX8_combine, cX8_combine, 9, none, { frames := 4, cells := 0, slots := 0, locals := 94 })
theorem m_X8_combine : zMw (k_X8_combine) 2 := ⟨zGB_of ⟨List.mem_of_getElem? (i := 60) (by decide +kernel), by decide +kernel⟩, zGB_of ⟨List.mem_of_getElem? (i := 968) (by decide +kernel), by decide +kernel⟩, ⟨by decide +kernel, by decide +kernel⟩, by decide +kernel⟩
theorem i_X8_combine : zIn k_X8_combine := ⟨zGB_of ⟨List.mem_of_getElem? (i := 967) (by decide +kernel), by decide +kernel⟩, zGB_of ⟨List.mem_of_getElem? (i := 44) (by decide +kernel), by decide +kernel⟩⟩
abbrev k_X8_copy : zMi := (yX8_copy, cX8_copy, 4, none, { frames := 0, cells := 0, slots := 0, locals := 0 })
theorem m_X8_copy : zMw (k_X8_copy) 2 := ⟨zGB_of ⟨List.mem_of_getElem? (i := 60) (by decide +kernel), by decide +kernel⟩, zGB_of ⟨List.mem_of_getElem? (i := 877) (by decide +kernel), by decide +kernel⟩, ⟨by decide +kernel, by decide +kernel⟩, by decide +kernel⟩
theorem i_X8_copy : zIn k_X8_copy := ⟨zGB_of ⟨List.mem_of_getElem? (i := 876) (by decide +kernel), by decide +kernel⟩, zGB_of ⟨List.mem_of_getElem? (i := 37) (by decide +kernel), by decide +kernel⟩⟩
abbrev k_X8_count : zMi := (yX8_count, cX8_count, 4, (some .int), { frames := 2, cells := 0, slots := 0, locals := 46 })
theorem m_X8_count : zMw (k_X8_count) 1 := ⟨zGB_of ⟨List.mem_of_getElem? (i := 60) (by decide +kernel), by decide +kernel⟩, zGB_of ⟨List.mem_of_getElem? (i := 1013) (by decide +kernel), by decide +kernel⟩, ⟨by decide +kernel, by decide +kernel⟩, by decide +kernel⟩
theorem i_X8_count : zIn k_X8_count := ⟨zGB_of ⟨List.mem_of_getElem? (i := 1011) (by decide +kernel), by decide +kernel⟩, zGB_of ⟨List.mem_of_getElem? (i := 1012) (by decide +kernel), by decide +kernel⟩⟩
abbrev k_X8_emptied : zMi := (yX8_emptied, cX8_emptied, 4, (some .int), { frames := 0, cells := 0, slots := 0, locals := 0 })
theorem m_X8_emptied : zMw (k_X8_emptied) 1 := ⟨zGB_of ⟨List.mem_of_getElem? (i := 60) (by decide +kernel), by decide +kernel⟩, zGB_of ⟨List.mem_of_getElem? (i := 786) (by decide +kernel), by decide +kernel⟩, ⟨by decide +kernel, by decide +kernel⟩, by decide +kernel⟩
theorem i_X8_emptied : zIn k_X8_emptied := ⟨zGB_of ⟨List.mem_of_getElem? (i := 785) (by decide +kernel), by decide +kernel⟩, zGB_of ⟨List.mem_of_getElem? (i := 23) (by decide +kernel), by decide +kernel⟩⟩
abbrev k_X8_empty : zMi := (yX8_empty, cX8_empty, 2, (some .int), { frames := 2, cells := 0, slots := 0, locals := 45 })
theorem m_X8_empty : zMw (k_X8_empty) 1 := ⟨zGB_of ⟨List.mem_of_getElem? (i := 60) (by decide +kernel), by decide +kernel⟩, zGB_of ⟨List.mem_of_getElem? (i := 889) (by decide +kernel), by decide +kernel⟩, ⟨by decide +kernel, by decide +kernel⟩, by decide +kernel⟩
theorem i_X8_empty : zIn k_X8_empty := ⟨zGB_of ⟨List.mem_of_getElem? (i := 887) (by decide +kernel), by decide +kernel⟩, zGB_of ⟨List.mem_of_getElem? (i := 888) (by decide +kernel), by decide +kernel⟩⟩
abbrev k_X8_fall : zMi := (yX8_fall, cX8_fall, 6, (some .int), { frames := 2, cells := 0, slots := 0, locals := 59 })
theorem m_X8_fall : zMw (k_X8_fall) 4 := ⟨zGB_of ⟨List.mem_of_getElem? (i := 60) (by decide +kernel), by decide +kernel⟩, zGB_of ⟨List.mem_of_getElem? (i := 811) (by decide +kernel), by decide +kernel⟩, ⟨by decide +kernel, by decide +kernel⟩, by decide +kernel⟩
theorem i_X8_fall : zIn k_X8_fall := ⟨zGB_of ⟨List.mem_of_getElem? (i := 810) (by decide +kernel), by decide +kernel⟩, zGB_of ⟨List.mem_of_getElem? (i := 25) (by decide +kernel), by decide +kernel⟩⟩
abbrev k_X8_fallOf : zMi := (yX8_fallOf, cX8_fallOf, 5, (some .int), { frames := 3, cells := 0, slots := 0, locals := 84 })
theorem m_X8_fallOf : zMw (k_X8_fallOf) 2 := ⟨zGB_of ⟨List.mem_of_getElem? (i := 60) (by decide +kernel), by decide +kernel⟩, zGB_of ⟨List.mem_of_getElem? (i := 948) (by decide +kernel), by decide +kernel⟩, ⟨by decide +kernel, by decide +kernel⟩, by decide +kernel⟩
theorem i_X8_fallOf : zIn k_X8_fallOf := ⟨zGB_of ⟨List.mem_of_getElem? (i := 947) (by decide +kernel), by decide +kernel⟩, zGB_of ⟨List.mem_of_getElem? (i := 39) (by decide +kernel), by decide +kernel⟩⟩
abbrev k_X8_falls : zMi := (yX8_falls, cX8_falls, 3, (some .int), { frames := 3, cells := 0, slots := 0, locals := 84 })
theorem m_X8_falls : zMw (k_X8_falls) 2 := ⟨zGB_of ⟨List.mem_of_getElem? (i := 60) (by decide +kernel), by decide +kernel⟩, zGB_of ⟨List.mem_of_getElem? (i := 806) (by decide +kernel), by decide +kernel⟩, ⟨by decide +kernel, by decide +kernel⟩, by decide +kernel⟩
theorem i_X8_falls : zIn k_X8_falls := ⟨zGB_of ⟨List.mem_of_getElem? (i := 804) (by decide +kernel), by decide +kernel⟩, zGB_of ⟨List.mem_of_getElem? (i := 805) (by decide +kernel), by decide +kernel⟩⟩
abbrev k_X8_figure : zMi := (yX8_figure, cX8_figure, 2, (some .int), { frames := 2, cells := 0, slots := 0, locals := 46 })
theorem m_X8_figure : zMw (k_X8_figure) 1 := ⟨zGB_of ⟨List.mem_of_getElem? (i := 60) (by decide +kernel), by decide +kernel⟩, zGB_of ⟨List.mem_of_getElem? (i := 1005) (by decide +kernel), by decide +kernel⟩, ⟨by decide +kernel, by decide +kernel⟩, by decide +kernel⟩
theorem i_X8_figure : zIn k_X8_figure := ⟨zGB_of ⟨List.mem_of_getElem? (i := 1003) (by decide +kernel), by decide +kernel⟩, zGB_of ⟨List.mem_of_getElem? (i := 1004) (by decide +kernel), by decide +kernel⟩⟩
abbrev k_X8_figures : zMi := (yX8_figures, cX8_figures, 7, (some .int), { frames := 6, cells := 0, slots := 0, locals := 154 })
theorem m_X8_figures : zMw (k_X8_figures) 4 := ⟨zGB_of ⟨List.mem_of_getElem? (i := 60) (by decide +kernel), by decide +kernel⟩, zGB_of ⟨List.mem_of_getElem? (i := 940) (by decide +kernel), by decide +kernel⟩, ⟨by decide +kernel, by decide +kernel⟩, by decide +kernel⟩
theorem i_X8_figures : zIn k_X8_figures := ⟨zGB_of ⟨List.mem_of_getElem? (i := 938) (by decide +kernel), by decide +kernel⟩, zGB_of ⟨List.mem_of_getElem? (i := 939) (by decide +kernel), by decide +kernel⟩⟩
abbrev k_X8_fits : zMi := (yX8_fits, cX8_fits, 2, (some .boolean), { frames := 1, cells := 0, slots := 0, locals := 25 })
theorem m_X8_fits : zMw (k_X8_fits) 2 := ⟨zGB_of ⟨List.mem_of_getElem? (i := 60) (by decide +kernel), by decide +kernel⟩, zGB_of ⟨List.mem_of_getElem? (i := 943) (by decide +kernel), by decide +kernel⟩, ⟨by decide +kernel, by decide +kernel⟩, by decide +kernel⟩
theorem s_X8_fits : Cond.static k_X8_fits.1 ∈ zGB := zGB_of ⟨List.mem_of_getElem? (i := 942) (by decide +kernel), by decide +kernel⟩
abbrev k_X8_gain : zMi := (yX8_gain, cX8_gain, 7, none, { frames := 0, cells := 0, slots := 0, locals := 0 })
theorem m_X8_gain : zMw (k_X8_gain) 2 := ⟨zGB_of ⟨List.mem_of_getElem? (i := 60) (by decide +kernel), by decide +kernel⟩, zGB_of ⟨List.mem_of_getElem? (i := 865) (by decide +kernel), by decide +kernel⟩, ⟨by decide +kernel, by decide +kernel⟩, by decide +kernel⟩
theorem i_X8_gain : zIn k_X8_gain := ⟨zGB_of ⟨List.mem_of_getElem? (i := 864) (by decide +kernel), by decide +kernel⟩, zGB_of ⟨List.mem_of_getElem? (i := 34) (by decide +kernel), by decide +kernel⟩⟩
abbrev k_X8_go : zMi := (yX8_go, cX8_go, 7, none, { frames := 3, cells := 0, slots := 0, locals := 72 })
theorem m_X8_go : zMw (k_X8_go) 3 := ⟨zGB_of ⟨List.mem_of_getElem? (i := 60) (by decide +kernel), by decide +kernel⟩, zGB_of ⟨List.mem_of_getElem? (i := 845) (by decide +kernel), by decide +kernel⟩, ⟨by decide +kernel, by decide +kernel⟩, by decide +kernel⟩
theorem i_X8_go : zIn k_X8_go := ⟨zGB_of ⟨List.mem_of_getElem? (i := 844) (by decide +kernel), by decide +kernel⟩, zGB_of ⟨List.mem_of_getElem? (i := 29) (by decide +kernel), by decide +kernel⟩⟩
abbrev k_X8_goParts : zMi := (yX8_goParts, cX8_goParts, 5, none, { frames := 4, cells := 0, slots := 0, locals := 98 })
theorem m_X8_goParts : zMw (k_X8_goParts) 2 := ⟨zGB_of ⟨List.mem_of_getElem? (i := 60) (by decide +kernel), by decide +kernel⟩, zGB_of ⟨List.mem_of_getElem? (i := 960) (by decide +kernel), by decide +kernel⟩, ⟨by decide +kernel, by decide +kernel⟩, by decide +kernel⟩
theorem i_X8_goParts : zIn k_X8_goParts := ⟨zGB_of ⟨List.mem_of_getElem? (i := 959) (by decide +kernel), by decide +kernel⟩, zGB_of ⟨List.mem_of_getElem? (i := 42) (by decide +kernel), by decide +kernel⟩⟩
abbrev k_X8_grind : zMi := (yX8_grind, cX8_grind, 7, (some .int), { frames := 4, cells := 0, slots := 0, locals := 98 })
theorem m_X8_grind : zMw (k_X8_grind) 4 := ⟨zGB_of ⟨List.mem_of_getElem? (i := 60) (by decide +kernel), by decide +kernel⟩, zGB_of ⟨List.mem_of_getElem? (i := 829) (by decide +kernel), by decide +kernel⟩, ⟨by decide +kernel, by decide +kernel⟩, by decide +kernel⟩
theorem i_X8_grind : zIn k_X8_grind := ⟨zGB_of ⟨List.mem_of_getElem? (i := 827) (by decide +kernel), by decide +kernel⟩, zGB_of ⟨List.mem_of_getElem? (i := 828) (by decide +kernel), by decide +kernel⟩⟩
abbrev k_X8_half : zMi := (yX8_half, cX8_half, 5, none, { frames := 1, cells := 0, slots := 0, locals := 21 })
theorem m_X8_half : zMw (k_X8_half) 1 := ⟨zGB_of ⟨List.mem_of_getElem? (i := 60) (by decide +kernel), by decide +kernel⟩, zGB_of ⟨List.mem_of_getElem? (i := 985) (by decide +kernel), by decide +kernel⟩, ⟨by decide +kernel, by decide +kernel⟩, by decide +kernel⟩
theorem i_X8_half : zIn k_X8_half := ⟨zGB_of ⟨List.mem_of_getElem? (i := 984) (by decide +kernel), by decide +kernel⟩, zGB_of ⟨List.mem_of_getElem? (i := 48) (by decide +kernel), by decide +kernel⟩⟩
abbrev k_X8_in : zMi := (yX8_in, cX8_in, 6, (some .boolean), { frames := 0, cells := 0, slots := 0, locals := 0 })
theorem m_X8_in : zMw (k_X8_in) 3 := ⟨zGB_of ⟨List.mem_of_getElem? (i := 60) (by decide +kernel), by decide +kernel⟩, zGB_of ⟨List.mem_of_getElem? (i := 779) (by decide +kernel), by decide +kernel⟩, ⟨by decide +kernel, by decide +kernel⟩, by decide +kernel⟩
theorem s_X8_in : Cond.static k_X8_in.1 ∈ zGB := zGB_of ⟨List.mem_of_getElem? (i := 778) (by decide +kernel), by decide +kernel⟩
abbrev k_X8_init : zMi := (yX8_init, cX8_init, 2, none, { frames := 1, cells := 16, slots := 72580, locals := 20 })
theorem m_X8_init : zMw (k_X8_init) 0 := ⟨zGB_of ⟨List.mem_of_getElem? (i := 60) (by decide +kernel), by decide +kernel⟩, zGB_of ⟨List.mem_of_getElem? (i := 686) (by decide +kernel), by decide +kernel⟩, ⟨by decide +kernel, by decide +kernel⟩, by decide +kernel⟩
theorem i_X8_init : Cond.instanceMethod yX8_init ∈ zGB := zGB_of ⟨List.mem_of_getElem? (i := 685) (by decide +kernel), by decide +kernel⟩
abbrev k_X8_isConstant : zMi := (yX8_isConstant, cX8_isConstant, 1, (some .boolean), { frames := 1, cells := 0, slots := 0, locals := 25 })
theorem m_X8_isConstant : zMw (k_X8_isConstant) 1 := ⟨zGB_of ⟨List.mem_of_getElem? (i := 60) (by decide +kernel), by decide +kernel⟩, zGB_of ⟨List.mem_of_getElem? (i := 927) (by decide +kernel), by decide +kernel⟩, ⟨by decide +kernel, by decide +kernel⟩, by decide +kernel⟩
theorem s_X8_isConstant : Cond.static k_X8_isConstant.1 ∈ zGB := zGB_of ⟨List.mem_of_getElem? (i := 926) (by decide +kernel), by decide +kernel⟩
abbrev k_X8_isDrawer : zMi := (yX8_isDrawer, cX8_isDrawer, 1, (some .boolean), { frames := 1, cells := 0, slots := 0, locals := 25 })
theorem m_X8_isDrawer : zMw (k_X8_isDrawer) 1 := ⟨zGB_of ⟨List.mem_of_getElem? (i := 60) (by decide +kernel), by decide +kernel⟩, zGB_of ⟨List.mem_of_getElem? (i := 832) (by decide +kernel), by decide +kernel⟩, ⟨by decide +kernel, by decide +kernel⟩, by decide +kernel⟩
theorem s_X8_isDrawer : Cond.static k_X8_isDrawer.1 ∈ zGB := zGB_of ⟨List.mem_of_getElem? (i := 831) (by decide +kernel), by decide +kernel⟩
abbrev k_X8_isSteep : zMi := (yX8_isSteep, cX8_isSteep, 15, (some .boolean), { frames := 1, cells := 0, slots := 0, locals := 25 })
theorem m_X8_isSteep : zMw (k_X8_isSteep) 2 := ⟨zGB_of ⟨List.mem_of_getElem? (i := 60) (by decide +kernel), by decide +kernel⟩, zGB_of ⟨List.mem_of_getElem? (i := 815) (by decide +kernel), by decide +kernel⟩, ⟨by decide +kernel, by decide +kernel⟩, by decide +kernel⟩
theorem i_X8_isSteep : zIn k_X8_isSteep := ⟨zGB_of ⟨List.mem_of_getElem? (i := 814) (by decide +kernel), by decide +kernel⟩, zGB_of ⟨List.mem_of_getElem? (i := 26) (by decide +kernel), by decide +kernel⟩⟩
abbrev k_X8_isSum : zMi := (yX8_isSum, cX8_isSum, 1, (some .boolean), { frames := 1, cells := 0, slots := 0, locals := 25 })
theorem m_X8_isSum : zMw (k_X8_isSum) 1 := ⟨zGB_of ⟨List.mem_of_getElem? (i := 60) (by decide +kernel), by decide +kernel⟩, zGB_of ⟨List.mem_of_getElem? (i := 775) (by decide +kernel), by decide +kernel⟩, ⟨by decide +kernel, by decide +kernel⟩, by decide +kernel⟩
theorem s_X8_isSum : Cond.static k_X8_isSum.1 ∈ zGB := zGB_of ⟨List.mem_of_getElem? (i := 774) (by decide +kernel), by decide +kernel⟩
abbrev k_X8_isSure : zMi := (yX8_isSure, cX8_isSure, 2, (some .boolean), { frames := 1, cells := 0, slots := 0, locals := 25 })
theorem m_X8_isSure : zMw (k_X8_isSure) 1 := ⟨zGB_of ⟨List.mem_of_getElem? (i := 60) (by decide +kernel), by decide +kernel⟩, zGB_of ⟨List.mem_of_getElem? (i := 1009) (by decide +kernel), by decide +kernel⟩, ⟨by decide +kernel, by decide +kernel⟩, by decide +kernel⟩
theorem i_X8_isSure : zIn k_X8_isSure := ⟨zGB_of ⟨List.mem_of_getElem? (i := 1008) (by decide +kernel), by decide +kernel⟩, zGB_of ⟨List.mem_of_getElem? (i := 50) (by decide +kernel), by decide +kernel⟩⟩
abbrev k_X8_join : zMi := (yX8_join, cX8_join, 7, (some .int), { frames := 3, cells := 0, slots := 0, locals := 72 })
theorem m_X8_join : zMw (k_X8_join) 3 := ⟨zGB_of ⟨List.mem_of_getElem? (i := 60) (by decide +kernel), by decide +kernel⟩, zGB_of ⟨List.mem_of_getElem? (i := 885) (by decide +kernel), by decide +kernel⟩, ⟨by decide +kernel, by decide +kernel⟩, by decide +kernel⟩
theorem i_X8_join : zIn k_X8_join := ⟨zGB_of ⟨List.mem_of_getElem? (i := 883) (by decide +kernel), by decide +kernel⟩, zGB_of ⟨List.mem_of_getElem? (i := 884) (by decide +kernel), by decide +kernel⟩⟩
abbrev k_X8_look : zMi := (yX8_look, cX8_look, 13, none, { frames := 5, cells := 0, slots := 0, locals := 122 })
theorem m_X8_look : zMw (k_X8_look) 4 := ⟨zGB_of ⟨List.mem_of_getElem? (i := 60) (by decide +kernel), by decide +kernel⟩, zGB_of ⟨List.mem_of_getElem? (i := 964) (by decide +kernel), by decide +kernel⟩, ⟨by decide +kernel, by decide +kernel⟩, by decide +kernel⟩
theorem i_X8_look : zIn k_X8_look := ⟨zGB_of ⟨List.mem_of_getElem? (i := 963) (by decide +kernel), by decide +kernel⟩, zGB_of ⟨List.mem_of_getElem? (i := 43) (by decide +kernel), by decide +kernel⟩⟩
abbrev k_X8_lose : zMi := (yX8_lose, cX8_lose, 8, none, { frames := 1, cells := 0, slots := 0, locals := 21 })
theorem m_X8_lose : zMw (k_X8_lose) 2 := ⟨zGB_of ⟨List.mem_of_getElem? (i := 60) (by decide +kernel), by decide +kernel⟩, zGB_of ⟨List.mem_of_getElem? (i := 873) (by decide +kernel), by decide +kernel⟩, ⟨by decide +kernel, by decide +kernel⟩, by decide +kernel⟩
theorem i_X8_lose : zIn k_X8_lose := ⟨zGB_of ⟨List.mem_of_getElem? (i := 872) (by decide +kernel), by decide +kernel⟩, zGB_of ⟨List.mem_of_getElem? (i := 36) (by decide +kernel), by decide +kernel⟩⟩
abbrev k_X8_lower : zMi := (yX8_lower, cX8_lower, 4, (some .long), { frames := 0, cells := 0, slots := 0, locals := 0 })
theorem m_X8_lower : zMw (k_X8_lower) 2 := ⟨zGB_of ⟨List.mem_of_getElem? (i := 60) (by decide +kernel), by decide +kernel⟩, zGB_of ⟨List.mem_of_getElem? (i := 825) (by decide +kernel), by decide +kernel⟩, ⟨by decide +kernel, by decide +kernel⟩, by decide +kernel⟩
theorem s_X8_lower : Cond.static k_X8_lower.1 ∈ zGB := zGB_of ⟨List.mem_of_getElem? (i := 824) (by decide +kernel), by decide +kernel⟩
abbrev k_X8_more : zMi := (yX8_more, cX8_more, 7, (some .int), { frames := 4, cells := 0, slots := 0, locals := 98 })
theorem m_X8_more : zMw (k_X8_more) 2 := ⟨zGB_of ⟨List.mem_of_getElem? (i := 60) (by decide +kernel), by decide +kernel⟩, zGB_of ⟨List.mem_of_getElem? (i := 881) (by decide +kernel), by decide +kernel⟩, ⟨by decide +kernel, by decide +kernel⟩, by decide +kernel⟩
theorem i_X8_more : zIn k_X8_more := ⟨zGB_of ⟨List.mem_of_getElem? (i := 879) (by decide +kernel), by decide +kernel⟩, zGB_of ⟨List.mem_of_getElem? (i := 880) (by decide +kernel), by decide +kernel⟩⟩
abbrev k_X8_multiply : zMi := (yX8_multiply, cX8_multiply, 16, none, { frames := 1, cells := 0, slots := 0, locals := 21 })
theorem m_X8_multiply : zMw (k_X8_multiply) 3 := ⟨zGB_of ⟨List.mem_of_getElem? (i := 60) (by decide +kernel), by decide +kernel⟩, zGB_of ⟨List.mem_of_getElem? (i := 853) (by decide +kernel), by decide +kernel⟩, ⟨by decide +kernel, by decide +kernel⟩, by decide +kernel⟩
theorem i_X8_multiply : zIn k_X8_multiply := ⟨zGB_of ⟨List.mem_of_getElem? (i := 852) (by decide +kernel), by decide +kernel⟩, zGB_of ⟨List.mem_of_getElem? (i := 31) (by decide +kernel), by decide +kernel⟩⟩
abbrev k_X8_need : zMi := (yX8_need, cX8_need, 5, (some .int), { frames := 6, cells := 0, slots := 0, locals := 154 })
theorem m_X8_need : zMw (k_X8_need) 3 := ⟨zGB_of ⟨List.mem_of_getElem? (i := 60) (by decide +kernel), by decide +kernel⟩, zGB_of ⟨List.mem_of_getElem? (i := 993) (by decide +kernel), by decide +kernel⟩, ⟨by decide +kernel, by decide +kernel⟩, by decide +kernel⟩
theorem i_X8_need : zIn k_X8_need := ⟨zGB_of ⟨List.mem_of_getElem? (i := 991) (by decide +kernel), by decide +kernel⟩, zGB_of ⟨List.mem_of_getElem? (i := 992) (by decide +kernel), by decide +kernel⟩⟩
abbrev k_X8_nextOf : zMi := (yX8_nextOf, cX8_nextOf, 4, (some .int), { frames := 2, cells := 0, slots := 0, locals := 48 })
theorem m_X8_nextOf : zMw (k_X8_nextOf) 2 := ⟨zGB_of ⟨List.mem_of_getElem? (i := 60) (by decide +kernel), by decide +kernel⟩, zGB_of ⟨List.mem_of_getElem? (i := 989) (by decide +kernel), by decide +kernel⟩, ⟨by decide +kernel, by decide +kernel⟩, by decide +kernel⟩
theorem i_X8_nextOf : zIn k_X8_nextOf := ⟨zGB_of ⟨List.mem_of_getElem? (i := 988) (by decide +kernel), by decide +kernel⟩, zGB_of ⟨List.mem_of_getElem? (i := 49) (by decide +kernel), by decide +kernel⟩⟩
abbrev k_X8_order : zMi := (yX8_order, cX8_order, 8, (some .int), { frames := 0, cells := 0, slots := 0, locals := 0 })
theorem m_X8_order : zMw (k_X8_order) 2 := ⟨zGB_of ⟨List.mem_of_getElem? (i := 60) (by decide +kernel), by decide +kernel⟩, zGB_of ⟨List.mem_of_getElem? (i := 869) (by decide +kernel), by decide +kernel⟩, ⟨by decide +kernel, by decide +kernel⟩, by decide +kernel⟩
theorem i_X8_order : zIn k_X8_order := ⟨zGB_of ⟨List.mem_of_getElem? (i := 868) (by decide +kernel), by decide +kernel⟩, zGB_of ⟨List.mem_of_getElem? (i := 35) (by decide +kernel), by decide +kernel⟩⟩
abbrev k_X8_part : zMi := (yX8_part, cX8_part, 6, (some .int), { frames := 2, cells := 0, slots := 0, locals := 45 })
theorem m_X8_part : zMw (k_X8_part) 4 := ⟨zGB_of ⟨List.mem_of_getElem? (i := 60) (by decide +kernel), by decide +kernel⟩, zGB_of ⟨List.mem_of_getElem? (i := 924) (by decide +kernel), by decide +kernel⟩, ⟨by decide +kernel, by decide +kernel⟩, by decide +kernel⟩
theorem i_X8_part : zIn k_X8_part := ⟨zGB_of ⟨List.mem_of_getElem? (i := 922) (by decide +kernel), by decide +kernel⟩, zGB_of ⟨List.mem_of_getElem? (i := 923) (by decide +kernel), by decide +kernel⟩⟩
abbrev k_X8_rest : zMi := (yX8_rest, cX8_rest, 9, (some .int), { frames := 3, cells := 0, slots := 0, locals := 67 })
theorem m_X8_rest : zMw (k_X8_rest) 3 := ⟨zGB_of ⟨List.mem_of_getElem? (i := 60) (by decide +kernel), by decide +kernel⟩, zGB_of ⟨List.mem_of_getElem? (i := 910) (by decide +kernel), by decide +kernel⟩, ⟨by decide +kernel, by decide +kernel⟩, by decide +kernel⟩
theorem i_X8_rest : zIn k_X8_rest := ⟨zGB_of ⟨List.mem_of_getElem? (i := 908) (by decide +kernel), by decide +kernel⟩, zGB_of ⟨List.mem_of_getElem? (i := 909) (by decide +kernel), by decide +kernel⟩⟩
abbrev k_X8_rule : zMi := (yX8_rule, cX8_rule, 6, (some .int), { frames := 2, cells := 0, slots := 0, locals := 45 })
theorem m_X8_rule : zMw (k_X8_rule) 5 := ⟨zGB_of ⟨List.mem_of_getElem? (i := 60) (by decide +kernel), by decide +kernel⟩, zGB_of ⟨List.mem_of_getElem? (i := 772) (by decide +kernel), by decide +kernel⟩, ⟨by decide +kernel, by decide +kernel⟩, by decide +kernel⟩
theorem i_X8_rule : zIn k_X8_rule := ⟨zGB_of ⟨List.mem_of_getElem? (i := 770) (by decide +kernel), by decide +kernel⟩, zGB_of ⟨List.mem_of_getElem? (i := 771) (by decide +kernel), by decide +kernel⟩⟩
abbrev k_X8_same : zMi := (yX8_same, cX8_same, 5, (some .int), { frames := 2, cells := 0, slots := 0, locals := 45 })
theorem m_X8_same : zMw (k_X8_same) 2 := ⟨zGB_of ⟨List.mem_of_getElem? (i := 60) (by decide +kernel), by decide +kernel⟩, zGB_of ⟨List.mem_of_getElem? (i := 920) (by decide +kernel), by decide +kernel⟩, ⟨by decide +kernel, by decide +kernel⟩, by decide +kernel⟩
theorem i_X8_same : zIn k_X8_same := ⟨zGB_of ⟨List.mem_of_getElem? (i := 918) (by decide +kernel), by decide +kernel⟩, zGB_of ⟨List.mem_of_getElem? (i := 919) (by decide +kernel), by decide +kernel⟩⟩
abbrev k_X8_set : zMi := (yX8_set, cX8_set, 6, none, { frames := 0, cells := 0, slots := 0, locals := 0 })
theorem m_X8_set : zMw (k_X8_set) 2 := ⟨zGB_of ⟨List.mem_of_getElem? (i := 60) (by decide +kernel), by decide +kernel⟩, zGB_of ⟨List.mem_of_getElem? (i := 841) (by decide +kernel), by decide +kernel⟩, ⟨by decide +kernel, by decide +kernel⟩, by decide +kernel⟩
theorem i_X8_set : zIn k_X8_set := ⟨zGB_of ⟨List.mem_of_getElem? (i := 840) (by decide +kernel), by decide +kernel⟩, zGB_of ⟨List.mem_of_getElem? (i := 28) (by decide +kernel), by decide +kernel⟩⟩
abbrev k_X8_sign : zMi := (yX8_sign, cX8_sign, 5, (some .int), { frames := 3, cells := 0, slots := 0, locals := 67 })
theorem m_X8_sign : zMw (k_X8_sign) 2 := ⟨zGB_of ⟨List.mem_of_getElem? (i := 60) (by decide +kernel), by decide +kernel⟩, zGB_of ⟨List.mem_of_getElem? (i := 906) (by decide +kernel), by decide +kernel⟩, ⟨by decide +kernel, by decide +kernel⟩, by decide +kernel⟩
theorem i_X8_sign : zIn k_X8_sign := ⟨zGB_of ⟨List.mem_of_getElem? (i := 904) (by decide +kernel), by decide +kernel⟩, zGB_of ⟨List.mem_of_getElem? (i := 905) (by decide +kernel), by decide +kernel⟩⟩
abbrev k_X8_signOf : zMi := (yX8_signOf, cX8_signOf, 1, (some .int), { frames := 0, cells := 0, slots := 0, locals := 0 })
theorem m_X8_signOf : zMw (k_X8_signOf) 0 := ⟨zGB_of ⟨List.mem_of_getElem? (i := 60) (by decide +kernel), by decide +kernel⟩, zGB_of ⟨List.mem_of_getElem? (i := 997) (by decide +kernel), by decide +kernel⟩, ⟨by decide +kernel, by decide +kernel⟩, by decide +kernel⟩
theorem i_X8_signOf : zIn k_X8_signOf := ⟨zGB_of ⟨List.mem_of_getElem? (i := 995) (by decide +kernel), by decide +kernel⟩, zGB_of ⟨List.mem_of_getElem? (i := 996) (by decide +kernel), by decide +kernel⟩⟩
abbrev k_X8_size : zMi := (yX8_size, cX8_size, 2, (some .long), { frames := 0, cells := 0, slots := 0, locals := 0 })
theorem m_X8_size : zMw (k_X8_size) 1 := ⟨zGB_of ⟨List.mem_of_getElem? (i := 60) (by decide +kernel), by decide +kernel⟩, zGB_of ⟨List.mem_of_getElem? (i := 818) (by decide +kernel), by decide +kernel⟩, ⟨by decide +kernel, by decide +kernel⟩, by decide +kernel⟩
theorem s_X8_size : Cond.static k_X8_size.1 ∈ zGB := zGB_of ⟨List.mem_of_getElem? (i := 817) (by decide +kernel), by decide +kernel⟩
abbrev k_X8_span : zMi := (yX8_span, cX8_span, 3, (some .int), { frames := 2, cells := 0, slots := 0, locals := 45 })
theorem m_X8_span : zMw (k_X8_span) 2 := ⟨zGB_of ⟨List.mem_of_getElem? (i := 60) (by decide +kernel), by decide +kernel⟩, zGB_of ⟨List.mem_of_getElem? (i := 893) (by decide +kernel), by decide +kernel⟩, ⟨by decide +kernel, by decide +kernel⟩, by decide +kernel⟩
theorem i_X8_span : zIn k_X8_span := ⟨zGB_of ⟨List.mem_of_getElem? (i := 891) (by decide +kernel), by decide +kernel⟩, zGB_of ⟨List.mem_of_getElem? (i := 892) (by decide +kernel), by decide +kernel⟩⟩
abbrev k_X8_times : zMi := (yX8_times, cX8_times, 8, none, { frames := 0, cells := 0, slots := 0, locals := 0 })
theorem m_X8_times : zMw (k_X8_times) 2 := ⟨zGB_of ⟨List.mem_of_getElem? (i := 60) (by decide +kernel), by decide +kernel⟩, zGB_of ⟨List.mem_of_getElem? (i := 849) (by decide +kernel), by decide +kernel⟩, ⟨by decide +kernel, by decide +kernel⟩, by decide +kernel⟩
theorem i_X8_times : zIn k_X8_times := ⟨zGB_of ⟨List.mem_of_getElem? (i := 848) (by decide +kernel), by decide +kernel⟩, zGB_of ⟨List.mem_of_getElem? (i := 30) (by decide +kernel), by decide +kernel⟩⟩
abbrev k_X8_told : zMi := (yX8_told, cX8_told, 5, (some .int), { frames := 2, cells := 0, slots := 0, locals := 45 })
theorem m_X8_told : zMw (k_X8_told) 3 := ⟨zGB_of ⟨List.mem_of_getElem? (i := 60) (by decide +kernel), by decide +kernel⟩, zGB_of ⟨List.mem_of_getElem? (i := 936) (by decide +kernel), by decide +kernel⟩, ⟨by decide +kernel, by decide +kernel⟩, by decide +kernel⟩
theorem i_X8_told : zIn k_X8_told := ⟨zGB_of ⟨List.mem_of_getElem? (i := 934) (by decide +kernel), by decide +kernel⟩, zGB_of ⟨List.mem_of_getElem? (i := 935) (by decide +kernel), by decide +kernel⟩⟩
abbrev k_X8_trim : zMi := (yX8_trim, cX8_trim, 2, none, { frames := 0, cells := 0, slots := 0, locals := 0 })
theorem m_X8_trim : zMw (k_X8_trim) 1 := ⟨zGB_of ⟨List.mem_of_getElem? (i := 60) (by decide +kernel), by decide +kernel⟩, zGB_of ⟨List.mem_of_getElem? (i := 857) (by decide +kernel), by decide +kernel⟩, ⟨by decide +kernel, by decide +kernel⟩, by decide +kernel⟩
theorem i_X8_trim : zIn k_X8_trim := ⟨zGB_of ⟨List.mem_of_getElem? (i := 856) (by decide +kernel), by decide +kernel⟩, zGB_of ⟨List.mem_of_getElem? (i := 32) (by decide +kernel), by decide +kernel⟩⟩
abbrev k_X8_up : zMi := (yX8_up, cX8_up, 11, none, { frames := 1, cells := 0, slots := 0, locals := 21 })
theorem m_X8_up : zMw (k_X8_up) 2 := ⟨zGB_of ⟨List.mem_of_getElem? (i := 60) (by decide +kernel), by decide +kernel⟩, zGB_of ⟨List.mem_of_getElem? (i := 980) (by decide +kernel), by decide +kernel⟩, ⟨by decide +kernel, by decide +kernel⟩, by decide +kernel⟩
theorem i_X8_up : zIn k_X8_up := ⟨zGB_of ⟨List.mem_of_getElem? (i := 979) (by decide +kernel), by decide +kernel⟩, zGB_of ⟨List.mem_of_getElem? (i := 47) (by decide +kernel), by decide +kernel⟩⟩
abbrev k_X8_upper : zMi := (yX8_upper, cX8_upper, 6, (some .long), { frames := 0, cells := 0, slots := 0, locals := 0 })
theorem m_X8_upper : zMw (k_X8_upper) 2 := ⟨zGB_of ⟨List.mem_of_getElem? (i := 60) (by decide +kernel), by decide +kernel⟩, zGB_of ⟨List.mem_of_getElem? (i := 821) (by decide +kernel), by decide +kernel⟩, ⟨by decide +kernel, by decide +kernel⟩, by decide +kernel⟩
theorem s_X8_upper : Cond.static k_X8_upper.1 ∈ zGB := zGB_of ⟨List.mem_of_getElem? (i := 820) (by decide +kernel), by decide +kernel⟩
abbrev k_X8_value : zMi := (yX8_value, cX8_value, 5, (some .int), { frames := 0, cells := 0, slots := 0, locals := 0 })
theorem m_X8_value : zMw (k_X8_value) 3 := ⟨zGB_of ⟨List.mem_of_getElem? (i := 60) (by decide +kernel), by decide +kernel⟩, zGB_of ⟨List.mem_of_getElem? (i := 801) (by decide +kernel), by decide +kernel⟩, ⟨by decide +kernel, by decide +kernel⟩, by decide +kernel⟩
theorem i_X8_value : zIn k_X8_value := ⟨zGB_of ⟨List.mem_of_getElem? (i := 800) (by decide +kernel), by decide +kernel⟩, zGB_of ⟨List.mem_of_getElem? (i := 24) (by decide +kernel), by decide +kernel⟩⟩
abbrev k_X8_where : zMi := (yX8_where, cX8_where, 6, (some .int), { frames := 2, cells := 0, slots := 0, locals := 46 })
theorem m_X8_where : zMw (k_X8_where) 2 := ⟨zGB_of ⟨List.mem_of_getElem? (i := 60) (by decide +kernel), by decide +kernel⟩, zGB_of ⟨List.mem_of_getElem? (i := 1018) (by decide +kernel), by decide +kernel⟩, ⟨by decide +kernel, by decide +kernel⟩, by decide +kernel⟩
theorem i_X8_where : zIn k_X8_where := ⟨zGB_of ⟨List.mem_of_getElem? (i := 1016) (by decide +kernel), by decide +kernel⟩, zGB_of ⟨List.mem_of_getElem? (i := 1017) (by decide +kernel), by decide +kernel⟩⟩
abbrev k_X8_whole : zMi := (yX8_whole, cX8_whole, 1, (some .long), { frames := 0, cells := 0, slots := 0, locals := 0 })
theorem m_X8_whole : zMw (k_X8_whole) 0 := ⟨zGB_of ⟨List.mem_of_getElem? (i := 60) (by decide +kernel), by decide +kernel⟩, zGB_of ⟨List.mem_of_getElem? (i := 1001) (by decide +kernel), by decide +kernel⟩, ⟨by decide +kernel, by decide +kernel⟩, by decide +kernel⟩
theorem i_X8_whole : zIn k_X8_whole := ⟨zGB_of ⟨List.mem_of_getElem? (i := 999) (by decide +kernel), by decide +kernel⟩, zGB_of ⟨List.mem_of_getElem? (i := 1000) (by decide +kernel), by decide +kernel⟩⟩
abbrev k_X8_wholeOf : zMi := (yX8_wholeOf, cX8_wholeOf, 5, (some .long), { frames := 2, cells := 0, slots := 0, locals := 51 })
theorem m_X8_wholeOf : zMw (k_X8_wholeOf) 1 := ⟨zGB_of ⟨List.mem_of_getElem? (i := 60) (by decide +kernel), by decide +kernel⟩, zGB_of ⟨List.mem_of_getElem? (i := 976) (by decide +kernel), by decide +kernel⟩, ⟨by decide +kernel, by decide +kernel⟩, by decide +kernel⟩
theorem i_X8_wholeOf : zIn k_X8_wholeOf := ⟨zGB_of ⟨List.mem_of_getElem? (i := 975) (by decide +kernel), by decide +kernel⟩, zGB_of ⟨List.mem_of_getElem? (i := 46) (by decide +kernel), by decide +kernel⟩⟩
abbrev k_X8_widen : zMi := (yX8_widen, cX8_widen, 3, none, { frames := 3, cells := 0, slots := 0, locals := 72 })
theorem m_X8_widen : zMw (k_X8_widen) 2 := ⟨zGB_of ⟨List.mem_of_getElem? (i := 60) (by decide +kernel), by decide +kernel⟩, zGB_of ⟨List.mem_of_getElem? (i := 972) (by decide +kernel), by decide +kernel⟩, ⟨by decide +kernel, by decide +kernel⟩, by decide +kernel⟩
theorem i_X8_widen : zIn k_X8_widen := ⟨zGB_of ⟨List.mem_of_getElem? (i := 971) (by decide +kernel), by decide +kernel⟩, zGB_of ⟨List.mem_of_getElem? (i := 45) (by decide +kernel), by decide +kernel⟩⟩
abbrev k_X8_word : zMi := (yX8_word, cX8_word, 6, (some .int), { frames := 3, cells := 0, slots := 0, locals := 67 })
theorem m_X8_word : zMw (k_X8_word) 3 := ⟨zGB_of ⟨List.mem_of_getElem? (i := 60) (by decide +kernel), by decide +kernel⟩, zGB_of ⟨List.mem_of_getElem? (i := 915) (by decide +kernel), by decide +kernel⟩, ⟨by decide +kernel, by decide +kernel⟩, by decide +kernel⟩
theorem i_X8_word : zIn k_X8_word := ⟨zGB_of ⟨List.mem_of_getElem? (i := 913) (by decide +kernel), by decide +kernel⟩, zGB_of ⟨List.mem_of_getElem? (i := 914) (by decide +kernel), by decide +kernel⟩⟩
theorem l_L_9 : zLk RL 9 (k_X7_init) := Or.inl (zGB_of ⟨List.mem_of_getElem? (i := 64) (by decide +kernel), by decide +kernel⟩)
theorem l_X7_3 : Cond.methodLink RX7 3 Lib.objectInit ∈ zGB := zGB_of ⟨List.mem_of_getElem? (i := 67) (by decide +kernel), by decide +kernel⟩
theorem l_X7_29 : zLk RX7 29 (k_X4_init) := Or.inr ⟨"ConstantMill", List.mem_filter.mpr ⟨List.mem_of_getElem? (i := 27) (by decide +kernel), by decide +kernel⟩⟩
theorem l_X4_3 : Cond.methodLink RX4 3 Lib.objectInit ∈ zGB := zGB_of ⟨List.mem_of_getElem? (i := 81) (by decide +kernel), by decide +kernel⟩
theorem l_X4_110 : zLk RX4 11 (k_X0_init 0) := Or.inl (zGB_of ⟨List.mem_of_getElem? (i := 84) (by decide +kernel), by decide +kernel⟩)
theorem l_X4_11 (N : Nat) : zLk RX4 11 (k_X0_init N) := l_X4_110
theorem l_X0_3 : Cond.methodLink RX0 3 Lib.objectInit ∈ zGB := zGB_of ⟨List.mem_of_getElem? (i := 87) (by decide +kernel), by decide +kernel⟩
theorem l_X7_36 : zLk RX7 36 (k_X2_init) := Or.inr ⟨"ConstantMill", List.mem_filter.mpr ⟨List.mem_of_getElem? (i := 70) (by decide +kernel), by decide +kernel⟩⟩
theorem l_X2_3 : Cond.methodLink RX2 3 Lib.objectInit ∈ zGB := zGB_of ⟨List.mem_of_getElem? (i := 124) (by decide +kernel), by decide +kernel⟩
theorem l_X2_110 : zLk RX2 11 (k_X0_init 0) := Or.inl (zGB_of ⟨List.mem_of_getElem? (i := 126) (by decide +kernel), by decide +kernel⟩)
theorem l_X2_11 (N : Nat) : zLk RX2 11 (k_X0_init N) := l_X2_110
theorem l_X7_41 : zLk RX7 41 (k_X5_init) := Or.inr ⟨"ConstantMill", List.mem_filter.mpr ⟨List.mem_of_getElem? (i := 90) (by decide +kernel), by decide +kernel⟩⟩
theorem l_X5_3 : Cond.methodLink RX5 3 Lib.objectInit ∈ zGB := zGB_of ⟨List.mem_of_getElem? (i := 144) (by decide +kernel), by decide +kernel⟩
theorem l_X5_110 : zLk RX5 11 (k_X0_init 0) := Or.inl (zGB_of ⟨List.mem_of_getElem? (i := 146) (by decide +kernel), by decide +kernel⟩)
theorem l_X5_11 (N : Nat) : zLk RX5 11 (k_X0_init N) := l_X5_110
theorem l_X7_48 : zLk RX7 48 (k_X3_init) := Or.inr ⟨"ConstantMill", List.mem_filter.mpr ⟨List.mem_of_getElem? (i := 138) (by decide +kernel), by decide +kernel⟩⟩
theorem l_X3_3 : Cond.methodLink RX3 3 Lib.objectInit ∈ zGB := zGB_of ⟨List.mem_of_getElem? (i := 192) (by decide +kernel), by decide +kernel⟩
theorem l_X7_59 : zLk RX7 59 (k_X6_init) := Or.inr ⟨"ConstantMill", List.mem_filter.mpr ⟨List.mem_of_getElem? (i := 177) (by decide +kernel), by decide +kernel⟩⟩
theorem l_X6_3 : Cond.methodLink RX6 3 Lib.objectInit ∈ zGB := zGB_of ⟨List.mem_of_getElem? (i := 231) (by decide +kernel), by decide +kernel⟩
theorem l_X7_60 : zLk RX7 60 (k_X1_init) := Or.inr ⟨"ConstantMill", List.mem_filter.mpr ⟨List.mem_of_getElem? (i := 200) (by decide +kernel), by decide +kernel⟩⟩
theorem l_X1_3 : Cond.methodLink RX1 3 Lib.objectInit ∈ zGB := zGB_of ⟨List.mem_of_getElem? (i := 254) (by decide +kernel), by decide +kernel⟩
theorem l_L_13 : zLk RL 13 (k_X7_rule) := Or.inl (zGB_of ⟨List.mem_of_getElem? (i := 303) (by decide +kernel), by decide +kernel⟩)
theorem l_X7_61 : zLk RX7 61 (k_X7_sumAt) := Or.inl (zGB_of ⟨List.mem_of_getElem? (i := 307) (by decide +kernel), by decide +kernel⟩)
theorem l_X7_65 : zLk RX7 65 (k_X7_isRule) := Or.inl (zGB_of ⟨List.mem_of_getElem? (i := 311) (by decide +kernel), by decide +kernel⟩)
theorem l_X7_69 : zLk RX7 69 (k_X7_isCoefficient) := Or.inl (zGB_of ⟨List.mem_of_getElem? (i := 314) (by decide +kernel), by decide +kernel⟩)
theorem l_X7_72 : zLk RX7 72 (k_X6_setRule) := Or.inl (zGB_of ⟨List.mem_of_getElem? (i := 317) (by decide +kernel), by decide +kernel⟩)
theorem l_X6_28 : zLk RX6 28 (k_X7_isRule) := Or.inr ⟨"ConstantMill", List.mem_filter.mpr ⟨List.mem_of_getElem? (i := 270) (by decide +kernel), by decide +kernel⟩⟩
theorem l_X7_76 : zLk RX7 76 (k_X7_emptyDrawersOf) := Or.inl (zGB_of ⟨List.mem_of_getElem? (i := 322) (by decide +kernel), by decide +kernel⟩)
theorem l_L_18 : zLk RL 18 (k_X7_bound) := Or.inl (zGB_of ⟨List.mem_of_getElem? (i := 326) (by decide +kernel), by decide +kernel⟩)
theorem l_L_23 : zLk RL 23 (k_X7_at) := Or.inl (zGB_of ⟨List.mem_of_getElem? (i := 331) (by decide +kernel), by decide +kernel⟩)
theorem l_X7_90 : zLk RX7 90 (k_X6_value) := Or.inl (zGB_of ⟨List.mem_of_getElem? (i := 337) (by decide +kernel), by decide +kernel⟩)
theorem l_L_27 : zLk RL 27 (k_X7_falls) := Or.inl (zGB_of ⟨List.mem_of_getElem? (i := 341) (by decide +kernel), by decide +kernel⟩)
theorem l_X7_94 : zLk RX7 94 (k_X6_firstFall) := Or.inl (zGB_of ⟨List.mem_of_getElem? (i := 345) (by decide +kernel), by decide +kernel⟩)
theorem l_X6_32 : zLk RX6 32 (k_X6_value) := Or.inl (zGB_of ⟨List.mem_of_getElem? (i := 349) (by decide +kernel), by decide +kernel⟩)
theorem l_X6_36 : zLk RX6 36 (k_X6_outgrowsBound) := Or.inl (zGB_of ⟨List.mem_of_getElem? (i := 350) (by decide +kernel), by decide +kernel⟩)
theorem l_X6_39 : Cond.methodLink RX6 39 Lib.MathLoose.abs_long.x ∈ zGB := zGB_of ⟨List.mem_of_getElem? (i := 354) (by decide +kernel), by decide +kernel⟩
theorem l_X6_45 : zLk RX6 45 (k_X6_upper) := Or.inl (zGB_of ⟨List.mem_of_getElem? (i := 357) (by decide +kernel), by decide +kernel⟩)
theorem l_X6_49 : zLk RX6 49 (k_X6_lower) := Or.inl (zGB_of ⟨List.mem_of_getElem? (i := 361) (by decide +kernel), by decide +kernel⟩)
theorem l_L_32 : zLk RL 32 (k_X7_grind) := Or.inl (zGB_of ⟨List.mem_of_getElem? (i := 364) (by decide +kernel), by decide +kernel⟩)
theorem l_X7_98 : zLk RX7 98 (k_X7_drawerAt) := Or.inl (zGB_of ⟨List.mem_of_getElem? (i := 368) (by decide +kernel), by decide +kernel⟩)
theorem l_X7_102 : zLk RX7 102 (k_X5_open) := Or.inl (zGB_of ⟨List.mem_of_getElem? (i := 372) (by decide +kernel), by decide +kernel⟩)
theorem l_X5_43 : zLk RX5 43 (k_X0_put) := Or.inl (zGB_of ⟨List.mem_of_getElem? (i := 376) (by decide +kernel), by decide +kernel⟩)
theorem l_X7_106 : zLk RX7 106 (k_X4_goOn) := Or.inl (zGB_of ⟨List.mem_of_getElem? (i := 380) (by decide +kernel), by decide +kernel⟩)
theorem l_X4_37 : zLk RX4 37 (k_X0_product) := Or.inl (zGB_of ⟨List.mem_of_getElem? (i := 384) (by decide +kernel), by decide +kernel⟩)
theorem l_X0_29 : zLk RX0 29 (k_X0_put) := Or.inl (zGB_of ⟨List.mem_of_getElem? (i := 388) (by decide +kernel), by decide +kernel⟩)
theorem l_X0_60 : zLk RX0 60 (k_X0_trim) := Or.inl (zGB_of ⟨List.mem_of_getElem? (i := 390) (by decide +kernel), by decide +kernel⟩)
theorem l_X4_45 : zLk RX4 45 (k_X6_value) := Or.inl (zGB_of ⟨List.mem_of_getElem? (i := 394) (by decide +kernel), by decide +kernel⟩)
theorem l_X4_51 : zLk RX4 51 (k_X0_times) := Or.inl (zGB_of ⟨List.mem_of_getElem? (i := 395) (by decide +kernel), by decide +kernel⟩)
theorem l_X0_33 : zLk RX0 33 (k_X0_negate) := Or.inl (zGB_of ⟨List.mem_of_getElem? (i := 399) (by decide +kernel), by decide +kernel⟩)
theorem l_X0_36 : Cond.methodLink RX0 36 Lib.MathLoose.abs_long.x ∈ zGB := zGB_of ⟨List.mem_of_getElem? (i := 403) (by decide +kernel), by decide +kernel⟩
theorem l_X0_42 : zLk RX0 42 (k_X0_append) := Or.inl (zGB_of ⟨List.mem_of_getElem? (i := 404) (by decide +kernel), by decide +kernel⟩)
theorem l_X4_54 : zLk RX4 54 (k_X0_copy) := Or.inl (zGB_of ⟨List.mem_of_getElem? (i := 408) (by decide +kernel), by decide +kernel⟩)
theorem l_X0_23 : Cond.methodLink RX0 23 Lib.Math.min.name ∈ zGB := zGB_of ⟨List.mem_of_getElem? (i := 412) (by decide +kernel), by decide +kernel⟩
theorem l_X4_61 : zLk RX4 61 (k_X0_plus) := Or.inl (zGB_of ⟨List.mem_of_getElem? (i := 415) (by decide +kernel), by decide +kernel⟩)
theorem l_X0_45 : zLk RX0 45 (k_X0_copy) := Or.inl (zGB_of ⟨List.mem_of_getElem? (i := 419) (by decide +kernel), by decide +kernel⟩)
theorem l_X0_49 : zLk RX0 49 (k_X0_addSize) := Or.inl (zGB_of ⟨List.mem_of_getElem? (i := 420) (by decide +kernel), by decide +kernel⟩)
theorem l_X0_63 : Cond.methodLink RX0 63 Lib.Math.max.name ∈ zGB := zGB_of ⟨List.mem_of_getElem? (i := 424) (by decide +kernel), by decide +kernel⟩
theorem l_X0_52 : zLk RX0 52 (k_X0_compareSizes) := Or.inl (zGB_of ⟨List.mem_of_getElem? (i := 428) (by decide +kernel), by decide +kernel⟩)
theorem l_X0_56 : zLk RX0 56 (k_X0_putDifference) := Or.inl (zGB_of ⟨List.mem_of_getElem? (i := 432) (by decide +kernel), by decide +kernel⟩)
theorem l_X7_110 : zLk RX7 110 (k_X5_terms) := Or.inl (zGB_of ⟨List.mem_of_getElem? (i := 436) (by decide +kernel), by decide +kernel⟩)
theorem l_L_37 : zLk RL 37 (k_X7_more) := Or.inl (zGB_of ⟨List.mem_of_getElem? (i := 440) (by decide +kernel), by decide +kernel⟩)
theorem l_L_41 : zLk RL 41 (k_X7_join) := Or.inl (zGB_of ⟨List.mem_of_getElem? (i := 444) (by decide +kernel), by decide +kernel⟩)
theorem l_X7_127 : zLk RX7 127 (k_X4_putTogether) := Or.inl (zGB_of ⟨List.mem_of_getElem? (i := 448) (by decide +kernel), by decide +kernel⟩)
theorem l_X4_67 : zLk RX4 67 (k_X4_multiplyInto) := Or.inl (zGB_of ⟨List.mem_of_getElem? (i := 452) (by decide +kernel), by decide +kernel⟩)
theorem l_L_45 : zLk RL 45 (k_X7_empty) := Or.inl (zGB_of ⟨List.mem_of_getElem? (i := 456) (by decide +kernel), by decide +kernel⟩)
theorem l_L_50 : zLk RL 50 (k_X7_span) := Or.inl (zGB_of ⟨List.mem_of_getElem? (i := 460) (by decide +kernel), by decide +kernel⟩)
theorem l_L_54 : zLk RL 54 (k_X7_bits) := Or.inl (zGB_of ⟨List.mem_of_getElem? (i := 464) (by decide +kernel), by decide +kernel⟩)
theorem l_X7_131 : zLk RX7 131 (k_X7_refusalOfNumber) := Or.inl (zGB_of ⟨List.mem_of_getElem? (i := 468) (by decide +kernel), by decide +kernel⟩)
theorem l_X7_237 : zLk RX7 237 (k_X5_number) := Or.inl (zGB_of ⟨List.mem_of_getElem? (i := 472) (by decide +kernel), by decide +kernel⟩)
theorem l_X7_135 : zLk RX7 135 (k_X7_numberAt) := Or.inl (zGB_of ⟨List.mem_of_getElem? (i := 476) (by decide +kernel), by decide +kernel⟩)
theorem l_X7_139 : zLk RX7 139 (k_X0_bitLength) := Or.inl (zGB_of ⟨List.mem_of_getElem? (i := 480) (by decide +kernel), by decide +kernel⟩)
theorem l_L_58 : zLk RL 58 (k_X7_sign) := Or.inl (zGB_of ⟨List.mem_of_getElem? (i := 484) (by decide +kernel), by decide +kernel⟩)
theorem l_L_62 : zLk RL 62 (k_X7_rest) := Or.inl (zGB_of ⟨List.mem_of_getElem? (i := 488) (by decide +kernel), by decide +kernel⟩)
theorem l_X7_150 : zLk RX7 150 (k_X0_modulo) := Or.inl (zGB_of ⟨List.mem_of_getElem? (i := 492) (by decide +kernel), by decide +kernel⟩)
theorem l_L_66 : zLk RL 66 (k_X7_word) := Or.inl (zGB_of ⟨List.mem_of_getElem? (i := 496) (by decide +kernel), by decide +kernel⟩)
theorem l_X7_153 : zLk RX7 153 (k_X0_sixteenBits) := Or.inl (zGB_of ⟨List.mem_of_getElem? (i := 500) (by decide +kernel), by decide +kernel⟩)
theorem l_L_70 : zLk RL 70 (k_X7_same) := Or.inl (zGB_of ⟨List.mem_of_getElem? (i := 507) (by decide +kernel), by decide +kernel⟩)
theorem l_X7_156 : zLk RX7 156 (k_X5_hasNumbersOf) := Or.inl (zGB_of ⟨List.mem_of_getElem? (i := 511) (by decide +kernel), by decide +kernel⟩)
theorem l_X5_46 : zLk RX5 46 (k_X0_isLike) := Or.inl (zGB_of ⟨List.mem_of_getElem? (i := 515) (by decide +kernel), by decide +kernel⟩)
theorem l_L_74 : zLk RL 74 (k_X7_part) := Or.inl (zGB_of ⟨List.mem_of_getElem? (i := 519) (by decide +kernel), by decide +kernel⟩)
theorem l_X7_160 : zLk RX7 160 (k_X7_constantAt) := Or.inl (zGB_of ⟨List.mem_of_getElem? (i := 523) (by decide +kernel), by decide +kernel⟩)
theorem l_X7_165 : zLk RX7 165 (k_X1_addPart) := Or.inl (zGB_of ⟨List.mem_of_getElem? (i := 528) (by decide +kernel), by decide +kernel⟩)
theorem l_L_78 : zLk RL 78 (k_X7_clear) := Or.inl (zGB_of ⟨List.mem_of_getElem? (i := 532) (by decide +kernel), by decide +kernel⟩)
theorem l_L_82 : zLk RL 82 (k_X7_told) := Or.inl (zGB_of ⟨List.mem_of_getElem? (i := 536) (by decide +kernel), by decide +kernel⟩)
theorem l_L_86 : zLk RL 86 (k_X7_figures) := Or.inl (zGB_of ⟨List.mem_of_getElem? (i := 540) (by decide +kernel), by decide +kernel⟩)
theorem l_X7_181 : zLk RX7 181 (k_X7_areFigures) := Or.inl (zGB_of ⟨List.mem_of_getElem? (i := 544) (by decide +kernel), by decide +kernel⟩)
theorem l_X7_185 : zLk RX7 185 (k_X7_areTerms) := Or.inl (zGB_of ⟨List.mem_of_getElem? (i := 547) (by decide +kernel), by decide +kernel⟩)
theorem l_X7_188 : zLk RX7 188 (k_X7_firstFallOf) := Or.inl (zGB_of ⟨List.mem_of_getElem? (i := 550) (by decide +kernel), by decide +kernel⟩)
theorem l_X7_192 : zLk RX7 192 (k_X7_tell) := Or.inl (zGB_of ⟨List.mem_of_getElem? (i := 554) (by decide +kernel), by decide +kernel⟩)
theorem l_X7_241 : zLk RX7 241 (k_X2_open) := Or.inl (zGB_of ⟨List.mem_of_getElem? (i := 558) (by decide +kernel), by decide +kernel⟩)
theorem l_X2_29 : zLk RX2 29 (k_X0_put) := Or.inl (zGB_of ⟨List.mem_of_getElem? (i := 562) (by decide +kernel), by decide +kernel⟩)
theorem l_X7_243 : zLk RX7 243 (k_X7_enclosePart) := Or.inl (zGB_of ⟨List.mem_of_getElem? (i := 563) (by decide +kernel), by decide +kernel⟩)
theorem l_X7_254 : zLk RX7 254 (k_X0_times) := Or.inl (zGB_of ⟨List.mem_of_getElem? (i := 567) (by decide +kernel), by decide +kernel⟩)
theorem l_X7_270 : zLk RX7 270 (k_X0_product) := Or.inl (zGB_of ⟨List.mem_of_getElem? (i := 568) (by decide +kernel), by decide +kernel⟩)
theorem l_X7_274 : zLk RX7 274 (k_X0_negate) := Or.inl (zGB_of ⟨List.mem_of_getElem? (i := 569) (by decide +kernel), by decide +kernel⟩)
theorem l_X7_280 : zLk RX7 280 (k_X0_copy) := Or.inl (zGB_of ⟨List.mem_of_getElem? (i := 570) (by decide +kernel), by decide +kernel⟩)
theorem l_X7_284 : zLk RX7 284 (k_X0_plus) := Or.inl (zGB_of ⟨List.mem_of_getElem? (i := 571) (by decide +kernel), by decide +kernel⟩)
theorem l_X7_287 : zLk RX7 287 (k_X2_add) := Or.inl (zGB_of ⟨List.mem_of_getElem? (i := 572) (by decide +kernel), by decide +kernel⟩)
theorem l_X2_32 : zLk RX2 32 (k_X2_addUpon) := Or.inl (zGB_of ⟨List.mem_of_getElem? (i := 576) (by decide +kernel), by decide +kernel⟩)
theorem l_X2_36 : zLk RX2 36 (k_X0_product) := Or.inl (zGB_of ⟨List.mem_of_getElem? (i := 580) (by decide +kernel), by decide +kernel⟩)
theorem l_X2_44 : zLk RX2 44 (k_X0_plus) := Or.inl (zGB_of ⟨List.mem_of_getElem? (i := 581) (by decide +kernel), by decide +kernel⟩)
theorem l_X2_40 : zLk RX2 40 (k_X0_copy) := Or.inl (zGB_of ⟨List.mem_of_getElem? (i := 582) (by decide +kernel), by decide +kernel⟩)
theorem l_X7_246 : zLk RX7 246 (k_X2_read) := Or.inl (zGB_of ⟨List.mem_of_getElem? (i := 583) (by decide +kernel), by decide +kernel⟩)
theorem l_X2_67 : zLk RX2 67 (k_X2_scale) := Or.inl (zGB_of ⟨List.mem_of_getElem? (i := 587) (by decide +kernel), by decide +kernel⟩)
theorem l_X2_83 : zLk RX2 83 (k_X0_times) := Or.inl (zGB_of ⟨List.mem_of_getElem? (i := 592) (by decide +kernel), by decide +kernel⟩)
theorem l_X2_86 : zLk RX2 86 (k_X0_bitLength) := Or.inl (zGB_of ⟨List.mem_of_getElem? (i := 593) (by decide +kernel), by decide +kernel⟩)
theorem l_X2_70 : zLk RX2 70 (k_X0_compareSizes) := Or.inl (zGB_of ⟨List.mem_of_getElem? (i := 594) (by decide +kernel), by decide +kernel⟩)
theorem l_X2_74 : zLk RX2 74 (k_X2_readWhole) := Or.inl (zGB_of ⟨List.mem_of_getElem? (i := 595) (by decide +kernel), by decide +kernel⟩)
theorem l_X2_90 : zLk RX2 90 (k_X0_takeQuotient) := Or.inl (zGB_of ⟨List.mem_of_getElem? (i := 599) (by decide +kernel), by decide +kernel⟩)
theorem l_X0_73 : zLk RX0 73 (k_X0_times) := Or.inl (zGB_of ⟨List.mem_of_getElem? (i := 603) (by decide +kernel), by decide +kernel⟩)
theorem l_X0_76 : Cond.methodLink RX0 76 Lib.MathLoose.min_long.x ∈ zGB := zGB_of ⟨List.mem_of_getElem? (i := 604) (by decide +kernel), by decide +kernel⟩
theorem l_X0_79 : zLk RX0 79 (k_X0_takeAway) := Or.inl (zGB_of ⟨List.mem_of_getElem? (i := 607) (by decide +kernel), by decide +kernel⟩)
theorem l_X0_83 : zLk RX0 83 (k_X0_putBack) := Or.inl (zGB_of ⟨List.mem_of_getElem? (i := 611) (by decide +kernel), by decide +kernel⟩)
theorem l_X2_78 : zLk RX2 78 (k_X2_readFigures) := Or.inl (zGB_of ⟨List.mem_of_getElem? (i := 615) (by decide +kernel), by decide +kernel⟩)
theorem l_X2_102 : zLk RX2 102 (k_X3_take) := Or.inl (zGB_of ⟨List.mem_of_getElem? (i := 620) (by decide +kernel), by decide +kernel⟩)
theorem l_L_90 : zLk RL 90 (k_X7_need) := Or.inl (zGB_of ⟨List.mem_of_getElem? (i := 624) (by decide +kernel), by decide +kernel⟩)
theorem l_X7_205 : zLk RX7 205 (k_X7_mostTermsOf) := Or.inl (zGB_of ⟨List.mem_of_getElem? (i := 628) (by decide +kernel), by decide +kernel⟩)
theorem l_L_94 : zLk RL 94 (k_X7_signOf) := Or.inl (zGB_of ⟨List.mem_of_getElem? (i := 632) (by decide +kernel), by decide +kernel⟩)
theorem l_L_99 : zLk RL 99 (k_X7_whole) := Or.inl (zGB_of ⟨List.mem_of_getElem? (i := 636) (by decide +kernel), by decide +kernel⟩)
theorem l_L_104 : zLk RL 104 (k_X7_figure) := Or.inl (zGB_of ⟨List.mem_of_getElem? (i := 640) (by decide +kernel), by decide +kernel⟩)
theorem l_X7_216 : zLk RX7 216 (k_X3_behindPoint) := Or.inl (zGB_of ⟨List.mem_of_getElem? (i := 644) (by decide +kernel), by decide +kernel⟩)
theorem l_L_108 : zLk RL 108 (k_X7_count) := Or.inl (zGB_of ⟨List.mem_of_getElem? (i := 648) (by decide +kernel), by decide +kernel⟩)
theorem l_X7_219 : zLk RX7 219 (k_X3_howOften) := Or.inl (zGB_of ⟨List.mem_of_getElem? (i := 652) (by decide +kernel), by decide +kernel⟩)
theorem l_X3_22 : zLk RX3 22 (k_X3_behindPoint) := Or.inl (zGB_of ⟨List.mem_of_getElem? (i := 656) (by decide +kernel), by decide +kernel⟩)
theorem l_L_112 : zLk RL 112 (k_X7_where) := Or.inl (zGB_of ⟨List.mem_of_getElem? (i := 657) (by decide +kernel), by decide +kernel⟩)
theorem l_X7_222 : zLk RX7 222 (k_X3_placeOf) := Or.inl (zGB_of ⟨List.mem_of_getElem? (i := 661) (by decide +kernel), by decide +kernel⟩)
theorem l_X3_26 : zLk RX3 26 (k_X3_comesAt) := Or.inl (zGB_of ⟨List.mem_of_getElem? (i := 665) (by decide +kernel), by decide +kernel⟩)
theorem l_L_116 : zLk RL 116 (k_X7_about) := Or.inl (zGB_of ⟨List.mem_of_getElem? (i := 669) (by decide +kernel), by decide +kernel⟩)
theorem l_L_120 : zLk RL 120 (k_X7_agree) := Or.inl (zGB_of ⟨List.mem_of_getElem? (i := 673) (by decide +kernel), by decide +kernel⟩)
theorem l_X7_233 : zLk RX7 233 (k_X3_firstDifference) := Or.inl (zGB_of ⟨List.mem_of_getElem? (i := 677) (by decide +kernel), by decide +kernel⟩)
theorem l_X3_37 : Cond.methodLink RX3 37 Lib.Math.min.name ∈ zGB := zGB_of ⟨List.mem_of_getElem? (i := 681) (by decide +kernel), by decide +kernel⟩
theorem l_L_12 : zLk RL 12 (k_X8_init) := Or.inl (zGB_of ⟨List.mem_of_getElem? (i := 684) (by decide +kernel), by decide +kernel⟩)
theorem l_X8_1 : Cond.methodLink RX8 1 Lib.objectInit ∈ zGB := zGB_of ⟨List.mem_of_getElem? (i := 687) (by decide +kernel), by decide +kernel⟩
theorem l_L_17 : zLk RL 17 (k_X8_rule) := Or.inl (zGB_of ⟨List.mem_of_getElem? (i := 769) (by decide +kernel), by decide +kernel⟩)
theorem l_X8_90 : zLk RX8 90 (k_X8_isSum) := Or.inl (zGB_of ⟨List.mem_of_getElem? (i := 773) (by decide +kernel), by decide +kernel⟩)
theorem l_X8_86 : zLk RX8 86 (k_X8_in) := Or.inl (zGB_of ⟨List.mem_of_getElem? (i := 777) (by decide +kernel), by decide +kernel⟩)
theorem l_X8_100 : zLk RX8 100 (k_X8_emptied) := Or.inl (zGB_of ⟨List.mem_of_getElem? (i := 783) (by decide +kernel), by decide +kernel⟩)
theorem l_L_22 : zLk RL 22 (k_X8_bound) := Or.inl (zGB_of ⟨List.mem_of_getElem? (i := 787) (by decide +kernel), by decide +kernel⟩)
theorem l_L_26 : zLk RL 26 (k_X8_at) := Or.inl (zGB_of ⟨List.mem_of_getElem? (i := 792) (by decide +kernel), by decide +kernel⟩)
theorem l_X8_108 : zLk RX8 108 (k_X8_value) := Or.inl (zGB_of ⟨List.mem_of_getElem? (i := 798) (by decide +kernel), by decide +kernel⟩)
theorem l_L_31 : zLk RL 31 (k_X8_falls) := Or.inl (zGB_of ⟨List.mem_of_getElem? (i := 803) (by decide +kernel), by decide +kernel⟩)
theorem l_X8_129 : zLk RX8 129 (k_X8_fall) := Or.inl (zGB_of ⟨List.mem_of_getElem? (i := 808) (by decide +kernel), by decide +kernel⟩)
theorem l_X8_123 : zLk RX8 123 (k_X8_isSteep) := Or.inl (zGB_of ⟨List.mem_of_getElem? (i := 812) (by decide +kernel), by decide +kernel⟩)
theorem l_X8_113 : zLk RX8 113 (k_X8_size) := Or.inl (zGB_of ⟨List.mem_of_getElem? (i := 816) (by decide +kernel), by decide +kernel⟩)
theorem l_X8_116 : zLk RX8 116 (k_X8_upper) := Or.inl (zGB_of ⟨List.mem_of_getElem? (i := 819) (by decide +kernel), by decide +kernel⟩)
theorem l_X8_120 : zLk RX8 120 (k_X8_lower) := Or.inl (zGB_of ⟨List.mem_of_getElem? (i := 823) (by decide +kernel), by decide +kernel⟩)
theorem l_L_36 : zLk RL 36 (k_X8_grind) := Or.inl (zGB_of ⟨List.mem_of_getElem? (i := 826) (by decide +kernel), by decide +kernel⟩)
theorem l_X8_150 : zLk RX8 150 (k_X8_isDrawer) := Or.inl (zGB_of ⟨List.mem_of_getElem? (i := 830) (by decide +kernel), by decide +kernel⟩)
theorem l_X8_153 : zLk RX8 153 (k_X8_begin) := Or.inl (zGB_of ⟨List.mem_of_getElem? (i := 834) (by decide +kernel), by decide +kernel⟩)
theorem l_X8_133 : zLk RX8 133 (k_X8_set) := Or.inl (zGB_of ⟨List.mem_of_getElem? (i := 838) (by decide +kernel), by decide +kernel⟩)
theorem l_X8_156 : zLk RX8 156 (k_X8_go) := Or.inl (zGB_of ⟨List.mem_of_getElem? (i := 842) (by decide +kernel), by decide +kernel⟩)
theorem l_X8_137 : zLk RX8 137 (k_X8_times) := Or.inl (zGB_of ⟨List.mem_of_getElem? (i := 846) (by decide +kernel), by decide +kernel⟩)
theorem l_X8_140 : zLk RX8 140 (k_X8_multiply) := Or.inl (zGB_of ⟨List.mem_of_getElem? (i := 850) (by decide +kernel), by decide +kernel⟩)
theorem l_X8_66 : zLk RX8 66 (k_X8_trim) := Or.inl (zGB_of ⟨List.mem_of_getElem? (i := 854) (by decide +kernel), by decide +kernel⟩)
theorem l_X8_144 : zLk RX8 144 (k_X8_add) := Or.inl (zGB_of ⟨List.mem_of_getElem? (i := 858) (by decide +kernel), by decide +kernel⟩)
theorem l_X8_70 : zLk RX8 70 (k_X8_gain) := Or.inl (zGB_of ⟨List.mem_of_getElem? (i := 862) (by decide +kernel), by decide +kernel⟩)
theorem l_X8_74 : zLk RX8 74 (k_X8_order) := Or.inl (zGB_of ⟨List.mem_of_getElem? (i := 866) (by decide +kernel), by decide +kernel⟩)
theorem l_X8_78 : zLk RX8 78 (k_X8_lose) := Or.inl (zGB_of ⟨List.mem_of_getElem? (i := 870) (by decide +kernel), by decide +kernel⟩)
theorem l_X8_81 : zLk RX8 81 (k_X8_copy) := Or.inl (zGB_of ⟨List.mem_of_getElem? (i := 874) (by decide +kernel), by decide +kernel⟩)
theorem l_L_40 : zLk RL 40 (k_X8_more) := Or.inl (zGB_of ⟨List.mem_of_getElem? (i := 878) (by decide +kernel), by decide +kernel⟩)
theorem l_L_44 : zLk RL 44 (k_X8_join) := Or.inl (zGB_of ⟨List.mem_of_getElem? (i := 882) (by decide +kernel), by decide +kernel⟩)
theorem l_L_49 : zLk RL 49 (k_X8_empty) := Or.inl (zGB_of ⟨List.mem_of_getElem? (i := 886) (by decide +kernel), by decide +kernel⟩)
theorem l_L_53 : zLk RL 53 (k_X8_span) := Or.inl (zGB_of ⟨List.mem_of_getElem? (i := 890) (by decide +kernel), by decide +kernel⟩)
theorem l_L_57 : zLk RL 57 (k_X8_bits) := Or.inl (zGB_of ⟨List.mem_of_getElem? (i := 895) (by decide +kernel), by decide +kernel⟩)
theorem l_X8_161 : zLk RX8 161 (k_X8_bars) := Or.inl (zGB_of ⟨List.mem_of_getElem? (i := 899) (by decide +kernel), by decide +kernel⟩)
theorem l_L_61 : zLk RL 61 (k_X8_sign) := Or.inl (zGB_of ⟨List.mem_of_getElem? (i := 903) (by decide +kernel), by decide +kernel⟩)
theorem l_L_65 : zLk RL 65 (k_X8_rest) := Or.inl (zGB_of ⟨List.mem_of_getElem? (i := 907) (by decide +kernel), by decide +kernel⟩)
theorem l_L_69 : zLk RL 69 (k_X8_word) := Or.inl (zGB_of ⟨List.mem_of_getElem? (i := 912) (by decide +kernel), by decide +kernel⟩)
theorem l_L_73 : zLk RL 73 (k_X8_same) := Or.inl (zGB_of ⟨List.mem_of_getElem? (i := 917) (by decide +kernel), by decide +kernel⟩)
theorem l_L_77 : zLk RL 77 (k_X8_part) := Or.inl (zGB_of ⟨List.mem_of_getElem? (i := 921) (by decide +kernel), by decide +kernel⟩)
theorem l_X8_168 : zLk RX8 168 (k_X8_isConstant) := Or.inl (zGB_of ⟨List.mem_of_getElem? (i := 925) (by decide +kernel), by decide +kernel⟩)
theorem l_L_81 : zLk RL 81 (k_X8_clear) := Or.inl (zGB_of ⟨List.mem_of_getElem? (i := 929) (by decide +kernel), by decide +kernel⟩)
theorem l_L_85 : zLk RL 85 (k_X8_told) := Or.inl (zGB_of ⟨List.mem_of_getElem? (i := 933) (by decide +kernel), by decide +kernel⟩)
theorem l_L_89 : zLk RL 89 (k_X8_figures) := Or.inl (zGB_of ⟨List.mem_of_getElem? (i := 937) (by decide +kernel), by decide +kernel⟩)
theorem l_X8_213 : zLk RX8 213 (k_X8_fits) := Or.inl (zGB_of ⟨List.mem_of_getElem? (i := 941) (by decide +kernel), by decide +kernel⟩)
theorem l_X8_216 : zLk RX8 216 (k_X8_fallOf) := Or.inl (zGB_of ⟨List.mem_of_getElem? (i := 945) (by decide +kernel), by decide +kernel⟩)
theorem l_X8_219 : zLk RX8 219 (k_X8_build) := Or.inl (zGB_of ⟨List.mem_of_getElem? (i := 949) (by decide +kernel), by decide +kernel⟩)
theorem l_X8_205 : zLk RX8 205 (k_X8_beginParts) := Or.inl (zGB_of ⟨List.mem_of_getElem? (i := 953) (by decide +kernel), by decide +kernel⟩)
theorem l_X8_208 : zLk RX8 208 (k_X8_goParts) := Or.inl (zGB_of ⟨List.mem_of_getElem? (i := 957) (by decide +kernel), by decide +kernel⟩)
theorem l_X8_222 : zLk RX8 222 (k_X8_look) := Or.inl (zGB_of ⟨List.mem_of_getElem? (i := 961) (by decide +kernel), by decide +kernel⟩)
theorem l_X8_195 : zLk RX8 195 (k_X8_combine) := Or.inl (zGB_of ⟨List.mem_of_getElem? (i := 965) (by decide +kernel), by decide +kernel⟩)
theorem l_X8_173 : zLk RX8 173 (k_X8_widen) := Or.inl (zGB_of ⟨List.mem_of_getElem? (i := 969) (by decide +kernel), by decide +kernel⟩)
theorem l_X8_198 : zLk RX8 198 (k_X8_wholeOf) := Or.inl (zGB_of ⟨List.mem_of_getElem? (i := 973) (by decide +kernel), by decide +kernel⟩)
theorem l_X8_177 : zLk RX8 177 (k_X8_up) := Or.inl (zGB_of ⟨List.mem_of_getElem? (i := 977) (by decide +kernel), by decide +kernel⟩)
theorem l_X8_182 : zLk RX8 182 (k_X8_half) := Or.inl (zGB_of ⟨List.mem_of_getElem? (i := 982) (by decide +kernel), by decide +kernel⟩)
theorem l_X8_202 : zLk RX8 202 (k_X8_nextOf) := Or.inl (zGB_of ⟨List.mem_of_getElem? (i := 986) (by decide +kernel), by decide +kernel⟩)
theorem l_L_93 : zLk RL 93 (k_X8_need) := Or.inl (zGB_of ⟨List.mem_of_getElem? (i := 990) (by decide +kernel), by decide +kernel⟩)
theorem l_L_98 : zLk RL 98 (k_X8_signOf) := Or.inl (zGB_of ⟨List.mem_of_getElem? (i := 994) (by decide +kernel), by decide +kernel⟩)
theorem l_L_103 : zLk RL 103 (k_X8_whole) := Or.inl (zGB_of ⟨List.mem_of_getElem? (i := 998) (by decide +kernel), by decide +kernel⟩)
theorem l_L_107 : zLk RL 107 (k_X8_figure) := Or.inl (zGB_of ⟨List.mem_of_getElem? (i := 1002) (by decide +kernel), by decide +kernel⟩)
theorem l_X8_244 : zLk RX8 244 (k_X8_isSure) := Or.inl (zGB_of ⟨List.mem_of_getElem? (i := 1006) (by decide +kernel), by decide +kernel⟩)
theorem l_L_111 : zLk RL 111 (k_X8_count) := Or.inl (zGB_of ⟨List.mem_of_getElem? (i := 1010) (by decide +kernel), by decide +kernel⟩)
theorem l_L_115 : zLk RL 115 (k_X8_where) := Or.inl (zGB_of ⟨List.mem_of_getElem? (i := 1015) (by decide +kernel), by decide +kernel⟩)
theorem l_L_119 : zLk RL 119 (k_X8_about) := Or.inl (zGB_of ⟨List.mem_of_getElem? (i := 1019) (by decide +kernel), by decide +kernel⟩)
theorem l_L_123 : zLk RL 123 (k_X8_agree) := Or.inl (zGB_of ⟨List.mem_of_getElem? (i := 1024) (by decide +kernel), by decide +kernel⟩)
theorem fw_X0_9 : Cond.fieldLink RX0 9 (zT 0 0).1 (zT 0 0).2.1 (zT 0 0).2.2.1 ∈ zGB := zGB_of ⟨List.mem_of_getElem? (i := 88) (by decide +kernel), by decide +kernel⟩
theorem f_X0_9 : zFl RX0 9 0 0 := ⟨by decide, by decide, Or.inl fw_X0_9⟩
theorem fw_X0_15 : Cond.fieldLink RX0 15 (zT 0 1).1 (zT 0 1).2.1 (zT 0 1).2.2.1 ∈ zGB := zGB_of ⟨List.mem_of_getElem? (i := 89) (by decide +kernel), by decide +kernel⟩
theorem f_X0_15 : zFl RX0 15 0 1 := ⟨by decide, by decide, Or.inl fw_X0_15⟩
theorem f_X2_47 : zFl RX2 47 0 1 := ⟨by decide, by decide, Or.inr ⟨"ConstantMill", List.mem_filter.mpr ⟨List.mem_of_getElem? (i := 39) (by decide +kernel), by decide +kernel⟩⟩⟩
theorem f_X7_144 : zFl RX7 144 0 1 := ⟨by decide, by decide, Or.inr ⟨"ConstantMill", List.mem_filter.mpr ⟨List.mem_of_getElem? (i := 40) (by decide +kernel), by decide +kernel⟩⟩⟩
theorem fw_X0_19 : Cond.fieldLink RX0 19 (zT 0 2).1 (zT 0 2).2.1 (zT 0 2).2.2.1 ∈ zGB := zGB_of ⟨List.mem_of_getElem? (i := 92) (by decide +kernel), by decide +kernel⟩
theorem f_X0_19 : zFl RX0 19 0 2 := ⟨by decide, by decide, Or.inl fw_X0_19⟩
theorem f_X2_51 : zFl RX2 51 0 2 := ⟨by decide, by decide, Or.inr ⟨"ConstantMill", List.mem_filter.mpr ⟨List.mem_of_getElem? (i := 42) (by decide +kernel), by decide +kernel⟩⟩⟩
theorem f_X7_147 : zFl RX7 147 0 2 := ⟨by decide, by decide, Or.inr ⟨"ConstantMill", List.mem_filter.mpr ⟨List.mem_of_getElem? (i := 43) (by decide +kernel), by decide +kernel⟩⟩⟩
theorem fw_X4_14 : Cond.fieldLink RX4 14 (zT 4 0).1 (zT 4 0).2.1 (zT 4 0).2.2.1 ∈ zGB := zGB_of ⟨List.mem_of_getElem? (i := 103) (by decide +kernel), by decide +kernel⟩
theorem f_X4_14 : zFl RX4 14 4 0 := ⟨by decide, by decide, Or.inl fw_X4_14⟩
theorem fw_X4_20 : Cond.fieldLink RX4 20 (zT 4 1).1 (zT 4 1).2.1 (zT 4 1).2.2.1 ∈ zGB := zGB_of ⟨List.mem_of_getElem? (i := 104) (by decide +kernel), by decide +kernel⟩
theorem f_X4_20 : zFl RX4 20 4 1 := ⟨by decide, by decide, Or.inl fw_X4_20⟩
theorem f_X7_258 : zFl RX7 258 4 1 := ⟨by decide, by decide, Or.inr ⟨"ConstantMill", List.mem_filter.mpr ⟨List.mem_of_getElem? (i := 54) (by decide +kernel), by decide +kernel⟩⟩⟩
theorem fw_X4_23 : Cond.fieldLink RX4 23 (zT 4 2).1 (zT 4 2).2.1 (zT 4 2).2.2.1 ∈ zGB := zGB_of ⟨List.mem_of_getElem? (i := 106) (by decide +kernel), by decide +kernel⟩
theorem f_X4_23 : zFl RX4 23 4 2 := ⟨by decide, by decide, Or.inl fw_X4_23⟩
theorem f_X7_261 : zFl RX7 261 4 2 := ⟨by decide, by decide, Or.inr ⟨"ConstantMill", List.mem_filter.mpr ⟨List.mem_of_getElem? (i := 56) (by decide +kernel), by decide +kernel⟩⟩⟩
theorem fw_X4_26 : Cond.fieldLink RX4 26 (zT 4 3).1 (zT 4 3).2.1 (zT 4 3).2.2.1 ∈ zGB := zGB_of ⟨List.mem_of_getElem? (i := 108) (by decide +kernel), by decide +kernel⟩
theorem f_X4_26 : zFl RX4 26 4 3 := ⟨by decide, by decide, Or.inl fw_X4_26⟩
theorem f_X7_277 : zFl RX7 277 4 3 := ⟨by decide, by decide, Or.inr ⟨"ConstantMill", List.mem_filter.mpr ⟨List.mem_of_getElem? (i := 58) (by decide +kernel), by decide +kernel⟩⟩⟩
theorem fw_X2_14 : Cond.fieldLink RX2 14 (zT 2 0).1 (zT 2 0).2.1 (zT 2 0).2.2.1 ∈ zGB := zGB_of ⟨List.mem_of_getElem? (i := 127) (by decide +kernel), by decide +kernel⟩
theorem f_X2_14 : zFl RX2 14 2 0 := ⟨by decide, by decide, Or.inl fw_X2_14⟩
theorem fw_X2_20 : Cond.fieldLink RX2 20 (zT 2 1).1 (zT 2 1).2.1 (zT 2 1).2.2.1 ∈ zGB := zGB_of ⟨List.mem_of_getElem? (i := 128) (by decide +kernel), by decide +kernel⟩
theorem f_X2_20 : zFl RX2 20 2 1 := ⟨by decide, by decide, Or.inl fw_X2_20⟩
theorem fw_X2_23 : Cond.fieldLink RX2 23 (zT 2 2).1 (zT 2 2).2.1 (zT 2 2).2.2.1 ∈ zGB := zGB_of ⟨List.mem_of_getElem? (i := 129) (by decide +kernel), by decide +kernel⟩
theorem f_X2_23 : zFl RX2 23 2 2 := ⟨by decide, by decide, Or.inl fw_X2_23⟩
theorem fw_X2_26 : Cond.fieldLink RX2 26 (zT 2 3).1 (zT 2 3).2.1 (zT 2 3).2.2.1 ∈ zGB := zGB_of ⟨List.mem_of_getElem? (i := 130) (by decide +kernel), by decide +kernel⟩
theorem f_X2_26 : zFl RX2 26 2 3 := ⟨by decide, by decide, Or.inl fw_X2_26⟩
theorem fw_X5_14 : Cond.fieldLink RX5 14 (zT 5 0).1 (zT 5 0).2.1 (zT 5 0).2.2.1 ∈ zGB := zGB_of ⟨List.mem_of_getElem? (i := 147) (by decide +kernel), by decide +kernel⟩
theorem f_X5_14 : zFl RX5 14 5 0 := ⟨by decide, by decide, Or.inl fw_X5_14⟩
theorem f_X4_29 : zFl RX4 29 5 0 := ⟨by decide, by decide, Or.inr ⟨"ConstantMill", List.mem_filter.mpr ⟨List.mem_of_getElem? (i := 97) (by decide +kernel), by decide +kernel⟩⟩⟩
theorem fw_X5_20 : Cond.fieldLink RX5 20 (zT 5 1).1 (zT 5 1).2.1 (zT 5 1).2.2.1 ∈ zGB := zGB_of ⟨List.mem_of_getElem? (i := 149) (by decide +kernel), by decide +kernel⟩
theorem f_X5_20 : zFl RX5 20 5 1 := ⟨by decide, by decide, Or.inl fw_X5_20⟩
theorem f_X4_64 : zFl RX4 64 5 1 := ⟨by decide, by decide, Or.inr ⟨"ConstantMill", List.mem_filter.mpr ⟨List.mem_of_getElem? (i := 99) (by decide +kernel), by decide +kernel⟩⟩⟩
theorem f_X7_264 : zFl RX7 264 5 1 := ⟨by decide, by decide, Or.inr ⟨"ConstantMill", List.mem_filter.mpr ⟨List.mem_of_getElem? (i := 100) (by decide +kernel), by decide +kernel⟩⟩⟩
theorem fw_X5_23 : Cond.fieldLink RX5 23 (zT 5 2).1 (zT 5 2).2.1 (zT 5 2).2.2.1 ∈ zGB := zGB_of ⟨List.mem_of_getElem? (i := 152) (by decide +kernel), by decide +kernel⟩
theorem f_X5_23 : zFl RX5 23 5 2 := ⟨by decide, by decide, Or.inl fw_X5_23⟩
theorem f_X4_34 : zFl RX4 34 5 2 := ⟨by decide, by decide, Or.inr ⟨"ConstantMill", List.mem_filter.mpr ⟨List.mem_of_getElem? (i := 102) (by decide +kernel), by decide +kernel⟩⟩⟩
theorem f_X7_267 : zFl RX7 267 5 2 := ⟨by decide, by decide, Or.inr ⟨"ConstantMill", List.mem_filter.mpr ⟨List.mem_of_getElem? (i := 103) (by decide +kernel), by decide +kernel⟩⟩⟩
theorem fw_X5_26 : Cond.fieldLink RX5 26 (zT 5 3).1 (zT 5 3).2.1 (zT 5 3).2.2.1 ∈ zGB := zGB_of ⟨List.mem_of_getElem? (i := 155) (by decide +kernel), by decide +kernel⟩
theorem f_X5_26 : zFl RX5 26 5 3 := ⟨by decide, by decide, Or.inl fw_X5_26⟩
theorem f_X4_58 : zFl RX4 58 5 3 := ⟨by decide, by decide, Or.inr ⟨"ConstantMill", List.mem_filter.mpr ⟨List.mem_of_getElem? (i := 105) (by decide +kernel), by decide +kernel⟩⟩⟩
theorem f_X7_250 : zFl RX7 250 5 3 := ⟨by decide, by decide, Or.inr ⟨"ConstantMill", List.mem_filter.mpr ⟨List.mem_of_getElem? (i := 106) (by decide +kernel), by decide +kernel⟩⟩⟩
theorem fw_X5_29 : Cond.fieldLink RX5 29 (zT 5 4).1 (zT 5 4).2.1 (zT 5 4).2.2.1 ∈ zGB := zGB_of ⟨List.mem_of_getElem? (i := 158) (by decide +kernel), by decide +kernel⟩
theorem f_X5_29 : zFl RX5 29 5 4 := ⟨by decide, by decide, Or.inl fw_X5_29⟩
theorem f_X4_74 : zFl RX4 74 5 4 := ⟨by decide, by decide, Or.inr ⟨"ConstantMill", List.mem_filter.mpr ⟨List.mem_of_getElem? (i := 108) (by decide +kernel), by decide +kernel⟩⟩⟩
theorem f_X7_114 : zFl RX7 114 5 4 := ⟨by decide, by decide, Or.inr ⟨"ConstantMill", List.mem_filter.mpr ⟨List.mem_of_getElem? (i := 109) (by decide +kernel), by decide +kernel⟩⟩⟩
theorem fw_X5_33 : Cond.fieldLink RX5 33 (zT 5 5).1 (zT 5 5).2.1 (zT 5 5).2.2.1 ∈ zGB := zGB_of ⟨List.mem_of_getElem? (i := 161) (by decide +kernel), by decide +kernel⟩
theorem f_X5_33 : zFl RX5 33 5 5 := ⟨by decide, by decide, Or.inl fw_X5_33⟩
theorem f_X4_78 : zFl RX4 78 5 5 := ⟨by decide, by decide, Or.inr ⟨"ConstantMill", List.mem_filter.mpr ⟨List.mem_of_getElem? (i := 111) (by decide +kernel), by decide +kernel⟩⟩⟩
theorem f_X7_121 : zFl RX7 121 5 5 := ⟨by decide, by decide, Or.inr ⟨"ConstantMill", List.mem_filter.mpr ⟨List.mem_of_getElem? (i := 112) (by decide +kernel), by decide +kernel⟩⟩⟩
theorem fw_X5_37 : Cond.fieldLink RX5 37 (zT 5 6).1 (zT 5 6).2.1 (zT 5 6).2.2.1 ∈ zGB := zGB_of ⟨List.mem_of_getElem? (i := 164) (by decide +kernel), by decide +kernel⟩
theorem f_X5_37 : zFl RX5 37 5 6 := ⟨by decide, by decide, Or.inl fw_X5_37⟩
theorem f_X4_71 : zFl RX4 71 5 6 := ⟨by decide, by decide, Or.inr ⟨"ConstantMill", List.mem_filter.mpr ⟨List.mem_of_getElem? (i := 114) (by decide +kernel), by decide +kernel⟩⟩⟩
theorem f_X7_124 : zFl RX7 124 5 6 := ⟨by decide, by decide, Or.inr ⟨"ConstantMill", List.mem_filter.mpr ⟨List.mem_of_getElem? (i := 115) (by decide +kernel), by decide +kernel⟩⟩⟩
theorem f_X4_41 : zFl RX4 41 5 7 := ⟨by decide, by decide, Or.inr ⟨"ConstantMill", List.mem_filter.mpr ⟨List.mem_of_getElem? (i := 116) (by decide +kernel), by decide +kernel⟩⟩⟩
theorem fw_X5_40 : Cond.fieldLink RX5 40 (zT 5 7).1 (zT 5 7).2.1 (zT 5 7).2.2.1 ∈ zGB := zGB_of ⟨List.mem_of_getElem? (i := 168) (by decide +kernel), by decide +kernel⟩
theorem f_X5_40 : zFl RX5 40 5 7 := ⟨by decide, by decide, Or.inl fw_X5_40⟩
theorem f_X7_118 : zFl RX7 118 5 7 := ⟨by decide, by decide, Or.inr ⟨"ConstantMill", List.mem_filter.mpr ⟨List.mem_of_getElem? (i := 118) (by decide +kernel), by decide +kernel⟩⟩⟩
theorem fw_X3_9 : Cond.fieldLink RX3 9 (zT 3 0).1 (zT 3 0).2.1 (zT 3 0).2.2.1 ∈ zGB := zGB_of ⟨List.mem_of_getElem? (i := 193) (by decide +kernel), by decide +kernel⟩
theorem f_X3_9 : zFl RX3 9 3 0 := ⟨by decide, by decide, Or.inl fw_X3_9⟩
theorem f_X7_196 : zFl RX7 196 3 1 := ⟨by decide, by decide, Or.inr ⟨"ConstantMill", List.mem_filter.mpr ⟨List.mem_of_getElem? (i := 143) (by decide +kernel), by decide +kernel⟩⟩⟩
theorem fw_X3_15 : Cond.fieldLink RX3 15 (zT 3 2).1 (zT 3 2).2.1 (zT 3 2).2.2.1 ∈ zGB := zGB_of ⟨List.mem_of_getElem? (i := 195) (by decide +kernel), by decide +kernel⟩
theorem f_X3_15 : zFl RX3 15 3 2 := ⟨by decide, by decide, Or.inl fw_X3_15⟩
theorem f_X2_97 : zFl RX2 97 3 2 := ⟨by decide, by decide, Or.inr ⟨"ConstantMill", List.mem_filter.mpr ⟨List.mem_of_getElem? (i := 145) (by decide +kernel), by decide +kernel⟩⟩⟩
theorem f_X7_225 : zFl RX7 225 3 2 := ⟨by decide, by decide, Or.inr ⟨"ConstantMill", List.mem_filter.mpr ⟨List.mem_of_getElem? (i := 146) (by decide +kernel), by decide +kernel⟩⟩⟩
theorem f_X2_94 : zFl RX2 94 3 3 := ⟨by decide, by decide, Or.inr ⟨"ConstantMill", List.mem_filter.mpr ⟨List.mem_of_getElem? (i := 147) (by decide +kernel), by decide +kernel⟩⟩⟩
theorem f_X7_228 : zFl RX7 228 3 3 := ⟨by decide, by decide, Or.inr ⟨"ConstantMill", List.mem_filter.mpr ⟨List.mem_of_getElem? (i := 148) (by decide +kernel), by decide +kernel⟩⟩⟩
theorem f_X7_231 : zFl RX7 231 3 4 := ⟨by decide, by decide, Or.inr ⟨"ConstantMill", List.mem_filter.mpr ⟨List.mem_of_getElem? (i := 149) (by decide +kernel), by decide +kernel⟩⟩⟩
theorem f_X2_55 : zFl RX2 55 3 5 := ⟨by decide, by decide, Or.inr ⟨"ConstantMill", List.mem_filter.mpr ⟨List.mem_of_getElem? (i := 150) (by decide +kernel), by decide +kernel⟩⟩⟩
theorem fw_X3_30 : Cond.fieldLink RX3 30 (zT 3 5).1 (zT 3 5).2.1 (zT 3 5).2.2.1 ∈ zGB := zGB_of ⟨List.mem_of_getElem? (i := 202) (by decide +kernel), by decide +kernel⟩
theorem f_X3_30 : zFl RX3 30 3 5 := ⟨by decide, by decide, Or.inl fw_X3_30⟩
theorem f_X7_209 : zFl RX7 209 3 5 := ⟨by decide, by decide, Or.inr ⟨"ConstantMill", List.mem_filter.mpr ⟨List.mem_of_getElem? (i := 152) (by decide +kernel), by decide +kernel⟩⟩⟩
theorem fw_X3_19 : Cond.fieldLink RX3 19 (zT 3 6).1 (zT 3 6).2.1 (zT 3 6).2.2.1 ∈ zGB := zGB_of ⟨List.mem_of_getElem? (i := 204) (by decide +kernel), by decide +kernel⟩
theorem f_X3_19 : zFl RX3 19 3 6 := ⟨by decide, by decide, Or.inl fw_X3_19⟩
theorem f_X2_60 : zFl RX2 60 3 6 := ⟨by decide, by decide, Or.inr ⟨"ConstantMill", List.mem_filter.mpr ⟨List.mem_of_getElem? (i := 154) (by decide +kernel), by decide +kernel⟩⟩⟩
theorem f_X7_202 : zFl RX7 202 3 6 := ⟨by decide, by decide, Or.inr ⟨"ConstantMill", List.mem_filter.mpr ⟨List.mem_of_getElem? (i := 155) (by decide +kernel), by decide +kernel⟩⟩⟩
theorem f_X2_63 : zFl RX2 63 3 7 := ⟨by decide, by decide, Or.inr ⟨"ConstantMill", List.mem_filter.mpr ⟨List.mem_of_getElem? (i := 156) (by decide +kernel), by decide +kernel⟩⟩⟩
theorem fw_X3_33 : Cond.fieldLink RX3 33 (zT 3 7).1 (zT 3 7).2.1 (zT 3 7).2.2.1 ∈ zGB := zGB_of ⟨List.mem_of_getElem? (i := 208) (by decide +kernel), by decide +kernel⟩
theorem f_X3_33 : zFl RX3 33 3 7 := ⟨by decide, by decide, Or.inl fw_X3_33⟩
theorem f_X7_212 : zFl RX7 212 3 7 := ⟨by decide, by decide, Or.inr ⟨"ConstantMill", List.mem_filter.mpr ⟨List.mem_of_getElem? (i := 158) (by decide +kernel), by decide +kernel⟩⟩⟩
theorem fw_X6_9 : Cond.fieldLink RX6 9 (zT 6 0).1 (zT 6 0).2.1 (zT 6 0).2.2.1 ∈ zGB := zGB_of ⟨List.mem_of_getElem? (i := 232) (by decide +kernel), by decide +kernel⟩
theorem f_X6_9 : zFl RX6 9 6 0 := ⟨by decide, by decide, Or.inl fw_X6_9⟩
theorem fw_X6_15 : Cond.fieldLink RX6 15 (zT 6 1).1 (zT 6 1).2.1 (zT 6 1).2.2.1 ∈ zGB := zGB_of ⟨List.mem_of_getElem? (i := 233) (by decide +kernel), by decide +kernel⟩
theorem f_X6_15 : zFl RX6 15 6 1 := ⟨by decide, by decide, Or.inl fw_X6_15⟩
theorem fw_X6_18 : Cond.fieldLink RX6 18 (zT 6 2).1 (zT 6 2).2.1 (zT 6 2).2.2.1 ∈ zGB := zGB_of ⟨List.mem_of_getElem? (i := 234) (by decide +kernel), by decide +kernel⟩
theorem f_X6_18 : zFl RX6 18 6 2 := ⟨by decide, by decide, Or.inl fw_X6_18⟩
theorem fw_X6_21 : Cond.fieldLink RX6 21 (zT 6 3).1 (zT 6 3).2.1 (zT 6 3).2.2.1 ∈ zGB := zGB_of ⟨List.mem_of_getElem? (i := 235) (by decide +kernel), by decide +kernel⟩
theorem f_X6_21 : zFl RX6 21 6 3 := ⟨by decide, by decide, Or.inl fw_X6_21⟩
theorem f_X7_81 : zFl RX7 81 6 3 := ⟨by decide, by decide, Or.inr ⟨"ConstantMill", List.mem_filter.mpr ⟨List.mem_of_getElem? (i := 185) (by decide +kernel), by decide +kernel⟩⟩⟩
theorem fw_X6_25 : Cond.fieldLink RX6 25 (zT 6 4).1 (zT 6 4).2.1 (zT 6 4).2.2.1 ∈ zGB := zGB_of ⟨List.mem_of_getElem? (i := 237) (by decide +kernel), by decide +kernel⟩
theorem f_X6_25 : zFl RX6 25 6 4 := ⟨by decide, by decide, Or.inl fw_X6_25⟩
theorem f_X7_85 : zFl RX7 85 6 4 := ⟨by decide, by decide, Or.inr ⟨"ConstantMill", List.mem_filter.mpr ⟨List.mem_of_getElem? (i := 187) (by decide +kernel), by decide +kernel⟩⟩⟩
theorem fw_X1_9 : Cond.fieldLink RX1 9 (zT 1 0).1 (zT 1 0).2.1 (zT 1 0).2.2.1 ∈ zGB := zGB_of ⟨List.mem_of_getElem? (i := 255) (by decide +kernel), by decide +kernel⟩
theorem f_X1_9 : zFl RX1 9 1 0 := ⟨by decide, by decide, Or.inl fw_X1_9⟩
theorem f_X7_172 : zFl RX7 172 1 0 := ⟨by decide, by decide, Or.inr ⟨"ConstantMill", List.mem_filter.mpr ⟨List.mem_of_getElem? (i := 205) (by decide +kernel), by decide +kernel⟩⟩⟩
theorem fw_X1_15 : Cond.fieldLink RX1 15 (zT 1 1).1 (zT 1 1).2.1 (zT 1 1).2.2.1 ∈ zGB := zGB_of ⟨List.mem_of_getElem? (i := 257) (by decide +kernel), by decide +kernel⟩
theorem f_X1_15 : zFl RX1 15 1 1 := ⟨by decide, by decide, Or.inl fw_X1_15⟩
theorem f_X7_176 : zFl RX7 176 1 1 := ⟨by decide, by decide, Or.inr ⟨"ConstantMill", List.mem_filter.mpr ⟨List.mem_of_getElem? (i := 207) (by decide +kernel), by decide +kernel⟩⟩⟩
theorem fw_X1_18 : Cond.fieldLink RX1 18 (zT 1 2).1 (zT 1 2).2.1 (zT 1 2).2.2.1 ∈ zGB := zGB_of ⟨List.mem_of_getElem? (i := 259) (by decide +kernel), by decide +kernel⟩
theorem f_X1_18 : zFl RX1 18 1 2 := ⟨by decide, by decide, Or.inl fw_X1_18⟩
theorem f_X7_179 : zFl RX7 179 1 2 := ⟨by decide, by decide, Or.inr ⟨"ConstantMill", List.mem_filter.mpr ⟨List.mem_of_getElem? (i := 209) (by decide +kernel), by decide +kernel⟩⟩⟩
theorem fw_X1_21 : Cond.fieldLink RX1 21 (zT 1 3).1 (zT 1 3).2.1 (zT 1 3).2.2.1 ∈ zGB := zGB_of ⟨List.mem_of_getElem? (i := 261) (by decide +kernel), by decide +kernel⟩
theorem f_X1_21 : zFl RX1 21 1 3 := ⟨by decide, by decide, Or.inl fw_X1_21⟩
theorem f_X7_169 : zFl RX7 169 1 3 := ⟨by decide, by decide, Or.inr ⟨"ConstantMill", List.mem_filter.mpr ⟨List.mem_of_getElem? (i := 211) (by decide +kernel), by decide +kernel⟩⟩⟩
theorem fw_X7_11 : Cond.fieldLink RX7 11 (zT 7 0).1 (zT 7 0).2.1 (zT 7 0).2.2.1 ∈ zGB := zGB_of ⟨List.mem_of_getElem? (i := 272) (by decide +kernel), by decide +kernel⟩
theorem f_X7_11 : zFl RX7 11 7 0 := ⟨by decide, by decide, Or.inl fw_X7_11⟩
theorem fw_X7_17 : Cond.fieldLink RX7 17 (zT 7 1).1 (zT 7 1).2.1 (zT 7 1).2.2.1 ∈ zGB := zGB_of ⟨List.mem_of_getElem? (i := 273) (by decide +kernel), by decide +kernel⟩
theorem f_X7_17 : zFl RX7 17 7 1 := ⟨by decide, by decide, Or.inl fw_X7_17⟩
theorem fw_X7_23 : Cond.fieldLink RX7 23 (zT 7 2).1 (zT 7 2).2.1 (zT 7 2).2.2.1 ∈ zGB := zGB_of ⟨List.mem_of_getElem? (i := 274) (by decide +kernel), by decide +kernel⟩
theorem f_X7_23 : zFl RX7 23 7 2 := ⟨by decide, by decide, Or.inl fw_X7_23⟩
theorem fw_X7_30 : Cond.fieldLink RX7 30 (zT 7 3).1 (zT 7 3).2.1 (zT 7 3).2.2.1 ∈ zGB := zGB_of ⟨List.mem_of_getElem? (i := 275) (by decide +kernel), by decide +kernel⟩
theorem f_X7_30 : zFl RX7 30 7 3 := ⟨by decide, by decide, Or.inl fw_X7_30⟩
theorem fw_X7_37 : Cond.fieldLink RX7 37 (zT 7 4).1 (zT 7 4).2.1 (zT 7 4).2.2.1 ∈ zGB := zGB_of ⟨List.mem_of_getElem? (i := 276) (by decide +kernel), by decide +kernel⟩
theorem f_X7_37 : zFl RX7 37 7 4 := ⟨by decide, by decide, Or.inl fw_X7_37⟩
theorem fw_X7_42 : Cond.fieldLink RX7 42 (zT 7 5).1 (zT 7 5).2.1 (zT 7 5).2.2.1 ∈ zGB := zGB_of ⟨List.mem_of_getElem? (i := 277) (by decide +kernel), by decide +kernel⟩
theorem f_X7_42 : zFl RX7 42 7 5 := ⟨by decide, by decide, Or.inl fw_X7_42⟩
theorem fw_X7_49 : Cond.fieldLink RX7 49 (zT 7 6).1 (zT 7 6).2.1 (zT 7 6).2.2.1 ∈ zGB := zGB_of ⟨List.mem_of_getElem? (i := 278) (by decide +kernel), by decide +kernel⟩
theorem f_X7_49 : zFl RX7 49 7 6 := ⟨by decide, by decide, Or.inl fw_X7_49⟩
theorem fw_X7_53 : Cond.fieldLink RX7 53 (zT 7 7).1 (zT 7 7).2.1 (zT 7 7).2.2.1 ∈ zGB := zGB_of ⟨List.mem_of_getElem? (i := 279) (by decide +kernel), by decide +kernel⟩
theorem f_X7_53 : zFl RX7 53 7 7 := ⟨by decide, by decide, Or.inl fw_X7_53⟩
theorem fw_X7_56 : Cond.fieldLink RX7 56 (zT 7 8).1 (zT 7 8).2.1 (zT 7 8).2.2.1 ∈ zGB := zGB_of ⟨List.mem_of_getElem? (i := 280) (by decide +kernel), by decide +kernel⟩
theorem f_X7_56 : zFl RX7 56 7 8 := ⟨by decide, by decide, Or.inl fw_X7_56⟩
theorem fw_X7_199 : Cond.fieldLink RX7 199 (zT 7 9).1 (zT 7 9).2.1 (zT 7 9).2.2.1 ∈ zGB := zGB_of ⟨List.mem_of_getElem? (i := 281) (by decide +kernel), by decide +kernel⟩
theorem f_X7_199 : zFl RX7 199 7 9 := ⟨by decide, by decide, Or.inl fw_X7_199⟩
theorem fw_X8_8 : Cond.fieldLink RX8 8 (zT 8 0).1 (zT 8 0).2.1 (zT 8 0).2.2.1 ∈ zGB := zGB_of ⟨List.mem_of_getElem? (i := 689) (by decide +kernel), by decide +kernel⟩
theorem f_X8_8 : zFl RX8 8 8 0 := ⟨by decide, by decide, Or.inl fw_X8_8⟩
theorem fw_X8_14 : Cond.fieldLink RX8 14 (zT 8 1).1 (zT 8 1).2.1 (zT 8 1).2.2.1 ∈ zGB := zGB_of ⟨List.mem_of_getElem? (i := 690) (by decide +kernel), by decide +kernel⟩
theorem f_X8_14 : zFl RX8 14 8 1 := ⟨by decide, by decide, Or.inl fw_X8_14⟩
theorem fw_X8_17 : Cond.fieldLink RX8 17 (zT 8 2).1 (zT 8 2).2.1 (zT 8 2).2.2.1 ∈ zGB := zGB_of ⟨List.mem_of_getElem? (i := 691) (by decide +kernel), by decide +kernel⟩
theorem f_X8_17 : zFl RX8 17 8 2 := ⟨by decide, by decide, Or.inl fw_X8_17⟩
theorem fw_X8_21 : Cond.fieldLink RX8 21 (zT 8 3).1 (zT 8 3).2.1 (zT 8 3).2.2.1 ∈ zGB := zGB_of ⟨List.mem_of_getElem? (i := 692) (by decide +kernel), by decide +kernel⟩
theorem f_X8_21 : zFl RX8 21 8 3 := ⟨by decide, by decide, Or.inl fw_X8_21⟩
theorem fw_X8_24 : Cond.fieldLink RX8 24 (zT 8 4).1 (zT 8 4).2.1 (zT 8 4).2.2.1 ∈ zGB := zGB_of ⟨List.mem_of_getElem? (i := 693) (by decide +kernel), by decide +kernel⟩
theorem f_X8_24 : zFl RX8 24 8 4 := ⟨by decide, by decide, Or.inl fw_X8_24⟩
theorem fw_X8_27 : Cond.fieldLink RX8 27 (zT 8 5).1 (zT 8 5).2.1 (zT 8 5).2.2.1 ∈ zGB := zGB_of ⟨List.mem_of_getElem? (i := 694) (by decide +kernel), by decide +kernel⟩
theorem f_X8_27 : zFl RX8 27 8 5 := ⟨by decide, by decide, Or.inl fw_X8_27⟩
theorem fw_X8_30 : Cond.fieldLink RX8 30 (zT 8 6).1 (zT 8 6).2.1 (zT 8 6).2.2.1 ∈ zGB := zGB_of ⟨List.mem_of_getElem? (i := 695) (by decide +kernel), by decide +kernel⟩
theorem f_X8_30 : zFl RX8 30 8 6 := ⟨by decide, by decide, Or.inl fw_X8_30⟩
theorem fw_X8_33 : Cond.fieldLink RX8 33 (zT 8 7).1 (zT 8 7).2.1 (zT 8 7).2.2.1 ∈ zGB := zGB_of ⟨List.mem_of_getElem? (i := 696) (by decide +kernel), by decide +kernel⟩
theorem f_X8_33 : zFl RX8 33 8 7 := ⟨by decide, by decide, Or.inl fw_X8_33⟩
theorem fw_X8_36 : Cond.fieldLink RX8 36 (zT 8 8).1 (zT 8 8).2.1 (zT 8 8).2.2.1 ∈ zGB := zGB_of ⟨List.mem_of_getElem? (i := 697) (by decide +kernel), by decide +kernel⟩
theorem f_X8_36 : zFl RX8 36 8 8 := ⟨by decide, by decide, Or.inl fw_X8_36⟩
theorem fw_X8_39 : Cond.fieldLink RX8 39 (zT 8 9).1 (zT 8 9).2.1 (zT 8 9).2.2.1 ∈ zGB := zGB_of ⟨List.mem_of_getElem? (i := 698) (by decide +kernel), by decide +kernel⟩
theorem f_X8_39 : zFl RX8 39 8 9 := ⟨by decide, by decide, Or.inl fw_X8_39⟩
theorem fw_X8_42 : Cond.fieldLink RX8 42 (zT 8 10).1 (zT 8 10).2.1 (zT 8 10).2.2.1 ∈ zGB := zGB_of ⟨List.mem_of_getElem? (i := 699) (by decide +kernel), by decide +kernel⟩
theorem f_X8_42 : zFl RX8 42 8 10 := ⟨by decide, by decide, Or.inl fw_X8_42⟩
theorem fw_X8_45 : Cond.fieldLink RX8 45 (zT 8 11).1 (zT 8 11).2.1 (zT 8 11).2.2.1 ∈ zGB := zGB_of ⟨List.mem_of_getElem? (i := 700) (by decide +kernel), by decide +kernel⟩
theorem f_X8_45 : zFl RX8 45 8 11 := ⟨by decide, by decide, Or.inl fw_X8_45⟩
theorem fw_X8_48 : Cond.fieldLink RX8 48 (zT 8 12).1 (zT 8 12).2.1 (zT 8 12).2.2.1 ∈ zGB := zGB_of ⟨List.mem_of_getElem? (i := 701) (by decide +kernel), by decide +kernel⟩
theorem f_X8_48 : zFl RX8 48 8 12 := ⟨by decide, by decide, Or.inl fw_X8_48⟩
theorem fw_X8_185 : Cond.fieldLink RX8 185 (zT 8 13).1 (zT 8 13).2.1 (zT 8 13).2.2.1 ∈ zGB := zGB_of ⟨List.mem_of_getElem? (i := 702) (by decide +kernel), by decide +kernel⟩
theorem f_X8_185 : zFl RX8 185 8 13 := ⟨by decide, by decide, Or.inl fw_X8_185⟩
theorem fw_X8_188 : Cond.fieldLink RX8 188 (zT 8 14).1 (zT 8 14).2.1 (zT 8 14).2.2.1 ∈ zGB := zGB_of ⟨List.mem_of_getElem? (i := 703) (by decide +kernel), by decide +kernel⟩
theorem f_X8_188 : zFl RX8 188 8 14 := ⟨by decide, by decide, Or.inl fw_X8_188⟩
theorem fw_X8_192 : Cond.fieldLink RX8 192 (zT 8 15).1 (zT 8 15).2.1 (zT 8 15).2.2.1 ∈ zGB := zGB_of ⟨List.mem_of_getElem? (i := 704) (by decide +kernel), by decide +kernel⟩
theorem f_X8_192 : zFl RX8 192 8 15 := ⟨by decide, by decide, Or.inl fw_X8_192⟩
theorem fw_X8_51 : Cond.fieldLink RX8 51 (zT 8 16).1 (zT 8 16).2.1 (zT 8 16).2.2.1 ∈ zGB := zGB_of ⟨List.mem_of_getElem? (i := 705) (by decide +kernel), by decide +kernel⟩
theorem f_X8_51 : zFl RX8 51 8 16 := ⟨by decide, by decide, Or.inl fw_X8_51⟩
theorem fw_X8_60 : Cond.fieldLink RX8 60 (zT 8 17).1 (zT 8 17).2.1 (zT 8 17).2.2.1 ∈ zGB := zGB_of ⟨List.mem_of_getElem? (i := 706) (by decide +kernel), by decide +kernel⟩
theorem f_X8_60 : zFl RX8 60 8 17 := ⟨by decide, by decide, Or.inl fw_X8_60⟩
theorem fw_X8_226 : Cond.fieldLink RX8 226 (zT 8 18).1 (zT 8 18).2.1 (zT 8 18).2.2.1 ∈ zGB := zGB_of ⟨List.mem_of_getElem? (i := 707) (by decide +kernel), by decide +kernel⟩
theorem f_X8_226 : zFl RX8 226 8 18 := ⟨by decide, by decide, Or.inl fw_X8_226⟩
theorem fw_X8_229 : Cond.fieldLink RX8 229 (zT 8 19).1 (zT 8 19).2.1 (zT 8 19).2.2.1 ∈ zGB := zGB_of ⟨List.mem_of_getElem? (i := 708) (by decide +kernel), by decide +kernel⟩
theorem f_X8_229 : zFl RX8 229 8 19 := ⟨by decide, by decide, Or.inl fw_X8_229⟩
theorem fw_X8_232 : Cond.fieldLink RX8 232 (zT 8 20).1 (zT 8 20).2.1 (zT 8 20).2.2.1 ∈ zGB := zGB_of ⟨List.mem_of_getElem? (i := 709) (by decide +kernel), by decide +kernel⟩
theorem f_X8_232 : zFl RX8 232 8 20 := ⟨by decide, by decide, Or.inl fw_X8_232⟩
theorem fw_X8_235 : Cond.fieldLink RX8 235 (zT 8 21).1 (zT 8 21).2.1 (zT 8 21).2.2.1 ∈ zGB := zGB_of ⟨List.mem_of_getElem? (i := 710) (by decide +kernel), by decide +kernel⟩
theorem f_X8_235 : zFl RX8 235 8 21 := ⟨by decide, by decide, Or.inl fw_X8_235⟩
theorem fw_X8_238 : Cond.fieldLink RX8 238 (zT 8 22).1 (zT 8 22).2.1 (zT 8 22).2.2.1 ∈ zGB := zGB_of ⟨List.mem_of_getElem? (i := 711) (by decide +kernel), by decide +kernel⟩
theorem f_X8_238 : zFl RX8 238 8 22 := ⟨by decide, by decide, Or.inl fw_X8_238⟩
theorem fw_X8_241 : Cond.fieldLink RX8 241 (zT 8 23).1 (zT 8 23).2.1 (zT 8 23).2.2.1 ∈ zGB := zGB_of ⟨List.mem_of_getElem? (i := 712) (by decide +kernel), by decide +kernel⟩
theorem f_X8_241 : zFl RX8 241 8 23 := ⟨by decide, by decide, Or.inl fw_X8_241⟩
theorem fw_X8_54 : Cond.fieldLink RX8 54 (zT 8 24).1 (zT 8 24).2.1 (zT 8 24).2.2.1 ∈ zGB := zGB_of ⟨List.mem_of_getElem? (i := 713) (by decide +kernel), by decide +kernel⟩
theorem f_X8_54 : zFl RX8 54 8 24 := ⟨by decide, by decide, Or.inl fw_X8_54⟩
theorem fw_X8_57 : Cond.fieldLink RX8 57 (zT 8 25).1 (zT 8 25).2.1 (zT 8 25).2.2.1 ∈ zGB := zGB_of ⟨List.mem_of_getElem? (i := 714) (by decide +kernel), by decide +kernel⟩
theorem f_X8_57 : zFl RX8 57 8 25 := ⟨by decide, by decide, Or.inl fw_X8_57⟩
theorem q_X7_80 : Cond.constant RX7 80 (1000000) ∈ zGB := zGB_of ⟨List.mem_of_getElem? (i := 330) (by decide +kernel), by decide +kernel⟩
theorem q_X7_88 : Cond.constant RX7 88 (-1000000001) ∈ zGB := zGB_of ⟨List.mem_of_getElem? (i := 335) (by decide +kernel), by decide +kernel⟩
theorem q_X7_89 : Cond.constant RX7 89 (-1000000002) ∈ zGB := zGB_of ⟨List.mem_of_getElem? (i := 336) (by decide +kernel), by decide +kernel⟩
theorem q_X6_52 : Cond.constantLong RX6 52 (1073741823) ∈ zGB := zGB_of ⟨List.mem_of_getElem? (i := 360) (by decide +kernel), by decide +kernel⟩
theorem q_X0_40 : Cond.constantLong RX0 40 (1073741823) ∈ zGB := zGB_of ⟨List.mem_of_getElem? (i := 389) (by decide +kernel), by decide +kernel⟩
theorem q_X0_66 : Cond.constant RX0 66 (1073741823) ∈ zGB := zGB_of ⟨List.mem_of_getElem? (i := 427) (by decide +kernel), by decide +kernel⟩
theorem q_X0_67 : Cond.constantLong RX0 67 (16) ∈ zGB := zGB_of ⟨List.mem_of_getElem? (i := 504) (by decide +kernel), by decide +kernel⟩
theorem q_X0_69 : Cond.constantLong RX0 69 (30) ∈ zGB := zGB_of ⟨List.mem_of_getElem? (i := 505) (by decide +kernel), by decide +kernel⟩
theorem q_X0_71 : Cond.constantLong RX0 71 (65535) ∈ zGB := zGB_of ⟨List.mem_of_getElem? (i := 506) (by decide +kernel), by decide +kernel⟩
theorem q_X7_164 : Cond.constant RX7 164 (-1000000) ∈ zGB := zGB_of ⟨List.mem_of_getElem? (i := 527) (by decide +kernel), by decide +kernel⟩
theorem q_X2_82 : Cond.constant RX2 82 (1073741824) ∈ zGB := zGB_of ⟨List.mem_of_getElem? (i := 591) (by decide +kernel), by decide +kernel⟩
theorem q_X2_100 : Cond.constantLong RX2 100 (1073741824) ∈ zGB := zGB_of ⟨List.mem_of_getElem? (i := 619) (by decide +kernel), by decide +kernel⟩
theorem q_X8_7 : Cond.constant RX8 7 (72000) ∈ zGB := zGB_of ⟨List.mem_of_getElem? (i := 688) (by decide +kernel), by decide +kernel⟩
theorem q_X8_84 : Cond.constantLong RX8 84 (5) ∈ zGB := zGB_of ⟨List.mem_of_getElem? (i := 776) (by decide +kernel), by decide +kernel⟩
theorem q_X8_94 : Cond.constantLong RX8 94 (3) ∈ zGB := zGB_of ⟨List.mem_of_getElem? (i := 780) (by decide +kernel), by decide +kernel⟩
theorem q_X8_96 : Cond.constantLong RX8 96 (-999) ∈ zGB := zGB_of ⟨List.mem_of_getElem? (i := 781) (by decide +kernel), by decide +kernel⟩
theorem q_X8_98 : Cond.constantLong RX8 98 (999) ∈ zGB := zGB_of ⟨List.mem_of_getElem? (i := 782) (by decide +kernel), by decide +kernel⟩
theorem q_X8_104 : Cond.constant RX8 104 (1000000) ∈ zGB := zGB_of ⟨List.mem_of_getElem? (i := 791) (by decide +kernel), by decide +kernel⟩
theorem q_X8_105 : Cond.constant RX8 105 (-1000000001) ∈ zGB := zGB_of ⟨List.mem_of_getElem? (i := 796) (by decide +kernel), by decide +kernel⟩
theorem q_X8_106 : Cond.constantLong RX8 106 (99) ∈ zGB := zGB_of ⟨List.mem_of_getElem? (i := 797) (by decide +kernel), by decide +kernel⟩
theorem q_X8_112 : Cond.constant RX8 112 (-1000000002) ∈ zGB := zGB_of ⟨List.mem_of_getElem? (i := 802) (by decide +kernel), by decide +kernel⟩
theorem q_X8_127 : Cond.constantLong RX8 127 (100) ∈ zGB := zGB_of ⟨List.mem_of_getElem? (i := 807) (by decide +kernel), by decide +kernel⟩
theorem q_X8_64 : Cond.constantLong RX8 64 (4294967295) ∈ zGB := zGB_of ⟨List.mem_of_getElem? (i := 822) (by decide +kernel), by decide +kernel⟩
theorem q_X8_148 : Cond.constantLong RX8 148 (7) ∈ zGB := zGB_of ⟨List.mem_of_getElem? (i := 833) (by decide +kernel), by decide +kernel⟩
theorem q_X8_159 : Cond.constantLong RX8 159 (2) ∈ zGB := zGB_of ⟨List.mem_of_getElem? (i := 894) (by decide +kernel), by decide +kernel⟩
theorem q_X8_165 : Cond.constantLong RX8 165 (1000000) ∈ zGB := zGB_of ⟨List.mem_of_getElem? (i := 911) (by decide +kernel), by decide +kernel⟩
theorem q_X8_167 : Cond.constant RX8 167 (65535) ∈ zGB := zGB_of ⟨List.mem_of_getElem? (i := 916) (by decide +kernel), by decide +kernel⟩
theorem q_X8_171 : Cond.constantLong RX8 171 (-1000000) ∈ zGB := zGB_of ⟨List.mem_of_getElem? (i := 928) (by decide +kernel), by decide +kernel⟩
theorem q_X8_211 : Cond.constantLong RX8 211 (36) ∈ zGB := zGB_of ⟨List.mem_of_getElem? (i := 944) (by decide +kernel), by decide +kernel⟩
theorem q_X8_180 : Cond.constantLong RX8 180 (-1) ∈ zGB := zGB_of ⟨List.mem_of_getElem? (i := 981) (by decide +kernel), by decide +kernel⟩
theorem q_X8_247 : Cond.constantLong RX8 247 (35) ∈ zGB := zGB_of ⟨List.mem_of_getElem? (i := 1014) (by decide +kernel), by decide +kernel⟩
theorem q_X8_249 : Cond.constantLong RX8 249 (4) ∈ zGB := zGB_of ⟨List.mem_of_getElem? (i := 1023) (by decide +kernel), by decide +kernel⟩
theorem c_L_7 : Cond.classLink RL 7 (zC 7) ∈ zGB := zGB_of ⟨List.mem_of_getElem? (i := 62) (by decide +kernel), by decide +kernel⟩
theorem c_X7_9 : Cond.classLink RX7 9 (zC 6) ∈ zGB := zGB_of ⟨List.mem_of_getElem? (i := 70) (by decide +kernel), by decide +kernel⟩
theorem c_X7_15 : Cond.classLink RX7 15 (zC 5) ∈ zGB := zGB_of ⟨List.mem_of_getElem? (i := 72) (by decide +kernel), by decide +kernel⟩
theorem c_X7_21 : Cond.classLink RX7 21 (zC 1) ∈ zGB := zGB_of ⟨List.mem_of_getElem? (i := 74) (by decide +kernel), by decide +kernel⟩
theorem c_X7_27 : Cond.classLink RX7 27 (zC 4) ∈ zGB := zGB_of ⟨List.mem_of_getElem? (i := 76) (by decide +kernel), by decide +kernel⟩
theorem c_X4_9 : Cond.classLink RX4 9 (zC 0) ∈ zGB := zGB_of ⟨List.mem_of_getElem? (i := 82) (by decide +kernel), by decide +kernel⟩
theorem c_X7_34 : Cond.classLink RX7 34 (zC 2) ∈ zGB := zGB_of ⟨List.mem_of_getElem? (i := 119) (by decide +kernel), by decide +kernel⟩
theorem c_X2_9 : Cond.classLink RX2 9 (zC 0) ∈ zGB := zGB_of ⟨List.mem_of_getElem? (i := 125) (by decide +kernel), by decide +kernel⟩
theorem c_X5_9 : Cond.classLink RX5 9 (zC 0) ∈ zGB := zGB_of ⟨List.mem_of_getElem? (i := 145) (by decide +kernel), by decide +kernel⟩
theorem c_X7_46 : Cond.classLink RX7 46 (zC 3) ∈ zGB := zGB_of ⟨List.mem_of_getElem? (i := 187) (by decide +kernel), by decide +kernel⟩
theorem c_L_10 : Cond.classLink RL 10 (zC 8) ∈ zGB := zGB_of ⟨List.mem_of_getElem? (i := 682) (by decide +kernel), by decide +kernel⟩
theorem ia_0 : Cond.instantiable (zC 0) (zN 0) ∈ zGB := zGB_of ⟨List.mem_of_getElem? (i := 83) (by decide +kernel), by decide +kernel⟩
theorem in_0 : Cond.initialized (zC 0) ∈ zGB := zGB_of ⟨List.mem_of_getElem? (i := 54) (by decide +kernel), by decide +kernel⟩
theorem ia_1 : Cond.instantiable (zC 1) (zN 1) ∈ zGB := zGB_of ⟨List.mem_of_getElem? (i := 250) (by decide +kernel), by decide +kernel⟩
theorem in_1 : Cond.initialized (zC 1) ∈ zGB := zGB_of ⟨List.mem_of_getElem? (i := 59) (by decide +kernel), by decide +kernel⟩
theorem ia_2 : Cond.instantiable (zC 2) (zN 2) ∈ zGB := zGB_of ⟨List.mem_of_getElem? (i := 120) (by decide +kernel), by decide +kernel⟩
theorem in_2 : Cond.initialized (zC 2) ∈ zGB := zGB_of ⟨List.mem_of_getElem? (i := 55) (by decide +kernel), by decide +kernel⟩
theorem ia_3 : Cond.instantiable (zC 3) (zN 3) ∈ zGB := zGB_of ⟨List.mem_of_getElem? (i := 188) (by decide +kernel), by decide +kernel⟩
theorem in_3 : Cond.initialized (zC 3) ∈ zGB := zGB_of ⟨List.mem_of_getElem? (i := 57) (by decide +kernel), by decide +kernel⟩
theorem ia_4 : Cond.instantiable (zC 4) (zN 4) ∈ zGB := zGB_of ⟨List.mem_of_getElem? (i := 77) (by decide +kernel), by decide +kernel⟩
theorem in_4 : Cond.initialized (zC 4) ∈ zGB := zGB_of ⟨List.mem_of_getElem? (i := 53) (by decide +kernel), by decide +kernel⟩
theorem ia_5 : Cond.instantiable (zC 5) (zN 5) ∈ zGB := zGB_of ⟨List.mem_of_getElem? (i := 140) (by decide +kernel), by decide +kernel⟩
theorem in_5 : Cond.initialized (zC 5) ∈ zGB := zGB_of ⟨List.mem_of_getElem? (i := 56) (by decide +kernel), by decide +kernel⟩
theorem ia_6 : Cond.instantiable (zC 6) (zN 6) ∈ zGB := zGB_of ⟨List.mem_of_getElem? (i := 227) (by decide +kernel), by decide +kernel⟩
theorem in_6 : Cond.initialized (zC 6) ∈ zGB := zGB_of ⟨List.mem_of_getElem? (i := 58) (by decide +kernel), by decide +kernel⟩
theorem ia_7 : Cond.instantiable (zC 7) (zN 7) ∈ zGB := zGB_of ⟨List.mem_of_getElem? (i := 63) (by decide +kernel), by decide +kernel⟩
theorem in_7 : Cond.initialized (zC 7) ∈ zGB := zGB_of ⟨List.mem_of_getElem? (i := 52) (by decide +kernel), by decide +kernel⟩
theorem ia_8 : Cond.instantiable (zC 8) (zN 8) ∈ zGB := zGB_of ⟨List.mem_of_getElem? (i := 683) (by decide +kernel), by decide +kernel⟩
theorem in_8 : Cond.initialized (zC 8) ∈ zGB := zGB_of ⟨List.mem_of_getElem? (i := 60) (by decide +kernel), by decide +kernel⟩
theorem ms_max : Cond.static Lib.Math.max.name ∈ zGB := zGB_of ⟨List.mem_of_getElem? (i := 425) (by decide +kernel), by decide +kernel⟩
theorem mc_max : Cond.code Lib.Math.max.name Lib.Math.max.code 2 (some .int) ∈ zGB := zGB_of ⟨List.mem_of_getElem? (i := 426) (by decide +kernel), by decide +kernel⟩
theorem ms_min : Cond.static Lib.Math.min.name ∈ zGB := zGB_of ⟨List.mem_of_getElem? (i := 413) (by decide +kernel), by decide +kernel⟩
theorem mc_min : Cond.code Lib.Math.min.name Lib.Math.min.code 2 (some .int) ∈ zGB := zGB_of ⟨List.mem_of_getElem? (i := 414) (by decide +kernel), by decide +kernel⟩
theorem ms_minl : Cond.static Lib.MathLoose.min_long.x ∈ zGB := zGB_of ⟨List.mem_of_getElem? (i := 605) (by decide +kernel), by decide +kernel⟩
theorem mc_minl : Cond.code Lib.MathLoose.min_long.x Lib.MathLoose.min_long.code 4 (some .long) ∈ zGB := zGB_of ⟨List.mem_of_getElem? (i := 606) (by decide +kernel), by decide +kernel⟩
theorem ms_absl : Cond.static Lib.MathLoose.abs_long.x ∈ zGB := zGB_of ⟨List.mem_of_getElem? (i := 355) (by decide +kernel), by decide +kernel⟩
theorem mc_absl : Cond.code Lib.MathLoose.abs_long.x Lib.MathLoose.abs_long.code 2 (some .long) ∈ zGB := zGB_of ⟨List.mem_of_getElem? (i := 356) (by decide +kernel), by decide +kernel⟩
theorem mi_math : Cond.initialized "java/lang/Math" ∈ zGB := zGB_of ⟨List.mem_of_getElem? (i := 61) (by decide +kernel), by decide +kernel⟩
theorem ac_int : Cond.arrayClass .int ∈ zGB := zGB_of ⟨List.mem_of_getElem? (i := 102) (by decide +kernel), by decide +kernel⟩
theorem ac_boolean : Cond.arrayClass .boolean ∈ zGB := zGB_of ⟨List.mem_of_getElem? (i := 768) (by decide +kernel), by decide +kernel⟩
theorem ao_6 : Cond.arrayOver (.object (zC 6)) ∈ zNB := List.mem_filter.mpr ⟨List.mem_of_getElem? (i := 20) (by decide +kernel), by decide +kernel⟩
theorem ao_5 : Cond.arrayOver (.object (zC 5)) ∈ zNB := List.mem_filter.mpr ⟨List.mem_of_getElem? (i := 22) (by decide +kernel), by decide +kernel⟩
theorem ao_1 : Cond.arrayOver (.object (zC 1)) ∈ zNB := List.mem_filter.mpr ⟨List.mem_of_getElem? (i := 24) (by decide +kernel), by decide +kernel⟩
