/-! the law's wrappers: facts -/
theorem z_mo {w : Cond} (i : Nat) (h : tables_1[i]? = some w) (hg : lw_isMore w = true) : w ∈ lw_more := List.mem_filter.mpr ⟨List.mem_of_getElem? h, hg⟩
theorem clL_13 : Cond.classLink RL 13 "java/lang/IllegalArgumentException" ∈ lw_good := z_gd 256 (by decide +kernel) (by decide +kernel)
theorem clL_15 : Cond.classLink RL 15 "java/lang/IllegalStateException" ∈ lw_good := z_gd 257 (by decide +kernel) (by decide +kernel)
theorem clL_21 : Cond.classLink RL 21 "java/lang/IndexOutOfBoundsException" ∈ lw_good := z_gd 356 (by decide +kernel) (by decide +kernel)
theorem caL_IllegalArgumentException : Cond.castable "java/lang/IllegalArgumentException" "java/lang/IllegalArgumentException" ∈ lw_more := z_mo 211 (by decide +kernel) rfl
theorem caL_IllegalStateException : Cond.castable "java/lang/IllegalStateException" "java/lang/IllegalStateException" ∈ lw_more := z_mo 283 (by decide +kernel) rfl
theorem caL_IndexOutOfBoundsException : Cond.castable "java/lang/IndexOutOfBoundsException" "java/lang/IndexOutOfBoundsException" ∈ lw_more := z_mo 317 (by decide +kernel) rfl
abbrev hL_idea : zHs := [(0, 9, 12, 13), (0, 9, 15, 15)]
abbrev NL_idea : zM := (yL_idea, cL_idea, 4, (some .int), 7, 1, 6, 162)
theorem nL_7 : Cond.methodLink RL 7 NX8_idea.1 ∈ lw_good := z_gd 258 (by decide +kernel) (by decide +kernel)
theorem kL_7 : z_cV RL 7 NX8_idea 1 8 := ⟨⟨Or.inl nL_7, z_gd 261 (by decide +kernel) (by decide +kernel), z_gd 57 (by decide +kernel) (by decide +kernel), ⟨by decide, by decide⟩, by decide +kernel⟩, z_gd 259 (by decide +kernel) (by decide +kernel), z_gd 260 (by decide +kernel) (by decide +kernel), by decide, rfl⟩
theorem wL_97 : z_cW RL 97 NL_idea hL_idea 3 := ⟨z_gd 253 (by decide +kernel) (by decide +kernel), z_gd 255 (by decide +kernel) (by decide +kernel), z_gd 56 (by decide +kernel) (by decide +kernel), ⟨by decide, by decide⟩, by decide +kernel, z_gd 254 (by decide +kernel) (by decide +kernel)⟩
theorem ctL_idea_0 : z_ct RL hL_idea 4 "java/lang/IllegalArgumentException" 12 := ⟨[], (0, 9, 12, 13), [(0, 9, 15, 15)], rfl, rfl, by decide, rfl, clL_13, caL_IllegalArgumentException, (fun z hz => absurd hz List.not_mem_nil)⟩
theorem ctL_idea_1 : z_ct RL hL_idea 4 "java/lang/IllegalStateException" 15 := ⟨[(0, 9, 12, 13)], (0, 9, 15, 15), [], rfl, rfl, by decide, rfl, clL_15, caL_IllegalStateException, (fun z hz => by
  simp only [List.mem_cons, List.not_mem_nil, or_false] at hz
  rcases hz with rfl
  · exact ⟨by decide, "java/lang/IllegalArgumentException", clL_13, by decide⟩)⟩
abbrev hL_entry : zHs := [(0, 16, 19, 21), (0, 16, 23, 13), (0, 16, 27, 15)]
abbrev NL_entry : zM := (yL_entry, cL_entry, 8, (some .int), 7, 1, 6, 166)
theorem nL_17 : Cond.methodLink RL 17 NX8_entry.1 ∈ lw_good := z_gd 357 (by decide +kernel) (by decide +kernel)
theorem kL_17 : z_cV RL 17 NX8_entry 5 8 := ⟨⟨Or.inl nL_17, z_gd 360 (by decide +kernel) (by decide +kernel), z_gd 57 (by decide +kernel) (by decide +kernel), ⟨by decide, by decide⟩, by decide +kernel⟩, z_gd 358 (by decide +kernel) (by decide +kernel), z_gd 359 (by decide +kernel) (by decide +kernel), by decide, rfl⟩
theorem wL_106 : z_cW RL 106 NL_entry hL_entry 7 := ⟨z_gd 353 (by decide +kernel) (by decide +kernel), z_gd 355 (by decide +kernel) (by decide +kernel), z_gd 56 (by decide +kernel) (by decide +kernel), ⟨by decide, by decide⟩, by decide +kernel, z_gd 354 (by decide +kernel) (by decide +kernel)⟩
theorem ctL_entry_0 : z_ct RL hL_entry 11 "java/lang/IndexOutOfBoundsException" 19 := ⟨[], (0, 16, 19, 21), [(0, 16, 23, 13), (0, 16, 27, 15)], rfl, rfl, by decide, rfl, clL_21, caL_IndexOutOfBoundsException, (fun z hz => absurd hz List.not_mem_nil)⟩
theorem ctL_entry_1 : z_ct RL hL_entry 11 "java/lang/IllegalArgumentException" 23 := ⟨[(0, 16, 19, 21)], (0, 16, 23, 13), [(0, 16, 27, 15)], rfl, rfl, by decide, rfl, clL_13, caL_IllegalArgumentException, (fun z hz => by
  simp only [List.mem_cons, List.not_mem_nil, or_false] at hz
  rcases hz with rfl
  · exact ⟨by decide, "java/lang/IndexOutOfBoundsException", clL_21, by decide⟩)⟩
theorem ctL_entry_2 : z_ct RL hL_entry 11 "java/lang/IllegalStateException" 27 := ⟨[(0, 16, 19, 21), (0, 16, 23, 13)], (0, 16, 27, 15), [], rfl, rfl, by decide, rfl, clL_15, caL_IllegalStateException, (fun z hz => by
  simp only [List.mem_cons, List.not_mem_nil, or_false] at hz
  rcases hz with rfl | rfl
  · exact ⟨by decide, "java/lang/IndexOutOfBoundsException", clL_21, by decide⟩
  · exact ⟨by decide, "java/lang/IllegalArgumentException", clL_13, by decide⟩)⟩
abbrev hL_candidates : zHs := [(0, 9, 12, 13)]
abbrev NL_candidates : zM := (yL_candidates, cL_candidates, 4, (some .int), 7, 1, 6, 161)
theorem nL_23 : Cond.methodLink RL 23 NX8_candidates.1 ∈ lw_good := z_gd 428 (by decide +kernel) (by decide +kernel)
theorem kL_23 : z_cV RL 23 NX8_candidates 1 8 := ⟨⟨Or.inl nL_23, z_gd 431 (by decide +kernel) (by decide +kernel), z_gd 57 (by decide +kernel) (by decide +kernel), ⟨by decide, by decide⟩, by decide +kernel⟩, z_gd 429 (by decide +kernel) (by decide +kernel), z_gd 430 (by decide +kernel) (by decide +kernel), by decide, rfl⟩
theorem wL_110 : z_cW RL 110 NL_candidates hL_candidates 3 := ⟨z_gd 425 (by decide +kernel) (by decide +kernel), z_gd 427 (by decide +kernel) (by decide +kernel), z_gd 56 (by decide +kernel) (by decide +kernel), ⟨by decide, by decide⟩, by decide +kernel, z_gd 426 (by decide +kernel) (by decide +kernel)⟩
theorem ctL_candidates_0 : z_ct RL hL_candidates 4 "java/lang/IllegalArgumentException" 12 := ⟨[], (0, 9, 12, 13), [], rfl, rfl, by decide, rfl, clL_13, caL_IllegalArgumentException, (fun z hz => absurd hz List.not_mem_nil)⟩
abbrev hL_candidate : zHs := [(0, 10, 13, 21), (0, 10, 17, 13)]
abbrev NL_candidate : zM := (yL_candidate, cL_candidate, 5, (some .int), 7, 1, 6, 162)
theorem nL_26 : Cond.methodLink RL 26 NX8_candidate.1 ∈ lw_good := z_gd 450 (by decide +kernel) (by decide +kernel)
theorem kL_26 : z_cV RL 26 NX8_candidate 2 8 := ⟨⟨Or.inl nL_26, z_gd 453 (by decide +kernel) (by decide +kernel), z_gd 57 (by decide +kernel) (by decide +kernel), ⟨by decide, by decide⟩, by decide +kernel⟩, z_gd 451 (by decide +kernel) (by decide +kernel), z_gd 452 (by decide +kernel) (by decide +kernel), by decide, rfl⟩
theorem wL_113 : z_cW RL 113 NL_candidate hL_candidate 4 := ⟨z_gd 447 (by decide +kernel) (by decide +kernel), z_gd 449 (by decide +kernel) (by decide +kernel), z_gd 56 (by decide +kernel) (by decide +kernel), ⟨by decide, by decide⟩, by decide +kernel, z_gd 448 (by decide +kernel) (by decide +kernel)⟩
theorem ctL_candidate_0 : z_ct RL hL_candidate 5 "java/lang/IndexOutOfBoundsException" 13 := ⟨[], (0, 10, 13, 21), [(0, 10, 17, 13)], rfl, rfl, by decide, rfl, clL_21, caL_IndexOutOfBoundsException, (fun z hz => absurd hz List.not_mem_nil)⟩
theorem ctL_candidate_1 : z_ct RL hL_candidate 5 "java/lang/IllegalArgumentException" 17 := ⟨[(0, 10, 13, 21)], (0, 10, 17, 13), [], rfl, rfl, by decide, rfl, clL_13, caL_IllegalArgumentException, (fun z hz => by
  simp only [List.mem_cons, List.not_mem_nil, or_false] at hz
  rcases hz with rfl
  · exact ⟨by decide, "java/lang/IndexOutOfBoundsException", clL_21, by decide⟩)⟩
abbrev hL_office : zHs := [(0, 8, 11, 15)]
abbrev NL_office : zM := (yL_office, cL_office, 3, (some .int), 7, 3, 23, 161)
theorem nL_30 : Cond.methodLink RL 30 NX8_office.1 ∈ lw_good := z_gd 462 (by decide +kernel) (by decide +kernel)
theorem kL_30 : z_cV RL 30 NX8_office 0 8 := ⟨⟨Or.inl nL_30, z_gd 465 (by decide +kernel) (by decide +kernel), z_gd 57 (by decide +kernel) (by decide +kernel), ⟨by decide, by decide⟩, by decide +kernel⟩, z_gd 463 (by decide +kernel) (by decide +kernel), z_gd 464 (by decide +kernel) (by decide +kernel), by decide, rfl⟩
theorem wL_117 : z_cW RL 117 NL_office hL_office 2 := ⟨z_gd 459 (by decide +kernel) (by decide +kernel), z_gd 461 (by decide +kernel) (by decide +kernel), z_gd 56 (by decide +kernel) (by decide +kernel), ⟨by decide, by decide⟩, by decide +kernel, z_gd 460 (by decide +kernel) (by decide +kernel)⟩
theorem ctL_office_0 : z_ct RL hL_office 3 "java/lang/IllegalStateException" 11 := ⟨[], (0, 8, 11, 15), [], rfl, rfl, by decide, rfl, clL_15, caL_IllegalStateException, (fun z hz => absurd hz List.not_mem_nil)⟩
abbrev hL_cable : zHs := [(0, 14, 17, 21), (0, 14, 21, 13), (0, 14, 25, 15)]
abbrev NL_cable : zM := (yL_cable, cL_cable, 7, (some .int), 7, 2, 12, 165)
theorem nL_34 : Cond.methodLink RL 34 NX8_cable.1 ∈ lw_good := z_gd 496 (by decide +kernel) (by decide +kernel)
theorem kL_34 : z_cV RL 34 NX8_cable 4 8 := ⟨⟨Or.inl nL_34, z_gd 499 (by decide +kernel) (by decide +kernel), z_gd 57 (by decide +kernel) (by decide +kernel), ⟨by decide, by decide⟩, by decide +kernel⟩, z_gd 497 (by decide +kernel) (by decide +kernel), z_gd 498 (by decide +kernel) (by decide +kernel), by decide, rfl⟩
theorem wL_121 : z_cW RL 121 NL_cable hL_cable 6 := ⟨z_gd 493 (by decide +kernel) (by decide +kernel), z_gd 495 (by decide +kernel) (by decide +kernel), z_gd 56 (by decide +kernel) (by decide +kernel), ⟨by decide, by decide⟩, by decide +kernel, z_gd 494 (by decide +kernel) (by decide +kernel)⟩
theorem ctL_cable_0 : z_ct RL hL_cable 9 "java/lang/IndexOutOfBoundsException" 17 := ⟨[], (0, 14, 17, 21), [(0, 14, 21, 13), (0, 14, 25, 15)], rfl, rfl, by decide, rfl, clL_21, caL_IndexOutOfBoundsException, (fun z hz => absurd hz List.not_mem_nil)⟩
theorem ctL_cable_1 : z_ct RL hL_cable 9 "java/lang/IllegalArgumentException" 21 := ⟨[(0, 14, 17, 21)], (0, 14, 21, 13), [(0, 14, 25, 15)], rfl, rfl, by decide, rfl, clL_13, caL_IllegalArgumentException, (fun z hz => by
  simp only [List.mem_cons, List.not_mem_nil, or_false] at hz
  rcases hz with rfl
  · exact ⟨by decide, "java/lang/IndexOutOfBoundsException", clL_21, by decide⟩)⟩
theorem ctL_cable_2 : z_ct RL hL_cable 9 "java/lang/IllegalStateException" 25 := ⟨[(0, 14, 17, 21), (0, 14, 21, 13)], (0, 14, 25, 15), [], rfl, rfl, by decide, rfl, clL_15, caL_IllegalStateException, (fun z hz => by
  simp only [List.mem_cons, List.not_mem_nil, or_false] at hz
  rcases hz with rfl | rfl
  · exact ⟨by decide, "java/lang/IndexOutOfBoundsException", clL_21, by decide⟩
  · exact ⟨by decide, "java/lang/IllegalArgumentException", clL_13, by decide⟩)⟩
abbrev hL_broken : zHs := [(0, 10, 13, 21)]
abbrev NL_broken : zM := (yL_broken, cL_broken, 5, (some .int), 7, 1, 6, 163)
theorem nL_38 : Cond.methodLink RL 38 NX8_broken.1 ∈ lw_good := z_gd 549 (by decide +kernel) (by decide +kernel)
theorem kL_38 : z_cV RL 38 NX8_broken 2 8 := ⟨⟨Or.inl nL_38, z_gd 552 (by decide +kernel) (by decide +kernel), z_gd 57 (by decide +kernel) (by decide +kernel), ⟨by decide, by decide⟩, by decide +kernel⟩, z_gd 550 (by decide +kernel) (by decide +kernel), z_gd 551 (by decide +kernel) (by decide +kernel), by decide, rfl⟩
theorem wL_125 : z_cW RL 125 NL_broken hL_broken 4 := ⟨z_gd 546 (by decide +kernel) (by decide +kernel), z_gd 548 (by decide +kernel) (by decide +kernel), z_gd 56 (by decide +kernel) (by decide +kernel), ⟨by decide, by decide⟩, by decide +kernel, z_gd 547 (by decide +kernel) (by decide +kernel)⟩
theorem ctL_broken_0 : z_ct RL hL_broken 5 "java/lang/IndexOutOfBoundsException" 13 := ⟨[], (0, 10, 13, 21), [], rfl, rfl, by decide, rfl, clL_21, caL_IndexOutOfBoundsException, (fun z hz => absurd hz List.not_mem_nil)⟩
abbrev hL_forbid : zHs := [(0, 17, 20, 21)]
abbrev NL_forbid : zM := (yL_forbid, cL_forbid, 5, (some .int), 7, 1, 6, 164)
theorem nL_42 : Cond.methodLink RL 42 NX8_forbid.1 ∈ lw_good := z_gd 574 (by decide +kernel) (by decide +kernel)
theorem kL_42 : z_cV RL 42 NX8_forbid 2 8 := ⟨⟨Or.inl nL_42, z_gd 577 (by decide +kernel) (by decide +kernel), z_gd 57 (by decide +kernel) (by decide +kernel), ⟨by decide, by decide⟩, by decide +kernel⟩, z_gd 575 (by decide +kernel) (by decide +kernel), z_gd 576 (by decide +kernel) (by decide +kernel), by decide, rfl⟩
theorem wL_129 : z_cW RL 129 NL_forbid hL_forbid 4 := ⟨z_gd 571 (by decide +kernel) (by decide +kernel), z_gd 573 (by decide +kernel) (by decide +kernel), z_gd 56 (by decide +kernel) (by decide +kernel), ⟨by decide, by decide⟩, by decide +kernel, z_gd 572 (by decide +kernel) (by decide +kernel)⟩
theorem ctL_forbid_0 : z_ct RL hL_forbid 5 "java/lang/IndexOutOfBoundsException" 20 := ⟨[], (0, 17, 20, 21), [], rfl, rfl, by decide, rfl, clL_21, caL_IndexOutOfBoundsException, (fun z hz => absurd hz List.not_mem_nil)⟩
abbrev hL_key : zHs := [(0, 10, 13, 21), (0, 10, 17, 13)]
abbrev NL_key : zM := (yL_key, cL_key, 5, (some .int), 7, 1, 6, 164)
theorem nL_46 : Cond.methodLink RL 46 NX8_key.1 ∈ lw_good := z_gd 581 (by decide +kernel) (by decide +kernel)
theorem kL_46 : z_cV RL 46 NX8_key 2 8 := ⟨⟨Or.inl nL_46, z_gd 584 (by decide +kernel) (by decide +kernel), z_gd 57 (by decide +kernel) (by decide +kernel), ⟨by decide, by decide⟩, by decide +kernel⟩, z_gd 582 (by decide +kernel) (by decide +kernel), z_gd 583 (by decide +kernel) (by decide +kernel), by decide, rfl⟩
theorem wL_132 : z_cW RL 132 NL_key hL_key 4 := ⟨z_gd 578 (by decide +kernel) (by decide +kernel), z_gd 580 (by decide +kernel) (by decide +kernel), z_gd 56 (by decide +kernel) (by decide +kernel), ⟨by decide, by decide⟩, by decide +kernel, z_gd 579 (by decide +kernel) (by decide +kernel)⟩
theorem ctL_key_0 : z_ct RL hL_key 5 "java/lang/IndexOutOfBoundsException" 13 := ⟨[], (0, 10, 13, 21), [(0, 10, 17, 13)], rfl, rfl, by decide, rfl, clL_21, caL_IndexOutOfBoundsException, (fun z hz => absurd hz List.not_mem_nil)⟩
theorem ctL_key_1 : z_ct RL hL_key 5 "java/lang/IllegalArgumentException" 17 := ⟨[(0, 10, 13, 21)], (0, 10, 17, 13), [], rfl, rfl, by decide, rfl, clL_13, caL_IllegalArgumentException, (fun z hz => by
  simp only [List.mem_cons, List.not_mem_nil, or_false] at hz
  rcases hz with rfl
  · exact ⟨by decide, "java/lang/IndexOutOfBoundsException", clL_21, by decide⟩)⟩
abbrev hL_conference : zHs := [(0, 14, 17, 13), (0, 14, 21, 15)]
abbrev NL_conference : zM := (yL_conference, cL_conference, 7, (some .int), 7, 2, 11, 165)
theorem nL_49 : Cond.methodLink RL 49 NX8_conference.1 ∈ lw_good := z_gd 589 (by decide +kernel) (by decide +kernel)
theorem kL_49 : z_cV RL 49 NX8_conference 4 8 := ⟨⟨Or.inl nL_49, z_gd 592 (by decide +kernel) (by decide +kernel), z_gd 57 (by decide +kernel) (by decide +kernel), ⟨by decide, by decide⟩, by decide +kernel⟩, z_gd 590 (by decide +kernel) (by decide +kernel), z_gd 591 (by decide +kernel) (by decide +kernel), by decide, rfl⟩
theorem wL_135 : z_cW RL 135 NL_conference hL_conference 6 := ⟨z_gd 586 (by decide +kernel) (by decide +kernel), z_gd 588 (by decide +kernel) (by decide +kernel), z_gd 56 (by decide +kernel) (by decide +kernel), ⟨by decide, by decide⟩, by decide +kernel, z_gd 587 (by decide +kernel) (by decide +kernel)⟩
theorem ctL_conference_0 : z_ct RL hL_conference 9 "java/lang/IllegalArgumentException" 17 := ⟨[], (0, 14, 17, 13), [(0, 14, 21, 15)], rfl, rfl, by decide, rfl, clL_13, caL_IllegalArgumentException, (fun z hz => absurd hz List.not_mem_nil)⟩
theorem ctL_conference_1 : z_ct RL hL_conference 9 "java/lang/IllegalStateException" 21 := ⟨[(0, 14, 17, 13)], (0, 14, 21, 15), [], rfl, rfl, by decide, rfl, clL_15, caL_IllegalStateException, (fun z hz => by
  simp only [List.mem_cons, List.not_mem_nil, or_false] at hz
  rcases hz with rfl
  · exact ⟨by decide, "java/lang/IllegalArgumentException", clL_13, by decide⟩)⟩
abbrev hL_reserve : zHs := [(0, 10, 13, 21)]
abbrev NL_reserve : zM := (yL_reserve, cL_reserve, 5, (some .int), 7, 1, 6, 163)
theorem nL_52 : Cond.methodLink RL 52 NX8_reserve.1 ∈ lw_good := z_gd 598 (by decide +kernel) (by decide +kernel)
theorem kL_52 : z_cV RL 52 NX8_reserve 2 8 := ⟨⟨Or.inl nL_52, z_gd 601 (by decide +kernel) (by decide +kernel), z_gd 57 (by decide +kernel) (by decide +kernel), ⟨by decide, by decide⟩, by decide +kernel⟩, z_gd 599 (by decide +kernel) (by decide +kernel), z_gd 600 (by decide +kernel) (by decide +kernel), by decide, rfl⟩
theorem wL_138 : z_cW RL 138 NL_reserve hL_reserve 4 := ⟨z_gd 595 (by decide +kernel) (by decide +kernel), z_gd 597 (by decide +kernel) (by decide +kernel), z_gd 56 (by decide +kernel) (by decide +kernel), ⟨by decide, by decide⟩, by decide +kernel, z_gd 596 (by decide +kernel) (by decide +kernel)⟩
theorem ctL_reserve_0 : z_ct RL hL_reserve 5 "java/lang/IndexOutOfBoundsException" 13 := ⟨[], (0, 10, 13, 21), [], rfl, rfl, by decide, rfl, clL_21, caL_IndexOutOfBoundsException, (fun z hz => absurd hz List.not_mem_nil)⟩
abbrev hL_draft : zHs := [(0, 9, 12, 21), (0, 9, 15, 15)]
abbrev NL_draft : zM := (yL_draft, cL_draft, 4, (some .int), 7, 1, 6, 161)
theorem nL_55 : Cond.methodLink RL 55 NX8_draft.1 ∈ lw_good := z_gd 622 (by decide +kernel) (by decide +kernel)
theorem kL_55 : z_cV RL 55 NX8_draft 1 8 := ⟨⟨Or.inl nL_55, z_gd 625 (by decide +kernel) (by decide +kernel), z_gd 57 (by decide +kernel) (by decide +kernel), ⟨by decide, by decide⟩, by decide +kernel⟩, z_gd 623 (by decide +kernel) (by decide +kernel), z_gd 624 (by decide +kernel) (by decide +kernel), by decide, rfl⟩
theorem wL_141 : z_cW RL 141 NL_draft hL_draft 3 := ⟨z_gd 619 (by decide +kernel) (by decide +kernel), z_gd 621 (by decide +kernel) (by decide +kernel), z_gd 56 (by decide +kernel) (by decide +kernel), ⟨by decide, by decide⟩, by decide +kernel, z_gd 620 (by decide +kernel) (by decide +kernel)⟩
theorem ctL_draft_0 : z_ct RL hL_draft 4 "java/lang/IndexOutOfBoundsException" 12 := ⟨[], (0, 9, 12, 21), [(0, 9, 15, 15)], rfl, rfl, by decide, rfl, clL_21, caL_IndexOutOfBoundsException, (fun z hz => absurd hz List.not_mem_nil)⟩
theorem ctL_draft_1 : z_ct RL hL_draft 4 "java/lang/IllegalStateException" 15 := ⟨[(0, 9, 12, 21)], (0, 9, 15, 15), [], rfl, rfl, by decide, rfl, clL_15, caL_IllegalStateException, (fun z hz => by
  simp only [List.mem_cons, List.not_mem_nil, or_false] at hz
  rcases hz with rfl
  · exact ⟨by decide, "java/lang/IndexOutOfBoundsException", clL_21, by decide⟩)⟩
abbrev hL_words : zHs := [(0, 10, 13, 21)]
abbrev NL_words : zM := (yL_words, cL_words, 5, (some .int), 7, 1, 6, 169)
theorem nL_58 : Cond.methodLink RL 58 NX8_words.1 ∈ lw_good := z_gd 634 (by decide +kernel) (by decide +kernel)
theorem kL_58 : z_cV RL 58 NX8_words 2 8 := ⟨⟨Or.inl nL_58, z_gd 637 (by decide +kernel) (by decide +kernel), z_gd 57 (by decide +kernel) (by decide +kernel), ⟨by decide, by decide⟩, by decide +kernel⟩, z_gd 635 (by decide +kernel) (by decide +kernel), z_gd 636 (by decide +kernel) (by decide +kernel), by decide, rfl⟩
theorem wL_144 : z_cW RL 144 NL_words hL_words 4 := ⟨z_gd 631 (by decide +kernel) (by decide +kernel), z_gd 633 (by decide +kernel) (by decide +kernel), z_gd 56 (by decide +kernel) (by decide +kernel), ⟨by decide, by decide⟩, by decide +kernel, z_gd 632 (by decide +kernel) (by decide +kernel)⟩
theorem ctL_words_0 : z_ct RL hL_words 5 "java/lang/IndexOutOfBoundsException" 13 := ⟨[], (0, 10, 13, 21), [], rfl, rfl, by decide, rfl, clL_21, caL_IndexOutOfBoundsException, (fun z hz => absurd hz List.not_mem_nil)⟩
abbrev hL_send : zHs := [(0, 14, 17, 21), (0, 14, 21, 13), (0, 14, 25, 15)]
abbrev NL_send : zM := (yL_send, cL_send, 7, (some .int), 7, 5, 75, 172)
theorem nL_61 : Cond.methodLink RL 61 NX8_send.1 ∈ lw_good := z_gd 726 (by decide +kernel) (by decide +kernel)
theorem kL_61 : z_cV RL 61 NX8_send 4 8 := ⟨⟨Or.inl nL_61, z_gd 729 (by decide +kernel) (by decide +kernel), z_gd 57 (by decide +kernel) (by decide +kernel), ⟨by decide, by decide⟩, by decide +kernel⟩, z_gd 727 (by decide +kernel) (by decide +kernel), z_gd 728 (by decide +kernel) (by decide +kernel), by decide, rfl⟩
theorem wL_147 : z_cW RL 147 NL_send hL_send 6 := ⟨z_gd 723 (by decide +kernel) (by decide +kernel), z_gd 725 (by decide +kernel) (by decide +kernel), z_gd 56 (by decide +kernel) (by decide +kernel), ⟨by decide, by decide⟩, by decide +kernel, z_gd 724 (by decide +kernel) (by decide +kernel)⟩
theorem ctL_send_0 : z_ct RL hL_send 9 "java/lang/IndexOutOfBoundsException" 17 := ⟨[], (0, 14, 17, 21), [(0, 14, 21, 13), (0, 14, 25, 15)], rfl, rfl, by decide, rfl, clL_21, caL_IndexOutOfBoundsException, (fun z hz => absurd hz List.not_mem_nil)⟩
theorem ctL_send_1 : z_ct RL hL_send 9 "java/lang/IllegalArgumentException" 21 := ⟨[(0, 14, 17, 21)], (0, 14, 21, 13), [(0, 14, 25, 15)], rfl, rfl, by decide, rfl, clL_13, caL_IllegalArgumentException, (fun z hz => by
  simp only [List.mem_cons, List.not_mem_nil, or_false] at hz
  rcases hz with rfl
  · exact ⟨by decide, "java/lang/IndexOutOfBoundsException", clL_21, by decide⟩)⟩
theorem ctL_send_2 : z_ct RL hL_send 9 "java/lang/IllegalStateException" 25 := ⟨[(0, 14, 17, 21), (0, 14, 21, 13)], (0, 14, 25, 15), [], rfl, rfl, by decide, rfl, clL_15, caL_IllegalStateException, (fun z hz => by
  simp only [List.mem_cons, List.not_mem_nil, or_false] at hz
  rcases hz with rfl | rfl
  · exact ⟨by decide, "java/lang/IndexOutOfBoundsException", clL_21, by decide⟩
  · exact ⟨by decide, "java/lang/IllegalArgumentException", clL_13, by decide⟩)⟩
abbrev hL_wrong : zHs := [(0, 14, 17, 21), (0, 14, 21, 13), (0, 14, 25, 15)]
abbrev NL_wrong : zM := (yL_wrong, cL_wrong, 7, (some .int), 7, 1, 6, 165)
theorem nL_65 : Cond.methodLink RL 65 NX8_wrong.1 ∈ lw_good := z_gd 876 (by decide +kernel) (by decide +kernel)
theorem kL_65 : z_cV RL 65 NX8_wrong 4 8 := ⟨⟨Or.inl nL_65, z_gd 879 (by decide +kernel) (by decide +kernel), z_gd 57 (by decide +kernel) (by decide +kernel), ⟨by decide, by decide⟩, by decide +kernel⟩, z_gd 877 (by decide +kernel) (by decide +kernel), z_gd 878 (by decide +kernel) (by decide +kernel), by decide, rfl⟩
theorem wL_151 : z_cW RL 151 NL_wrong hL_wrong 6 := ⟨z_gd 873 (by decide +kernel) (by decide +kernel), z_gd 875 (by decide +kernel) (by decide +kernel), z_gd 56 (by decide +kernel) (by decide +kernel), ⟨by decide, by decide⟩, by decide +kernel, z_gd 874 (by decide +kernel) (by decide +kernel)⟩
theorem ctL_wrong_0 : z_ct RL hL_wrong 9 "java/lang/IndexOutOfBoundsException" 17 := ⟨[], (0, 14, 17, 21), [(0, 14, 21, 13), (0, 14, 25, 15)], rfl, rfl, by decide, rfl, clL_21, caL_IndexOutOfBoundsException, (fun z hz => absurd hz List.not_mem_nil)⟩
theorem ctL_wrong_1 : z_ct RL hL_wrong 9 "java/lang/IllegalArgumentException" 21 := ⟨[(0, 14, 17, 21)], (0, 14, 21, 13), [(0, 14, 25, 15)], rfl, rfl, by decide, rfl, clL_13, caL_IllegalArgumentException, (fun z hz => by
  simp only [List.mem_cons, List.not_mem_nil, or_false] at hz
  rcases hz with rfl
  · exact ⟨by decide, "java/lang/IndexOutOfBoundsException", clL_21, by decide⟩)⟩
theorem ctL_wrong_2 : z_ct RL hL_wrong 9 "java/lang/IllegalStateException" 25 := ⟨[(0, 14, 17, 21), (0, 14, 21, 13)], (0, 14, 25, 15), [], rfl, rfl, by decide, rfl, clL_15, caL_IllegalStateException, (fun z hz => by
  simp only [List.mem_cons, List.not_mem_nil, or_false] at hz
  rcases hz with rfl | rfl
  · exact ⟨by decide, "java/lang/IndexOutOfBoundsException", clL_21, by decide⟩
  · exact ⟨by decide, "java/lang/IllegalArgumentException", clL_13, by decide⟩)⟩
abbrev hL_pass : zHs := [(0, 9, 12, 13), (0, 9, 15, 15)]
abbrev NL_pass : zM := (yL_pass, cL_pass, 4, (some .int), 7, 1, 6, 162)
theorem nL_68 : Cond.methodLink RL 68 NX8_pass.1 ∈ lw_good := z_gd 905 (by decide +kernel) (by decide +kernel)
theorem kL_68 : z_cV RL 68 NX8_pass 1 8 := ⟨⟨Or.inl nL_68, z_gd 908 (by decide +kernel) (by decide +kernel), z_gd 57 (by decide +kernel) (by decide +kernel), ⟨by decide, by decide⟩, by decide +kernel⟩, z_gd 906 (by decide +kernel) (by decide +kernel), z_gd 907 (by decide +kernel) (by decide +kernel), by decide, rfl⟩
theorem wL_154 : z_cW RL 154 NL_pass hL_pass 3 := ⟨z_gd 902 (by decide +kernel) (by decide +kernel), z_gd 904 (by decide +kernel) (by decide +kernel), z_gd 56 (by decide +kernel) (by decide +kernel), ⟨by decide, by decide⟩, by decide +kernel, z_gd 903 (by decide +kernel) (by decide +kernel)⟩
theorem ctL_pass_0 : z_ct RL hL_pass 4 "java/lang/IllegalArgumentException" 12 := ⟨[], (0, 9, 12, 13), [(0, 9, 15, 15)], rfl, rfl, by decide, rfl, clL_13, caL_IllegalArgumentException, (fun z hz => absurd hz List.not_mem_nil)⟩
theorem ctL_pass_1 : z_ct RL hL_pass 4 "java/lang/IllegalStateException" 15 := ⟨[(0, 9, 12, 13)], (0, 9, 15, 15), [], rfl, rfl, by decide, rfl, clL_15, caL_IllegalStateException, (fun z hz => by
  simp only [List.mem_cons, List.not_mem_nil, or_false] at hz
  rcases hz with rfl
  · exact ⟨by decide, "java/lang/IllegalArgumentException", clL_13, by decide⟩)⟩
abbrev hL_rest : zHs := [(0, 9, 12, 13), (0, 9, 15, 15)]
abbrev NL_rest : zM := (yL_rest, cL_rest, 4, (some .int), 7, 1, 6, 161)
theorem nL_71 : Cond.methodLink RL 71 NX8_rest.1 ∈ lw_good := z_gd 935 (by decide +kernel) (by decide +kernel)
theorem kL_71 : z_cV RL 71 NX8_rest 1 8 := ⟨⟨Or.inl nL_71, z_gd 938 (by decide +kernel) (by decide +kernel), z_gd 57 (by decide +kernel) (by decide +kernel), ⟨by decide, by decide⟩, by decide +kernel⟩, z_gd 936 (by decide +kernel) (by decide +kernel), z_gd 937 (by decide +kernel) (by decide +kernel), by decide, rfl⟩
theorem wL_157 : z_cW RL 157 NL_rest hL_rest 3 := ⟨z_gd 932 (by decide +kernel) (by decide +kernel), z_gd 934 (by decide +kernel) (by decide +kernel), z_gd 56 (by decide +kernel) (by decide +kernel), ⟨by decide, by decide⟩, by decide +kernel, z_gd 933 (by decide +kernel) (by decide +kernel)⟩
theorem ctL_rest_0 : z_ct RL hL_rest 4 "java/lang/IllegalArgumentException" 12 := ⟨[], (0, 9, 12, 13), [(0, 9, 15, 15)], rfl, rfl, by decide, rfl, clL_13, caL_IllegalArgumentException, (fun z hz => absurd hz List.not_mem_nil)⟩
theorem ctL_rest_1 : z_ct RL hL_rest 4 "java/lang/IllegalStateException" 15 := ⟨[(0, 9, 12, 13)], (0, 9, 15, 15), [], rfl, rfl, by decide, rfl, clL_15, caL_IllegalStateException, (fun z hz => by
  simp only [List.mem_cons, List.not_mem_nil, or_false] at hz
  rcases hz with rfl
  · exact ⟨by decide, "java/lang/IllegalArgumentException", clL_13, by decide⟩)⟩
abbrev hL_ofMessage : zHs := [(0, 10, 13, 21), (0, 10, 17, 13)]
abbrev NL_ofMessage : zM := (yL_ofMessage, cL_ofMessage, 5, (some .int), 7, 1, 6, 163)
theorem nL_74 : Cond.methodLink RL 74 NX8_ofMessage.1 ∈ lw_good := z_gd 943 (by decide +kernel) (by decide +kernel)
theorem kL_74 : z_cV RL 74 NX8_ofMessage 2 8 := ⟨⟨Or.inl nL_74, z_gd 946 (by decide +kernel) (by decide +kernel), z_gd 57 (by decide +kernel) (by decide +kernel), ⟨by decide, by decide⟩, by decide +kernel⟩, z_gd 944 (by decide +kernel) (by decide +kernel), z_gd 945 (by decide +kernel) (by decide +kernel), by decide, rfl⟩
theorem wL_160 : z_cW RL 160 NL_ofMessage hL_ofMessage 4 := ⟨z_gd 940 (by decide +kernel) (by decide +kernel), z_gd 942 (by decide +kernel) (by decide +kernel), z_gd 56 (by decide +kernel) (by decide +kernel), ⟨by decide, by decide⟩, by decide +kernel, z_gd 941 (by decide +kernel) (by decide +kernel)⟩
theorem ctL_ofMessage_0 : z_ct RL hL_ofMessage 5 "java/lang/IndexOutOfBoundsException" 13 := ⟨[], (0, 10, 13, 21), [(0, 10, 17, 13)], rfl, rfl, by decide, rfl, clL_21, caL_IndexOutOfBoundsException, (fun z hz => absurd hz List.not_mem_nil)⟩
theorem ctL_ofMessage_1 : z_ct RL hL_ofMessage 5 "java/lang/IllegalArgumentException" 17 := ⟨[(0, 10, 13, 21)], (0, 10, 17, 13), [], rfl, rfl, by decide, rfl, clL_13, caL_IllegalArgumentException, (fun z hz => by
  simp only [List.mem_cons, List.not_mem_nil, or_false] at hz
  rcases hz with rfl
  · exact ⟨by decide, "java/lang/IndexOutOfBoundsException", clL_21, by decide⟩)⟩
abbrev hL_word : zHs := [(0, 12, 15, 21)]
abbrev NL_word : zM := (yL_word, cL_word, 6, (some .int), 7, 1, 6, 164)
theorem nL_77 : Cond.methodLink RL 77 NX8_word.1 ∈ lw_good := z_gd 952 (by decide +kernel) (by decide +kernel)
theorem kL_77 : z_cV RL 77 NX8_word 3 8 := ⟨⟨Or.inl nL_77, z_gd 955 (by decide +kernel) (by decide +kernel), z_gd 57 (by decide +kernel) (by decide +kernel), ⟨by decide, by decide⟩, by decide +kernel⟩, z_gd 953 (by decide +kernel) (by decide +kernel), z_gd 954 (by decide +kernel) (by decide +kernel), by decide, rfl⟩
theorem wL_163 : z_cW RL 163 NL_word hL_word 5 := ⟨z_gd 949 (by decide +kernel) (by decide +kernel), z_gd 951 (by decide +kernel) (by decide +kernel), z_gd 56 (by decide +kernel) (by decide +kernel), ⟨by decide, by decide⟩, by decide +kernel, z_gd 950 (by decide +kernel) (by decide +kernel)⟩
theorem ctL_word_0 : z_ct RL hL_word 7 "java/lang/IndexOutOfBoundsException" 15 := ⟨[], (0, 12, 15, 21), [], rfl, rfl, by decide, rfl, clL_21, caL_IndexOutOfBoundsException, (fun z hz => absurd hz List.not_mem_nil)⟩
abbrev hL_read : zHs := [(0, 10, 13, 21)]
abbrev NL_read : zM := (yL_read, cL_read, 5, (some .int), 7, 1, 6, 170)
theorem nL_81 : Cond.methodLink RL 81 NX8_read.1 ∈ lw_good := z_gd 963 (by decide +kernel) (by decide +kernel)
theorem kL_81 : z_cV RL 81 NX8_read 2 8 := ⟨⟨Or.inl nL_81, z_gd 966 (by decide +kernel) (by decide +kernel), z_gd 57 (by decide +kernel) (by decide +kernel), ⟨by decide, by decide⟩, by decide +kernel⟩, z_gd 964 (by decide +kernel) (by decide +kernel), z_gd 965 (by decide +kernel) (by decide +kernel), by decide, rfl⟩
theorem wL_167 : z_cW RL 167 NL_read hL_read 4 := ⟨z_gd 960 (by decide +kernel) (by decide +kernel), z_gd 962 (by decide +kernel) (by decide +kernel), z_gd 56 (by decide +kernel) (by decide +kernel), ⟨by decide, by decide⟩, by decide +kernel, z_gd 961 (by decide +kernel) (by decide +kernel)⟩
theorem ctL_read_0 : z_ct RL hL_read 5 "java/lang/IndexOutOfBoundsException" 13 := ⟨[], (0, 10, 13, 21), [], rfl, rfl, by decide, rfl, clL_21, caL_IndexOutOfBoundsException, (fun z hz => absurd hz List.not_mem_nil)⟩
abbrev hL_claim : zHs := [(0, 9, 12, 21)]
abbrev NL_claim : zM := (yL_claim, cL_claim, 4, (some .int), 7, 1, 6, 165)
theorem nL_84 : Cond.methodLink RL 84 NX8_claim.1 ∈ lw_good := z_gd 986 (by decide +kernel) (by decide +kernel)
theorem kL_84 : z_cV RL 84 NX8_claim 1 8 := ⟨⟨Or.inl nL_84, z_gd 989 (by decide +kernel) (by decide +kernel), z_gd 57 (by decide +kernel) (by decide +kernel), ⟨by decide, by decide⟩, by decide +kernel⟩, z_gd 987 (by decide +kernel) (by decide +kernel), z_gd 988 (by decide +kernel) (by decide +kernel), by decide, rfl⟩
theorem wL_170 : z_cW RL 170 NL_claim hL_claim 3 := ⟨z_gd 983 (by decide +kernel) (by decide +kernel), z_gd 985 (by decide +kernel) (by decide +kernel), z_gd 56 (by decide +kernel) (by decide +kernel), ⟨by decide, by decide⟩, by decide +kernel, z_gd 984 (by decide +kernel) (by decide +kernel)⟩
theorem ctL_claim_0 : z_ct RL hL_claim 4 "java/lang/IndexOutOfBoundsException" 12 := ⟨[], (0, 9, 12, 21), [], rfl, rfl, by decide, rfl, clL_21, caL_IndexOutOfBoundsException, (fun z hz => absurd hz List.not_mem_nil)⟩
abbrev hL_account : zHs := [(0, 9, 12, 21)]
abbrev NL_account : zM := (yL_account, cL_account, 4, (some .int), 7, 1, 6, 162)
theorem nL_87 : Cond.methodLink RL 87 NX8_account.1 ∈ lw_good := z_gd 993 (by decide +kernel) (by decide +kernel)
theorem kL_87 : z_cV RL 87 NX8_account 1 8 := ⟨⟨Or.inl nL_87, z_gd 996 (by decide +kernel) (by decide +kernel), z_gd 57 (by decide +kernel) (by decide +kernel), ⟨by decide, by decide⟩, by decide +kernel⟩, z_gd 994 (by decide +kernel) (by decide +kernel), z_gd 995 (by decide +kernel) (by decide +kernel), by decide, rfl⟩
theorem wL_173 : z_cW RL 173 NL_account hL_account 3 := ⟨z_gd 990 (by decide +kernel) (by decide +kernel), z_gd 992 (by decide +kernel) (by decide +kernel), z_gd 56 (by decide +kernel) (by decide +kernel), ⟨by decide, by decide⟩, by decide +kernel, z_gd 991 (by decide +kernel) (by decide +kernel)⟩
theorem ctL_account_0 : z_ct RL hL_account 4 "java/lang/IndexOutOfBoundsException" 12 := ⟨[], (0, 9, 12, 21), [], rfl, rfl, by decide, rfl, clL_21, caL_IndexOutOfBoundsException, (fun z hz => absurd hz List.not_mem_nil)⟩
abbrev hL_accountAnew : zHs := [(0, 9, 12, 21)]
abbrev NL_accountAnew : zM := (yL_accountAnew, cL_accountAnew, 4, (some .int), 7, 1, 6, 164)
theorem nL_90 : Cond.methodLink RL 90 NX8_accountAnew.1 ∈ lw_good := z_gd 1000 (by decide +kernel) (by decide +kernel)
theorem kL_90 : z_cV RL 90 NX8_accountAnew 1 8 := ⟨⟨Or.inl nL_90, z_gd 1003 (by decide +kernel) (by decide +kernel), z_gd 57 (by decide +kernel) (by decide +kernel), ⟨by decide, by decide⟩, by decide +kernel⟩, z_gd 1001 (by decide +kernel) (by decide +kernel), z_gd 1002 (by decide +kernel) (by decide +kernel), by decide, rfl⟩
theorem wL_176 : z_cW RL 176 NL_accountAnew hL_accountAnew 3 := ⟨z_gd 997 (by decide +kernel) (by decide +kernel), z_gd 999 (by decide +kernel) (by decide +kernel), z_gd 56 (by decide +kernel) (by decide +kernel), ⟨by decide, by decide⟩, by decide +kernel, z_gd 998 (by decide +kernel) (by decide +kernel)⟩
theorem ctL_accountAnew_0 : z_ct RL hL_accountAnew 4 "java/lang/IndexOutOfBoundsException" 12 := ⟨[], (0, 9, 12, 21), [], rfl, rfl, by decide, rfl, clL_21, caL_IndexOutOfBoundsException, (fun z hz => absurd hz List.not_mem_nil)⟩
section ZW
variable {p : Program} {l : Launch} {e : Env} {R : Room} {s : State} {m : MethodId} {args : Array Value} {below : List Frame} {meth : Method} {c : Code} {cells slots : Nat} {Q : State → Prop} {own nm : String} {cc : ByteArray} {nL : Nat} {ret : Option FieldType} {D : va_G} {cy : Nat → ClassId} {z0 pc : Nat} {L : List (Option Value)} {st : List Value} {g : zSh} {σ : zIn}
theorem z_lconst (X : z_cx p s m args meth c own cc nL ret nm D cy z0) {n : Fin 2} {v : Int64} (hv : Int64.ofNat (n : Nat) = v) (d : decode cc pc = .ok (.lconst n, 1)) (kk : z_V p l e R s m args below meth c nL D cy z0 cells slots Q (pc + 1) (L) (.long v :: st) g σ) : z_V p l e R s m args below meth c nL D cy z0 cells slots Q (pc) (L) (st) g σ := by
  intro H locs ls hP hD hS hL
  obtain ⟨hx, hb, hml, hown, hts, hN, hK, hz, hr, hnm, hlk⟩ := X
  exact lv_lconst hx hb d hv (kk H locs ls hP hD hS hL)
end ZW
set_option maxHeartbeats 4000000 in
set_option maxRecDepth 100000 in
theorem tL_idea {l : Launch} {D : va_G} {cy : Nat → ClassId} {z0 : Nat} {g : zSh} {σ : zIn} {Post : Option Value → zSh → zIn → Prop} {PX : String → zSh → zIn → Prop} (x1 : Int32) (hS : zS g) (h : z_Cx l D cy z0 NX8_idea [.ref (g.2.1 1), .int x1] g σ Post PX) (hO : ∀ v g' σ', Post v g' σ' → z_ar g' 59 2 1 ∧ g'.2.1 59 = g.2.1 59 ∧ ∃ r, v = some (.int r)) (hE : ∀ E g' σ', PX E g' σ' → E ∈ ["java/lang/IllegalArgumentException", "java/lang/IllegalStateException"]) : z_Cw l D cy z0 NL_idea hL_idea [.ref (g.2.1 1), .int x1, .ref (g.2.1 59)] g σ (fun v g' σ' => (∃ r σ1, Post (some (.int r)) g' σ1 ∧ σ' = z_up σ1 59 0 r ∧ v = some (.int 0)) ∨ ∃ (j : Nat) (E : String), ["java/lang/IllegalArgumentException", "java/lang/IllegalStateException"][j]? = some E ∧ PX E g' σ' ∧ v = some (.int (nI (j + 1)))) := by
  refine z_ofW (by decide) (z_cr (z_ci (z_cr z_c0))) (Nat.le_of_ble_eq_true rfl) ?_
  intro p e s m args below meth c X Y htab
  refine z_aload_n X dL_idea_0 rfl ?_
  refine z_iconst (v := 0) X (by decide) dL_idea_1 ?_
  refine z_aload_n X dL_idea_2 rfl ?_
  refine z_iload_n X dL_idea_3 rfl ?_
  refine z_runVX X Y htab nL_7 kL_7 h (zso_1 hS) rfl rfl (Nat.le_of_ble_eq_true rfl) ⟨by decide, by decide⟩ ⟨by decide, by decide⟩ dL_idea_4 (fun E g1 s1 hp => ?_) ?_
  · have hm := hE E g1 s1 hp
    simp only [List.mem_cons, List.not_mem_nil, or_false] at hm
    rcases hm with rfl | rfl
    · refine ⟨12, ctL_idea_0, fun q => ?_⟩
      refine z_astore_n X dL_idea_12 (by decide) ?_
      refine z_iconst (v := nI 1) X (by decide) dL_idea_13 ?_
      refine z_iret X (by decide) (by decide) rfl dL_idea_14 ?_
      exact Or.inr ⟨0, _, rfl, hp, rfl⟩
    · refine ⟨15, ctL_idea_1, fun q => ?_⟩
      refine z_astore_n X dL_idea_15 (by decide) ?_
      refine z_iconst (v := nI 2) X (by decide) dL_idea_16 ?_
      refine z_iret X (by decide) (by decide) rfl dL_idea_17 ?_
      exact Or.inr ⟨1, _, rfl, hp, rfl⟩
  · intro v g1 s1 hp
    obtain ⟨ha, hadr, r, rfl⟩ := hO v g1 s1 hp
    rw [← hadr]
    refine z_i2l X dL_idea_7 ?_
    refine z_last (v := r) X ha (by exact z_vin (by decide) (by decide)) dL_idea_8 ?_
    refine z_goto (tgt := 18) X dL_idea_9 (by decide) ?_
    refine z_iconst (v := 0) X (by decide) dL_idea_18 ?_
    refine z_iret X (by decide) (by decide) rfl dL_idea_19 ?_
    exact Or.inl ⟨r, s1, hp, rfl, rfl⟩
set_option maxHeartbeats 4000000 in
set_option maxRecDepth 100000 in
theorem tL_entry {l : Launch} {D : va_G} {cy : Nat → ClassId} {z0 : Nat} {g : zSh} {σ : zIn} {Post : Option Value → zSh → zIn → Prop} {PX : String → zSh → zIn → Prop} (x1 x2 x3 x4 x5 : Int32) (hS : zS g) (h : z_Cx l D cy z0 NX8_entry [.ref (g.2.1 1), .int x1, .int x2, .int x3, .int x4, .int x5] g σ Post PX) (hO : ∀ v g' σ', Post v g' σ' → z_ar g' 59 2 1 ∧ g'.2.1 59 = g.2.1 59 ∧ ∃ r, v = some (.int r)) (hE : ∀ E g' σ', PX E g' σ' → E ∈ ["java/lang/IndexOutOfBoundsException", "java/lang/IllegalArgumentException", "java/lang/IllegalStateException"]) : z_Cw l D cy z0 NL_entry hL_entry [.ref (g.2.1 1), .int x1, .int x2, .int x3, .int x4, .int x5, .ref (g.2.1 59)] g σ (fun v g' σ' => (∃ r σ1, Post (some (.int r)) g' σ1 ∧ σ' = z_up σ1 59 0 r ∧ v = some (.int 0)) ∨ ∃ (j : Nat) (E : String), ["java/lang/IndexOutOfBoundsException", "java/lang/IllegalArgumentException", "java/lang/IllegalStateException"][j]? = some E ∧ PX E g' σ' ∧ v = some (.int (nI (j + 1)))) := by
  refine z_ofW (by decide) (z_cr (z_ci (z_ci (z_ci (z_ci (z_ci (z_cr z_c0))))))) (Nat.le_of_ble_eq_true rfl) ?_
  intro p e s m args below meth c X Y htab
  refine z_aload X dL_entry_0 rfl ?_
  refine z_iconst (v := 0) X (by decide) dL_entry_2 ?_
  refine z_aload_n X dL_entry_3 rfl ?_
  refine z_iload_n X dL_entry_4 rfl ?_
  refine z_iload_n X dL_entry_5 rfl ?_
  refine z_iload_n X dL_entry_6 rfl ?_
  refine z_iload X dL_entry_7 rfl ?_
  refine z_iload X dL_entry_9 rfl ?_
  refine z_runVX X Y htab nL_17 kL_17 h (zso_1 hS) rfl rfl (Nat.le_of_ble_eq_true rfl) ⟨by decide, by decide⟩ ⟨by decide, by decide⟩ dL_entry_11 (fun E g1 s1 hp => ?_) ?_
  · have hm := hE E g1 s1 hp
    simp only [List.mem_cons, List.not_mem_nil, or_false] at hm
    rcases hm with rfl | rfl | rfl
    · refine ⟨19, ctL_entry_0, fun q => ?_⟩
      refine z_astore X dL_entry_19 (by decide) ?_
      refine z_iconst (v := nI 1) X (by decide) dL_entry_21 ?_
      refine z_iret X (by decide) (by decide) rfl dL_entry_22 ?_
      exact Or.inr ⟨0, _, rfl, hp, rfl⟩
    · refine ⟨23, ctL_entry_1, fun q => ?_⟩
      refine z_astore X dL_entry_23 (by decide) ?_
      refine z_iconst (v := nI 2) X (by decide) dL_entry_25 ?_
      refine z_iret X (by decide) (by decide) rfl dL_entry_26 ?_
      exact Or.inr ⟨1, _, rfl, hp, rfl⟩
    · refine ⟨27, ctL_entry_2, fun q => ?_⟩
      refine z_astore X dL_entry_27 (by decide) ?_
      refine z_iconst (v := nI 3) X (by decide) dL_entry_29 ?_
      refine z_iret X (by decide) (by decide) rfl dL_entry_30 ?_
      exact Or.inr ⟨2, _, rfl, hp, rfl⟩
  · intro v g1 s1 hp
    obtain ⟨ha, hadr, r, rfl⟩ := hO v g1 s1 hp
    rw [← hadr]
    refine z_i2l X dL_entry_14 ?_
    refine z_last (v := r) X ha (by exact z_vin (by decide) (by decide)) dL_entry_15 ?_
    refine z_goto (tgt := 31) X dL_entry_16 (by decide) ?_
    refine z_iconst (v := 0) X (by decide) dL_entry_31 ?_
    refine z_iret X (by decide) (by decide) rfl dL_entry_32 ?_
    exact Or.inl ⟨r, s1, hp, rfl, rfl⟩
set_option maxHeartbeats 4000000 in
set_option maxRecDepth 100000 in
theorem tL_candidates {l : Launch} {D : va_G} {cy : Nat → ClassId} {z0 : Nat} {g : zSh} {σ : zIn} {Post : Option Value → zSh → zIn → Prop} {PX : String → zSh → zIn → Prop} (x1 : Int32) (hS : zS g) (h : z_Cx l D cy z0 NX8_candidates [.ref (g.2.1 1), .int x1] g σ Post PX) (hO : ∀ v g' σ', Post v g' σ' → z_ar g' 59 2 1 ∧ g'.2.1 59 = g.2.1 59 ∧ ∃ r, v = some (.int r)) (hE : ∀ E g' σ', PX E g' σ' → E ∈ ["java/lang/IllegalArgumentException"]) : z_Cw l D cy z0 NL_candidates hL_candidates [.ref (g.2.1 1), .int x1, .ref (g.2.1 59)] g σ (fun v g' σ' => (∃ r σ1, Post (some (.int r)) g' σ1 ∧ σ' = z_up σ1 59 0 r ∧ v = some (.int 0)) ∨ ∃ (j : Nat) (E : String), ["java/lang/IllegalArgumentException"][j]? = some E ∧ PX E g' σ' ∧ v = some (.int (nI (j + 1)))) := by
  refine z_ofW (by decide) (z_cr (z_ci (z_cr z_c0))) (Nat.le_of_ble_eq_true rfl) ?_
  intro p e s m args below meth c X Y htab
  refine z_aload_n X dL_candidates_0 rfl ?_
  refine z_iconst (v := 0) X (by decide) dL_candidates_1 ?_
  refine z_aload_n X dL_candidates_2 rfl ?_
  refine z_iload_n X dL_candidates_3 rfl ?_
  refine z_runVX X Y htab nL_23 kL_23 h (zso_1 hS) rfl rfl (Nat.le_of_ble_eq_true rfl) ⟨by decide, by decide⟩ ⟨by decide, by decide⟩ dL_candidates_4 (fun E g1 s1 hp => ?_) ?_
  · have hm := hE E g1 s1 hp
    simp only [List.mem_cons, List.not_mem_nil, or_false] at hm
    subst hm
    · refine ⟨12, ctL_candidates_0, fun q => ?_⟩
      refine z_astore_n X dL_candidates_12 (by decide) ?_
      refine z_iconst (v := nI 1) X (by decide) dL_candidates_13 ?_
      refine z_iret X (by decide) (by decide) rfl dL_candidates_14 ?_
      exact Or.inr ⟨0, _, rfl, hp, rfl⟩
  · intro v g1 s1 hp
    obtain ⟨ha, hadr, r, rfl⟩ := hO v g1 s1 hp
    rw [← hadr]
    refine z_i2l X dL_candidates_7 ?_
    refine z_last (v := r) X ha (by exact z_vin (by decide) (by decide)) dL_candidates_8 ?_
    refine z_goto (tgt := 15) X dL_candidates_9 (by decide) ?_
    refine z_iconst (v := 0) X (by decide) dL_candidates_15 ?_
    refine z_iret X (by decide) (by decide) rfl dL_candidates_16 ?_
    exact Or.inl ⟨r, s1, hp, rfl, rfl⟩
set_option maxHeartbeats 4000000 in
set_option maxRecDepth 100000 in
theorem tL_candidate {l : Launch} {D : va_G} {cy : Nat → ClassId} {z0 : Nat} {g : zSh} {σ : zIn} {Post : Option Value → zSh → zIn → Prop} {PX : String → zSh → zIn → Prop} (x1 x2 : Int32) (hS : zS g) (h : z_Cx l D cy z0 NX8_candidate [.ref (g.2.1 1), .int x1, .int x2] g σ Post PX) (hO : ∀ v g' σ', Post v g' σ' → z_ar g' 59 2 1 ∧ g'.2.1 59 = g.2.1 59 ∧ ∃ r, v = some (.int r)) (hE : ∀ E g' σ', PX E g' σ' → E ∈ ["java/lang/IndexOutOfBoundsException", "java/lang/IllegalArgumentException"]) : z_Cw l D cy z0 NL_candidate hL_candidate [.ref (g.2.1 1), .int x1, .int x2, .ref (g.2.1 59)] g σ (fun v g' σ' => (∃ r σ1, Post (some (.int r)) g' σ1 ∧ σ' = z_up σ1 59 0 r ∧ v = some (.int 0)) ∨ ∃ (j : Nat) (E : String), ["java/lang/IndexOutOfBoundsException", "java/lang/IllegalArgumentException"][j]? = some E ∧ PX E g' σ' ∧ v = some (.int (nI (j + 1)))) := by
  refine z_ofW (by decide) (z_cr (z_ci (z_ci (z_cr z_c0)))) (Nat.le_of_ble_eq_true rfl) ?_
  intro p e s m args below meth c X Y htab
  refine z_aload_n X dL_candidate_0 rfl ?_
  refine z_iconst (v := 0) X (by decide) dL_candidate_1 ?_
  refine z_aload_n X dL_candidate_2 rfl ?_
  refine z_iload_n X dL_candidate_3 rfl ?_
  refine z_iload_n X dL_candidate_4 rfl ?_
  refine z_runVX X Y htab nL_26 kL_26 h (zso_1 hS) rfl rfl (Nat.le_of_ble_eq_true rfl) ⟨by decide, by decide⟩ ⟨by decide, by decide⟩ dL_candidate_5 (fun E g1 s1 hp => ?_) ?_
  · have hm := hE E g1 s1 hp
    simp only [List.mem_cons, List.not_mem_nil, or_false] at hm
    rcases hm with rfl | rfl
    · refine ⟨13, ctL_candidate_0, fun q => ?_⟩
      refine z_astore X dL_candidate_13 (by decide) ?_
      refine z_iconst (v := nI 1) X (by decide) dL_candidate_15 ?_
      refine z_iret X (by decide) (by decide) rfl dL_candidate_16 ?_
      exact Or.inr ⟨0, _, rfl, hp, rfl⟩
    · refine ⟨17, ctL_candidate_1, fun q => ?_⟩
      refine z_astore X dL_candidate_17 (by decide) ?_
      refine z_iconst (v := nI 2) X (by decide) dL_candidate_19 ?_
      refine z_iret X (by decide) (by decide) rfl dL_candidate_20 ?_
      exact Or.inr ⟨1, _, rfl, hp, rfl⟩
  · intro v g1 s1 hp
    obtain ⟨ha, hadr, r, rfl⟩ := hO v g1 s1 hp
    rw [← hadr]
    refine z_i2l X dL_candidate_8 ?_
    refine z_last (v := r) X ha (by exact z_vin (by decide) (by decide)) dL_candidate_9 ?_
    refine z_goto (tgt := 21) X dL_candidate_10 (by decide) ?_
    refine z_iconst (v := 0) X (by decide) dL_candidate_21 ?_
    refine z_iret X (by decide) (by decide) rfl dL_candidate_22 ?_
    exact Or.inl ⟨r, s1, hp, rfl, rfl⟩
set_option maxHeartbeats 4000000 in
set_option maxRecDepth 100000 in
theorem tL_office {l : Launch} {D : va_G} {cy : Nat → ClassId} {z0 : Nat} {g : zSh} {σ : zIn} {Post : Option Value → zSh → zIn → Prop} {PX : String → zSh → zIn → Prop} (hS : zS g) (h : z_Cx l D cy z0 NX8_office [.ref (g.2.1 1)] g σ Post PX) (hO : ∀ v g' σ', Post v g' σ' → z_ar g' 59 2 1 ∧ g'.2.1 59 = g.2.1 59 ∧ ∃ r, v = some (.int r)) (hE : ∀ E g' σ', PX E g' σ' → E ∈ ["java/lang/IllegalStateException"]) : z_Cw l D cy z0 NL_office hL_office [.ref (g.2.1 1), .ref (g.2.1 59)] g σ (fun v g' σ' => (∃ r σ1, Post (some (.int r)) g' σ1 ∧ σ' = z_up σ1 59 0 r ∧ v = some (.int 0)) ∨ ∃ (j : Nat) (E : String), ["java/lang/IllegalStateException"][j]? = some E ∧ PX E g' σ' ∧ v = some (.int (nI (j + 1)))) := by
  refine z_ofW (by decide) (z_cr (z_cr z_c0)) (Nat.le_of_ble_eq_true rfl) ?_
  intro p e s m args below meth c X Y htab
  refine z_aload_n X dL_office_0 rfl ?_
  refine z_iconst (v := 0) X (by decide) dL_office_1 ?_
  refine z_aload_n X dL_office_2 rfl ?_
  refine z_runVX X Y htab nL_30 kL_30 h (zso_1 hS) rfl rfl (Nat.le_of_ble_eq_true rfl) ⟨by decide, by decide⟩ ⟨by decide, by decide⟩ dL_office_3 (fun E g1 s1 hp => ?_) ?_
  · have hm := hE E g1 s1 hp
    simp only [List.mem_cons, List.not_mem_nil, or_false] at hm
    subst hm
    · refine ⟨11, ctL_office_0, fun q => ?_⟩
      refine z_astore_n X dL_office_11 (by decide) ?_
      refine z_iconst (v := nI 1) X (by decide) dL_office_12 ?_
      refine z_iret X (by decide) (by decide) rfl dL_office_13 ?_
      exact Or.inr ⟨0, _, rfl, hp, rfl⟩
  · intro v g1 s1 hp
    obtain ⟨ha, hadr, r, rfl⟩ := hO v g1 s1 hp
    rw [← hadr]
    refine z_i2l X dL_office_6 ?_
    refine z_last (v := r) X ha (by exact z_vin (by decide) (by decide)) dL_office_7 ?_
    refine z_goto (tgt := 14) X dL_office_8 (by decide) ?_
    refine z_iconst (v := 0) X (by decide) dL_office_14 ?_
    refine z_iret X (by decide) (by decide) rfl dL_office_15 ?_
    exact Or.inl ⟨r, s1, hp, rfl, rfl⟩
set_option maxHeartbeats 4000000 in
set_option maxRecDepth 100000 in
theorem tL_cable {l : Launch} {D : va_G} {cy : Nat → ClassId} {z0 : Nat} {g : zSh} {σ : zIn} {Post : Option Value → zSh → zIn → Prop} {PX : String → zSh → zIn → Prop} (x1 x2 x3 x4 : Int32) (hS : zS g) (h : z_Cx l D cy z0 NX8_cable [.ref (g.2.1 1), .int x1, .int x2, .int x3, .int x4] g σ Post PX) (hO : ∀ v g' σ', Post v g' σ' → z_ar g' 59 2 1 ∧ g'.2.1 59 = g.2.1 59 ∧ ∃ r, v = some (.int r)) (hE : ∀ E g' σ', PX E g' σ' → E ∈ ["java/lang/IndexOutOfBoundsException", "java/lang/IllegalArgumentException", "java/lang/IllegalStateException"]) : z_Cw l D cy z0 NL_cable hL_cable [.ref (g.2.1 1), .int x1, .int x2, .int x3, .int x4, .ref (g.2.1 59)] g σ (fun v g' σ' => (∃ r σ1, Post (some (.int r)) g' σ1 ∧ σ' = z_up σ1 59 0 r ∧ v = some (.int 0)) ∨ ∃ (j : Nat) (E : String), ["java/lang/IndexOutOfBoundsException", "java/lang/IllegalArgumentException", "java/lang/IllegalStateException"][j]? = some E ∧ PX E g' σ' ∧ v = some (.int (nI (j + 1)))) := by
  refine z_ofW (by decide) (z_cr (z_ci (z_ci (z_ci (z_ci (z_cr z_c0)))))) (Nat.le_of_ble_eq_true rfl) ?_
  intro p e s m args below meth c X Y htab
  refine z_aload X dL_cable_0 rfl ?_
  refine z_iconst (v := 0) X (by decide) dL_cable_2 ?_
  refine z_aload_n X dL_cable_3 rfl ?_
  refine z_iload_n X dL_cable_4 rfl ?_
  refine z_iload_n X dL_cable_5 rfl ?_
  refine z_iload_n X dL_cable_6 rfl ?_
  refine z_iload X dL_cable_7 rfl ?_
  refine z_runVX X Y htab nL_34 kL_34 h (zso_1 hS) rfl rfl (Nat.le_of_ble_eq_true rfl) ⟨by decide, by decide⟩ ⟨by decide, by decide⟩ dL_cable_9 (fun E g1 s1 hp => ?_) ?_
  · have hm := hE E g1 s1 hp
    simp only [List.mem_cons, List.not_mem_nil, or_false] at hm
    rcases hm with rfl | rfl | rfl
    · refine ⟨17, ctL_cable_0, fun q => ?_⟩
      refine z_astore X dL_cable_17 (by decide) ?_
      refine z_iconst (v := nI 1) X (by decide) dL_cable_19 ?_
      refine z_iret X (by decide) (by decide) rfl dL_cable_20 ?_
      exact Or.inr ⟨0, _, rfl, hp, rfl⟩
    · refine ⟨21, ctL_cable_1, fun q => ?_⟩
      refine z_astore X dL_cable_21 (by decide) ?_
      refine z_iconst (v := nI 2) X (by decide) dL_cable_23 ?_
      refine z_iret X (by decide) (by decide) rfl dL_cable_24 ?_
      exact Or.inr ⟨1, _, rfl, hp, rfl⟩
    · refine ⟨25, ctL_cable_2, fun q => ?_⟩
      refine z_astore X dL_cable_25 (by decide) ?_
      refine z_iconst (v := nI 3) X (by decide) dL_cable_27 ?_
      refine z_iret X (by decide) (by decide) rfl dL_cable_28 ?_
      exact Or.inr ⟨2, _, rfl, hp, rfl⟩
  · intro v g1 s1 hp
    obtain ⟨ha, hadr, r, rfl⟩ := hO v g1 s1 hp
    rw [← hadr]
    refine z_i2l X dL_cable_12 ?_
    refine z_last (v := r) X ha (by exact z_vin (by decide) (by decide)) dL_cable_13 ?_
    refine z_goto (tgt := 29) X dL_cable_14 (by decide) ?_
    refine z_iconst (v := 0) X (by decide) dL_cable_29 ?_
    refine z_iret X (by decide) (by decide) rfl dL_cable_30 ?_
    exact Or.inl ⟨r, s1, hp, rfl, rfl⟩
set_option maxHeartbeats 4000000 in
set_option maxRecDepth 100000 in
theorem tL_broken {l : Launch} {D : va_G} {cy : Nat → ClassId} {z0 : Nat} {g : zSh} {σ : zIn} {Post : Option Value → zSh → zIn → Prop} {PX : String → zSh → zIn → Prop} (x1 x2 : Int32) (hS : zS g) (h : z_Cx l D cy z0 NX8_broken [.ref (g.2.1 1), .int x1, .int x2] g σ Post PX) (hO : ∀ v g' σ', Post v g' σ' → z_ar g' 59 2 1 ∧ g'.2.1 59 = g.2.1 59 ∧ ∃ r, v = some (.int r)) (hE : ∀ E g' σ', PX E g' σ' → E ∈ ["java/lang/IndexOutOfBoundsException"]) : z_Cw l D cy z0 NL_broken hL_broken [.ref (g.2.1 1), .int x1, .int x2, .ref (g.2.1 59)] g σ (fun v g' σ' => (∃ r σ1, Post (some (.int r)) g' σ1 ∧ σ' = z_up σ1 59 0 r ∧ v = some (.int 0)) ∨ ∃ (j : Nat) (E : String), ["java/lang/IndexOutOfBoundsException"][j]? = some E ∧ PX E g' σ' ∧ v = some (.int (nI (j + 1)))) := by
  refine z_ofW (by decide) (z_cr (z_ci (z_ci (z_cr z_c0)))) (Nat.le_of_ble_eq_true rfl) ?_
  intro p e s m args below meth c X Y htab
  refine z_aload_n X dL_broken_0 rfl ?_
  refine z_iconst (v := 0) X (by decide) dL_broken_1 ?_
  refine z_aload_n X dL_broken_2 rfl ?_
  refine z_iload_n X dL_broken_3 rfl ?_
  refine z_iload_n X dL_broken_4 rfl ?_
  refine z_runVX X Y htab nL_38 kL_38 h (zso_1 hS) rfl rfl (Nat.le_of_ble_eq_true rfl) ⟨by decide, by decide⟩ ⟨by decide, by decide⟩ dL_broken_5 (fun E g1 s1 hp => ?_) ?_
  · have hm := hE E g1 s1 hp
    simp only [List.mem_cons, List.not_mem_nil, or_false] at hm
    subst hm
    · refine ⟨13, ctL_broken_0, fun q => ?_⟩
      refine z_astore X dL_broken_13 (by decide) ?_
      refine z_iconst (v := nI 1) X (by decide) dL_broken_15 ?_
      refine z_iret X (by decide) (by decide) rfl dL_broken_16 ?_
      exact Or.inr ⟨0, _, rfl, hp, rfl⟩
  · intro v g1 s1 hp
    obtain ⟨ha, hadr, r, rfl⟩ := hO v g1 s1 hp
    rw [← hadr]
    refine z_i2l X dL_broken_8 ?_
    refine z_last (v := r) X ha (by exact z_vin (by decide) (by decide)) dL_broken_9 ?_
    refine z_goto (tgt := 17) X dL_broken_10 (by decide) ?_
    refine z_iconst (v := 0) X (by decide) dL_broken_17 ?_
    refine z_iret X (by decide) (by decide) rfl dL_broken_18 ?_
    exact Or.inl ⟨r, s1, hp, rfl, rfl⟩
set_option maxHeartbeats 4000000 in
set_option maxRecDepth 100000 in
theorem tL_forbid {l : Launch} {D : va_G} {cy : Nat → ClassId} {z0 : Nat} {g : zSh} {σ : zIn} {Post : Option Value → zSh → zIn → Prop} {PX : String → zSh → zIn → Prop} (x1 x2 : Int32) (hS : zS g) (h : z_Cx l D cy z0 NX8_forbid [.ref (g.2.1 1), .int x1, .int x2] g σ Post PX) (hO : ∀ v g' σ', Post v g' σ' → z_ar g' 59 2 1 ∧ g'.2.1 59 = g.2.1 59 ∧ ∃ r, v = some (.int r) ∧ (r = 0 ∨ r = 1)) (hE : ∀ E g' σ', PX E g' σ' → E ∈ ["java/lang/IndexOutOfBoundsException"]) : z_Cw l D cy z0 NL_forbid hL_forbid [.ref (g.2.1 1), .int x1, .int x2, .ref (g.2.1 59)] g σ (fun v g' σ' => (∃ r σ1, Post (some (.int r)) g' σ1 ∧ σ' = z_up σ1 59 0 r ∧ v = some (.int 0)) ∨ ∃ (j : Nat) (E : String), ["java/lang/IndexOutOfBoundsException"][j]? = some E ∧ PX E g' σ' ∧ v = some (.int (nI (j + 1)))) := by
  refine z_ofW (by decide) (z_cr (z_ci (z_ci (z_cr z_c0)))) (Nat.le_of_ble_eq_true rfl) ?_
  intro p e s m args below meth c X Y htab
  refine z_aload_n X dL_forbid_0 rfl ?_
  refine z_iconst (v := 0) X (by decide) dL_forbid_1 ?_
  refine z_aload_n X dL_forbid_2 rfl ?_
  refine z_iload_n X dL_forbid_3 rfl ?_
  refine z_iload_n X dL_forbid_4 rfl ?_
  refine z_runVX X Y htab nL_42 kL_42 h (zso_1 hS) rfl rfl (Nat.le_of_ble_eq_true rfl) ⟨by decide, by decide⟩ ⟨by decide, by decide⟩ dL_forbid_5 (fun E g1 s1 hp => ?_) ?_
  · have hm := hE E g1 s1 hp
    simp only [List.mem_cons, List.not_mem_nil, or_false] at hm
    subst hm
    · refine ⟨20, ctL_forbid_0, fun q => ?_⟩
      refine z_astore X dL_forbid_20 (by decide) ?_
      refine z_iconst (v := nI 1) X (by decide) dL_forbid_22 ?_
      refine z_iret X (by decide) (by decide) rfl dL_forbid_23 ?_
      exact Or.inr ⟨0, _, rfl, hp, rfl⟩
  · intro v g1 s1 hp
    obtain ⟨ha, hadr, r, rfl, hr⟩ := hO v g1 s1 hp
    rw [← hadr]
    refine z_if_eq (tgt := 15) X dL_forbid_8 (by decide) (fun c0 => ?_) (fun c0 => ?_)
    · subst c0
      refine z_lconst (v := (0 : Int32).toInt64) X (by decide) dL_forbid_15 ?_
      refine z_last (v := 0) X ha (by exact z_vin (by decide) (by decide)) dL_forbid_16 ?_
      refine z_goto (tgt := 24) X dL_forbid_17 (by decide) ?_
      refine z_iconst (v := 0) X (by decide) dL_forbid_24 ?_
      refine z_iret X (by decide) (by decide) rfl dL_forbid_25 ?_
      exact Or.inl ⟨0, s1, hp, rfl, rfl⟩
    · obtain rfl : r = 1 := hr.resolve_left c0
      refine z_lconst (v := (1 : Int32).toInt64) X (by decide) dL_forbid_11 ?_
      refine z_goto (tgt := 16) X dL_forbid_12 (by decide) ?_
      refine z_last (v := 1) X ha (by exact z_vin (by decide) (by decide)) dL_forbid_16 ?_
      refine z_goto (tgt := 24) X dL_forbid_17 (by decide) ?_
      refine z_iconst (v := 0) X (by decide) dL_forbid_24 ?_
      refine z_iret X (by decide) (by decide) rfl dL_forbid_25 ?_
      exact Or.inl ⟨1, s1, hp, rfl, rfl⟩
set_option maxHeartbeats 4000000 in
set_option maxRecDepth 100000 in
theorem tL_key {l : Launch} {D : va_G} {cy : Nat → ClassId} {z0 : Nat} {g : zSh} {σ : zIn} {Post : Option Value → zSh → zIn → Prop} {PX : String → zSh → zIn → Prop} (x1 x2 : Int32) (hS : zS g) (h : z_Cx l D cy z0 NX8_key [.ref (g.2.1 1), .int x1, .int x2] g σ Post PX) (hO : ∀ v g' σ', Post v g' σ' → z_ar g' 59 2 1 ∧ g'.2.1 59 = g.2.1 59 ∧ ∃ r, v = some (.int r)) (hE : ∀ E g' σ', PX E g' σ' → E ∈ ["java/lang/IndexOutOfBoundsException", "java/lang/IllegalArgumentException"]) : z_Cw l D cy z0 NL_key hL_key [.ref (g.2.1 1), .int x1, .int x2, .ref (g.2.1 59)] g σ (fun v g' σ' => (∃ r σ1, Post (some (.int r)) g' σ1 ∧ σ' = z_up σ1 59 0 r ∧ v = some (.int 0)) ∨ ∃ (j : Nat) (E : String), ["java/lang/IndexOutOfBoundsException", "java/lang/IllegalArgumentException"][j]? = some E ∧ PX E g' σ' ∧ v = some (.int (nI (j + 1)))) := by
  refine z_ofW (by decide) (z_cr (z_ci (z_ci (z_cr z_c0)))) (Nat.le_of_ble_eq_true rfl) ?_
  intro p e s m args below meth c X Y htab
  refine z_aload_n X dL_key_0 rfl ?_
  refine z_iconst (v := 0) X (by decide) dL_key_1 ?_
  refine z_aload_n X dL_key_2 rfl ?_
  refine z_iload_n X dL_key_3 rfl ?_
  refine z_iload_n X dL_key_4 rfl ?_
  refine z_runVX X Y htab nL_46 kL_46 h (zso_1 hS) rfl rfl (Nat.le_of_ble_eq_true rfl) ⟨by decide, by decide⟩ ⟨by decide, by decide⟩ dL_key_5 (fun E g1 s1 hp => ?_) ?_
  · have hm := hE E g1 s1 hp
    simp only [List.mem_cons, List.not_mem_nil, or_false] at hm
    rcases hm with rfl | rfl
    · refine ⟨13, ctL_key_0, fun q => ?_⟩
      refine z_astore X dL_key_13 (by decide) ?_
      refine z_iconst (v := nI 1) X (by decide) dL_key_15 ?_
      refine z_iret X (by decide) (by decide) rfl dL_key_16 ?_
      exact Or.inr ⟨0, _, rfl, hp, rfl⟩
    · refine ⟨17, ctL_key_1, fun q => ?_⟩
      refine z_astore X dL_key_17 (by decide) ?_
      refine z_iconst (v := nI 2) X (by decide) dL_key_19 ?_
      refine z_iret X (by decide) (by decide) rfl dL_key_20 ?_
      exact Or.inr ⟨1, _, rfl, hp, rfl⟩
  · intro v g1 s1 hp
    obtain ⟨ha, hadr, r, rfl⟩ := hO v g1 s1 hp
    rw [← hadr]
    refine z_i2l X dL_key_8 ?_
    refine z_last (v := r) X ha (by exact z_vin (by decide) (by decide)) dL_key_9 ?_
    refine z_goto (tgt := 21) X dL_key_10 (by decide) ?_
    refine z_iconst (v := 0) X (by decide) dL_key_21 ?_
    refine z_iret X (by decide) (by decide) rfl dL_key_22 ?_
    exact Or.inl ⟨r, s1, hp, rfl, rfl⟩
set_option maxHeartbeats 4000000 in
set_option maxRecDepth 100000 in
theorem tL_conference {l : Launch} {D : va_G} {cy : Nat → ClassId} {z0 : Nat} {g : zSh} {σ : zIn} {Post : Option Value → zSh → zIn → Prop} {PX : String → zSh → zIn → Prop} (x1 x2 x3 x4 : Int32) (hS : zS g) (h : z_Cx l D cy z0 NX8_conference [.ref (g.2.1 1), .int x1, .int x2, .int x3, .int x4] g σ Post PX) (hO : ∀ v g' σ', Post v g' σ' → z_ar g' 59 2 1 ∧ g'.2.1 59 = g.2.1 59 ∧ ∃ r, v = some (.int r)) (hE : ∀ E g' σ', PX E g' σ' → E ∈ ["java/lang/IllegalArgumentException", "java/lang/IllegalStateException"]) : z_Cw l D cy z0 NL_conference hL_conference [.ref (g.2.1 1), .int x1, .int x2, .int x3, .int x4, .ref (g.2.1 59)] g σ (fun v g' σ' => (∃ r σ1, Post (some (.int r)) g' σ1 ∧ σ' = z_up σ1 59 0 r ∧ v = some (.int 0)) ∨ ∃ (j : Nat) (E : String), ["java/lang/IllegalArgumentException", "java/lang/IllegalStateException"][j]? = some E ∧ PX E g' σ' ∧ v = some (.int (nI (j + 1)))) := by
  refine z_ofW (by decide) (z_cr (z_ci (z_ci (z_ci (z_ci (z_cr z_c0)))))) (Nat.le_of_ble_eq_true rfl) ?_
  intro p e s m args below meth c X Y htab
  refine z_aload X dL_conference_0 rfl ?_
  refine z_iconst (v := 0) X (by decide) dL_conference_2 ?_
  refine z_aload_n X dL_conference_3 rfl ?_
  refine z_iload_n X dL_conference_4 rfl ?_
  refine z_iload_n X dL_conference_5 rfl ?_
  refine z_iload_n X dL_conference_6 rfl ?_
  refine z_iload X dL_conference_7 rfl ?_
  refine z_runVX X Y htab nL_49 kL_49 h (zso_1 hS) rfl rfl (Nat.le_of_ble_eq_true rfl) ⟨by decide, by decide⟩ ⟨by decide, by decide⟩ dL_conference_9 (fun E g1 s1 hp => ?_) ?_
  · have hm := hE E g1 s1 hp
    simp only [List.mem_cons, List.not_mem_nil, or_false] at hm
    rcases hm with rfl | rfl
    · refine ⟨17, ctL_conference_0, fun q => ?_⟩
      refine z_astore X dL_conference_17 (by decide) ?_
      refine z_iconst (v := nI 1) X (by decide) dL_conference_19 ?_
      refine z_iret X (by decide) (by decide) rfl dL_conference_20 ?_
      exact Or.inr ⟨0, _, rfl, hp, rfl⟩
    · refine ⟨21, ctL_conference_1, fun q => ?_⟩
      refine z_astore X dL_conference_21 (by decide) ?_
      refine z_iconst (v := nI 2) X (by decide) dL_conference_23 ?_
      refine z_iret X (by decide) (by decide) rfl dL_conference_24 ?_
      exact Or.inr ⟨1, _, rfl, hp, rfl⟩
  · intro v g1 s1 hp
    obtain ⟨ha, hadr, r, rfl⟩ := hO v g1 s1 hp
    rw [← hadr]
    refine z_i2l X dL_conference_12 ?_
    refine z_last (v := r) X ha (by exact z_vin (by decide) (by decide)) dL_conference_13 ?_
    refine z_goto (tgt := 25) X dL_conference_14 (by decide) ?_
    refine z_iconst (v := 0) X (by decide) dL_conference_25 ?_
    refine z_iret X (by decide) (by decide) rfl dL_conference_26 ?_
    exact Or.inl ⟨r, s1, hp, rfl, rfl⟩
set_option maxHeartbeats 4000000 in
set_option maxRecDepth 100000 in
theorem tL_reserve {l : Launch} {D : va_G} {cy : Nat → ClassId} {z0 : Nat} {g : zSh} {σ : zIn} {Post : Option Value → zSh → zIn → Prop} {PX : String → zSh → zIn → Prop} (x1 x2 : Int32) (hS : zS g) (h : z_Cx l D cy z0 NX8_reserve [.ref (g.2.1 1), .int x1, .int x2] g σ Post PX) (hO : ∀ v g' σ', Post v g' σ' → z_ar g' 59 2 1 ∧ g'.2.1 59 = g.2.1 59 ∧ ∃ r, v = some (.int r)) (hE : ∀ E g' σ', PX E g' σ' → E ∈ ["java/lang/IndexOutOfBoundsException"]) : z_Cw l D cy z0 NL_reserve hL_reserve [.ref (g.2.1 1), .int x1, .int x2, .ref (g.2.1 59)] g σ (fun v g' σ' => (∃ r σ1, Post (some (.int r)) g' σ1 ∧ σ' = z_up σ1 59 0 r ∧ v = some (.int 0)) ∨ ∃ (j : Nat) (E : String), ["java/lang/IndexOutOfBoundsException"][j]? = some E ∧ PX E g' σ' ∧ v = some (.int (nI (j + 1)))) := by
  refine z_ofW (by decide) (z_cr (z_ci (z_ci (z_cr z_c0)))) (Nat.le_of_ble_eq_true rfl) ?_
  intro p e s m args below meth c X Y htab
  refine z_aload_n X dL_reserve_0 rfl ?_
  refine z_iconst (v := 0) X (by decide) dL_reserve_1 ?_
  refine z_aload_n X dL_reserve_2 rfl ?_
  refine z_iload_n X dL_reserve_3 rfl ?_
  refine z_iload_n X dL_reserve_4 rfl ?_
  refine z_runVX X Y htab nL_52 kL_52 h (zso_1 hS) rfl rfl (Nat.le_of_ble_eq_true rfl) ⟨by decide, by decide⟩ ⟨by decide, by decide⟩ dL_reserve_5 (fun E g1 s1 hp => ?_) ?_
  · have hm := hE E g1 s1 hp
    simp only [List.mem_cons, List.not_mem_nil, or_false] at hm
    subst hm
    · refine ⟨13, ctL_reserve_0, fun q => ?_⟩
      refine z_astore X dL_reserve_13 (by decide) ?_
      refine z_iconst (v := nI 1) X (by decide) dL_reserve_15 ?_
      refine z_iret X (by decide) (by decide) rfl dL_reserve_16 ?_
      exact Or.inr ⟨0, _, rfl, hp, rfl⟩
  · intro v g1 s1 hp
    obtain ⟨ha, hadr, r, rfl⟩ := hO v g1 s1 hp
    rw [← hadr]
    refine z_i2l X dL_reserve_8 ?_
    refine z_last (v := r) X ha (by exact z_vin (by decide) (by decide)) dL_reserve_9 ?_
    refine z_goto (tgt := 17) X dL_reserve_10 (by decide) ?_
    refine z_iconst (v := 0) X (by decide) dL_reserve_17 ?_
    refine z_iret X (by decide) (by decide) rfl dL_reserve_18 ?_
    exact Or.inl ⟨r, s1, hp, rfl, rfl⟩
set_option maxHeartbeats 4000000 in
set_option maxRecDepth 100000 in
theorem tL_draft {l : Launch} {D : va_G} {cy : Nat → ClassId} {z0 : Nat} {g : zSh} {σ : zIn} {Post : Option Value → zSh → zIn → Prop} {PX : String → zSh → zIn → Prop} (x1 : Int32) (hS : zS g) (h : z_Cx l D cy z0 NX8_draft [.ref (g.2.1 1), .int x1] g σ Post PX) (hO : ∀ v g' σ', Post v g' σ' → z_ar g' 59 2 1 ∧ g'.2.1 59 = g.2.1 59 ∧ ∃ r, v = some (.int r)) (hE : ∀ E g' σ', PX E g' σ' → E ∈ ["java/lang/IndexOutOfBoundsException", "java/lang/IllegalStateException"]) : z_Cw l D cy z0 NL_draft hL_draft [.ref (g.2.1 1), .int x1, .ref (g.2.1 59)] g σ (fun v g' σ' => (∃ r σ1, Post (some (.int r)) g' σ1 ∧ σ' = z_up σ1 59 0 r ∧ v = some (.int 0)) ∨ ∃ (j : Nat) (E : String), ["java/lang/IndexOutOfBoundsException", "java/lang/IllegalStateException"][j]? = some E ∧ PX E g' σ' ∧ v = some (.int (nI (j + 1)))) := by
  refine z_ofW (by decide) (z_cr (z_ci (z_cr z_c0))) (Nat.le_of_ble_eq_true rfl) ?_
  intro p e s m args below meth c X Y htab
  refine z_aload_n X dL_draft_0 rfl ?_
  refine z_iconst (v := 0) X (by decide) dL_draft_1 ?_
  refine z_aload_n X dL_draft_2 rfl ?_
  refine z_iload_n X dL_draft_3 rfl ?_
  refine z_runVX X Y htab nL_55 kL_55 h (zso_1 hS) rfl rfl (Nat.le_of_ble_eq_true rfl) ⟨by decide, by decide⟩ ⟨by decide, by decide⟩ dL_draft_4 (fun E g1 s1 hp => ?_) ?_
  · have hm := hE E g1 s1 hp
    simp only [List.mem_cons, List.not_mem_nil, or_false] at hm
    rcases hm with rfl | rfl
    · refine ⟨12, ctL_draft_0, fun q => ?_⟩
      refine z_astore_n X dL_draft_12 (by decide) ?_
      refine z_iconst (v := nI 1) X (by decide) dL_draft_13 ?_
      refine z_iret X (by decide) (by decide) rfl dL_draft_14 ?_
      exact Or.inr ⟨0, _, rfl, hp, rfl⟩
    · refine ⟨15, ctL_draft_1, fun q => ?_⟩
      refine z_astore_n X dL_draft_15 (by decide) ?_
      refine z_iconst (v := nI 2) X (by decide) dL_draft_16 ?_
      refine z_iret X (by decide) (by decide) rfl dL_draft_17 ?_
      exact Or.inr ⟨1, _, rfl, hp, rfl⟩
  · intro v g1 s1 hp
    obtain ⟨ha, hadr, r, rfl⟩ := hO v g1 s1 hp
    rw [← hadr]
    refine z_i2l X dL_draft_7 ?_
    refine z_last (v := r) X ha (by exact z_vin (by decide) (by decide)) dL_draft_8 ?_
    refine z_goto (tgt := 18) X dL_draft_9 (by decide) ?_
    refine z_iconst (v := 0) X (by decide) dL_draft_18 ?_
    refine z_iret X (by decide) (by decide) rfl dL_draft_19 ?_
    exact Or.inl ⟨r, s1, hp, rfl, rfl⟩
set_option maxHeartbeats 4000000 in
set_option maxRecDepth 100000 in
theorem tL_words {l : Launch} {D : va_G} {cy : Nat → ClassId} {z0 : Nat} {g : zSh} {σ : zIn} {Post : Option Value → zSh → zIn → Prop} {PX : String → zSh → zIn → Prop} (x1 x2 : Int32) (hS : zS g) (h : z_Cx l D cy z0 NX8_words [.ref (g.2.1 1), .int x1, .int x2] g σ Post PX) (hO : ∀ v g' σ', Post v g' σ' → z_ar g' 59 2 1 ∧ g'.2.1 59 = g.2.1 59 ∧ ∃ r, v = some (.int r)) (hE : ∀ E g' σ', PX E g' σ' → E ∈ ["java/lang/IndexOutOfBoundsException"]) : z_Cw l D cy z0 NL_words hL_words [.ref (g.2.1 1), .int x1, .int x2, .ref (g.2.1 59)] g σ (fun v g' σ' => (∃ r σ1, Post (some (.int r)) g' σ1 ∧ σ' = z_up σ1 59 0 r ∧ v = some (.int 0)) ∨ ∃ (j : Nat) (E : String), ["java/lang/IndexOutOfBoundsException"][j]? = some E ∧ PX E g' σ' ∧ v = some (.int (nI (j + 1)))) := by
  refine z_ofW (by decide) (z_cr (z_ci (z_ci (z_cr z_c0)))) (Nat.le_of_ble_eq_true rfl) ?_
  intro p e s m args below meth c X Y htab
  refine z_aload_n X dL_words_0 rfl ?_
  refine z_iconst (v := 0) X (by decide) dL_words_1 ?_
  refine z_aload_n X dL_words_2 rfl ?_
  refine z_iload_n X dL_words_3 rfl ?_
  refine z_iload_n X dL_words_4 rfl ?_
  refine z_runVX X Y htab nL_58 kL_58 h (zso_1 hS) rfl rfl (Nat.le_of_ble_eq_true rfl) ⟨by decide, by decide⟩ ⟨by decide, by decide⟩ dL_words_5 (fun E g1 s1 hp => ?_) ?_
  · have hm := hE E g1 s1 hp
    simp only [List.mem_cons, List.not_mem_nil, or_false] at hm
    subst hm
    · refine ⟨13, ctL_words_0, fun q => ?_⟩
      refine z_astore X dL_words_13 (by decide) ?_
      refine z_iconst (v := nI 1) X (by decide) dL_words_15 ?_
      refine z_iret X (by decide) (by decide) rfl dL_words_16 ?_
      exact Or.inr ⟨0, _, rfl, hp, rfl⟩
  · intro v g1 s1 hp
    obtain ⟨ha, hadr, r, rfl⟩ := hO v g1 s1 hp
    rw [← hadr]
    refine z_i2l X dL_words_8 ?_
    refine z_last (v := r) X ha (by exact z_vin (by decide) (by decide)) dL_words_9 ?_
    refine z_goto (tgt := 17) X dL_words_10 (by decide) ?_
    refine z_iconst (v := 0) X (by decide) dL_words_17 ?_
    refine z_iret X (by decide) (by decide) rfl dL_words_18 ?_
    exact Or.inl ⟨r, s1, hp, rfl, rfl⟩
set_option maxHeartbeats 4000000 in
set_option maxRecDepth 100000 in
theorem tL_send {l : Launch} {D : va_G} {cy : Nat → ClassId} {z0 : Nat} {g : zSh} {σ : zIn} {Post : Option Value → zSh → zIn → Prop} {PX : String → zSh → zIn → Prop} (x1 x2 x3 x4 : Int32) (hS : zS g) (h : z_Cx l D cy z0 NX8_send [.ref (g.2.1 1), .int x1, .int x2, .int x3, .int x4] g σ Post PX) (hO : ∀ v g' σ', Post v g' σ' → z_ar g' 59 2 1 ∧ g'.2.1 59 = g.2.1 59 ∧ ∃ r, v = some (.int r)) (hE : ∀ E g' σ', PX E g' σ' → E ∈ ["java/lang/IndexOutOfBoundsException", "java/lang/IllegalArgumentException", "java/lang/IllegalStateException"]) : z_Cw l D cy z0 NL_send hL_send [.ref (g.2.1 1), .int x1, .int x2, .int x3, .int x4, .ref (g.2.1 59)] g σ (fun v g' σ' => (∃ r σ1, Post (some (.int r)) g' σ1 ∧ σ' = z_up σ1 59 0 r ∧ v = some (.int 0)) ∨ ∃ (j : Nat) (E : String), ["java/lang/IndexOutOfBoundsException", "java/lang/IllegalArgumentException", "java/lang/IllegalStateException"][j]? = some E ∧ PX E g' σ' ∧ v = some (.int (nI (j + 1)))) := by
  refine z_ofW (by decide) (z_cr (z_ci (z_ci (z_ci (z_ci (z_cr z_c0)))))) (Nat.le_of_ble_eq_true rfl) ?_
  intro p e s m args below meth c X Y htab
  refine z_aload X dL_send_0 rfl ?_
  refine z_iconst (v := 0) X (by decide) dL_send_2 ?_
  refine z_aload_n X dL_send_3 rfl ?_
  refine z_iload_n X dL_send_4 rfl ?_
  refine z_iload_n X dL_send_5 rfl ?_
  refine z_iload_n X dL_send_6 rfl ?_
  refine z_iload X dL_send_7 rfl ?_
  refine z_runVX X Y htab nL_61 kL_61 h (zso_1 hS) rfl rfl (Nat.le_of_ble_eq_true rfl) ⟨by decide, by decide⟩ ⟨by decide, by decide⟩ dL_send_9 (fun E g1 s1 hp => ?_) ?_
  · have hm := hE E g1 s1 hp
    simp only [List.mem_cons, List.not_mem_nil, or_false] at hm
    rcases hm with rfl | rfl | rfl
    · refine ⟨17, ctL_send_0, fun q => ?_⟩
      refine z_astore X dL_send_17 (by decide) ?_
      refine z_iconst (v := nI 1) X (by decide) dL_send_19 ?_
      refine z_iret X (by decide) (by decide) rfl dL_send_20 ?_
      exact Or.inr ⟨0, _, rfl, hp, rfl⟩
    · refine ⟨21, ctL_send_1, fun q => ?_⟩
      refine z_astore X dL_send_21 (by decide) ?_
      refine z_iconst (v := nI 2) X (by decide) dL_send_23 ?_
      refine z_iret X (by decide) (by decide) rfl dL_send_24 ?_
      exact Or.inr ⟨1, _, rfl, hp, rfl⟩
    · refine ⟨25, ctL_send_2, fun q => ?_⟩
      refine z_astore X dL_send_25 (by decide) ?_
      refine z_iconst (v := nI 3) X (by decide) dL_send_27 ?_
      refine z_iret X (by decide) (by decide) rfl dL_send_28 ?_
      exact Or.inr ⟨2, _, rfl, hp, rfl⟩
  · intro v g1 s1 hp
    obtain ⟨ha, hadr, r, rfl⟩ := hO v g1 s1 hp
    rw [← hadr]
    refine z_i2l X dL_send_12 ?_
    refine z_last (v := r) X ha (by exact z_vin (by decide) (by decide)) dL_send_13 ?_
    refine z_goto (tgt := 29) X dL_send_14 (by decide) ?_
    refine z_iconst (v := 0) X (by decide) dL_send_29 ?_
    refine z_iret X (by decide) (by decide) rfl dL_send_30 ?_
    exact Or.inl ⟨r, s1, hp, rfl, rfl⟩
set_option maxHeartbeats 4000000 in
set_option maxRecDepth 100000 in
theorem tL_wrong {l : Launch} {D : va_G} {cy : Nat → ClassId} {z0 : Nat} {g : zSh} {σ : zIn} {Post : Option Value → zSh → zIn → Prop} {PX : String → zSh → zIn → Prop} (x1 x2 x3 x4 : Int32) (hS : zS g) (h : z_Cx l D cy z0 NX8_wrong [.ref (g.2.1 1), .int x1, .int x2, .int x3, .int x4] g σ Post PX) (hO : ∀ v g' σ', Post v g' σ' → z_ar g' 59 2 1 ∧ g'.2.1 59 = g.2.1 59 ∧ ∃ r, v = some (.int r)) (hE : ∀ E g' σ', PX E g' σ' → E ∈ ["java/lang/IndexOutOfBoundsException", "java/lang/IllegalArgumentException", "java/lang/IllegalStateException"]) : z_Cw l D cy z0 NL_wrong hL_wrong [.ref (g.2.1 1), .int x1, .int x2, .int x3, .int x4, .ref (g.2.1 59)] g σ (fun v g' σ' => (∃ r σ1, Post (some (.int r)) g' σ1 ∧ σ' = z_up σ1 59 0 r ∧ v = some (.int 0)) ∨ ∃ (j : Nat) (E : String), ["java/lang/IndexOutOfBoundsException", "java/lang/IllegalArgumentException", "java/lang/IllegalStateException"][j]? = some E ∧ PX E g' σ' ∧ v = some (.int (nI (j + 1)))) := by
  refine z_ofW (by decide) (z_cr (z_ci (z_ci (z_ci (z_ci (z_cr z_c0)))))) (Nat.le_of_ble_eq_true rfl) ?_
  intro p e s m args below meth c X Y htab
  refine z_aload X dL_wrong_0 rfl ?_
  refine z_iconst (v := 0) X (by decide) dL_wrong_2 ?_
  refine z_aload_n X dL_wrong_3 rfl ?_
  refine z_iload_n X dL_wrong_4 rfl ?_
  refine z_iload_n X dL_wrong_5 rfl ?_
  refine z_iload_n X dL_wrong_6 rfl ?_
  refine z_iload X dL_wrong_7 rfl ?_
  refine z_runVX X Y htab nL_65 kL_65 h (zso_1 hS) rfl rfl (Nat.le_of_ble_eq_true rfl) ⟨by decide, by decide⟩ ⟨by decide, by decide⟩ dL_wrong_9 (fun E g1 s1 hp => ?_) ?_
  · have hm := hE E g1 s1 hp
    simp only [List.mem_cons, List.not_mem_nil, or_false] at hm
    rcases hm with rfl | rfl | rfl
    · refine ⟨17, ctL_wrong_0, fun q => ?_⟩
      refine z_astore X dL_wrong_17 (by decide) ?_
      refine z_iconst (v := nI 1) X (by decide) dL_wrong_19 ?_
      refine z_iret X (by decide) (by decide) rfl dL_wrong_20 ?_
      exact Or.inr ⟨0, _, rfl, hp, rfl⟩
    · refine ⟨21, ctL_wrong_1, fun q => ?_⟩
      refine z_astore X dL_wrong_21 (by decide) ?_
      refine z_iconst (v := nI 2) X (by decide) dL_wrong_23 ?_
      refine z_iret X (by decide) (by decide) rfl dL_wrong_24 ?_
      exact Or.inr ⟨1, _, rfl, hp, rfl⟩
    · refine ⟨25, ctL_wrong_2, fun q => ?_⟩
      refine z_astore X dL_wrong_25 (by decide) ?_
      refine z_iconst (v := nI 3) X (by decide) dL_wrong_27 ?_
      refine z_iret X (by decide) (by decide) rfl dL_wrong_28 ?_
      exact Or.inr ⟨2, _, rfl, hp, rfl⟩
  · intro v g1 s1 hp
    obtain ⟨ha, hadr, r, rfl⟩ := hO v g1 s1 hp
    rw [← hadr]
    refine z_i2l X dL_wrong_12 ?_
    refine z_last (v := r) X ha (by exact z_vin (by decide) (by decide)) dL_wrong_13 ?_
    refine z_goto (tgt := 29) X dL_wrong_14 (by decide) ?_
    refine z_iconst (v := 0) X (by decide) dL_wrong_29 ?_
    refine z_iret X (by decide) (by decide) rfl dL_wrong_30 ?_
    exact Or.inl ⟨r, s1, hp, rfl, rfl⟩
set_option maxHeartbeats 4000000 in
set_option maxRecDepth 100000 in
theorem tL_pass {l : Launch} {D : va_G} {cy : Nat → ClassId} {z0 : Nat} {g : zSh} {σ : zIn} {Post : Option Value → zSh → zIn → Prop} {PX : String → zSh → zIn → Prop} (x1 : Int32) (hS : zS g) (h : z_Cx l D cy z0 NX8_pass [.ref (g.2.1 1), .int x1] g σ Post PX) (hO : ∀ v g' σ', Post v g' σ' → z_ar g' 59 2 1 ∧ g'.2.1 59 = g.2.1 59 ∧ ∃ r, v = some (.int r)) (hE : ∀ E g' σ', PX E g' σ' → E ∈ ["java/lang/IllegalArgumentException", "java/lang/IllegalStateException"]) : z_Cw l D cy z0 NL_pass hL_pass [.ref (g.2.1 1), .int x1, .ref (g.2.1 59)] g σ (fun v g' σ' => (∃ r σ1, Post (some (.int r)) g' σ1 ∧ σ' = z_up σ1 59 0 r ∧ v = some (.int 0)) ∨ ∃ (j : Nat) (E : String), ["java/lang/IllegalArgumentException", "java/lang/IllegalStateException"][j]? = some E ∧ PX E g' σ' ∧ v = some (.int (nI (j + 1)))) := by
  refine z_ofW (by decide) (z_cr (z_ci (z_cr z_c0))) (Nat.le_of_ble_eq_true rfl) ?_
  intro p e s m args below meth c X Y htab
  refine z_aload_n X dL_pass_0 rfl ?_
  refine z_iconst (v := 0) X (by decide) dL_pass_1 ?_
  refine z_aload_n X dL_pass_2 rfl ?_
  refine z_iload_n X dL_pass_3 rfl ?_
  refine z_runVX X Y htab nL_68 kL_68 h (zso_1 hS) rfl rfl (Nat.le_of_ble_eq_true rfl) ⟨by decide, by decide⟩ ⟨by decide, by decide⟩ dL_pass_4 (fun E g1 s1 hp => ?_) ?_
  · have hm := hE E g1 s1 hp
    simp only [List.mem_cons, List.not_mem_nil, or_false] at hm
    rcases hm with rfl | rfl
    · refine ⟨12, ctL_pass_0, fun q => ?_⟩
      refine z_astore_n X dL_pass_12 (by decide) ?_
      refine z_iconst (v := nI 1) X (by decide) dL_pass_13 ?_
      refine z_iret X (by decide) (by decide) rfl dL_pass_14 ?_
      exact Or.inr ⟨0, _, rfl, hp, rfl⟩
    · refine ⟨15, ctL_pass_1, fun q => ?_⟩
      refine z_astore_n X dL_pass_15 (by decide) ?_
      refine z_iconst (v := nI 2) X (by decide) dL_pass_16 ?_
      refine z_iret X (by decide) (by decide) rfl dL_pass_17 ?_
      exact Or.inr ⟨1, _, rfl, hp, rfl⟩
  · intro v g1 s1 hp
    obtain ⟨ha, hadr, r, rfl⟩ := hO v g1 s1 hp
    rw [← hadr]
    refine z_i2l X dL_pass_7 ?_
    refine z_last (v := r) X ha (by exact z_vin (by decide) (by decide)) dL_pass_8 ?_
    refine z_goto (tgt := 18) X dL_pass_9 (by decide) ?_
    refine z_iconst (v := 0) X (by decide) dL_pass_18 ?_
    refine z_iret X (by decide) (by decide) rfl dL_pass_19 ?_
    exact Or.inl ⟨r, s1, hp, rfl, rfl⟩
set_option maxHeartbeats 4000000 in
set_option maxRecDepth 100000 in
theorem tL_rest {l : Launch} {D : va_G} {cy : Nat → ClassId} {z0 : Nat} {g : zSh} {σ : zIn} {Post : Option Value → zSh → zIn → Prop} {PX : String → zSh → zIn → Prop} (x1 : Int32) (hS : zS g) (h : z_Cx l D cy z0 NX8_rest [.ref (g.2.1 1), .int x1] g σ Post PX) (hO : ∀ v g' σ', Post v g' σ' → z_ar g' 59 2 1 ∧ g'.2.1 59 = g.2.1 59 ∧ ∃ r, v = some (.int r)) (hE : ∀ E g' σ', PX E g' σ' → E ∈ ["java/lang/IllegalArgumentException", "java/lang/IllegalStateException"]) : z_Cw l D cy z0 NL_rest hL_rest [.ref (g.2.1 1), .int x1, .ref (g.2.1 59)] g σ (fun v g' σ' => (∃ r σ1, Post (some (.int r)) g' σ1 ∧ σ' = z_up σ1 59 0 r ∧ v = some (.int 0)) ∨ ∃ (j : Nat) (E : String), ["java/lang/IllegalArgumentException", "java/lang/IllegalStateException"][j]? = some E ∧ PX E g' σ' ∧ v = some (.int (nI (j + 1)))) := by
  refine z_ofW (by decide) (z_cr (z_ci (z_cr z_c0))) (Nat.le_of_ble_eq_true rfl) ?_
  intro p e s m args below meth c X Y htab
  refine z_aload_n X dL_rest_0 rfl ?_
  refine z_iconst (v := 0) X (by decide) dL_rest_1 ?_
  refine z_aload_n X dL_rest_2 rfl ?_
  refine z_iload_n X dL_rest_3 rfl ?_
  refine z_runVX X Y htab nL_71 kL_71 h (zso_1 hS) rfl rfl (Nat.le_of_ble_eq_true rfl) ⟨by decide, by decide⟩ ⟨by decide, by decide⟩ dL_rest_4 (fun E g1 s1 hp => ?_) ?_
  · have hm := hE E g1 s1 hp
    simp only [List.mem_cons, List.not_mem_nil, or_false] at hm
    rcases hm with rfl | rfl
    · refine ⟨12, ctL_rest_0, fun q => ?_⟩
      refine z_astore_n X dL_rest_12 (by decide) ?_
      refine z_iconst (v := nI 1) X (by decide) dL_rest_13 ?_
      refine z_iret X (by decide) (by decide) rfl dL_rest_14 ?_
      exact Or.inr ⟨0, _, rfl, hp, rfl⟩
    · refine ⟨15, ctL_rest_1, fun q => ?_⟩
      refine z_astore_n X dL_rest_15 (by decide) ?_
      refine z_iconst (v := nI 2) X (by decide) dL_rest_16 ?_
      refine z_iret X (by decide) (by decide) rfl dL_rest_17 ?_
      exact Or.inr ⟨1, _, rfl, hp, rfl⟩
  · intro v g1 s1 hp
    obtain ⟨ha, hadr, r, rfl⟩ := hO v g1 s1 hp
    rw [← hadr]
    refine z_i2l X dL_rest_7 ?_
    refine z_last (v := r) X ha (by exact z_vin (by decide) (by decide)) dL_rest_8 ?_
    refine z_goto (tgt := 18) X dL_rest_9 (by decide) ?_
    refine z_iconst (v := 0) X (by decide) dL_rest_18 ?_
    refine z_iret X (by decide) (by decide) rfl dL_rest_19 ?_
    exact Or.inl ⟨r, s1, hp, rfl, rfl⟩
set_option maxHeartbeats 4000000 in
set_option maxRecDepth 100000 in
theorem tL_ofMessage {l : Launch} {D : va_G} {cy : Nat → ClassId} {z0 : Nat} {g : zSh} {σ : zIn} {Post : Option Value → zSh → zIn → Prop} {PX : String → zSh → zIn → Prop} (x1 x2 : Int32) (hS : zS g) (h : z_Cx l D cy z0 NX8_ofMessage [.ref (g.2.1 1), .int x1, .int x2] g σ Post PX) (hO : ∀ v g' σ', Post v g' σ' → z_ar g' 59 2 1 ∧ g'.2.1 59 = g.2.1 59 ∧ ∃ r, v = some (.int r)) (hE : ∀ E g' σ', PX E g' σ' → E ∈ ["java/lang/IndexOutOfBoundsException", "java/lang/IllegalArgumentException"]) : z_Cw l D cy z0 NL_ofMessage hL_ofMessage [.ref (g.2.1 1), .int x1, .int x2, .ref (g.2.1 59)] g σ (fun v g' σ' => (∃ r σ1, Post (some (.int r)) g' σ1 ∧ σ' = z_up σ1 59 0 r ∧ v = some (.int 0)) ∨ ∃ (j : Nat) (E : String), ["java/lang/IndexOutOfBoundsException", "java/lang/IllegalArgumentException"][j]? = some E ∧ PX E g' σ' ∧ v = some (.int (nI (j + 1)))) := by
  refine z_ofW (by decide) (z_cr (z_ci (z_ci (z_cr z_c0)))) (Nat.le_of_ble_eq_true rfl) ?_
  intro p e s m args below meth c X Y htab
  refine z_aload_n X dL_ofMessage_0 rfl ?_
  refine z_iconst (v := 0) X (by decide) dL_ofMessage_1 ?_
  refine z_aload_n X dL_ofMessage_2 rfl ?_
  refine z_iload_n X dL_ofMessage_3 rfl ?_
  refine z_iload_n X dL_ofMessage_4 rfl ?_
  refine z_runVX X Y htab nL_74 kL_74 h (zso_1 hS) rfl rfl (Nat.le_of_ble_eq_true rfl) ⟨by decide, by decide⟩ ⟨by decide, by decide⟩ dL_ofMessage_5 (fun E g1 s1 hp => ?_) ?_
  · have hm := hE E g1 s1 hp
    simp only [List.mem_cons, List.not_mem_nil, or_false] at hm
    rcases hm with rfl | rfl
    · refine ⟨13, ctL_ofMessage_0, fun q => ?_⟩
      refine z_astore X dL_ofMessage_13 (by decide) ?_
      refine z_iconst (v := nI 1) X (by decide) dL_ofMessage_15 ?_
      refine z_iret X (by decide) (by decide) rfl dL_ofMessage_16 ?_
      exact Or.inr ⟨0, _, rfl, hp, rfl⟩
    · refine ⟨17, ctL_ofMessage_1, fun q => ?_⟩
      refine z_astore X dL_ofMessage_17 (by decide) ?_
      refine z_iconst (v := nI 2) X (by decide) dL_ofMessage_19 ?_
      refine z_iret X (by decide) (by decide) rfl dL_ofMessage_20 ?_
      exact Or.inr ⟨1, _, rfl, hp, rfl⟩
  · intro v g1 s1 hp
    obtain ⟨ha, hadr, r, rfl⟩ := hO v g1 s1 hp
    rw [← hadr]
    refine z_i2l X dL_ofMessage_8 ?_
    refine z_last (v := r) X ha (by exact z_vin (by decide) (by decide)) dL_ofMessage_9 ?_
    refine z_goto (tgt := 21) X dL_ofMessage_10 (by decide) ?_
    refine z_iconst (v := 0) X (by decide) dL_ofMessage_21 ?_
    refine z_iret X (by decide) (by decide) rfl dL_ofMessage_22 ?_
    exact Or.inl ⟨r, s1, hp, rfl, rfl⟩
set_option maxHeartbeats 4000000 in
set_option maxRecDepth 100000 in
theorem tL_word {l : Launch} {D : va_G} {cy : Nat → ClassId} {z0 : Nat} {g : zSh} {σ : zIn} {Post : Option Value → zSh → zIn → Prop} {PX : String → zSh → zIn → Prop} (x1 x2 x3 : Int32) (hS : zS g) (h : z_Cx l D cy z0 NX8_word [.ref (g.2.1 1), .int x1, .int x2, .int x3] g σ Post PX) (hO : ∀ v g' σ', Post v g' σ' → z_ar g' 59 2 1 ∧ g'.2.1 59 = g.2.1 59 ∧ ∃ r, v = some (.int r)) (hE : ∀ E g' σ', PX E g' σ' → E ∈ ["java/lang/IndexOutOfBoundsException"]) : z_Cw l D cy z0 NL_word hL_word [.ref (g.2.1 1), .int x1, .int x2, .int x3, .ref (g.2.1 59)] g σ (fun v g' σ' => (∃ r σ1, Post (some (.int r)) g' σ1 ∧ σ' = z_up σ1 59 0 r ∧ v = some (.int 0)) ∨ ∃ (j : Nat) (E : String), ["java/lang/IndexOutOfBoundsException"][j]? = some E ∧ PX E g' σ' ∧ v = some (.int (nI (j + 1)))) := by
  refine z_ofW (by decide) (z_cr (z_ci (z_ci (z_ci (z_cr z_c0))))) (Nat.le_of_ble_eq_true rfl) ?_
  intro p e s m args below meth c X Y htab
  refine z_aload X dL_word_0 rfl ?_
  refine z_iconst (v := 0) X (by decide) dL_word_2 ?_
  refine z_aload_n X dL_word_3 rfl ?_
  refine z_iload_n X dL_word_4 rfl ?_
  refine z_iload_n X dL_word_5 rfl ?_
  refine z_iload_n X dL_word_6 rfl ?_
  refine z_runVX X Y htab nL_77 kL_77 h (zso_1 hS) rfl rfl (Nat.le_of_ble_eq_true rfl) ⟨by decide, by decide⟩ ⟨by decide, by decide⟩ dL_word_7 (fun E g1 s1 hp => ?_) ?_
  · have hm := hE E g1 s1 hp
    simp only [List.mem_cons, List.not_mem_nil, or_false] at hm
    subst hm
    · refine ⟨15, ctL_word_0, fun q => ?_⟩
      refine z_astore X dL_word_15 (by decide) ?_
      refine z_iconst (v := nI 1) X (by decide) dL_word_17 ?_
      refine z_iret X (by decide) (by decide) rfl dL_word_18 ?_
      exact Or.inr ⟨0, _, rfl, hp, rfl⟩
  · intro v g1 s1 hp
    obtain ⟨ha, hadr, r, rfl⟩ := hO v g1 s1 hp
    rw [← hadr]
    refine z_i2l X dL_word_10 ?_
    refine z_last (v := r) X ha (by exact z_vin (by decide) (by decide)) dL_word_11 ?_
    refine z_goto (tgt := 19) X dL_word_12 (by decide) ?_
    refine z_iconst (v := 0) X (by decide) dL_word_19 ?_
    refine z_iret X (by decide) (by decide) rfl dL_word_20 ?_
    exact Or.inl ⟨r, s1, hp, rfl, rfl⟩
set_option maxHeartbeats 4000000 in
set_option maxRecDepth 100000 in
theorem tL_read {l : Launch} {D : va_G} {cy : Nat → ClassId} {z0 : Nat} {g : zSh} {σ : zIn} {Post : Option Value → zSh → zIn → Prop} {PX : String → zSh → zIn → Prop} (x1 x2 : Int32) (hS : zS g) (h : z_Cx l D cy z0 NX8_read [.ref (g.2.1 1), .int x1, .int x2] g σ Post PX) (hO : ∀ v g' σ', Post v g' σ' → z_ar g' 59 2 1 ∧ g'.2.1 59 = g.2.1 59 ∧ ∃ r, v = some (.int r)) (hE : ∀ E g' σ', PX E g' σ' → E ∈ ["java/lang/IndexOutOfBoundsException"]) : z_Cw l D cy z0 NL_read hL_read [.ref (g.2.1 1), .int x1, .int x2, .ref (g.2.1 59)] g σ (fun v g' σ' => (∃ r σ1, Post (some (.int r)) g' σ1 ∧ σ' = z_up σ1 59 0 r ∧ v = some (.int 0)) ∨ ∃ (j : Nat) (E : String), ["java/lang/IndexOutOfBoundsException"][j]? = some E ∧ PX E g' σ' ∧ v = some (.int (nI (j + 1)))) := by
  refine z_ofW (by decide) (z_cr (z_ci (z_ci (z_cr z_c0)))) (Nat.le_of_ble_eq_true rfl) ?_
  intro p e s m args below meth c X Y htab
  refine z_aload_n X dL_read_0 rfl ?_
  refine z_iconst (v := 0) X (by decide) dL_read_1 ?_
  refine z_aload_n X dL_read_2 rfl ?_
  refine z_iload_n X dL_read_3 rfl ?_
  refine z_iload_n X dL_read_4 rfl ?_
  refine z_runVX X Y htab nL_81 kL_81 h (zso_1 hS) rfl rfl (Nat.le_of_ble_eq_true rfl) ⟨by decide, by decide⟩ ⟨by decide, by decide⟩ dL_read_5 (fun E g1 s1 hp => ?_) ?_
  · have hm := hE E g1 s1 hp
    simp only [List.mem_cons, List.not_mem_nil, or_false] at hm
    subst hm
    · refine ⟨13, ctL_read_0, fun q => ?_⟩
      refine z_astore X dL_read_13 (by decide) ?_
      refine z_iconst (v := nI 1) X (by decide) dL_read_15 ?_
      refine z_iret X (by decide) (by decide) rfl dL_read_16 ?_
      exact Or.inr ⟨0, _, rfl, hp, rfl⟩
  · intro v g1 s1 hp
    obtain ⟨ha, hadr, r, rfl⟩ := hO v g1 s1 hp
    rw [← hadr]
    refine z_i2l X dL_read_8 ?_
    refine z_last (v := r) X ha (by exact z_vin (by decide) (by decide)) dL_read_9 ?_
    refine z_goto (tgt := 17) X dL_read_10 (by decide) ?_
    refine z_iconst (v := 0) X (by decide) dL_read_17 ?_
    refine z_iret X (by decide) (by decide) rfl dL_read_18 ?_
    exact Or.inl ⟨r, s1, hp, rfl, rfl⟩
set_option maxHeartbeats 4000000 in
set_option maxRecDepth 100000 in
theorem tL_claim {l : Launch} {D : va_G} {cy : Nat → ClassId} {z0 : Nat} {g : zSh} {σ : zIn} {Post : Option Value → zSh → zIn → Prop} {PX : String → zSh → zIn → Prop} (x1 : Int32) (hS : zS g) (h : z_Cx l D cy z0 NX8_claim [.ref (g.2.1 1), .int x1] g σ Post PX) (hO : ∀ v g' σ', Post v g' σ' → z_ar g' 59 2 1 ∧ g'.2.1 59 = g.2.1 59 ∧ ∃ r, v = some (.int r)) (hE : ∀ E g' σ', PX E g' σ' → E ∈ ["java/lang/IndexOutOfBoundsException"]) : z_Cw l D cy z0 NL_claim hL_claim [.ref (g.2.1 1), .int x1, .ref (g.2.1 59)] g σ (fun v g' σ' => (∃ r σ1, Post (some (.int r)) g' σ1 ∧ σ' = z_up σ1 59 0 r ∧ v = some (.int 0)) ∨ ∃ (j : Nat) (E : String), ["java/lang/IndexOutOfBoundsException"][j]? = some E ∧ PX E g' σ' ∧ v = some (.int (nI (j + 1)))) := by
  refine z_ofW (by decide) (z_cr (z_ci (z_cr z_c0))) (Nat.le_of_ble_eq_true rfl) ?_
  intro p e s m args below meth c X Y htab
  refine z_aload_n X dL_claim_0 rfl ?_
  refine z_iconst (v := 0) X (by decide) dL_claim_1 ?_
  refine z_aload_n X dL_claim_2 rfl ?_
  refine z_iload_n X dL_claim_3 rfl ?_
  refine z_runVX X Y htab nL_84 kL_84 h (zso_1 hS) rfl rfl (Nat.le_of_ble_eq_true rfl) ⟨by decide, by decide⟩ ⟨by decide, by decide⟩ dL_claim_4 (fun E g1 s1 hp => ?_) ?_
  · have hm := hE E g1 s1 hp
    simp only [List.mem_cons, List.not_mem_nil, or_false] at hm
    subst hm
    · refine ⟨12, ctL_claim_0, fun q => ?_⟩
      refine z_astore_n X dL_claim_12 (by decide) ?_
      refine z_iconst (v := nI 1) X (by decide) dL_claim_13 ?_
      refine z_iret X (by decide) (by decide) rfl dL_claim_14 ?_
      exact Or.inr ⟨0, _, rfl, hp, rfl⟩
  · intro v g1 s1 hp
    obtain ⟨ha, hadr, r, rfl⟩ := hO v g1 s1 hp
    rw [← hadr]
    refine z_i2l X dL_claim_7 ?_
    refine z_last (v := r) X ha (by exact z_vin (by decide) (by decide)) dL_claim_8 ?_
    refine z_goto (tgt := 15) X dL_claim_9 (by decide) ?_
    refine z_iconst (v := 0) X (by decide) dL_claim_15 ?_
    refine z_iret X (by decide) (by decide) rfl dL_claim_16 ?_
    exact Or.inl ⟨r, s1, hp, rfl, rfl⟩
set_option maxHeartbeats 4000000 in
set_option maxRecDepth 100000 in
theorem tL_account {l : Launch} {D : va_G} {cy : Nat → ClassId} {z0 : Nat} {g : zSh} {σ : zIn} {Post : Option Value → zSh → zIn → Prop} {PX : String → zSh → zIn → Prop} (x1 : Int32) (hS : zS g) (h : z_Cx l D cy z0 NX8_account [.ref (g.2.1 1), .int x1] g σ Post PX) (hO : ∀ v g' σ', Post v g' σ' → z_ar g' 59 2 1 ∧ g'.2.1 59 = g.2.1 59 ∧ ∃ r, v = some (.int r)) (hE : ∀ E g' σ', PX E g' σ' → E ∈ ["java/lang/IndexOutOfBoundsException"]) : z_Cw l D cy z0 NL_account hL_account [.ref (g.2.1 1), .int x1, .ref (g.2.1 59)] g σ (fun v g' σ' => (∃ r σ1, Post (some (.int r)) g' σ1 ∧ σ' = z_up σ1 59 0 r ∧ v = some (.int 0)) ∨ ∃ (j : Nat) (E : String), ["java/lang/IndexOutOfBoundsException"][j]? = some E ∧ PX E g' σ' ∧ v = some (.int (nI (j + 1)))) := by
  refine z_ofW (by decide) (z_cr (z_ci (z_cr z_c0))) (Nat.le_of_ble_eq_true rfl) ?_
  intro p e s m args below meth c X Y htab
  refine z_aload_n X dL_account_0 rfl ?_
  refine z_iconst (v := 0) X (by decide) dL_account_1 ?_
  refine z_aload_n X dL_account_2 rfl ?_
  refine z_iload_n X dL_account_3 rfl ?_
  refine z_runVX X Y htab nL_87 kL_87 h (zso_1 hS) rfl rfl (Nat.le_of_ble_eq_true rfl) ⟨by decide, by decide⟩ ⟨by decide, by decide⟩ dL_account_4 (fun E g1 s1 hp => ?_) ?_
  · have hm := hE E g1 s1 hp
    simp only [List.mem_cons, List.not_mem_nil, or_false] at hm
    subst hm
    · refine ⟨12, ctL_account_0, fun q => ?_⟩
      refine z_astore_n X dL_account_12 (by decide) ?_
      refine z_iconst (v := nI 1) X (by decide) dL_account_13 ?_
      refine z_iret X (by decide) (by decide) rfl dL_account_14 ?_
      exact Or.inr ⟨0, _, rfl, hp, rfl⟩
  · intro v g1 s1 hp
    obtain ⟨ha, hadr, r, rfl⟩ := hO v g1 s1 hp
    rw [← hadr]
    refine z_i2l X dL_account_7 ?_
    refine z_last (v := r) X ha (by exact z_vin (by decide) (by decide)) dL_account_8 ?_
    refine z_goto (tgt := 15) X dL_account_9 (by decide) ?_
    refine z_iconst (v := 0) X (by decide) dL_account_15 ?_
    refine z_iret X (by decide) (by decide) rfl dL_account_16 ?_
    exact Or.inl ⟨r, s1, hp, rfl, rfl⟩
set_option maxHeartbeats 4000000 in
set_option maxRecDepth 100000 in
theorem tL_accountAnew {l : Launch} {D : va_G} {cy : Nat → ClassId} {z0 : Nat} {g : zSh} {σ : zIn} {Post : Option Value → zSh → zIn → Prop} {PX : String → zSh → zIn → Prop} (x1 : Int32) (hS : zS g) (h : z_Cx l D cy z0 NX8_accountAnew [.ref (g.2.1 1), .int x1] g σ Post PX) (hO : ∀ v g' σ', Post v g' σ' → z_ar g' 59 2 1 ∧ g'.2.1 59 = g.2.1 59 ∧ ∃ r, v = some (.int r)) (hE : ∀ E g' σ', PX E g' σ' → E ∈ ["java/lang/IndexOutOfBoundsException"]) : z_Cw l D cy z0 NL_accountAnew hL_accountAnew [.ref (g.2.1 1), .int x1, .ref (g.2.1 59)] g σ (fun v g' σ' => (∃ r σ1, Post (some (.int r)) g' σ1 ∧ σ' = z_up σ1 59 0 r ∧ v = some (.int 0)) ∨ ∃ (j : Nat) (E : String), ["java/lang/IndexOutOfBoundsException"][j]? = some E ∧ PX E g' σ' ∧ v = some (.int (nI (j + 1)))) := by
  refine z_ofW (by decide) (z_cr (z_ci (z_cr z_c0))) (Nat.le_of_ble_eq_true rfl) ?_
  intro p e s m args below meth c X Y htab
  refine z_aload_n X dL_accountAnew_0 rfl ?_
  refine z_iconst (v := 0) X (by decide) dL_accountAnew_1 ?_
  refine z_aload_n X dL_accountAnew_2 rfl ?_
  refine z_iload_n X dL_accountAnew_3 rfl ?_
  refine z_runVX X Y htab nL_90 kL_90 h (zso_1 hS) rfl rfl (Nat.le_of_ble_eq_true rfl) ⟨by decide, by decide⟩ ⟨by decide, by decide⟩ dL_accountAnew_4 (fun E g1 s1 hp => ?_) ?_
  · have hm := hE E g1 s1 hp
    simp only [List.mem_cons, List.not_mem_nil, or_false] at hm
    subst hm
    · refine ⟨12, ctL_accountAnew_0, fun q => ?_⟩
      refine z_astore_n X dL_accountAnew_12 (by decide) ?_
      refine z_iconst (v := nI 1) X (by decide) dL_accountAnew_13 ?_
      refine z_iret X (by decide) (by decide) rfl dL_accountAnew_14 ?_
      exact Or.inr ⟨0, _, rfl, hp, rfl⟩
  · intro v g1 s1 hp
    obtain ⟨ha, hadr, r, rfl⟩ := hO v g1 s1 hp
    rw [← hadr]
    refine z_i2l X dL_accountAnew_7 ?_
    refine z_last (v := r) X ha (by exact z_vin (by decide) (by decide)) dL_accountAnew_8 ?_
    refine z_goto (tgt := 15) X dL_accountAnew_9 (by decide) ?_
    refine z_iconst (v := 0) X (by decide) dL_accountAnew_15 ?_
    refine z_iret X (by decide) (by decide) rfl dL_accountAnew_16 ?_
    exact Or.inl ⟨r, s1, hp, rfl, rfl⟩
