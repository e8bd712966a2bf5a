/-! the law: facts of its calls; does, call, both -/
abbrev NL_cell : zM := (yL_cell, cL_cell, 3, (some .int), 0, 0, 0, 0)
abbrev NL_some : zM := (yL_some, cL_some, 2, (some .int), 0, 0, 0, 0)
abbrev NL_parts : zM := (yL_parts, cL_parts, 6, (some .int), 0, 0, 0, 0)
abbrev NL_does : zM := (yL_does, cL_does, 7, (some .int), 7, 5, 75, 172)
abbrev NL_call : zM := (yL_call, cL_call, 8, (some .int), 8, 5, 75, 198)
abbrev NL_both : zM := (yL_both, cL_both, 9, (some .int), 9, 10, 150, 225)
abbrev NL_all : zM := (yL_all, cL_all, 6, (some .long), 7, 0, 0, 170)
abbrev NL_sound : zM := (yL_sound, cL_sound, 6, (some .boolean), 7, 0, 0, 170)
abbrev NL_refused : zM := (yL_refused, cL_refused, 5, (some .boolean), 9, 150, 2250, 225)
abbrev NL_books : zM := (yL_books, cL_books, 11, (some .boolean), 10, 10, 150, 253)
abbrev NL_offices : zM := (yL_offices, cL_offices, 10, (some .boolean), 10, 20, 300, 253)
abbrev NL_sends : zM := (yL_sends, cL_sends, 19, (some .boolean), 10, 10, 150, 253)
abbrev NL_passes : zM := (yL_passes, cL_passes, 11, (some .boolean), 10, 11, 210, 253)
theorem kL_9 : z_cS RL 9 NL_does 7 := ⟨⟨Or.inl (z_gd 547 (by decide +kernel) (by decide +kernel)), z_gd 549 (by decide +kernel) (by decide +kernel), z_gd 28 (by decide +kernel) (by decide +kernel), ⟨by decide, by decide⟩, by decide +kernel⟩, z_gd 548 (by decide +kernel) (by decide +kernel)⟩
theorem mL_does : Cond.methodLink RL 9 NL_does.1 ∈ lw_good := z_gd 547 (by decide +kernel) (by decide +kernel)
theorem nL_24 : Cond.methodLink RL 24 NX8_idea.1 ∈ lw_good := z_gd 550 (by decide +kernel) (by decide +kernel)
theorem kL_24 : z_cV RL 24 NX8_idea 1 8 := ⟨⟨Or.inl nL_24, z_gd 553 (by decide +kernel) (by decide +kernel), z_gd 29 (by decide +kernel) (by decide +kernel), ⟨by decide, by decide⟩, by decide +kernel⟩, z_gd 551 (by decide +kernel) (by decide +kernel), z_gd 552 (by decide +kernel) (by decide +kernel), by decide, rfl⟩
theorem nL_30 : Cond.methodLink RL 30 NX8_entry.1 ∈ lw_good := z_gd 575 (by decide +kernel) (by decide +kernel)
theorem kL_30 : z_cV RL 30 NX8_entry 5 8 := ⟨⟨Or.inl nL_30, z_gd 578 (by decide +kernel) (by decide +kernel), z_gd 29 (by decide +kernel) (by decide +kernel), ⟨by decide, by decide⟩, by decide +kernel⟩, z_gd 576 (by decide +kernel) (by decide +kernel), z_gd 577 (by decide +kernel) (by decide +kernel), by decide, rfl⟩
theorem nL_34 : Cond.methodLink RL 34 NX8_candidates.1 ∈ lw_good := z_gd 602 (by decide +kernel) (by decide +kernel)
theorem kL_34 : z_cV RL 34 NX8_candidates 1 8 := ⟨⟨Or.inl nL_34, z_gd 605 (by decide +kernel) (by decide +kernel), z_gd 29 (by decide +kernel) (by decide +kernel), ⟨by decide, by decide⟩, by decide +kernel⟩, z_gd 603 (by decide +kernel) (by decide +kernel), z_gd 604 (by decide +kernel) (by decide +kernel), by decide, rfl⟩
theorem nL_37 : Cond.methodLink RL 37 NX8_candidate.1 ∈ lw_good := z_gd 607 (by decide +kernel) (by decide +kernel)
theorem kL_37 : z_cV RL 37 NX8_candidate 2 8 := ⟨⟨Or.inl nL_37, z_gd 610 (by decide +kernel) (by decide +kernel), z_gd 29 (by decide +kernel) (by decide +kernel), ⟨by decide, by decide⟩, by decide +kernel⟩, z_gd 608 (by decide +kernel) (by decide +kernel), z_gd 609 (by decide +kernel) (by decide +kernel), by decide, rfl⟩
theorem nL_41 : Cond.methodLink RL 41 NX8_office.1 ∈ lw_good := z_gd 613 (by decide +kernel) (by decide +kernel)
theorem kL_41 : z_cV RL 41 NX8_office 0 8 := ⟨⟨Or.inl nL_41, z_gd 616 (by decide +kernel) (by decide +kernel), z_gd 29 (by decide +kernel) (by decide +kernel), ⟨by decide, by decide⟩, by decide +kernel⟩, z_gd 614 (by decide +kernel) (by decide +kernel), z_gd 615 (by decide +kernel) (by decide +kernel), by decide, rfl⟩
theorem nL_45 : Cond.methodLink RL 45 NX8_cable.1 ∈ lw_good := z_gd 644 (by decide +kernel) (by decide +kernel)
theorem kL_45 : z_cV RL 45 NX8_cable 4 8 := ⟨⟨Or.inl nL_45, z_gd 647 (by decide +kernel) (by decide +kernel), z_gd 29 (by decide +kernel) (by decide +kernel), ⟨by decide, by decide⟩, by decide +kernel⟩, z_gd 645 (by decide +kernel) (by decide +kernel), z_gd 646 (by decide +kernel) (by decide +kernel), by decide, rfl⟩
theorem nL_49 : Cond.methodLink RL 49 NX8_broken.1 ∈ lw_good := z_gd 688 (by decide +kernel) (by decide +kernel)
theorem kL_49 : z_cV RL 49 NX8_broken 2 8 := ⟨⟨Or.inl nL_49, z_gd 691 (by decide +kernel) (by decide +kernel), z_gd 29 (by decide +kernel) (by decide +kernel), ⟨by decide, by decide⟩, by decide +kernel⟩, z_gd 689 (by decide +kernel) (by decide +kernel), z_gd 690 (by decide +kernel) (by decide +kernel), by decide, rfl⟩
theorem nL_53 : Cond.methodLink RL 53 NX8_forbid.1 ∈ lw_good := z_gd 701 (by decide +kernel) (by decide +kernel)
theorem kL_53 : z_cV RL 53 NX8_forbid 2 8 := ⟨⟨Or.inl nL_53, z_gd 704 (by decide +kernel) (by decide +kernel), z_gd 29 (by decide +kernel) (by decide +kernel), ⟨by decide, by decide⟩, by decide +kernel⟩, z_gd 702 (by decide +kernel) (by decide +kernel), z_gd 703 (by decide +kernel) (by decide +kernel), by decide, rfl⟩
theorem nL_57 : Cond.methodLink RL 57 NX8_key.1 ∈ lw_good := z_gd 705 (by decide +kernel) (by decide +kernel)
theorem kL_57 : z_cV RL 57 NX8_key 2 8 := ⟨⟨Or.inl nL_57, z_gd 708 (by decide +kernel) (by decide +kernel), z_gd 29 (by decide +kernel) (by decide +kernel), ⟨by decide, by decide⟩, by decide +kernel⟩, z_gd 706 (by decide +kernel) (by decide +kernel), z_gd 707 (by decide +kernel) (by decide +kernel), by decide, rfl⟩
theorem nL_60 : Cond.methodLink RL 60 NX8_conference.1 ∈ lw_good := z_gd 710 (by decide +kernel) (by decide +kernel)
theorem kL_60 : z_cV RL 60 NX8_conference 4 8 := ⟨⟨Or.inl nL_60, z_gd 713 (by decide +kernel) (by decide +kernel), z_gd 29 (by decide +kernel) (by decide +kernel), ⟨by decide, by decide⟩, by decide +kernel⟩, z_gd 711 (by decide +kernel) (by decide +kernel), z_gd 712 (by decide +kernel) (by decide +kernel), by decide, rfl⟩
theorem nL_63 : Cond.methodLink RL 63 NX8_reserve.1 ∈ lw_good := z_gd 716 (by decide +kernel) (by decide +kernel)
theorem kL_63 : z_cV RL 63 NX8_reserve 2 8 := ⟨⟨Or.inl nL_63, z_gd 719 (by decide +kernel) (by decide +kernel), z_gd 29 (by decide +kernel) (by decide +kernel), ⟨by decide, by decide⟩, by decide +kernel⟩, z_gd 717 (by decide +kernel) (by decide +kernel), z_gd 718 (by decide +kernel) (by decide +kernel), by decide, rfl⟩
theorem nL_66 : Cond.methodLink RL 66 NX8_draft.1 ∈ lw_good := z_gd 725 (by decide +kernel) (by decide +kernel)
theorem kL_66 : z_cV RL 66 NX8_draft 1 8 := ⟨⟨Or.inl nL_66, z_gd 728 (by decide +kernel) (by decide +kernel), z_gd 29 (by decide +kernel) (by decide +kernel), ⟨by decide, by decide⟩, by decide +kernel⟩, z_gd 726 (by decide +kernel) (by decide +kernel), z_gd 727 (by decide +kernel) (by decide +kernel), by decide, rfl⟩
theorem nL_69 : Cond.methodLink RL 69 NX8_words.1 ∈ lw_good := z_gd 439 (by decide +kernel) (by decide +kernel)
theorem kL_69 : z_cV RL 69 NX8_words 2 8 := ⟨⟨Or.inl nL_69, z_gd 442 (by decide +kernel) (by decide +kernel), z_gd 29 (by decide +kernel) (by decide +kernel), ⟨by decide, by decide⟩, by decide +kernel⟩, z_gd 440 (by decide +kernel) (by decide +kernel), z_gd 441 (by decide +kernel) (by decide +kernel), by decide, rfl⟩
theorem nL_72 : Cond.methodLink RL 72 NX8_send.1 ∈ lw_good := z_gd 734 (by decide +kernel) (by decide +kernel)
theorem kL_72 : z_cV RL 72 NX8_send 4 8 := ⟨⟨Or.inl nL_72, z_gd 737 (by decide +kernel) (by decide +kernel), z_gd 29 (by decide +kernel) (by decide +kernel), ⟨by decide, by decide⟩, by decide +kernel⟩, z_gd 735 (by decide +kernel) (by decide +kernel), z_gd 736 (by decide +kernel) (by decide +kernel), by decide, rfl⟩
theorem nL_76 : Cond.methodLink RL 76 NX8_wrong.1 ∈ lw_good := z_gd 881 (by decide +kernel) (by decide +kernel)
theorem kL_76 : z_cV RL 76 NX8_wrong 4 8 := ⟨⟨Or.inl nL_76, z_gd 884 (by decide +kernel) (by decide +kernel), z_gd 29 (by decide +kernel) (by decide +kernel), ⟨by decide, by decide⟩, by decide +kernel⟩, z_gd 882 (by decide +kernel) (by decide +kernel), z_gd 883 (by decide +kernel) (by decide +kernel), by decide, rfl⟩
theorem nL_79 : Cond.methodLink RL 79 NX8_pass.1 ∈ lw_good := z_gd 894 (by decide +kernel) (by decide +kernel)
theorem kL_79 : z_cV RL 79 NX8_pass 1 8 := ⟨⟨Or.inl nL_79, z_gd 897 (by decide +kernel) (by decide +kernel), z_gd 29 (by decide +kernel) (by decide +kernel), ⟨by decide, by decide⟩, by decide +kernel⟩, z_gd 895 (by decide +kernel) (by decide +kernel), z_gd 896 (by decide +kernel) (by decide +kernel), by decide, rfl⟩
theorem nL_82 : Cond.methodLink RL 82 NX8_rest.1 ∈ lw_good := z_gd 921 (by decide +kernel) (by decide +kernel)
theorem kL_82 : z_cV RL 82 NX8_rest 1 8 := ⟨⟨Or.inl nL_82, z_gd 924 (by decide +kernel) (by decide +kernel), z_gd 29 (by decide +kernel) (by decide +kernel), ⟨by decide, by decide⟩, by decide +kernel⟩, z_gd 922 (by decide +kernel) (by decide +kernel), z_gd 923 (by decide +kernel) (by decide +kernel), by decide, rfl⟩
theorem nL_85 : Cond.methodLink RL 85 NX8_ofMessage.1 ∈ lw_good := z_gd 237 (by decide +kernel) (by decide +kernel)
theorem kL_85 : z_cV RL 85 NX8_ofMessage 2 8 := ⟨⟨Or.inl nL_85, z_gd 240 (by decide +kernel) (by decide +kernel), z_gd 29 (by decide +kernel) (by decide +kernel), ⟨by decide, by decide⟩, by decide +kernel⟩, z_gd 238 (by decide +kernel) (by decide +kernel), z_gd 239 (by decide +kernel) (by decide +kernel), by decide, rfl⟩
theorem nL_88 : Cond.methodLink RL 88 NX8_word.1 ∈ lw_good := z_gd 337 (by decide +kernel) (by decide +kernel)
theorem kL_88 : z_cV RL 88 NX8_word 3 8 := ⟨⟨Or.inl nL_88, z_gd 340 (by decide +kernel) (by decide +kernel), z_gd 29 (by decide +kernel) (by decide +kernel), ⟨by decide, by decide⟩, by decide +kernel⟩, z_gd 338 (by decide +kernel) (by decide +kernel), z_gd 339 (by decide +kernel) (by decide +kernel), by decide, rfl⟩
theorem nL_92 : Cond.methodLink RL 92 NX8_read.1 ∈ lw_good := z_gd 370 (by decide +kernel) (by decide +kernel)
theorem kL_92 : z_cV RL 92 NX8_read 2 8 := ⟨⟨Or.inl nL_92, z_gd 373 (by decide +kernel) (by decide +kernel), z_gd 29 (by decide +kernel) (by decide +kernel), ⟨by decide, by decide⟩, by decide +kernel⟩, z_gd 371 (by decide +kernel) (by decide +kernel), z_gd 372 (by decide +kernel) (by decide +kernel), by decide, rfl⟩
theorem nL_95 : Cond.methodLink RL 95 NX8_claim.1 ∈ lw_good := z_gd 357 (by decide +kernel) (by decide +kernel)
theorem kL_95 : z_cV RL 95 NX8_claim 1 8 := ⟨⟨Or.inl nL_95, z_gd 360 (by decide +kernel) (by decide +kernel), z_gd 29 (by decide +kernel) (by decide +kernel), ⟨by decide, by decide⟩, by decide +kernel⟩, z_gd 358 (by decide +kernel) (by decide +kernel), z_gd 359 (by decide +kernel) (by decide +kernel), by decide, rfl⟩
theorem nL_98 : Cond.methodLink RL 98 NX8_account.1 ∈ lw_good := z_gd 434 (by decide +kernel) (by decide +kernel)
theorem kL_98 : z_cV RL 98 NX8_account 1 8 := ⟨⟨Or.inl nL_98, z_gd 437 (by decide +kernel) (by decide +kernel), z_gd 29 (by decide +kernel) (by decide +kernel), ⟨by decide, by decide⟩, by decide +kernel⟩, z_gd 435 (by decide +kernel) (by decide +kernel), z_gd 436 (by decide +kernel) (by decide +kernel), by decide, rfl⟩
theorem nL_101 : Cond.methodLink RL 101 NX8_accountAnew.1 ∈ lw_good := z_gd 926 (by decide +kernel) (by decide +kernel)
theorem kL_101 : z_cV RL 101 NX8_accountAnew 1 8 := ⟨⟨Or.inl nL_101, z_gd 929 (by decide +kernel) (by decide +kernel), z_gd 29 (by decide +kernel) (by decide +kernel), ⟨by decide, by decide⟩, by decide +kernel⟩, z_gd 927 (by decide +kernel) (by decide +kernel), z_gd 928 (by decide +kernel) (by decide +kernel), by decide, rfl⟩
abbrev hL_call : zHs := [(0, 13, 14, 15), (0, 13, 19, 18), (0, 13, 24, 21)]
theorem wL_112 : z_cW RL 112 NL_call hL_call 7 := ⟨z_gd 541 (by decide +kernel) (by decide +kernel), z_gd 543 (by decide +kernel) (by decide +kernel), z_gd 28 (by decide +kernel) (by decide +kernel), ⟨by decide, by decide⟩, by decide +kernel, z_gd 542 (by decide +kernel) (by decide +kernel)⟩
theorem kL_116 : z_cS RL 116 NL_some 2 := ⟨⟨Or.inl (z_gd 229 (by decide +kernel) (by decide +kernel)), z_gd 231 (by decide +kernel) (by decide +kernel), z_gd 28 (by decide +kernel) (by decide +kernel), ⟨by decide, by decide⟩, by decide +kernel⟩, z_gd 230 (by decide +kernel) (by decide +kernel)⟩
theorem mL_some : Cond.methodLink RL 116 NL_some.1 ∈ lw_good := z_gd 229 (by decide +kernel) (by decide +kernel)
theorem kL_120 : z_cS RL 120 NL_both 8 := ⟨⟨Or.inl (z_gd 538 (by decide +kernel) (by decide +kernel)), z_gd 540 (by decide +kernel) (by decide +kernel), z_gd 28 (by decide +kernel) (by decide +kernel), ⟨by decide, by decide⟩, by decide +kernel⟩, z_gd 539 (by decide +kernel) (by decide +kernel)⟩
theorem mL_both : Cond.methodLink RL 120 NL_both.1 ∈ lw_good := z_gd 538 (by decide +kernel) (by decide +kernel)
theorem kL_124 : z_cS RL 124 NL_parts 2 := ⟨⟨Or.inl (z_gd 942 (by decide +kernel) (by decide +kernel)), z_gd 944 (by decide +kernel) (by decide +kernel), z_gd 28 (by decide +kernel) (by decide +kernel), ⟨by decide, by decide⟩, by decide +kernel⟩, z_gd 943 (by decide +kernel) (by decide +kernel)⟩
theorem mL_parts : Cond.methodLink RL 124 NL_parts.1 ∈ lw_good := z_gd 942 (by decide +kernel) (by decide +kernel)
theorem kL_127 : z_cS RL 127 NL_all 2 := ⟨⟨Or.inl (z_gd 232 (by decide +kernel) (by decide +kernel)), z_gd 234 (by decide +kernel) (by decide +kernel), z_gd 28 (by decide +kernel) (by decide +kernel), ⟨by decide, by decide⟩, by decide +kernel⟩, z_gd 233 (by decide +kernel) (by decide +kernel)⟩
theorem mL_all : Cond.methodLink RL 127 NL_all.1 ∈ lw_good := z_gd 232 (by decide +kernel) (by decide +kernel)
theorem kL_131 : z_cI RL 131 MX8_init 0 := ⟨⟨Or.inl (z_gd 49 (by decide +kernel) (by decide +kernel)), z_gd 51 (by decide +kernel) (by decide +kernel), z_gd 29 (by decide +kernel) (by decide +kernel), ⟨by decide, by decide⟩, by decide +kernel⟩, rfl, z_gd 50 (by decide +kernel) (by decide +kernel), rfl⟩
theorem kL_132 : z_cS RL 132 NL_cell 2 := ⟨⟨Or.inl (z_gd 224 (by decide +kernel) (by decide +kernel)), z_gd 226 (by decide +kernel) (by decide +kernel), z_gd 28 (by decide +kernel) (by decide +kernel), ⟨by decide, by decide⟩, by decide +kernel⟩, z_gd 225 (by decide +kernel) (by decide +kernel)⟩
theorem mL_cell : Cond.methodLink RL 132 NL_cell.1 ∈ lw_good := z_gd 224 (by decide +kernel) (by decide +kernel)
theorem kL_136 : z_cS RL 136 NL_refused 2 := ⟨⟨Or.inl (z_gd 957 (by decide +kernel) (by decide +kernel)), z_gd 959 (by decide +kernel) (by decide +kernel), z_gd 28 (by decide +kernel) (by decide +kernel), ⟨by decide, by decide⟩, by decide +kernel⟩, z_gd 958 (by decide +kernel) (by decide +kernel)⟩
theorem mL_refused : Cond.methodLink RL 136 NL_refused.1 ∈ lw_good := z_gd 957 (by decide +kernel) (by decide +kernel)
theorem kL_140 : z_cS RL 140 NL_books 5 := ⟨⟨Or.inl (z_gd 938 (by decide +kernel) (by decide +kernel)), z_gd 940 (by decide +kernel) (by decide +kernel), z_gd 28 (by decide +kernel) (by decide +kernel), ⟨by decide, by decide⟩, by decide +kernel⟩, z_gd 939 (by decide +kernel) (by decide +kernel)⟩
theorem mL_books : Cond.methodLink RL 140 NL_books.1 ∈ lw_good := z_gd 938 (by decide +kernel) (by decide +kernel)
theorem kL_144 : z_cS RL 144 NL_offices 5 := ⟨⟨Or.inl (z_gd 945 (by decide +kernel) (by decide +kernel)), z_gd 947 (by decide +kernel) (by decide +kernel), z_gd 28 (by decide +kernel) (by decide +kernel), ⟨by decide, by decide⟩, by decide +kernel⟩, z_gd 946 (by decide +kernel) (by decide +kernel)⟩
theorem mL_offices : Cond.methodLink RL 144 NL_offices.1 ∈ lw_good := z_gd 945 (by decide +kernel) (by decide +kernel)
theorem kL_147 : z_cS RL 147 NL_sends 5 := ⟨⟨Or.inl (z_gd 948 (by decide +kernel) (by decide +kernel)), z_gd 950 (by decide +kernel) (by decide +kernel), z_gd 28 (by decide +kernel) (by decide +kernel), ⟨by decide, by decide⟩, by decide +kernel⟩, z_gd 949 (by decide +kernel) (by decide +kernel)⟩
theorem mL_sends : Cond.methodLink RL 147 NL_sends.1 ∈ lw_good := z_gd 948 (by decide +kernel) (by decide +kernel)
theorem kL_150 : z_cS RL 150 NL_passes 5 := ⟨⟨Or.inl (z_gd 951 (by decide +kernel) (by decide +kernel)), z_gd 953 (by decide +kernel) (by decide +kernel), z_gd 28 (by decide +kernel) (by decide +kernel), ⟨by decide, by decide⟩, by decide +kernel⟩, z_gd 952 (by decide +kernel) (by decide +kernel)⟩
theorem mL_passes : Cond.methodLink RL 150 NL_passes.1 ∈ lw_good := z_gd 951 (by decide +kernel) (by decide +kernel)
theorem kL_153 : z_cS RL 153 NL_sound 2 := ⟨⟨Or.inl (z_gd 954 (by decide +kernel) (by decide +kernel)), z_gd 956 (by decide +kernel) (by decide +kernel), z_gd 28 (by decide +kernel) (by decide +kernel), ⟨by decide, by decide⟩, by decide +kernel⟩, z_gd 955 (by decide +kernel) (by decide +kernel)⟩
theorem mL_sound : Cond.methodLink RL 153 NL_sound.1 ∈ lw_good := z_gd 954 (by decide +kernel) (by decide +kernel)
theorem aL_34 : z_cV RL 34 KX8_candidates 1 8 := kL_34
theorem aL_37 : z_cV RL 37 KX8_candidate 2 8 := kL_37
theorem aL_69 : z_cV RL 69 KX8_words 2 8 := kL_69
theorem aL_85 : z_cV RL 85 KX8_ofMessage 2 8 := kL_85
theorem aL_88 : z_cV RL 88 KX8_word 3 8 := kL_88
theorem aL_92 : z_cV RL 92 KX8_read 2 8 := kL_92
theorem aL_95 : z_cV RL 95 KX8_claim 1 8 := kL_95
theorem aL_98 : z_cV RL 98 KX8_account 1 8 := kL_98
theorem aL_101 : z_cV RL 101 KX8_accountAnew 1 8 := kL_101
theorem q2L_104 : Cond.constantLong RL 104 17 ∈ lw_good := z_gd 235 (by decide +kernel) (by decide +kernel)
theorem q2L_106 : Cond.constantLong RL 106 1009 ∈ lw_good := z_gd 236 (by decide +kernel) (by decide +kernel)
theorem q2L_108 : Cond.constantLong RL 108 31 ∈ lw_good := z_gd 355 (by decide +kernel) (by decide +kernel)
theorem q2L_110 : Cond.constantLong RL 110 127 ∈ lw_good := z_gd 356 (by decide +kernel) (by decide +kernel)
set_option maxHeartbeats 4000000 in
theorem tL_does_0 {l : Launch} {D : va_G} {cy : Nat → ClassId} {z0 : zRg} {g : zSh} {σ κ : zIn} {n : Nat → Nat} {q9 : Nat} {R : zRl9} (hfl : l.stackTraces = false) (hob : z_ob g 1 8) (a5 b5 c5 d5 e5 : Int32) (hc : z_Cx l D cy z0 NX8_idea [.ref (g.2.1 1), .int a5] g σ (zRs q9 R) (zRx q9 R κ n)) : z_Cx l D cy z0 NL_does [.ref (g.2.1 1), .int (nI 0), .int a5, .int b5, .int c5, .int d5, .int e5] g σ (zRs q9 R) (zRx q9 R κ n) := by
  refine z_ofX hfl (by decide) (z_cr (z_ci (z_ci (z_ci (z_ci (z_ci (z_ci z_c0))))))) (Nat.le_of_ble_eq_true rfl) ?_
  intro p e s m args below meth c X Y
  refine z_iload_n X dL_does_0 rfl ?_
  refine z_tabIn X (off := 103) (tgt := 104) dL_does_1 (by decide) (by decide) (by decide) (by decide) ?_
  refine z_aload_n X dL_does_104 rfl ?_
  refine z_iload_n X dL_does_105 rfl ?_
  refine z_runVT X Y nL_24 kL_24 hc hob rfl rfl (Nat.le_of_ble_eq_true rfl) ⟨by decide, by decide⟩ ⟨by decide, by decide⟩ (by decide) (by decide) dL_does_106 (fun _ _ _ q => q) ?_
  rintro _ g1 s1 ⟨r, κ1, n1, rfl, hr, hs, ha⟩
  refine z_rx ?_
  refine z_iret X (by decide) (by decide) rfl dL_does_109 ?_
  exact ⟨r, κ1, n1, rfl, hr, hs, ha⟩
set_option maxHeartbeats 4000000 in
theorem tL_does_1 {l : Launch} {D : va_G} {cy : Nat → ClassId} {z0 : zRg} {g : zSh} {σ κ : zIn} {n : Nat → Nat} {q9 : Nat} {R : zRl9} (hfl : l.stackTraces = false) (hob : z_ob g 1 8) (a5 b5 c5 d5 e5 : Int32) (hc : z_Cx l D cy z0 NX8_entry [.ref (g.2.1 1), .int a5, .int b5, .int c5, .int d5, .int e5] g σ (zRs q9 R) (zRx q9 R κ n)) : z_Cx l D cy z0 NL_does [.ref (g.2.1 1), .int (nI 1), .int a5, .int b5, .int c5, .int d5, .int e5] g σ (zRs q9 R) (zRx q9 R κ n) := by
  refine z_ofX hfl (by decide) (z_cr (z_ci (z_ci (z_ci (z_ci (z_ci (z_ci z_c0))))))) (Nat.le_of_ble_eq_true rfl) ?_
  intro p e s m args below meth c X Y
  refine z_iload_n X dL_does_0 rfl ?_
  refine z_tabIn X (off := 109) (tgt := 110) dL_does_1 (by decide) (by decide) (by decide) (by decide) ?_
  refine z_aload_n X dL_does_110 rfl ?_
  refine z_iload_n X dL_does_111 rfl ?_
  refine z_iload_n X dL_does_112 rfl ?_
  refine z_iload X dL_does_113 rfl ?_
  refine z_iload X dL_does_115 rfl ?_
  refine z_iload X dL_does_117 rfl ?_
  refine z_runVT X Y nL_30 kL_30 hc hob rfl rfl (Nat.le_of_ble_eq_true rfl) ⟨by decide, by decide⟩ ⟨by decide, by decide⟩ (by decide) (by decide) dL_does_119 (fun _ _ _ q => q) ?_
  rintro _ g1 s1 ⟨r, κ1, n1, rfl, hr, hs, ha⟩
  refine z_rx ?_
  refine z_iret X (by decide) (by decide) rfl dL_does_122 ?_
  exact ⟨r, κ1, n1, rfl, hr, hs, ha⟩
set_option maxHeartbeats 4000000 in
theorem tL_does_2 {l : Launch} {D : va_G} {cy : Nat → ClassId} {z0 : zRg} {g : zSh} {σ κ : zIn} {n : Nat → Nat} {q9 : Nat} {R : zRl9} (hfl : l.stackTraces = false) (hob : z_ob g 1 8) (a5 b5 c5 d5 e5 : Int32) (hc : z_Cx l D cy z0 NX8_candidates [.ref (g.2.1 1), .int a5] g σ (zRs q9 R) (zRx q9 R κ n)) : z_Cx l D cy z0 NL_does [.ref (g.2.1 1), .int (nI 2), .int a5, .int b5, .int c5, .int d5, .int e5] g σ (zRs q9 R) (zRx q9 R κ n) := by
  refine z_ofX hfl (by decide) (z_cr (z_ci (z_ci (z_ci (z_ci (z_ci (z_ci z_c0))))))) (Nat.le_of_ble_eq_true rfl) ?_
  intro p e s m args below meth c X Y
  refine z_iload_n X dL_does_0 rfl ?_
  refine z_tabIn X (off := 122) (tgt := 123) dL_does_1 (by decide) (by decide) (by decide) (by decide) ?_
  refine z_aload_n X dL_does_123 rfl ?_
  refine z_iload_n X dL_does_124 rfl ?_
  refine z_runVT X Y nL_34 kL_34 hc hob rfl rfl (Nat.le_of_ble_eq_true rfl) ⟨by decide, by decide⟩ ⟨by decide, by decide⟩ (by decide) (by decide) dL_does_125 (fun _ _ _ q => q) ?_
  rintro _ g1 s1 ⟨r, κ1, n1, rfl, hr, hs, ha⟩
  refine z_rx ?_
  refine z_iret X (by decide) (by decide) rfl dL_does_128 ?_
  exact ⟨r, κ1, n1, rfl, hr, hs, ha⟩
set_option maxHeartbeats 4000000 in
theorem tL_does_3 {l : Launch} {D : va_G} {cy : Nat → ClassId} {z0 : zRg} {g : zSh} {σ κ : zIn} {n : Nat → Nat} {q9 : Nat} {R : zRl9} (hfl : l.stackTraces = false) (hob : z_ob g 1 8) (a5 b5 c5 d5 e5 : Int32) (hc : z_Cx l D cy z0 NX8_candidate [.ref (g.2.1 1), .int a5, .int b5] g σ (zRs q9 R) (zRx q9 R κ n)) : z_Cx l D cy z0 NL_does [.ref (g.2.1 1), .int (nI 3), .int a5, .int b5, .int c5, .int d5, .int e5] g σ (zRs q9 R) (zRx q9 R κ n) := by
  refine z_ofX hfl (by decide) (z_cr (z_ci (z_ci (z_ci (z_ci (z_ci (z_ci z_c0))))))) (Nat.le_of_ble_eq_true rfl) ?_
  intro p e s m args below meth c X Y
  refine z_iload_n X dL_does_0 rfl ?_
  refine z_tabIn X (off := 128) (tgt := 129) dL_does_1 (by decide) (by decide) (by decide) (by decide) ?_
  refine z_aload_n X dL_does_129 rfl ?_
  refine z_iload_n X dL_does_130 rfl ?_
  refine z_iload_n X dL_does_131 rfl ?_
  refine z_runVT X Y nL_37 kL_37 hc hob rfl rfl (Nat.le_of_ble_eq_true rfl) ⟨by decide, by decide⟩ ⟨by decide, by decide⟩ (by decide) (by decide) dL_does_132 (fun _ _ _ q => q) ?_
  rintro _ g1 s1 ⟨r, κ1, n1, rfl, hr, hs, ha⟩
  refine z_rx ?_
  refine z_iret X (by decide) (by decide) rfl dL_does_135 ?_
  exact ⟨r, κ1, n1, rfl, hr, hs, ha⟩
set_option maxHeartbeats 4000000 in
theorem tL_does_4 {l : Launch} {D : va_G} {cy : Nat → ClassId} {z0 : zRg} {g : zSh} {σ κ : zIn} {n : Nat → Nat} {q9 : Nat} {R : zRl9} (hfl : l.stackTraces = false) (hob : z_ob g 1 8) (a5 b5 c5 d5 e5 : Int32) (hc : z_Cx l D cy z0 NX8_office [.ref (g.2.1 1)] g σ (zRs q9 R) (zRx q9 R κ n)) : z_Cx l D cy z0 NL_does [.ref (g.2.1 1), .int (nI 4), .int a5, .int b5, .int c5, .int d5, .int e5] g σ (zRs q9 R) (zRx q9 R κ n) := by
  refine z_ofX hfl (by decide) (z_cr (z_ci (z_ci (z_ci (z_ci (z_ci (z_ci z_c0))))))) (Nat.le_of_ble_eq_true rfl) ?_
  intro p e s m args below meth c X Y
  refine z_iload_n X dL_does_0 rfl ?_
  refine z_tabIn X (off := 135) (tgt := 136) dL_does_1 (by decide) (by decide) (by decide) (by decide) ?_
  refine z_aload_n X dL_does_136 rfl ?_
  refine z_runVT X Y nL_41 kL_41 hc hob rfl rfl (Nat.le_of_ble_eq_true rfl) ⟨by decide, by decide⟩ ⟨by decide, by decide⟩ (by decide) (by decide) dL_does_137 (fun _ _ _ q => q) ?_
  rintro _ g1 s1 ⟨r, κ1, n1, rfl, hr, hs, ha⟩
  refine z_rx ?_
  refine z_iret X (by decide) (by decide) rfl dL_does_140 ?_
  exact ⟨r, κ1, n1, rfl, hr, hs, ha⟩
set_option maxHeartbeats 4000000 in
theorem tL_does_5 {l : Launch} {D : va_G} {cy : Nat → ClassId} {z0 : zRg} {g : zSh} {σ κ : zIn} {n : Nat → Nat} {q9 : Nat} {R : zRl9} (hfl : l.stackTraces = false) (hob : z_ob g 1 8) (a5 b5 c5 d5 e5 : Int32) (hc : z_Cx l D cy z0 NX8_cable [.ref (g.2.1 1), .int a5, .int b5, .int c5, .int d5] g σ (zRs q9 R) (zRx q9 R κ n)) : z_Cx l D cy z0 NL_does [.ref (g.2.1 1), .int (nI 5), .int a5, .int b5, .int c5, .int d5, .int e5] g σ (zRs q9 R) (zRx q9 R κ n) := by
  refine z_ofX hfl (by decide) (z_cr (z_ci (z_ci (z_ci (z_ci (z_ci (z_ci z_c0))))))) (Nat.le_of_ble_eq_true rfl) ?_
  intro p e s m args below meth c X Y
  refine z_iload_n X dL_does_0 rfl ?_
  refine z_tabIn X (off := 140) (tgt := 141) dL_does_1 (by decide) (by decide) (by decide) (by decide) ?_
  refine z_aload_n X dL_does_141 rfl ?_
  refine z_iload_n X dL_does_142 rfl ?_
  refine z_iload_n X dL_does_143 rfl ?_
  refine z_iload X dL_does_144 rfl ?_
  refine z_iload X dL_does_146 rfl ?_
  refine z_runVT X Y nL_45 kL_45 hc hob rfl rfl (Nat.le_of_ble_eq_true rfl) ⟨by decide, by decide⟩ ⟨by decide, by decide⟩ (by decide) (by decide) dL_does_148 (fun _ _ _ q => q) ?_
  rintro _ g1 s1 ⟨r, κ1, n1, rfl, hr, hs, ha⟩
  refine z_rx ?_
  refine z_iret X (by decide) (by decide) rfl dL_does_151 ?_
  exact ⟨r, κ1, n1, rfl, hr, hs, ha⟩
set_option maxHeartbeats 4000000 in
theorem tL_does_6 {l : Launch} {D : va_G} {cy : Nat → ClassId} {z0 : zRg} {g : zSh} {σ κ : zIn} {n : Nat → Nat} {q9 : Nat} {R : zRl9} (hfl : l.stackTraces = false) (hob : z_ob g 1 8) (a5 b5 c5 d5 e5 : Int32) (hc : z_Cx l D cy z0 NX8_broken [.ref (g.2.1 1), .int a5, .int (zb (decide (b5 = nI 1)))] g σ (zRs q9 R) (zRx q9 R κ n)) : z_Cx l D cy z0 NL_does [.ref (g.2.1 1), .int (nI 6), .int a5, .int b5, .int c5, .int d5, .int e5] g σ (zRs q9 R) (zRx q9 R κ n) := by
  refine z_ofX hfl (by decide) (z_cr (z_ci (z_ci (z_ci (z_ci (z_ci (z_ci z_c0))))))) (Nat.le_of_ble_eq_true rfl) ?_
  intro p e s m args below meth c X Y
  refine z_iload_n X dL_does_0 rfl ?_
  refine z_tabIn X (off := 151) (tgt := 152) dL_does_1 (by decide) (by decide) (by decide) (by decide) ?_
  refine z_aload_n X dL_does_152 rfl ?_
  refine z_iload_n X dL_does_153 rfl ?_
  refine z_iload_n X dL_does_154 rfl ?_
  refine z_iconst (v := nI 1) X (by decide) dL_does_155 ?_
  refine z_icmp_ne (tgt := 163) X dL_does_156 (by decide) (fun c9 => ?_) (fun c9 => ?_)
  · refine z_iconst (v := zb (decide (b5 = nI 1))) X (by rw [decide_eq_false (by first | exact c9 | exact fun q => c9 q)]; decide) dL_does_163 ?_
    refine z_runVT X Y nL_49 kL_49 hc hob rfl rfl (Nat.le_of_ble_eq_true rfl) ⟨by decide, by decide⟩ ⟨by decide, by decide⟩ (by decide) (by decide) dL_does_164 (fun _ _ _ q => q) ?_
    rintro _ g1 s1 ⟨r, κ1, n1, rfl, hr, hs, ha⟩
    refine z_rx ?_
    refine z_iret X (by decide) (by decide) rfl dL_does_167 ?_
    exact ⟨r, κ1, n1, rfl, hr, hs, ha⟩
  · refine z_iconst (v := zb (decide (b5 = nI 1))) X (by rw [decide_eq_true (by first | exact c9 | exact Classical.not_not.mp c9)]; decide) dL_does_159 ?_
    refine z_goto (tgt := 164) X dL_does_160 (by decide) ?_
    refine z_runVT X Y nL_49 kL_49 hc hob rfl rfl (Nat.le_of_ble_eq_true rfl) ⟨by decide, by decide⟩ ⟨by decide, by decide⟩ (by decide) (by decide) dL_does_164 (fun _ _ _ q => q) ?_
    rintro _ g1 s1 ⟨r, κ1, n1, rfl, hr, hs, ha⟩
    refine z_rx ?_
    refine z_iret X (by decide) (by decide) rfl dL_does_167 ?_
    exact ⟨r, κ1, n1, rfl, hr, hs, ha⟩
set_option maxHeartbeats 4000000 in
theorem tL_does_7 {l : Launch} {D : va_G} {cy : Nat → ClassId} {z0 : zRg} {g : zSh} {σ κ : zIn} {n : Nat → Nat} {q9 : Nat} {R : zRl9} (hfl : l.stackTraces = false) (hob : z_ob g 1 8) (a5 b5 c5 d5 e5 : Int32) (hc : z_Cx l D cy z0 NX8_forbid [.ref (g.2.1 1), .int a5, .int (zb (decide (b5 = nI 1)))] g σ (fun v g' σ' => zRs q9 R v g' σ' ∧ (v = some (.int 0) ∨ v = some (.int 1))) (zRx q9 R κ n)) : z_Cx l D cy z0 NL_does [.ref (g.2.1 1), .int (nI 7), .int a5, .int b5, .int c5, .int d5, .int e5] g σ (zRs q9 R) (zRx q9 R κ n) := by
  refine z_ofX hfl (by decide) (z_cr (z_ci (z_ci (z_ci (z_ci (z_ci (z_ci z_c0))))))) (Nat.le_of_ble_eq_true rfl) ?_
  intro p e s m args below meth c X Y
  refine z_iload_n X dL_does_0 rfl ?_
  refine z_tabIn X (off := 167) (tgt := 168) dL_does_1 (by decide) (by decide) (by decide) (by decide) ?_
  refine z_aload_n X dL_does_168 rfl ?_
  refine z_iload_n X dL_does_169 rfl ?_
  refine z_iload_n X dL_does_170 rfl ?_
  refine z_iconst (v := nI 1) X (by decide) dL_does_171 ?_
  refine z_icmp_ne (tgt := 179) X dL_does_172 (by decide) (fun c9 => ?_) (fun c9 => ?_)
  · refine z_iconst (v := zb (decide (b5 = nI 1))) X (by rw [decide_eq_false (by first | exact c9 | exact fun q => c9 q)]; decide) dL_does_179 ?_
    refine z_runVT X Y nL_53 kL_53 hc hob rfl rfl (Nat.le_of_ble_eq_true rfl) ⟨by decide, by decide⟩ ⟨by decide, by decide⟩ (by decide) (by decide) dL_does_180 (fun _ _ _ q => q) ?_
    rintro _ g1 s1 ⟨⟨r, κ1, n1, rfl, hr, hs, ha⟩, hv⟩
    have hv2 : r = 0 ∨ r = 1 := by
      rcases hv with q | q
      · exact Or.inl (Value.int.inj (Option.some.inj q))
      · exact Or.inr (Value.int.inj (Option.some.inj q))
    refine z_if_eq (tgt := 190) X dL_does_183 (by decide) (fun c8 => ?_) (fun c8 => ?_)
    · refine z_iconst (v := 0) X (by decide) dL_does_190 ?_
      refine z_rx ?_
      refine z_iret X (by decide) (by decide) rfl dL_does_191 ?_
      exact ⟨r, κ1, n1, by rw [c8], hr, hs, ha⟩
    · refine z_iconst (v := 1) X (by decide) dL_does_186 ?_
      refine z_goto (tgt := 191) X dL_does_187 (by decide) ?_
      refine z_rx ?_
      refine z_iret X (by decide) (by decide) rfl dL_does_191 ?_
      exact ⟨r, κ1, n1, by rw [hv2.resolve_left c8], hr, hs, ha⟩
  · refine z_iconst (v := zb (decide (b5 = nI 1))) X (by rw [decide_eq_true (by first | exact c9 | exact Classical.not_not.mp c9)]; decide) dL_does_175 ?_
    refine z_goto (tgt := 180) X dL_does_176 (by decide) ?_
    refine z_runVT X Y nL_53 kL_53 hc hob rfl rfl (Nat.le_of_ble_eq_true rfl) ⟨by decide, by decide⟩ ⟨by decide, by decide⟩ (by decide) (by decide) dL_does_180 (fun _ _ _ q => q) ?_
    rintro _ g1 s1 ⟨⟨r, κ1, n1, rfl, hr, hs, ha⟩, hv⟩
    have hv2 : r = 0 ∨ r = 1 := by
      rcases hv with q | q
      · exact Or.inl (Value.int.inj (Option.some.inj q))
      · exact Or.inr (Value.int.inj (Option.some.inj q))
    refine z_if_eq (tgt := 190) X dL_does_183 (by decide) (fun c8 => ?_) (fun c8 => ?_)
    · refine z_iconst (v := 0) X (by decide) dL_does_190 ?_
      refine z_rx ?_
      refine z_iret X (by decide) (by decide) rfl dL_does_191 ?_
      exact ⟨r, κ1, n1, by rw [c8], hr, hs, ha⟩
    · refine z_iconst (v := 1) X (by decide) dL_does_186 ?_
      refine z_goto (tgt := 191) X dL_does_187 (by decide) ?_
      refine z_rx ?_
      refine z_iret X (by decide) (by decide) rfl dL_does_191 ?_
      exact ⟨r, κ1, n1, by rw [hv2.resolve_left c8], hr, hs, ha⟩
set_option maxHeartbeats 4000000 in
theorem tL_does_8 {l : Launch} {D : va_G} {cy : Nat → ClassId} {z0 : zRg} {g : zSh} {σ κ : zIn} {n : Nat → Nat} {q9 : Nat} {R : zRl9} (hfl : l.stackTraces = false) (hob : z_ob g 1 8) (a5 b5 c5 d5 e5 : Int32) (hc : z_Cx l D cy z0 NX8_key [.ref (g.2.1 1), .int a5, .int b5] g σ (zRs q9 R) (zRx q9 R κ n)) : z_Cx l D cy z0 NL_does [.ref (g.2.1 1), .int (nI 8), .int a5, .int b5, .int c5, .int d5, .int e5] g σ (zRs q9 R) (zRx q9 R κ n) := by
  refine z_ofX hfl (by decide) (z_cr (z_ci (z_ci (z_ci (z_ci (z_ci (z_ci z_c0))))))) (Nat.le_of_ble_eq_true rfl) ?_
  intro p e s m args below meth c X Y
  refine z_iload_n X dL_does_0 rfl ?_
  refine z_tabIn X (off := 191) (tgt := 192) dL_does_1 (by decide) (by decide) (by decide) (by decide) ?_
  refine z_aload_n X dL_does_192 rfl ?_
  refine z_iload_n X dL_does_193 rfl ?_
  refine z_iload_n X dL_does_194 rfl ?_
  refine z_runVT X Y nL_57 kL_57 hc hob rfl rfl (Nat.le_of_ble_eq_true rfl) ⟨by decide, by decide⟩ ⟨by decide, by decide⟩ (by decide) (by decide) dL_does_195 (fun _ _ _ q => q) ?_
  rintro _ g1 s1 ⟨r, κ1, n1, rfl, hr, hs, ha⟩
  refine z_rx ?_
  refine z_iret X (by decide) (by decide) rfl dL_does_198 ?_
  exact ⟨r, κ1, n1, rfl, hr, hs, ha⟩
set_option maxHeartbeats 4000000 in
theorem tL_does_9 {l : Launch} {D : va_G} {cy : Nat → ClassId} {z0 : zRg} {g : zSh} {σ κ : zIn} {n : Nat → Nat} {q9 : Nat} {R : zRl9} (hfl : l.stackTraces = false) (hob : z_ob g 1 8) (a5 b5 c5 d5 e5 : Int32) (hc : z_Cx l D cy z0 NX8_conference [.ref (g.2.1 1), .int a5, .int b5, .int c5, .int d5] g σ (zRs q9 R) (zRx q9 R κ n)) : z_Cx l D cy z0 NL_does [.ref (g.2.1 1), .int (nI 9), .int a5, .int b5, .int c5, .int d5, .int e5] g σ (zRs q9 R) (zRx q9 R κ n) := by
  refine z_ofX hfl (by decide) (z_cr (z_ci (z_ci (z_ci (z_ci (z_ci (z_ci z_c0))))))) (Nat.le_of_ble_eq_true rfl) ?_
  intro p e s m args below meth c X Y
  refine z_iload_n X dL_does_0 rfl ?_
  refine z_tabIn X (off := 198) (tgt := 199) dL_does_1 (by decide) (by decide) (by decide) (by decide) ?_
  refine z_aload_n X dL_does_199 rfl ?_
  refine z_iload_n X dL_does_200 rfl ?_
  refine z_iload_n X dL_does_201 rfl ?_
  refine z_iload X dL_does_202 rfl ?_
  refine z_iload X dL_does_204 rfl ?_
  refine z_runVT X Y nL_60 kL_60 hc hob rfl rfl (Nat.le_of_ble_eq_true rfl) ⟨by decide, by decide⟩ ⟨by decide, by decide⟩ (by decide) (by decide) dL_does_206 (fun _ _ _ q => q) ?_
  rintro _ g1 s1 ⟨r, κ1, n1, rfl, hr, hs, ha⟩
  refine z_rx ?_
  refine z_iret X (by decide) (by decide) rfl dL_does_209 ?_
  exact ⟨r, κ1, n1, rfl, hr, hs, ha⟩
set_option maxHeartbeats 4000000 in
theorem tL_does_10 {l : Launch} {D : va_G} {cy : Nat → ClassId} {z0 : zRg} {g : zSh} {σ κ : zIn} {n : Nat → Nat} {q9 : Nat} {R : zRl9} (hfl : l.stackTraces = false) (hob : z_ob g 1 8) (a5 b5 c5 d5 e5 : Int32) (hc : z_Cx l D cy z0 NX8_reserve [.ref (g.2.1 1), .int a5, .int b5] g σ (zRs q9 R) (zRx q9 R κ n)) : z_Cx l D cy z0 NL_does [.ref (g.2.1 1), .int (nI 10), .int a5, .int b5, .int c5, .int d5, .int e5] g σ (zRs q9 R) (zRx q9 R κ n) := by
  refine z_ofX hfl (by decide) (z_cr (z_ci (z_ci (z_ci (z_ci (z_ci (z_ci z_c0))))))) (Nat.le_of_ble_eq_true rfl) ?_
  intro p e s m args below meth c X Y
  refine z_iload_n X dL_does_0 rfl ?_
  refine z_tabIn X (off := 209) (tgt := 210) dL_does_1 (by decide) (by decide) (by decide) (by decide) ?_
  refine z_aload_n X dL_does_210 rfl ?_
  refine z_iload_n X dL_does_211 rfl ?_
  refine z_iload_n X dL_does_212 rfl ?_
  refine z_runVT X Y nL_63 kL_63 hc hob rfl rfl (Nat.le_of_ble_eq_true rfl) ⟨by decide, by decide⟩ ⟨by decide, by decide⟩ (by decide) (by decide) dL_does_213 (fun _ _ _ q => q) ?_
  rintro _ g1 s1 ⟨r, κ1, n1, rfl, hr, hs, ha⟩
  refine z_rx ?_
  refine z_iret X (by decide) (by decide) rfl dL_does_216 ?_
  exact ⟨r, κ1, n1, rfl, hr, hs, ha⟩
set_option maxHeartbeats 4000000 in
theorem tL_does_11 {l : Launch} {D : va_G} {cy : Nat → ClassId} {z0 : zRg} {g : zSh} {σ κ : zIn} {n : Nat → Nat} {q9 : Nat} {R : zRl9} (hfl : l.stackTraces = false) (hob : z_ob g 1 8) (a5 b5 c5 d5 e5 : Int32) (hc : z_Cx l D cy z0 NX8_draft [.ref (g.2.1 1), .int a5] g σ (zRs q9 R) (zRx q9 R κ n)) : z_Cx l D cy z0 NL_does [.ref (g.2.1 1), .int (nI 11), .int a5, .int b5, .int c5, .int d5, .int e5] g σ (zRs q9 R) (zRx q9 R κ n) := by
  refine z_ofX hfl (by decide) (z_cr (z_ci (z_ci (z_ci (z_ci (z_ci (z_ci z_c0))))))) (Nat.le_of_ble_eq_true rfl) ?_
  intro p e s m args below meth c X Y
  refine z_iload_n X dL_does_0 rfl ?_
  refine z_tabIn X (off := 216) (tgt := 217) dL_does_1 (by decide) (by decide) (by decide) (by decide) ?_
  refine z_aload_n X dL_does_217 rfl ?_
  refine z_iload_n X dL_does_218 rfl ?_
  refine z_runVT X Y nL_66 kL_66 hc hob rfl rfl (Nat.le_of_ble_eq_true rfl) ⟨by decide, by decide⟩ ⟨by decide, by decide⟩ (by decide) (by decide) dL_does_219 (fun _ _ _ q => q) ?_
  rintro _ g1 s1 ⟨r, κ1, n1, rfl, hr, hs, ha⟩
  refine z_rx ?_
  refine z_iret X (by decide) (by decide) rfl dL_does_222 ?_
  exact ⟨r, κ1, n1, rfl, hr, hs, ha⟩
set_option maxHeartbeats 4000000 in
theorem tL_does_12 {l : Launch} {D : va_G} {cy : Nat → ClassId} {z0 : zRg} {g : zSh} {σ κ : zIn} {n : Nat → Nat} {q9 : Nat} {R : zRl9} (hfl : l.stackTraces = false) (hob : z_ob g 1 8) (a5 b5 c5 d5 e5 : Int32) (hc : z_Cx l D cy z0 NX8_words [.ref (g.2.1 1), .int a5, .int (zb (decide (b5 = nI 1)))] g σ (zRs q9 R) (zRx q9 R κ n)) : z_Cx l D cy z0 NL_does [.ref (g.2.1 1), .int (nI 12), .int a5, .int b5, .int c5, .int d5, .int e5] g σ (zRs q9 R) (zRx q9 R κ n) := by
  refine z_ofX hfl (by decide) (z_cr (z_ci (z_ci (z_ci (z_ci (z_ci (z_ci z_c0))))))) (Nat.le_of_ble_eq_true rfl) ?_
  intro p e s m args below meth c X Y
  refine z_iload_n X dL_does_0 rfl ?_
  refine z_tabIn X (off := 222) (tgt := 223) dL_does_1 (by decide) (by decide) (by decide) (by decide) ?_
  refine z_aload_n X dL_does_223 rfl ?_
  refine z_iload_n X dL_does_224 rfl ?_
  refine z_iload_n X dL_does_225 rfl ?_
  refine z_iconst (v := nI 1) X (by decide) dL_does_226 ?_
  refine z_icmp_ne (tgt := 234) X dL_does_227 (by decide) (fun c9 => ?_) (fun c9 => ?_)
  · refine z_iconst (v := zb (decide (b5 = nI 1))) X (by rw [decide_eq_false (by first | exact c9 | exact fun q => c9 q)]; decide) dL_does_234 ?_
    refine z_runVT X Y nL_69 kL_69 hc hob rfl rfl (Nat.le_of_ble_eq_true rfl) ⟨by decide, by decide⟩ ⟨by decide, by decide⟩ (by decide) (by decide) dL_does_235 (fun _ _ _ q => q) ?_
    rintro _ g1 s1 ⟨r, κ1, n1, rfl, hr, hs, ha⟩
    refine z_rx ?_
    refine z_iret X (by decide) (by decide) rfl dL_does_238 ?_
    exact ⟨r, κ1, n1, rfl, hr, hs, ha⟩
  · refine z_iconst (v := zb (decide (b5 = nI 1))) X (by rw [decide_eq_true (by first | exact c9 | exact Classical.not_not.mp c9)]; decide) dL_does_230 ?_
    refine z_goto (tgt := 235) X dL_does_231 (by decide) ?_
    refine z_runVT X Y nL_69 kL_69 hc hob rfl rfl (Nat.le_of_ble_eq_true rfl) ⟨by decide, by decide⟩ ⟨by decide, by decide⟩ (by decide) (by decide) dL_does_235 (fun _ _ _ q => q) ?_
    rintro _ g1 s1 ⟨r, κ1, n1, rfl, hr, hs, ha⟩
    refine z_rx ?_
    refine z_iret X (by decide) (by decide) rfl dL_does_238 ?_
    exact ⟨r, κ1, n1, rfl, hr, hs, ha⟩
set_option maxHeartbeats 4000000 in
theorem tL_does_13 {l : Launch} {D : va_G} {cy : Nat → ClassId} {z0 : zRg} {g : zSh} {σ κ : zIn} {n : Nat → Nat} {q9 : Nat} {R : zRl9} (hfl : l.stackTraces = false) (hob : z_ob g 1 8) (a5 b5 c5 d5 e5 : Int32) (hc : z_Cx l D cy z0 NX8_send [.ref (g.2.1 1), .int a5, .int b5, .int c5, .int (zb (decide (d5 = nI 1)))] g σ (zRs q9 R) (zRx q9 R κ n)) : z_Cx l D cy z0 NL_does [.ref (g.2.1 1), .int (nI 13), .int a5, .int b5, .int c5, .int d5, .int e5] g σ (zRs q9 R) (zRx q9 R κ n) := by
  refine z_ofX hfl (by decide) (z_cr (z_ci (z_ci (z_ci (z_ci (z_ci (z_ci z_c0))))))) (Nat.le_of_ble_eq_true rfl) ?_
  intro p e s m args below meth c X Y
  refine z_iload_n X dL_does_0 rfl ?_
  refine z_tabIn X (off := 238) (tgt := 239) dL_does_1 (by decide) (by decide) (by decide) (by decide) ?_
  refine z_aload_n X dL_does_239 rfl ?_
  refine z_iload_n X dL_does_240 rfl ?_
  refine z_iload_n X dL_does_241 rfl ?_
  refine z_iload X dL_does_242 rfl ?_
  refine z_iload X dL_does_244 rfl ?_
  refine z_iconst (v := nI 1) X (by decide) dL_does_246 ?_
  refine z_icmp_ne (tgt := 254) X dL_does_247 (by decide) (fun c9 => ?_) (fun c9 => ?_)
  · refine z_iconst (v := zb (decide (d5 = nI 1))) X (by rw [decide_eq_false (by first | exact c9 | exact fun q => c9 q)]; decide) dL_does_254 ?_
    refine z_runVT X Y nL_72 kL_72 hc hob rfl rfl (Nat.le_of_ble_eq_true rfl) ⟨by decide, by decide⟩ ⟨by decide, by decide⟩ (by decide) (by decide) dL_does_255 (fun _ _ _ q => q) ?_
    rintro _ g1 s1 ⟨r, κ1, n1, rfl, hr, hs, ha⟩
    refine z_rx ?_
    refine z_iret X (by decide) (by decide) rfl dL_does_258 ?_
    exact ⟨r, κ1, n1, rfl, hr, hs, ha⟩
  · refine z_iconst (v := zb (decide (d5 = nI 1))) X (by rw [decide_eq_true (by first | exact c9 | exact Classical.not_not.mp c9)]; decide) dL_does_250 ?_
    refine z_goto (tgt := 255) X dL_does_251 (by decide) ?_
    refine z_runVT X Y nL_72 kL_72 hc hob rfl rfl (Nat.le_of_ble_eq_true rfl) ⟨by decide, by decide⟩ ⟨by decide, by decide⟩ (by decide) (by decide) dL_does_255 (fun _ _ _ q => q) ?_
    rintro _ g1 s1 ⟨r, κ1, n1, rfl, hr, hs, ha⟩
    refine z_rx ?_
    refine z_iret X (by decide) (by decide) rfl dL_does_258 ?_
    exact ⟨r, κ1, n1, rfl, hr, hs, ha⟩
set_option maxHeartbeats 4000000 in
theorem tL_does_14 {l : Launch} {D : va_G} {cy : Nat → ClassId} {z0 : zRg} {g : zSh} {σ κ : zIn} {n : Nat → Nat} {q9 : Nat} {R : zRl9} (hfl : l.stackTraces = false) (hob : z_ob g 1 8) (a5 b5 c5 d5 e5 : Int32) (hc : z_Cx l D cy z0 NX8_wrong [.ref (g.2.1 1), .int a5, .int b5, .int c5, .int d5] g σ (zRs q9 R) (zRx q9 R κ n)) : z_Cx l D cy z0 NL_does [.ref (g.2.1 1), .int (nI 14), .int a5, .int b5, .int c5, .int d5, .int e5] g σ (zRs q9 R) (zRx q9 R κ n) := by
  refine z_ofX hfl (by decide) (z_cr (z_ci (z_ci (z_ci (z_ci (z_ci (z_ci z_c0))))))) (Nat.le_of_ble_eq_true rfl) ?_
  intro p e s m args below meth c X Y
  refine z_iload_n X dL_does_0 rfl ?_
  refine z_tabIn X (off := 258) (tgt := 259) dL_does_1 (by decide) (by decide) (by decide) (by decide) ?_
  refine z_aload_n X dL_does_259 rfl ?_
  refine z_iload_n X dL_does_260 rfl ?_
  refine z_iload_n X dL_does_261 rfl ?_
  refine z_iload X dL_does_262 rfl ?_
  refine z_iload X dL_does_264 rfl ?_
  refine z_runVT X Y nL_76 kL_76 hc hob rfl rfl (Nat.le_of_ble_eq_true rfl) ⟨by decide, by decide⟩ ⟨by decide, by decide⟩ (by decide) (by decide) dL_does_266 (fun _ _ _ q => q) ?_
  rintro _ g1 s1 ⟨r, κ1, n1, rfl, hr, hs, ha⟩
  refine z_rx ?_
  refine z_iret X (by decide) (by decide) rfl dL_does_269 ?_
  exact ⟨r, κ1, n1, rfl, hr, hs, ha⟩
set_option maxHeartbeats 4000000 in
theorem tL_does_15 {l : Launch} {D : va_G} {cy : Nat → ClassId} {z0 : zRg} {g : zSh} {σ κ : zIn} {n : Nat → Nat} {q9 : Nat} {R : zRl9} (hfl : l.stackTraces = false) (hob : z_ob g 1 8) (a5 b5 c5 d5 e5 : Int32) (hc : z_Cx l D cy z0 NX8_pass [.ref (g.2.1 1), .int a5] g σ (zRs q9 R) (zRx q9 R κ n)) : z_Cx l D cy z0 NL_does [.ref (g.2.1 1), .int (nI 15), .int a5, .int b5, .int c5, .int d5, .int e5] g σ (zRs q9 R) (zRx q9 R κ n) := by
  refine z_ofX hfl (by decide) (z_cr (z_ci (z_ci (z_ci (z_ci (z_ci (z_ci z_c0))))))) (Nat.le_of_ble_eq_true rfl) ?_
  intro p e s m args below meth c X Y
  refine z_iload_n X dL_does_0 rfl ?_
  refine z_tabIn X (off := 269) (tgt := 270) dL_does_1 (by decide) (by decide) (by decide) (by decide) ?_
  refine z_aload_n X dL_does_270 rfl ?_
  refine z_iload_n X dL_does_271 rfl ?_
  refine z_runVT X Y nL_79 kL_79 hc hob rfl rfl (Nat.le_of_ble_eq_true rfl) ⟨by decide, by decide⟩ ⟨by decide, by decide⟩ (by decide) (by decide) dL_does_272 (fun _ _ _ q => q) ?_
  rintro _ g1 s1 ⟨r, κ1, n1, rfl, hr, hs, ha⟩
  refine z_rx ?_
  refine z_iret X (by decide) (by decide) rfl dL_does_275 ?_
  exact ⟨r, κ1, n1, rfl, hr, hs, ha⟩
set_option maxHeartbeats 4000000 in
theorem tL_does_16 {l : Launch} {D : va_G} {cy : Nat → ClassId} {z0 : zRg} {g : zSh} {σ κ : zIn} {n : Nat → Nat} {q9 : Nat} {R : zRl9} (hfl : l.stackTraces = false) (hob : z_ob g 1 8) (a5 b5 c5 d5 e5 : Int32) (hc : z_Cx l D cy z0 NX8_rest [.ref (g.2.1 1), .int a5] g σ (zRs q9 R) (zRx q9 R κ n)) : z_Cx l D cy z0 NL_does [.ref (g.2.1 1), .int (nI 16), .int a5, .int b5, .int c5, .int d5, .int e5] g σ (zRs q9 R) (zRx q9 R κ n) := by
  refine z_ofX hfl (by decide) (z_cr (z_ci (z_ci (z_ci (z_ci (z_ci (z_ci z_c0))))))) (Nat.le_of_ble_eq_true rfl) ?_
  intro p e s m args below meth c X Y
  refine z_iload_n X dL_does_0 rfl ?_
  refine z_tabIn X (off := 275) (tgt := 276) dL_does_1 (by decide) (by decide) (by decide) (by decide) ?_
  refine z_aload_n X dL_does_276 rfl ?_
  refine z_iload_n X dL_does_277 rfl ?_
  refine z_runVT X Y nL_82 kL_82 hc hob rfl rfl (Nat.le_of_ble_eq_true rfl) ⟨by decide, by decide⟩ ⟨by decide, by decide⟩ (by decide) (by decide) dL_does_278 (fun _ _ _ q => q) ?_
  rintro _ g1 s1 ⟨r, κ1, n1, rfl, hr, hs, ha⟩
  refine z_rx ?_
  refine z_iret X (by decide) (by decide) rfl dL_does_281 ?_
  exact ⟨r, κ1, n1, rfl, hr, hs, ha⟩
set_option maxHeartbeats 4000000 in
theorem tL_does_17 {l : Launch} {D : va_G} {cy : Nat → ClassId} {z0 : zRg} {g : zSh} {σ κ : zIn} {n : Nat → Nat} {q9 : Nat} {R : zRl9} (hfl : l.stackTraces = false) (hob : z_ob g 1 8) (a5 b5 c5 d5 e5 : Int32) (hc : z_Cx l D cy z0 NX8_ofMessage [.ref (g.2.1 1), .int a5, .int b5] g σ (zRs q9 R) (zRx q9 R κ n)) : z_Cx l D cy z0 NL_does [.ref (g.2.1 1), .int (nI 17), .int a5, .int b5, .int c5, .int d5, .int e5] g σ (zRs q9 R) (zRx q9 R κ n) := by
  refine z_ofX hfl (by decide) (z_cr (z_ci (z_ci (z_ci (z_ci (z_ci (z_ci z_c0))))))) (Nat.le_of_ble_eq_true rfl) ?_
  intro p e s m args below meth c X Y
  refine z_iload_n X dL_does_0 rfl ?_
  refine z_tabIn X (off := 281) (tgt := 282) dL_does_1 (by decide) (by decide) (by decide) (by decide) ?_
  refine z_aload_n X dL_does_282 rfl ?_
  refine z_iload_n X dL_does_283 rfl ?_
  refine z_iload_n X dL_does_284 rfl ?_
  refine z_runVT X Y nL_85 kL_85 hc hob rfl rfl (Nat.le_of_ble_eq_true rfl) ⟨by decide, by decide⟩ ⟨by decide, by decide⟩ (by decide) (by decide) dL_does_285 (fun _ _ _ q => q) ?_
  rintro _ g1 s1 ⟨r, κ1, n1, rfl, hr, hs, ha⟩
  refine z_rx ?_
  refine z_iret X (by decide) (by decide) rfl dL_does_288 ?_
  exact ⟨r, κ1, n1, rfl, hr, hs, ha⟩
set_option maxHeartbeats 4000000 in
theorem tL_does_18 {l : Launch} {D : va_G} {cy : Nat → ClassId} {z0 : zRg} {g : zSh} {σ κ : zIn} {n : Nat → Nat} {q9 : Nat} {R : zRl9} (hfl : l.stackTraces = false) (hob : z_ob g 1 8) (a5 b5 c5 d5 e5 : Int32) (hc : z_Cx l D cy z0 NX8_word [.ref (g.2.1 1), .int a5, .int b5, .int (zb (decide (c5 = nI 1)))] g σ (zRs q9 R) (zRx q9 R κ n)) : z_Cx l D cy z0 NL_does [.ref (g.2.1 1), .int (nI 18), .int a5, .int b5, .int c5, .int d5, .int e5] g σ (zRs q9 R) (zRx q9 R κ n) := by
  refine z_ofX hfl (by decide) (z_cr (z_ci (z_ci (z_ci (z_ci (z_ci (z_ci z_c0))))))) (Nat.le_of_ble_eq_true rfl) ?_
  intro p e s m args below meth c X Y
  refine z_iload_n X dL_does_0 rfl ?_
  refine z_tabIn X (off := 288) (tgt := 289) dL_does_1 (by decide) (by decide) (by decide) (by decide) ?_
  refine z_aload_n X dL_does_289 rfl ?_
  refine z_iload_n X dL_does_290 rfl ?_
  refine z_iload_n X dL_does_291 rfl ?_
  refine z_iload X dL_does_292 rfl ?_
  refine z_iconst (v := nI 1) X (by decide) dL_does_294 ?_
  refine z_icmp_ne (tgt := 302) X dL_does_295 (by decide) (fun c9 => ?_) (fun c9 => ?_)
  · refine z_iconst (v := zb (decide (c5 = nI 1))) X (by rw [decide_eq_false (by first | exact c9 | exact fun q => c9 q)]; decide) dL_does_302 ?_
    refine z_runVT X Y nL_88 kL_88 hc hob rfl rfl (Nat.le_of_ble_eq_true rfl) ⟨by decide, by decide⟩ ⟨by decide, by decide⟩ (by decide) (by decide) dL_does_303 (fun _ _ _ q => q) ?_
    rintro _ g1 s1 ⟨r, κ1, n1, rfl, hr, hs, ha⟩
    refine z_rx ?_
    refine z_iret X (by decide) (by decide) rfl dL_does_306 ?_
    exact ⟨r, κ1, n1, rfl, hr, hs, ha⟩
  · refine z_iconst (v := zb (decide (c5 = nI 1))) X (by rw [decide_eq_true (by first | exact c9 | exact Classical.not_not.mp c9)]; decide) dL_does_298 ?_
    refine z_goto (tgt := 303) X dL_does_299 (by decide) ?_
    refine z_runVT X Y nL_88 kL_88 hc hob rfl rfl (Nat.le_of_ble_eq_true rfl) ⟨by decide, by decide⟩ ⟨by decide, by decide⟩ (by decide) (by decide) dL_does_303 (fun _ _ _ q => q) ?_
    rintro _ g1 s1 ⟨r, κ1, n1, rfl, hr, hs, ha⟩
    refine z_rx ?_
    refine z_iret X (by decide) (by decide) rfl dL_does_306 ?_
    exact ⟨r, κ1, n1, rfl, hr, hs, ha⟩
set_option maxHeartbeats 4000000 in
theorem tL_does_19 {l : Launch} {D : va_G} {cy : Nat → ClassId} {z0 : zRg} {g : zSh} {σ κ : zIn} {n : Nat → Nat} {q9 : Nat} {R : zRl9} (hfl : l.stackTraces = false) (hob : z_ob g 1 8) (a5 b5 c5 d5 e5 : Int32) (hc : z_Cx l D cy z0 NX8_read [.ref (g.2.1 1), .int a5, .int b5] g σ (zRs q9 R) (zRx q9 R κ n)) : z_Cx l D cy z0 NL_does [.ref (g.2.1 1), .int (nI 19), .int a5, .int b5, .int c5, .int d5, .int e5] g σ (zRs q9 R) (zRx q9 R κ n) := by
  refine z_ofX hfl (by decide) (z_cr (z_ci (z_ci (z_ci (z_ci (z_ci (z_ci z_c0))))))) (Nat.le_of_ble_eq_true rfl) ?_
  intro p e s m args below meth c X Y
  refine z_iload_n X dL_does_0 rfl ?_
  refine z_tabIn X (off := 306) (tgt := 307) dL_does_1 (by decide) (by decide) (by decide) (by decide) ?_
  refine z_aload_n X dL_does_307 rfl ?_
  refine z_iload_n X dL_does_308 rfl ?_
  refine z_iload_n X dL_does_309 rfl ?_
  refine z_runVT X Y nL_92 kL_92 hc hob rfl rfl (Nat.le_of_ble_eq_true rfl) ⟨by decide, by decide⟩ ⟨by decide, by decide⟩ (by decide) (by decide) dL_does_310 (fun _ _ _ q => q) ?_
  rintro _ g1 s1 ⟨r, κ1, n1, rfl, hr, hs, ha⟩
  refine z_rx ?_
  refine z_iret X (by decide) (by decide) rfl dL_does_313 ?_
  exact ⟨r, κ1, n1, rfl, hr, hs, ha⟩
set_option maxHeartbeats 4000000 in
theorem tL_does_20 {l : Launch} {D : va_G} {cy : Nat → ClassId} {z0 : zRg} {g : zSh} {σ κ : zIn} {n : Nat → Nat} {q9 : Nat} {R : zRl9} (hfl : l.stackTraces = false) (hob : z_ob g 1 8) (a5 b5 c5 d5 e5 : Int32) (hc : z_Cx l D cy z0 NX8_claim [.ref (g.2.1 1), .int a5] g σ (zRs q9 R) (zRx q9 R κ n)) : z_Cx l D cy z0 NL_does [.ref (g.2.1 1), .int (nI 20), .int a5, .int b5, .int c5, .int d5, .int e5] g σ (zRs q9 R) (zRx q9 R κ n) := by
  refine z_ofX hfl (by decide) (z_cr (z_ci (z_ci (z_ci (z_ci (z_ci (z_ci z_c0))))))) (Nat.le_of_ble_eq_true rfl) ?_
  intro p e s m args below meth c X Y
  refine z_iload_n X dL_does_0 rfl ?_
  refine z_tabIn X (off := 313) (tgt := 314) dL_does_1 (by decide) (by decide) (by decide) (by decide) ?_
  refine z_aload_n X dL_does_314 rfl ?_
  refine z_iload_n X dL_does_315 rfl ?_
  refine z_runVT X Y nL_95 kL_95 hc hob rfl rfl (Nat.le_of_ble_eq_true rfl) ⟨by decide, by decide⟩ ⟨by decide, by decide⟩ (by decide) (by decide) dL_does_316 (fun _ _ _ q => q) ?_
  rintro _ g1 s1 ⟨r, κ1, n1, rfl, hr, hs, ha⟩
  refine z_rx ?_
  refine z_iret X (by decide) (by decide) rfl dL_does_319 ?_
  exact ⟨r, κ1, n1, rfl, hr, hs, ha⟩
set_option maxHeartbeats 4000000 in
theorem tL_does_21 {l : Launch} {D : va_G} {cy : Nat → ClassId} {z0 : zRg} {g : zSh} {σ κ : zIn} {n : Nat → Nat} {q9 : Nat} {R : zRl9} (hfl : l.stackTraces = false) (hob : z_ob g 1 8) (a5 b5 c5 d5 e5 : Int32) (hc : z_Cx l D cy z0 NX8_account [.ref (g.2.1 1), .int a5] g σ (zRs q9 R) (zRx q9 R κ n)) : z_Cx l D cy z0 NL_does [.ref (g.2.1 1), .int (nI 21), .int a5, .int b5, .int c5, .int d5, .int e5] g σ (zRs q9 R) (zRx q9 R κ n) := by
  refine z_ofX hfl (by decide) (z_cr (z_ci (z_ci (z_ci (z_ci (z_ci (z_ci z_c0))))))) (Nat.le_of_ble_eq_true rfl) ?_
  intro p e s m args below meth c X Y
  refine z_iload_n X dL_does_0 rfl ?_
  refine z_tabIn X (off := 319) (tgt := 320) dL_does_1 (by decide) (by decide) (by decide) (by decide) ?_
  refine z_aload_n X dL_does_320 rfl ?_
  refine z_iload_n X dL_does_321 rfl ?_
  refine z_runVT X Y nL_98 kL_98 hc hob rfl rfl (Nat.le_of_ble_eq_true rfl) ⟨by decide, by decide⟩ ⟨by decide, by decide⟩ (by decide) (by decide) dL_does_322 (fun _ _ _ q => q) ?_
  rintro _ g1 s1 ⟨r, κ1, n1, rfl, hr, hs, ha⟩
  refine z_rx ?_
  refine z_iret X (by decide) (by decide) rfl dL_does_325 ?_
  exact ⟨r, κ1, n1, rfl, hr, hs, ha⟩
set_option maxHeartbeats 4000000 in
theorem tL_does_22 {l : Launch} {D : va_G} {cy : Nat → ClassId} {z0 : zRg} {g : zSh} {σ κ : zIn} {n : Nat → Nat} {q9 : Nat} {R : zRl9} (hfl : l.stackTraces = false) (hob : z_ob g 1 8) (a5 b5 c5 d5 e5 : Int32) (hc : z_Cx l D cy z0 NX8_accountAnew [.ref (g.2.1 1), .int a5] g σ (zRs q9 R) (zRx q9 R κ n)) : z_Cx l D cy z0 NL_does [.ref (g.2.1 1), .int (nI 22), .int a5, .int b5, .int c5, .int d5, .int e5] g σ (zRs q9 R) (zRx q9 R κ n) := by
  refine z_ofX hfl (by decide) (z_cr (z_ci (z_ci (z_ci (z_ci (z_ci (z_ci z_c0))))))) (Nat.le_of_ble_eq_true rfl) ?_
  intro p e s m args below meth c X Y
  refine z_iload_n X dL_does_0 rfl ?_
  refine z_tabOut X (tgt := 326) dL_does_1 (by decide) (by decide) ?_
  refine z_aload_n X dL_does_326 rfl ?_
  refine z_iload_n X dL_does_327 rfl ?_
  refine z_runVT X Y nL_101 kL_101 hc hob rfl rfl (Nat.le_of_ble_eq_true rfl) ⟨by decide, by decide⟩ ⟨by decide, by decide⟩ (by decide) (by decide) dL_does_328 (fun _ _ _ q => q) ?_
  rintro _ g1 s1 ⟨r, κ1, n1, rfl, hr, hs, ha⟩
  refine z_rx ?_
  refine z_iret X (by decide) (by decide) rfl dL_does_331 ?_
  exact ⟨r, κ1, n1, rfl, hr, hs, ha⟩
theorem z_mo {w : Cond} (i : Nat) (h : tables_1[i]? = some w) (hg : lw_isMore w = true) : w ∈ lw_more := List.mem_filter.mpr ⟨List.mem_of_getElem? h, hg⟩
theorem clL_15 : Cond.classLink RL 15 "java/lang/IndexOutOfBoundsException" ∈ lw_good := z_gd 544 (by decide +kernel) (by decide +kernel)
theorem clL_18 : Cond.classLink RL 18 "java/lang/IllegalArgumentException" ∈ lw_good := z_gd 545 (by decide +kernel) (by decide +kernel)
theorem clL_21 : Cond.classLink RL 21 "java/lang/IllegalStateException" ∈ lw_good := z_gd 546 (by decide +kernel) (by decide +kernel)
theorem caL_IllegalArgumentException : Cond.castable "java/lang/IllegalArgumentException" "java/lang/IllegalArgumentException" ∈ lw_more := z_mo 295 (by decide +kernel) rfl
theorem caL_IllegalStateException : Cond.castable "java/lang/IllegalStateException" "java/lang/IllegalStateException" ∈ lw_more := z_mo 533 (by decide +kernel) rfl
theorem caL_IndexOutOfBoundsException : Cond.castable "java/lang/IndexOutOfBoundsException" "java/lang/IndexOutOfBoundsException" ∈ lw_more := z_mo 222 (by decide +kernel) rfl
theorem ctL_0 : z_ct RL hL_call 10 "java/lang/IndexOutOfBoundsException" 14 := ⟨[], (0, 13, 14, 15), [(0, 13, 19, 18), (0, 13, 24, 21)], rfl, rfl, by decide, rfl, clL_15, caL_IndexOutOfBoundsException, (fun z hz => absurd hz List.not_mem_nil)⟩
theorem ctL_1 : z_ct RL hL_call 10 "java/lang/IllegalArgumentException" 19 := ⟨[(0, 13, 14, 15)], (0, 13, 19, 18), [(0, 13, 24, 21)], rfl, rfl, by decide, rfl, clL_18, caL_IllegalArgumentException, (fun z hz => by
  simp only [List.mem_cons, List.not_mem_nil, or_false] at hz
  rcases hz with rfl
  · exact ⟨by decide, "java/lang/IndexOutOfBoundsException", clL_15, by decide⟩)⟩
theorem ctL_2 : z_ct RL hL_call 10 "java/lang/IllegalStateException" 24 := ⟨[(0, 13, 14, 15), (0, 13, 19, 18)], (0, 13, 24, 21), [], rfl, rfl, by decide, rfl, clL_21, caL_IllegalStateException, (fun z hz => by
  simp only [List.mem_cons, List.not_mem_nil, or_false] at hz
  rcases hz with rfl | rfl
  · exact ⟨by decide, "java/lang/IndexOutOfBoundsException", clL_15, by decide⟩
  · exact ⟨by decide, "java/lang/IllegalArgumentException", clL_18, by decide⟩)⟩
set_option maxHeartbeats 4000000 in
theorem tL_call {l : Launch} {D : va_G} {cy : Nat → ClassId} {z0 : zRg} {g : zSh} {σ κ : zIn} {n : Nat → Nat} {q9 : Nat} {R : zRl9} (w5 a5 b5 c5 d5 e5 : Int32) (hc : z_Cx l D cy z0 NL_does [.ref (g.2.1 1), .int w5, .int a5, .int b5, .int c5, .int d5, .int e5] g σ (zRs q9 R) (zRx q9 R κ n)) : z_Cw l D cy z0 NL_call hL_call [.ref (g.2.1 1), .int w5, .int a5, .int b5, .int c5, .int d5, .int e5] g σ (zRs q9 R) := by
  refine z_ofW (by decide) (z_cr (z_ci (z_ci (z_ci (z_ci (z_ci (z_ci z_c0))))))) (Nat.le_of_ble_eq_true rfl) ?_
  intro p e s m args below meth c X Y htab
  refine z_aload_n X dL_call_0 rfl ?_
  refine z_iload_n X dL_call_1 rfl ?_
  refine z_iload_n X dL_call_2 rfl ?_
  refine z_iload_n X dL_call_3 rfl ?_
  refine z_iload X dL_call_4 rfl ?_
  refine z_iload X dL_call_6 rfl ?_
  refine z_iload X dL_call_8 rfl ?_
  refine z_runSX X Y htab mL_does kL_9 hc rfl rfl (Nat.le_of_ble_eq_true rfl) ⟨by decide, by decide⟩ ⟨by decide, by decide⟩ dL_call_10 (fun E g1 s1 hp => ?_) ?_
  · obtain ⟨hE, hr, hs, ha⟩ := hp
    rcases hE with rfl | rfl | rfl
    · refine ⟨14, ctL_0, fun q => ?_⟩
      refine z_astore X dL_call_14 (by decide) ?_
      refine z_ldc X qL_17 dL_call_16 ?_
      refine z_iret X (by decide) (by decide) rfl dL_call_18 ?_
      exact ⟨_, κ, n, rfl, hr, hs, ha⟩
    · refine ⟨19, ctL_1, fun q => ?_⟩
      refine z_astore X dL_call_19 (by decide) ?_
      refine z_ldc X qL_20 dL_call_21 ?_
      refine z_iret X (by decide) (by decide) rfl dL_call_23 ?_
      exact ⟨_, κ, n, rfl, hr, hs, ha⟩
    · refine ⟨24, ctL_2, fun q => ?_⟩
      refine z_astore X dL_call_24 (by decide) ?_
      refine z_ldc X qL_23 dL_call_26 ?_
      refine z_iret X (by decide) (by decide) rfl dL_call_28 ?_
      exact ⟨_, κ, n, rfl, hr, hs, ha⟩
  · rintro _ g1 s1 ⟨r, κ1, n1, rfl, hr, hs, ha⟩
    refine z_iret X (by decide) (by decide) rfl dL_call_13 ?_
    exact ⟨r, κ1, n1, rfl, hr, hs, ha⟩
