abbrev mX0_init : Mi := (yX0_init, cX0_init, 2, none)
theorem cd_X0_init : Cond.code yX0_init cX0_init 2 none ∈ lwg := lwg_of (List.mem_of_getElem? (i := 221) (by decide +kernel)) (by decide +kernel)
theorem in_X0_init : Cond.instanceMethod yX0_init ∈ lwg := lwg_of (List.mem_of_getElem? (i := 220) (by decide +kernel)) (by decide +kernel)
abbrev mX0_read : Mi := (yX0_read, cX0_read, 4, (some .int))
theorem cd_X0_read : Cond.code yX0_read cX0_read 4 (some .int) ∈ lwg := lwg_of (List.mem_of_getElem? (i := 694) (by decide +kernel)) (by decide +kernel)
theorem in_X0_read : Cond.instanceMethod yX0_read ∈ lwg := lwg_of (List.mem_of_getElem? (i := 692) (by decide +kernel)) (by decide +kernel)
theorem se_X0_read : Cond.selects yX0_read.cls yX0_read yX0_read ∈ lwg := lwg_of (List.mem_of_getElem? (i := 693) (by decide +kernel)) (by decide +kernel)
abbrev mX0_cut : Mi := (yX0_cut, cX0_cut, 4, none)
theorem cd_X0_cut : Cond.code yX0_cut cX0_cut 4 none ∈ lwg := lwg_of (List.mem_of_getElem? (i := 699) (by decide +kernel)) (by decide +kernel)
theorem in_X0_cut : Cond.instanceMethod yX0_cut ∈ lwg := lwg_of (List.mem_of_getElem? (i := 698) (by decide +kernel)) (by decide +kernel)
theorem se_X0_cut : Cond.selects yX0_cut.cls yX0_cut yX0_cut ∈ lwg := lwg_of (List.mem_of_getElem? (i := 7) (by decide +kernel)) (by decide +kernel)
abbrev mX0_digit : Mi := (yX0_digit, cX0_digit, 2, (some .int))
theorem cd_X0_digit : Cond.code yX0_digit cX0_digit 2 (some .int) ∈ lwg := lwg_of (List.mem_of_getElem? (i := 710) (by decide +kernel)) (by decide +kernel)
theorem in_X0_digit : Cond.instanceMethod yX0_digit ∈ lwg := lwg_of (List.mem_of_getElem? (i := 709) (by decide +kernel)) (by decide +kernel)
theorem se_X0_digit : Cond.selects yX0_digit.cls yX0_digit yX0_digit ∈ lwg := lwg_of (List.mem_of_getElem? (i := 9) (by decide +kernel)) (by decide +kernel)
abbrev mX0_number : Mi := (yX0_number, cX0_number, 4, (some .int))
theorem cd_X0_number : Cond.code yX0_number cX0_number 4 (some .int) ∈ lwg := lwg_of (List.mem_of_getElem? (i := 706) (by decide +kernel)) (by decide +kernel)
theorem in_X0_number : Cond.instanceMethod yX0_number ∈ lwg := lwg_of (List.mem_of_getElem? (i := 705) (by decide +kernel)) (by decide +kernel)
theorem se_X0_number : Cond.selects yX0_number.cls yX0_number yX0_number ∈ lwg := lwg_of (List.mem_of_getElem? (i := 8) (by decide +kernel)) (by decide +kernel)
abbrev mX0_isLetter : Mi := (yX0_isLetter, cX0_isLetter, 1, (some .boolean))
theorem cd_X0_isLetter : Cond.code yX0_isLetter cX0_isLetter 1 (some .boolean) ∈ lwg := lwg_of (List.mem_of_getElem? (i := 719) (by decide +kernel)) (by decide +kernel)
theorem st_X0_isLetter : Cond.static yX0_isLetter ∈ lwg := lwg_of (List.mem_of_getElem? (i := 718) (by decide +kernel)) (by decide +kernel)
abbrev mX0_letter : Mi := (yX0_letter, cX0_letter, 2, (some .int))
theorem cd_X0_letter : Cond.code yX0_letter cX0_letter 2 (some .int) ∈ lwg := lwg_of (List.mem_of_getElem? (i := 716) (by decide +kernel)) (by decide +kernel)
theorem in_X0_letter : Cond.instanceMethod yX0_letter ∈ lwg := lwg_of (List.mem_of_getElem? (i := 715) (by decide +kernel)) (by decide +kernel)
theorem se_X0_letter : Cond.selects yX0_letter.cls yX0_letter yX0_letter ∈ lwg := lwg_of (List.mem_of_getElem? (i := 10) (by decide +kernel)) (by decide +kernel)
abbrev mX0_secondOne : Mi := (yX0_secondOne, cX0_secondOne, 5, (some .int))
theorem cd_X0_secondOne : Cond.code yX0_secondOne cX0_secondOne 5 (some .int) ∈ lwg := lwg_of (List.mem_of_getElem? (i := 723) (by decide +kernel)) (by decide +kernel)
theorem in_X0_secondOne : Cond.instanceMethod yX0_secondOne ∈ lwg := lwg_of (List.mem_of_getElem? (i := 722) (by decide +kernel)) (by decide +kernel)
theorem se_X0_secondOne : Cond.selects yX0_secondOne.cls yX0_secondOne yX0_secondOne ∈ lwg := lwg_of (List.mem_of_getElem? (i := 11) (by decide +kernel)) (by decide +kernel)
abbrev mX1_init : Mi := (yX1_init, cX1_init, 1, none)
theorem cd_X1_init : Cond.code yX1_init cX1_init 1 none ∈ lwg := lwg_of (List.mem_of_getElem? (i := 156) (by decide +kernel)) (by decide +kernel)
theorem in_X1_init : Cond.instanceMethod yX1_init ∈ lwg := lwg_of (List.mem_of_getElem? (i := 155) (by decide +kernel)) (by decide +kernel)
abbrev mX1_copyOf : Mi := (yX1_copyOf, cX1_copyOf, 2, none)
theorem cd_X1_copyOf : Cond.code yX1_copyOf cX1_copyOf 2 none ∈ lwg := lwg_of (List.mem_of_getElem? (i := 728) (by decide +kernel)) (by decide +kernel)
theorem in_X1_copyOf : Cond.instanceMethod yX1_copyOf ∈ lwg := lwg_of (List.mem_of_getElem? (i := 726) (by decide +kernel)) (by decide +kernel)
theorem se_X1_copyOf : Cond.selects yX1_copyOf.cls yX1_copyOf yX1_copyOf ∈ lwg := lwg_of (List.mem_of_getElem? (i := 727) (by decide +kernel)) (by decide +kernel)
abbrev mX1_letterBits : Mi := (yX1_letterBits, cX1_letterBits, 3, (some .int))
theorem cd_X1_letterBits : Cond.code yX1_letterBits cX1_letterBits 3 (some .int) ∈ lwg := lwg_of (List.mem_of_getElem? (i := 868) (by decide +kernel)) (by decide +kernel)
theorem in_X1_letterBits : Cond.instanceMethod yX1_letterBits ∈ lwg := lwg_of (List.mem_of_getElem? (i := 866) (by decide +kernel)) (by decide +kernel)
theorem se_X1_letterBits : Cond.selects yX1_letterBits.cls yX1_letterBits yX1_letterBits ∈ lwg := lwg_of (List.mem_of_getElem? (i := 867) (by decide +kernel)) (by decide +kernel)
abbrev mX1_dwellersAt : Mi := (yX1_dwellersAt, cX1_dwellersAt, 4, (some .int))
theorem cd_X1_dwellersAt : Cond.code yX1_dwellersAt cX1_dwellersAt 4 (some .int) ∈ lwg := lwg_of (List.mem_of_getElem? (i := 891) (by decide +kernel)) (by decide +kernel)
theorem in_X1_dwellersAt : Cond.instanceMethod yX1_dwellersAt ∈ lwg := lwg_of (List.mem_of_getElem? (i := 889) (by decide +kernel)) (by decide +kernel)
theorem se_X1_dwellersAt : Cond.selects yX1_dwellersAt.cls yX1_dwellersAt yX1_dwellersAt ∈ lwg := lwg_of (List.mem_of_getElem? (i := 890) (by decide +kernel)) (by decide +kernel)
abbrev mX2_init : Mi := (yX2_init, cX2_init, 1, none)
theorem cd_X2_init : Cond.code yX2_init cX2_init 1 none ∈ lwg := lwg_of (List.mem_of_getElem? (i := 354) (by decide +kernel)) (by decide +kernel)
theorem in_X2_init : Cond.instanceMethod yX2_init ∈ lwg := lwg_of (List.mem_of_getElem? (i := 353) (by decide +kernel)) (by decide +kernel)
abbrev mX2_gather : Mi := (yX2_gather, cX2_gather, 4, none)
theorem cd_X2_gather : Cond.code yX2_gather cX2_gather 4 none ∈ lwg := lwg_of (List.mem_of_getElem? (i := 899) (by decide +kernel)) (by decide +kernel)
theorem in_X2_gather : Cond.instanceMethod yX2_gather ∈ lwg := lwg_of (List.mem_of_getElem? (i := 897) (by decide +kernel)) (by decide +kernel)
theorem se_X2_gather : Cond.selects yX2_gather.cls yX2_gather yX2_gather ∈ lwg := lwg_of (List.mem_of_getElem? (i := 898) (by decide +kernel)) (by decide +kernel)
abbrev mX2_put : Mi := (yX2_put, cX2_put, 5, none)
theorem cd_X2_put : Cond.code yX2_put cX2_put 5 none ∈ lwg := lwg_of (List.mem_of_getElem? (i := 903) (by decide +kernel)) (by decide +kernel)
theorem in_X2_put : Cond.instanceMethod yX2_put ∈ lwg := lwg_of (List.mem_of_getElem? (i := 902) (by decide +kernel)) (by decide +kernel)
theorem se_X2_put : Cond.selects yX2_put.cls yX2_put yX2_put ∈ lwg := lwg_of (List.mem_of_getElem? (i := 22) (by decide +kernel)) (by decide +kernel)
abbrev mX2_within : Mi := (yX2_within, cX2_within, 9, (some .int))
theorem cd_X2_within : Cond.code yX2_within cX2_within 9 (some .int) ∈ lwg := lwg_of (List.mem_of_getElem? (i := 907) (by decide +kernel)) (by decide +kernel)
theorem in_X2_within : Cond.instanceMethod yX2_within ∈ lwg := lwg_of (List.mem_of_getElem? (i := 905) (by decide +kernel)) (by decide +kernel)
theorem se_X2_within : Cond.selects yX2_within.cls yX2_within yX2_within ∈ lwg := lwg_of (List.mem_of_getElem? (i := 906) (by decide +kernel)) (by decide +kernel)
abbrev mX2_putFence : Mi := (yX2_putFence, cX2_putFence, 3, none)
theorem cd_X2_putFence : Cond.code yX2_putFence cX2_putFence 3 none ∈ lwg := lwg_of (List.mem_of_getElem? (i := 931) (by decide +kernel)) (by decide +kernel)
theorem in_X2_putFence : Cond.instanceMethod yX2_putFence ∈ lwg := lwg_of (List.mem_of_getElem? (i := 929) (by decide +kernel)) (by decide +kernel)
theorem se_X2_putFence : Cond.selects yX2_putFence.cls yX2_putFence yX2_putFence ∈ lwg := lwg_of (List.mem_of_getElem? (i := 930) (by decide +kernel)) (by decide +kernel)
abbrev mX2_addCorner : Mi := (yX2_addCorner, cX2_addCorner, 4, none)
theorem cd_X2_addCorner : Cond.code yX2_addCorner cX2_addCorner 4 none ∈ lwg := lwg_of (List.mem_of_getElem? (i := 935) (by decide +kernel)) (by decide +kernel)
theorem in_X2_addCorner : Cond.instanceMethod yX2_addCorner ∈ lwg := lwg_of (List.mem_of_getElem? (i := 934) (by decide +kernel)) (by decide +kernel)
theorem se_X2_addCorner : Cond.selects yX2_addCorner.cls yX2_addCorner yX2_addCorner ∈ lwg := lwg_of (List.mem_of_getElem? (i := 25) (by decide +kernel)) (by decide +kernel)
abbrev mX2_twiceGround : Mi := (yX2_twiceGround, cX2_twiceGround, 3, (some .int))
theorem cd_X2_twiceGround : Cond.code yX2_twiceGround cX2_twiceGround 3 (some .int) ∈ lwg := lwg_of (List.mem_of_getElem? (i := 943) (by decide +kernel)) (by decide +kernel)
theorem in_X2_twiceGround : Cond.instanceMethod yX2_twiceGround ∈ lwg := lwg_of (List.mem_of_getElem? (i := 941) (by decide +kernel)) (by decide +kernel)
theorem se_X2_twiceGround : Cond.selects yX2_twiceGround.cls yX2_twiceGround yX2_twiceGround ∈ lwg := lwg_of (List.mem_of_getElem? (i := 942) (by decide +kernel)) (by decide +kernel)
abbrev mX2_leastPaths : Mi := (yX2_leastPaths, cX2_leastPaths, 5, (some .int))
theorem cd_X2_leastPaths : Cond.code yX2_leastPaths cX2_leastPaths 5 (some .int) ∈ lwg := lwg_of (List.mem_of_getElem? (i := 966) (by decide +kernel)) (by decide +kernel)
theorem in_X2_leastPaths : Cond.instanceMethod yX2_leastPaths ∈ lwg := lwg_of (List.mem_of_getElem? (i := 964) (by decide +kernel)) (by decide +kernel)
theorem se_X2_leastPaths : Cond.selects yX2_leastPaths.cls yX2_leastPaths yX2_leastPaths ∈ lwg := lwg_of (List.mem_of_getElem? (i := 965) (by decide +kernel)) (by decide +kernel)
abbrev mX2_nearestUnjoined : Mi := (yX2_nearestUnjoined, cX2_nearestUnjoined, 3, (some .int))
theorem cd_X2_nearestUnjoined : Cond.code yX2_nearestUnjoined cX2_nearestUnjoined 3 (some .int) ∈ lwg := lwg_of (List.mem_of_getElem? (i := 971) (by decide +kernel)) (by decide +kernel)
theorem in_X2_nearestUnjoined : Cond.instanceMethod yX2_nearestUnjoined ∈ lwg := lwg_of (List.mem_of_getElem? (i := 970) (by decide +kernel)) (by decide +kernel)
theorem se_X2_nearestUnjoined : Cond.selects yX2_nearestUnjoined.cls yX2_nearestUnjoined yX2_nearestUnjoined ∈ lwg := lwg_of (List.mem_of_getElem? (i := 26) (by decide +kernel)) (by decide +kernel)
abbrev mX3_init : Mi := (yX3_init, cX3_init, 1, none)
theorem cd_X3_init : Cond.code yX3_init cX3_init 1 none ∈ lwg := lwg_of (List.mem_of_getElem? (i := 237) (by decide +kernel)) (by decide +kernel)
theorem in_X3_init : Cond.instanceMethod yX3_init ∈ lwg := lwg_of (List.mem_of_getElem? (i := 236) (by decide +kernel)) (by decide +kernel)
abbrev mX3_copyOf : Mi := (yX3_copyOf, cX3_copyOf, 2, none)
theorem cd_X3_copyOf : Cond.code yX3_copyOf cX3_copyOf 2 none ∈ lwg := lwg_of (List.mem_of_getElem? (i := 682) (by decide +kernel)) (by decide +kernel)
theorem in_X3_copyOf : Cond.instanceMethod yX3_copyOf ∈ lwg := lwg_of (List.mem_of_getElem? (i := 680) (by decide +kernel)) (by decide +kernel)
theorem se_X3_copyOf : Cond.selects yX3_copyOf.cls yX3_copyOf yX3_copyOf ∈ lwg := lwg_of (List.mem_of_getElem? (i := 681) (by decide +kernel)) (by decide +kernel)
abbrev mX3_add : Mi := (yX3_add, cX3_add, 3, none)
theorem cd_X3_add : Cond.code yX3_add cX3_add 3 none ∈ lwg := lwg_of (List.mem_of_getElem? (i := 646) (by decide +kernel)) (by decide +kernel)
theorem in_X3_add : Cond.instanceMethod yX3_add ∈ lwg := lwg_of (List.mem_of_getElem? (i := 644) (by decide +kernel)) (by decide +kernel)
theorem se_X3_add : Cond.selects yX3_add.cls yX3_add yX3_add ∈ lwg := lwg_of (List.mem_of_getElem? (i := 645) (by decide +kernel)) (by decide +kernel)
abbrev mX3_addJump : Mi := (yX3_addJump, cX3_addJump, 3, (some .int))
theorem cd_X3_addJump : Cond.code yX3_addJump cX3_addJump 3 (some .int) ∈ lwg := lwg_of (List.mem_of_getElem? (i := 665) (by decide +kernel)) (by decide +kernel)
theorem in_X3_addJump : Cond.instanceMethod yX3_addJump ∈ lwg := lwg_of (List.mem_of_getElem? (i := 663) (by decide +kernel)) (by decide +kernel)
theorem se_X3_addJump : Cond.selects yX3_addJump.cls yX3_addJump yX3_addJump ∈ lwg := lwg_of (List.mem_of_getElem? (i := 664) (by decide +kernel)) (by decide +kernel)
abbrev mX3_endJumps : Mi := (yX3_endJumps, cX3_endJumps, 5, none)
theorem cd_X3_endJumps : Cond.code yX3_endJumps cX3_endJumps 5 none ∈ lwg := lwg_of (List.mem_of_getElem? (i := 670) (by decide +kernel)) (by decide +kernel)
theorem in_X3_endJumps : Cond.instanceMethod yX3_endJumps ∈ lwg := lwg_of (List.mem_of_getElem? (i := 668) (by decide +kernel)) (by decide +kernel)
theorem se_X3_endJumps : Cond.selects yX3_endJumps.cls yX3_endJumps yX3_endJumps ∈ lwg := lwg_of (List.mem_of_getElem? (i := 669) (by decide +kernel)) (by decide +kernel)
abbrev mX3_fells : Mi := (yX3_fells, cX3_fells, 3, (some .boolean))
theorem cd_X3_fells : Cond.code yX3_fells cX3_fells 3 (some .boolean) ∈ lwg := lwg_of (List.mem_of_getElem? (i := 779) (by decide +kernel)) (by decide +kernel)
theorem in_X3_fells : Cond.instanceMethod yX3_fells ∈ lwg := lwg_of (List.mem_of_getElem? (i := 777) (by decide +kernel)) (by decide +kernel)
theorem se_X3_fells : Cond.selects yX3_fells.cls yX3_fells yX3_fells ∈ lwg := lwg_of (List.mem_of_getElem? (i := 778) (by decide +kernel)) (by decide +kernel)
abbrev mX3_worthOf : Mi := (yX3_worthOf, cX3_worthOf, 7, (some .int))
theorem cd_X3_worthOf : Cond.code yX3_worthOf cX3_worthOf 7 (some .int) ∈ lwg := lwg_of (List.mem_of_getElem? (i := 800) (by decide +kernel)) (by decide +kernel)
theorem in_X3_worthOf : Cond.instanceMethod yX3_worthOf ∈ lwg := lwg_of (List.mem_of_getElem? (i := 798) (by decide +kernel)) (by decide +kernel)
theorem se_X3_worthOf : Cond.selects yX3_worthOf.cls yX3_worthOf yX3_worthOf ∈ lwg := lwg_of (List.mem_of_getElem? (i := 799) (by decide +kernel)) (by decide +kernel)
abbrev mX3_holds : Mi := (yX3_holds, cX3_holds, 3, (some .boolean))
theorem cd_X3_holds : Cond.code yX3_holds cX3_holds 3 (some .boolean) ∈ lwg := lwg_of (List.mem_of_getElem? (i := 783) (by decide +kernel)) (by decide +kernel)
theorem in_X3_holds : Cond.instanceMethod yX3_holds ∈ lwg := lwg_of (List.mem_of_getElem? (i := 782) (by decide +kernel)) (by decide +kernel)
theorem se_X3_holds : Cond.selects yX3_holds.cls yX3_holds yX3_holds ∈ lwg := lwg_of (List.mem_of_getElem? (i := 16) (by decide +kernel)) (by decide +kernel)
abbrev mX3_reckon : Mi := (yX3_reckon, cX3_reckon, 9, (some .int))
theorem cd_X3_reckon : Cond.code yX3_reckon cX3_reckon 9 (some .int) ∈ lwg := lwg_of (List.mem_of_getElem? (i := 787) (by decide +kernel)) (by decide +kernel)
theorem in_X3_reckon : Cond.instanceMethod yX3_reckon ∈ lwg := lwg_of (List.mem_of_getElem? (i := 786) (by decide +kernel)) (by decide +kernel)
theorem se_X3_reckon : Cond.selects yX3_reckon.cls yX3_reckon yX3_reckon ∈ lwg := lwg_of (List.mem_of_getElem? (i := 17) (by decide +kernel)) (by decide +kernel)
abbrev mX3_operand : Mi := (yX3_operand, cX3_operand, 4, (some .int))
theorem cd_X3_operand : Cond.code yX3_operand cX3_operand 4 (some .int) ∈ lwg := lwg_of (List.mem_of_getElem? (i := 791) (by decide +kernel)) (by decide +kernel)
theorem st_X3_operand : Cond.static yX3_operand ∈ lwg := lwg_of (List.mem_of_getElem? (i := 790) (by decide +kernel)) (by decide +kernel)
abbrev mX3_joined : Mi := (yX3_joined, cX3_joined, 4, (some .int))
theorem cd_X3_joined : Cond.code yX3_joined cX3_joined 4 (some .int) ∈ lwg := lwg_of (List.mem_of_getElem? (i := 796) (by decide +kernel)) (by decide +kernel)
theorem in_X3_joined : Cond.instanceMethod yX3_joined ∈ lwg := lwg_of (List.mem_of_getElem? (i := 795) (by decide +kernel)) (by decide +kernel)
theorem se_X3_joined : Cond.selects yX3_joined.cls yX3_joined yX3_joined ∈ lwg := lwg_of (List.mem_of_getElem? (i := 18) (by decide +kernel)) (by decide +kernel)
abbrev mX4_init : Mi := (yX4_init, cX4_init, 2, none)
theorem cd_X4_init : Cond.code yX4_init cX4_init 2 none ∈ lwg := lwg_of (List.mem_of_getElem? (i := 278) (by decide +kernel)) (by decide +kernel)
theorem in_X4_init : Cond.instanceMethod yX4_init ∈ lwg := lwg_of (List.mem_of_getElem? (i := 277) (by decide +kernel)) (by decide +kernel)
abbrev mX4_read : Mi := (yX4_read, cX4_read, 4, (some .int))
theorem cd_X4_read : Cond.code yX4_read cX4_read 4 (some .int) ∈ lwg := lwg_of (List.mem_of_getElem? (i := 520) (by decide +kernel)) (by decide +kernel)
theorem in_X4_read : Cond.instanceMethod yX4_read ∈ lwg := lwg_of (List.mem_of_getElem? (i := 518) (by decide +kernel)) (by decide +kernel)
theorem se_X4_read : Cond.selects yX4_read.cls yX4_read yX4_read ∈ lwg := lwg_of (List.mem_of_getElem? (i := 519) (by decide +kernel)) (by decide +kernel)
abbrev mX4_rule : Mi := (yX4_rule, cX4_rule, 3, none)
theorem cd_X4_rule : Cond.code yX4_rule cX4_rule 3 none ∈ lwg := lwg_of (List.mem_of_getElem? (i := 531) (by decide +kernel)) (by decide +kernel)
theorem in_X4_rule : Cond.instanceMethod yX4_rule ∈ lwg := lwg_of (List.mem_of_getElem? (i := 530) (by decide +kernel)) (by decide +kernel)
theorem se_X4_rule : Cond.selects yX4_rule.cls yX4_rule yX4_rule ∈ lwg := lwg_of (List.mem_of_getElem? (i := 1) (by decide +kernel)) (by decide +kernel)
abbrev mX4_mayOpen : Mi := (yX4_mayOpen, cX4_mayOpen, 2, (some .boolean))
theorem cd_X4_mayOpen : Cond.code yX4_mayOpen cX4_mayOpen 2 (some .boolean) ∈ lwg := lwg_of (List.mem_of_getElem? (i := 636) (by decide +kernel)) (by decide +kernel)
theorem in_X4_mayOpen : Cond.instanceMethod yX4_mayOpen ∈ lwg := lwg_of (List.mem_of_getElem? (i := 635) (by decide +kernel)) (by decide +kernel)
theorem se_X4_mayOpen : Cond.selects yX4_mayOpen.cls yX4_mayOpen yX4_mayOpen ∈ lwg := lwg_of (List.mem_of_getElem? (i := 4) (by decide +kernel)) (by decide +kernel)
abbrev mX4_condition : Mi := (yX4_condition, cX4_condition, 8, none)
theorem cd_X4_condition : Cond.code yX4_condition cX4_condition 8 none ∈ lwg := lwg_of (List.mem_of_getElem? (i := 653) (by decide +kernel)) (by decide +kernel)
theorem in_X4_condition : Cond.instanceMethod yX4_condition ∈ lwg := lwg_of (List.mem_of_getElem? (i := 652) (by decide +kernel)) (by decide +kernel)
theorem se_X4_condition : Cond.selects yX4_condition.cls yX4_condition yX4_condition ∈ lwg := lwg_of (List.mem_of_getElem? (i := 5) (by decide +kernel)) (by decide +kernel)
abbrev mX4_test : Mi := (yX4_test, cX4_test, 4, none)
theorem cd_X4_test : Cond.code yX4_test cX4_test 4 none ∈ lwg := lwg_of (List.mem_of_getElem? (i := 657) (by decide +kernel)) (by decide +kernel)
theorem in_X4_test : Cond.instanceMethod yX4_test ∈ lwg := lwg_of (List.mem_of_getElem? (i := 656) (by decide +kernel)) (by decide +kernel)
theorem se_X4_test : Cond.selects yX4_test.cls yX4_test yX4_test ∈ lwg := lwg_of (List.mem_of_getElem? (i := 6) (by decide +kernel)) (by decide +kernel)
abbrev mX4_sum : Mi := (yX4_sum, cX4_sum, 7, none)
theorem cd_X4_sum : Cond.code yX4_sum cX4_sum 7 none ∈ lwg := lwg_of (List.mem_of_getElem? (i := 543) (by decide +kernel)) (by decide +kernel)
theorem in_X4_sum : Cond.instanceMethod yX4_sum ∈ lwg := lwg_of (List.mem_of_getElem? (i := 542) (by decide +kernel)) (by decide +kernel)
theorem se_X4_sum : Cond.selects yX4_sum.cls yX4_sum yX4_sum ∈ lwg := lwg_of (List.mem_of_getElem? (i := 2) (by decide +kernel)) (by decide +kernel)
abbrev mX4_factor : Mi := (yX4_factor, cX4_factor, 6, none)
theorem cd_X4_factor : Cond.code yX4_factor cX4_factor 6 none ∈ lwg := lwg_of (List.mem_of_getElem? (i := 547) (by decide +kernel)) (by decide +kernel)
theorem in_X4_factor : Cond.instanceMethod yX4_factor ∈ lwg := lwg_of (List.mem_of_getElem? (i := 546) (by decide +kernel)) (by decide +kernel)
theorem se_X4_factor : Cond.selects yX4_factor.cls yX4_factor yX4_factor ∈ lwg := lwg_of (List.mem_of_getElem? (i := 3) (by decide +kernel)) (by decide +kernel)
abbrev mX5_init : Mi := (yX5_init, cX5_init, 1, none)
theorem cd_X5_init : Cond.code yX5_init cX5_init 1 none ∈ lwg := lwg_of (List.mem_of_getElem? (i := 421) (by decide +kernel)) (by decide +kernel)
theorem in_X5_init : Cond.instanceMethod yX5_init ∈ lwg := lwg_of (List.mem_of_getElem? (i := 420) (by decide +kernel)) (by decide +kernel)
abbrev mX5_read : Mi := (yX5_read, cX5_read, 6, (some .boolean))
theorem cd_X5_read : Cond.code yX5_read cX5_read 6 (some .boolean) ∈ lwg := lwg_of (List.mem_of_getElem? (i := 1035) (by decide +kernel)) (by decide +kernel)
theorem in_X5_read : Cond.instanceMethod yX5_read ∈ lwg := lwg_of (List.mem_of_getElem? (i := 1033) (by decide +kernel)) (by decide +kernel)
theorem se_X5_read : Cond.selects yX5_read.cls yX5_read yX5_read ∈ lwg := lwg_of (List.mem_of_getElem? (i := 1034) (by decide +kernel)) (by decide +kernel)
abbrev mX5_readRow : Mi := (yX5_readRow, cX5_readRow, 8, (some .boolean))
theorem cd_X5_readRow : Cond.code yX5_readRow cX5_readRow 8 (some .boolean) ∈ lwg := lwg_of (List.mem_of_getElem? (i := 1039) (by decide +kernel)) (by decide +kernel)
theorem in_X5_readRow : Cond.instanceMethod yX5_readRow ∈ lwg := lwg_of (List.mem_of_getElem? (i := 1038) (by decide +kernel)) (by decide +kernel)
theorem se_X5_readRow : Cond.selects yX5_readRow.cls yX5_readRow yX5_readRow ∈ lwg := lwg_of (List.mem_of_getElem? (i := 30) (by decide +kernel)) (by decide +kernel)
abbrev mX5_whomGets : Mi := (yX5_whomGets, cX5_whomGets, 4, (some .int))
theorem cd_X5_whomGets : Cond.code yX5_whomGets cX5_whomGets 4 (some .int) ∈ lwg := lwg_of (List.mem_of_getElem? (i := 1060) (by decide +kernel)) (by decide +kernel)
theorem in_X5_whomGets : Cond.instanceMethod yX5_whomGets ∈ lwg := lwg_of (List.mem_of_getElem? (i := 1058) (by decide +kernel)) (by decide +kernel)
theorem se_X5_whomGets : Cond.selects yX5_whomGets.cls yX5_whomGets yX5_whomGets ∈ lwg := lwg_of (List.mem_of_getElem? (i := 1059) (by decide +kernel)) (by decide +kernel)
abbrev mX5_oneFree : Mi := (yX5_oneFree, cX5_oneFree, 2, (some .int))
theorem cd_X5_oneFree : Cond.code yX5_oneFree cX5_oneFree 2 (some .int) ∈ lwg := lwg_of (List.mem_of_getElem? (i := 1064) (by decide +kernel)) (by decide +kernel)
theorem in_X5_oneFree : Cond.instanceMethod yX5_oneFree ∈ lwg := lwg_of (List.mem_of_getElem? (i := 1063) (by decide +kernel)) (by decide +kernel)
theorem se_X5_oneFree : Cond.selects yX5_oneFree.cls yX5_oneFree yX5_oneFree ∈ lwg := lwg_of (List.mem_of_getElem? (i := 34) (by decide +kernel)) (by decide +kernel)
abbrev mX5_ask : Mi := (yX5_ask, cX5_ask, 4, none)
theorem cd_X5_ask : Cond.code yX5_ask cX5_ask 4 none ∈ lwg := lwg_of (List.mem_of_getElem? (i := 1068) (by decide +kernel)) (by decide +kernel)
theorem in_X5_ask : Cond.instanceMethod yX5_ask ∈ lwg := lwg_of (List.mem_of_getElem? (i := 1067) (by decide +kernel)) (by decide +kernel)
theorem se_X5_ask : Cond.selects yX5_ask.cls yX5_ask yX5_ask ∈ lwg := lwg_of (List.mem_of_getElem? (i := 35) (by decide +kernel)) (by decide +kernel)
abbrev mX5_howManyLast : Mi := (yX5_howManyLast, cX5_howManyLast, 1, (some .int))
theorem cd_X5_howManyLast : Cond.code yX5_howManyLast cX5_howManyLast 1 (some .int) ∈ lwg := lwg_of (List.mem_of_getElem? (i := 1044) (by decide +kernel)) (by decide +kernel)
theorem in_X5_howManyLast : Cond.instanceMethod yX5_howManyLast ∈ lwg := lwg_of (List.mem_of_getElem? (i := 1042) (by decide +kernel)) (by decide +kernel)
theorem se_X5_howManyLast : Cond.selects yX5_howManyLast.cls yX5_howManyLast yX5_howManyLast ∈ lwg := lwg_of (List.mem_of_getElem? (i := 1043) (by decide +kernel)) (by decide +kernel)
abbrev mX5_lasting : Mi := (yX5_lasting, cX5_lasting, 5, (some .int))
theorem cd_X5_lasting : Cond.code yX5_lasting cX5_lasting 5 (some .int) ∈ lwg := lwg_of (List.mem_of_getElem? (i := 1048) (by decide +kernel)) (by decide +kernel)
theorem in_X5_lasting : Cond.instanceMethod yX5_lasting ∈ lwg := lwg_of (List.mem_of_getElem? (i := 1047) (by decide +kernel)) (by decide +kernel)
theorem se_X5_lasting : Cond.selects yX5_lasting.cls yX5_lasting yX5_lasting ∈ lwg := lwg_of (List.mem_of_getElem? (i := 31) (by decide +kernel)) (by decide +kernel)
abbrev mX5_isAtPeace : Mi := (yX5_isAtPeace, cX5_isAtPeace, 3, (some .boolean))
theorem cd_X5_isAtPeace : Cond.code yX5_isAtPeace cX5_isAtPeace 3 (some .boolean) ∈ lwg := lwg_of (List.mem_of_getElem? (i := 1052) (by decide +kernel)) (by decide +kernel)
theorem in_X5_isAtPeace : Cond.instanceMethod yX5_isAtPeace ∈ lwg := lwg_of (List.mem_of_getElem? (i := 1051) (by decide +kernel)) (by decide +kernel)
theorem se_X5_isAtPeace : Cond.selects yX5_isAtPeace.cls yX5_isAtPeace yX5_isAtPeace ∈ lwg := lwg_of (List.mem_of_getElem? (i := 32) (by decide +kernel)) (by decide +kernel)
abbrev mX5_wouldRather : Mi := (yX5_wouldRather, cX5_wouldRather, 4, (some .boolean))
theorem cd_X5_wouldRather : Cond.code yX5_wouldRather cX5_wouldRather 4 (some .boolean) ∈ lwg := lwg_of (List.mem_of_getElem? (i := 1056) (by decide +kernel)) (by decide +kernel)
theorem in_X5_wouldRather : Cond.instanceMethod yX5_wouldRather ∈ lwg := lwg_of (List.mem_of_getElem? (i := 1055) (by decide +kernel)) (by decide +kernel)
theorem se_X5_wouldRather : Cond.selects yX5_wouldRather.cls yX5_wouldRather yX5_wouldRather ∈ lwg := lwg_of (List.mem_of_getElem? (i := 33) (by decide +kernel)) (by decide +kernel)
abbrev mX6_init : Mi := (yX6_init, cX6_init, 1, none)
theorem cd_X6_init : Cond.code yX6_init cX6_init 1 none ∈ lwg := lwg_of (List.mem_of_getElem? (i := 378) (by decide +kernel)) (by decide +kernel)
theorem in_X6_init : Cond.instanceMethod yX6_init ∈ lwg := lwg_of (List.mem_of_getElem? (i := 377) (by decide +kernel)) (by decide +kernel)
abbrev mX6_tellRound : Mi := (yX6_tellRound, cX6_tellRound, 7, none)
theorem cd_X6_tellRound : Cond.code yX6_tellRound cX6_tellRound 7 none ∈ lwg := lwg_of (List.mem_of_getElem? (i := 990) (by decide +kernel)) (by decide +kernel)
theorem in_X6_tellRound : Cond.instanceMethod yX6_tellRound ∈ lwg := lwg_of (List.mem_of_getElem? (i := 988) (by decide +kernel)) (by decide +kernel)
theorem se_X6_tellRound : Cond.selects yX6_tellRound.cls yX6_tellRound yX6_tellRound ∈ lwg := lwg_of (List.mem_of_getElem? (i := 989) (by decide +kernel)) (by decide +kernel)
abbrev mX6_wayHome : Mi := (yX6_wayHome, cX6_wayHome, 8, (some .int))
theorem cd_X6_wayHome : Cond.code yX6_wayHome cX6_wayHome 8 (some .int) ∈ lwg := lwg_of (List.mem_of_getElem? (i := 994) (by decide +kernel)) (by decide +kernel)
theorem in_X6_wayHome : Cond.instanceMethod yX6_wayHome ∈ lwg := lwg_of (List.mem_of_getElem? (i := 993) (by decide +kernel)) (by decide +kernel)
theorem se_X6_wayHome : Cond.selects yX6_wayHome.cls yX6_wayHome yX6_wayHome ∈ lwg := lwg_of (List.mem_of_getElem? (i := 27) (by decide +kernel)) (by decide +kernel)
abbrev mX6_chooseFirst : Mi := (yX6_chooseFirst, cX6_chooseFirst, 5, none)
theorem cd_X6_chooseFirst : Cond.code yX6_chooseFirst cX6_chooseFirst 5 none ∈ lwg := lwg_of (List.mem_of_getElem? (i := 1001) (by decide +kernel)) (by decide +kernel)
theorem in_X6_chooseFirst : Cond.instanceMethod yX6_chooseFirst ∈ lwg := lwg_of (List.mem_of_getElem? (i := 1000) (by decide +kernel)) (by decide +kernel)
theorem se_X6_chooseFirst : Cond.selects yX6_chooseFirst.cls yX6_chooseFirst yX6_chooseFirst ∈ lwg := lwg_of (List.mem_of_getElem? (i := 28) (by decide +kernel)) (by decide +kernel)
abbrev mX6_readTwos : Mi := (yX6_readTwos, cX6_readTwos, 7, (some .boolean))
theorem cd_X6_readTwos : Cond.code yX6_readTwos cX6_readTwos 7 (some .boolean) ∈ lwg := lwg_of (List.mem_of_getElem? (i := 1076) (by decide +kernel)) (by decide +kernel)
theorem in_X6_readTwos : Cond.instanceMethod yX6_readTwos ∈ lwg := lwg_of (List.mem_of_getElem? (i := 1074) (by decide +kernel)) (by decide +kernel)
theorem se_X6_readTwos : Cond.selects yX6_readTwos.cls yX6_readTwos yX6_readTwos ∈ lwg := lwg_of (List.mem_of_getElem? (i := 1075) (by decide +kernel)) (by decide +kernel)
abbrev mX6_tellOrders : Mi := (yX6_tellOrders, cX6_tellOrders, 7, (some .int))
theorem cd_X6_tellOrders : Cond.code yX6_tellOrders cX6_tellOrders 7 (some .int) ∈ lwg := lwg_of (List.mem_of_getElem? (i := 1081) (by decide +kernel)) (by decide +kernel)
theorem in_X6_tellOrders : Cond.instanceMethod yX6_tellOrders ∈ lwg := lwg_of (List.mem_of_getElem? (i := 1079) (by decide +kernel)) (by decide +kernel)
theorem se_X6_tellOrders : Cond.selects yX6_tellOrders.cls yX6_tellOrders yX6_tellOrders ∈ lwg := lwg_of (List.mem_of_getElem? (i := 1080) (by decide +kernel)) (by decide +kernel)
abbrev mX6_earliest : Mi := (yX6_earliest, cX6_earliest, 7, (some .int))
theorem cd_X6_earliest : Cond.code yX6_earliest cX6_earliest 7 (some .int) ∈ lwg := lwg_of (List.mem_of_getElem? (i := 1085) (by decide +kernel)) (by decide +kernel)
theorem in_X6_earliest : Cond.instanceMethod yX6_earliest ∈ lwg := lwg_of (List.mem_of_getElem? (i := 1083) (by decide +kernel)) (by decide +kernel)
theorem se_X6_earliest : Cond.selects yX6_earliest.cls yX6_earliest yX6_earliest ∈ lwg := lwg_of (List.mem_of_getElem? (i := 1084) (by decide +kernel)) (by decide +kernel)
abbrev mX7_init : Mi := (yX7_init, cX7_init, 1, none)
theorem cd_X7_init : Cond.code yX7_init cX7_init 1 none ∈ lwg := lwg_of (List.mem_of_getElem? (i := 405) (by decide +kernel)) (by decide +kernel)
theorem in_X7_init : Cond.instanceMethod yX7_init ∈ lwg := lwg_of (List.mem_of_getElem? (i := 404) (by decide +kernel)) (by decide +kernel)
abbrev mX7_read : Mi := (yX7_read, cX7_read, 8, (some .boolean))
theorem cd_X7_read : Cond.code yX7_read cX7_read 8 (some .boolean) ∈ lwg := lwg_of (List.mem_of_getElem? (i := 1009) (by decide +kernel)) (by decide +kernel)
theorem in_X7_read : Cond.instanceMethod yX7_read ∈ lwg := lwg_of (List.mem_of_getElem? (i := 1007) (by decide +kernel)) (by decide +kernel)
theorem se_X7_read : Cond.selects yX7_read.cls yX7_read yX7_read ∈ lwg := lwg_of (List.mem_of_getElem? (i := 1008) (by decide +kernel)) (by decide +kernel)
abbrev mX7_stock : Mi := (yX7_stock, cX7_stock, 5, none)
theorem cd_X7_stock : Cond.code yX7_stock cX7_stock 5 none ∈ lwg := lwg_of (List.mem_of_getElem? (i := 1017) (by decide +kernel)) (by decide +kernel)
theorem in_X7_stock : Cond.instanceMethod yX7_stock ∈ lwg := lwg_of (List.mem_of_getElem? (i := 1015) (by decide +kernel)) (by decide +kernel)
theorem se_X7_stock : Cond.selects yX7_stock.cls yX7_stock yX7_stock ∈ lwg := lwg_of (List.mem_of_getElem? (i := 1016) (by decide +kernel)) (by decide +kernel)
abbrev mX7_mostAtOnce : Mi := (yX7_mostAtOnce, cX7_mostAtOnce, 3, (some .int))
theorem cd_X7_mostAtOnce : Cond.code yX7_mostAtOnce cX7_mostAtOnce 3 (some .int) ∈ lwg := lwg_of (List.mem_of_getElem? (i := 1022) (by decide +kernel)) (by decide +kernel)
theorem in_X7_mostAtOnce : Cond.instanceMethod yX7_mostAtOnce ∈ lwg := lwg_of (List.mem_of_getElem? (i := 1020) (by decide +kernel)) (by decide +kernel)
theorem se_X7_mostAtOnce : Cond.selects yX7_mostAtOnce.cls yX7_mostAtOnce yX7_mostAtOnce ∈ lwg := lwg_of (List.mem_of_getElem? (i := 1021) (by decide +kernel)) (by decide +kernel)
abbrev mX7_canSpell : Mi := (yX7_canSpell, cX7_canSpell, 5, (some .boolean))
theorem cd_X7_canSpell : Cond.code yX7_canSpell cX7_canSpell 5 (some .boolean) ∈ lwg := lwg_of (List.mem_of_getElem? (i := 1027) (by decide +kernel)) (by decide +kernel)
theorem in_X7_canSpell : Cond.instanceMethod yX7_canSpell ∈ lwg := lwg_of (List.mem_of_getElem? (i := 1026) (by decide +kernel)) (by decide +kernel)
theorem se_X7_canSpell : Cond.selects yX7_canSpell.cls yX7_canSpell yX7_canSpell ∈ lwg := lwg_of (List.mem_of_getElem? (i := 29) (by decide +kernel)) (by decide +kernel)
abbrev mX8_init : Mi := (yX8_init, cX8_init, 1, none)
theorem cd_X8_init : Cond.code yX8_init cX8_init 1 none ∈ lwg := lwg_of (List.mem_of_getElem? (i := 294) (by decide +kernel)) (by decide +kernel)
theorem in_X8_init : Cond.instanceMethod yX8_init ∈ lwg := lwg_of (List.mem_of_getElem? (i := 293) (by decide +kernel)) (by decide +kernel)
abbrev mX8_begin : Mi := (yX8_begin, cX8_begin, 3, none)
theorem cd_X8_begin : Cond.code yX8_begin cX8_begin 3 none ∈ lwg := lwg_of (List.mem_of_getElem? (i := 733) (by decide +kernel)) (by decide +kernel)
theorem in_X8_begin : Cond.instanceMethod yX8_begin ∈ lwg := lwg_of (List.mem_of_getElem? (i := 731) (by decide +kernel)) (by decide +kernel)
theorem se_X8_begin : Cond.selects yX8_begin.cls yX8_begin yX8_begin ∈ lwg := lwg_of (List.mem_of_getElem? (i := 732) (by decide +kernel)) (by decide +kernel)
abbrev mX8_copyOf : Mi := (yX8_copyOf, cX8_copyOf, 4, none)
theorem cd_X8_copyOf : Cond.code yX8_copyOf cX8_copyOf 4 none ∈ lwg := lwg_of (List.mem_of_getElem? (i := 828) (by decide +kernel)) (by decide +kernel)
theorem in_X8_copyOf : Cond.instanceMethod yX8_copyOf ∈ lwg := lwg_of (List.mem_of_getElem? (i := 826) (by decide +kernel)) (by decide +kernel)
theorem se_X8_copyOf : Cond.selects yX8_copyOf.cls yX8_copyOf yX8_copyOf ∈ lwg := lwg_of (List.mem_of_getElem? (i := 827) (by decide +kernel)) (by decide +kernel)
abbrev mX8_nextDraw : Mi := (yX8_nextDraw, cX8_nextDraw, 1, (some .int))
theorem cd_X8_nextDraw : Cond.code yX8_nextDraw cX8_nextDraw 1 (some .int) ∈ lwg := lwg_of (List.mem_of_getElem? (i := 774) (by decide +kernel)) (by decide +kernel)
theorem in_X8_nextDraw : Cond.instanceMethod yX8_nextDraw ∈ lwg := lwg_of (List.mem_of_getElem? (i := 772) (by decide +kernel)) (by decide +kernel)
theorem se_X8_nextDraw : Cond.selects yX8_nextDraw.cls yX8_nextDraw yX8_nextDraw ∈ lwg := lwg_of (List.mem_of_getElem? (i := 773) (by decide +kernel)) (by decide +kernel)
abbrev mX8_areTogether : Mi := (yX8_areTogether, cX8_areTogether, 3, (some .boolean))
theorem cd_X8_areTogether : Cond.code yX8_areTogether cX8_areTogether 3 (some .boolean) ∈ lwg := lwg_of (List.mem_of_getElem? (i := 847) (by decide +kernel)) (by decide +kernel)
theorem in_X8_areTogether : Cond.instanceMethod yX8_areTogether ∈ lwg := lwg_of (List.mem_of_getElem? (i := 845) (by decide +kernel)) (by decide +kernel)
theorem se_X8_areTogether : Cond.selects yX8_areTogether.cls yX8_areTogether yX8_areTogether ∈ lwg := lwg_of (List.mem_of_getElem? (i := 846) (by decide +kernel)) (by decide +kernel)
abbrev mX8_bitsOf : Mi := (yX8_bitsOf, cX8_bitsOf, 5, (some .int))
theorem cd_X8_bitsOf : Cond.code yX8_bitsOf cX8_bitsOf 5 (some .int) ∈ lwg := lwg_of (List.mem_of_getElem? (i := 835) (by decide +kernel)) (by decide +kernel)
theorem in_X8_bitsOf : Cond.instanceMethod yX8_bitsOf ∈ lwg := lwg_of (List.mem_of_getElem? (i := 833) (by decide +kernel)) (by decide +kernel)
theorem se_X8_bitsOf : Cond.selects yX8_bitsOf.cls yX8_bitsOf yX8_bitsOf ∈ lwg := lwg_of (List.mem_of_getElem? (i := 834) (by decide +kernel)) (by decide +kernel)
abbrev mX8_calledByAll : Mi := (yX8_calledByAll, cX8_calledByAll, 4, (some .int))
theorem cd_X8_calledByAll : Cond.code yX8_calledByAll cX8_calledByAll 4 (some .int) ∈ lwg := lwg_of (List.mem_of_getElem? (i := 1112) (by decide +kernel)) (by decide +kernel)
theorem in_X8_calledByAll : Cond.instanceMethod yX8_calledByAll ∈ lwg := lwg_of (List.mem_of_getElem? (i := 1110) (by decide +kernel)) (by decide +kernel)
theorem se_X8_calledByAll : Cond.selects yX8_calledByAll.cls yX8_calledByAll yX8_calledByAll ∈ lwg := lwg_of (List.mem_of_getElem? (i := 1111) (by decide +kernel)) (by decide +kernel)
abbrev mX9_init : Mi := (yX9_init, cX9_init, 1, none)
theorem cd_X9_init : Cond.code yX9_init cX9_init 1 none ∈ lwg := lwg_of (List.mem_of_getElem? (i := 130) (by decide +kernel)) (by decide +kernel)
theorem in_X9_init : Cond.instanceMethod yX9_init ∈ lwg := lwg_of (List.mem_of_getElem? (i := 129) (by decide +kernel)) (by decide +kernel)
abbrev mX9_addWord : Mi := (yX9_addWord, cX9_addWord, 3, none)
theorem cd_X9_addWord : Cond.code yX9_addWord cX9_addWord 3 none ∈ lwg := lwg_of (List.mem_of_getElem? (i := 512) (by decide +kernel)) (by decide +kernel)
theorem in_X9_addWord : Cond.instanceMethod yX9_addWord ∈ lwg := lwg_of (List.mem_of_getElem? (i := 510) (by decide +kernel)) (by decide +kernel)
theorem se_X9_addWord : Cond.selects yX9_addWord.cls yX9_addWord yX9_addWord ∈ lwg := lwg_of (List.mem_of_getElem? (i := 511) (by decide +kernel)) (by decide +kernel)
abbrev mX9_byteAt : Mi := (yX9_byteAt, cX9_byteAt, 2, (some .int))
theorem cd_X9_byteAt : Cond.code yX9_byteAt cX9_byteAt 2 (some .int) ∈ lwg := lwg_of (List.mem_of_getElem? (i := 1013) (by decide +kernel)) (by decide +kernel)
theorem in_X9_byteAt : Cond.instanceMethod yX9_byteAt ∈ lwg := lwg_of (List.mem_of_getElem? (i := 1011) (by decide +kernel)) (by decide +kernel)
theorem se_X9_byteAt : Cond.selects yX9_byteAt.cls yX9_byteAt yX9_byteAt ∈ lwg := lwg_of (List.mem_of_getElem? (i := 1012) (by decide +kernel)) (by decide +kernel)
abbrev mX9_clear : Mi := (yX9_clear, cX9_clear, 1, none)
theorem cd_X9_clear : Cond.code yX9_clear cX9_clear 1 none ∈ lwg := lwg_of (List.mem_of_getElem? (i := 678) (by decide +kernel)) (by decide +kernel)
theorem in_X9_clear : Cond.instanceMethod yX9_clear ∈ lwg := lwg_of (List.mem_of_getElem? (i := 676) (by decide +kernel)) (by decide +kernel)
theorem se_X9_clear : Cond.selects yX9_clear.cls yX9_clear yX9_clear ∈ lwg := lwg_of (List.mem_of_getElem? (i := 677) (by decide +kernel)) (by decide +kernel)
abbrev mX9_beginText : Mi := (yX9_beginText, cX9_beginText, 2, none)
theorem cd_X9_beginText : Cond.code yX9_beginText cX9_beginText 2 none ∈ lwg := lwg_of (List.mem_of_getElem? (i := 524) (by decide +kernel)) (by decide +kernel)
theorem in_X9_beginText : Cond.instanceMethod yX9_beginText ∈ lwg := lwg_of (List.mem_of_getElem? (i := 522) (by decide +kernel)) (by decide +kernel)
theorem se_X9_beginText : Cond.selects yX9_beginText.cls yX9_beginText yX9_beginText ∈ lwg := lwg_of (List.mem_of_getElem? (i := 523) (by decide +kernel)) (by decide +kernel)
abbrev mX9_sign : Mi := (yX9_sign, cX9_sign, 1, (some .int))
theorem cd_X9_sign : Cond.code yX9_sign cX9_sign 1 (some .int) ∈ lwg := lwg_of (List.mem_of_getElem? (i := 535) (by decide +kernel)) (by decide +kernel)
theorem in_X9_sign : Cond.instanceMethod yX9_sign ∈ lwg := lwg_of (List.mem_of_getElem? (i := 533) (by decide +kernel)) (by decide +kernel)
theorem se_X9_sign : Cond.selects yX9_sign.cls yX9_sign yX9_sign ∈ lwg := lwg_of (List.mem_of_getElem? (i := 534) (by decide +kernel)) (by decide +kernel)
abbrev mX9_fail : Mi := (yX9_fail, cX9_fail, 3, none)
theorem cd_X9_fail : Cond.code yX9_fail cX9_fail 3 none ∈ lwg := lwg_of (List.mem_of_getElem? (i := 539) (by decide +kernel)) (by decide +kernel)
theorem in_X9_fail : Cond.instanceMethod yX9_fail ∈ lwg := lwg_of (List.mem_of_getElem? (i := 537) (by decide +kernel)) (by decide +kernel)
theorem se_X9_fail : Cond.selects yX9_fail.cls yX9_fail yX9_fail ∈ lwg := lwg_of (List.mem_of_getElem? (i := 538) (by decide +kernel)) (by decide +kernel)
abbrev mX9_mayTake : Mi := (yX9_mayTake, cX9_mayTake, 3, (some .boolean))
theorem cd_X9_mayTake : Cond.code yX9_mayTake cX9_mayTake 3 (some .boolean) ∈ lwg := lwg_of (List.mem_of_getElem? (i := 661) (by decide +kernel)) (by decide +kernel)
theorem in_X9_mayTake : Cond.instanceMethod yX9_mayTake ∈ lwg := lwg_of (List.mem_of_getElem? (i := 659) (by decide +kernel)) (by decide +kernel)
theorem se_X9_mayTake : Cond.selects yX9_mayTake.cls yX9_mayTake yX9_mayTake ∈ lwg := lwg_of (List.mem_of_getElem? (i := 660) (by decide +kernel)) (by decide +kernel)
abbrev mX9_take : Mi := (yX9_take, cX9_take, 2, none)
theorem cd_X9_take : Cond.code yX9_take cX9_take 2 none ∈ lwg := lwg_of (List.mem_of_getElem? (i := 640) (by decide +kernel)) (by decide +kernel)
theorem in_X9_take : Cond.instanceMethod yX9_take ∈ lwg := lwg_of (List.mem_of_getElem? (i := 638) (by decide +kernel)) (by decide +kernel)
theorem se_X9_take : Cond.selects yX9_take.cls yX9_take yX9_take ∈ lwg := lwg_of (List.mem_of_getElem? (i := 639) (by decide +kernel)) (by decide +kernel)
abbrev mX9_endText : Mi := (yX9_endText, cX9_endText, 2, (some .int))
theorem cd_X9_endText : Cond.code yX9_endText cX9_endText 2 (some .int) ∈ lwg := lwg_of (List.mem_of_getElem? (i := 674) (by decide +kernel)) (by decide +kernel)
theorem in_X9_endText : Cond.instanceMethod yX9_endText ∈ lwg := lwg_of (List.mem_of_getElem? (i := 672) (by decide +kernel)) (by decide +kernel)
theorem se_X9_endText : Cond.selects yX9_endText.cls yX9_endText yX9_endText ∈ lwg := lwg_of (List.mem_of_getElem? (i := 673) (by decide +kernel)) (by decide +kernel)
abbrev mX10_init : Mi := (yX10_init, cX10_init, 3, none)
theorem cd_X10_init : Cond.code yX10_init cX10_init 3 none ∈ lwg := lwg_of (List.mem_of_getElem? (i := 338) (by decide +kernel)) (by decide +kernel)
theorem in_X10_init : Cond.instanceMethod yX10_init ∈ lwg := lwg_of (List.mem_of_getElem? (i := 337) (by decide +kernel)) (by decide +kernel)
abbrev mX10_go : Mi := (yX10_go, cX10_go, 5, (some .int))
theorem cd_X10_go : Cond.code yX10_go cX10_go 5 (some .int) ∈ lwg := lwg_of (List.mem_of_getElem? (i := 744) (by decide +kernel)) (by decide +kernel)
theorem in_X10_go : Cond.instanceMethod yX10_go ∈ lwg := lwg_of (List.mem_of_getElem? (i := 742) (by decide +kernel)) (by decide +kernel)
theorem se_X10_go : Cond.selects yX10_go.cls yX10_go yX10_go ∈ lwg := lwg_of (List.mem_of_getElem? (i := 743) (by decide +kernel)) (by decide +kernel)
abbrev mX10_season : Mi := (yX10_season, cX10_season, 4, (some .int))
theorem cd_X10_season : Cond.code yX10_season cX10_season 4 (some .int) ∈ lwg := lwg_of (List.mem_of_getElem? (i := 748) (by decide +kernel)) (by decide +kernel)
theorem in_X10_season : Cond.instanceMethod yX10_season ∈ lwg := lwg_of (List.mem_of_getElem? (i := 746) (by decide +kernel)) (by decide +kernel)
theorem se_X10_season : Cond.selects yX10_season.cls yX10_season yX10_season ∈ lwg := lwg_of (List.mem_of_getElem? (i := 747) (by decide +kernel)) (by decide +kernel)
abbrev mX10_grow : Mi := (yX10_grow, cX10_grow, 7, (some .int))
theorem cd_X10_grow : Cond.code yX10_grow cX10_grow 7 (some .int) ∈ lwg := lwg_of (List.mem_of_getElem? (i := 752) (by decide +kernel)) (by decide +kernel)
theorem in_X10_grow : Cond.instanceMethod yX10_grow ∈ lwg := lwg_of (List.mem_of_getElem? (i := 751) (by decide +kernel)) (by decide +kernel)
theorem se_X10_grow : Cond.selects yX10_grow.cls yX10_grow yX10_grow ∈ lwg := lwg_of (List.mem_of_getElem? (i := 12) (by decide +kernel)) (by decide +kernel)
abbrev mX10_tellValues : Mi := (yX10_tellValues, cX10_tellValues, 3, none)
theorem cd_X10_tellValues : Cond.code yX10_tellValues cX10_tellValues 3 none ∈ lwg := lwg_of (List.mem_of_getElem? (i := 756) (by decide +kernel)) (by decide +kernel)
theorem in_X10_tellValues : Cond.instanceMethod yX10_tellValues ∈ lwg := lwg_of (List.mem_of_getElem? (i := 755) (by decide +kernel)) (by decide +kernel)
theorem se_X10_tellValues : Cond.selects yX10_tellValues.cls yX10_tellValues yX10_tellValues ∈ lwg := lwg_of (List.mem_of_getElem? (i := 13) (by decide +kernel)) (by decide +kernel)
abbrev mX10_othersAt : Mi := (yX10_othersAt, cX10_othersAt, 5, (some .int))
theorem cd_X10_othersAt : Cond.code yX10_othersAt cX10_othersAt 5 (some .int) ∈ lwg := lwg_of (List.mem_of_getElem? (i := 770) (by decide +kernel)) (by decide +kernel)
theorem in_X10_othersAt : Cond.instanceMethod yX10_othersAt ∈ lwg := lwg_of (List.mem_of_getElem? (i := 769) (by decide +kernel)) (by decide +kernel)
theorem se_X10_othersAt : Cond.selects yX10_othersAt.cls yX10_othersAt yX10_othersAt ∈ lwg := lwg_of (List.mem_of_getElem? (i := 15) (by decide +kernel)) (by decide +kernel)
abbrev mX10_aim : Mi := (yX10_aim, cX10_aim, 3, (some .int))
theorem cd_X10_aim : Cond.code yX10_aim cX10_aim 3 (some .int) ∈ lwg := lwg_of (List.mem_of_getElem? (i := 760) (by decide +kernel)) (by decide +kernel)
theorem in_X10_aim : Cond.instanceMethod yX10_aim ∈ lwg := lwg_of (List.mem_of_getElem? (i := 759) (by decide +kernel)) (by decide +kernel)
theorem se_X10_aim : Cond.selects yX10_aim.cls yX10_aim yX10_aim ∈ lwg := lwg_of (List.mem_of_getElem? (i := 14) (by decide +kernel)) (by decide +kernel)
abbrev mX10_goAbout : Mi := (yX10_goAbout, cX10_goAbout, 7, (some .int))
theorem cd_X10_goAbout : Cond.code yX10_goAbout cX10_goAbout 7 (some .int) ∈ lwg := lwg_of (List.mem_of_getElem? (i := 804) (by decide +kernel)) (by decide +kernel)
theorem in_X10_goAbout : Cond.instanceMethod yX10_goAbout ∈ lwg := lwg_of (List.mem_of_getElem? (i := 803) (by decide +kernel)) (by decide +kernel)
theorem se_X10_goAbout : Cond.selects yX10_goAbout.cls yX10_goAbout yX10_goAbout ∈ lwg := lwg_of (List.mem_of_getElem? (i := 19) (by decide +kernel)) (by decide +kernel)
abbrev mX10_oneStep : Mi := (yX10_oneStep, cX10_oneStep, 4, (some .int))
theorem cd_X10_oneStep : Cond.code yX10_oneStep cX10_oneStep 4 (some .int) ∈ lwg := lwg_of (List.mem_of_getElem? (i := 812) (by decide +kernel)) (by decide +kernel)
theorem st_X10_oneStep : Cond.static yX10_oneStep ∈ lwg := lwg_of (List.mem_of_getElem? (i := 811) (by decide +kernel)) (by decide +kernel)
abbrev mX10_turn : Mi := (yX10_turn, cX10_turn, 3, (some .int))
theorem cd_X10_turn : Cond.code yX10_turn cX10_turn 3 (some .int) ∈ lwg := lwg_of (List.mem_of_getElem? (i := 808) (by decide +kernel)) (by decide +kernel)
theorem in_X10_turn : Cond.instanceMethod yX10_turn ∈ lwg := lwg_of (List.mem_of_getElem? (i := 807) (by decide +kernel)) (by decide +kernel)
theorem se_X10_turn : Cond.selects yX10_turn.cls yX10_turn yX10_turn ∈ lwg := lwg_of (List.mem_of_getElem? (i := 20) (by decide +kernel)) (by decide +kernel)
abbrev mX10_forget : Mi := (yX10_forget, cX10_forget, 5, none)
theorem cd_X10_forget : Cond.code yX10_forget cX10_forget 5 none ∈ lwg := lwg_of (List.mem_of_getElem? (i := 819) (by decide +kernel)) (by decide +kernel)
theorem in_X10_forget : Cond.instanceMethod yX10_forget ∈ lwg := lwg_of (List.mem_of_getElem? (i := 818) (by decide +kernel)) (by decide +kernel)
theorem se_X10_forget : Cond.selects yX10_forget.cls yX10_forget yX10_forget ∈ lwg := lwg_of (List.mem_of_getElem? (i := 21) (by decide +kernel)) (by decide +kernel)
abbrev mX11_init : Mi := (yX11_init, cX11_init, 1, none)
theorem cd_X11_init : Cond.code yX11_init cX11_init 1 none ∈ lwg := lwg_of (List.mem_of_getElem? (i := 122) (by decide +kernel)) (by decide +kernel)
theorem in_X11_init : Cond.instanceMethod yX11_init ∈ lwg := lwg_of (List.mem_of_getElem? (i := 121) (by decide +kernel)) (by decide +kernel)
abbrev mX11_home : Mi := (yX11_home, cX11_home, 4, (some .boolean))
theorem cd_X11_home : Cond.code yX11_home cX11_home 4 (some .boolean) ∈ lwg := lwg_of (List.mem_of_getElem? (i := 494) (by decide +kernel)) (by decide +kernel)
theorem in_X11_home : Cond.instanceMethod yX11_home ∈ lwg := lwg_of (List.mem_of_getElem? (i := 492) (by decide +kernel)) (by decide +kernel)
theorem se_X11_home : Cond.selects yX11_home.cls yX11_home yX11_home ∈ lwg := lwg_of (List.mem_of_getElem? (i := 493) (by decide +kernel)) (by decide +kernel)
abbrev mX11_feed : Mi := (yX11_feed, cX11_feed, 6, (some .int))
theorem cd_X11_feed : Cond.code yX11_feed cX11_feed 6 (some .int) ∈ lwg := lwg_of (List.mem_of_getElem? (i := 508) (by decide +kernel)) (by decide +kernel)
theorem in_X11_feed : Cond.instanceMethod yX11_feed ∈ lwg := lwg_of (List.mem_of_getElem? (i := 506) (by decide +kernel)) (by decide +kernel)
theorem se_X11_feed : Cond.selects yX11_feed.cls yX11_feed yX11_feed ∈ lwg := lwg_of (List.mem_of_getElem? (i := 507) (by decide +kernel)) (by decide +kernel)
abbrev mX11_law : Mi := (yX11_law, cX11_law, 3, (some .int))
theorem cd_X11_law : Cond.code yX11_law cX11_law 3 (some .int) ∈ lwg := lwg_of (List.mem_of_getElem? (i := 516) (by decide +kernel)) (by decide +kernel)
theorem in_X11_law : Cond.instanceMethod yX11_law ∈ lwg := lwg_of (List.mem_of_getElem? (i := 514) (by decide +kernel)) (by decide +kernel)
theorem se_X11_law : Cond.selects yX11_law.cls yX11_law yX11_law ∈ lwg := lwg_of (List.mem_of_getElem? (i := 515) (by decide +kernel)) (by decide +kernel)
abbrev mX11_bark : Mi := (yX11_bark, cX11_bark, 3, (some .int))
theorem cd_X11_bark : Cond.code yX11_bark cX11_bark 3 (some .int) ∈ lwg := lwg_of (List.mem_of_getElem? (i := 690) (by decide +kernel)) (by decide +kernel)
theorem in_X11_bark : Cond.instanceMethod yX11_bark ∈ lwg := lwg_of (List.mem_of_getElem? (i := 688) (by decide +kernel)) (by decide +kernel)
theorem se_X11_bark : Cond.selects yX11_bark.cls yX11_bark yX11_bark ∈ lwg := lwg_of (List.mem_of_getElem? (i := 689) (by decide +kernel)) (by decide +kernel)
abbrev mX11_seasons : Mi := (yX11_seasons, cX11_seasons, 2, (some .int))
theorem cd_X11_seasons : Cond.code yX11_seasons cX11_seasons 2 (some .int) ∈ lwg := lwg_of (List.mem_of_getElem? (i := 737) (by decide +kernel)) (by decide +kernel)
theorem in_X11_seasons : Cond.instanceMethod yX11_seasons ∈ lwg := lwg_of (List.mem_of_getElem? (i := 735) (by decide +kernel)) (by decide +kernel)
theorem se_X11_seasons : Cond.selects yX11_seasons.cls yX11_seasons yX11_seasons ∈ lwg := lwg_of (List.mem_of_getElem? (i := 736) (by decide +kernel)) (by decide +kernel)
abbrev mX11_tried : Mi := (yX11_tried, cX11_tried, 6, (some .int))
theorem cd_X11_tried : Cond.code yX11_tried cX11_tried 6 (some .int) ∈ lwg := lwg_of (List.mem_of_getElem? (i := 824) (by decide +kernel)) (by decide +kernel)
theorem in_X11_tried : Cond.instanceMethod yX11_tried ∈ lwg := lwg_of (List.mem_of_getElem? (i := 822) (by decide +kernel)) (by decide +kernel)
theorem se_X11_tried : Cond.selects yX11_tried.cls yX11_tried yX11_tried ∈ lwg := lwg_of (List.mem_of_getElem? (i := 823) (by decide +kernel)) (by decide +kernel)
abbrev mX11_cutIs : Mi := (yX11_cutIs, cX11_cutIs, 3, (some .int))
theorem cd_X11_cutIs : Cond.code yX11_cutIs cX11_cutIs 3 (some .int) ∈ lwg := lwg_of (List.mem_of_getElem? (i := 839) (by decide +kernel)) (by decide +kernel)
theorem in_X11_cutIs : Cond.instanceMethod yX11_cutIs ∈ lwg := lwg_of (List.mem_of_getElem? (i := 837) (by decide +kernel)) (by decide +kernel)
theorem se_X11_cutIs : Cond.selects yX11_cutIs.cls yX11_cutIs yX11_cutIs ∈ lwg := lwg_of (List.mem_of_getElem? (i := 838) (by decide +kernel)) (by decide +kernel)
abbrev mX11_meet : Mi := (yX11_meet, cX11_meet, 5, (some .int))
theorem cd_X11_meet : Cond.code yX11_meet cX11_meet 5 (some .int) ∈ lwg := lwg_of (List.mem_of_getElem? (i := 843) (by decide +kernel)) (by decide +kernel)
theorem in_X11_meet : Cond.instanceMethod yX11_meet ∈ lwg := lwg_of (List.mem_of_getElem? (i := 841) (by decide +kernel)) (by decide +kernel)
theorem se_X11_meet : Cond.selects yX11_meet.cls yX11_meet yX11_meet ∈ lwg := lwg_of (List.mem_of_getElem? (i := 842) (by decide +kernel)) (by decide +kernel)
abbrev mX11_roots : Mi := (yX11_roots, cX11_roots, 4, (some .int))
theorem cd_X11_roots : Cond.code yX11_roots cX11_roots 4 (some .int) ∈ lwg := lwg_of (List.mem_of_getElem? (i := 852) (by decide +kernel)) (by decide +kernel)
theorem in_X11_roots : Cond.instanceMethod yX11_roots ∈ lwg := lwg_of (List.mem_of_getElem? (i := 850) (by decide +kernel)) (by decide +kernel)
theorem se_X11_roots : Cond.selects yX11_roots.cls yX11_roots yX11_roots ∈ lwg := lwg_of (List.mem_of_getElem? (i := 851) (by decide +kernel)) (by decide +kernel)
abbrev mX11_single : Mi := (yX11_single, cX11_single, 5, (some .int))
theorem cd_X11_single : Cond.code yX11_single cX11_single 5 (some .int) ∈ lwg := lwg_of (List.mem_of_getElem? (i := 856) (by decide +kernel)) (by decide +kernel)
theorem in_X11_single : Cond.instanceMethod yX11_single ∈ lwg := lwg_of (List.mem_of_getElem? (i := 854) (by decide +kernel)) (by decide +kernel)
theorem se_X11_single : Cond.selects yX11_single.cls yX11_single yX11_single ∈ lwg := lwg_of (List.mem_of_getElem? (i := 855) (by decide +kernel)) (by decide +kernel)
abbrev mX11_who : Mi := (yX11_who, cX11_who, 4, (some .int))
theorem cd_X11_who : Cond.code yX11_who cX11_who 4 (some .int) ∈ lwg := lwg_of (List.mem_of_getElem? (i := 860) (by decide +kernel)) (by decide +kernel)
theorem in_X11_who : Cond.instanceMethod yX11_who ∈ lwg := lwg_of (List.mem_of_getElem? (i := 858) (by decide +kernel)) (by decide +kernel)
theorem se_X11_who : Cond.selects yX11_who.cls yX11_who yX11_who ∈ lwg := lwg_of (List.mem_of_getElem? (i := 859) (by decide +kernel)) (by decide +kernel)
abbrev mX11_letters : Mi := (yX11_letters, cX11_letters, 3, (some .int))
theorem cd_X11_letters : Cond.code yX11_letters cX11_letters 3 (some .int) ∈ lwg := lwg_of (List.mem_of_getElem? (i := 864) (by decide +kernel)) (by decide +kernel)
theorem in_X11_letters : Cond.instanceMethod yX11_letters ∈ lwg := lwg_of (List.mem_of_getElem? (i := 862) (by decide +kernel)) (by decide +kernel)
theorem se_X11_letters : Cond.selects yX11_letters.cls yX11_letters yX11_letters ∈ lwg := lwg_of (List.mem_of_getElem? (i := 863) (by decide +kernel)) (by decide +kernel)
abbrev mX11_nearest : Mi := (yX11_nearest, cX11_nearest, 7, (some .int))
theorem cd_X11_nearest : Cond.code yX11_nearest cX11_nearest 7 (some .int) ∈ lwg := lwg_of (List.mem_of_getElem? (i := 872) (by decide +kernel)) (by decide +kernel)
theorem in_X11_nearest : Cond.instanceMethod yX11_nearest ∈ lwg := lwg_of (List.mem_of_getElem? (i := 870) (by decide +kernel)) (by decide +kernel)
theorem se_X11_nearest : Cond.selects yX11_nearest.cls yX11_nearest yX11_nearest ∈ lwg := lwg_of (List.mem_of_getElem? (i := 871) (by decide +kernel)) (by decide +kernel)
abbrev mX11_strays : Mi := (yX11_strays, cX11_strays, 5, (some .int))
theorem cd_X11_strays : Cond.code yX11_strays cX11_strays 5 (some .int) ∈ lwg := lwg_of (List.mem_of_getElem? (i := 877) (by decide +kernel)) (by decide +kernel)
theorem in_X11_strays : Cond.instanceMethod yX11_strays ∈ lwg := lwg_of (List.mem_of_getElem? (i := 875) (by decide +kernel)) (by decide +kernel)
theorem se_X11_strays : Cond.selects yX11_strays.cls yX11_strays yX11_strays ∈ lwg := lwg_of (List.mem_of_getElem? (i := 876) (by decide +kernel)) (by decide +kernel)
abbrev mX11_dates : Mi := (yX11_dates, cX11_dates, 7, (some .int))
theorem cd_X11_dates : Cond.code yX11_dates cX11_dates 7 (some .int) ∈ lwg := lwg_of (List.mem_of_getElem? (i := 882) (by decide +kernel)) (by decide +kernel)
theorem in_X11_dates : Cond.instanceMethod yX11_dates ∈ lwg := lwg_of (List.mem_of_getElem? (i := 880) (by decide +kernel)) (by decide +kernel)
theorem se_X11_dates : Cond.selects yX11_dates.cls yX11_dates yX11_dates ∈ lwg := lwg_of (List.mem_of_getElem? (i := 881) (by decide +kernel)) (by decide +kernel)
abbrev mX11_busiest : Mi := (yX11_busiest, cX11_busiest, 7, (some .int))
theorem cd_X11_busiest : Cond.code yX11_busiest cX11_busiest 7 (some .int) ∈ lwg := lwg_of (List.mem_of_getElem? (i := 887) (by decide +kernel)) (by decide +kernel)
theorem in_X11_busiest : Cond.instanceMethod yX11_busiest ∈ lwg := lwg_of (List.mem_of_getElem? (i := 885) (by decide +kernel)) (by decide +kernel)
theorem se_X11_busiest : Cond.selects yX11_busiest.cls yX11_busiest yX11_busiest ∈ lwg := lwg_of (List.mem_of_getElem? (i := 886) (by decide +kernel)) (by decide +kernel)
abbrev mX11_yard : Mi := (yX11_yard, cX11_yard, 7, (some .int))
theorem cd_X11_yard : Cond.code yX11_yard cX11_yard 7 (some .int) ∈ lwg := lwg_of (List.mem_of_getElem? (i := 895) (by decide +kernel)) (by decide +kernel)
theorem in_X11_yard : Cond.instanceMethod yX11_yard ∈ lwg := lwg_of (List.mem_of_getElem? (i := 893) (by decide +kernel)) (by decide +kernel)
theorem se_X11_yard : Cond.selects yX11_yard.cls yX11_yard yX11_yard ∈ lwg := lwg_of (List.mem_of_getElem? (i := 894) (by decide +kernel)) (by decide +kernel)
abbrev mX11_groups : Mi := (yX11_groups, cX11_groups, 6, (some .int))
theorem cd_X11_groups : Cond.code yX11_groups cX11_groups 6 (some .int) ∈ lwg := lwg_of (List.mem_of_getElem? (i := 911) (by decide +kernel)) (by decide +kernel)
theorem in_X11_groups : Cond.instanceMethod yX11_groups ∈ lwg := lwg_of (List.mem_of_getElem? (i := 909) (by decide +kernel)) (by decide +kernel)
theorem se_X11_groups : Cond.selects yX11_groups.cls yX11_groups yX11_groups ∈ lwg := lwg_of (List.mem_of_getElem? (i := 910) (by decide +kernel)) (by decide +kernel)
abbrev mX11_fence : Mi := (yX11_fence, cX11_fence, 2, (some .int))
theorem cd_X11_fence : Cond.code yX11_fence cX11_fence 2 (some .int) ∈ lwg := lwg_of (List.mem_of_getElem? (i := 927) (by decide +kernel)) (by decide +kernel)
theorem in_X11_fence : Cond.instanceMethod yX11_fence ∈ lwg := lwg_of (List.mem_of_getElem? (i := 925) (by decide +kernel)) (by decide +kernel)
theorem se_X11_fence : Cond.selects yX11_fence.cls yX11_fence yX11_fence ∈ lwg := lwg_of (List.mem_of_getElem? (i := 926) (by decide +kernel)) (by decide +kernel)
abbrev mX11_crossing : Mi := (yX11_crossing, cX11_crossing, 4, (some .int))
theorem cd_X11_crossing : Cond.code yX11_crossing cX11_crossing 4 (some .int) ∈ lwg := lwg_of (List.mem_of_getElem? (i := 948) (by decide +kernel)) (by decide +kernel)
theorem in_X11_crossing : Cond.instanceMethod yX11_crossing ∈ lwg := lwg_of (List.mem_of_getElem? (i := 946) (by decide +kernel)) (by decide +kernel)
theorem se_X11_crossing : Cond.selects yX11_crossing.cls yX11_crossing yX11_crossing ∈ lwg := lwg_of (List.mem_of_getElem? (i := 947) (by decide +kernel)) (by decide +kernel)
abbrev mX11_paths : Mi := (yX11_paths, cX11_paths, 1, (some .int))
theorem cd_X11_paths : Cond.code yX11_paths cX11_paths 1 (some .int) ∈ lwg := lwg_of (List.mem_of_getElem? (i := 962) (by decide +kernel)) (by decide +kernel)
theorem in_X11_paths : Cond.instanceMethod yX11_paths ∈ lwg := lwg_of (List.mem_of_getElem? (i := 960) (by decide +kernel)) (by decide +kernel)
theorem se_X11_paths : Cond.selects yX11_paths.cls yX11_paths yX11_paths ∈ lwg := lwg_of (List.mem_of_getElem? (i := 961) (by decide +kernel)) (by decide +kernel)
abbrev mX11_trees : Mi := (yX11_trees, cX11_trees, 1, (some .int))
theorem cd_X11_trees : Cond.code yX11_trees cX11_trees 1 (some .int) ∈ lwg := lwg_of (List.mem_of_getElem? (i := 976) (by decide +kernel)) (by decide +kernel)
theorem in_X11_trees : Cond.instanceMethod yX11_trees ∈ lwg := lwg_of (List.mem_of_getElem? (i := 974) (by decide +kernel)) (by decide +kernel)
theorem se_X11_trees : Cond.selects yX11_trees.cls yX11_trees yX11_trees ∈ lwg := lwg_of (List.mem_of_getElem? (i := 975) (by decide +kernel)) (by decide +kernel)
abbrev mX11_round : Mi := (yX11_round, cX11_round, 4, (some .int))
theorem cd_X11_round : Cond.code yX11_round cX11_round 4 (some .int) ∈ lwg := lwg_of (List.mem_of_getElem? (i := 980) (by decide +kernel)) (by decide +kernel)
theorem in_X11_round : Cond.instanceMethod yX11_round ∈ lwg := lwg_of (List.mem_of_getElem? (i := 978) (by decide +kernel)) (by decide +kernel)
theorem se_X11_round : Cond.selects yX11_round.cls yX11_round yX11_round ∈ lwg := lwg_of (List.mem_of_getElem? (i := 979) (by decide +kernel)) (by decide +kernel)
abbrev mX11_words : Mi := (yX11_words, cX11_words, 5, (some .int))
theorem cd_X11_words : Cond.code yX11_words cX11_words 5 (some .int) ∈ lwg := lwg_of (List.mem_of_getElem? (i := 1005) (by decide +kernel)) (by decide +kernel)
theorem in_X11_words : Cond.instanceMethod yX11_words ∈ lwg := lwg_of (List.mem_of_getElem? (i := 1003) (by decide +kernel)) (by decide +kernel)
theorem se_X11_words : Cond.selects yX11_words.cls yX11_words yX11_words ∈ lwg := lwg_of (List.mem_of_getElem? (i := 1004) (by decide +kernel)) (by decide +kernel)
abbrev mX11_marriages : Mi := (yX11_marriages, cX11_marriages, 4, (some .int))
theorem cd_X11_marriages : Cond.code yX11_marriages cX11_marriages 4 (some .int) ∈ lwg := lwg_of (List.mem_of_getElem? (i := 1031) (by decide +kernel)) (by decide +kernel)
theorem in_X11_marriages : Cond.instanceMethod yX11_marriages ∈ lwg := lwg_of (List.mem_of_getElem? (i := 1029) (by decide +kernel)) (by decide +kernel)
theorem se_X11_marriages : Cond.selects yX11_marriages.cls yX11_marriages yX11_marriages ∈ lwg := lwg_of (List.mem_of_getElem? (i := 1030) (by decide +kernel)) (by decide +kernel)
abbrev mX11_orders : Mi := (yX11_orders, cX11_orders, 6, (some .int))
theorem cd_X11_orders : Cond.code yX11_orders cX11_orders 6 (some .int) ∈ lwg := lwg_of (List.mem_of_getElem? (i := 1072) (by decide +kernel)) (by decide +kernel)
theorem in_X11_orders : Cond.instanceMethod yX11_orders ∈ lwg := lwg_of (List.mem_of_getElem? (i := 1070) (by decide +kernel)) (by decide +kernel)
theorem se_X11_orders : Cond.selects yX11_orders.cls yX11_orders yX11_orders ∈ lwg := lwg_of (List.mem_of_getElem? (i := 1071) (by decide +kernel)) (by decide +kernel)
abbrev mX11_seed : Mi := (yX11_seed, cX11_seed, 2, (some .boolean))
theorem cd_X11_seed : Cond.code yX11_seed cX11_seed 2 (some .boolean) ∈ lwg := lwg_of (List.mem_of_getElem? (i := 1090) (by decide +kernel)) (by decide +kernel)
theorem in_X11_seed : Cond.instanceMethod yX11_seed ∈ lwg := lwg_of (List.mem_of_getElem? (i := 1088) (by decide +kernel)) (by decide +kernel)
theorem se_X11_seed : Cond.selects yX11_seed.cls yX11_seed yX11_seed ∈ lwg := lwg_of (List.mem_of_getElem? (i := 1089) (by decide +kernel)) (by decide +kernel)
abbrev mX11_keep : Mi := (yX11_keep, cX11_keep, 1, (some .int))
theorem cd_X11_keep : Cond.code yX11_keep cX11_keep 1 (some .int) ∈ lwg := lwg_of (List.mem_of_getElem? (i := 1095) (by decide +kernel)) (by decide +kernel)
theorem in_X11_keep : Cond.instanceMethod yX11_keep ∈ lwg := lwg_of (List.mem_of_getElem? (i := 1093) (by decide +kernel)) (by decide +kernel)
theorem se_X11_keep : Cond.selects yX11_keep.cls yX11_keep yX11_keep ∈ lwg := lwg_of (List.mem_of_getElem? (i := 1094) (by decide +kernel)) (by decide +kernel)
abbrev mX11_undo : Mi := (yX11_undo, cX11_undo, 1, (some .boolean))
theorem cd_X11_undo : Cond.code yX11_undo cX11_undo 1 (some .boolean) ∈ lwg := lwg_of (List.mem_of_getElem? (i := 1099) (by decide +kernel)) (by decide +kernel)
theorem in_X11_undo : Cond.instanceMethod yX11_undo ∈ lwg := lwg_of (List.mem_of_getElem? (i := 1097) (by decide +kernel)) (by decide +kernel)
theorem se_X11_undo : Cond.selects yX11_undo.cls yX11_undo yX11_undo ∈ lwg := lwg_of (List.mem_of_getElem? (i := 1098) (by decide +kernel)) (by decide +kernel)
abbrev mX11_check : Mi := (yX11_check, cX11_check, 5, (some .int))
theorem cd_X11_check : Cond.code yX11_check cX11_check 5 (some .int) ∈ lwg := lwg_of (List.mem_of_getElem? (i := 1103) (by decide +kernel)) (by decide +kernel)
theorem in_X11_check : Cond.instanceMethod yX11_check ∈ lwg := lwg_of (List.mem_of_getElem? (i := 1101) (by decide +kernel)) (by decide +kernel)
theorem se_X11_check : Cond.selects yX11_check.cls yX11_check yX11_check ∈ lwg := lwg_of (List.mem_of_getElem? (i := 1102) (by decide +kernel)) (by decide +kernel)
abbrev mX11_count : Mi := (yX11_count, cX11_count, 2, (some .int))
theorem cd_X11_count : Cond.code yX11_count cX11_count 2 (some .int) ∈ lwg := lwg_of (List.mem_of_getElem? (i := 1108) (by decide +kernel)) (by decide +kernel)
theorem in_X11_count : Cond.instanceMethod yX11_count ∈ lwg := lwg_of (List.mem_of_getElem? (i := 1106) (by decide +kernel)) (by decide +kernel)
theorem se_X11_count : Cond.selects yX11_count.cls yX11_count yX11_count ∈ lwg := lwg_of (List.mem_of_getElem? (i := 1107) (by decide +kernel)) (by decide +kernel)
abbrev mX11_isCut : Mi := (yX11_isCut, cX11_isCut, 2, (some .boolean))
theorem cd_X11_isCut : Cond.code yX11_isCut cX11_isCut 2 (some .boolean) ∈ lwg := lwg_of (List.mem_of_getElem? (i := 498) (by decide +kernel)) (by decide +kernel)
theorem in_X11_isCut : Cond.instanceMethod yX11_isCut ∈ lwg := lwg_of (List.mem_of_getElem? (i := 497) (by decide +kernel)) (by decide +kernel)
theorem se_X11_isCut : Cond.selects yX11_isCut.cls yX11_isCut yX11_isCut ∈ lwg := lwg_of (List.mem_of_getElem? (i := 0) (by decide +kernel)) (by decide +kernel)
abbrev mX11_groupOf : Mi := (yX11_groupOf, cX11_groupOf, 7, (some .int))
theorem cd_X11_groupOf : Cond.code yX11_groupOf cX11_groupOf 7 (some .int) ∈ lwg := lwg_of (List.mem_of_getElem? (i := 915) (by decide +kernel)) (by decide +kernel)
theorem in_X11_groupOf : Cond.instanceMethod yX11_groupOf ∈ lwg := lwg_of (List.mem_of_getElem? (i := 914) (by decide +kernel)) (by decide +kernel)
theorem se_X11_groupOf : Cond.selects yX11_groupOf.cls yX11_groupOf yX11_groupOf ∈ lwg := lwg_of (List.mem_of_getElem? (i := 23) (by decide +kernel)) (by decide +kernel)
abbrev mX11_nearTo : Mi := (yX11_nearTo, cX11_nearTo, 5, (some .int))
theorem cd_X11_nearTo : Cond.code yX11_nearTo cX11_nearTo 5 (some .int) ∈ lwg := lwg_of (List.mem_of_getElem? (i := 923) (by decide +kernel)) (by decide +kernel)
theorem in_X11_nearTo : Cond.instanceMethod yX11_nearTo ∈ lwg := lwg_of (List.mem_of_getElem? (i := 922) (by decide +kernel)) (by decide +kernel)
theorem se_X11_nearTo : Cond.selects yX11_nearTo.cls yX11_nearTo yX11_nearTo ∈ lwg := lwg_of (List.mem_of_getElem? (i := 24) (by decide +kernel)) (by decide +kernel)
abbrev mX11_isSpan : Mi := (yX11_isSpan, cX11_isSpan, 1, (some .boolean))
theorem cd_X11_isSpan : Cond.code yX11_isSpan cX11_isSpan 1 (some .boolean) ∈ lwg := lwg_of (List.mem_of_getElem? (i := 740) (by decide +kernel)) (by decide +kernel)
theorem st_X11_isSpan : Cond.static yX11_isSpan ∈ lwg := lwg_of (List.mem_of_getElem? (i := 739) (by decide +kernel)) (by decide +kernel)
abbrev mX11_isAcross : Mi := (yX11_isAcross, cX11_isAcross, 1, (some .boolean))
theorem cd_X11_isAcross : Cond.code yX11_isAcross cX11_isAcross 1 (some .boolean) ∈ lwg := lwg_of (List.mem_of_getElem? (i := 501) (by decide +kernel)) (by decide +kernel)
theorem st_X11_isAcross : Cond.static yX11_isAcross ∈ lwg := lwg_of (List.mem_of_getElem? (i := 500) (by decide +kernel)) (by decide +kernel)
abbrev mX11_isAlong : Mi := (yX11_isAlong, cX11_isAlong, 1, (some .boolean))
theorem cd_X11_isAlong : Cond.code yX11_isAlong cX11_isAlong 1 (some .boolean) ∈ lwg := lwg_of (List.mem_of_getElem? (i := 504) (by decide +kernel)) (by decide +kernel)
theorem st_X11_isAlong : Cond.static yX11_isAlong ∈ lwg := lwg_of (List.mem_of_getElem? (i := 503) (by decide +kernel)) (by decide +kernel)
abbrev mX11_isDigit : Mi := (yX11_isDigit, cX11_isDigit, 1, (some .boolean))
theorem cd_X11_isDigit : Cond.code yX11_isDigit cX11_isDigit 1 (some .boolean) ∈ lwg := lwg_of (List.mem_of_getElem? (i := 649) (by decide +kernel)) (by decide +kernel)
theorem st_X11_isDigit : Cond.static yX11_isDigit ∈ lwg := lwg_of (List.mem_of_getElem? (i := 648) (by decide +kernel)) (by decide +kernel)
abbrev mX11_steps : Mi := (yX11_steps, cX11_steps, 2, (some .int))
theorem cd_X11_steps : Cond.code yX11_steps cX11_steps 2 (some .int) ∈ lwg := lwg_of (List.mem_of_getElem? (i := 763) (by decide +kernel)) (by decide +kernel)
theorem st_X11_steps : Cond.static yX11_steps ∈ lwg := lwg_of (List.mem_of_getElem? (i := 762) (by decide +kernel)) (by decide +kernel)
abbrev mX11_side : Mi := (yX11_side, cX11_side, 5, (some .int))
theorem cd_X11_side : Cond.code yX11_side cX11_side 5 (some .int) ∈ lwg := lwg_of (List.mem_of_getElem? (i := 938) (by decide +kernel)) (by decide +kernel)
theorem st_X11_side : Cond.static yX11_side ∈ lwg := lwg_of (List.mem_of_getElem? (i := 937) (by decide +kernel)) (by decide +kernel)
abbrev mX11_isOnWay : Mi := (yX11_isOnWay, cX11_isOnWay, 3, (some .boolean))
theorem cd_X11_isOnWay : Cond.code yX11_isOnWay cX11_isOnWay 3 (some .boolean) ∈ lwg := lwg_of (List.mem_of_getElem? (i := 958) (by decide +kernel)) (by decide +kernel)
theorem st_X11_isOnWay : Cond.static yX11_isOnWay ∈ lwg := lwg_of (List.mem_of_getElem? (i := 957) (by decide +kernel)) (by decide +kernel)
abbrev mX11_doCross : Mi := (yX11_doCross, cX11_doCross, 6, (some .boolean))
theorem cd_X11_doCross : Cond.code yX11_doCross cX11_doCross 6 (some .boolean) ∈ lwg := lwg_of (List.mem_of_getElem? (i := 951) (by decide +kernel)) (by decide +kernel)
theorem st_X11_doCross : Cond.static yX11_doCross ∈ lwg := lwg_of (List.mem_of_getElem? (i := 950) (by decide +kernel)) (by decide +kernel)
abbrev mX12_init : Mi := (yX12_init, cX12_init, 1, none)
theorem cd_X12_init : Cond.code yX12_init cX12_init 1 none ∈ lwg := lwg_of (List.mem_of_getElem? (i := 1117) (by decide +kernel)) (by decide +kernel)
theorem in_X12_init : Cond.instanceMethod yX12_init ∈ lwg := lwg_of (List.mem_of_getElem? (i := 1116) (by decide +kernel)) (by decide +kernel)
abbrev mX12_in : Mi := (yX12_in, cX12_in, 3, (some .boolean))
theorem cd_X12_in : Cond.code yX12_in cX12_in 3 (some .boolean) ∈ lwg := lwg_of (List.mem_of_getElem? (i := 1328) (by decide +kernel)) (by decide +kernel)
theorem st_X12_in : Cond.static yX12_in ∈ lwg := lwg_of (List.mem_of_getElem? (i := 1327) (by decide +kernel)) (by decide +kernel)
abbrev mX12_min : Mi := (yX12_min, cX12_min, 2, (some .int))
theorem cd_X12_min : Cond.code yX12_min cX12_min 2 (some .int) ∈ lwg := lwg_of (List.mem_of_getElem? (i := 1512) (by decide +kernel)) (by decide +kernel)
theorem st_X12_min : Cond.static yX12_min ∈ lwg := lwg_of (List.mem_of_getElem? (i := 1511) (by decide +kernel)) (by decide +kernel)
abbrev mX12_max : Mi := (yX12_max, cX12_max, 2, (some .int))
theorem cd_X12_max : Cond.code yX12_max cX12_max 2 (some .int) ∈ lwg := lwg_of (List.mem_of_getElem? (i := 1519) (by decide +kernel)) (by decide +kernel)
theorem st_X12_max : Cond.static yX12_max ∈ lwg := lwg_of (List.mem_of_getElem? (i := 1518) (by decide +kernel)) (by decide +kernel)
abbrev mX12_size : Mi := (yX12_size, cX12_size, 1, (some .int))
theorem cd_X12_size : Cond.code yX12_size cX12_size 1 (some .int) ∈ lwg := lwg_of (List.mem_of_getElem? (i := 1482) (by decide +kernel)) (by decide +kernel)
theorem st_X12_size : Cond.static yX12_size ∈ lwg := lwg_of (List.mem_of_getElem? (i := 1481) (by decide +kernel)) (by decide +kernel)
abbrev mX12_has : Mi := (yX12_has, cX12_has, 2, (some .boolean))
theorem cd_X12_has : Cond.code yX12_has cX12_has 2 (some .boolean) ∈ lwg := lwg_of (List.mem_of_getElem? (i := 1589) (by decide +kernel)) (by decide +kernel)
theorem st_X12_has : Cond.static yX12_has ∈ lwg := lwg_of (List.mem_of_getElem? (i := 1588) (by decide +kernel)) (by decide +kernel)
abbrev mX12_bits : Mi := (yX12_bits, cX12_bits, 3, (some .int))
theorem cd_X12_bits : Cond.code yX12_bits cX12_bits 3 (some .int) ∈ lwg := lwg_of (List.mem_of_getElem? (i := 1642) (by decide +kernel)) (by decide +kernel)
theorem st_X12_bits : Cond.static yX12_bits ∈ lwg := lwg_of (List.mem_of_getElem? (i := 1641) (by decide +kernel)) (by decide +kernel)
abbrev mX12_copies : Mi := (yX12_copies, cX12_copies, 3, none)
theorem cd_X12_copies : Cond.code yX12_copies cX12_copies 3 none ∈ lwg := lwg_of (List.mem_of_getElem? (i := 1526) (by decide +kernel)) (by decide +kernel)
theorem st_X12_copies : Cond.static yX12_copies ∈ lwg := lwg_of (List.mem_of_getElem? (i := 1525) (by decide +kernel)) (by decide +kernel)
abbrev mX12_isCut : Mi := (yX12_isCut, cX12_isCut, 2, (some .boolean))
theorem cd_X12_isCut : Cond.code yX12_isCut cX12_isCut 2 (some .boolean) ∈ lwg := lwg_of (List.mem_of_getElem? (i := 1325) (by decide +kernel)) (by decide +kernel)
theorem in_X12_isCut : Cond.instanceMethod yX12_isCut ∈ lwg := lwg_of (List.mem_of_getElem? (i := 1324) (by decide +kernel)) (by decide +kernel)
theorem se_X12_isCut : Cond.selects yX12_isCut.cls yX12_isCut yX12_isCut ∈ lwg := lwg_of (List.mem_of_getElem? (i := 36) (by decide +kernel)) (by decide +kernel)
abbrev mX12_stepsBetween : Mi := (yX12_stepsBetween, cX12_stepsBetween, 2, (some .int))
theorem cd_X12_stepsBetween : Cond.code yX12_stepsBetween cX12_stepsBetween 2 (some .int) ∈ lwg := lwg_of (List.mem_of_getElem? (i := 1479) (by decide +kernel)) (by decide +kernel)
theorem st_X12_stepsBetween : Cond.static yX12_stepsBetween ∈ lwg := lwg_of (List.mem_of_getElem? (i := 1478) (by decide +kernel)) (by decide +kernel)
abbrev mX12_setOf : Mi := (yX12_setOf, cX12_setOf, 4, (some .int))
theorem cd_X12_setOf : Cond.code yX12_setOf cX12_setOf 4 (some .int) ∈ lwg := lwg_of (List.mem_of_getElem? (i := 1530) (by decide +kernel)) (by decide +kernel)
theorem in_X12_setOf : Cond.instanceMethod yX12_setOf ∈ lwg := lwg_of (List.mem_of_getElem? (i := 1529) (by decide +kernel)) (by decide +kernel)
theorem se_X12_setOf : Cond.selects yX12_setOf.cls yX12_setOf yX12_setOf ∈ lwg := lwg_of (List.mem_of_getElem? (i := 75) (by decide +kernel)) (by decide +kernel)
abbrev mX12_home : Mi := (yX12_home, cX12_home, 4, (some .boolean))
theorem cd_X12_home : Cond.code yX12_home cX12_home 4 (some .boolean) ∈ lwg := lwg_of (List.mem_of_getElem? (i := 1321) (by decide +kernel)) (by decide +kernel)
theorem in_X12_home : Cond.instanceMethod yX12_home ∈ lwg := lwg_of (List.mem_of_getElem? (i := 1319) (by decide +kernel)) (by decide +kernel)
theorem se_X12_home : Cond.selects yX12_home.cls yX12_home yX12_home ∈ lwg := lwg_of (List.mem_of_getElem? (i := 1320) (by decide +kernel)) (by decide +kernel)
abbrev mX12_types : Mi := (yX12_types, cX12_types, 3, none)
theorem cd_X12_types : Cond.code yX12_types cX12_types 3 none ∈ lwg := lwg_of (List.mem_of_getElem? (i := 1336) (by decide +kernel)) (by decide +kernel)
theorem in_X12_types : Cond.instanceMethod yX12_types ∈ lwg := lwg_of (List.mem_of_getElem? (i := 1335) (by decide +kernel)) (by decide +kernel)
theorem se_X12_types : Cond.selects yX12_types.cls yX12_types yX12_types ∈ lwg := lwg_of (List.mem_of_getElem? (i := 37) (by decide +kernel)) (by decide +kernel)
abbrev mX12_feed : Mi := (yX12_feed, cX12_feed, 6, (some .int))
theorem cd_X12_feed : Cond.code yX12_feed cX12_feed 6 (some .int) ∈ lwg := lwg_of (List.mem_of_getElem? (i := 1332) (by decide +kernel)) (by decide +kernel)
theorem in_X12_feed : Cond.instanceMethod yX12_feed ∈ lwg := lwg_of (List.mem_of_getElem? (i := 1330) (by decide +kernel)) (by decide +kernel)
theorem se_X12_feed : Cond.selects yX12_feed.cls yX12_feed yX12_feed ∈ lwg := lwg_of (List.mem_of_getElem? (i := 1331) (by decide +kernel)) (by decide +kernel)
abbrev mX12_octet : Mi := (yX12_octet, cX12_octet, 2, (some .int))
theorem cd_X12_octet : Cond.code yX12_octet cX12_octet 2 (some .int) ∈ lwg := lwg_of (List.mem_of_getElem? (i := 1659) (by decide +kernel)) (by decide +kernel)
theorem in_X12_octet : Cond.instanceMethod yX12_octet ∈ lwg := lwg_of (List.mem_of_getElem? (i := 1658) (by decide +kernel)) (by decide +kernel)
theorem se_X12_octet : Cond.selects yX12_octet.cls yX12_octet yX12_octet ∈ lwg := lwg_of (List.mem_of_getElem? (i := 85) (by decide +kernel)) (by decide +kernel)
abbrev mX12_here : Mi := (yX12_here, cX12_here, 1, (some .int))
theorem cd_X12_here : Cond.code yX12_here cX12_here 1 (some .int) ∈ lwg := lwg_of (List.mem_of_getElem? (i := 1352) (by decide +kernel)) (by decide +kernel)
theorem in_X12_here : Cond.instanceMethod yX12_here ∈ lwg := lwg_of (List.mem_of_getElem? (i := 1351) (by decide +kernel)) (by decide +kernel)
theorem se_X12_here : Cond.selects yX12_here.cls yX12_here yX12_here ∈ lwg := lwg_of (List.mem_of_getElem? (i := 40) (by decide +kernel)) (by decide +kernel)
abbrev mX12_isDigit : Mi := (yX12_isDigit, cX12_isDigit, 1, (some .boolean))
theorem cd_X12_isDigit : Cond.code yX12_isDigit cX12_isDigit 1 (some .boolean) ∈ lwg := lwg_of (List.mem_of_getElem? (i := 1373) (by decide +kernel)) (by decide +kernel)
theorem in_X12_isDigit : Cond.instanceMethod yX12_isDigit ∈ lwg := lwg_of (List.mem_of_getElem? (i := 1372) (by decide +kernel)) (by decide +kernel)
theorem se_X12_isDigit : Cond.selects yX12_isDigit.cls yX12_isDigit yX12_isDigit ∈ lwg := lwg_of (List.mem_of_getElem? (i := 45) (by decide +kernel)) (by decide +kernel)
abbrev mX12_wrongAt : Mi := (yX12_wrongAt, cX12_wrongAt, 3, (some .boolean))
theorem cd_X12_wrongAt : Cond.code yX12_wrongAt cX12_wrongAt 3 (some .boolean) ∈ lwg := lwg_of (List.mem_of_getElem? (i := 1356) (by decide +kernel)) (by decide +kernel)
theorem in_X12_wrongAt : Cond.instanceMethod yX12_wrongAt ∈ lwg := lwg_of (List.mem_of_getElem? (i := 1355) (by decide +kernel)) (by decide +kernel)
theorem se_X12_wrongAt : Cond.selects yX12_wrongAt.cls yX12_wrongAt yX12_wrongAt ∈ lwg := lwg_of (List.mem_of_getElem? (i := 41) (by decide +kernel)) (by decide +kernel)
abbrev mX12_takes : Mi := (yX12_takes, cX12_takes, 2, (some .boolean))
theorem cd_X12_takes : Cond.code yX12_takes cX12_takes 2 (some .boolean) ∈ lwg := lwg_of (List.mem_of_getElem? (i := 1423) (by decide +kernel)) (by decide +kernel)
theorem in_X12_takes : Cond.instanceMethod yX12_takes ∈ lwg := lwg_of (List.mem_of_getElem? (i := 1422) (by decide +kernel)) (by decide +kernel)
theorem se_X12_takes : Cond.selects yX12_takes.cls yX12_takes yX12_takes ∈ lwg := lwg_of (List.mem_of_getElem? (i := 56) (by decide +kernel)) (by decide +kernel)
abbrev mX12_readsNumber : Mi := (yX12_readsNumber, cX12_readsNumber, 2, (some .boolean))
theorem cd_X12_readsNumber : Cond.code yX12_readsNumber cX12_readsNumber 2 (some .boolean) ∈ lwg := lwg_of (List.mem_of_getElem? (i := 1377) (by decide +kernel)) (by decide +kernel)
theorem in_X12_readsNumber : Cond.instanceMethod yX12_readsNumber ∈ lwg := lwg_of (List.mem_of_getElem? (i := 1376) (by decide +kernel)) (by decide +kernel)
theorem se_X12_readsNumber : Cond.selects yX12_readsNumber.cls yX12_readsNumber yX12_readsNumber ∈ lwg := lwg_of (List.mem_of_getElem? (i := 46) (by decide +kernel)) (by decide +kernel)
abbrev mX12_notes : Mi := (yX12_notes, cX12_notes, 3, none)
theorem cd_X12_notes : Cond.code yX12_notes cX12_notes 3 none ∈ lwg := lwg_of (List.mem_of_getElem? (i := 1381) (by decide +kernel)) (by decide +kernel)
theorem in_X12_notes : Cond.instanceMethod yX12_notes ∈ lwg := lwg_of (List.mem_of_getElem? (i := 1380) (by decide +kernel)) (by decide +kernel)
theorem se_X12_notes : Cond.selects yX12_notes.cls yX12_notes yX12_notes ∈ lwg := lwg_of (List.mem_of_getElem? (i := 47) (by decide +kernel)) (by decide +kernel)
abbrev mX12_opens : Mi := (yX12_opens, cX12_opens, 2, (some .boolean))
theorem cd_X12_opens : Cond.code yX12_opens cX12_opens 2 (some .boolean) ∈ lwg := lwg_of (List.mem_of_getElem? (i := 1368) (by decide +kernel)) (by decide +kernel)
theorem in_X12_opens : Cond.instanceMethod yX12_opens ∈ lwg := lwg_of (List.mem_of_getElem? (i := 1367) (by decide +kernel)) (by decide +kernel)
theorem se_X12_opens : Cond.selects yX12_opens.cls yX12_opens yX12_opens ∈ lwg := lwg_of (List.mem_of_getElem? (i := 44) (by decide +kernel)) (by decide +kernel)
abbrev mX12_waitTop : Mi := (yX12_waitTop, cX12_waitTop, 1, (some .int))
theorem cd_X12_waitTop : Cond.code yX12_waitTop cX12_waitTop 1 (some .int) ∈ lwg := lwg_of (List.mem_of_getElem? (i := 1395) (by decide +kernel)) (by decide +kernel)
theorem in_X12_waitTop : Cond.instanceMethod yX12_waitTop ∈ lwg := lwg_of (List.mem_of_getElem? (i := 1394) (by decide +kernel)) (by decide +kernel)
theorem se_X12_waitTop : Cond.selects yX12_waitTop.cls yX12_waitTop yX12_waitTop ∈ lwg := lwg_of (List.mem_of_getElem? (i := 49) (by decide +kernel)) (by decide +kernel)
abbrev mX12_factOf : Mi := (yX12_factOf, cX12_factOf, 1, (some .int))
theorem cd_X12_factOf : Cond.code yX12_factOf cX12_factOf 1 (some .int) ∈ lwg := lwg_of (List.mem_of_getElem? (i := 1384) (by decide +kernel)) (by decide +kernel)
theorem st_X12_factOf : Cond.static yX12_factOf ∈ lwg := lwg_of (List.mem_of_getElem? (i := 1383) (by decide +kernel)) (by decide +kernel)
abbrev mX12_sumSign : Mi := (yX12_sumSign, cX12_sumSign, 1, (some .int))
theorem cd_X12_sumSign : Cond.code yX12_sumSign cX12_sumSign 1 (some .int) ∈ lwg := lwg_of (List.mem_of_getElem? (i := 1387) (by decide +kernel)) (by decide +kernel)
theorem st_X12_sumSign : Cond.static yX12_sumSign ∈ lwg := lwg_of (List.mem_of_getElem? (i := 1386) (by decide +kernel)) (by decide +kernel)
abbrev mX12_closesSums : Mi := (yX12_closesSums, cX12_closesSums, 2, none)
theorem cd_X12_closesSums : Cond.code yX12_closesSums cX12_closesSums 2 none ∈ lwg := lwg_of (List.mem_of_getElem? (i := 1391) (by decide +kernel)) (by decide +kernel)
theorem in_X12_closesSums : Cond.instanceMethod yX12_closesSums ∈ lwg := lwg_of (List.mem_of_getElem? (i := 1390) (by decide +kernel)) (by decide +kernel)
theorem se_X12_closesSums : Cond.selects yX12_closesSums.cls yX12_closesSums yX12_closesSums ∈ lwg := lwg_of (List.mem_of_getElem? (i := 48) (by decide +kernel)) (by decide +kernel)
abbrev mX12_readsFactor : Mi := (yX12_readsFactor, cX12_readsFactor, 2, (some .boolean))
theorem cd_X12_readsFactor : Cond.code yX12_readsFactor cX12_readsFactor 2 (some .boolean) ∈ lwg := lwg_of (List.mem_of_getElem? (i := 1364) (by decide +kernel)) (by decide +kernel)
theorem in_X12_readsFactor : Cond.instanceMethod yX12_readsFactor ∈ lwg := lwg_of (List.mem_of_getElem? (i := 1363) (by decide +kernel)) (by decide +kernel)
theorem se_X12_readsFactor : Cond.selects yX12_readsFactor.cls yX12_readsFactor yX12_readsFactor ∈ lwg := lwg_of (List.mem_of_getElem? (i := 43) (by decide +kernel)) (by decide +kernel)
abbrev mX12_hasOpenSum : Mi := (yX12_hasOpenSum, cX12_hasOpenSum, 3, (some .boolean))
theorem cd_X12_hasOpenSum : Cond.code yX12_hasOpenSum cX12_hasOpenSum 3 (some .boolean) ∈ lwg := lwg_of (List.mem_of_getElem? (i := 1399) (by decide +kernel)) (by decide +kernel)
theorem in_X12_hasOpenSum : Cond.instanceMethod yX12_hasOpenSum ∈ lwg := lwg_of (List.mem_of_getElem? (i := 1398) (by decide +kernel)) (by decide +kernel)
theorem se_X12_hasOpenSum : Cond.selects yX12_hasOpenSum.cls yX12_hasOpenSum yX12_hasOpenSum ∈ lwg := lwg_of (List.mem_of_getElem? (i := 50) (by decide +kernel)) (by decide +kernel)
abbrev mX12_readsSum : Mi := (yX12_readsSum, cX12_readsSum, 3, (some .boolean))
theorem cd_X12_readsSum : Cond.code yX12_readsSum cX12_readsSum 3 (some .boolean) ∈ lwg := lwg_of (List.mem_of_getElem? (i := 1360) (by decide +kernel)) (by decide +kernel)
theorem in_X12_readsSum : Cond.instanceMethod yX12_readsSum ∈ lwg := lwg_of (List.mem_of_getElem? (i := 1359) (by decide +kernel)) (by decide +kernel)
theorem se_X12_readsSum : Cond.selects yX12_readsSum.cls yX12_readsSum yX12_readsSum ∈ lwg := lwg_of (List.mem_of_getElem? (i := 42) (by decide +kernel)) (by decide +kernel)
abbrev mX12_endsPiece : Mi := (yX12_endsPiece, cX12_endsPiece, 1, none)
theorem cd_X12_endsPiece : Cond.code yX12_endsPiece cX12_endsPiece 1 none ∈ lwg := lwg_of (List.mem_of_getElem? (i := 1411) (by decide +kernel)) (by decide +kernel)
theorem in_X12_endsPiece : Cond.instanceMethod yX12_endsPiece ∈ lwg := lwg_of (List.mem_of_getElem? (i := 1410) (by decide +kernel)) (by decide +kernel)
theorem se_X12_endsPiece : Cond.selects yX12_endsPiece.cls yX12_endsPiece yX12_endsPiece ∈ lwg := lwg_of (List.mem_of_getElem? (i := 53) (by decide +kernel)) (by decide +kernel)
abbrev mX12_lands : Mi := (yX12_lands, cX12_lands, 3, none)
theorem cd_X12_lands : Cond.code yX12_lands cX12_lands 3 none ∈ lwg := lwg_of (List.mem_of_getElem? (i := 1415) (by decide +kernel)) (by decide +kernel)
theorem in_X12_lands : Cond.instanceMethod yX12_lands ∈ lwg := lwg_of (List.mem_of_getElem? (i := 1414) (by decide +kernel)) (by decide +kernel)
theorem se_X12_lands : Cond.selects yX12_lands.cls yX12_lands yX12_lands ∈ lwg := lwg_of (List.mem_of_getElem? (i := 54) (by decide +kernel)) (by decide +kernel)
abbrev mX12_jumps : Mi := (yX12_jumps, cX12_jumps, 2, none)
theorem cd_X12_jumps : Cond.code yX12_jumps cX12_jumps 2 none ∈ lwg := lwg_of (List.mem_of_getElem? (i := 1419) (by decide +kernel)) (by decide +kernel)
theorem in_X12_jumps : Cond.instanceMethod yX12_jumps ∈ lwg := lwg_of (List.mem_of_getElem? (i := 1418) (by decide +kernel)) (by decide +kernel)
theorem se_X12_jumps : Cond.selects yX12_jumps.cls yX12_jumps yX12_jumps ∈ lwg := lwg_of (List.mem_of_getElem? (i := 55) (by decide +kernel)) (by decide +kernel)
abbrev mX12_readsCompared : Mi := (yX12_readsCompared, cX12_readsCompared, 2, (some .boolean))
theorem cd_X12_readsCompared : Cond.code yX12_readsCompared cX12_readsCompared 2 (some .boolean) ∈ lwg := lwg_of (List.mem_of_getElem? (i := 1407) (by decide +kernel)) (by decide +kernel)
theorem in_X12_readsCompared : Cond.instanceMethod yX12_readsCompared ∈ lwg := lwg_of (List.mem_of_getElem? (i := 1406) (by decide +kernel)) (by decide +kernel)
theorem se_X12_readsCompared : Cond.selects yX12_readsCompared.cls yX12_readsCompared yX12_readsCompared ∈ lwg := lwg_of (List.mem_of_getElem? (i := 52) (by decide +kernel)) (by decide +kernel)
abbrev mX12_readsCondition : Mi := (yX12_readsCondition, cX12_readsCondition, 1, (some .boolean))
theorem cd_X12_readsCondition : Cond.code yX12_readsCondition cX12_readsCondition 1 (some .boolean) ∈ lwg := lwg_of (List.mem_of_getElem? (i := 1403) (by decide +kernel)) (by decide +kernel)
theorem in_X12_readsCondition : Cond.instanceMethod yX12_readsCondition ∈ lwg := lwg_of (List.mem_of_getElem? (i := 1402) (by decide +kernel)) (by decide +kernel)
theorem se_X12_readsCondition : Cond.selects yX12_readsCondition.cls yX12_readsCondition yX12_readsCondition ∈ lwg := lwg_of (List.mem_of_getElem? (i := 51) (by decide +kernel)) (by decide +kernel)
abbrev mX12_readsRule : Mi := (yX12_readsRule, cX12_readsRule, 2, (some .boolean))
theorem cd_X12_readsRule : Cond.code yX12_readsRule cX12_readsRule 2 (some .boolean) ∈ lwg := lwg_of (List.mem_of_getElem? (i := 1348) (by decide +kernel)) (by decide +kernel)
theorem in_X12_readsRule : Cond.instanceMethod yX12_readsRule ∈ lwg := lwg_of (List.mem_of_getElem? (i := 1347) (by decide +kernel)) (by decide +kernel)
theorem se_X12_readsRule : Cond.selects yX12_readsRule.cls yX12_readsRule yX12_readsRule ∈ lwg := lwg_of (List.mem_of_getElem? (i := 39) (by decide +kernel)) (by decide +kernel)
abbrev mX12_beginsText : Mi := (yX12_beginsText, cX12_beginsText, 2, none)
theorem cd_X12_beginsText : Cond.code yX12_beginsText cX12_beginsText 2 none ∈ lwg := lwg_of (List.mem_of_getElem? (i := 1344) (by decide +kernel)) (by decide +kernel)
theorem in_X12_beginsText : Cond.instanceMethod yX12_beginsText ∈ lwg := lwg_of (List.mem_of_getElem? (i := 1343) (by decide +kernel)) (by decide +kernel)
theorem se_X12_beginsText : Cond.selects yX12_beginsText.cls yX12_beginsText yX12_beginsText ∈ lwg := lwg_of (List.mem_of_getElem? (i := 38) (by decide +kernel)) (by decide +kernel)
abbrev mX12_law : Mi := (yX12_law, cX12_law, 4, (some .int))
theorem cd_X12_law : Cond.code yX12_law cX12_law 4 (some .int) ∈ lwg := lwg_of (List.mem_of_getElem? (i := 1340) (by decide +kernel)) (by decide +kernel)
theorem in_X12_law : Cond.instanceMethod yX12_law ∈ lwg := lwg_of (List.mem_of_getElem? (i := 1338) (by decide +kernel)) (by decide +kernel)
theorem se_X12_law : Cond.selects yX12_law.cls yX12_law yX12_law ∈ lwg := lwg_of (List.mem_of_getElem? (i := 1339) (by decide +kernel)) (by decide +kernel)
abbrev mX12_reckon : Mi := (yX12_reckon, cX12_reckon, 3, (some .int))
theorem cd_X12_reckon : Cond.code yX12_reckon cX12_reckon 3 (some .int) ∈ lwg := lwg_of (List.mem_of_getElem? (i := 1497) (by decide +kernel)) (by decide +kernel)
theorem st_X12_reckon : Cond.static yX12_reckon ∈ lwg := lwg_of (List.mem_of_getElem? (i := 1496) (by decide +kernel)) (by decide +kernel)
abbrev mX12_reckonsTo : Mi := (yX12_reckonsTo, cX12_reckonsTo, 8, (some .int))
theorem cd_X12_reckonsTo : Cond.code yX12_reckonsTo cX12_reckonsTo 8 (some .int) ∈ lwg := lwg_of (List.mem_of_getElem? (i := 1494) (by decide +kernel)) (by decide +kernel)
theorem in_X12_reckonsTo : Cond.instanceMethod yX12_reckonsTo ∈ lwg := lwg_of (List.mem_of_getElem? (i := 1493) (by decide +kernel)) (by decide +kernel)
theorem se_X12_reckonsTo : Cond.selects yX12_reckonsTo.cls yX12_reckonsTo yX12_reckonsTo ∈ lwg := lwg_of (List.mem_of_getElem? (i := 70) (by decide +kernel)) (by decide +kernel)
abbrev mX12_byLaw : Mi := (yX12_byLaw, cX12_byLaw, 6, (some .int))
theorem cd_X12_byLaw : Cond.code yX12_byLaw cX12_byLaw 6 (some .int) ∈ lwg := lwg_of (List.mem_of_getElem? (i := 1501) (by decide +kernel)) (by decide +kernel)
theorem in_X12_byLaw : Cond.instanceMethod yX12_byLaw ∈ lwg := lwg_of (List.mem_of_getElem? (i := 1500) (by decide +kernel)) (by decide +kernel)
theorem se_X12_byLaw : Cond.selects yX12_byLaw.cls yX12_byLaw yX12_byLaw ∈ lwg := lwg_of (List.mem_of_getElem? (i := 71) (by decide +kernel)) (by decide +kernel)
abbrev mX12_holdsAny : Mi := (yX12_holdsAny, cX12_holdsAny, 3, (some .boolean))
theorem cd_X12_holdsAny : Cond.code yX12_holdsAny cX12_holdsAny 3 (some .boolean) ∈ lwg := lwg_of (List.mem_of_getElem? (i := 1490) (by decide +kernel)) (by decide +kernel)
theorem in_X12_holdsAny : Cond.instanceMethod yX12_holdsAny ∈ lwg := lwg_of (List.mem_of_getElem? (i := 1489) (by decide +kernel)) (by decide +kernel)
theorem se_X12_holdsAny : Cond.selects yX12_holdsAny.cls yX12_holdsAny yX12_holdsAny ∈ lwg := lwg_of (List.mem_of_getElem? (i := 69) (by decide +kernel)) (by decide +kernel)
abbrev mX12_readsWithin : Mi := (yX12_readsWithin, cX12_readsWithin, 3, (some .boolean))
theorem cd_X12_readsWithin : Cond.code yX12_readsWithin cX12_readsWithin 3 (some .boolean) ∈ lwg := lwg_of (List.mem_of_getElem? (i := 1435) (by decide +kernel)) (by decide +kernel)
theorem in_X12_readsWithin : Cond.instanceMethod yX12_readsWithin ∈ lwg := lwg_of (List.mem_of_getElem? (i := 1434) (by decide +kernel)) (by decide +kernel)
theorem se_X12_readsWithin : Cond.selects yX12_readsWithin.cls yX12_readsWithin yX12_readsWithin ∈ lwg := lwg_of (List.mem_of_getElem? (i := 58) (by decide +kernel)) (by decide +kernel)
abbrev mX12_isLetter : Mi := (yX12_isLetter, cX12_isLetter, 1, (some .boolean))
theorem cd_X12_isLetter : Cond.code yX12_isLetter cX12_isLetter 1 (some .boolean) ∈ lwg := lwg_of (List.mem_of_getElem? (i := 1447) (by decide +kernel)) (by decide +kernel)
theorem in_X12_isLetter : Cond.instanceMethod yX12_isLetter ∈ lwg := lwg_of (List.mem_of_getElem? (i := 1446) (by decide +kernel)) (by decide +kernel)
theorem se_X12_isLetter : Cond.selects yX12_isLetter.cls yX12_isLetter yX12_isLetter ∈ lwg := lwg_of (List.mem_of_getElem? (i := 61) (by decide +kernel)) (by decide +kernel)
abbrev mX12_readsInitials : Mi := (yX12_readsInitials, cX12_readsInitials, 2, (some .boolean))
theorem cd_X12_readsInitials : Cond.code yX12_readsInitials cX12_readsInitials 2 (some .boolean) ∈ lwg := lwg_of (List.mem_of_getElem? (i := 1443) (by decide +kernel)) (by decide +kernel)
theorem in_X12_readsInitials : Cond.instanceMethod yX12_readsInitials ∈ lwg := lwg_of (List.mem_of_getElem? (i := 1442) (by decide +kernel)) (by decide +kernel)
theorem se_X12_readsInitials : Cond.selects yX12_readsInitials.cls yX12_readsInitials yX12_readsInitials ∈ lwg := lwg_of (List.mem_of_getElem? (i := 60) (by decide +kernel)) (by decide +kernel)
abbrev mX12_readsDate : Mi := (yX12_readsDate, cX12_readsDate, 3, (some .boolean))
theorem cd_X12_readsDate : Cond.code yX12_readsDate cX12_readsDate 3 (some .boolean) ∈ lwg := lwg_of (List.mem_of_getElem? (i := 1451) (by decide +kernel)) (by decide +kernel)
theorem in_X12_readsDate : Cond.instanceMethod yX12_readsDate ∈ lwg := lwg_of (List.mem_of_getElem? (i := 1450) (by decide +kernel)) (by decide +kernel)
theorem se_X12_readsDate : Cond.selects yX12_readsDate.cls yX12_readsDate yX12_readsDate ∈ lwg := lwg_of (List.mem_of_getElem? (i := 62) (by decide +kernel)) (by decide +kernel)
abbrev mX12_passes : Mi := (yX12_passes, cX12_passes, 2, (some .int))
theorem cd_X12_passes : Cond.code yX12_passes cX12_passes 2 (some .int) ∈ lwg := lwg_of (List.mem_of_getElem? (i := 1439) (by decide +kernel)) (by decide +kernel)
theorem in_X12_passes : Cond.instanceMethod yX12_passes ∈ lwg := lwg_of (List.mem_of_getElem? (i := 1438) (by decide +kernel)) (by decide +kernel)
theorem se_X12_passes : Cond.selects yX12_passes.cls yX12_passes yX12_passes ∈ lwg := lwg_of (List.mem_of_getElem? (i := 59) (by decide +kernel)) (by decide +kernel)
abbrev mX12_readsCut : Mi := (yX12_readsCut, cX12_readsCut, 3, (some .boolean))
theorem cd_X12_readsCut : Cond.code yX12_readsCut cX12_readsCut 3 (some .boolean) ∈ lwg := lwg_of (List.mem_of_getElem? (i := 1431) (by decide +kernel)) (by decide +kernel)
theorem in_X12_readsCut : Cond.instanceMethod yX12_readsCut ∈ lwg := lwg_of (List.mem_of_getElem? (i := 1430) (by decide +kernel)) (by decide +kernel)
theorem se_X12_readsCut : Cond.selects yX12_readsCut.cls yX12_readsCut yX12_readsCut ∈ lwg := lwg_of (List.mem_of_getElem? (i := 57) (by decide +kernel)) (by decide +kernel)
abbrev mX12_bark : Mi := (yX12_bark, cX12_bark, 4, (some .int))
theorem cd_X12_bark : Cond.code yX12_bark cX12_bark 4 (some .int) ∈ lwg := lwg_of (List.mem_of_getElem? (i := 1427) (by decide +kernel)) (by decide +kernel)
theorem in_X12_bark : Cond.instanceMethod yX12_bark ∈ lwg := lwg_of (List.mem_of_getElem? (i := 1425) (by decide +kernel)) (by decide +kernel)
theorem se_X12_bark : Cond.selects yX12_bark.cls yX12_bark yX12_bark ∈ lwg := lwg_of (List.mem_of_getElem? (i := 1426) (by decide +kernel)) (by decide +kernel)
abbrev mX12_goalOf : Mi := (yX12_goalOf, cX12_goalOf, 2, (some .int))
theorem cd_X12_goalOf : Cond.code yX12_goalOf cX12_goalOf 2 (some .int) ∈ lwg := lwg_of (List.mem_of_getElem? (i := 1476) (by decide +kernel)) (by decide +kernel)
theorem in_X12_goalOf : Cond.instanceMethod yX12_goalOf ∈ lwg := lwg_of (List.mem_of_getElem? (i := 1475) (by decide +kernel)) (by decide +kernel)
theorem se_X12_goalOf : Cond.selects yX12_goalOf.cls yX12_goalOf yX12_goalOf ∈ lwg := lwg_of (List.mem_of_getElem? (i := 67) (by decide +kernel)) (by decide +kernel)
abbrev mX12_othersAt : Mi := (yX12_othersAt, cX12_othersAt, 4, (some .int))
theorem cd_X12_othersAt : Cond.code yX12_othersAt cX12_othersAt 4 (some .int) ∈ lwg := lwg_of (List.mem_of_getElem? (i := 1486) (by decide +kernel)) (by decide +kernel)
theorem in_X12_othersAt : Cond.instanceMethod yX12_othersAt ∈ lwg := lwg_of (List.mem_of_getElem? (i := 1485) (by decide +kernel)) (by decide +kernel)
theorem se_X12_othersAt : Cond.selects yX12_othersAt.cls yX12_othersAt yX12_othersAt ∈ lwg := lwg_of (List.mem_of_getElem? (i := 68) (by decide +kernel)) (by decide +kernel)
abbrev mX12_feels : Mi := (yX12_feels, cX12_feels, 3, none)
theorem cd_X12_feels : Cond.code yX12_feels cX12_feels 3 none ∈ lwg := lwg_of (List.mem_of_getElem? (i := 1472) (by decide +kernel)) (by decide +kernel)
theorem in_X12_feels : Cond.instanceMethod yX12_feels ∈ lwg := lwg_of (List.mem_of_getElem? (i := 1471) (by decide +kernel)) (by decide +kernel)
theorem se_X12_feels : Cond.selects yX12_feels.cls yX12_feels yX12_feels ∈ lwg := lwg_of (List.mem_of_getElem? (i := 66) (by decide +kernel)) (by decide +kernel)
abbrev mX12_turnsIfThere : Mi := (yX12_turnsIfThere, cX12_turnsIfThere, 2, none)
theorem cd_X12_turnsIfThere : Cond.code yX12_turnsIfThere cX12_turnsIfThere 2 none ∈ lwg := lwg_of (List.mem_of_getElem? (i := 1509) (by decide +kernel)) (by decide +kernel)
theorem in_X12_turnsIfThere : Cond.instanceMethod yX12_turnsIfThere ∈ lwg := lwg_of (List.mem_of_getElem? (i := 1508) (by decide +kernel)) (by decide +kernel)
theorem se_X12_turnsIfThere : Cond.selects yX12_turnsIfThere.cls yX12_turnsIfThere yX12_turnsIfThere ∈ lwg := lwg_of (List.mem_of_getElem? (i := 73) (by decide +kernel)) (by decide +kernel)
abbrev mX12_steps : Mi := (yX12_steps, cX12_steps, 6, none)
theorem cd_X12_steps : Cond.code yX12_steps cX12_steps 6 none ∈ lwg := lwg_of (List.mem_of_getElem? (i := 1516) (by decide +kernel)) (by decide +kernel)
theorem in_X12_steps : Cond.instanceMethod yX12_steps ∈ lwg := lwg_of (List.mem_of_getElem? (i := 1515) (by decide +kernel)) (by decide +kernel)
theorem se_X12_steps : Cond.selects yX12_steps.cls yX12_steps yX12_steps ∈ lwg := lwg_of (List.mem_of_getElem? (i := 74) (by decide +kernel)) (by decide +kernel)
abbrev mX12_goesAbout : Mi := (yX12_goesAbout, cX12_goesAbout, 5, none)
theorem cd_X12_goesAbout : Cond.code yX12_goesAbout cX12_goesAbout 5 none ∈ lwg := lwg_of (List.mem_of_getElem? (i := 1505) (by decide +kernel)) (by decide +kernel)
theorem in_X12_goesAbout : Cond.instanceMethod yX12_goesAbout ∈ lwg := lwg_of (List.mem_of_getElem? (i := 1504) (by decide +kernel)) (by decide +kernel)
theorem se_X12_goesAbout : Cond.selects yX12_goesAbout.cls yX12_goesAbout yX12_goesAbout ∈ lwg := lwg_of (List.mem_of_getElem? (i := 72) (by decide +kernel)) (by decide +kernel)
abbrev mX12_turnOf : Mi := (yX12_turnOf, cX12_turnOf, 5, none)
theorem cd_X12_turnOf : Cond.code yX12_turnOf cX12_turnOf 5 none ∈ lwg := lwg_of (List.mem_of_getElem? (i := 1467) (by decide +kernel)) (by decide +kernel)
theorem in_X12_turnOf : Cond.instanceMethod yX12_turnOf ∈ lwg := lwg_of (List.mem_of_getElem? (i := 1466) (by decide +kernel)) (by decide +kernel)
theorem se_X12_turnOf : Cond.selects yX12_turnOf.cls yX12_turnOf yX12_turnOf ∈ lwg := lwg_of (List.mem_of_getElem? (i := 65) (by decide +kernel)) (by decide +kernel)
abbrev mX12_seasonGoes : Mi := (yX12_seasonGoes, cX12_seasonGoes, 2, none)
theorem cd_X12_seasonGoes : Cond.code yX12_seasonGoes cX12_seasonGoes 2 none ∈ lwg := lwg_of (List.mem_of_getElem? (i := 1463) (by decide +kernel)) (by decide +kernel)
theorem in_X12_seasonGoes : Cond.instanceMethod yX12_seasonGoes ∈ lwg := lwg_of (List.mem_of_getElem? (i := 1462) (by decide +kernel)) (by decide +kernel)
theorem se_X12_seasonGoes : Cond.selects yX12_seasonGoes.cls yX12_seasonGoes yX12_seasonGoes ∈ lwg := lwg_of (List.mem_of_getElem? (i := 64) (by decide +kernel)) (by decide +kernel)
abbrev mX12_seasonsGo : Mi := (yX12_seasonsGo, cX12_seasonsGo, 3, none)
theorem cd_X12_seasonsGo : Cond.code yX12_seasonsGo cX12_seasonsGo 3 none ∈ lwg := lwg_of (List.mem_of_getElem? (i := 1459) (by decide +kernel)) (by decide +kernel)
theorem in_X12_seasonsGo : Cond.instanceMethod yX12_seasonsGo ∈ lwg := lwg_of (List.mem_of_getElem? (i := 1458) (by decide +kernel)) (by decide +kernel)
theorem se_X12_seasonsGo : Cond.selects yX12_seasonsGo.cls yX12_seasonsGo yX12_seasonsGo ∈ lwg := lwg_of (List.mem_of_getElem? (i := 63) (by decide +kernel)) (by decide +kernel)
abbrev mX12_seasons : Mi := (yX12_seasons, cX12_seasons, 2, (some .int))
theorem cd_X12_seasons : Cond.code yX12_seasons cX12_seasons 2 (some .int) ∈ lwg := lwg_of (List.mem_of_getElem? (i := 1455) (by decide +kernel)) (by decide +kernel)
theorem in_X12_seasons : Cond.instanceMethod yX12_seasons ∈ lwg := lwg_of (List.mem_of_getElem? (i := 1453) (by decide +kernel)) (by decide +kernel)
theorem se_X12_seasons : Cond.selects yX12_seasons.cls yX12_seasons yX12_seasons ∈ lwg := lwg_of (List.mem_of_getElem? (i := 1454) (by decide +kernel)) (by decide +kernel)
abbrev mX12_tried : Mi := (yX12_tried, cX12_tried, 4, (some .int))
theorem cd_X12_tried : Cond.code yX12_tried cX12_tried 4 (some .int) ∈ lwg := lwg_of (List.mem_of_getElem? (i := 1523) (by decide +kernel)) (by decide +kernel)
theorem in_X12_tried : Cond.instanceMethod yX12_tried ∈ lwg := lwg_of (List.mem_of_getElem? (i := 1521) (by decide +kernel)) (by decide +kernel)
theorem se_X12_tried : Cond.selects yX12_tried.cls yX12_tried yX12_tried ∈ lwg := lwg_of (List.mem_of_getElem? (i := 1522) (by decide +kernel)) (by decide +kernel)
abbrev mX12_cutIs : Mi := (yX12_cutIs, cX12_cutIs, 3, (some .int))
theorem cd_X12_cutIs : Cond.code yX12_cutIs cX12_cutIs 3 (some .int) ∈ lwg := lwg_of (List.mem_of_getElem? (i := 1534) (by decide +kernel)) (by decide +kernel)
theorem in_X12_cutIs : Cond.instanceMethod yX12_cutIs ∈ lwg := lwg_of (List.mem_of_getElem? (i := 1532) (by decide +kernel)) (by decide +kernel)
theorem se_X12_cutIs : Cond.selects yX12_cutIs.cls yX12_cutIs yX12_cutIs ∈ lwg := lwg_of (List.mem_of_getElem? (i := 1533) (by decide +kernel)) (by decide +kernel)
abbrev mX12_areMet : Mi := (yX12_areMet, cX12_areMet, 3, (some .boolean))
theorem cd_X12_areMet : Cond.code yX12_areMet cX12_areMet 3 (some .boolean) ∈ lwg := lwg_of (List.mem_of_getElem? (i := 1542) (by decide +kernel)) (by decide +kernel)
theorem in_X12_areMet : Cond.instanceMethod yX12_areMet ∈ lwg := lwg_of (List.mem_of_getElem? (i := 1541) (by decide +kernel)) (by decide +kernel)
theorem se_X12_areMet : Cond.selects yX12_areMet.cls yX12_areMet yX12_areMet ∈ lwg := lwg_of (List.mem_of_getElem? (i := 76) (by decide +kernel)) (by decide +kernel)
abbrev mX12_meet : Mi := (yX12_meet, cX12_meet, 6, (some .int))
theorem cd_X12_meet : Cond.code yX12_meet cX12_meet 6 (some .int) ∈ lwg := lwg_of (List.mem_of_getElem? (i := 1538) (by decide +kernel)) (by decide +kernel)
theorem in_X12_meet : Cond.instanceMethod yX12_meet ∈ lwg := lwg_of (List.mem_of_getElem? (i := 1536) (by decide +kernel)) (by decide +kernel)
theorem se_X12_meet : Cond.selects yX12_meet.cls yX12_meet yX12_meet ∈ lwg := lwg_of (List.mem_of_getElem? (i := 1537) (by decide +kernel)) (by decide +kernel)
abbrev mX12_roots : Mi := (yX12_roots, cX12_roots, 5, (some .int))
theorem cd_X12_roots : Cond.code yX12_roots cX12_roots 5 (some .int) ∈ lwg := lwg_of (List.mem_of_getElem? (i := 1546) (by decide +kernel)) (by decide +kernel)
theorem in_X12_roots : Cond.instanceMethod yX12_roots ∈ lwg := lwg_of (List.mem_of_getElem? (i := 1544) (by decide +kernel)) (by decide +kernel)
theorem se_X12_roots : Cond.selects yX12_roots.cls yX12_roots yX12_roots ∈ lwg := lwg_of (List.mem_of_getElem? (i := 1545) (by decide +kernel)) (by decide +kernel)
abbrev mX12_strays : Mi := (yX12_strays, cX12_strays, 5, (some .int))
theorem cd_X12_strays : Cond.code yX12_strays cX12_strays 5 (some .int) ∈ lwg := lwg_of (List.mem_of_getElem? (i := 1550) (by decide +kernel)) (by decide +kernel)
theorem in_X12_strays : Cond.instanceMethod yX12_strays ∈ lwg := lwg_of (List.mem_of_getElem? (i := 1548) (by decide +kernel)) (by decide +kernel)
theorem se_X12_strays : Cond.selects yX12_strays.cls yX12_strays yX12_strays ∈ lwg := lwg_of (List.mem_of_getElem? (i := 1549) (by decide +kernel)) (by decide +kernel)
abbrev mX12_single : Mi := (yX12_single, cX12_single, 4, (some .int))
theorem cd_X12_single : Cond.code yX12_single cX12_single 4 (some .int) ∈ lwg := lwg_of (List.mem_of_getElem? (i := 1554) (by decide +kernel)) (by decide +kernel)
theorem in_X12_single : Cond.instanceMethod yX12_single ∈ lwg := lwg_of (List.mem_of_getElem? (i := 1552) (by decide +kernel)) (by decide +kernel)
theorem se_X12_single : Cond.selects yX12_single.cls yX12_single yX12_single ∈ lwg := lwg_of (List.mem_of_getElem? (i := 1553) (by decide +kernel)) (by decide +kernel)
abbrev mX12_who : Mi := (yX12_who, cX12_who, 4, (some .int))
theorem cd_X12_who : Cond.code yX12_who cX12_who 4 (some .int) ∈ lwg := lwg_of (List.mem_of_getElem? (i := 1558) (by decide +kernel)) (by decide +kernel)
theorem in_X12_who : Cond.instanceMethod yX12_who ∈ lwg := lwg_of (List.mem_of_getElem? (i := 1556) (by decide +kernel)) (by decide +kernel)
theorem se_X12_who : Cond.selects yX12_who.cls yX12_who yX12_who ∈ lwg := lwg_of (List.mem_of_getElem? (i := 1557) (by decide +kernel)) (by decide +kernel)
abbrev mX12_letters : Mi := (yX12_letters, cX12_letters, 3, (some .int))
theorem cd_X12_letters : Cond.code yX12_letters cX12_letters 3 (some .int) ∈ lwg := lwg_of (List.mem_of_getElem? (i := 1562) (by decide +kernel)) (by decide +kernel)
theorem in_X12_letters : Cond.instanceMethod yX12_letters ∈ lwg := lwg_of (List.mem_of_getElem? (i := 1560) (by decide +kernel)) (by decide +kernel)
theorem se_X12_letters : Cond.selects yX12_letters.cls yX12_letters yX12_letters ∈ lwg := lwg_of (List.mem_of_getElem? (i := 1561) (by decide +kernel)) (by decide +kernel)
abbrev mX12_nearest : Mi := (yX12_nearest, cX12_nearest, 7, (some .int))
theorem cd_X12_nearest : Cond.code yX12_nearest cX12_nearest 7 (some .int) ∈ lwg := lwg_of (List.mem_of_getElem? (i := 1566) (by decide +kernel)) (by decide +kernel)
theorem in_X12_nearest : Cond.instanceMethod yX12_nearest ∈ lwg := lwg_of (List.mem_of_getElem? (i := 1564) (by decide +kernel)) (by decide +kernel)
theorem se_X12_nearest : Cond.selects yX12_nearest.cls yX12_nearest yX12_nearest ∈ lwg := lwg_of (List.mem_of_getElem? (i := 1565) (by decide +kernel)) (by decide +kernel)
abbrev mX12_dates : Mi := (yX12_dates, cX12_dates, 6, (some .int))
theorem cd_X12_dates : Cond.code yX12_dates cX12_dates 6 (some .int) ∈ lwg := lwg_of (List.mem_of_getElem? (i := 1570) (by decide +kernel)) (by decide +kernel)
theorem in_X12_dates : Cond.instanceMethod yX12_dates ∈ lwg := lwg_of (List.mem_of_getElem? (i := 1568) (by decide +kernel)) (by decide +kernel)
theorem se_X12_dates : Cond.selects yX12_dates.cls yX12_dates yX12_dates ∈ lwg := lwg_of (List.mem_of_getElem? (i := 1569) (by decide +kernel)) (by decide +kernel)
abbrev mX12_homesAt : Mi := (yX12_homesAt, cX12_homesAt, 4, (some .int))
theorem cd_X12_homesAt : Cond.code yX12_homesAt cX12_homesAt 4 (some .int) ∈ lwg := lwg_of (List.mem_of_getElem? (i := 1578) (by decide +kernel)) (by decide +kernel)
theorem in_X12_homesAt : Cond.instanceMethod yX12_homesAt ∈ lwg := lwg_of (List.mem_of_getElem? (i := 1577) (by decide +kernel)) (by decide +kernel)
theorem se_X12_homesAt : Cond.selects yX12_homesAt.cls yX12_homesAt yX12_homesAt ∈ lwg := lwg_of (List.mem_of_getElem? (i := 77) (by decide +kernel)) (by decide +kernel)
abbrev mX12_busiest : Mi := (yX12_busiest, cX12_busiest, 5, (some .int))
theorem cd_X12_busiest : Cond.code yX12_busiest cX12_busiest 5 (some .int) ∈ lwg := lwg_of (List.mem_of_getElem? (i := 1574) (by decide +kernel)) (by decide +kernel)
theorem in_X12_busiest : Cond.instanceMethod yX12_busiest ∈ lwg := lwg_of (List.mem_of_getElem? (i := 1572) (by decide +kernel)) (by decide +kernel)
theorem se_X12_busiest : Cond.selects yX12_busiest.cls yX12_busiest yX12_busiest ∈ lwg := lwg_of (List.mem_of_getElem? (i := 1573) (by decide +kernel)) (by decide +kernel)
abbrev mX12_groupOf : Mi := (yX12_groupOf, cX12_groupOf, 7, (some .int))
theorem cd_X12_groupOf : Cond.code yX12_groupOf cX12_groupOf 7 (some .int) ∈ lwg := lwg_of (List.mem_of_getElem? (i := 1586) (by decide +kernel)) (by decide +kernel)
theorem in_X12_groupOf : Cond.instanceMethod yX12_groupOf ∈ lwg := lwg_of (List.mem_of_getElem? (i := 1585) (by decide +kernel)) (by decide +kernel)
theorem se_X12_groupOf : Cond.selects yX12_groupOf.cls yX12_groupOf yX12_groupOf ∈ lwg := lwg_of (List.mem_of_getElem? (i := 78) (by decide +kernel)) (by decide +kernel)
abbrev mX12_groups : Mi := (yX12_groups, cX12_groups, 6, (some .int))
theorem cd_X12_groups : Cond.code yX12_groups cX12_groups 6 (some .int) ∈ lwg := lwg_of (List.mem_of_getElem? (i := 1582) (by decide +kernel)) (by decide +kernel)
theorem in_X12_groups : Cond.instanceMethod yX12_groups ∈ lwg := lwg_of (List.mem_of_getElem? (i := 1580) (by decide +kernel)) (by decide +kernel)
theorem se_X12_groups : Cond.selects yX12_groups.cls yX12_groups yX12_groups ∈ lwg := lwg_of (List.mem_of_getElem? (i := 1581) (by decide +kernel)) (by decide +kernel)
abbrev mX12_isTree : Mi := (yX12_isTree, cX12_isTree, 3, (some .boolean))
theorem cd_X12_isTree : Cond.code yX12_isTree cX12_isTree 3 (some .boolean) ∈ lwg := lwg_of (List.mem_of_getElem? (i := 1601) (by decide +kernel)) (by decide +kernel)
theorem in_X12_isTree : Cond.instanceMethod yX12_isTree ∈ lwg := lwg_of (List.mem_of_getElem? (i := 1600) (by decide +kernel)) (by decide +kernel)
theorem se_X12_isTree : Cond.selects yX12_isTree.cls yX12_isTree yX12_isTree ∈ lwg := lwg_of (List.mem_of_getElem? (i := 80) (by decide +kernel)) (by decide +kernel)
abbrev mX12_laysTrees : Mi := (yX12_laysTrees, cX12_laysTrees, 3, none)
theorem cd_X12_laysTrees : Cond.code yX12_laysTrees cX12_laysTrees 3 none ∈ lwg := lwg_of (List.mem_of_getElem? (i := 1597) (by decide +kernel)) (by decide +kernel)
theorem in_X12_laysTrees : Cond.instanceMethod yX12_laysTrees ∈ lwg := lwg_of (List.mem_of_getElem? (i := 1596) (by decide +kernel)) (by decide +kernel)
theorem se_X12_laysTrees : Cond.selects yX12_laysTrees.cls yX12_laysTrees yX12_laysTrees ∈ lwg := lwg_of (List.mem_of_getElem? (i := 79) (by decide +kernel)) (by decide +kernel)
abbrev mX12_trees : Mi := (yX12_trees, cX12_trees, 1, (some .int))
theorem cd_X12_trees : Cond.code yX12_trees cX12_trees 1 (some .int) ∈ lwg := lwg_of (List.mem_of_getElem? (i := 1593) (by decide +kernel)) (by decide +kernel)
theorem in_X12_trees : Cond.instanceMethod yX12_trees ∈ lwg := lwg_of (List.mem_of_getElem? (i := 1591) (by decide +kernel)) (by decide +kernel)
theorem se_X12_trees : Cond.selects yX12_trees.cls yX12_trees yX12_trees ∈ lwg := lwg_of (List.mem_of_getElem? (i := 1592) (by decide +kernel)) (by decide +kernel)
abbrev mX12_yard : Mi := (yX12_yard, cX12_yard, 7, (some .int))
theorem cd_X12_yard : Cond.code yX12_yard cX12_yard 7 (some .int) ∈ lwg := lwg_of (List.mem_of_getElem? (i := 1605) (by decide +kernel)) (by decide +kernel)
theorem in_X12_yard : Cond.instanceMethod yX12_yard ∈ lwg := lwg_of (List.mem_of_getElem? (i := 1603) (by decide +kernel)) (by decide +kernel)
theorem se_X12_yard : Cond.selects yX12_yard.cls yX12_yard yX12_yard ∈ lwg := lwg_of (List.mem_of_getElem? (i := 1604) (by decide +kernel)) (by decide +kernel)
abbrev mX12_sideOf : Mi := (yX12_sideOf, cX12_sideOf, 5, (some .int))
theorem cd_X12_sideOf : Cond.code yX12_sideOf cX12_sideOf 5 (some .int) ∈ lwg := lwg_of (List.mem_of_getElem? (i := 1620) (by decide +kernel)) (by decide +kernel)
theorem st_X12_sideOf : Cond.static yX12_sideOf ∈ lwg := lwg_of (List.mem_of_getElem? (i := 1619) (by decide +kernel)) (by decide +kernel)
abbrev mX12_addsCorner : Mi := (yX12_addsCorner, cX12_addsCorner, 3, none)
theorem cd_X12_addsCorner : Cond.code yX12_addsCorner cX12_addsCorner 3 none ∈ lwg := lwg_of (List.mem_of_getElem? (i := 1617) (by decide +kernel)) (by decide +kernel)
theorem in_X12_addsCorner : Cond.instanceMethod yX12_addsCorner ∈ lwg := lwg_of (List.mem_of_getElem? (i := 1616) (by decide +kernel)) (by decide +kernel)
theorem se_X12_addsCorner : Cond.selects yX12_addsCorner.cls yX12_addsCorner yX12_addsCorner ∈ lwg := lwg_of (List.mem_of_getElem? (i := 82) (by decide +kernel)) (by decide +kernel)
abbrev mX12_laysFence : Mi := (yX12_laysFence, cX12_laysFence, 3, none)
theorem cd_X12_laysFence : Cond.code yX12_laysFence cX12_laysFence 3 none ∈ lwg := lwg_of (List.mem_of_getElem? (i := 1613) (by decide +kernel)) (by decide +kernel)
theorem in_X12_laysFence : Cond.instanceMethod yX12_laysFence ∈ lwg := lwg_of (List.mem_of_getElem? (i := 1612) (by decide +kernel)) (by decide +kernel)
theorem se_X12_laysFence : Cond.selects yX12_laysFence.cls yX12_laysFence yX12_laysFence ∈ lwg := lwg_of (List.mem_of_getElem? (i := 81) (by decide +kernel)) (by decide +kernel)
abbrev mX12_fence : Mi := (yX12_fence, cX12_fence, 6, (some .int))
theorem cd_X12_fence : Cond.code yX12_fence cX12_fence 6 (some .int) ∈ lwg := lwg_of (List.mem_of_getElem? (i := 1609) (by decide +kernel)) (by decide +kernel)
theorem in_X12_fence : Cond.instanceMethod yX12_fence ∈ lwg := lwg_of (List.mem_of_getElem? (i := 1607) (by decide +kernel)) (by decide +kernel)
theorem se_X12_fence : Cond.selects yX12_fence.cls yX12_fence yX12_fence ∈ lwg := lwg_of (List.mem_of_getElem? (i := 1608) (by decide +kernel)) (by decide +kernel)
abbrev mX12_between : Mi := (yX12_between, cX12_between, 4, (some .boolean))
theorem cd_X12_between : Cond.code yX12_between cX12_between 4 (some .boolean) ∈ lwg := lwg_of (List.mem_of_getElem? (i := 1630) (by decide +kernel)) (by decide +kernel)
theorem st_X12_between : Cond.static yX12_between ∈ lwg := lwg_of (List.mem_of_getElem? (i := 1629) (by decide +kernel)) (by decide +kernel)
abbrev mX12_crosses : Mi := (yX12_crosses, cX12_crosses, 8, (some .boolean))
theorem cd_X12_crosses : Cond.code yX12_crosses cX12_crosses 8 (some .boolean) ∈ lwg := lwg_of (List.mem_of_getElem? (i := 1627) (by decide +kernel)) (by decide +kernel)
theorem st_X12_crosses : Cond.static yX12_crosses ∈ lwg := lwg_of (List.mem_of_getElem? (i := 1626) (by decide +kernel)) (by decide +kernel)
abbrev mX12_crossing : Mi := (yX12_crossing, cX12_crossing, 4, (some .int))
theorem cd_X12_crossing : Cond.code yX12_crossing cX12_crossing 4 (some .int) ∈ lwg := lwg_of (List.mem_of_getElem? (i := 1624) (by decide +kernel)) (by decide +kernel)
theorem in_X12_crossing : Cond.instanceMethod yX12_crossing ∈ lwg := lwg_of (List.mem_of_getElem? (i := 1622) (by decide +kernel)) (by decide +kernel)
theorem se_X12_crossing : Cond.selects yX12_crossing.cls yX12_crossing yX12_crossing ∈ lwg := lwg_of (List.mem_of_getElem? (i := 1623) (by decide +kernel)) (by decide +kernel)
abbrev mX12_paths : Mi := (yX12_paths, cX12_paths, 5, (some .int))
theorem cd_X12_paths : Cond.code yX12_paths cX12_paths 5 (some .int) ∈ lwg := lwg_of (List.mem_of_getElem? (i := 1634) (by decide +kernel)) (by decide +kernel)
theorem in_X12_paths : Cond.instanceMethod yX12_paths ∈ lwg := lwg_of (List.mem_of_getElem? (i := 1632) (by decide +kernel)) (by decide +kernel)
theorem se_X12_paths : Cond.selects yX12_paths.cls yX12_paths yX12_paths ∈ lwg := lwg_of (List.mem_of_getElem? (i := 1633) (by decide +kernel)) (by decide +kernel)
abbrev mX12_laysRound : Mi := (yX12_laysRound, cX12_laysRound, 7, none)
theorem cd_X12_laysRound : Cond.code yX12_laysRound cX12_laysRound 7 none ∈ lwg := lwg_of (List.mem_of_getElem? (i := 1646) (by decide +kernel)) (by decide +kernel)
theorem in_X12_laysRound : Cond.instanceMethod yX12_laysRound ∈ lwg := lwg_of (List.mem_of_getElem? (i := 1645) (by decide +kernel)) (by decide +kernel)
theorem se_X12_laysRound : Cond.selects yX12_laysRound.cls yX12_laysRound yX12_laysRound ∈ lwg := lwg_of (List.mem_of_getElem? (i := 83) (by decide +kernel)) (by decide +kernel)
abbrev mX12_round : Mi := (yX12_round, cX12_round, 7, (some .int))
theorem cd_X12_round : Cond.code yX12_round cX12_round 7 (some .int) ∈ lwg := lwg_of (List.mem_of_getElem? (i := 1638) (by decide +kernel)) (by decide +kernel)
theorem in_X12_round : Cond.instanceMethod yX12_round ∈ lwg := lwg_of (List.mem_of_getElem? (i := 1636) (by decide +kernel)) (by decide +kernel)
theorem se_X12_round : Cond.selects yX12_round.cls yX12_round yX12_round ∈ lwg := lwg_of (List.mem_of_getElem? (i := 1637) (by decide +kernel)) (by decide +kernel)
abbrev mX12_counts : Mi := (yX12_counts, cX12_counts, 2, none)
theorem cd_X12_counts : Cond.code yX12_counts cX12_counts 2 none ∈ lwg := lwg_of (List.mem_of_getElem? (i := 1663) (by decide +kernel)) (by decide +kernel)
theorem in_X12_counts : Cond.instanceMethod yX12_counts ∈ lwg := lwg_of (List.mem_of_getElem? (i := 1662) (by decide +kernel)) (by decide +kernel)
theorem se_X12_counts : Cond.selects yX12_counts.cls yX12_counts yX12_counts ∈ lwg := lwg_of (List.mem_of_getElem? (i := 86) (by decide +kernel)) (by decide +kernel)
abbrev mX12_readsWords : Mi := (yX12_readsWords, cX12_readsWords, 5, (some .boolean))
theorem cd_X12_readsWords : Cond.code yX12_readsWords cX12_readsWords 5 (some .boolean) ∈ lwg := lwg_of (List.mem_of_getElem? (i := 1655) (by decide +kernel)) (by decide +kernel)
theorem in_X12_readsWords : Cond.instanceMethod yX12_readsWords ∈ lwg := lwg_of (List.mem_of_getElem? (i := 1654) (by decide +kernel)) (by decide +kernel)
theorem se_X12_readsWords : Cond.selects yX12_readsWords.cls yX12_readsWords yX12_readsWords ∈ lwg := lwg_of (List.mem_of_getElem? (i := 84) (by decide +kernel)) (by decide +kernel)
abbrev mX12_canBeSpelt : Mi := (yX12_canBeSpelt, cX12_canBeSpelt, 5, (some .boolean))
theorem cd_X12_canBeSpelt : Cond.code yX12_canBeSpelt cX12_canBeSpelt 5 (some .boolean) ∈ lwg := lwg_of (List.mem_of_getElem? (i := 1667) (by decide +kernel)) (by decide +kernel)
theorem in_X12_canBeSpelt : Cond.instanceMethod yX12_canBeSpelt ∈ lwg := lwg_of (List.mem_of_getElem? (i := 1666) (by decide +kernel)) (by decide +kernel)
theorem se_X12_canBeSpelt : Cond.selects yX12_canBeSpelt.cls yX12_canBeSpelt yX12_canBeSpelt ∈ lwg := lwg_of (List.mem_of_getElem? (i := 87) (by decide +kernel)) (by decide +kernel)
abbrev mX12_words : Mi := (yX12_words, cX12_words, 5, (some .int))
theorem cd_X12_words : Cond.code yX12_words cX12_words 5 (some .int) ∈ lwg := lwg_of (List.mem_of_getElem? (i := 1651) (by decide +kernel)) (by decide +kernel)
theorem in_X12_words : Cond.instanceMethod yX12_words ∈ lwg := lwg_of (List.mem_of_getElem? (i := 1649) (by decide +kernel)) (by decide +kernel)
theorem se_X12_words : Cond.selects yX12_words.cls yX12_words yX12_words ∈ lwg := lwg_of (List.mem_of_getElem? (i := 1650) (by decide +kernel)) (by decide +kernel)
abbrev mX12_readsRows : Mi := (yX12_readsRows, cX12_readsRows, 6, (some .boolean))
theorem cd_X12_readsRows : Cond.code yX12_readsRows cX12_readsRows 6 (some .boolean) ∈ lwg := lwg_of (List.mem_of_getElem? (i := 1675) (by decide +kernel)) (by decide +kernel)
theorem in_X12_readsRows : Cond.instanceMethod yX12_readsRows ∈ lwg := lwg_of (List.mem_of_getElem? (i := 1674) (by decide +kernel)) (by decide +kernel)
theorem se_X12_readsRows : Cond.selects yX12_readsRows.cls yX12_readsRows yX12_readsRows ∈ lwg := lwg_of (List.mem_of_getElem? (i := 88) (by decide +kernel)) (by decide +kernel)
abbrev mX12_asks : Mi := (yX12_asks, cX12_asks, 6, none)
theorem cd_X12_asks : Cond.code yX12_asks cX12_asks 6 none ∈ lwg := lwg_of (List.mem_of_getElem? (i := 1679) (by decide +kernel)) (by decide +kernel)
theorem in_X12_asks : Cond.instanceMethod yX12_asks ∈ lwg := lwg_of (List.mem_of_getElem? (i := 1678) (by decide +kernel)) (by decide +kernel)
theorem se_X12_asks : Cond.selects yX12_asks.cls yX12_asks yX12_asks ∈ lwg := lwg_of (List.mem_of_getElem? (i := 89) (by decide +kernel)) (by decide +kernel)
abbrev mX12_lasts : Mi := (yX12_lasts, cX12_lasts, 5, (some .boolean))
theorem cd_X12_lasts : Cond.code yX12_lasts cX12_lasts 5 (some .boolean) ∈ lwg := lwg_of (List.mem_of_getElem? (i := 1683) (by decide +kernel)) (by decide +kernel)
theorem in_X12_lasts : Cond.instanceMethod yX12_lasts ∈ lwg := lwg_of (List.mem_of_getElem? (i := 1682) (by decide +kernel)) (by decide +kernel)
theorem se_X12_lasts : Cond.selects yX12_lasts.cls yX12_lasts yX12_lasts ∈ lwg := lwg_of (List.mem_of_getElem? (i := 90) (by decide +kernel)) (by decide +kernel)
abbrev mX12_changesOrder : Mi := (yX12_changesOrder, cX12_changesOrder, 4, none)
theorem cd_X12_changesOrder : Cond.code yX12_changesOrder cX12_changesOrder 4 none ∈ lwg := lwg_of (List.mem_of_getElem? (i := 1691) (by decide +kernel)) (by decide +kernel)
theorem in_X12_changesOrder : Cond.instanceMethod yX12_changesOrder ∈ lwg := lwg_of (List.mem_of_getElem? (i := 1690) (by decide +kernel)) (by decide +kernel)
theorem se_X12_changesOrder : Cond.selects yX12_changesOrder.cls yX12_changesOrder yX12_changesOrder ∈ lwg := lwg_of (List.mem_of_getElem? (i := 92) (by decide +kernel)) (by decide +kernel)
abbrev mX12_nextOrder : Mi := (yX12_nextOrder, cX12_nextOrder, 6, (some .boolean))
theorem cd_X12_nextOrder : Cond.code yX12_nextOrder cX12_nextOrder 6 (some .boolean) ∈ lwg := lwg_of (List.mem_of_getElem? (i := 1687) (by decide +kernel)) (by decide +kernel)
theorem in_X12_nextOrder : Cond.instanceMethod yX12_nextOrder ∈ lwg := lwg_of (List.mem_of_getElem? (i := 1686) (by decide +kernel)) (by decide +kernel)
theorem se_X12_nextOrder : Cond.selects yX12_nextOrder.cls yX12_nextOrder yX12_nextOrder ∈ lwg := lwg_of (List.mem_of_getElem? (i := 91) (by decide +kernel)) (by decide +kernel)
abbrev mX12_marriages : Mi := (yX12_marriages, cX12_marriages, 5, (some .int))
theorem cd_X12_marriages : Cond.code yX12_marriages cX12_marriages 5 (some .int) ∈ lwg := lwg_of (List.mem_of_getElem? (i := 1671) (by decide +kernel)) (by decide +kernel)
theorem in_X12_marriages : Cond.instanceMethod yX12_marriages ∈ lwg := lwg_of (List.mem_of_getElem? (i := 1669) (by decide +kernel)) (by decide +kernel)
theorem se_X12_marriages : Cond.selects yX12_marriages.cls yX12_marriages yX12_marriages ∈ lwg := lwg_of (List.mem_of_getElem? (i := 1670) (by decide +kernel)) (by decide +kernel)
abbrev mX12_closes : Mi := (yX12_closes, cX12_closes, 4, none)
theorem cd_X12_closes : Cond.code yX12_closes cX12_closes 4 none ∈ lwg := lwg_of (List.mem_of_getElem? (i := 1699) (by decide +kernel)) (by decide +kernel)
theorem in_X12_closes : Cond.instanceMethod yX12_closes ∈ lwg := lwg_of (List.mem_of_getElem? (i := 1698) (by decide +kernel)) (by decide +kernel)
theorem se_X12_closes : Cond.selects yX12_closes.cls yX12_closes yX12_closes ∈ lwg := lwg_of (List.mem_of_getElem? (i := 93) (by decide +kernel)) (by decide +kernel)
abbrev mX12_waysOf : Mi := (yX12_waysOf, cX12_waysOf, 4, (some .int))
theorem cd_X12_waysOf : Cond.code yX12_waysOf cX12_waysOf 4 (some .int) ∈ lwg := lwg_of (List.mem_of_getElem? (i := 1703) (by decide +kernel)) (by decide +kernel)
theorem in_X12_waysOf : Cond.instanceMethod yX12_waysOf ∈ lwg := lwg_of (List.mem_of_getElem? (i := 1702) (by decide +kernel)) (by decide +kernel)
theorem se_X12_waysOf : Cond.selects yX12_waysOf.cls yX12_waysOf yX12_waysOf ∈ lwg := lwg_of (List.mem_of_getElem? (i := 94) (by decide +kernel)) (by decide +kernel)
abbrev mX12_orders : Mi := (yX12_orders, cX12_orders, 7, (some .int))
theorem cd_X12_orders : Cond.code yX12_orders cX12_orders 7 (some .int) ∈ lwg := lwg_of (List.mem_of_getElem? (i := 1695) (by decide +kernel)) (by decide +kernel)
theorem in_X12_orders : Cond.instanceMethod yX12_orders ∈ lwg := lwg_of (List.mem_of_getElem? (i := 1693) (by decide +kernel)) (by decide +kernel)
theorem se_X12_orders : Cond.selects yX12_orders.cls yX12_orders yX12_orders ∈ lwg := lwg_of (List.mem_of_getElem? (i := 1694) (by decide +kernel)) (by decide +kernel)
abbrev mX12_seed : Mi := (yX12_seed, cX12_seed, 2, (some .boolean))
theorem cd_X12_seed : Cond.code yX12_seed cX12_seed 2 (some .boolean) ∈ lwg := lwg_of (List.mem_of_getElem? (i := 1707) (by decide +kernel)) (by decide +kernel)
theorem in_X12_seed : Cond.instanceMethod yX12_seed ∈ lwg := lwg_of (List.mem_of_getElem? (i := 1705) (by decide +kernel)) (by decide +kernel)
theorem se_X12_seed : Cond.selects yX12_seed.cls yX12_seed yX12_seed ∈ lwg := lwg_of (List.mem_of_getElem? (i := 1706) (by decide +kernel)) (by decide +kernel)
abbrev mX12_keep : Mi := (yX12_keep, cX12_keep, 1, (some .int))
theorem cd_X12_keep : Cond.code yX12_keep cX12_keep 1 (some .int) ∈ lwg := lwg_of (List.mem_of_getElem? (i := 1711) (by decide +kernel)) (by decide +kernel)
theorem in_X12_keep : Cond.instanceMethod yX12_keep ∈ lwg := lwg_of (List.mem_of_getElem? (i := 1709) (by decide +kernel)) (by decide +kernel)
theorem se_X12_keep : Cond.selects yX12_keep.cls yX12_keep yX12_keep ∈ lwg := lwg_of (List.mem_of_getElem? (i := 1710) (by decide +kernel)) (by decide +kernel)
abbrev mX12_undo : Mi := (yX12_undo, cX12_undo, 3, (some .boolean))
theorem cd_X12_undo : Cond.code yX12_undo cX12_undo 3 (some .boolean) ∈ lwg := lwg_of (List.mem_of_getElem? (i := 1715) (by decide +kernel)) (by decide +kernel)
theorem in_X12_undo : Cond.instanceMethod yX12_undo ∈ lwg := lwg_of (List.mem_of_getElem? (i := 1713) (by decide +kernel)) (by decide +kernel)
theorem se_X12_undo : Cond.selects yX12_undo.cls yX12_undo yX12_undo ∈ lwg := lwg_of (List.mem_of_getElem? (i := 1714) (by decide +kernel)) (by decide +kernel)
abbrev mX12_check : Mi := (yX12_check, cX12_check, 3, (some .int))
theorem cd_X12_check : Cond.code yX12_check cX12_check 3 (some .int) ∈ lwg := lwg_of (List.mem_of_getElem? (i := 1719) (by decide +kernel)) (by decide +kernel)
theorem in_X12_check : Cond.instanceMethod yX12_check ∈ lwg := lwg_of (List.mem_of_getElem? (i := 1717) (by decide +kernel)) (by decide +kernel)
theorem se_X12_check : Cond.selects yX12_check.cls yX12_check yX12_check ∈ lwg := lwg_of (List.mem_of_getElem? (i := 1718) (by decide +kernel)) (by decide +kernel)
abbrev mX12_callsOfAll : Mi := (yX12_callsOfAll, cX12_callsOfAll, 3, (some .int))
theorem cd_X12_callsOfAll : Cond.code yX12_callsOfAll cX12_callsOfAll 3 (some .int) ∈ lwg := lwg_of (List.mem_of_getElem? (i := 1727) (by decide +kernel)) (by decide +kernel)
theorem in_X12_callsOfAll : Cond.instanceMethod yX12_callsOfAll ∈ lwg := lwg_of (List.mem_of_getElem? (i := 1726) (by decide +kernel)) (by decide +kernel)
theorem se_X12_callsOfAll : Cond.selects yX12_callsOfAll.cls yX12_callsOfAll yX12_callsOfAll ∈ lwg := lwg_of (List.mem_of_getElem? (i := 95) (by decide +kernel)) (by decide +kernel)
abbrev mX12_count : Mi := (yX12_count, cX12_count, 2, (some .int))
theorem cd_X12_count : Cond.code yX12_count cX12_count 2 (some .int) ∈ lwg := lwg_of (List.mem_of_getElem? (i := 1723) (by decide +kernel)) (by decide +kernel)
theorem in_X12_count : Cond.instanceMethod yX12_count ∈ lwg := lwg_of (List.mem_of_getElem? (i := 1721) (by decide +kernel)) (by decide +kernel)
theorem se_X12_count : Cond.selects yX12_count.cls yX12_count yX12_count ∈ lwg := lwg_of (List.mem_of_getElem? (i := 1722) (by decide +kernel)) (by decide +kernel)
abbrev mJ11_isValidCodePoint_9a6ad : Mi := (yJ11_isValidCodePoint_9a6ad, cJ11_isValidCodePoint_9a6ad, 2, (some .boolean))
theorem cd_J11_isValidCodePoint_9a6ad : Cond.code yJ11_isValidCodePoint_9a6ad cJ11_isValidCodePoint_9a6ad 2 (some .boolean) ∈ lwg := lwg_of (List.mem_of_getElem? (i := 624) (by decide +kernel)) (by decide +kernel)
theorem st_J11_isValidCodePoint_9a6ad : Cond.static yJ11_isValidCodePoint_9a6ad ∈ lwg := lwg_of (List.mem_of_getElem? (i := 623) (by decide +kernel)) (by decide +kernel)
abbrev mJ11_highSurrogate_5068e : Mi := (yJ11_highSurrogate_5068e, cJ11_highSurrogate_5068e, 1, (some .char))
theorem cd_J11_highSurrogate_5068e : Cond.code yJ11_highSurrogate_5068e cJ11_highSurrogate_5068e 1 (some .char) ∈ lwg := lwg_of (List.mem_of_getElem? (i := 627) (by decide +kernel)) (by decide +kernel)
theorem st_J11_highSurrogate_5068e : Cond.static yJ11_highSurrogate_5068e ∈ lwg := lwg_of (List.mem_of_getElem? (i := 626) (by decide +kernel)) (by decide +kernel)
abbrev mJ11_lowSurrogate_5068e : Mi := (yJ11_lowSurrogate_5068e, cJ11_lowSurrogate_5068e, 1, (some .char))
theorem cd_J11_lowSurrogate_5068e : Cond.code yJ11_lowSurrogate_5068e cJ11_lowSurrogate_5068e 1 (some .char) ∈ lwg := lwg_of (List.mem_of_getElem? (i := 631) (by decide +kernel)) (by decide +kernel)
theorem st_J11_lowSurrogate_5068e : Cond.static yJ11_lowSurrogate_5068e ∈ lwg := lwg_of (List.mem_of_getElem? (i := 630) (by decide +kernel)) (by decide +kernel)
abbrev mJ6_compare_7cf53 : Mi := (yJ6_compare_7cf53, cJ6_compare_7cf53, 2, (some .int))
theorem cd_J6_compare_7cf53 : Cond.code yJ6_compare_7cf53 cJ6_compare_7cf53 2 (some .int) ∈ lwg := lwg_of (List.mem_of_getElem? (i := 815) (by decide +kernel)) (by decide +kernel)
theorem st_J6_compare_7cf53 : Cond.static yJ6_compare_7cf53 ∈ lwg := lwg_of (List.mem_of_getElem? (i := 814) (by decide +kernel)) (by decide +kernel)
abbrev mJ6_numberOfTrailingZeros_0f7a4 : Mi := (yJ6_numberOfTrailingZeros_0f7a4, cJ6_numberOfTrailingZeros_0f7a4, 2, (some .int))
theorem cd_J6_numberOfTrailingZeros_0f7a4 : Cond.code yJ6_numberOfTrailingZeros_0f7a4 cJ6_numberOfTrailingZeros_0f7a4 2 (some .int) ∈ lwg := lwg_of (List.mem_of_getElem? (i := 918) (by decide +kernel)) (by decide +kernel)
theorem st_J6_numberOfTrailingZeros_0f7a4 : Cond.static yJ6_numberOfTrailingZeros_0f7a4 ∈ lwg := lwg_of (List.mem_of_getElem? (i := 917) (by decide +kernel)) (by decide +kernel)
abbrev mJ6_bitCount_0f7a4 : Mi := (yJ6_bitCount_0f7a4, cJ6_bitCount_0f7a4, 1, (some .int))
theorem cd_J6_bitCount_0f7a4 : Cond.code yJ6_bitCount_0f7a4 cJ6_bitCount_0f7a4 1 (some .int) ∈ lwg := lwg_of (List.mem_of_getElem? (i := 983) (by decide +kernel)) (by decide +kernel)
theorem st_J6_bitCount_0f7a4 : Cond.static yJ6_bitCount_0f7a4 ∈ lwg := lwg_of (List.mem_of_getElem? (i := 982) (by decide +kernel)) (by decide +kernel)
abbrev mJ6_signum_0f7a4 : Mi := (yJ6_signum_0f7a4, cJ6_signum_0f7a4, 1, (some .int))
theorem cd_J6_signum_0f7a4 : Cond.code yJ6_signum_0f7a4 cJ6_signum_0f7a4 1 (some .int) ∈ lwg := lwg_of (List.mem_of_getElem? (i := 955) (by decide +kernel)) (by decide +kernel)
theorem st_J6_signum_0f7a4 : Cond.static yJ6_signum_0f7a4 ∈ lwg := lwg_of (List.mem_of_getElem? (i := 954) (by decide +kernel)) (by decide +kernel)
abbrev mJ9_abs_0f7a4 : Mi := (yJ9_abs_0f7a4, cJ9_abs_0f7a4, 1, (some .int))
theorem cd_J9_abs_0f7a4 : Cond.code yJ9_abs_0f7a4 cJ9_abs_0f7a4 1 (some .int) ∈ lwg := lwg_of (List.mem_of_getElem? (i := 766) (by decide +kernel)) (by decide +kernel)
theorem st_J9_abs_0f7a4 : Cond.static yJ9_abs_0f7a4 ∈ lwg := lwg_of (List.mem_of_getElem? (i := 765) (by decide +kernel)) (by decide +kernel)
abbrev mJ9_max_7cf53 : Mi := (yJ9_max_7cf53, cJ9_max_7cf53, 2, (some .int))
theorem cd_J9_max_7cf53 : Cond.code yJ9_max_7cf53 cJ9_max_7cf53 2 (some .int) ∈ lwg := lwg_of (List.mem_of_getElem? (i := 579) (by decide +kernel)) (by decide +kernel)
theorem st_J9_max_7cf53 : Cond.static yJ9_max_7cf53 ∈ lwg := lwg_of (List.mem_of_getElem? (i := 578) (by decide +kernel)) (by decide +kernel)
abbrev mJ9_min_7cf53 : Mi := (yJ9_min_7cf53, cJ9_min_7cf53, 2, (some .int))
theorem cd_J9_min_7cf53 : Cond.code yJ9_min_7cf53 cJ9_min_7cf53 2 (some .int) ∈ lwg := lwg_of (List.mem_of_getElem? (i := 527) (by decide +kernel)) (by decide +kernel)
theorem st_J9_min_7cf53 : Cond.static yJ9_min_7cf53 ∈ lwg := lwg_of (List.mem_of_getElem? (i := 526) (by decide +kernel)) (by decide +kernel)
abbrev mJ0_length_8abf5 : Mi := (yJ0_length_8abf5, cJ0_length_8abf5, 1, (some .int))
theorem cd_J0_length_8abf5 : Cond.code yJ0_length_8abf5 cJ0_length_8abf5 1 (some .int) ∈ lwg := lwg_of (List.mem_of_getElem? (i := 566) (by decide +kernel)) (by decide +kernel)
theorem in_J0_length_8abf5 : Cond.instanceMethod yJ0_length_8abf5 ∈ lwg := lwg_of (List.mem_of_getElem? (i := 564) (by decide +kernel)) (by decide +kernel)
theorem se_J0_length_8abf5 : Cond.selects yJ0_length_8abf5.cls yJ0_length_8abf5 yJ0_length_8abf5 ∈ lwg := lwg_of (List.mem_of_getElem? (i := 565) (by decide +kernel)) (by decide +kernel)
abbrev mJ0_indexOf_0f7a4 : Mi := (yJ0_indexOf_0f7a4, cJ0_indexOf_0f7a4, 2, (some .int))
theorem cd_J0_indexOf_0f7a4 : Cond.code yJ0_indexOf_0f7a4 cJ0_indexOf_0f7a4 2 (some .int) ∈ lwg := lwg_of (List.mem_of_getElem? (i := 552) (by decide +kernel)) (by decide +kernel)
theorem in_J0_indexOf_0f7a4 : Cond.instanceMethod yJ0_indexOf_0f7a4 ∈ lwg := lwg_of (List.mem_of_getElem? (i := 550) (by decide +kernel)) (by decide +kernel)
theorem se_J0_indexOf_0f7a4 : Cond.selects yJ0_indexOf_0f7a4.cls yJ0_indexOf_0f7a4 yJ0_indexOf_0f7a4 ∈ lwg := lwg_of (List.mem_of_getElem? (i := 551) (by decide +kernel)) (by decide +kernel)
abbrev mJ0_indexOf_7cf53 : Mi := (yJ0_indexOf_7cf53, cJ0_indexOf_7cf53, 3, (some .int))
theorem cd_J0_indexOf_7cf53 : Cond.code yJ0_indexOf_7cf53 cJ0_indexOf_7cf53 3 (some .int) ∈ lwg := lwg_of (List.mem_of_getElem? (i := 556) (by decide +kernel)) (by decide +kernel)
theorem in_J0_indexOf_7cf53 : Cond.instanceMethod yJ0_indexOf_7cf53 ∈ lwg := lwg_of (List.mem_of_getElem? (i := 554) (by decide +kernel)) (by decide +kernel)
theorem se_J0_indexOf_7cf53 : Cond.selects yJ0_indexOf_7cf53.cls yJ0_indexOf_7cf53 yJ0_indexOf_7cf53 ∈ lwg := lwg_of (List.mem_of_getElem? (i := 555) (by decide +kernel)) (by decide +kernel)
abbrev mJ0_coder_7d493 : Mi := (yJ0_coder_7d493, cJ0_coder_7d493, 1, (some .byte))
theorem cd_J0_coder_7d493 : Cond.code yJ0_coder_7d493 cJ0_coder_7d493 1 (some .byte) ∈ lwg := lwg_of (List.mem_of_getElem? (i := 570) (by decide +kernel)) (by decide +kernel)
theorem in_J0_coder_7d493 : Cond.instanceMethod yJ0_coder_7d493 ∈ lwg := lwg_of (List.mem_of_getElem? (i := 568) (by decide +kernel)) (by decide +kernel)
theorem se_J0_coder_7d493 : Cond.selects yJ0_coder_7d493.cls yJ0_coder_7d493 yJ0_coder_7d493 ∈ lwg := lwg_of (List.mem_of_getElem? (i := 569) (by decide +kernel)) (by decide +kernel)
abbrev mJ0_isLatin1_aae02 : Mi := (yJ0_isLatin1_aae02, cJ0_isLatin1_aae02, 1, (some .boolean))
theorem cd_J0_isLatin1_aae02 : Cond.code yJ0_isLatin1_aae02 cJ0_isLatin1_aae02 1 (some .boolean) ∈ lwg := lwg_of (List.mem_of_getElem? (i := 560) (by decide +kernel)) (by decide +kernel)
theorem in_J0_isLatin1_aae02 : Cond.instanceMethod yJ0_isLatin1_aae02 ∈ lwg := lwg_of (List.mem_of_getElem? (i := 558) (by decide +kernel)) (by decide +kernel)
theorem se_J0_isLatin1_aae02 : Cond.selects yJ0_isLatin1_aae02.cls yJ0_isLatin1_aae02 yJ0_isLatin1_aae02 ∈ lwg := lwg_of (List.mem_of_getElem? (i := 559) (by decide +kernel)) (by decide +kernel)
abbrev mJ0_checkBoundsBeginEnd_23922 : Mi := (yJ0_checkBoundsBeginEnd_23922, cJ0_checkBoundsBeginEnd_23922, 3, none)
theorem cd_J0_checkBoundsBeginEnd_23922 : Cond.code yJ0_checkBoundsBeginEnd_23922 cJ0_checkBoundsBeginEnd_23922 3 none ∈ lwg := lwg_of (List.mem_of_getElem? (i := 601) (by decide +kernel)) (by decide +kernel)
theorem st_J0_checkBoundsBeginEnd_23922 : Cond.static yJ0_checkBoundsBeginEnd_23922 ∈ lwg := lwg_of (List.mem_of_getElem? (i := 600) (by decide +kernel)) (by decide +kernel)
abbrev mJ1_canEncode_9a6ad : Mi := (yJ1_canEncode_9a6ad, cJ1_canEncode_9a6ad, 1, (some .boolean))
theorem cd_J1_canEncode_9a6ad : Cond.code yJ1_canEncode_9a6ad cJ1_canEncode_9a6ad 1 (some .boolean) ∈ lwg := lwg_of (List.mem_of_getElem? (i := 576) (by decide +kernel)) (by decide +kernel)
theorem st_J1_canEncode_9a6ad : Cond.static yJ1_canEncode_9a6ad ∈ lwg := lwg_of (List.mem_of_getElem? (i := 575) (by decide +kernel)) (by decide +kernel)
abbrev mJ1_indexOf_4cfef : Mi := (yJ1_indexOf_4cfef, cJ1_indexOf_4cfef, 4, (some .int))
theorem cd_J1_indexOf_4cfef : Cond.code yJ1_indexOf_4cfef cJ1_indexOf_4cfef 4 (some .int) ∈ lwg := lwg_of (List.mem_of_getElem? (i := 573) (by decide +kernel)) (by decide +kernel)
theorem st_J1_indexOf_4cfef : Cond.static yJ1_indexOf_4cfef ∈ lwg := lwg_of (List.mem_of_getElem? (i := 572) (by decide +kernel)) (by decide +kernel)
abbrev mJ1_indexOfChar_4cfef : Mi := (yJ1_indexOfChar_4cfef, cJ1_indexOfChar_4cfef, 6, (some .int))
theorem cd_J1_indexOfChar_4cfef : Cond.code yJ1_indexOfChar_4cfef cJ1_indexOfChar_4cfef 6 (some .int) ∈ lwg := lwg_of (List.mem_of_getElem? (i := 583) (by decide +kernel)) (by decide +kernel)
theorem st_J1_indexOfChar_4cfef : Cond.static yJ1_indexOfChar_4cfef ∈ lwg := lwg_of (List.mem_of_getElem? (i := 582) (by decide +kernel)) (by decide +kernel)
abbrev mJ2_getChar_3b067 : Mi := (yJ2_getChar_3b067, cJ2_getChar_3b067, 2, (some .char))
theorem cd_J2_getChar_3b067 : Cond.code yJ2_getChar_3b067 cJ2_getChar_3b067 2 (some .char) ∈ lwg := lwg_of (List.mem_of_getElem? (i := 612) (by decide +kernel)) (by decide +kernel)
theorem st_J2_getChar_3b067 : Cond.static yJ2_getChar_3b067 ∈ lwg := lwg_of (List.mem_of_getElem? (i := 611) (by decide +kernel)) (by decide +kernel)
abbrev mJ2_length_9d52b : Mi := (yJ2_length_9d52b, cJ2_length_9d52b, 1, (some .int))
theorem cd_J2_length_9d52b : Cond.code yJ2_length_9d52b cJ2_length_9d52b 1 (some .int) ∈ lwg := lwg_of (List.mem_of_getElem? (i := 598) (by decide +kernel)) (by decide +kernel)
theorem st_J2_length_9d52b : Cond.static yJ2_length_9d52b ∈ lwg := lwg_of (List.mem_of_getElem? (i := 597) (by decide +kernel)) (by decide +kernel)
abbrev mJ2_indexOf_4cfef : Mi := (yJ2_indexOf_4cfef, cJ2_indexOf_4cfef, 4, (some .int))
theorem cd_J2_indexOf_4cfef : Cond.code yJ2_indexOf_4cfef cJ2_indexOf_4cfef 4 (some .int) ∈ lwg := lwg_of (List.mem_of_getElem? (i := 586) (by decide +kernel)) (by decide +kernel)
theorem st_J2_indexOf_4cfef : Cond.static yJ2_indexOf_4cfef ∈ lwg := lwg_of (List.mem_of_getElem? (i := 585) (by decide +kernel)) (by decide +kernel)
abbrev mJ2_indexOfChar_4cfef : Mi := (yJ2_indexOfChar_4cfef, cJ2_indexOfChar_4cfef, 4, (some .int))
theorem cd_J2_indexOfChar_4cfef : Cond.code yJ2_indexOfChar_4cfef cJ2_indexOfChar_4cfef 4 (some .int) ∈ lwg := lwg_of (List.mem_of_getElem? (i := 592) (by decide +kernel)) (by decide +kernel)
theorem st_J2_indexOfChar_4cfef : Cond.static yJ2_indexOfChar_4cfef ∈ lwg := lwg_of (List.mem_of_getElem? (i := 591) (by decide +kernel)) (by decide +kernel)
abbrev mJ2_indexOfCharUnsafe_4cfef : Mi := (yJ2_indexOfCharUnsafe_4cfef, cJ2_indexOfCharUnsafe_4cfef, 5, (some .int))
theorem cd_J2_indexOfCharUnsafe_4cfef : Cond.code yJ2_indexOfCharUnsafe_4cfef cJ2_indexOfCharUnsafe_4cfef 5 (some .int) ∈ lwg := lwg_of (List.mem_of_getElem? (i := 609) (by decide +kernel)) (by decide +kernel)
theorem st_J2_indexOfCharUnsafe_4cfef : Cond.static yJ2_indexOfCharUnsafe_4cfef ∈ lwg := lwg_of (List.mem_of_getElem? (i := 608) (by decide +kernel)) (by decide +kernel)
abbrev mJ2_indexOfSupplementary_4cfef : Mi := (yJ2_indexOfSupplementary_4cfef, cJ2_indexOfSupplementary_4cfef, 7, (some .int))
theorem cd_J2_indexOfSupplementary_4cfef : Cond.code yJ2_indexOfSupplementary_4cfef cJ2_indexOfSupplementary_4cfef 7 (some .int) ∈ lwg := lwg_of (List.mem_of_getElem? (i := 621) (by decide +kernel)) (by decide +kernel)
theorem st_J2_indexOfSupplementary_4cfef : Cond.static yJ2_indexOfSupplementary_4cfef ∈ lwg := lwg_of (List.mem_of_getElem? (i := 620) (by decide +kernel)) (by decide +kernel)
abbrev mJ2_checkBoundsBeginEnd_d044e : Mi := (yJ2_checkBoundsBeginEnd_d044e, cJ2_checkBoundsBeginEnd_d044e, 3, none)
theorem cd_J2_checkBoundsBeginEnd_d044e : Cond.code yJ2_checkBoundsBeginEnd_d044e cJ2_checkBoundsBeginEnd_d044e 3 none ∈ lwg := lwg_of (List.mem_of_getElem? (i := 595) (by decide +kernel)) (by decide +kernel)
theorem st_J2_checkBoundsBeginEnd_d044e : Cond.static yJ2_checkBoundsBeginEnd_d044e ∈ lwg := lwg_of (List.mem_of_getElem? (i := 594) (by decide +kernel)) (by decide +kernel)
abbrev mJ3_checkFromToIndex_8c36e : Mi := (yJ3_checkFromToIndex_8c36e, cJ3_checkFromToIndex_8c36e, 4, (some .int))
theorem cd_J3_checkFromToIndex_8c36e : Cond.code yJ3_checkFromToIndex_8c36e cJ3_checkFromToIndex_8c36e 4 (some .int) ∈ lwg := lwg_of (List.mem_of_getElem? (i := 606) (by decide +kernel)) (by decide +kernel)
theorem st_J3_checkFromToIndex_8c36e : Cond.static yJ3_checkFromToIndex_8c36e ∈ lwg := lwg_of (List.mem_of_getElem? (i := 605) (by decide +kernel)) (by decide +kernel)
theorem l_X11_9 : COK RX11 9 mX9_init 0 := ⟨lwg_of (List.mem_of_getElem? (i := 128) (by decide +kernel)) (by decide +kernel), cd_X9_init, ini_X9, by decide +kernel⟩
theorem l_X11_18 : COK RX11 18 mX1_init 0 := ⟨lwg_of (List.mem_of_getElem? (i := 154) (by decide +kernel)) (by decide +kernel), cd_X1_init, ini_X1, by decide +kernel⟩
theorem l_X11_25 : COK RX11 25 mX0_init 1 := ⟨lwg_of (List.mem_of_getElem? (i := 219) (by decide +kernel)) (by decide +kernel), cd_X0_init, ini_X0, by decide +kernel⟩
theorem l_X11_34 : COK RX11 34 mX3_init 0 := ⟨lwg_of (List.mem_of_getElem? (i := 235) (by decide +kernel)) (by decide +kernel), cd_X3_init, ini_X3, by decide +kernel⟩
theorem l_X11_41 : COK RX11 41 mX4_init 1 := ⟨lwg_of (List.mem_of_getElem? (i := 276) (by decide +kernel)) (by decide +kernel), cd_X4_init, ini_X4, by decide +kernel⟩
theorem l_X11_48 : COK RX11 48 mX8_init 0 := ⟨lwg_of (List.mem_of_getElem? (i := 292) (by decide +kernel)) (by decide +kernel), cd_X8_init, ini_X8, by decide +kernel⟩
theorem l_X11_61 : COK RX11 61 mX10_init 2 := ⟨lwg_of (List.mem_of_getElem? (i := 336) (by decide +kernel)) (by decide +kernel), cd_X10_init, ini_X10, by decide +kernel⟩
theorem l_X11_70 : COK RX11 70 mX2_init 0 := ⟨lwg_of (List.mem_of_getElem? (i := 352) (by decide +kernel)) (by decide +kernel), cd_X2_init, ini_X2, by decide +kernel⟩
theorem l_X11_77 : COK RX11 77 mX6_init 0 := ⟨lwg_of (List.mem_of_getElem? (i := 376) (by decide +kernel)) (by decide +kernel), cd_X6_init, ini_X6, by decide +kernel⟩
theorem l_X11_84 : COK RX11 84 mX7_init 0 := ⟨lwg_of (List.mem_of_getElem? (i := 403) (by decide +kernel)) (by decide +kernel), cd_X7_init, ini_X7, by decide +kernel⟩
theorem l_X11_91 : COK RX11 91 mX5_init 0 := ⟨lwg_of (List.mem_of_getElem? (i := 419) (by decide +kernel)) (by decide +kernel), cd_X5_init, ini_X5, by decide +kernel⟩
theorem l_X11_104 : COK RX11 104 mX11_isCut 1 := ⟨lwg_of (List.mem_of_getElem? (i := 495) (by decide +kernel)) (by decide +kernel), cd_X11_isCut, ini_X11, by decide +kernel⟩
theorem l_X11_108 : COK RX11 108 mX11_isAcross 1 := ⟨lwg_of (List.mem_of_getElem? (i := 499) (by decide +kernel)) (by decide +kernel), cd_X11_isAcross, ini_X11, by decide +kernel⟩
theorem l_X11_111 : COK RX11 111 mX11_isAlong 1 := ⟨lwg_of (List.mem_of_getElem? (i := 502) (by decide +kernel)) (by decide +kernel), cd_X11_isAlong, ini_X11, by decide +kernel⟩
theorem l_X11_121 : COK RX11 121 mX9_addWord 1 := ⟨lwg_of (List.mem_of_getElem? (i := 509) (by decide +kernel)) (by decide +kernel), cd_X9_addWord, ini_X9, by decide +kernel⟩
theorem l_X11_125 : COK RX11 125 mX4_read 1 := ⟨lwg_of (List.mem_of_getElem? (i := 517) (by decide +kernel)) (by decide +kernel), cd_X4_read, ini_X4, by decide +kernel⟩
theorem l_X11_129 : COK RX11 129 mX9_clear 0 := ⟨lwg_of (List.mem_of_getElem? (i := 675) (by decide +kernel)) (by decide +kernel), cd_X9_clear, ini_X9, by decide +kernel⟩
theorem l_X11_135 : COK RX11 135 mX3_copyOf 1 := ⟨lwg_of (List.mem_of_getElem? (i := 679) (by decide +kernel)) (by decide +kernel), cd_X3_copyOf, ini_X3, by decide +kernel⟩
theorem l_X11_139 : COK RX11 139 mX0_read 1 := ⟨lwg_of (List.mem_of_getElem? (i := 691) (by decide +kernel)) (by decide +kernel), cd_X0_read, ini_X0, by decide +kernel⟩
theorem l_X11_142 : COK RX11 142 mX1_copyOf 1 := ⟨lwg_of (List.mem_of_getElem? (i := 725) (by decide +kernel)) (by decide +kernel), cd_X1_copyOf, ini_X1, by decide +kernel⟩
theorem l_X11_145 : COK RX11 145 mX8_begin 1 := ⟨lwg_of (List.mem_of_getElem? (i := 730) (by decide +kernel)) (by decide +kernel), cd_X8_begin, ini_X8, by decide +kernel⟩
theorem l_X11_148 : COK RX11 148 mX11_isSpan 1 := ⟨lwg_of (List.mem_of_getElem? (i := 738) (by decide +kernel)) (by decide +kernel), cd_X11_isSpan, ini_X11, by decide +kernel⟩
theorem l_X11_151 : COK RX11 151 mX10_go 2 := ⟨lwg_of (List.mem_of_getElem? (i := 741) (by decide +kernel)) (by decide +kernel), cd_X10_go, ini_X10, by decide +kernel⟩
theorem l_X11_156 : COK RX11 156 mX8_copyOf 2 := ⟨lwg_of (List.mem_of_getElem? (i := 825) (by decide +kernel)) (by decide +kernel), cd_X8_copyOf, ini_X8, by decide +kernel⟩
theorem l_X11_159 : COK RX11 159 mX8_bitsOf 2 := ⟨lwg_of (List.mem_of_getElem? (i := 832) (by decide +kernel)) (by decide +kernel), cd_X8_bitsOf, ini_X8, by decide +kernel⟩
theorem l_X11_199 : COK RX11 199 mX8_areTogether 2 := ⟨lwg_of (List.mem_of_getElem? (i := 844) (by decide +kernel)) (by decide +kernel), cd_X8_areTogether, ini_X8, by decide +kernel⟩
theorem l_X11_203 : COK RX11 203 mX10_season 1 := ⟨lwg_of (List.mem_of_getElem? (i := 848) (by decide +kernel)) (by decide +kernel), cd_X10_season, ini_X10, by decide +kernel⟩
theorem l_X11_207 : COK RX11 207 mX1_letterBits 1 := ⟨lwg_of (List.mem_of_getElem? (i := 865) (by decide +kernel)) (by decide +kernel), cd_X1_letterBits, ini_X1, by decide +kernel⟩
theorem l_X11_210 : COK RX11 210 mX11_steps 2 := ⟨lwg_of (List.mem_of_getElem? (i := 873) (by decide +kernel)) (by decide +kernel), cd_X11_steps, ini_X11, by decide +kernel⟩
theorem l_X11_215 : COK RX11 215 mJ9_max_7cf53 2 := ⟨lwg_of (List.mem_of_getElem? (i := 878) (by decide +kernel)) (by decide +kernel), cd_J9_max_7cf53, ini_J9, by decide +kernel⟩
theorem l_X11_220 : COK RX11 220 mJ9_min_7cf53 2 := ⟨lwg_of (List.mem_of_getElem? (i := 883) (by decide +kernel)) (by decide +kernel), cd_J9_min_7cf53, ini_J9, by decide +kernel⟩
theorem l_X11_223 : COK RX11 223 mX1_dwellersAt 1 := ⟨lwg_of (List.mem_of_getElem? (i := 888) (by decide +kernel)) (by decide +kernel), cd_X1_dwellersAt, ini_X1, by decide +kernel⟩
theorem l_X11_226 : COK RX11 226 mX2_gather 2 := ⟨lwg_of (List.mem_of_getElem? (i := 896) (by decide +kernel)) (by decide +kernel), cd_X2_gather, ini_X2, by decide +kernel⟩
theorem l_X11_230 : COK RX11 230 mX2_within 4 := ⟨lwg_of (List.mem_of_getElem? (i := 904) (by decide +kernel)) (by decide +kernel), cd_X2_within, ini_X2, by decide +kernel⟩
theorem l_X11_234 : COK RX11 234 mX11_groupOf 2 := ⟨lwg_of (List.mem_of_getElem? (i := 912) (by decide +kernel)) (by decide +kernel), cd_X11_groupOf, ini_X11, by decide +kernel⟩
theorem l_X11_237 : COK RX11 237 mX2_putFence 0 := ⟨lwg_of (List.mem_of_getElem? (i := 928) (by decide +kernel)) (by decide +kernel), cd_X2_putFence, ini_X2, by decide +kernel⟩
theorem l_X11_243 : COK RX11 243 mX2_twiceGround 0 := ⟨lwg_of (List.mem_of_getElem? (i := 940) (by decide +kernel)) (by decide +kernel), cd_X2_twiceGround, ini_X2, by decide +kernel⟩
theorem l_X11_247 : COK RX11 247 mX11_doCross 4 := ⟨lwg_of (List.mem_of_getElem? (i := 949) (by decide +kernel)) (by decide +kernel), cd_X11_doCross, ini_X11, by decide +kernel⟩
theorem l_X11_251 : COK RX11 251 mX2_leastPaths 0 := ⟨lwg_of (List.mem_of_getElem? (i := 963) (by decide +kernel)) (by decide +kernel), cd_X2_leastPaths, ini_X2, by decide +kernel⟩
theorem l_X11_255 : COK RX11 255 mJ6_bitCount_0f7a4 1 := ⟨lwg_of (List.mem_of_getElem? (i := 981) (by decide +kernel)) (by decide +kernel), cd_J6_bitCount_0f7a4, ini_J6, by decide +kernel⟩
theorem l_X11_260 : COK RX11 260 mX6_tellRound 2 := ⟨lwg_of (List.mem_of_getElem? (i := 987) (by decide +kernel)) (by decide +kernel), cd_X6_tellRound, ini_X6, by decide +kernel⟩
theorem l_X11_270 : COK RX11 270 mX7_read 2 := ⟨lwg_of (List.mem_of_getElem? (i := 1006) (by decide +kernel)) (by decide +kernel), cd_X7_read, ini_X7, by decide +kernel⟩
theorem l_X11_273 : COK RX11 273 mX7_stock 2 := ⟨lwg_of (List.mem_of_getElem? (i := 1014) (by decide +kernel)) (by decide +kernel), cd_X7_stock, ini_X7, by decide +kernel⟩
theorem l_X11_276 : COK RX11 276 mX7_mostAtOnce 0 := ⟨lwg_of (List.mem_of_getElem? (i := 1019) (by decide +kernel)) (by decide +kernel), cd_X7_mostAtOnce, ini_X7, by decide +kernel⟩
theorem l_X11_279 : COK RX11 279 mX5_read 2 := ⟨lwg_of (List.mem_of_getElem? (i := 1032) (by decide +kernel)) (by decide +kernel), cd_X5_read, ini_X5, by decide +kernel⟩
theorem l_X11_280 : COK RX11 280 mX5_howManyLast 0 := ⟨lwg_of (List.mem_of_getElem? (i := 1041) (by decide +kernel)) (by decide +kernel), cd_X5_howManyLast, ini_X5, by decide +kernel⟩
theorem l_X11_283 : COK RX11 283 mX5_whomGets 1 := ⟨lwg_of (List.mem_of_getElem? (i := 1057) (by decide +kernel)) (by decide +kernel), cd_X5_whomGets, ini_X5, by decide +kernel⟩
theorem l_X11_286 : COK RX11 286 mX6_readTwos 3 := ⟨lwg_of (List.mem_of_getElem? (i := 1073) (by decide +kernel)) (by decide +kernel), cd_X6_readTwos, ini_X6, by decide +kernel⟩
theorem l_X11_290 : COK RX11 290 mX6_tellOrders 1 := ⟨lwg_of (List.mem_of_getElem? (i := 1078) (by decide +kernel)) (by decide +kernel), cd_X6_tellOrders, ini_X6, by decide +kernel⟩
theorem l_X11_293 : COK RX11 293 mX6_earliest 2 := ⟨lwg_of (List.mem_of_getElem? (i := 1082) (by decide +kernel)) (by decide +kernel), cd_X6_earliest, ini_X6, by decide +kernel⟩
theorem l_X11_300 : COK RX11 300 mX9_byteAt 1 := ⟨lwg_of (List.mem_of_getElem? (i := 1104) (by decide +kernel)) (by decide +kernel), cd_X9_byteAt, ini_X9, by decide +kernel⟩
theorem l_X11_303 : COK RX11 303 mX8_calledByAll 1 := ⟨lwg_of (List.mem_of_getElem? (i := 1109) (by decide +kernel)) (by decide +kernel), cd_X8_calledByAll, ini_X8, by decide +kernel⟩
theorem l_X11_307 : COK RX11 307 mJ6_numberOfTrailingZeros_0f7a4 1 := ⟨lwg_of (List.mem_of_getElem? (i := 916) (by decide +kernel)) (by decide +kernel), cd_J6_numberOfTrailingZeros_0f7a4, ini_J6, by decide +kernel⟩
theorem l_X11_310 : COK RX11 310 mX11_nearTo 2 := ⟨lwg_of (List.mem_of_getElem? (i := 920) (by decide +kernel)) (by decide +kernel), cd_X11_nearTo, ini_X11, by decide +kernel⟩
theorem l_X11_313 : COK RX11 313 mJ9_abs_0f7a4 1 := ⟨lwg_of (List.mem_of_getElem? (i := 764) (by decide +kernel)) (by decide +kernel), cd_J9_abs_0f7a4, ini_J9, by decide +kernel⟩
theorem l_X11_316 : COK RX11 316 mX11_side 3 := ⟨lwg_of (List.mem_of_getElem? (i := 952) (by decide +kernel)) (by decide +kernel), cd_X11_side, ini_X11, by decide +kernel⟩
theorem l_X11_320 : COK RX11 320 mJ6_signum_0f7a4 1 := ⟨lwg_of (List.mem_of_getElem? (i := 953) (by decide +kernel)) (by decide +kernel), cd_J6_signum_0f7a4, ini_J6, by decide +kernel⟩
theorem l_X11_323 : COK RX11 323 mX11_isOnWay 3 := ⟨lwg_of (List.mem_of_getElem? (i := 956) (by decide +kernel)) (by decide +kernel), cd_X11_isOnWay, ini_X11, by decide +kernel⟩
theorem l_X0_17 : COK RX0 17 mX1_init 0 := ⟨lwg_of (List.mem_of_getElem? (i := 224) (by decide +kernel)) (by decide +kernel), cd_X1_init, ini_X1, by decide +kernel⟩
theorem l_X0_22 : COK RX0 22 mX9_beginText 1 := ⟨lwg_of (List.mem_of_getElem? (i := 695) (by decide +kernel)) (by decide +kernel), cd_X9_beginText, ini_X9, by decide +kernel⟩
theorem l_X0_32 : COK RX0 32 mX0_cut 1 := ⟨lwg_of (List.mem_of_getElem? (i := 696) (by decide +kernel)) (by decide +kernel), cd_X0_cut, ini_X0, by decide +kernel⟩
theorem l_X0_35 : COK RX0 35 mX9_mayTake 1 := ⟨lwg_of (List.mem_of_getElem? (i := 712) (by decide +kernel)) (by decide +kernel), cd_X9_mayTake, ini_X9, by decide +kernel⟩
theorem l_X0_39 : COK RX0 39 mX9_endText 1 := ⟨lwg_of (List.mem_of_getElem? (i := 724) (by decide +kernel)) (by decide +kernel), cd_X9_endText, ini_X9, by decide +kernel⟩
theorem l_X0_43 : COK RX0 43 mX9_sign 0 := ⟨lwg_of (List.mem_of_getElem? (i := 700) (by decide +kernel)) (by decide +kernel), cd_X9_sign, ini_X9, by decide +kernel⟩
theorem l_X0_47 : COKN RX0 47 mX11_isDigit 1 := ⟨⟨"GrownInitials", List.mem_of_getElem? (i := 701) (by decide +kernel)⟩, cd_X11_isDigit, ini_X11, by decide +kernel⟩
theorem l_X0_54 : COK RX0 54 mX9_fail 2 := ⟨lwg_of (List.mem_of_getElem? (i := 702) (by decide +kernel)) (by decide +kernel), cd_X9_fail, ini_X9, by decide +kernel⟩
theorem l_X0_58 : COK RX0 58 mX0_number 1 := ⟨lwg_of (List.mem_of_getElem? (i := 703) (by decide +kernel)) (by decide +kernel), cd_X0_number, ini_X0, by decide +kernel⟩
theorem l_X0_61 : COK RX0 61 mX9_take 1 := ⟨lwg_of (List.mem_of_getElem? (i := 711) (by decide +kernel)) (by decide +kernel), cd_X9_take, ini_X9, by decide +kernel⟩
theorem l_X0_81 : COK RX0 81 mX0_letter 0 := ⟨lwg_of (List.mem_of_getElem? (i := 713) (by decide +kernel)) (by decide +kernel), cd_X0_letter, ini_X0, by decide +kernel⟩
theorem l_X0_87 : COK RX0 87 mX0_secondOne 1 := ⟨lwg_of (List.mem_of_getElem? (i := 720) (by decide +kernel)) (by decide +kernel), cd_X0_secondOne, ini_X0, by decide +kernel⟩
theorem l_X0_93 : COK RX0 93 mX0_digit 0 := ⟨lwg_of (List.mem_of_getElem? (i := 707) (by decide +kernel)) (by decide +kernel), cd_X0_digit, ini_X0, by decide +kernel⟩
theorem l_X0_99 : COK RX0 99 mX0_isLetter 1 := ⟨lwg_of (List.mem_of_getElem? (i := 717) (by decide +kernel)) (by decide +kernel), cd_X0_isLetter, ini_X0, by decide +kernel⟩
theorem l_X2_34 : COK RX2 34 mX2_put 1 := ⟨lwg_of (List.mem_of_getElem? (i := 900) (by decide +kernel)) (by decide +kernel), cd_X2_put, ini_X2, by decide +kernel⟩
theorem l_X2_46 : COK RX2 46 mX2_addCorner 2 := ⟨lwg_of (List.mem_of_getElem? (i := 932) (by decide +kernel)) (by decide +kernel), cd_X2_addCorner, ini_X2, by decide +kernel⟩
theorem l_X2_50 : COK RX2 50 mJ9_max_7cf53 2 := ⟨lwg_of (List.mem_of_getElem? (i := 939) (by decide +kernel)) (by decide +kernel), cd_J9_max_7cf53, ini_J9, by decide +kernel⟩
theorem l_X2_56 : COKN RX2 56 mX11_side 3 := ⟨⟨"GrownInitials", List.mem_of_getElem? (i := 936) (by decide +kernel)⟩, cd_X11_side, ini_X11, by decide +kernel⟩
theorem l_X2_60 : COK RX2 60 mJ9_abs_0f7a4 1 := ⟨lwg_of (List.mem_of_getElem? (i := 944) (by decide +kernel)) (by decide +kernel), cd_J9_abs_0f7a4, ini_J9, by decide +kernel⟩
theorem l_X2_64 : COKN RX2 64 mX11_steps 2 := ⟨⟨"GrownInitials", List.mem_of_getElem? (i := 967) (by decide +kernel)⟩, cd_X11_steps, ini_X11, by decide +kernel⟩
theorem l_X2_67 : COK RX2 67 mX2_nearestUnjoined 0 := ⟨lwg_of (List.mem_of_getElem? (i := 968) (by decide +kernel)) (by decide +kernel), cd_X2_nearestUnjoined, ini_X2, by decide +kernel⟩
theorem l_X2_71 : COK RX2 71 mJ9_min_7cf53 2 := ⟨lwg_of (List.mem_of_getElem? (i := 972) (by decide +kernel)) (by decide +kernel), cd_J9_min_7cf53, ini_J9, by decide +kernel⟩
theorem l_X3_45 : COK RX3 45 mX3_add 2 := ⟨lwg_of (List.mem_of_getElem? (i := 666) (by decide +kernel)) (by decide +kernel), cd_X3_add, ini_X3, by decide +kernel⟩
theorem l_X3_49 : COK RX3 49 mX3_holds 2 := ⟨lwg_of (List.mem_of_getElem? (i := 780) (by decide +kernel)) (by decide +kernel), cd_X3_holds, ini_X3, by decide +kernel⟩
theorem l_X3_53 : COK RX3 53 mX3_reckon 3 := ⟨lwg_of (List.mem_of_getElem? (i := 784) (by decide +kernel)) (by decide +kernel), cd_X3_reckon, ini_X3, by decide +kernel⟩
theorem l_X3_57 : COK RX3 57 mJ9_min_7cf53 2 := ⟨lwg_of (List.mem_of_getElem? (i := 788) (by decide +kernel)) (by decide +kernel), cd_J9_min_7cf53, ini_J9, by decide +kernel⟩
theorem l_X3_63 : COK RX3 63 mJ9_max_7cf53 2 := ⟨lwg_of (List.mem_of_getElem? (i := 792) (by decide +kernel)) (by decide +kernel), cd_J9_max_7cf53, ini_J9, by decide +kernel⟩
theorem l_X3_66 : COK RX3 66 mX3_operand 3 := ⟨lwg_of (List.mem_of_getElem? (i := 789) (by decide +kernel)) (by decide +kernel), cd_X3_operand, ini_X3, by decide +kernel⟩
theorem l_X3_69 : COK RX3 69 mX3_joined 3 := ⟨lwg_of (List.mem_of_getElem? (i := 793) (by decide +kernel)) (by decide +kernel), cd_X3_joined, ini_X3, by decide +kernel⟩
theorem l_X4_15 : COK RX4 15 mX3_init 0 := ⟨lwg_of (List.mem_of_getElem? (i := 281) (by decide +kernel)) (by decide +kernel), cd_X3_init, ini_X3, by decide +kernel⟩
theorem l_X4_20 : COK RX4 20 mX9_beginText 1 := ⟨lwg_of (List.mem_of_getElem? (i := 521) (by decide +kernel)) (by decide +kernel), cd_X9_beginText, ini_X9, by decide +kernel⟩
theorem l_X4_33 : COK RX4 33 mX4_rule 1 := ⟨lwg_of (List.mem_of_getElem? (i := 528) (by decide +kernel)) (by decide +kernel), cd_X4_rule, ini_X4, by decide +kernel⟩
theorem l_X4_36 : COK RX4 36 mX9_mayTake 1 := ⟨lwg_of (List.mem_of_getElem? (i := 658) (by decide +kernel)) (by decide +kernel), cd_X9_mayTake, ini_X9, by decide +kernel⟩
theorem l_X4_40 : COK RX4 40 mX9_endText 1 := ⟨lwg_of (List.mem_of_getElem? (i := 671) (by decide +kernel)) (by decide +kernel), cd_X9_endText, ini_X9, by decide +kernel⟩
theorem l_X4_44 : COK RX4 44 mX9_sign 0 := ⟨lwg_of (List.mem_of_getElem? (i := 532) (by decide +kernel)) (by decide +kernel), cd_X9_sign, ini_X9, by decide +kernel⟩
theorem l_X4_51 : COK RX4 51 mX9_fail 2 := ⟨lwg_of (List.mem_of_getElem? (i := 536) (by decide +kernel)) (by decide +kernel), cd_X9_fail, ini_X9, by decide +kernel⟩
theorem l_X4_62 : COK RX4 62 mX4_sum 1 := ⟨lwg_of (List.mem_of_getElem? (i := 540) (by decide +kernel)) (by decide +kernel), cd_X4_sum, ini_X4, by decide +kernel⟩
theorem l_X4_68 : COK RX4 68 mX9_take 1 := ⟨lwg_of (List.mem_of_getElem? (i := 637) (by decide +kernel)) (by decide +kernel), cd_X9_take, ini_X9, by decide +kernel⟩
theorem l_X4_72 : COK RX4 72 mX4_condition 1 := ⟨lwg_of (List.mem_of_getElem? (i := 650) (by decide +kernel)) (by decide +kernel), cd_X4_condition, ini_X4, by decide +kernel⟩
theorem l_X4_78 : COK RX4 78 mX4_test 1 := ⟨lwg_of (List.mem_of_getElem? (i := 654) (by decide +kernel)) (by decide +kernel), cd_X4_test, ini_X4, by decide +kernel⟩
theorem l_X4_81 : COK RX4 81 mX3_addJump 2 := ⟨lwg_of (List.mem_of_getElem? (i := 662) (by decide +kernel)) (by decide +kernel), cd_X3_addJump, ini_X3, by decide +kernel⟩
theorem l_X4_85 : COK RX4 85 mX3_endJumps 1 := ⟨lwg_of (List.mem_of_getElem? (i := 667) (by decide +kernel)) (by decide +kernel), cd_X3_endJumps, ini_X3, by decide +kernel⟩
theorem l_X4_88 : COK RX4 88 mX4_mayOpen 1 := ⟨lwg_of (List.mem_of_getElem? (i := 633) (by decide +kernel)) (by decide +kernel), cd_X4_mayOpen, ini_X4, by decide +kernel⟩
theorem l_X4_92 : COK RX4 92 mX3_add 2 := ⟨lwg_of (List.mem_of_getElem? (i := 643) (by decide +kernel)) (by decide +kernel), cd_X3_add, ini_X3, by decide +kernel⟩
theorem l_X4_96 : COK RX4 96 mX4_factor 1 := ⟨lwg_of (List.mem_of_getElem? (i := 544) (by decide +kernel)) (by decide +kernel), cd_X4_factor, ini_X4, by decide +kernel⟩
theorem l_X4_101 : COK RX4 101 mJ0_indexOf_0f7a4 1 := ⟨lwg_of (List.mem_of_getElem? (i := 549) (by decide +kernel)) (by decide +kernel), cd_J0_indexOf_0f7a4, ini_J0, by decide +kernel⟩
theorem l_X4_106 : COKN RX4 106 mX11_isDigit 1 := ⟨⟨"GrownInitials", List.mem_of_getElem? (i := 647) (by decide +kernel)⟩, cd_X11_isDigit, ini_X11, by decide +kernel⟩
theorem l_X5_32 : COK RX5 32 mX5_readRow 4 := ⟨lwg_of (List.mem_of_getElem? (i := 1036) (by decide +kernel)) (by decide +kernel), cd_X5_readRow, ini_X5, by decide +kernel⟩
theorem l_X5_36 : COK RX5 36 mX9_byteAt 1 := ⟨lwg_of (List.mem_of_getElem? (i := 1040) (by decide +kernel)) (by decide +kernel), cd_X9_byteAt, ini_X9, by decide +kernel⟩
theorem l_X5_42 : COK RX5 42 mX5_oneFree 0 := ⟨lwg_of (List.mem_of_getElem? (i := 1061) (by decide +kernel)) (by decide +kernel), cd_X5_oneFree, ini_X5, by decide +kernel⟩
theorem l_X5_46 : COK RX5 46 mX5_ask 1 := ⟨lwg_of (List.mem_of_getElem? (i := 1065) (by decide +kernel)) (by decide +kernel), cd_X5_ask, ini_X5, by decide +kernel⟩
theorem l_X5_50 : COK RX5 50 mX5_lasting 2 := ⟨lwg_of (List.mem_of_getElem? (i := 1045) (by decide +kernel)) (by decide +kernel), cd_X5_lasting, ini_X5, by decide +kernel⟩
theorem l_X5_54 : COK RX5 54 mX5_isAtPeace 1 := ⟨lwg_of (List.mem_of_getElem? (i := 1049) (by decide +kernel)) (by decide +kernel), cd_X5_isAtPeace, ini_X5, by decide +kernel⟩
theorem l_X5_58 : COK RX5 58 mX5_wouldRather 2 := ⟨lwg_of (List.mem_of_getElem? (i := 1053) (by decide +kernel)) (by decide +kernel), cd_X5_wouldRather, ini_X5, by decide +kernel⟩
theorem l_X6_39 : COK RX6 39 mX6_wayHome 3 := ⟨lwg_of (List.mem_of_getElem? (i := 991) (by decide +kernel)) (by decide +kernel), cd_X6_wayHome, ini_X6, by decide +kernel⟩
theorem l_X6_43 : COK RX6 43 mX6_chooseFirst 2 := ⟨lwg_of (List.mem_of_getElem? (i := 998) (by decide +kernel)) (by decide +kernel), cd_X6_chooseFirst, ini_X6, by decide +kernel⟩
theorem l_X6_47 : COKN RX6 47 mX11_steps 2 := ⟨⟨"GrownInitials", List.mem_of_getElem? (i := 995) (by decide +kernel)⟩, cd_X11_steps, ini_X11, by decide +kernel⟩
theorem l_X6_52 : COK RX6 52 mJ9_min_7cf53 2 := ⟨lwg_of (List.mem_of_getElem? (i := 997) (by decide +kernel)) (by decide +kernel), cd_J9_min_7cf53, ini_J9, by decide +kernel⟩
theorem l_X6_57 : COK RX6 57 mX9_byteAt 1 := ⟨lwg_of (List.mem_of_getElem? (i := 1077) (by decide +kernel)) (by decide +kernel), cd_X9_byteAt, ini_X9, by decide +kernel⟩
theorem l_X6_63 : COK RX6 63 mJ6_bitCount_0f7a4 1 := ⟨lwg_of (List.mem_of_getElem? (i := 1086) (by decide +kernel)) (by decide +kernel), cd_J6_bitCount_0f7a4, ini_J6, by decide +kernel⟩
theorem l_X7_22 : COK RX7 22 mX9_byteAt 1 := ⟨lwg_of (List.mem_of_getElem? (i := 1010) (by decide +kernel)) (by decide +kernel), cd_X9_byteAt, ini_X9, by decide +kernel⟩
theorem l_X7_36 : COK RX7 36 mX1_letterBits 1 := ⟨lwg_of (List.mem_of_getElem? (i := 1018) (by decide +kernel)) (by decide +kernel), cd_X1_letterBits, ini_X1, by decide +kernel⟩
theorem l_X7_39 : COK RX7 39 mJ6_bitCount_0f7a4 1 := ⟨lwg_of (List.mem_of_getElem? (i := 1023) (by decide +kernel)) (by decide +kernel), cd_J6_bitCount_0f7a4, ini_J6, by decide +kernel⟩
theorem l_X7_44 : COK RX7 44 mX7_canSpell 1 := ⟨lwg_of (List.mem_of_getElem? (i := 1024) (by decide +kernel)) (by decide +kernel), cd_X7_canSpell, ini_X7, by decide +kernel⟩
theorem l_X8_42 : COK RX8 42 mJ9_min_7cf53 2 := ⟨lwg_of (List.mem_of_getElem? (i := 829) (by decide +kernel)) (by decide +kernel), cd_J9_min_7cf53, ini_J9, by decide +kernel⟩
theorem l_X8_48 : COK RX8 48 mJ9_max_7cf53 2 := ⟨lwg_of (List.mem_of_getElem? (i := 830) (by decide +kernel)) (by decide +kernel), cd_J9_max_7cf53, ini_J9, by decide +kernel⟩
theorem l_X9_28 : COK RX9 28 mJ9_min_7cf53 2 := ⟨lwg_of (List.mem_of_getElem? (i := 525) (by decide +kernel)) (by decide +kernel), cd_J9_min_7cf53, ini_J9, by decide +kernel⟩
theorem l_X9_34 : COK RX9 34 mX9_sign 0 := ⟨lwg_of (List.mem_of_getElem? (i := 641) (by decide +kernel)) (by decide +kernel), cd_X9_sign, ini_X9, by decide +kernel⟩
theorem l_X9_38 : COK RX9 38 mX9_fail 2 := ⟨lwg_of (List.mem_of_getElem? (i := 642) (by decide +kernel)) (by decide +kernel), cd_X9_fail, ini_X9, by decide +kernel⟩
theorem l_X10_23 : COK RX10 23 mX10_season 1 := ⟨lwg_of (List.mem_of_getElem? (i := 745) (by decide +kernel)) (by decide +kernel), cd_X10_season, ini_X10, by decide +kernel⟩
theorem l_X10_40 : COK RX10 40 mX10_grow 2 := ⟨lwg_of (List.mem_of_getElem? (i := 749) (by decide +kernel)) (by decide +kernel), cd_X10_grow, ini_X10, by decide +kernel⟩
theorem l_X10_44 : COK RX10 44 mX10_tellValues 2 := ⟨lwg_of (List.mem_of_getElem? (i := 753) (by decide +kernel)) (by decide +kernel), cd_X10_tellValues, ini_X10, by decide +kernel⟩
theorem l_X10_48 : COK RX10 48 mX3_fells 1 := ⟨lwg_of (List.mem_of_getElem? (i := 776) (by decide +kernel)) (by decide +kernel), cd_X3_fells, ini_X3, by decide +kernel⟩
theorem l_X10_54 : COK RX10 54 mX3_worthOf 4 := ⟨lwg_of (List.mem_of_getElem? (i := 797) (by decide +kernel)) (by decide +kernel), cd_X3_worthOf, ini_X3, by decide +kernel⟩
theorem l_X10_58 : COK RX10 58 mX10_goAbout 3 := ⟨lwg_of (List.mem_of_getElem? (i := 801) (by decide +kernel)) (by decide +kernel), cd_X10_goAbout, ini_X10, by decide +kernel⟩
theorem l_X10_62 : COK RX10 62 mX10_forget 3 := ⟨lwg_of (List.mem_of_getElem? (i := 816) (by decide +kernel)) (by decide +kernel), cd_X10_forget, ini_X10, by decide +kernel⟩
theorem l_X10_84 : COK RX10 84 mX10_aim 2 := ⟨lwg_of (List.mem_of_getElem? (i := 757) (by decide +kernel)) (by decide +kernel), cd_X10_aim, ini_X10, by decide +kernel⟩
theorem l_X10_87 : COKN RX10 87 mX11_steps 2 := ⟨⟨"GrownInitials", List.mem_of_getElem? (i := 761) (by decide +kernel)⟩, cd_X11_steps, ini_X11, by decide +kernel⟩
theorem l_X10_91 : COK RX10 91 mX10_othersAt 2 := ⟨lwg_of (List.mem_of_getElem? (i := 767) (by decide +kernel)) (by decide +kernel), cd_X10_othersAt, ini_X10, by decide +kernel⟩
theorem l_X10_94 : COK RX10 94 mX8_nextDraw 0 := ⟨lwg_of (List.mem_of_getElem? (i := 771) (by decide +kernel)) (by decide +kernel), cd_X8_nextDraw, ini_X8, by decide +kernel⟩
theorem l_X10_107 : COK RX10 107 mX10_turn 2 := ⟨lwg_of (List.mem_of_getElem? (i := 805) (by decide +kernel)) (by decide +kernel), cd_X10_turn, ini_X10, by decide +kernel⟩
theorem l_X10_110 : COK RX10 110 mX10_oneStep 2 := ⟨lwg_of (List.mem_of_getElem? (i := 810) (by decide +kernel)) (by decide +kernel), cd_X10_oneStep, ini_X10, by decide +kernel⟩
theorem l_X10_113 : COK RX10 113 mJ6_compare_7cf53 2 := ⟨lwg_of (List.mem_of_getElem? (i := 813) (by decide +kernel)) (by decide +kernel), cd_J6_compare_7cf53, ini_J6, by decide +kernel⟩
theorem l_X10_118 : COK RX10 118 mJ9_min_7cf53 2 := ⟨lwg_of (List.mem_of_getElem? (i := 809) (by decide +kernel)) (by decide +kernel), cd_J9_min_7cf53, ini_J9, by decide +kernel⟩
theorem l_X10_123 : COK RX10 123 mJ9_max_7cf53 2 := ⟨lwg_of (List.mem_of_getElem? (i := 820) (by decide +kernel)) (by decide +kernel), cd_J9_max_7cf53, ini_J9, by decide +kernel⟩
theorem l_L_9 : COK RL 9 mX11_init 0 := ⟨lwg_of (List.mem_of_getElem? (i := 120) (by decide +kernel)) (by decide +kernel), cd_X11_init, ini_X11, by decide +kernel⟩
theorem l_L_12 : COK RL 12 mX12_init 0 := ⟨lwg_of (List.mem_of_getElem? (i := 1115) (by decide +kernel)) (by decide +kernel), cd_X12_init, ini_X12, by decide +kernel⟩
theorem l_L_13 : COK RL 13 mX11_home 3 := ⟨lwg_of (List.mem_of_getElem? (i := 491) (by decide +kernel)) (by decide +kernel), cd_X11_home, ini_X11, by decide +kernel⟩
theorem l_L_17 : COK RL 17 mX12_home 3 := ⟨lwg_of (List.mem_of_getElem? (i := 1318) (by decide +kernel)) (by decide +kernel), cd_X12_home, ini_X12, by decide +kernel⟩
theorem l_L_18 : COK RL 18 mX11_feed 5 := ⟨lwg_of (List.mem_of_getElem? (i := 505) (by decide +kernel)) (by decide +kernel), cd_X11_feed, ini_X11, by decide +kernel⟩
theorem l_L_22 : COK RL 22 mX12_feed 5 := ⟨lwg_of (List.mem_of_getElem? (i := 1329) (by decide +kernel)) (by decide +kernel), cd_X12_feed, ini_X12, by decide +kernel⟩
theorem l_L_23 : COK RL 23 mX11_law 1 := ⟨lwg_of (List.mem_of_getElem? (i := 513) (by decide +kernel)) (by decide +kernel), cd_X11_law, ini_X11, by decide +kernel⟩
theorem l_L_27 : COK RL 27 mX12_law 1 := ⟨lwg_of (List.mem_of_getElem? (i := 1337) (by decide +kernel)) (by decide +kernel), cd_X12_law, ini_X12, by decide +kernel⟩
theorem l_L_28 : COK RL 28 mX11_bark 1 := ⟨lwg_of (List.mem_of_getElem? (i := 687) (by decide +kernel)) (by decide +kernel), cd_X11_bark, ini_X11, by decide +kernel⟩
theorem l_L_31 : COK RL 31 mX12_bark 1 := ⟨lwg_of (List.mem_of_getElem? (i := 1424) (by decide +kernel)) (by decide +kernel), cd_X12_bark, ini_X12, by decide +kernel⟩
theorem l_L_32 : COK RL 32 mX11_seasons 1 := ⟨lwg_of (List.mem_of_getElem? (i := 734) (by decide +kernel)) (by decide +kernel), cd_X11_seasons, ini_X11, by decide +kernel⟩
theorem l_L_35 : COK RL 35 mX12_seasons 1 := ⟨lwg_of (List.mem_of_getElem? (i := 1452) (by decide +kernel)) (by decide +kernel), cd_X12_seasons, ini_X12, by decide +kernel⟩
theorem l_L_36 : COK RL 36 mX11_tried 2 := ⟨lwg_of (List.mem_of_getElem? (i := 821) (by decide +kernel)) (by decide +kernel), cd_X11_tried, ini_X11, by decide +kernel⟩
theorem l_L_40 : COK RL 40 mX12_tried 2 := ⟨lwg_of (List.mem_of_getElem? (i := 1520) (by decide +kernel)) (by decide +kernel), cd_X12_tried, ini_X12, by decide +kernel⟩
theorem l_L_41 : COK RL 41 mX11_cutIs 2 := ⟨lwg_of (List.mem_of_getElem? (i := 836) (by decide +kernel)) (by decide +kernel), cd_X11_cutIs, ini_X11, by decide +kernel⟩
theorem l_L_44 : COK RL 44 mX12_cutIs 2 := ⟨lwg_of (List.mem_of_getElem? (i := 1531) (by decide +kernel)) (by decide +kernel), cd_X12_cutIs, ini_X12, by decide +kernel⟩
theorem l_L_45 : COK RL 45 mX11_meet 3 := ⟨lwg_of (List.mem_of_getElem? (i := 840) (by decide +kernel)) (by decide +kernel), cd_X11_meet, ini_X11, by decide +kernel⟩
theorem l_L_49 : COK RL 49 mX12_meet 3 := ⟨lwg_of (List.mem_of_getElem? (i := 1535) (by decide +kernel)) (by decide +kernel), cd_X12_meet, ini_X12, by decide +kernel⟩
theorem l_L_50 : COK RL 50 mX11_roots 2 := ⟨lwg_of (List.mem_of_getElem? (i := 849) (by decide +kernel)) (by decide +kernel), cd_X11_roots, ini_X11, by decide +kernel⟩
theorem l_L_53 : COK RL 53 mX12_roots 2 := ⟨lwg_of (List.mem_of_getElem? (i := 1543) (by decide +kernel)) (by decide +kernel), cd_X12_roots, ini_X12, by decide +kernel⟩
theorem l_L_54 : COK RL 54 mX11_single 1 := ⟨lwg_of (List.mem_of_getElem? (i := 853) (by decide +kernel)) (by decide +kernel), cd_X11_single, ini_X11, by decide +kernel⟩
theorem l_L_57 : COK RL 57 mX12_single 1 := ⟨lwg_of (List.mem_of_getElem? (i := 1551) (by decide +kernel)) (by decide +kernel), cd_X12_single, ini_X12, by decide +kernel⟩
theorem l_L_58 : COK RL 58 mX11_who 1 := ⟨lwg_of (List.mem_of_getElem? (i := 857) (by decide +kernel)) (by decide +kernel), cd_X11_who, ini_X11, by decide +kernel⟩
theorem l_L_61 : COK RL 61 mX12_who 1 := ⟨lwg_of (List.mem_of_getElem? (i := 1555) (by decide +kernel)) (by decide +kernel), cd_X12_who, ini_X12, by decide +kernel⟩
theorem l_L_62 : COK RL 62 mX11_letters 0 := ⟨lwg_of (List.mem_of_getElem? (i := 861) (by decide +kernel)) (by decide +kernel), cd_X11_letters, ini_X11, by decide +kernel⟩
theorem l_L_66 : COK RL 66 mX12_letters 0 := ⟨lwg_of (List.mem_of_getElem? (i := 1559) (by decide +kernel)) (by decide +kernel), cd_X12_letters, ini_X12, by decide +kernel⟩
theorem l_L_67 : COK RL 67 mX11_nearest 2 := ⟨lwg_of (List.mem_of_getElem? (i := 869) (by decide +kernel)) (by decide +kernel), cd_X11_nearest, ini_X11, by decide +kernel⟩
theorem l_L_70 : COK RL 70 mX12_nearest 2 := ⟨lwg_of (List.mem_of_getElem? (i := 1563) (by decide +kernel)) (by decide +kernel), cd_X12_nearest, ini_X12, by decide +kernel⟩
theorem l_L_71 : COK RL 71 mX11_strays 2 := ⟨lwg_of (List.mem_of_getElem? (i := 874) (by decide +kernel)) (by decide +kernel), cd_X11_strays, ini_X11, by decide +kernel⟩
theorem l_L_74 : COK RL 74 mX12_strays 2 := ⟨lwg_of (List.mem_of_getElem? (i := 1547) (by decide +kernel)) (by decide +kernel), cd_X12_strays, ini_X12, by decide +kernel⟩
theorem l_L_75 : COK RL 75 mX11_dates 1 := ⟨lwg_of (List.mem_of_getElem? (i := 879) (by decide +kernel)) (by decide +kernel), cd_X11_dates, ini_X11, by decide +kernel⟩
theorem l_L_78 : COK RL 78 mX12_dates 1 := ⟨lwg_of (List.mem_of_getElem? (i := 1567) (by decide +kernel)) (by decide +kernel), cd_X12_dates, ini_X12, by decide +kernel⟩
theorem l_L_79 : COK RL 79 mX11_busiest 1 := ⟨lwg_of (List.mem_of_getElem? (i := 884) (by decide +kernel)) (by decide +kernel), cd_X11_busiest, ini_X11, by decide +kernel⟩
theorem l_L_82 : COK RL 82 mX12_busiest 1 := ⟨lwg_of (List.mem_of_getElem? (i := 1571) (by decide +kernel)) (by decide +kernel), cd_X12_busiest, ini_X12, by decide +kernel⟩
theorem l_L_83 : COK RL 83 mX11_yard 4 := ⟨lwg_of (List.mem_of_getElem? (i := 892) (by decide +kernel)) (by decide +kernel), cd_X11_yard, ini_X11, by decide +kernel⟩
theorem l_L_87 : COK RL 87 mX12_yard 4 := ⟨lwg_of (List.mem_of_getElem? (i := 1602) (by decide +kernel)) (by decide +kernel), cd_X12_yard, ini_X12, by decide +kernel⟩
theorem l_L_88 : COK RL 88 mX11_groups 2 := ⟨lwg_of (List.mem_of_getElem? (i := 908) (by decide +kernel)) (by decide +kernel), cd_X11_groups, ini_X11, by decide +kernel⟩
theorem l_L_91 : COK RL 91 mX12_groups 2 := ⟨lwg_of (List.mem_of_getElem? (i := 1579) (by decide +kernel)) (by decide +kernel), cd_X12_groups, ini_X12, by decide +kernel⟩
theorem l_L_92 : COK RL 92 mX11_fence 1 := ⟨lwg_of (List.mem_of_getElem? (i := 924) (by decide +kernel)) (by decide +kernel), cd_X11_fence, ini_X11, by decide +kernel⟩
theorem l_L_95 : COK RL 95 mX12_fence 1 := ⟨lwg_of (List.mem_of_getElem? (i := 1606) (by decide +kernel)) (by decide +kernel), cd_X12_fence, ini_X12, by decide +kernel⟩
theorem l_L_96 : COK RL 96 mX11_crossing 0 := ⟨lwg_of (List.mem_of_getElem? (i := 945) (by decide +kernel)) (by decide +kernel), cd_X11_crossing, ini_X11, by decide +kernel⟩
theorem l_L_99 : COK RL 99 mX12_crossing 0 := ⟨lwg_of (List.mem_of_getElem? (i := 1621) (by decide +kernel)) (by decide +kernel), cd_X12_crossing, ini_X12, by decide +kernel⟩
theorem l_L_100 : COK RL 100 mX11_paths 0 := ⟨lwg_of (List.mem_of_getElem? (i := 959) (by decide +kernel)) (by decide +kernel), cd_X11_paths, ini_X11, by decide +kernel⟩
theorem l_L_103 : COK RL 103 mX12_paths 0 := ⟨lwg_of (List.mem_of_getElem? (i := 1631) (by decide +kernel)) (by decide +kernel), cd_X12_paths, ini_X12, by decide +kernel⟩
theorem l_L_104 : COK RL 104 mX11_trees 0 := ⟨lwg_of (List.mem_of_getElem? (i := 973) (by decide +kernel)) (by decide +kernel), cd_X11_trees, ini_X11, by decide +kernel⟩
theorem l_L_107 : COK RL 107 mX12_trees 0 := ⟨lwg_of (List.mem_of_getElem? (i := 1590) (by decide +kernel)) (by decide +kernel), cd_X12_trees, ini_X12, by decide +kernel⟩
theorem l_L_108 : COK RL 108 mX11_round 2 := ⟨lwg_of (List.mem_of_getElem? (i := 977) (by decide +kernel)) (by decide +kernel), cd_X11_round, ini_X11, by decide +kernel⟩
theorem l_L_111 : COK RL 111 mX12_round 2 := ⟨lwg_of (List.mem_of_getElem? (i := 1635) (by decide +kernel)) (by decide +kernel), cd_X12_round, ini_X12, by decide +kernel⟩
theorem l_L_112 : COK RL 112 mX11_words 2 := ⟨lwg_of (List.mem_of_getElem? (i := 1002) (by decide +kernel)) (by decide +kernel), cd_X11_words, ini_X11, by decide +kernel⟩
theorem l_L_115 : COK RL 115 mX12_words 2 := ⟨lwg_of (List.mem_of_getElem? (i := 1648) (by decide +kernel)) (by decide +kernel), cd_X12_words, ini_X12, by decide +kernel⟩
theorem l_L_116 : COK RL 116 mX11_marriages 2 := ⟨lwg_of (List.mem_of_getElem? (i := 1028) (by decide +kernel)) (by decide +kernel), cd_X11_marriages, ini_X11, by decide +kernel⟩
theorem l_L_119 : COK RL 119 mX12_marriages 2 := ⟨lwg_of (List.mem_of_getElem? (i := 1668) (by decide +kernel)) (by decide +kernel), cd_X12_marriages, ini_X12, by decide +kernel⟩
theorem l_L_120 : COK RL 120 mX11_orders 3 := ⟨lwg_of (List.mem_of_getElem? (i := 1069) (by decide +kernel)) (by decide +kernel), cd_X11_orders, ini_X11, by decide +kernel⟩
theorem l_L_123 : COK RL 123 mX12_orders 3 := ⟨lwg_of (List.mem_of_getElem? (i := 1692) (by decide +kernel)) (by decide +kernel), cd_X12_orders, ini_X12, by decide +kernel⟩
theorem l_L_124 : COK RL 124 mX11_seed 1 := ⟨lwg_of (List.mem_of_getElem? (i := 1087) (by decide +kernel)) (by decide +kernel), cd_X11_seed, ini_X11, by decide +kernel⟩
theorem l_L_128 : COK RL 128 mX12_seed 1 := ⟨lwg_of (List.mem_of_getElem? (i := 1704) (by decide +kernel)) (by decide +kernel), cd_X12_seed, ini_X12, by decide +kernel⟩
theorem l_L_129 : COK RL 129 mX11_keep 0 := ⟨lwg_of (List.mem_of_getElem? (i := 1092) (by decide +kernel)) (by decide +kernel), cd_X11_keep, ini_X11, by decide +kernel⟩
theorem l_L_132 : COK RL 132 mX12_keep 0 := ⟨lwg_of (List.mem_of_getElem? (i := 1708) (by decide +kernel)) (by decide +kernel), cd_X12_keep, ini_X12, by decide +kernel⟩
theorem l_L_133 : COK RL 133 mX11_undo 0 := ⟨lwg_of (List.mem_of_getElem? (i := 1096) (by decide +kernel)) (by decide +kernel), cd_X11_undo, ini_X11, by decide +kernel⟩
theorem l_L_137 : COK RL 137 mX12_undo 0 := ⟨lwg_of (List.mem_of_getElem? (i := 1712) (by decide +kernel)) (by decide +kernel), cd_X12_undo, ini_X12, by decide +kernel⟩
theorem l_L_138 : COK RL 138 mX11_check 1 := ⟨lwg_of (List.mem_of_getElem? (i := 1100) (by decide +kernel)) (by decide +kernel), cd_X11_check, ini_X11, by decide +kernel⟩
theorem l_L_141 : COK RL 141 mX12_check 1 := ⟨lwg_of (List.mem_of_getElem? (i := 1716) (by decide +kernel)) (by decide +kernel), cd_X12_check, ini_X12, by decide +kernel⟩
theorem l_L_142 : COK RL 142 mX11_count 1 := ⟨lwg_of (List.mem_of_getElem? (i := 1105) (by decide +kernel)) (by decide +kernel), cd_X11_count, ini_X11, by decide +kernel⟩
theorem l_L_145 : COK RL 145 mX12_count 1 := ⟨lwg_of (List.mem_of_getElem? (i := 1720) (by decide +kernel)) (by decide +kernel), cd_X12_count, ini_X12, by decide +kernel⟩
theorem l_X12_156 : COK RX12 156 mX12_in 3 := ⟨lwg_of (List.mem_of_getElem? (i := 1326) (by decide +kernel)) (by decide +kernel), cd_X12_in, ini_X12, by decide +kernel⟩
theorem l_X12_160 : COK RX12 160 mX12_size 1 := ⟨lwg_of (List.mem_of_getElem? (i := 1480) (by decide +kernel)) (by decide +kernel), cd_X12_size, ini_X12, by decide +kernel⟩
theorem l_X12_164 : COK RX12 164 mX12_isCut 1 := ⟨lwg_of (List.mem_of_getElem? (i := 1322) (by decide +kernel)) (by decide +kernel), cd_X12_isCut, ini_X12, by decide +kernel⟩
theorem l_X12_171 : COK RX12 171 mX12_types 1 := ⟨lwg_of (List.mem_of_getElem? (i := 1333) (by decide +kernel)) (by decide +kernel), cd_X12_types, ini_X12, by decide +kernel⟩
theorem l_X12_181 : COK RX12 181 mX12_here 0 := ⟨lwg_of (List.mem_of_getElem? (i := 1349) (by decide +kernel)) (by decide +kernel), cd_X12_here, ini_X12, by decide +kernel⟩
theorem l_X12_188 : COK RX12 188 mX12_wrongAt 2 := ⟨lwg_of (List.mem_of_getElem? (i := 1353) (by decide +kernel)) (by decide +kernel), cd_X12_wrongAt, ini_X12, by decide +kernel⟩
theorem l_X12_195 : COK RX12 195 mX12_isDigit 0 := ⟨lwg_of (List.mem_of_getElem? (i := 1370) (by decide +kernel)) (by decide +kernel), cd_X12_isDigit, ini_X12, by decide +kernel⟩
theorem l_X12_209 : COK RX12 209 mX12_waitTop 0 := ⟨lwg_of (List.mem_of_getElem? (i := 1392) (by decide +kernel)) (by decide +kernel), cd_X12_waitTop, ini_X12, by decide +kernel⟩
theorem l_X12_212 : COK RX12 212 mX12_notes 2 := ⟨lwg_of (List.mem_of_getElem? (i := 1378) (by decide +kernel)) (by decide +kernel), cd_X12_notes, ini_X12, by decide +kernel⟩
theorem l_X12_216 : COK RX12 216 mX12_opens 1 := ⟨lwg_of (List.mem_of_getElem? (i := 1365) (by decide +kernel)) (by decide +kernel), cd_X12_opens, ini_X12, by decide +kernel⟩
theorem l_X12_219 : COK RX12 219 mX12_readsNumber 0 := ⟨lwg_of (List.mem_of_getElem? (i := 1374) (by decide +kernel)) (by decide +kernel), cd_X12_readsNumber, ini_X12, by decide +kernel⟩
theorem l_X12_222 : COK RX12 222 mX12_factOf 1 := ⟨lwg_of (List.mem_of_getElem? (i := 1382) (by decide +kernel)) (by decide +kernel), cd_X12_factOf, ini_X12, by decide +kernel⟩
theorem l_X12_225 : COK RX12 225 mX12_readsFactor 0 := ⟨lwg_of (List.mem_of_getElem? (i := 1361) (by decide +kernel)) (by decide +kernel), cd_X12_readsFactor, ini_X12, by decide +kernel⟩
theorem l_X12_228 : COK RX12 228 mX12_sumSign 1 := ⟨lwg_of (List.mem_of_getElem? (i := 1385) (by decide +kernel)) (by decide +kernel), cd_X12_sumSign, ini_X12, by decide +kernel⟩
theorem l_X12_231 : COK RX12 231 mX12_closesSums 1 := ⟨lwg_of (List.mem_of_getElem? (i := 1388) (by decide +kernel)) (by decide +kernel), cd_X12_closesSums, ini_X12, by decide +kernel⟩
theorem l_X12_235 : COK RX12 235 mX12_hasOpenSum 1 := ⟨lwg_of (List.mem_of_getElem? (i := 1396) (by decide +kernel)) (by decide +kernel), cd_X12_hasOpenSum, ini_X12, by decide +kernel⟩
theorem l_X12_238 : COK RX12 238 mX12_readsSum 0 := ⟨lwg_of (List.mem_of_getElem? (i := 1357) (by decide +kernel)) (by decide +kernel), cd_X12_readsSum, ini_X12, by decide +kernel⟩
theorem l_X12_241 : COK RX12 241 mX12_endsPiece 0 := ⟨lwg_of (List.mem_of_getElem? (i := 1408) (by decide +kernel)) (by decide +kernel), cd_X12_endsPiece, ini_X12, by decide +kernel⟩
theorem l_X12_244 : COK RX12 244 mX12_readsCompared 0 := ⟨lwg_of (List.mem_of_getElem? (i := 1404) (by decide +kernel)) (by decide +kernel), cd_X12_readsCompared, ini_X12, by decide +kernel⟩
theorem l_X12_247 : COK RX12 247 mX12_lands 1 := ⟨lwg_of (List.mem_of_getElem? (i := 1412) (by decide +kernel)) (by decide +kernel), cd_X12_lands, ini_X12, by decide +kernel⟩
theorem l_X12_250 : COK RX12 250 mX12_jumps 1 := ⟨lwg_of (List.mem_of_getElem? (i := 1416) (by decide +kernel)) (by decide +kernel), cd_X12_jumps, ini_X12, by decide +kernel⟩
theorem l_X12_256 : COK RX12 256 mX12_readsCondition 0 := ⟨lwg_of (List.mem_of_getElem? (i := 1400) (by decide +kernel)) (by decide +kernel), cd_X12_readsCondition, ini_X12, by decide +kernel⟩
theorem l_X12_259 : COK RX12 259 mX12_beginsText 1 := ⟨lwg_of (List.mem_of_getElem? (i := 1341) (by decide +kernel)) (by decide +kernel), cd_X12_beginsText, ini_X12, by decide +kernel⟩
theorem l_X12_262 : COK RX12 262 mX12_readsRule 0 := ⟨lwg_of (List.mem_of_getElem? (i := 1345) (by decide +kernel)) (by decide +kernel), cd_X12_readsRule, ini_X12, by decide +kernel⟩
theorem l_X12_265 : COK RX12 265 mX12_takes 1 := ⟨lwg_of (List.mem_of_getElem? (i := 1420) (by decide +kernel)) (by decide +kernel), cd_X12_takes, ini_X12, by decide +kernel⟩
theorem l_X12_271 : COK RX12 271 mX12_reckon 3 := ⟨lwg_of (List.mem_of_getElem? (i := 1495) (by decide +kernel)) (by decide +kernel), cd_X12_reckon, ini_X12, by decide +kernel⟩
theorem l_X12_275 : COK RX12 275 mX12_reckonsTo 2 := ⟨lwg_of (List.mem_of_getElem? (i := 1491) (by decide +kernel)) (by decide +kernel), cd_X12_reckonsTo, ini_X12, by decide +kernel⟩
theorem l_X12_279 : COK RX12 279 mX12_isLetter 0 := ⟨lwg_of (List.mem_of_getElem? (i := 1444) (by decide +kernel)) (by decide +kernel), cd_X12_isLetter, ini_X12, by decide +kernel⟩
theorem l_X12_282 : COK RX12 282 mX12_passes 1 := ⟨lwg_of (List.mem_of_getElem? (i := 1436) (by decide +kernel)) (by decide +kernel), cd_X12_passes, ini_X12, by decide +kernel⟩
theorem l_X12_288 : COK RX12 288 mX12_readsWithin 1 := ⟨lwg_of (List.mem_of_getElem? (i := 1432) (by decide +kernel)) (by decide +kernel), cd_X12_readsWithin, ini_X12, by decide +kernel⟩
theorem l_X12_291 : COK RX12 291 mX12_readsInitials 1 := ⟨lwg_of (List.mem_of_getElem? (i := 1440) (by decide +kernel)) (by decide +kernel), cd_X12_readsInitials, ini_X12, by decide +kernel⟩
theorem l_X12_294 : COK RX12 294 mX12_readsDate 1 := ⟨lwg_of (List.mem_of_getElem? (i := 1448) (by decide +kernel)) (by decide +kernel), cd_X12_readsDate, ini_X12, by decide +kernel⟩
theorem l_X12_297 : COK RX12 297 mX12_readsCut 0 := ⟨lwg_of (List.mem_of_getElem? (i := 1428) (by decide +kernel)) (by decide +kernel), cd_X12_readsCut, ini_X12, by decide +kernel⟩
theorem l_X12_300 : COK RX12 300 mX12_goalOf 1 := ⟨lwg_of (List.mem_of_getElem? (i := 1473) (by decide +kernel)) (by decide +kernel), cd_X12_goalOf, ini_X12, by decide +kernel⟩
theorem l_X12_303 : COK RX12 303 mX12_stepsBetween 2 := ⟨lwg_of (List.mem_of_getElem? (i := 1477) (by decide +kernel)) (by decide +kernel), cd_X12_stepsBetween, ini_X12, by decide +kernel⟩
theorem l_X12_306 : COK RX12 306 mX12_othersAt 1 := ⟨lwg_of (List.mem_of_getElem? (i := 1483) (by decide +kernel)) (by decide +kernel), cd_X12_othersAt, ini_X12, by decide +kernel⟩
theorem l_X12_309 : COK RX12 309 mX12_min 2 := ⟨lwg_of (List.mem_of_getElem? (i := 1510) (by decide +kernel)) (by decide +kernel), cd_X12_min, ini_X12, by decide +kernel⟩
theorem l_X12_315 : COK RX12 315 mX12_turnsIfThere 1 := ⟨lwg_of (List.mem_of_getElem? (i := 1506) (by decide +kernel)) (by decide +kernel), cd_X12_turnsIfThere, ini_X12, by decide +kernel⟩
theorem l_X12_318 : COK RX12 318 mX12_steps 1 := ⟨lwg_of (List.mem_of_getElem? (i := 1513) (by decide +kernel)) (by decide +kernel), cd_X12_steps, ini_X12, by decide +kernel⟩
theorem l_X12_322 : COK RX12 322 mX12_feels 2 := ⟨lwg_of (List.mem_of_getElem? (i := 1469) (by decide +kernel)) (by decide +kernel), cd_X12_feels, ini_X12, by decide +kernel⟩
theorem l_X12_325 : COK RX12 325 mX12_holdsAny 1 := ⟨lwg_of (List.mem_of_getElem? (i := 1487) (by decide +kernel)) (by decide +kernel), cd_X12_holdsAny, ini_X12, by decide +kernel⟩
theorem l_X12_328 : COK RX12 328 mX12_byLaw 3 := ⟨lwg_of (List.mem_of_getElem? (i := 1498) (by decide +kernel)) (by decide +kernel), cd_X12_byLaw, ini_X12, by decide +kernel⟩
theorem l_X12_331 : COK RX12 331 mX12_goesAbout 2 := ⟨lwg_of (List.mem_of_getElem? (i := 1502) (by decide +kernel)) (by decide +kernel), cd_X12_goesAbout, ini_X12, by decide +kernel⟩
theorem l_X12_334 : COK RX12 334 mX12_max 2 := ⟨lwg_of (List.mem_of_getElem? (i := 1517) (by decide +kernel)) (by decide +kernel), cd_X12_max, ini_X12, by decide +kernel⟩
theorem l_X12_337 : COK RX12 337 mX12_turnOf 1 := ⟨lwg_of (List.mem_of_getElem? (i := 1464) (by decide +kernel)) (by decide +kernel), cd_X12_turnOf, ini_X12, by decide +kernel⟩
theorem l_X12_340 : COK RX12 340 mX12_seasonGoes 0 := ⟨lwg_of (List.mem_of_getElem? (i := 1460) (by decide +kernel)) (by decide +kernel), cd_X12_seasonGoes, ini_X12, by decide +kernel⟩
theorem l_X12_343 : COK RX12 343 mX12_seasonsGo 1 := ⟨lwg_of (List.mem_of_getElem? (i := 1456) (by decide +kernel)) (by decide +kernel), cd_X12_seasonsGo, ini_X12, by decide +kernel⟩
theorem l_X12_346 : COK RX12 346 mX12_copies 2 := ⟨lwg_of (List.mem_of_getElem? (i := 1524) (by decide +kernel)) (by decide +kernel), cd_X12_copies, ini_X12, by decide +kernel⟩
theorem l_X12_350 : COK RX12 350 mX12_setOf 1 := ⟨lwg_of (List.mem_of_getElem? (i := 1527) (by decide +kernel)) (by decide +kernel), cd_X12_setOf, ini_X12, by decide +kernel⟩
theorem l_X12_353 : COK RX12 353 mX12_areMet 2 := ⟨lwg_of (List.mem_of_getElem? (i := 1539) (by decide +kernel)) (by decide +kernel), cd_X12_areMet, ini_X12, by decide +kernel⟩
theorem l_X12_356 : COK RX12 356 mX12_homesAt 1 := ⟨lwg_of (List.mem_of_getElem? (i := 1575) (by decide +kernel)) (by decide +kernel), cd_X12_homesAt, ini_X12, by decide +kernel⟩
theorem l_X12_359 : COK RX12 359 mX12_has 2 := ⟨lwg_of (List.mem_of_getElem? (i := 1587) (by decide +kernel)) (by decide +kernel), cd_X12_has, ini_X12, by decide +kernel⟩
theorem l_X12_362 : COK RX12 362 mX12_groupOf 2 := ⟨lwg_of (List.mem_of_getElem? (i := 1583) (by decide +kernel)) (by decide +kernel), cd_X12_groupOf, ini_X12, by decide +kernel⟩
theorem l_X12_368 : COK RX12 368 mX12_isTree 1 := ⟨lwg_of (List.mem_of_getElem? (i := 1598) (by decide +kernel)) (by decide +kernel), cd_X12_isTree, ini_X12, by decide +kernel⟩
theorem l_X12_371 : COK RX12 371 mX12_laysTrees 0 := ⟨lwg_of (List.mem_of_getElem? (i := 1594) (by decide +kernel)) (by decide +kernel), cd_X12_laysTrees, ini_X12, by decide +kernel⟩
theorem l_X12_377 : COK RX12 377 mX12_sideOf 3 := ⟨lwg_of (List.mem_of_getElem? (i := 1618) (by decide +kernel)) (by decide +kernel), cd_X12_sideOf, ini_X12, by decide +kernel⟩
theorem l_X12_380 : COK RX12 380 mX12_addsCorner 2 := ⟨lwg_of (List.mem_of_getElem? (i := 1614) (by decide +kernel)) (by decide +kernel), cd_X12_addsCorner, ini_X12, by decide +kernel⟩
theorem l_X12_383 : COK RX12 383 mX12_laysFence 0 := ⟨lwg_of (List.mem_of_getElem? (i := 1610) (by decide +kernel)) (by decide +kernel), cd_X12_laysFence, ini_X12, by decide +kernel⟩
theorem l_X12_386 : COK RX12 386 mX12_between 4 := ⟨lwg_of (List.mem_of_getElem? (i := 1628) (by decide +kernel)) (by decide +kernel), cd_X12_between, ini_X12, by decide +kernel⟩
theorem l_X12_390 : COK RX12 390 mX12_crosses 4 := ⟨lwg_of (List.mem_of_getElem? (i := 1625) (by decide +kernel)) (by decide +kernel), cd_X12_crosses, ini_X12, by decide +kernel⟩
theorem l_X12_398 : COK RX12 398 mX12_bits 1 := ⟨lwg_of (List.mem_of_getElem? (i := 1640) (by decide +kernel)) (by decide +kernel), cd_X12_bits, ini_X12, by decide +kernel⟩
theorem l_X12_401 : COK RX12 401 mX12_laysRound 0 := ⟨lwg_of (List.mem_of_getElem? (i := 1643) (by decide +kernel)) (by decide +kernel), cd_X12_laysRound, ini_X12, by decide +kernel⟩
theorem l_X12_407 : COK RX12 407 mX12_octet 1 := ⟨lwg_of (List.mem_of_getElem? (i := 1656) (by decide +kernel)) (by decide +kernel), cd_X12_octet, ini_X12, by decide +kernel⟩
theorem l_X12_410 : COK RX12 410 mX12_readsWords 1 := ⟨lwg_of (List.mem_of_getElem? (i := 1652) (by decide +kernel)) (by decide +kernel), cd_X12_readsWords, ini_X12, by decide +kernel⟩
theorem l_X12_413 : COK RX12 413 mX12_counts 0 := ⟨lwg_of (List.mem_of_getElem? (i := 1660) (by decide +kernel)) (by decide +kernel), cd_X12_counts, ini_X12, by decide +kernel⟩
theorem l_X12_416 : COK RX12 416 mX12_canBeSpelt 1 := ⟨lwg_of (List.mem_of_getElem? (i := 1664) (by decide +kernel)) (by decide +kernel), cd_X12_canBeSpelt, ini_X12, by decide +kernel⟩
theorem l_X12_419 : COK RX12 419 mX12_changesOrder 2 := ⟨lwg_of (List.mem_of_getElem? (i := 1688) (by decide +kernel)) (by decide +kernel), cd_X12_changesOrder, ini_X12, by decide +kernel⟩
theorem l_X12_422 : COK RX12 422 mX12_readsRows 1 := ⟨lwg_of (List.mem_of_getElem? (i := 1672) (by decide +kernel)) (by decide +kernel), cd_X12_readsRows, ini_X12, by decide +kernel⟩
theorem l_X12_425 : COK RX12 425 mX12_asks 1 := ⟨lwg_of (List.mem_of_getElem? (i := 1676) (by decide +kernel)) (by decide +kernel), cd_X12_asks, ini_X12, by decide +kernel⟩
theorem l_X12_428 : COK RX12 428 mX12_lasts 1 := ⟨lwg_of (List.mem_of_getElem? (i := 1680) (by decide +kernel)) (by decide +kernel), cd_X12_lasts, ini_X12, by decide +kernel⟩
theorem l_X12_431 : COK RX12 431 mX12_nextOrder 1 := ⟨lwg_of (List.mem_of_getElem? (i := 1684) (by decide +kernel)) (by decide +kernel), cd_X12_nextOrder, ini_X12, by decide +kernel⟩
theorem l_X12_434 : COK RX12 434 mX12_closes 1 := ⟨lwg_of (List.mem_of_getElem? (i := 1696) (by decide +kernel)) (by decide +kernel), cd_X12_closes, ini_X12, by decide +kernel⟩
theorem l_X12_437 : COK RX12 437 mX12_waysOf 1 := ⟨lwg_of (List.mem_of_getElem? (i := 1700) (by decide +kernel)) (by decide +kernel), cd_X12_waysOf, ini_X12, by decide +kernel⟩
theorem l_X12_447 : COK RX12 447 mX12_callsOfAll 0 := ⟨lwg_of (List.mem_of_getElem? (i := 1724) (by decide +kernel)) (by decide +kernel), cd_X12_callsOfAll, ini_X12, by decide +kernel⟩
theorem l_J0_335 : COK RJ0 335 mJ0_coder_7d493 0 := ⟨lwg_of (List.mem_of_getElem? (i := 567) (by decide +kernel)) (by decide +kernel), cd_J0_coder_7d493, ini_J0, by decide +kernel⟩
theorem l_J0_492 : COK RJ0 492 mJ0_isLatin1_aae02 0 := ⟨lwg_of (List.mem_of_getElem? (i := 557) (by decide +kernel)) (by decide +kernel), cd_J0_isLatin1_aae02, ini_J0, by decide +kernel⟩
theorem l_J0_505 : COK RJ0 505 mJ0_length_8abf5 0 := ⟨lwg_of (List.mem_of_getElem? (i := 563) (by decide +kernel)) (by decide +kernel), cd_J0_length_8abf5, ini_J0, by decide +kernel⟩
theorem l_J0_633 : COK RJ0 633 mJ0_indexOf_7cf53 2 := ⟨lwg_of (List.mem_of_getElem? (i := 553) (by decide +kernel)) (by decide +kernel), cd_J0_indexOf_7cf53, ini_J0, by decide +kernel⟩
theorem l_J0_637 : COK RJ0 637 mJ1_indexOf_4cfef 4 := ⟨lwg_of (List.mem_of_getElem? (i := 571) (by decide +kernel)) (by decide +kernel), cd_J1_indexOf_4cfef, ini_J1, by decide +kernel⟩
theorem l_J0_640 : COK RJ0 640 mJ2_indexOf_4cfef 4 := ⟨lwg_of (List.mem_of_getElem? (i := 584) (by decide +kernel)) (by decide +kernel), cd_J2_indexOf_4cfef, ini_J2, by decide +kernel⟩
theorem l_J0_1062 : COK RJ0 1062 mJ3_checkFromToIndex_8c36e 4 := ⟨lwg_of (List.mem_of_getElem? (i := 604) (by decide +kernel)) (by decide +kernel), cd_J3_checkFromToIndex_8c36e, ini_J3, by decide +kernel⟩
theorem l_J1_38 : COK RJ1 38 mJ9_min_7cf53 2 := ⟨lwg_of (List.mem_of_getElem? (i := 580) (by decide +kernel)) (by decide +kernel), cd_J9_min_7cf53, ini_J9, by decide +kernel⟩
theorem l_J1_88 : COK RJ1 88 mJ1_canEncode_9a6ad 1 := ⟨lwg_of (List.mem_of_getElem? (i := 574) (by decide +kernel)) (by decide +kernel), cd_J1_canEncode_9a6ad, ini_J1, by decide +kernel⟩
theorem l_J1_92 : COK RJ1 92 mJ9_max_7cf53 2 := ⟨lwg_of (List.mem_of_getElem? (i := 577) (by decide +kernel)) (by decide +kernel), cd_J9_max_7cf53, ini_J9, by decide +kernel⟩
theorem l_J1_95 : COK RJ1 95 mJ1_indexOfChar_4cfef 4 := ⟨lwg_of (List.mem_of_getElem? (i := 581) (by decide +kernel)) (by decide +kernel), cd_J1_indexOfChar_4cfef, ini_J1, by decide +kernel⟩
theorem l_J2_48 : COK RJ2 48 mJ2_length_9d52b 1 := ⟨lwg_of (List.mem_of_getElem? (i := 596) (by decide +kernel)) (by decide +kernel), cd_J2_length_9d52b, ini_J2, by decide +kernel⟩
theorem l_J2_71 : COK RJ2 71 mJ2_getChar_3b067 2 := ⟨lwg_of (List.mem_of_getElem? (i := 610) (by decide +kernel)) (by decide +kernel), cd_J2_getChar_3b067, ini_J2, by decide +kernel⟩
theorem l_J2_96 : COK RJ2 96 mJ2_checkBoundsBeginEnd_d044e 3 := ⟨lwg_of (List.mem_of_getElem? (i := 593) (by decide +kernel)) (by decide +kernel), cd_J2_checkBoundsBeginEnd_d044e, ini_J2, by decide +kernel⟩
theorem l_J2_157 : COK RJ2 157 mJ11_highSurrogate_5068e 1 := ⟨lwg_of (List.mem_of_getElem? (i := 625) (by decide +kernel)) (by decide +kernel), cd_J11_highSurrogate_5068e, ini_J11, by decide +kernel⟩
theorem l_J2_161 : COK RJ2 161 mJ11_lowSurrogate_5068e 1 := ⟨lwg_of (List.mem_of_getElem? (i := 629) (by decide +kernel)) (by decide +kernel), cd_J11_lowSurrogate_5068e, ini_J11, by decide +kernel⟩
theorem l_J2_164 : COK RJ2 164 mJ11_isValidCodePoint_9a6ad 1 := ⟨lwg_of (List.mem_of_getElem? (i := 622) (by decide +kernel)) (by decide +kernel), cd_J11_isValidCodePoint_9a6ad, ini_J11, by decide +kernel⟩
theorem l_J2_183 : COK RJ2 183 mJ9_min_7cf53 2 := ⟨lwg_of (List.mem_of_getElem? (i := 588) (by decide +kernel)) (by decide +kernel), cd_J9_min_7cf53, ini_J9, by decide +kernel⟩
theorem l_J2_224 : COK RJ2 224 mJ9_max_7cf53 2 := ⟨lwg_of (List.mem_of_getElem? (i := 587) (by decide +kernel)) (by decide +kernel), cd_J9_max_7cf53, ini_J9, by decide +kernel⟩
theorem l_J2_228 : COK RJ2 228 mJ2_indexOfChar_4cfef 4 := ⟨lwg_of (List.mem_of_getElem? (i := 590) (by decide +kernel)) (by decide +kernel), cd_J2_indexOfChar_4cfef, ini_J2, by decide +kernel⟩
theorem l_J2_232 : COK RJ2 232 mJ2_indexOfSupplementary_4cfef 4 := ⟨lwg_of (List.mem_of_getElem? (i := 619) (by decide +kernel)) (by decide +kernel), cd_J2_indexOfSupplementary_4cfef, ini_J2, by decide +kernel⟩
theorem l_J2_241 : COK RJ2 241 mJ0_checkBoundsBeginEnd_23922 3 := ⟨lwg_of (List.mem_of_getElem? (i := 599) (by decide +kernel)) (by decide +kernel), cd_J0_checkBoundsBeginEnd_23922, ini_J0, by decide +kernel⟩
theorem l_J2_244 : COK RJ2 244 mJ2_indexOfCharUnsafe_4cfef 4 := ⟨lwg_of (List.mem_of_getElem? (i := 607) (by decide +kernel)) (by decide +kernel), cd_J2_indexOfCharUnsafe_4cfef, ini_J2, by decide +kernel⟩
