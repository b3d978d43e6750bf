/-! the law: words, rows, cases -/
theorem my_X11_sign : MY y_X11_sign prog_1_method_2_code 2 (some .int) 1 := ⟨vtb_at 536 (by decide +kernel) rfl, vtb_at 139 (by decide +kernel) rfl, ⟨by decide, by decide, by decide +kernel⟩, by decide⟩
theorem mi_X11_sign : MI y_X11_sign := ⟨vtb_at 534 (by decide +kernel) rfl, vtb_at 535 (by decide +kernel) rfl⟩
theorem mL_26 : ML "SowingBoardsLaw" 26 y_X11_sign := Or.inl (vtb_at 533 (by decide +kernel) rfl)
theorem my_X12_sign : MY y_X12_sign prog_14_method_8_code 3 (some .int) 1 := ⟨vtb_at 1511 (by decide +kernel) rfl, vtb_at 152 (by decide +kernel) rfl, ⟨by decide, by decide, by decide +kernel⟩, by decide⟩
theorem mi_X12_sign : MI y_X12_sign := ⟨vtb_at 1509 (by decide +kernel) rfl, vtb_at 1510 (by decide +kernel) rfl⟩
theorem mL_29 : ML "SowingBoardsLaw" 29 y_X12_sign := Or.inl (vtb_at 1508 (by decide +kernel) rfl)
theorem my_X11_end : MY y_X11_end prog_1_method_3_code 2 (some .boolean) 1 := ⟨vtb_at 544 (by decide +kernel) rfl, vtb_at 139 (by decide +kernel) rfl, ⟨by decide, by decide, by decide +kernel⟩, by decide⟩
theorem mi_X11_end : MI y_X11_end := ⟨vtb_at 542 (by decide +kernel) rfl, vtb_at 543 (by decide +kernel) rfl⟩
theorem mL_30 : ML "SowingBoardsLaw" 30 y_X11_end := Or.inl (vtb_at 541 (by decide +kernel) rfl)
theorem my_X12_end : MY y_X12_end prog_14_method_9_code 2 (some .boolean) 1 := ⟨vtb_at 1515 (by decide +kernel) rfl, vtb_at 152 (by decide +kernel) rfl, ⟨by decide, by decide, by decide +kernel⟩, by decide⟩
theorem mi_X12_end : MI y_X12_end := ⟨vtb_at 1513 (by decide +kernel) rfl, vtb_at 1514 (by decide +kernel) rfl⟩
theorem mL_34 : ML "SowingBoardsLaw" 34 y_X12_end := Or.inl (vtb_at 1512 (by decide +kernel) rfl)
theorem my_X11_board : MY y_X11_board prog_1_method_4_code 2 (some .int) 0 := ⟨vtb_at 552 (by decide +kernel) rfl, vtb_at 139 (by decide +kernel) rfl, ⟨by decide, by decide, by decide +kernel⟩, by decide⟩
theorem mi_X11_board : MI y_X11_board := ⟨vtb_at 550 (by decide +kernel) rfl, vtb_at 551 (by decide +kernel) rfl⟩
theorem mL_35 : ML "SowingBoardsLaw" 35 y_X11_board := Or.inl (vtb_at 549 (by decide +kernel) rfl)
theorem my_X12_board : MY y_X12_board prog_14_method_20_code 4 (some .int) 0 := ⟨vtb_at 1522 (by decide +kernel) rfl, vtb_at 152 (by decide +kernel) rfl, ⟨by decide, by decide, by decide +kernel⟩, by decide⟩
theorem mi_X12_board : MI y_X12_board := ⟨vtb_at 1520 (by decide +kernel) rfl, vtb_at 1521 (by decide +kernel) rfl⟩
theorem mL_39 : ML "SowingBoardsLaw" 39 y_X12_board := Or.inl (vtb_at 1519 (by decide +kernel) rfl)
theorem my_X11_laws : MY y_X11_laws prog_1_method_7_code 2 (some .int) 0 := ⟨vtb_at 588 (by decide +kernel) rfl, vtb_at 139 (by decide +kernel) rfl, ⟨by decide, by decide, by decide +kernel⟩, by decide⟩
theorem mi_X11_laws : MI y_X11_laws := ⟨vtb_at 586 (by decide +kernel) rfl, vtb_at 587 (by decide +kernel) rfl⟩
theorem mL_40 : ML "SowingBoardsLaw" 40 y_X11_laws := Or.inl (vtb_at 585 (by decide +kernel) rfl)
theorem my_X12_laws : MY y_X12_laws prog_14_method_22_code 3 (some .int) 0 := ⟨vtb_at 1554 (by decide +kernel) rfl, vtb_at 152 (by decide +kernel) rfl, ⟨by decide, by decide, by decide +kernel⟩, by decide⟩
theorem mi_X12_laws : MI y_X12_laws := ⟨vtb_at 1552 (by decide +kernel) rfl, vtb_at 1553 (by decide +kernel) rfl⟩
theorem mL_43 : ML "SowingBoardsLaw" 43 y_X12_laws := Or.inl (vtb_at 1551 (by decide +kernel) rfl)
theorem my_X11_rule : MY y_X11_rule prog_1_method_9_code 2 (some .int) 0 := ⟨vtb_at 689 (by decide +kernel) rfl, vtb_at 139 (by decide +kernel) rfl, ⟨by decide, by decide, by decide +kernel⟩, by decide⟩
theorem mi_X11_rule : MI y_X11_rule := ⟨vtb_at 687 (by decide +kernel) rfl, vtb_at 688 (by decide +kernel) rfl⟩
theorem mL_44 : ML "SowingBoardsLaw" 44 y_X11_rule := Or.inl (vtb_at 686 (by decide +kernel) rfl)
theorem my_X12_rule : MY y_X12_rule prog_14_method_29_code 3 (some .int) 0 := ⟨vtb_at 1562 (by decide +kernel) rfl, vtb_at 152 (by decide +kernel) rfl, ⟨by decide, by decide, by decide +kernel⟩, by decide⟩
theorem mi_X12_rule : MI y_X12_rule := ⟨vtb_at 1560 (by decide +kernel) rfl, vtb_at 1561 (by decide +kernel) rfl⟩
theorem mL_47 : ML "SowingBoardsLaw" 47 y_X12_rule := Or.inl (vtb_at 1559 (by decide +kernel) rfl)
theorem my_X12_pit : MY y_X12_pit prog_14_method_30_code 2 (some .int) 1 := ⟨vtb_at 1601 (by decide +kernel) rfl, vtb_at 152 (by decide +kernel) rfl, ⟨by decide, by decide, by decide +kernel⟩, by decide⟩
theorem mi_X12_pit : MI y_X12_pit := ⟨vtb_at 1599 (by decide +kernel) rfl, vtb_at 1600 (by decide +kernel) rfl⟩
theorem mL_53 : ML "SowingBoardsLaw" 53 y_X12_pit := Or.inl (vtb_at 1598 (by decide +kernel) rfl)
theorem my_X12_thrown : MY y_X12_thrown prog_14_method_2_code 1 (some .int) 0 := ⟨vtb_at 1507 (by decide +kernel) rfl, vtb_at 152 (by decide +kernel) rfl, ⟨by decide, by decide, by decide +kernel⟩, by decide⟩
theorem mi_X12_thrown : MI y_X12_thrown := ⟨vtb_at 1505 (by decide +kernel) rfl, vtb_at 1506 (by decide +kernel) rfl⟩
theorem mL_54 : ML "SowingBoardsLaw" 54 y_X12_thrown := Or.inl (vtb_at 1504 (by decide +kernel) rfl)
theorem my_X12_store : MY y_X12_store prog_14_method_31_code 2 (some .int) 1 := ⟨vtb_at 1613 (by decide +kernel) rfl, vtb_at 152 (by decide +kernel) rfl, ⟨by decide, by decide, by decide +kernel⟩, by decide⟩
theorem mi_X12_store : MI y_X12_store := ⟨vtb_at 1611 (by decide +kernel) rfl, vtb_at 1612 (by decide +kernel) rfl⟩
theorem mL_59 : ML "SowingBoardsLaw" 59 y_X12_store := Or.inl (vtb_at 1610 (by decide +kernel) rfl)
theorem my_X11_sheet : MY y_X11_sheet prog_1_method_12_code 8 (some .int) 4 := ⟨vtb_at 746 (by decide +kernel) rfl, vtb_at 139 (by decide +kernel) rfl, ⟨by decide, by decide, by decide +kernel⟩, by decide⟩
theorem mi_X11_sheet : MI y_X11_sheet := ⟨vtb_at 744 (by decide +kernel) rfl, vtb_at 745 (by decide +kernel) rfl⟩
theorem mL_60 : ML "SowingBoardsLaw" 60 y_X11_sheet := Or.inl (vtb_at 743 (by decide +kernel) rfl)
theorem my_X12_sheet : MY y_X12_sheet prog_14_method_33_code 8 (some .int) 4 := ⟨vtb_at 1617 (by decide +kernel) rfl, vtb_at 152 (by decide +kernel) rfl, ⟨by decide, by decide, by decide +kernel⟩, by decide⟩
theorem mi_X12_sheet : MI y_X12_sheet := ⟨vtb_at 1615 (by decide +kernel) rfl, vtb_at 1616 (by decide +kernel) rfl⟩
theorem mL_64 : ML "SowingBoardsLaw" 64 y_X12_sheet := Or.inl (vtb_at 1614 (by decide +kernel) rfl)
theorem my_X11_moves : MY y_X11_moves prog_1_method_14_code 3 (some .int) 1 := ⟨vtb_at 755 (by decide +kernel) rfl, vtb_at 139 (by decide +kernel) rfl, ⟨by decide, by decide, by decide +kernel⟩, by decide⟩
theorem mi_X11_moves : MI y_X11_moves := ⟨vtb_at 753 (by decide +kernel) rfl, vtb_at 754 (by decide +kernel) rfl⟩
theorem mL_65 : ML "SowingBoardsLaw" 65 y_X11_moves := Or.inl (vtb_at 752 (by decide +kernel) rfl)
theorem my_X12_moves : MY y_X12_moves prog_14_method_44_code 3 (some .int) 1 := ⟨vtb_at 1627 (by decide +kernel) rfl, vtb_at 152 (by decide +kernel) rfl, ⟨by decide, by decide, by decide +kernel⟩, by decide⟩
theorem mi_X12_moves : MI y_X12_moves := ⟨vtb_at 1625 (by decide +kernel) rfl, vtb_at 1626 (by decide +kernel) rfl⟩
theorem mL_68 : ML "SowingBoardsLaw" 68 y_X12_moves := Or.inl (vtb_at 1624 (by decide +kernel) rfl)
theorem my_X11_plays : MY y_X11_plays prog_1_method_16_code 3 (some .int) 1 := ⟨vtb_at 843 (by decide +kernel) rfl, vtb_at 139 (by decide +kernel) rfl, ⟨by decide, by decide, by decide +kernel⟩, by decide⟩
theorem mi_X11_plays : MI y_X11_plays := ⟨vtb_at 841 (by decide +kernel) rfl, vtb_at 842 (by decide +kernel) rfl⟩
theorem mL_69 : ML "SowingBoardsLaw" 69 y_X11_plays := Or.inl (vtb_at 840 (by decide +kernel) rfl)
theorem my_X12_plays : MY y_X12_plays prog_14_method_48_code 3 (some .int) 1 := ⟨vtb_at 1670 (by decide +kernel) rfl, vtb_at 152 (by decide +kernel) rfl, ⟨by decide, by decide, by decide +kernel⟩, by decide⟩
theorem mi_X12_plays : MI y_X12_plays := ⟨vtb_at 1668 (by decide +kernel) rfl, vtb_at 1669 (by decide +kernel) rfl⟩
theorem mL_72 : ML "SowingBoardsLaw" 72 y_X12_plays := Or.inl (vtb_at 1667 (by decide +kernel) rfl)
theorem my_X11_passes : MY y_X11_passes prog_1_method_18_code 1 (some .int) 0 := ⟨vtb_at 877 (by decide +kernel) rfl, vtb_at 139 (by decide +kernel) rfl, ⟨by decide, by decide, by decide +kernel⟩, by decide⟩
theorem mi_X11_passes : MI y_X11_passes := ⟨vtb_at 875 (by decide +kernel) rfl, vtb_at 876 (by decide +kernel) rfl⟩
theorem mL_73 : ML "SowingBoardsLaw" 73 y_X11_passes := Or.inl (vtb_at 874 (by decide +kernel) rfl)
theorem my_X12_passes_ : MY y_X12_passes_ prog_14_method_49_code 1 (some .int) 0 := ⟨vtb_at 1690 (by decide +kernel) rfl, vtb_at 152 (by decide +kernel) rfl, ⟨by decide, by decide, by decide +kernel⟩, by decide⟩
theorem mi_X12_passes_ : MI y_X12_passes_ := ⟨vtb_at 1688 (by decide +kernel) rfl, vtb_at 1689 (by decide +kernel) rfl⟩
theorem mL_76 : ML "SowingBoardsLaw" 76 y_X12_passes_ := Or.inl (vtb_at 1687 (by decide +kernel) rfl)
theorem my_X11_adds : MY y_X11_adds prog_1_method_19_code 3 (some .int) 2 := ⟨vtb_at 882 (by decide +kernel) rfl, vtb_at 139 (by decide +kernel) rfl, ⟨by decide, by decide, by decide +kernel⟩, by decide⟩
theorem mi_X11_adds : MI y_X11_adds := ⟨vtb_at 880 (by decide +kernel) rfl, vtb_at 881 (by decide +kernel) rfl⟩
theorem mL_77 : ML "SowingBoardsLaw" 77 y_X11_adds := Or.inl (vtb_at 879 (by decide +kernel) rfl)
theorem my_X12_adds : MY y_X12_adds prog_14_method_50_code 3 (some .int) 2 := ⟨vtb_at 1694 (by decide +kernel) rfl, vtb_at 152 (by decide +kernel) rfl, ⟨by decide, by decide, by decide +kernel⟩, by decide⟩
theorem mi_X12_adds : MI y_X12_adds := ⟨vtb_at 1692 (by decide +kernel) rfl, vtb_at 1693 (by decide +kernel) rfl⟩
theorem mL_81 : ML "SowingBoardsLaw" 81 y_X12_adds := Or.inl (vtb_at 1691 (by decide +kernel) rfl)
theorem my_X11_game : MY y_X11_game prog_1_method_20_code 3 (some .int) 0 := ⟨vtb_at 898 (by decide +kernel) rfl, vtb_at 139 (by decide +kernel) rfl, ⟨by decide, by decide, by decide +kernel⟩, by decide⟩
theorem mi_X11_game : MI y_X11_game := ⟨vtb_at 896 (by decide +kernel) rfl, vtb_at 897 (by decide +kernel) rfl⟩
theorem mL_82 : ML "SowingBoardsLaw" 82 y_X11_game := Or.inl (vtb_at 895 (by decide +kernel) rfl)
theorem my_X12_game : MY y_X12_game prog_14_method_51_code 3 (some .int) 0 := ⟨vtb_at 1698 (by decide +kernel) rfl, vtb_at 152 (by decide +kernel) rfl, ⟨by decide, by decide, by decide +kernel⟩, by decide⟩
theorem mi_X12_game : MI y_X12_game := ⟨vtb_at 1696 (by decide +kernel) rfl, vtb_at 1697 (by decide +kernel) rfl⟩
theorem mL_85 : ML "SowingBoardsLaw" 85 y_X12_game := Or.inl (vtb_at 1695 (by decide +kernel) rfl)
theorem my_X11_undo : MY y_X11_undo prog_1_method_24_code 1 (some .int) 0 := ⟨vtb_at 914 (by decide +kernel) rfl, vtb_at 139 (by decide +kernel) rfl, ⟨by decide, by decide, by decide +kernel⟩, by decide⟩
theorem mi_X11_undo : MI y_X11_undo := ⟨vtb_at 912 (by decide +kernel) rfl, vtb_at 913 (by decide +kernel) rfl⟩
theorem mL_86 : ML "SowingBoardsLaw" 86 y_X11_undo := Or.inl (vtb_at 911 (by decide +kernel) rfl)
theorem my_X12_undo : MY y_X12_undo prog_14_method_53_code 2 (some .int) 0 := ⟨vtb_at 1706 (by decide +kernel) rfl, vtb_at 152 (by decide +kernel) rfl, ⟨by decide, by decide, by decide +kernel⟩, by decide⟩
theorem mi_X12_undo : MI y_X12_undo := ⟨vtb_at 1704 (by decide +kernel) rfl, vtb_at 1705 (by decide +kernel) rfl⟩
theorem mL_89 : ML "SowingBoardsLaw" 89 y_X12_undo := Or.inl (vtb_at 1703 (by decide +kernel) rfl)
theorem my_X11_would : MY y_X11_would prog_1_method_25_code 3 (some .int) 1 := ⟨vtb_at 922 (by decide +kernel) rfl, vtb_at 139 (by decide +kernel) rfl, ⟨by decide, by decide, by decide +kernel⟩, by decide⟩
theorem mi_X11_would : MI y_X11_would := ⟨vtb_at 920 (by decide +kernel) rfl, vtb_at 921 (by decide +kernel) rfl⟩
theorem mL_90 : ML "SowingBoardsLaw" 90 y_X11_would := Or.inl (vtb_at 919 (by decide +kernel) rfl)
theorem my_X12_would : MY y_X12_would prog_14_method_54_code 3 (some .int) 1 := ⟨vtb_at 1710 (by decide +kernel) rfl, vtb_at 152 (by decide +kernel) rfl, ⟨by decide, by decide, by decide +kernel⟩, by decide⟩
theorem mi_X12_would : MI y_X12_would := ⟨vtb_at 1708 (by decide +kernel) rfl, vtb_at 1709 (by decide +kernel) rfl⟩
theorem mL_93 : ML "SowingBoardsLaw" 93 y_X12_would := Or.inl (vtb_at 1707 (by decide +kernel) rfl)
theorem my_X11_worth : MY y_X11_worth prog_1_method_27_code 3 (some .int) 1 := ⟨vtb_at 930 (by decide +kernel) rfl, vtb_at 139 (by decide +kernel) rfl, ⟨by decide, by decide, by decide +kernel⟩, by decide⟩
theorem mi_X11_worth : MI y_X11_worth := ⟨vtb_at 928 (by decide +kernel) rfl, vtb_at 929 (by decide +kernel) rfl⟩
theorem mL_94 : ML "SowingBoardsLaw" 94 y_X11_worth := Or.inl (vtb_at 927 (by decide +kernel) rfl)
theorem my_X12_worth : MY y_X12_worth prog_14_method_55_code 4 (some .int) 1 := ⟨vtb_at 1714 (by decide +kernel) rfl, vtb_at 152 (by decide +kernel) rfl, ⟨by decide, by decide, by decide +kernel⟩, by decide⟩
theorem mi_X12_worth : MI y_X12_worth := ⟨vtb_at 1712 (by decide +kernel) rfl, vtb_at 1713 (by decide +kernel) rfl⟩
theorem mL_97 : ML "SowingBoardsLaw" 97 y_X12_worth := Or.inl (vtb_at 1711 (by decide +kernel) rfl)
theorem my_X11_best : MY y_X11_best prog_1_method_28_code 2 (some .int) 0 := ⟨vtb_at 936 (by decide +kernel) rfl, vtb_at 139 (by decide +kernel) rfl, ⟨by decide, by decide, by decide +kernel⟩, by decide⟩
theorem mi_X11_best : MI y_X11_best := ⟨vtb_at 934 (by decide +kernel) rfl, vtb_at 935 (by decide +kernel) rfl⟩
theorem mL_98 : ML "SowingBoardsLaw" 98 y_X11_best := Or.inl (vtb_at 933 (by decide +kernel) rfl)
theorem my_X12_best : MY y_X12_best prog_14_method_56_code 2 (some .int) 0 := ⟨vtb_at 1718 (by decide +kernel) rfl, vtb_at 152 (by decide +kernel) rfl, ⟨by decide, by decide, by decide +kernel⟩, by decide⟩
theorem mi_X12_best : MI y_X12_best := ⟨vtb_at 1716 (by decide +kernel) rfl, vtb_at 1717 (by decide +kernel) rfl⟩
theorem mL_101 : ML "SowingBoardsLaw" 101 y_X12_best := Or.inl (vtb_at 1715 (by decide +kernel) rfl)
theorem my_X11_most : MY y_X11_most prog_1_method_29_code 2 (some .int) 0 := ⟨vtb_at 941 (by decide +kernel) rfl, vtb_at 139 (by decide +kernel) rfl, ⟨by decide, by decide, by decide +kernel⟩, by decide⟩
theorem mi_X11_most : MI y_X11_most := ⟨vtb_at 939 (by decide +kernel) rfl, vtb_at 940 (by decide +kernel) rfl⟩
theorem mL_102 : ML "SowingBoardsLaw" 102 y_X11_most := Or.inl (vtb_at 938 (by decide +kernel) rfl)
theorem my_X12_most : MY y_X12_most prog_14_method_58_code 2 (some .int) 0 := ⟨vtb_at 1722 (by decide +kernel) rfl, vtb_at 152 (by decide +kernel) rfl, ⟨by decide, by decide, by decide +kernel⟩, by decide⟩
theorem mi_X12_most : MI y_X12_most := ⟨vtb_at 1720 (by decide +kernel) rfl, vtb_at 1721 (by decide +kernel) rfl⟩
theorem mL_105 : ML "SowingBoardsLaw" 105 y_X12_most := Or.inl (vtb_at 1719 (by decide +kernel) rfl)
theorem my_X11_chain : MY y_X11_chain prog_1_method_30_code 4 (some .int) 0 := ⟨vtb_at 945 (by decide +kernel) rfl, vtb_at 139 (by decide +kernel) rfl, ⟨by decide, by decide, by decide +kernel⟩, by decide⟩
theorem mi_X11_chain : MI y_X11_chain := ⟨vtb_at 943 (by decide +kernel) rfl, vtb_at 944 (by decide +kernel) rfl⟩
theorem mL_106 : ML "SowingBoardsLaw" 106 y_X11_chain := Or.inl (vtb_at 942 (by decide +kernel) rfl)
theorem my_X12_chain : MY y_X12_chain prog_14_method_61_code 1 (some .int) 0 := ⟨vtb_at 1730 (by decide +kernel) rfl, vtb_at 152 (by decide +kernel) rfl, ⟨by decide, by decide, by decide +kernel⟩, by decide⟩
theorem mi_X12_chain : MI y_X12_chain := ⟨vtb_at 1728 (by decide +kernel) rfl, vtb_at 1729 (by decide +kernel) rfl⟩
theorem mL_109 : ML "SowingBoardsLaw" 109 y_X12_chain := Or.inl (vtb_at 1727 (by decide +kernel) rfl)
theorem my_X11_longest : MY y_X11_longest prog_1_method_31_code 3 (some .int) 0 := ⟨vtb_at 977 (by decide +kernel) rfl, vtb_at 139 (by decide +kernel) rfl, ⟨by decide, by decide, by decide +kernel⟩, by decide⟩
theorem mi_X11_longest : MI y_X11_longest := ⟨vtb_at 975 (by decide +kernel) rfl, vtb_at 976 (by decide +kernel) rfl⟩
theorem mL_110 : ML "SowingBoardsLaw" 110 y_X11_longest := Or.inl (vtb_at 974 (by decide +kernel) rfl)
theorem my_X12_longest : MY y_X12_longest prog_14_method_62_code 1 (some .int) 0 := ⟨vtb_at 1742 (by decide +kernel) rfl, vtb_at 152 (by decide +kernel) rfl, ⟨by decide, by decide, by decide +kernel⟩, by decide⟩
theorem mi_X12_longest : MI y_X12_longest := ⟨vtb_at 1740 (by decide +kernel) rfl, vtb_at 1741 (by decide +kernel) rfl⟩
theorem mL_113 : ML "SowingBoardsLaw" 113 y_X12_longest := Or.inl (vtb_at 1739 (by decide +kernel) rfl)
theorem my_X11_threat : MY y_X11_threat prog_1_method_32_code 2 (some .int) 0 := ⟨vtb_at 981 (by decide +kernel) rfl, vtb_at 139 (by decide +kernel) rfl, ⟨by decide, by decide, by decide +kernel⟩, by decide⟩
theorem mi_X11_threat : MI y_X11_threat := ⟨vtb_at 979 (by decide +kernel) rfl, vtb_at 980 (by decide +kernel) rfl⟩
theorem mL_114 : ML "SowingBoardsLaw" 114 y_X11_threat := Or.inl (vtb_at 978 (by decide +kernel) rfl)
theorem my_X12_threat : MY y_X12_threat prog_14_method_63_code 2 (some .int) 0 := ⟨vtb_at 1746 (by decide +kernel) rfl, vtb_at 152 (by decide +kernel) rfl, ⟨by decide, by decide, by decide +kernel⟩, by decide⟩
theorem mi_X12_threat : MI y_X12_threat := ⟨vtb_at 1744 (by decide +kernel) rfl, vtb_at 1745 (by decide +kernel) rfl⟩
theorem mL_117 : ML "SowingBoardsLaw" 117 y_X12_threat := Or.inl (vtb_at 1743 (by decide +kernel) rfl)
theorem my_X11_risks : MY y_X11_risks prog_1_method_33_code 3 (some .int) 1 := ⟨vtb_at 987 (by decide +kernel) rfl, vtb_at 139 (by decide +kernel) rfl, ⟨by decide, by decide, by decide +kernel⟩, by decide⟩
theorem mi_X11_risks : MI y_X11_risks := ⟨vtb_at 985 (by decide +kernel) rfl, vtb_at 986 (by decide +kernel) rfl⟩
theorem mL_118 : ML "SowingBoardsLaw" 118 y_X11_risks := Or.inl (vtb_at 984 (by decide +kernel) rfl)
theorem my_X12_risks : MY y_X12_risks prog_14_method_64_code 3 (some .int) 1 := ⟨vtb_at 1750 (by decide +kernel) rfl, vtb_at 152 (by decide +kernel) rfl, ⟨by decide, by decide, by decide +kernel⟩, by decide⟩
theorem mi_X12_risks : MI y_X12_risks := ⟨vtb_at 1748 (by decide +kernel) rfl, vtb_at 1749 (by decide +kernel) rfl⟩
theorem mL_121 : ML "SowingBoardsLaw" 121 y_X12_risks := Or.inl (vtb_at 1747 (by decide +kernel) rfl)
theorem my_X11_starves : MY y_X11_starves prog_1_method_34_code 3 (some .int) 0 := ⟨vtb_at 991 (by decide +kernel) rfl, vtb_at 139 (by decide +kernel) rfl, ⟨by decide, by decide, by decide +kernel⟩, by decide⟩
theorem mi_X11_starves : MI y_X11_starves := ⟨vtb_at 989 (by decide +kernel) rfl, vtb_at 990 (by decide +kernel) rfl⟩
theorem mL_122 : ML "SowingBoardsLaw" 122 y_X11_starves := Or.inl (vtb_at 988 (by decide +kernel) rfl)
theorem my_X12_starves : MY y_X12_starves prog_14_method_65_code 3 (some .int) 0 := ⟨vtb_at 1754 (by decide +kernel) rfl, vtb_at 152 (by decide +kernel) rfl, ⟨by decide, by decide, by decide +kernel⟩, by decide⟩
theorem mi_X12_starves : MI y_X12_starves := ⟨vtb_at 1752 (by decide +kernel) rfl, vtb_at 1753 (by decide +kernel) rfl⟩
theorem mL_125 : ML "SowingBoardsLaw" 125 y_X12_starves := Or.inl (vtb_at 1751 (by decide +kernel) rfl)
theorem my_X11_looks : MY y_X11_looks prog_1_method_35_code 3 (some .int) 1 := ⟨vtb_at 995 (by decide +kernel) rfl, vtb_at 139 (by decide +kernel) rfl, ⟨by decide, by decide, by decide +kernel⟩, by decide⟩
theorem mi_X11_looks : MI y_X11_looks := ⟨vtb_at 993 (by decide +kernel) rfl, vtb_at 994 (by decide +kernel) rfl⟩
theorem mL_126 : ML "SowingBoardsLaw" 126 y_X11_looks := Or.inl (vtb_at 992 (by decide +kernel) rfl)
theorem my_X12_looks : MY y_X12_looks prog_14_method_67_code 4 (some .int) 1 := ⟨vtb_at 1758 (by decide +kernel) rfl, vtb_at 152 (by decide +kernel) rfl, ⟨by decide, by decide, by decide +kernel⟩, by decide⟩
theorem mi_X12_looks : MI y_X12_looks := ⟨vtb_at 1756 (by decide +kernel) rfl, vtb_at 1757 (by decide +kernel) rfl⟩
theorem mL_129 : ML "SowingBoardsLaw" 129 y_X12_looks := Or.inl (vtb_at 1755 (by decide +kernel) rfl)
theorem my_X11_ways : MY y_X11_ways prog_1_method_36_code 5 (some .int) 2 := ⟨vtb_at 1017 (by decide +kernel) rfl, vtb_at 139 (by decide +kernel) rfl, ⟨by decide, by decide, by decide +kernel⟩, by decide⟩
theorem mi_X11_ways : MI y_X11_ways := ⟨vtb_at 1015 (by decide +kernel) rfl, vtb_at 1016 (by decide +kernel) rfl⟩
theorem mL_130 : ML "SowingBoardsLaw" 130 y_X11_ways := Or.inl (vtb_at 1014 (by decide +kernel) rfl)
theorem my_X12_ways : MY y_X12_ways prog_14_method_69_code 3 (some .int) 2 := ⟨vtb_at 1766 (by decide +kernel) rfl, vtb_at 152 (by decide +kernel) rfl, ⟨by decide, by decide, by decide +kernel⟩, by decide⟩
theorem mi_X12_ways : MI y_X12_ways := ⟨vtb_at 1764 (by decide +kernel) rfl, vtb_at 1765 (by decide +kernel) rfl⟩
theorem mL_133 : ML "SowingBoardsLaw" 133 y_X12_ways := Or.inl (vtb_at 1763 (by decide +kernel) rfl)
theorem my_X11_reach : MY y_X11_reach prog_1_method_37_code 6 (some .int) 1 := ⟨vtb_at 1021 (by decide +kernel) rfl, vtb_at 139 (by decide +kernel) rfl, ⟨by decide, by decide, by decide +kernel⟩, by decide⟩
theorem mi_X11_reach : MI y_X11_reach := ⟨vtb_at 1019 (by decide +kernel) rfl, vtb_at 1020 (by decide +kernel) rfl⟩
theorem mL_134 : ML "SowingBoardsLaw" 134 y_X11_reach := Or.inl (vtb_at 1018 (by decide +kernel) rfl)
theorem my_X12_reach : MY y_X12_reach prog_14_method_72_code 6 (some .int) 1 := ⟨vtb_at 1774 (by decide +kernel) rfl, vtb_at 152 (by decide +kernel) rfl, ⟨by decide, by decide, by decide +kernel⟩, by decide⟩
theorem mi_X12_reach : MI y_X12_reach := ⟨vtb_at 1772 (by decide +kernel) rfl, vtb_at 1773 (by decide +kernel) rfl⟩
theorem mL_137 : ML "SowingBoardsLaw" 137 y_X12_reach := Or.inl (vtb_at 1771 (by decide +kernel) rfl)
theorem my_X11_luck : MY y_X11_luck prog_1_method_38_code 6 (some .int) 2 := ⟨vtb_at 1046 (by decide +kernel) rfl, vtb_at 139 (by decide +kernel) rfl, ⟨by decide, by decide, by decide +kernel⟩, by decide⟩
theorem mi_X11_luck : MI y_X11_luck := ⟨vtb_at 1044 (by decide +kernel) rfl, vtb_at 1045 (by decide +kernel) rfl⟩
theorem mL_138 : ML "SowingBoardsLaw" 138 y_X11_luck := Or.inl (vtb_at 1043 (by decide +kernel) rfl)
theorem my_X12_luck : MY y_X12_luck prog_14_method_75_code 9 (some .int) 2 := ⟨vtb_at 1787 (by decide +kernel) rfl, vtb_at 152 (by decide +kernel) rfl, ⟨by decide, by decide, by decide +kernel⟩, by decide⟩
theorem mi_X12_luck : MI y_X12_luck := ⟨vtb_at 1785 (by decide +kernel) rfl, vtb_at 1786 (by decide +kernel) rfl⟩
theorem mL_141 : ML "SowingBoardsLaw" 141 y_X12_luck := Or.inl (vtb_at 1784 (by decide +kernel) rfl)
theorem my_X11_when : MY y_X11_when prog_1_method_40_code 3 (some .int) 1 := ⟨vtb_at 1070 (by decide +kernel) rfl, vtb_at 139 (by decide +kernel) rfl, ⟨by decide, by decide, by decide +kernel⟩, by decide⟩
theorem mi_X11_when : MI y_X11_when := ⟨vtb_at 1068 (by decide +kernel) rfl, vtb_at 1069 (by decide +kernel) rfl⟩
theorem mL_142 : ML "SowingBoardsLaw" 142 y_X11_when := Or.inl (vtb_at 1067 (by decide +kernel) rfl)
theorem my_X12_when : MY y_X12_when prog_14_method_76_code 3 (some .int) 1 := ⟨vtb_at 1799 (by decide +kernel) rfl, vtb_at 152 (by decide +kernel) rfl, ⟨by decide, by decide, by decide +kernel⟩, by decide⟩
theorem mi_X12_when : MI y_X12_when := ⟨vtb_at 1797 (by decide +kernel) rfl, vtb_at 1798 (by decide +kernel) rfl⟩
theorem mL_145 : ML "SowingBoardsLaw" 145 y_X12_when := Or.inl (vtb_at 1796 (by decide +kernel) rfl)
theorem my_X11_ends : MY y_X11_ends prog_1_method_41_code 2 (some .int) 0 := ⟨vtb_at 1074 (by decide +kernel) rfl, vtb_at 139 (by decide +kernel) rfl, ⟨by decide, by decide, by decide +kernel⟩, by decide⟩
theorem mi_X11_ends : MI y_X11_ends := ⟨vtb_at 1072 (by decide +kernel) rfl, vtb_at 1073 (by decide +kernel) rfl⟩
theorem mL_146 : ML "SowingBoardsLaw" 146 y_X11_ends := Or.inl (vtb_at 1071 (by decide +kernel) rfl)
theorem my_X12_ends : MY y_X12_ends prog_14_method_77_code 2 (some .int) 0 := ⟨vtb_at 1803 (by decide +kernel) rfl, vtb_at 152 (by decide +kernel) rfl, ⟨by decide, by decide, by decide +kernel⟩, by decide⟩
theorem mi_X12_ends : MI y_X12_ends := ⟨vtb_at 1801 (by decide +kernel) rfl, vtb_at 1802 (by decide +kernel) rfl⟩
theorem mL_149 : ML "SowingBoardsLaw" 149 y_X12_ends := Or.inl (vtb_at 1800 (by decide +kernel) rfl)
theorem my_X11_round : MY y_X11_round prog_1_method_42_code 3 (some .int) 0 := ⟨vtb_at 1079 (by decide +kernel) rfl, vtb_at 139 (by decide +kernel) rfl, ⟨by decide, by decide, by decide +kernel⟩, by decide⟩
theorem mi_X11_round : MI y_X11_round := ⟨vtb_at 1077 (by decide +kernel) rfl, vtb_at 1078 (by decide +kernel) rfl⟩
theorem mL_150 : ML "SowingBoardsLaw" 150 y_X11_round := Or.inl (vtb_at 1076 (by decide +kernel) rfl)
theorem my_X12_round : MY y_X12_round prog_14_method_79_code 3 (some .int) 0 := ⟨vtb_at 1807 (by decide +kernel) rfl, vtb_at 152 (by decide +kernel) rfl, ⟨by decide, by decide, by decide +kernel⟩, by decide⟩
theorem mi_X12_round : MI y_X12_round := ⟨vtb_at 1805 (by decide +kernel) rfl, vtb_at 1806 (by decide +kernel) rfl⟩
theorem mL_153 : ML "SowingBoardsLaw" 153 y_X12_round := Or.inl (vtb_at 1804 (by decide +kernel) rfl)
theorem my_X11_fullest : MY y_X11_fullest prog_1_method_43_code 4 (some .int) 1 := ⟨vtb_at 1085 (by decide +kernel) rfl, vtb_at 139 (by decide +kernel) rfl, ⟨by decide, by decide, by decide +kernel⟩, by decide⟩
theorem mi_X11_fullest : MI y_X11_fullest := ⟨vtb_at 1083 (by decide +kernel) rfl, vtb_at 1084 (by decide +kernel) rfl⟩
theorem mL_154 : ML "SowingBoardsLaw" 154 y_X11_fullest := Or.inl (vtb_at 1082 (by decide +kernel) rfl)
theorem my_X12_fullest : MY y_X12_fullest prog_14_method_80_code 4 (some .int) 1 := ⟨vtb_at 1815 (by decide +kernel) rfl, vtb_at 152 (by decide +kernel) rfl, ⟨by decide, by decide, by decide +kernel⟩, by decide⟩
theorem mi_X12_fullest : MI y_X12_fullest := ⟨vtb_at 1813 (by decide +kernel) rfl, vtb_at 1814 (by decide +kernel) rfl⟩
theorem mL_157 : ML "SowingBoardsLaw" 157 y_X12_fullest := Or.inl (vtb_at 1812 (by decide +kernel) rfl)
theorem my_X11_alone : MY y_X11_alone prog_1_method_44_code 4 (some .int) 1 := ⟨vtb_at 1089 (by decide +kernel) rfl, vtb_at 139 (by decide +kernel) rfl, ⟨by decide, by decide, by decide +kernel⟩, by decide⟩
theorem mi_X11_alone : MI y_X11_alone := ⟨vtb_at 1087 (by decide +kernel) rfl, vtb_at 1088 (by decide +kernel) rfl⟩
theorem mL_158 : ML "SowingBoardsLaw" 158 y_X11_alone := Or.inl (vtb_at 1086 (by decide +kernel) rfl)
theorem my_X12_alone : MY y_X12_alone prog_14_method_81_code 5 (some .int) 1 := ⟨vtb_at 1819 (by decide +kernel) rfl, vtb_at 152 (by decide +kernel) rfl, ⟨by decide, by decide, by decide +kernel⟩, by decide⟩
theorem mi_X12_alone : MI y_X12_alone := ⟨vtb_at 1817 (by decide +kernel) rfl, vtb_at 1818 (by decide +kernel) rfl⟩
theorem mL_161 : ML "SowingBoardsLaw" 161 y_X12_alone := Or.inl (vtb_at 1816 (by decide +kernel) rfl)
theorem my_X11_comes : MY y_X11_comes prog_1_method_47_code 3 (some .int) 0 := ⟨vtb_at 1101 (by decide +kernel) rfl, vtb_at 139 (by decide +kernel) rfl, ⟨by decide, by decide, by decide +kernel⟩, by decide⟩
theorem mi_X11_comes : MI y_X11_comes := ⟨vtb_at 1099 (by decide +kernel) rfl, vtb_at 1100 (by decide +kernel) rfl⟩
theorem mL_162 : ML "SowingBoardsLaw" 162 y_X11_comes := Or.inl (vtb_at 1098 (by decide +kernel) rfl)
theorem my_X12_comes : MY y_X12_comes prog_14_method_82_code 6 (some .int) 0 := ⟨vtb_at 1823 (by decide +kernel) rfl, vtb_at 152 (by decide +kernel) rfl, ⟨by decide, by decide, by decide +kernel⟩, by decide⟩
theorem mi_X12_comes : MI y_X12_comes := ⟨vtb_at 1821 (by decide +kernel) rfl, vtb_at 1822 (by decide +kernel) rfl⟩
theorem mL_165 : ML "SowingBoardsLaw" 165 y_X12_comes := Or.inl (vtb_at 1820 (by decide +kernel) rfl)
theorem my_X11_heard : MY y_X11_heard prog_1_method_51_code 3 (some .int) 2 := ⟨vtb_at 1117 (by decide +kernel) rfl, vtb_at 139 (by decide +kernel) rfl, ⟨by decide, by decide, by decide +kernel⟩, by decide⟩
theorem mi_X11_heard : MI y_X11_heard := ⟨vtb_at 1115 (by decide +kernel) rfl, vtb_at 1116 (by decide +kernel) rfl⟩
theorem mL_166 : ML "SowingBoardsLaw" 166 y_X11_heard := Or.inl (vtb_at 1114 (by decide +kernel) rfl)
theorem my_X12_heard : MY y_X12_heard prog_14_method_84_code 3 (some .int) 2 := ⟨vtb_at 1827 (by decide +kernel) rfl, vtb_at 152 (by decide +kernel) rfl, ⟨by decide, by decide, by decide +kernel⟩, by decide⟩
theorem mi_X12_heard : MI y_X12_heard := ⟨vtb_at 1825 (by decide +kernel) rfl, vtb_at 1826 (by decide +kernel) rfl⟩
theorem mL_169 : ML "SowingBoardsLaw" 169 y_X12_heard := Or.inl (vtb_at 1824 (by decide +kernel) rfl)
theorem my_X11_forget : MY y_X11_forget prog_1_method_52_code 1 (some .int) 0 := ⟨vtb_at 1127 (by decide +kernel) rfl, vtb_at 139 (by decide +kernel) rfl, ⟨by decide, by decide, by decide +kernel⟩, by decide⟩
theorem mi_X11_forget : MI y_X11_forget := ⟨vtb_at 1125 (by decide +kernel) rfl, vtb_at 1126 (by decide +kernel) rfl⟩
theorem mL_170 : ML "SowingBoardsLaw" 170 y_X11_forget := Or.inl (vtb_at 1124 (by decide +kernel) rfl)
theorem my_X12_forget : MY y_X12_forget prog_14_method_85_code 2 (some .int) 0 := ⟨vtb_at 1834 (by decide +kernel) rfl, vtb_at 152 (by decide +kernel) rfl, ⟨by decide, by decide, by decide +kernel⟩, by decide⟩
theorem mi_X12_forget : MI y_X12_forget := ⟨vtb_at 1832 (by decide +kernel) rfl, vtb_at 1833 (by decide +kernel) rfl⟩
theorem mL_173 : ML "SowingBoardsLaw" 173 y_X12_forget := Or.inl (vtb_at 1831 (by decide +kernel) rfl)
theorem my_X11_fits : MY y_X11_fits prog_1_method_53_code 2 (some .int) 0 := ⟨vtb_at 1135 (by decide +kernel) rfl, vtb_at 139 (by decide +kernel) rfl, ⟨by decide, by decide, by decide +kernel⟩, by decide⟩
theorem mi_X11_fits : MI y_X11_fits := ⟨vtb_at 1133 (by decide +kernel) rfl, vtb_at 1134 (by decide +kernel) rfl⟩
theorem mL_174 : ML "SowingBoardsLaw" 174 y_X11_fits := Or.inl (vtb_at 1132 (by decide +kernel) rfl)
theorem my_X12_fits : MY y_X12_fits prog_14_method_88_code 2 (some .int) 0 := ⟨vtb_at 1838 (by decide +kernel) rfl, vtb_at 152 (by decide +kernel) rfl, ⟨by decide, by decide, by decide +kernel⟩, by decide⟩
theorem mi_X12_fits : MI y_X12_fits := ⟨vtb_at 1836 (by decide +kernel) rfl, vtb_at 1837 (by decide +kernel) rfl⟩
theorem mL_177 : ML "SowingBoardsLaw" 177 y_X12_fits := Or.inl (vtb_at 1835 (by decide +kernel) rfl)
theorem my_X11_asks : MY y_X11_asks prog_1_method_57_code 8 (some .int) 0 := ⟨vtb_at 1153 (by decide +kernel) rfl, vtb_at 139 (by decide +kernel) rfl, ⟨by decide, by decide, by decide +kernel⟩, by decide⟩
theorem mi_X11_asks : MI y_X11_asks := ⟨vtb_at 1151 (by decide +kernel) rfl, vtb_at 1152 (by decide +kernel) rfl⟩
theorem mL_178 : ML "SowingBoardsLaw" 178 y_X11_asks := Or.inl (vtb_at 1150 (by decide +kernel) rfl)
theorem my_X12_asks : MY y_X12_asks prog_14_method_89_code 7 (some .int) 0 := ⟨vtb_at 1850 (by decide +kernel) rfl, vtb_at 152 (by decide +kernel) rfl, ⟨by decide, by decide, by decide +kernel⟩, by decide⟩
theorem mi_X12_asks : MI y_X12_asks := ⟨vtb_at 1848 (by decide +kernel) rfl, vtb_at 1849 (by decide +kernel) rfl⟩
theorem mL_181 : ML "SowingBoardsLaw" 181 y_X12_asks := Or.inl (vtb_at 1847 (by decide +kernel) rfl)
theorem my_X11_saw : MY y_X11_saw prog_1_method_58_code 4 (some .int) 2 := ⟨vtb_at 1157 (by decide +kernel) rfl, vtb_at 139 (by decide +kernel) rfl, ⟨by decide, by decide, by decide +kernel⟩, by decide⟩
theorem mi_X11_saw : MI y_X11_saw := ⟨vtb_at 1155 (by decide +kernel) rfl, vtb_at 1156 (by decide +kernel) rfl⟩
theorem mL_182 : ML "SowingBoardsLaw" 182 y_X11_saw := Or.inl (vtb_at 1154 (by decide +kernel) rfl)
theorem my_X12_saw : MY y_X12_saw prog_14_method_90_code 3 (some .int) 2 := ⟨vtb_at 1857 (by decide +kernel) rfl, vtb_at 152 (by decide +kernel) rfl, ⟨by decide, by decide, by decide +kernel⟩, by decide⟩
theorem mi_X12_saw : MI y_X12_saw := ⟨vtb_at 1855 (by decide +kernel) rfl, vtb_at 1856 (by decide +kernel) rfl⟩
theorem mL_185 : ML "SowingBoardsLaw" 185 y_X12_saw := Or.inl (vtb_at 1854 (by decide +kernel) rfl)
theorem my_X11_denies : MY y_X11_denies prog_1_method_59_code 1 (some .int) 0 := ⟨vtb_at 1161 (by decide +kernel) rfl, vtb_at 139 (by decide +kernel) rfl, ⟨by decide, by decide, by decide +kernel⟩, by decide⟩
theorem mi_X11_denies : MI y_X11_denies := ⟨vtb_at 1159 (by decide +kernel) rfl, vtb_at 1160 (by decide +kernel) rfl⟩
theorem mL_186 : ML "SowingBoardsLaw" 186 y_X11_denies := Or.inl (vtb_at 1158 (by decide +kernel) rfl)
theorem my_X12_denies : MY y_X12_denies prog_14_method_91_code 2 (some .int) 0 := ⟨vtb_at 1861 (by decide +kernel) rfl, vtb_at 152 (by decide +kernel) rfl, ⟨by decide, by decide, by decide +kernel⟩, by decide⟩
theorem mi_X12_denies : MI y_X12_denies := ⟨vtb_at 1859 (by decide +kernel) rfl, vtb_at 1860 (by decide +kernel) rfl⟩
theorem mL_189 : ML "SowingBoardsLaw" 189 y_X12_denies := Or.inl (vtb_at 1858 (by decide +kernel) rfl)
theorem my_X11_guess : MY y_X11_guess prog_1_method_60_code 5 (some .int) 0 := ⟨vtb_at 1165 (by decide +kernel) rfl, vtb_at 139 (by decide +kernel) rfl, ⟨by decide, by decide, by decide +kernel⟩, by decide⟩
theorem mi_X11_guess : MI y_X11_guess := ⟨vtb_at 1163 (by decide +kernel) rfl, vtb_at 1164 (by decide +kernel) rfl⟩
theorem mL_190 : ML "SowingBoardsLaw" 190 y_X11_guess := Or.inl (vtb_at 1162 (by decide +kernel) rfl)
theorem my_X12_guess : MY y_X12_guess prog_14_method_94_code 5 (some .int) 0 := ⟨vtb_at 1865 (by decide +kernel) rfl, vtb_at 152 (by decide +kernel) rfl, ⟨by decide, by decide, by decide +kernel⟩, by decide⟩
theorem mi_X12_guess : MI y_X12_guess := ⟨vtb_at 1863 (by decide +kernel) rfl, vtb_at 1864 (by decide +kernel) rfl⟩
theorem mL_193 : ML "SowingBoardsLaw" 193 y_X12_guess := Or.inl (vtb_at 1862 (by decide +kernel) rfl)
theorem my_X11_tries : MY y_X11_tries prog_1_method_63_code 7 (some .int) 0 := ⟨vtb_at 1190 (by decide +kernel) rfl, vtb_at 139 (by decide +kernel) rfl, ⟨by decide, by decide, by decide +kernel⟩, by decide⟩
theorem mi_X11_tries : MI y_X11_tries := ⟨vtb_at 1188 (by decide +kernel) rfl, vtb_at 1189 (by decide +kernel) rfl⟩
theorem mL_194 : ML "SowingBoardsLaw" 194 y_X11_tries := Or.inl (vtb_at 1187 (by decide +kernel) rfl)
theorem my_X12_tries : MY y_X12_tries prog_14_method_95_code 7 (some .int) 0 := ⟨vtb_at 1877 (by decide +kernel) rfl, vtb_at 152 (by decide +kernel) rfl, ⟨by decide, by decide, by decide +kernel⟩, by decide⟩
theorem mi_X12_tries : MI y_X12_tries := ⟨vtb_at 1875 (by decide +kernel) rfl, vtb_at 1876 (by decide +kernel) rfl⟩
theorem mL_197 : ML "SowingBoardsLaw" 197 y_X12_tries := Or.inl (vtb_at 1874 (by decide +kernel) rfl)
theorem my_X11_bids : MY y_X11_bids prog_1_method_65_code 5 (some .int) 1 := ⟨vtb_at 1198 (by decide +kernel) rfl, vtb_at 139 (by decide +kernel) rfl, ⟨by decide, by decide, by decide +kernel⟩, by decide⟩
theorem mi_X11_bids : MI y_X11_bids := ⟨vtb_at 1196 (by decide +kernel) rfl, vtb_at 1197 (by decide +kernel) rfl⟩
theorem mL_198 : ML "SowingBoardsLaw" 198 y_X11_bids := Or.inl (vtb_at 1195 (by decide +kernel) rfl)
theorem my_X12_bids : MY y_X12_bids prog_14_method_98_code 5 (some .int) 1 := ⟨vtb_at 1881 (by decide +kernel) rfl, vtb_at 152 (by decide +kernel) rfl, ⟨by decide, by decide, by decide +kernel⟩, by decide⟩
theorem mi_X12_bids : MI y_X12_bids := ⟨vtb_at 1879 (by decide +kernel) rfl, vtb_at 1880 (by decide +kernel) rfl⟩
theorem mL_201 : ML "SowingBoardsLaw" 201 y_X12_bids := Or.inl (vtb_at 1878 (by decide +kernel) rfl)
theorem my_X11_other : MY y_X11_other prog_1_method_68_code 4 (some .int) 0 := ⟨vtb_at 1208 (by decide +kernel) rfl, vtb_at 139 (by decide +kernel) rfl, ⟨by decide, by decide, by decide +kernel⟩, by decide⟩
theorem mi_X11_other : MI y_X11_other := ⟨vtb_at 1206 (by decide +kernel) rfl, vtb_at 1207 (by decide +kernel) rfl⟩
theorem mL_202 : ML "SowingBoardsLaw" 202 y_X11_other := Or.inl (vtb_at 1205 (by decide +kernel) rfl)
theorem my_X12_other : MY y_X12_other prog_14_method_101_code 4 (some .int) 0 := ⟨vtb_at 1891 (by decide +kernel) rfl, vtb_at 152 (by decide +kernel) rfl, ⟨by decide, by decide, by decide +kernel⟩, by decide⟩
theorem mi_X12_other : MI y_X12_other := ⟨vtb_at 1889 (by decide +kernel) rfl, vtb_at 1890 (by decide +kernel) rfl⟩
theorem mL_205 : ML "SowingBoardsLaw" 205 y_X12_other := Or.inl (vtb_at 1888 (by decide +kernel) rfl)
theorem my_X11_years : MY y_X11_years prog_1_method_70_code 5 (some .int) 2 := ⟨vtb_at 1216 (by decide +kernel) rfl, vtb_at 139 (by decide +kernel) rfl, ⟨by decide, by decide, by decide +kernel⟩, by decide⟩
theorem mi_X11_years : MI y_X11_years := ⟨vtb_at 1214 (by decide +kernel) rfl, vtb_at 1215 (by decide +kernel) rfl⟩
theorem mL_206 : ML "SowingBoardsLaw" 206 y_X11_years := Or.inl (vtb_at 1213 (by decide +kernel) rfl)
theorem my_X12_years : MY y_X12_years prog_14_method_104_code 8 (some .int) 2 := ⟨vtb_at 1903 (by decide +kernel) rfl, vtb_at 152 (by decide +kernel) rfl, ⟨by decide, by decide, by decide +kernel⟩, by decide⟩
theorem mi_X12_years : MI y_X12_years := ⟨vtb_at 1901 (by decide +kernel) rfl, vtb_at 1902 (by decide +kernel) rfl⟩
theorem mL_209 : ML "SowingBoardsLaw" 209 y_X12_years := Or.inl (vtb_at 1900 (by decide +kernel) rfl)
theorem my_X11_keep : MY y_X11_keep prog_1_method_73_code 2 (some .boolean) 1 := ⟨vtb_at 1233 (by decide +kernel) rfl, vtb_at 139 (by decide +kernel) rfl, ⟨by decide, by decide, by decide +kernel⟩, by decide⟩
theorem mi_X11_keep : MI y_X11_keep := ⟨vtb_at 1231 (by decide +kernel) rfl, vtb_at 1232 (by decide +kernel) rfl⟩
theorem mL_210 : ML "SowingBoardsLaw" 210 y_X11_keep := Or.inl (vtb_at 1230 (by decide +kernel) rfl)
theorem my_X12_keep : MY y_X12_keep prog_14_method_105_code 2 (some .boolean) 1 := ⟨vtb_at 1916 (by decide +kernel) rfl, vtb_at 152 (by decide +kernel) rfl, ⟨by decide, by decide, by decide +kernel⟩, by decide⟩
theorem mi_X12_keep : MI y_X12_keep := ⟨vtb_at 1914 (by decide +kernel) rfl, vtb_at 1915 (by decide +kernel) rfl⟩
theorem mL_213 : ML "SowingBoardsLaw" 213 y_X12_keep := Or.inl (vtb_at 1913 (by decide +kernel) rfl)
theorem my_X11_again : MY y_X11_again prog_1_method_74_code 2 (some .boolean) 1 := ⟨vtb_at 1237 (by decide +kernel) rfl, vtb_at 139 (by decide +kernel) rfl, ⟨by decide, by decide, by decide +kernel⟩, by decide⟩
theorem mi_X11_again : MI y_X11_again := ⟨vtb_at 1235 (by decide +kernel) rfl, vtb_at 1236 (by decide +kernel) rfl⟩
theorem mL_214 : ML "SowingBoardsLaw" 214 y_X11_again := Or.inl (vtb_at 1234 (by decide +kernel) rfl)
theorem my_X12_again : MY y_X12_again prog_14_method_106_code 3 (some .boolean) 1 := ⟨vtb_at 1920 (by decide +kernel) rfl, vtb_at 152 (by decide +kernel) rfl, ⟨by decide, by decide, by decide +kernel⟩, by decide⟩
theorem mi_X12_again : MI y_X12_again := ⟨vtb_at 1918 (by decide +kernel) rfl, vtb_at 1919 (by decide +kernel) rfl⟩
theorem mL_217 : ML "SowingBoardsLaw" 217 y_X12_again := Or.inl (vtb_at 1917 (by decide +kernel) rfl)
theorem my_X11_count : MY y_X11_count prog_1_method_75_code 2 (some .int) 1 := ⟨vtb_at 1241 (by decide +kernel) rfl, vtb_at 139 (by decide +kernel) rfl, ⟨by decide, by decide, by decide +kernel⟩, by decide⟩
theorem mi_X11_count : MI y_X11_count := ⟨vtb_at 1239 (by decide +kernel) rfl, vtb_at 1240 (by decide +kernel) rfl⟩
theorem mL_218 : ML "SowingBoardsLaw" 218 y_X11_count := Or.inl (vtb_at 1238 (by decide +kernel) rfl)
theorem my_X12_count : MY y_X12_count prog_14_method_107_code 2 (some .int) 1 := ⟨vtb_at 1924 (by decide +kernel) rfl, vtb_at 152 (by decide +kernel) rfl, ⟨by decide, by decide, by decide +kernel⟩, by decide⟩
theorem mi_X12_count : MI y_X12_count := ⟨vtb_at 1922 (by decide +kernel) rfl, vtb_at 1923 (by decide +kernel) rfl⟩
theorem mL_221 : ML "SowingBoardsLaw" 221 y_X12_count := Or.inl (vtb_at 1921 (by decide +kernel) rfl)
theorem my_X12_row : MY y_X12_row prog_14_method_108_code 2 (some .long) 1 := ⟨vtb_at 1928 (by decide +kernel) rfl, vtb_at 152 (by decide +kernel) rfl, ⟨by decide, by decide, by decide +kernel⟩, by decide⟩
theorem mi_X12_row : MI y_X12_row := ⟨vtb_at 1926 (by decide +kernel) rfl, vtb_at 1927 (by decide +kernel) rfl⟩
theorem mL_224 : ML "SowingBoardsLaw" 224 y_X12_row := Or.inl (vtb_at 1925 (by decide +kernel) rfl)
/-! rows of the law's own walk -/
def Lx (p : Program) (l : Launch) (e : Env) (s : State) (m : MethodId) (below : List Frame) (meth : Method) (c : Code) (b kc ks : Nat) : Cx := (p, l, e, room_1, s, m, #[Value.ref b], below, meth, c, 8, kc, ks, lw_Z below #[Value.ref b] s)
def Bs (p : Program) (l : Launch) (s : State) (m : MethodId) (meth : Method) (c : Code) (b L : Nat) (xs : Nat → Int32) (ρ : Nat → Nat) (cs : Nat → ClassId) (G : va_G) (a : Nat → Nat) : Prop :=
  (p.tables.exec = Jvm.exec) ∧ (c.code = code) ∧ (meth.sig.returnType = ret) ∧ (c.maxLocals = 8) ∧ (s.vm.findClass "SowingBoardsLaw" = some m.cls) ∧ (∀ w ∈ lw_tbl, w.before #[Value.ref b] s = true) ∧ (va_X b L xs s s.heap) ∧ (b < s.heap.size) ∧ (meth.locks = false) ∧ (va_K G vcls (tysO cs) s) ∧ (injN ρ) ∧ (Old ρ s s.heap) ∧ (Thr ρ a s s.heap) ∧ (∀ q, A0 ρ q → s.heap.size ≤ q) ∧ (l.stackTraces = false)
theorem Bs.hx {p : Program} {l : Launch} {s : State} {m : MethodId} {meth : Method} {c : Code} {b L : Nat} {xs : Nat → Int32} {ρ : Nat → Nat} {cs : Nat → ClassId} {G : va_G} {a : Nat → Nat} (B0 : Bs p l s m meth c b L xs ρ cs G a) : p.tables.exec = Jvm.exec := B0.1
theorem Bs.hb {p : Program} {l : Launch} {s : State} {m : MethodId} {meth : Method} {c : Code} {b L : Nat} {xs : Nat → Int32} {ρ : Nat → Nat} {cs : Nat → ClassId} {G : va_G} {a : Nat → Nat} (B0 : Bs p l s m meth c b L xs ρ cs G a) : c.code = code := B0.2.1
theorem Bs.hr {p : Program} {l : Launch} {s : State} {m : MethodId} {meth : Method} {c : Code} {b L : Nat} {xs : Nat → Int32} {ρ : Nat → Nat} {cs : Nat → ClassId} {G : va_G} {a : Nat → Nat} (B0 : Bs p l s m meth c b L xs ρ cs G a) : meth.sig.returnType = ret := B0.2.2.1
theorem Bs.hml {p : Program} {l : Launch} {s : State} {m : MethodId} {meth : Method} {c : Code} {b L : Nat} {xs : Nat → Int32} {ρ : Nat → Nat} {cs : Nat → ClassId} {G : va_G} {a : Nat → Nat} (B0 : Bs p l s m meth c b L xs ρ cs G a) : c.maxLocals = 8 := B0.2.2.2.1
theorem Bs.hown {p : Program} {l : Launch} {s : State} {m : MethodId} {meth : Method} {c : Code} {b L : Nat} {xs : Nat → Int32} {ρ : Nat → Nat} {cs : Nat → ClassId} {G : va_G} {a : Nat → Nat} (B0 : Bs p l s m meth c b L xs ρ cs G a) : s.vm.findClass "SowingBoardsLaw" = some m.cls := B0.2.2.2.2.1
theorem Bs.hts {p : Program} {l : Launch} {s : State} {m : MethodId} {meth : Method} {c : Code} {b L : Nat} {xs : Nat → Int32} {ρ : Nat → Nat} {cs : Nat → ClassId} {G : va_G} {a : Nat → Nat} (B0 : Bs p l s m meth c b L xs ρ cs G a) : ∀ w ∈ lw_tbl, w.before #[Value.ref b] s = true := B0.2.2.2.2.2.1
theorem Bs.hX {p : Program} {l : Launch} {s : State} {m : MethodId} {meth : Method} {c : Code} {b L : Nat} {xs : Nat → Int32} {ρ : Nat → Nat} {cs : Nat → ClassId} {G : va_G} {a : Nat → Nat} (B0 : Bs p l s m meth c b L xs ρ cs G a) : va_X b L xs s s.heap := B0.2.2.2.2.2.2.1
theorem Bs.hbl {p : Program} {l : Launch} {s : State} {m : MethodId} {meth : Method} {c : Code} {b L : Nat} {xs : Nat → Int32} {ρ : Nat → Nat} {cs : Nat → ClassId} {G : va_G} {a : Nat → Nat} (B0 : Bs p l s m meth c b L xs ρ cs G a) : b < s.heap.size := B0.2.2.2.2.2.2.2.1
theorem Bs.hlk {p : Program} {l : Launch} {s : State} {m : MethodId} {meth : Method} {c : Code} {b L : Nat} {xs : Nat → Int32} {ρ : Nat → Nat} {cs : Nat → ClassId} {G : va_G} {a : Nat → Nat} (B0 : Bs p l s m meth c b L xs ρ cs G a) : meth.locks = false := B0.2.2.2.2.2.2.2.2.1
theorem Bs.hK {p : Program} {l : Launch} {s : State} {m : MethodId} {meth : Method} {c : Code} {b L : Nat} {xs : Nat → Int32} {ρ : Nat → Nat} {cs : Nat → ClassId} {G : va_G} {a : Nat → Nat} (B0 : Bs p l s m meth c b L xs ρ cs G a) : va_K G vcls (tysO cs) s := B0.2.2.2.2.2.2.2.2.2.1
theorem Bs.hin {p : Program} {l : Launch} {s : State} {m : MethodId} {meth : Method} {c : Code} {b L : Nat} {xs : Nat → Int32} {ρ : Nat → Nat} {cs : Nat → ClassId} {G : va_G} {a : Nat → Nat} (B0 : Bs p l s m meth c b L xs ρ cs G a) : injN ρ := B0.2.2.2.2.2.2.2.2.2.2.1
theorem Bs.hO {p : Program} {l : Launch} {s : State} {m : MethodId} {meth : Method} {c : Code} {b L : Nat} {xs : Nat → Int32} {ρ : Nat → Nat} {cs : Nat → ClassId} {G : va_G} {a : Nat → Nat} (B0 : Bs p l s m meth c b L xs ρ cs G a) : Old ρ s s.heap := B0.2.2.2.2.2.2.2.2.2.2.2.1
theorem Bs.hT {p : Program} {l : Launch} {s : State} {m : MethodId} {meth : Method} {c : Code} {b L : Nat} {xs : Nat → Int32} {ρ : Nat → Nat} {cs : Nat → ClassId} {G : va_G} {a : Nat → Nat} (B0 : Bs p l s m meth c b L xs ρ cs G a) : Thr ρ a s s.heap := B0.2.2.2.2.2.2.2.2.2.2.2.2.1
theorem Bs.hA {p : Program} {l : Launch} {s : State} {m : MethodId} {meth : Method} {c : Code} {b L : Nat} {xs : Nat → Int32} {ρ : Nat → Nat} {cs : Nat → ClassId} {G : va_G} {a : Nat → Nat} (B0 : Bs p l s m meth c b L xs ρ cs G a) : ∀ q, A0 ρ q → s.heap.size ≤ q := B0.2.2.2.2.2.2.2.2.2.2.2.2.2.1
theorem Bs.hfl {p : Program} {l : Launch} {s : State} {m : MethodId} {meth : Method} {c : Code} {b L : Nat} {xs : Nat → Int32} {ρ : Nat → Nat} {cs : Nat → ClassId} {G : va_G} {a : Nat → Nat} (B0 : Bs p l s m meth c b L xs ρ cs G a) : l.stackTraces = false := B0.2.2.2.2.2.2.2.2.2.2.2.2.2.2
abbrev lo (ρ : Nat → Nat) (b : Nat) (I : Int32) : List (Nat × Value) := [(4, .int I), (3, .ref (ρ 161)), (2, .ref (ρ 119)), (1, .ref (ρ 75)), (0, .ref b)]
section LW
variable {p : Program} {l : Launch} {e : Env} {s : State} {m : MethodId} {below : List Frame} {meth : Method} {c : Code} {b L : Nat} {xs : Nat → Int32} {ρ : Nat → Nat} {cs : Nat → ClassId} {G : va_G} {a : Nat → Nat}
theorem Bs.okx (B0 : Bs p l s m meth c b L xs ρ cs G a) {kc ks : Nat} (h1 : kc ≤ 601024) (h2 : ks ≤ 7293034) : Okx l ρ cs G (Lx p l e s m below meth c b kc ks) code "SowingBoardsLaw" 1000 :=
  ⟨rfl, B0.hx, B0.hb, B0.hml, B0.hown, st_tb B0.hts, B0.hK, B0.hin, ⟨by decide, by decide, h1, h2⟩, B0.hO⟩
theorem Bs.nb (B0 : Bs p l s m meth c b L xs ρ cs G a) : ¬ A0 ρ b := fun h => absurd B0.hbl (Nat.not_lt.mpr (B0.hA _ h))
variable {kc ks pc : Nat} {Lo : List (Nat × Value)} {st : List Value} {w : Wd}
theorem g_sld (B0 : Bs p l s m meth c b L xs ρ cs G a) {i : Int32} (hi : vp_in i L) (hd : decode code pc = .ok (.iaload, 1))
    (kk : gG ρ cs G (Lx p l e s m below meth c b kc ks) (pc + 1) Lo (.int (xs i.toNatClampNeg) :: st) w) : gG ρ cs G (Lx p l e s m below meth c b kc ks) pc Lo (.int i :: .ref b :: st) w := by
  intro H locs ls hP hS hl
  exact va_sld (A := A0 ρ) B0.hx B0.hb B0.hX B0.hbl B0.nb hS hi hd (kk H locs ls hP hS hl)
theorem g_slen (B0 : Bs p l s m meth c b L xs ρ cs G a) (hd : decode code pc = .ok (.arraylength, 1))
    (kk : gG ρ cs G (Lx p l e s m below meth c b kc ks) (pc + 1) Lo (.int (Int32.ofNat L) :: st) w) : gG ρ cs G (Lx p l e s m below meth c b kc ks) pc Lo (.ref b :: st) w := by
  intro H locs ls hP hS hl
  exact va_slen (A := A0 ρ) B0.hx B0.hb B0.hX B0.hbl B0.nb hS hd (kk H locs ls hP hS hl)
theorem g_lend (B0 : Bs p l s m meth c b L xs ρ cs G a) (h1 : kc ≤ 601024) (h2 : ks ≤ 7293034) (hd : decode code pc = .ok (.ireturn, 1)) : gG ρ cs G (Lx p l e s m below meth c b kc ks) pc Lo [.int 1] w := by
  intro H locs ls hP hS hl
  refine W.widen (k := 601024) (n := 7293034) h1 h2 ?_
  refine va_forget (fun q hq => B0.hA _ (hS.2.2 q hq)) ?_
  exact lw_ret B0.hx B0.hb B0.hr B0.hlk hd
theorem g_lcall {X : Cx} {l0 : Launch} {cc : ByteArray} {own : String} {d : Nat} (h : Okx l0 ρ cs G X cc own d) {idx n maxL d' : Nat} {y : MethodName} {bytes : ByteArray} {ty : FieldType} {c' f : Nat} (i : Nat) {As stk : List Value} {r : Int32} {w1 : Wd}
    (hy : MY y bytes maxL (some ty) n) (hm : MI y) (hl0 : ML own idx y) (hs : sh i = (7, c', f)) (hiN : i < vN) (hcl : (vcls[c']?).map (fun q => q.1) = some y.cls) (hAs : As.length = n) (hst : stk = As.reverse ++ .ref (ρ i) :: st) (hcat : (st.map fun v => v.category).sum ≤ 8) (hdd : d' < d) (hd : decode cc pc = .ok (.invokevirtual idx, 3))
    (hS : CtI l0 ρ cs G y bytes maxL ty d' (.ref (ρ i) :: As) w r w1) (kk : gG ρ cs G X (pc + 3) Lo (.int r :: st) w1) : gG ρ cs G X pc Lo stk w :=
  g_callVI (α := Int32 × Wd) (rr := (r, w1)) (o := some (r, w1)) (K := fun x z => some (x, z)) h i hy hm hl0 hs hiN hcl hAs hst hcat hdd hd rfl (fun r' w1' q => by cases q; exact hS) (fun r' w1' q => by cases q; exact kk)
theorem g_lcallJ {X : Cx} {l0 : Launch} {cc : ByteArray} {own : String} {d : Nat} (h : Okx l0 ρ cs G X cc own d) {idx n maxL d' : Nat} {y : MethodName} {bytes : ByteArray} {c' f : Nat} (i : Nat) {As stk : List Value} {r : Int64} {w1 : Wd}
    (hy : MY y bytes maxL (some .long) n) (hm : MI y) (hl0 : ML own idx y) (hs : sh i = (7, c', f)) (hiN : i < vN) (hcl : (vcls[c']?).map (fun q => q.1) = some y.cls) (hAs : As.length = n) (hst : stk = As.reverse ++ .ref (ρ i) :: st) (hcat : (st.map fun v => v.category).sum ≤ 8) (hdd : d' < d) (hd : decode cc pc = .ok (.invokevirtual idx, 3))
    (hS : CtJ l0 ρ cs G y bytes maxL d' (.ref (ρ i) :: As) w r w1) (kk : gG ρ cs G X (pc + 3) Lo (.long r :: st) w1) : gG ρ cs G X pc Lo stk w :=
  g_callVJ (α := Int64 × Wd) (rr := (r, w1)) (o := some (r, w1)) (K := fun x z => some (x, z)) h i hy hm hl0 hs hiN hcl hAs hst hcat hdd hd rfl (fun r' w1' q => by cases q; exact hS) (fun r' w1' q => by cases q; exact kk)
theorem wsL_good {y : MethodName} {cc : ByteArray} {hh : List (Nat × Nat × Nat × Nat)} (h : Cond.codeWith y cc 4 (some .int) hh ∈ vtb) : GoodIn vtb (wsL y cc hh) := by
  intro w hw
  rcases List.mem_cons.mp hw with rfl | hw
  · exact ⟨h, good_of_word (List.mem_filter.mp h).2⟩
  · exact ⟨hw, good_of_word (List.mem_filter.mp hw).2⟩
/-- the law's own catching methods: they may make one object -/
theorem g_lcatch (B0 : Bs p l s m meth c b L xs ρ cs G a) {idx : Nat} {y : MethodName} {bytes : ByteArray} {hh : List (Nat × Nat × Nat × Nat)} {As stk : List Value} {r : Int32} {w1 : Wd}
    (hcd : Cond.codeWith y bytes 4 (some .int) hh ∈ vtb) (hlk : Cond.methodLink "SowingBoardsLaw" idx y ∈ vtb) (hsta : Cond.static y ∈ vtb) (hini : Cond.initialized y.cls ∈ vtb) (hyd : y.cls ≠ "java/lang/invoke/MethodHandle" ∧ y.cls ≠ "java/lang/invoke/VarHandle" ∧ (parseMethodDescriptor y.desc).map (fun d => d.parameters.length) = some 3) (hAs : As.length = 3) (hst : stk = As.reverse ++ st) (hcat : (st.map fun v => v.category).sum ≤ 8) (h1 : kc + 1 ≤ 601024) (h2 : ks + 6 ≤ 7293034) (hd : decode code pc = .ok (.invokestatic idx, 3))
    (hS : CtL l ρ cs G a y bytes hh As w r w1) (kk : gG ρ cs G (Lx p l e s m below meth c b (kc + 1) (ks + 6)) (pc + 3) Lo (.int r :: st) w1) : gG ρ cs G (Lx p l e s m below meth c b kc ks) pc Lo stk w := by
  intro H locs ls hP hS2 hl
  have hts := st_tb B0.hts
  have hp : PreS s H (va_Pc As (WldT ρ cs G a w)) As := ⟨wldT_blind, fun U hU hW => ⟨rfl, ⟨by rw [hU]; exact hP, va_K.moved hW.alike B0.hK, by rw [hU]; exact (B0.hO.kept hS2.2.1).warm hW⟩, by rw [hU]; exact (B0.hT.kept hS2.2.1).warm hW⟩⟩
  have hgo : GoodIn vtb (va_wsS "SowingBoardsLaw" idx y (wsL y bytes hh)) := by
    intro w hw
    have hg : ∀ w, w ∈ vtb → w ∈ vtb ∧ (((w.onTables && w.keeps) = true) ∨ ∃ ty, w = Cond.arrayClass ty) := fun w hw => ⟨hw, good_of_word (List.mem_filter.mp hw).2⟩
    unfold va_wsS at hw
    rcases List.mem_append.mp hw with hw | hw
    · simp only [List.mem_cons, List.not_mem_nil, or_false] at hw
      rcases hw with rfl | rfl | rfl <;> first | exact hg _ hlk | exact hg _ hsta | exact hg _ hini
    · exact wsL_good hcd w hw
  have hrun : va_Run p l e room_1 s m #[Value.ref b] below meth c H locs kc ks 1 6 (F0 m pc ls stk) st (va_Qi (fun (r' : Int32) (_ : Unit) => r' = r) (fun _ t => Wld ρ cs G w1 t) (A0 ρ) As.toArray) (A0 ρ) :=
    vx_runSW ⟨B0.hx, B0.hb, B0.hml, B0.hown, hts⟩ hS (vx_cwSW 3 hts hgo rfl rfl rfl hyd ⟨by decide, by decide⟩) hp rfl hAs hl.1 hst (lv_room hcat) hd ⟨h1, h2⟩
  refine va_calli hrun hS2 (fun q _ z => z) (fun q z => z) (fun r2 u t H1 locs1 ht hvm hw hB hz hk hS3 => ?_)
  have hw : r2 = r := hw
  subst hw
  exact kk H1 locs1 ls (by rw [← ht]; exact hB.1) hS3 hl
end LW
section LC
variable {p : Program} {l : Launch} {e : Env} {s : State} {m : MethodId} {below : List Frame} {meth : Method} {c : Code} {b L : Nat} {xs : Nat → Int32} {ρ : Nat → Nat} {cs : Nat → ClassId} {G : va_G} {a : Nat → Nat} {kc ks : Nat} {w : Wd} {B : Nat} {I : Int32}
theorem lc_0 (B0 : Bs p l s m meth c b L xs ρ cs G a) (hc1 : kc ≤ 601024) (hc2 : ks ≤ 7293034) (h1 : vp_in (I + 1) L) (hB : B < 90000) (hR : Rel B w) (kk : ∀ w2, Rel (B + 108) w2 → gG ρ cs G (Lx p l e s m below meth c b kc ks) 1380 (lo ρ b I) [] w2) : gG ρ cs G (Lx p l e s m below meth c b kc ks) 244 (lo ρ b I) [] w := by
  have h := B0.okx (e := e) (below := below) hc1 hc2
  obtain ⟨r, w1, w2, e1, e2, hR2⟩ := (k_sign ((xs (I + 1).toNatClampNeg))) B w hB hR
  refine g_aload_n h 3 tL_244 rfl ?_
  refine g_aload_n h 4 tL_245 rfl ?_
  refine g_iload h 0 tL_246 rfl ?_
  refine g_iconst (v := 1) h tL_248 (by decide) ?_
  refine g_iadd h tL_249 ?_
  refine g_sld B0 h1 tL_250 ?_
  refine g_lcall h 75 (As := [.int (xs (I + 1).toNatClampNeg)]) (st := []) my_X11_sign mi_X11_sign mL_26 rfl (by decide) rfl rfl rfl (Nat.le_of_ble_eq_true rfl) (by decide) tL_251 (S_X11_sign B0.hin e1) ?_
  refine g_aload_n h 2 tL_254 rfl ?_
  refine g_aload_n h 4 tL_255 rfl ?_
  refine g_iload h 0 tL_256 rfl ?_
  refine g_iconst (v := 1) h tL_258 (by decide) ?_
  refine g_iadd h tL_259 ?_
  refine g_sld B0 h1 tL_260 ?_
  refine g_lcall h 119 (As := [.int (xs (I + 1).toNatClampNeg)]) (st := [.int r]) my_X12_sign mi_X12_sign mL_29 rfl (by decide) rfl rfl rfl (Nat.le_of_ble_eq_true rfl) (by decide) tL_261 (S_X12_sign B0.hin e2) ?_
  exact g_icmp_eq (B := some ()) (E := none) (rr := ()) (tgt := 1380) h tL_264 (by decide) (if_pos rfl) (fun _ => kk _ hR2) (fun q => nomatch q)
theorem lc_1 (B0 : Bs p l s m meth c b L xs ρ cs G a) (hc1 : kc ≤ 601024) (hc2 : ks ≤ 7293034) (h1 : vp_in (I + 1) L) (hB : B < 90000) (hR : Rel B w) (kk : ∀ w2, Rel (B + 108) w2 → gG ρ cs G (Lx p l e s m below meth c b kc ks) 1380 (lo ρ b I) [] w2) : gG ρ cs G (Lx p l e s m below meth c b kc ks) 269 (lo ρ b I) [] w := by
  have h := B0.okx (e := e) (below := below) hc1 hc2
  obtain ⟨r, w1, w2, e1, e2, hR2⟩ := (k_end ((xs (I + 1).toNatClampNeg))) B w hB hR
  refine g_aload_n h 3 tL_269 rfl ?_
  refine g_aload_n h 4 tL_270 rfl ?_
  refine g_iload h 0 tL_271 rfl ?_
  refine g_iconst (v := 1) h tL_273 (by decide) ?_
  refine g_iadd h tL_274 ?_
  refine g_sld B0 h1 tL_275 ?_
  refine g_lcall h 75 (As := [.int (xs (I + 1).toNatClampNeg)]) (st := []) my_X11_end mi_X11_end mL_30 rfl (by decide) rfl rfl rfl (Nat.le_of_ble_eq_true rfl) (by decide) tL_276 (S_X11_end B0.hin e1) ?_
  refine g_aload_n h 2 tL_279 rfl ?_
  refine g_aload_n h 4 tL_280 rfl ?_
  refine g_iload h 0 tL_281 rfl ?_
  refine g_iconst (v := 1) h tL_283 (by decide) ?_
  refine g_iadd h tL_284 ?_
  refine g_sld B0 h1 tL_285 ?_
  refine g_lcall h 119 (As := [.int (xs (I + 1).toNatClampNeg)]) (st := [.int r]) my_X12_end mi_X12_end mL_34 rfl (by decide) rfl rfl rfl (Nat.le_of_ble_eq_true rfl) (by decide) tL_286 (S_X12_end B0.hin e2) ?_
  exact g_icmp_eq (B := some ()) (E := none) (rr := ()) (tgt := 1380) h tL_289 (by decide) (if_pos rfl) (fun _ => kk _ hR2) (fun q => nomatch q)
theorem lc_2 (B0 : Bs p l s m meth c b L xs ρ cs G a) (hc1 : kc ≤ 601024) (hc2 : ks ≤ 7293034) (hB : B < 90000) (hR : Rel B w) (kk : ∀ w2, Rel (B + 108) w2 → gG ρ cs G (Lx p l e s m below meth c b kc ks) 1380 (lo ρ b I) [] w2) : gG ρ cs G (Lx p l e s m below meth c b kc ks) 294 (lo ρ b I) [] w := by
  have h := B0.okx (e := e) (below := below) hc1 hc2
  obtain ⟨r, w1, w2, e1, e2, hR2⟩ := k_board B w hB hR
  refine g_aload_n h 3 tL_294 rfl ?_
  refine g_lcall h 75 (As := []) (st := []) my_X11_board mi_X11_board mL_35 rfl (by decide) rfl rfl rfl (Nat.le_of_ble_eq_true rfl) (by decide) tL_295 (S_X11_board B0.hin e1) ?_
  refine g_aload_n h 2 tL_298 rfl ?_
  refine g_lcall h 119 (As := []) (st := [.int r]) my_X12_board mi_X12_board mL_39 rfl (by decide) rfl rfl rfl (Nat.le_of_ble_eq_true rfl) (by decide) tL_299 (S_X12_board B0.hin e2) ?_
  exact g_icmp_eq (B := some ()) (E := none) (rr := ()) (tgt := 1380) h tL_302 (by decide) (if_pos rfl) (fun _ => kk _ hR2) (fun q => nomatch q)
theorem lc_3 (B0 : Bs p l s m meth c b L xs ρ cs G a) (hc1 : kc ≤ 601024) (hc2 : ks ≤ 7293034) (hB : B < 90000) (hR : Rel B w) (kk : ∀ w2, Rel (B + 108) w2 → gG ρ cs G (Lx p l e s m below meth c b kc ks) 1380 (lo ρ b I) [] w2) : gG ρ cs G (Lx p l e s m below meth c b kc ks) 307 (lo ρ b I) [] w := by
  have h := B0.okx (e := e) (below := below) hc1 hc2
  obtain ⟨r, w1, w2, e1, e2, hR2⟩ := k_laws B w hB hR
  refine g_aload_n h 3 tL_307 rfl ?_
  refine g_lcall h 75 (As := []) (st := []) my_X11_laws mi_X11_laws mL_40 rfl (by decide) rfl rfl rfl (Nat.le_of_ble_eq_true rfl) (by decide) tL_308 (S_X11_laws B0.hin e1) ?_
  refine g_aload_n h 2 tL_311 rfl ?_
  refine g_lcall h 119 (As := []) (st := [.int r]) my_X12_laws mi_X12_laws mL_43 rfl (by decide) rfl rfl rfl (Nat.le_of_ble_eq_true rfl) (by decide) tL_312 (S_X12_laws B0.hin e2) ?_
  exact g_icmp_eq (B := some ()) (E := none) (rr := ()) (tgt := 1380) h tL_315 (by decide) (if_pos rfl) (fun _ => kk _ hR2) (fun q => nomatch q)
theorem lc_4 (B0 : Bs p l s m meth c b L xs ρ cs G a) (hc1 : kc ≤ 601024) (hc2 : ks ≤ 7293034) (hB : B < 90000) (hR : Rel B w) (kk : ∀ w2, Rel (B + 108) w2 → gG ρ cs G (Lx p l e s m below meth c b kc ks) 1380 (lo ρ b I) [] w2) : gG ρ cs G (Lx p l e s m below meth c b kc ks) 320 (lo ρ b I) [] w := by
  have h := B0.okx (e := e) (below := below) hc1 hc2
  obtain ⟨r, w1, w2, e1, e2, hR2⟩ := call_rule B w hB hR
  refine g_aload_n h 3 tL_320 rfl ?_
  refine g_lcall h 75 (As := []) (st := []) my_X11_rule mi_X11_rule mL_44 rfl (by decide) rfl rfl rfl (Nat.le_of_ble_eq_true rfl) (by decide) tL_321 (S_X11_rule B0.hin e1) ?_
  refine g_aload_n h 2 tL_324 rfl ?_
  refine g_lcall h 119 (As := []) (st := [.int r]) my_X12_rule mi_X12_rule mL_47 rfl (by decide) rfl rfl rfl (Nat.le_of_ble_eq_true rfl) (by decide) tL_325 (S_X12_rule B0.hin e2) ?_
  exact g_icmp_eq (B := some ()) (E := none) (rr := ()) (tgt := 1380) h tL_328 (by decide) (if_pos rfl) (fun _ => kk _ hR2) (fun q => nomatch q)
theorem lc_7 (B0 : Bs p l s m meth c b L xs ρ cs G a) (hc1 : kc ≤ 601024) (hc2 : ks ≤ 7293034) (h1 : vp_in (I + 1) L) (h2 : vp_in (I + 2) L) (h3 : vp_in (I + 3) L) (h4 : vp_in (I + 4) L) (hB : B < 90000) (hR : Rel B w) (kk : ∀ w2, Rel (B + 108) w2 → gG ρ cs G (Lx p l e s m below meth c b kc ks) 1380 (lo ρ b I) [] w2) : gG ρ cs G (Lx p l e s m below meth c b kc ks) 445 (lo ρ b I) [] w := by
  have h := B0.okx (e := e) (below := below) hc1 hc2
  obtain ⟨r, w1, w2, e1, e2, hR2⟩ := (k_sheet ((xs (I + 1).toNatClampNeg)) ((xs (I + 2).toNatClampNeg)) ((xs (I + 3).toNatClampNeg)) ((xs (I + 4).toNatClampNeg))) B w hB hR
  refine g_aload_n h 3 tL_445 rfl ?_
  refine g_aload_n h 4 tL_446 rfl ?_
  refine g_iload h 0 tL_447 rfl ?_
  refine g_iconst (v := 1) h tL_449 (by decide) ?_
  refine g_iadd h tL_450 ?_
  refine g_sld B0 h1 tL_451 ?_
  refine g_aload_n h 4 tL_452 rfl ?_
  refine g_iload h 0 tL_453 rfl ?_
  refine g_iconst (v := 2) h tL_455 (by decide) ?_
  refine g_iadd h tL_456 ?_
  refine g_sld B0 h2 tL_457 ?_
  refine g_aload_n h 4 tL_458 rfl ?_
  refine g_iload h 0 tL_459 rfl ?_
  refine g_iconst (v := 3) h tL_461 (by decide) ?_
  refine g_iadd h tL_462 ?_
  refine g_sld B0 h3 tL_463 ?_
  refine g_aload_n h 4 tL_464 rfl ?_
  refine g_iload h 0 tL_465 rfl ?_
  refine g_iconst (v := 4) h tL_467 (by decide) ?_
  refine g_iadd h tL_468 ?_
  refine g_sld B0 h4 tL_469 ?_
  refine g_lcall h 75 (As := [.int (xs (I + 1).toNatClampNeg), .int (xs (I + 2).toNatClampNeg), .int (xs (I + 3).toNatClampNeg), .int (xs (I + 4).toNatClampNeg)]) (st := []) my_X11_sheet mi_X11_sheet mL_60 rfl (by decide) rfl rfl rfl (Nat.le_of_ble_eq_true rfl) (by decide) tL_470 (S_X11_sheet B0.hin e1) ?_
  refine g_aload_n h 2 tL_473 rfl ?_
  refine g_aload_n h 4 tL_474 rfl ?_
  refine g_iload h 0 tL_475 rfl ?_
  refine g_iconst (v := 1) h tL_477 (by decide) ?_
  refine g_iadd h tL_478 ?_
  refine g_sld B0 h1 tL_479 ?_
  refine g_aload_n h 4 tL_480 rfl ?_
  refine g_iload h 0 tL_481 rfl ?_
  refine g_iconst (v := 2) h tL_483 (by decide) ?_
  refine g_iadd h tL_484 ?_
  refine g_sld B0 h2 tL_485 ?_
  refine g_aload_n h 4 tL_486 rfl ?_
  refine g_iload h 0 tL_487 rfl ?_
  refine g_iconst (v := 3) h tL_489 (by decide) ?_
  refine g_iadd h tL_490 ?_
  refine g_sld B0 h3 tL_491 ?_
  refine g_aload_n h 4 tL_492 rfl ?_
  refine g_iload h 0 tL_493 rfl ?_
  refine g_iconst (v := 4) h tL_495 (by decide) ?_
  refine g_iadd h tL_496 ?_
  refine g_sld B0 h4 tL_497 ?_
  refine g_lcall h 119 (As := [.int (xs (I + 1).toNatClampNeg), .int (xs (I + 2).toNatClampNeg), .int (xs (I + 3).toNatClampNeg), .int (xs (I + 4).toNatClampNeg)]) (st := [.int r]) my_X12_sheet mi_X12_sheet mL_64 rfl (by decide) rfl rfl rfl (Nat.le_of_ble_eq_true rfl) (by decide) tL_498 (S_X12_sheet B0.hin e2) ?_
  exact g_icmp_eq (B := some ()) (E := none) (rr := ()) (tgt := 1380) h tL_501 (by decide) (if_pos rfl) (fun _ => kk _ hR2) (fun q => nomatch q)
theorem lc_8 (B0 : Bs p l s m meth c b L xs ρ cs G a) (hc1 : kc ≤ 601024) (hc2 : ks ≤ 7293034) (h1 : vp_in (I + 1) L) (hB : B < 90000) (hR : Rel B w) (kk : ∀ w2, Rel (B + 108) w2 → gG ρ cs G (Lx p l e s m below meth c b kc ks) 1380 (lo ρ b I) [] w2) : gG ρ cs G (Lx p l e s m below meth c b kc ks) 506 (lo ρ b I) [] w := by
  have h := B0.okx (e := e) (below := below) hc1 hc2
  obtain ⟨r, w1, w2, e1, e2, hR2⟩ := (k_moves ((xs (I + 1).toNatClampNeg))) B w hB hR
  refine g_aload_n h 3 tL_506 rfl ?_
  refine g_aload_n h 4 tL_507 rfl ?_
  refine g_iload h 0 tL_508 rfl ?_
  refine g_iconst (v := 1) h tL_510 (by decide) ?_
  refine g_iadd h tL_511 ?_
  refine g_sld B0 h1 tL_512 ?_
  refine g_lcall h 75 (As := [.int (xs (I + 1).toNatClampNeg)]) (st := []) my_X11_moves mi_X11_moves mL_65 rfl (by decide) rfl rfl rfl (Nat.le_of_ble_eq_true rfl) (by decide) tL_513 (S_X11_moves B0.hin e1) ?_
  refine g_aload_n h 2 tL_516 rfl ?_
  refine g_aload_n h 4 tL_517 rfl ?_
  refine g_iload h 0 tL_518 rfl ?_
  refine g_iconst (v := 1) h tL_520 (by decide) ?_
  refine g_iadd h tL_521 ?_
  refine g_sld B0 h1 tL_522 ?_
  refine g_lcall h 119 (As := [.int (xs (I + 1).toNatClampNeg)]) (st := [.int r]) my_X12_moves mi_X12_moves mL_68 rfl (by decide) rfl rfl rfl (Nat.le_of_ble_eq_true rfl) (by decide) tL_523 (S_X12_moves B0.hin e2) ?_
  exact g_icmp_eq (B := some ()) (E := none) (rr := ()) (tgt := 1380) h tL_526 (by decide) (if_pos rfl) (fun _ => kk _ hR2) (fun q => nomatch q)
theorem lc_9 (B0 : Bs p l s m meth c b L xs ρ cs G a) (hc1 : kc ≤ 601024) (hc2 : ks ≤ 7293034) (h1 : vp_in (I + 1) L) (hB : B < 90000) (hR : Rel B w) (kk : ∀ w2, Rel (B + 108) w2 → gG ρ cs G (Lx p l e s m below meth c b kc ks) 1380 (lo ρ b I) [] w2) : gG ρ cs G (Lx p l e s m below meth c b kc ks) 531 (lo ρ b I) [] w := by
  have h := B0.okx (e := e) (below := below) hc1 hc2
  obtain ⟨r, w1, w2, e1, e2, hR2⟩ := (k_plays ((xs (I + 1).toNatClampNeg))) B w hB hR
  refine g_aload_n h 3 tL_531 rfl ?_
  refine g_aload_n h 4 tL_532 rfl ?_
  refine g_iload h 0 tL_533 rfl ?_
  refine g_iconst (v := 1) h tL_535 (by decide) ?_
  refine g_iadd h tL_536 ?_
  refine g_sld B0 h1 tL_537 ?_
  refine g_lcall h 75 (As := [.int (xs (I + 1).toNatClampNeg)]) (st := []) my_X11_plays mi_X11_plays mL_69 rfl (by decide) rfl rfl rfl (Nat.le_of_ble_eq_true rfl) (by decide) tL_538 (S_X11_plays B0.hin e1) ?_
  refine g_aload_n h 2 tL_541 rfl ?_
  refine g_aload_n h 4 tL_542 rfl ?_
  refine g_iload h 0 tL_543 rfl ?_
  refine g_iconst (v := 1) h tL_545 (by decide) ?_
  refine g_iadd h tL_546 ?_
  refine g_sld B0 h1 tL_547 ?_
  refine g_lcall h 119 (As := [.int (xs (I + 1).toNatClampNeg)]) (st := [.int r]) my_X12_plays mi_X12_plays mL_72 rfl (by decide) rfl rfl rfl (Nat.le_of_ble_eq_true rfl) (by decide) tL_548 (S_X12_plays B0.hin e2) ?_
  exact g_icmp_eq (B := some ()) (E := none) (rr := ()) (tgt := 1380) h tL_551 (by decide) (if_pos rfl) (fun _ => kk _ hR2) (fun q => nomatch q)
theorem lc_10 (B0 : Bs p l s m meth c b L xs ρ cs G a) (hc1 : kc ≤ 601024) (hc2 : ks ≤ 7293034) (hB : B < 90000) (hR : Rel B w) (kk : ∀ w2, Rel (B + 108) w2 → gG ρ cs G (Lx p l e s m below meth c b kc ks) 1380 (lo ρ b I) [] w2) : gG ρ cs G (Lx p l e s m below meth c b kc ks) 556 (lo ρ b I) [] w := by
  have h := B0.okx (e := e) (below := below) hc1 hc2
  obtain ⟨r, w1, w2, e1, e2, hR2⟩ := k_passes B w hB hR
  refine g_aload_n h 3 tL_556 rfl ?_
  refine g_lcall h 75 (As := []) (st := []) my_X11_passes mi_X11_passes mL_73 rfl (by decide) rfl rfl rfl (Nat.le_of_ble_eq_true rfl) (by decide) tL_557 (S_X11_passes B0.hin e1) ?_
  refine g_aload_n h 2 tL_560 rfl ?_
  refine g_lcall h 119 (As := []) (st := [.int r]) my_X12_passes_ mi_X12_passes_ mL_76 rfl (by decide) rfl rfl rfl (Nat.le_of_ble_eq_true rfl) (by decide) tL_561 (S_X12_passes_ B0.hin e2) ?_
  exact g_icmp_eq (B := some ()) (E := none) (rr := ()) (tgt := 1380) h tL_564 (by decide) (if_pos rfl) (fun _ => kk _ hR2) (fun q => nomatch q)
theorem lc_11 (B0 : Bs p l s m meth c b L xs ρ cs G a) (hc1 : kc ≤ 601024) (hc2 : ks ≤ 7293034) (h1 : vp_in (I + 1) L) (h2 : vp_in (I + 2) L) (hB : B < 90000) (hR : Rel B w) (kk : ∀ w2, Rel (B + 108) w2 → gG ρ cs G (Lx p l e s m below meth c b kc ks) 1380 (lo ρ b I) [] w2) : gG ρ cs G (Lx p l e s m below meth c b kc ks) 569 (lo ρ b I) [] w := by
  have h := B0.okx (e := e) (below := below) hc1 hc2
  obtain ⟨r, w1, w2, e1, e2, hR2⟩ := (k_adds ((xs (I + 1).toNatClampNeg)) ((xs (I + 2).toNatClampNeg))) B w hB hR
  refine g_aload_n h 3 tL_569 rfl ?_
  refine g_aload_n h 4 tL_570 rfl ?_
  refine g_iload h 0 tL_571 rfl ?_
  refine g_iconst (v := 1) h tL_573 (by decide) ?_
  refine g_iadd h tL_574 ?_
  refine g_sld B0 h1 tL_575 ?_
  refine g_aload_n h 4 tL_576 rfl ?_
  refine g_iload h 0 tL_577 rfl ?_
  refine g_iconst (v := 2) h tL_579 (by decide) ?_
  refine g_iadd h tL_580 ?_
  refine g_sld B0 h2 tL_581 ?_
  refine g_lcall h 75 (As := [.int (xs (I + 1).toNatClampNeg), .int (xs (I + 2).toNatClampNeg)]) (st := []) my_X11_adds mi_X11_adds mL_77 rfl (by decide) rfl rfl rfl (Nat.le_of_ble_eq_true rfl) (by decide) tL_582 (S_X11_adds B0.hin e1) ?_
  refine g_aload_n h 2 tL_585 rfl ?_
  refine g_aload_n h 4 tL_586 rfl ?_
  refine g_iload h 0 tL_587 rfl ?_
  refine g_iconst (v := 1) h tL_589 (by decide) ?_
  refine g_iadd h tL_590 ?_
  refine g_sld B0 h1 tL_591 ?_
  refine g_aload_n h 4 tL_592 rfl ?_
  refine g_iload h 0 tL_593 rfl ?_
  refine g_iconst (v := 2) h tL_595 (by decide) ?_
  refine g_iadd h tL_596 ?_
  refine g_sld B0 h2 tL_597 ?_
  refine g_lcall h 119 (As := [.int (xs (I + 1).toNatClampNeg), .int (xs (I + 2).toNatClampNeg)]) (st := [.int r]) my_X12_adds mi_X12_adds mL_81 rfl (by decide) rfl rfl rfl (Nat.le_of_ble_eq_true rfl) (by decide) tL_598 (S_X12_adds B0.hin e2) ?_
  exact g_icmp_eq (B := some ()) (E := none) (rr := ()) (tgt := 1380) h tL_601 (by decide) (if_pos rfl) (fun _ => kk _ hR2) (fun q => nomatch q)
theorem lc_12 (B0 : Bs p l s m meth c b L xs ρ cs G a) (hc1 : kc ≤ 601024) (hc2 : ks ≤ 7293034) (hB : B < 90000) (hR : Rel B w) (kk : ∀ w2, Rel (B + 108) w2 → gG ρ cs G (Lx p l e s m below meth c b kc ks) 1380 (lo ρ b I) [] w2) : gG ρ cs G (Lx p l e s m below meth c b kc ks) 606 (lo ρ b I) [] w := by
  have h := B0.okx (e := e) (below := below) hc1 hc2
  obtain ⟨r, w1, w2, e1, e2, hR2⟩ := k_game B w hB hR
  refine g_aload_n h 3 tL_606 rfl ?_
  refine g_lcall h 75 (As := []) (st := []) my_X11_game mi_X11_game mL_82 rfl (by decide) rfl rfl rfl (Nat.le_of_ble_eq_true rfl) (by decide) tL_607 (S_X11_game B0.hin e1) ?_
  refine g_aload_n h 2 tL_610 rfl ?_
  refine g_lcall h 119 (As := []) (st := [.int r]) my_X12_game mi_X12_game mL_85 rfl (by decide) rfl rfl rfl (Nat.le_of_ble_eq_true rfl) (by decide) tL_611 (S_X12_game B0.hin e2) ?_
  exact g_icmp_eq (B := some ()) (E := none) (rr := ()) (tgt := 1380) h tL_614 (by decide) (if_pos rfl) (fun _ => kk _ hR2) (fun q => nomatch q)
theorem lc_13 (B0 : Bs p l s m meth c b L xs ρ cs G a) (hc1 : kc ≤ 601024) (hc2 : ks ≤ 7293034) (hB : B < 90000) (hR : Rel B w) (kk : ∀ w2, Rel (B + 108) w2 → gG ρ cs G (Lx p l e s m below meth c b kc ks) 1380 (lo ρ b I) [] w2) : gG ρ cs G (Lx p l e s m below meth c b kc ks) 619 (lo ρ b I) [] w := by
  have h := B0.okx (e := e) (below := below) hc1 hc2
  obtain ⟨r, w1, w2, e1, e2, hR2⟩ := k_undo B w hB hR
  refine g_aload_n h 3 tL_619 rfl ?_
  refine g_lcall h 75 (As := []) (st := []) my_X11_undo mi_X11_undo mL_86 rfl (by decide) rfl rfl rfl (Nat.le_of_ble_eq_true rfl) (by decide) tL_620 (S_X11_undo B0.hin e1) ?_
  refine g_aload_n h 2 tL_623 rfl ?_
  refine g_lcall h 119 (As := []) (st := [.int r]) my_X12_undo mi_X12_undo mL_89 rfl (by decide) rfl rfl rfl (Nat.le_of_ble_eq_true rfl) (by decide) tL_624 (S_X12_undo B0.hin e2) ?_
  exact g_icmp_eq (B := some ()) (E := none) (rr := ()) (tgt := 1380) h tL_627 (by decide) (if_pos rfl) (fun _ => kk _ hR2) (fun q => nomatch q)
theorem lc_14 (B0 : Bs p l s m meth c b L xs ρ cs G a) (hc1 : kc ≤ 601024) (hc2 : ks ≤ 7293034) (h1 : vp_in (I + 1) L) (hB : B < 90000) (hR : Rel B w) (kk : ∀ w2, Rel (B + 108) w2 → gG ρ cs G (Lx p l e s m below meth c b kc ks) 1380 (lo ρ b I) [] w2) : gG ρ cs G (Lx p l e s m below meth c b kc ks) 632 (lo ρ b I) [] w := by
  have h := B0.okx (e := e) (below := below) hc1 hc2
  obtain ⟨r, w1, w2, e1, e2, hR2⟩ := (k_would ((xs (I + 1).toNatClampNeg))) B w hB hR
  refine g_aload_n h 3 tL_632 rfl ?_
  refine g_aload_n h 4 tL_633 rfl ?_
  refine g_iload h 0 tL_634 rfl ?_
  refine g_iconst (v := 1) h tL_636 (by decide) ?_
  refine g_iadd h tL_637 ?_
  refine g_sld B0 h1 tL_638 ?_
  refine g_lcall h 75 (As := [.int (xs (I + 1).toNatClampNeg)]) (st := []) my_X11_would mi_X11_would mL_90 rfl (by decide) rfl rfl rfl (Nat.le_of_ble_eq_true rfl) (by decide) tL_639 (S_X11_would B0.hin e1) ?_
  refine g_aload_n h 2 tL_642 rfl ?_
  refine g_aload_n h 4 tL_643 rfl ?_
  refine g_iload h 0 tL_644 rfl ?_
  refine g_iconst (v := 1) h tL_646 (by decide) ?_
  refine g_iadd h tL_647 ?_
  refine g_sld B0 h1 tL_648 ?_
  refine g_lcall h 119 (As := [.int (xs (I + 1).toNatClampNeg)]) (st := [.int r]) my_X12_would mi_X12_would mL_93 rfl (by decide) rfl rfl rfl (Nat.le_of_ble_eq_true rfl) (by decide) tL_649 (S_X12_would B0.hin e2) ?_
  exact g_icmp_eq (B := some ()) (E := none) (rr := ()) (tgt := 1380) h tL_652 (by decide) (if_pos rfl) (fun _ => kk _ hR2) (fun q => nomatch q)
theorem lc_15 (B0 : Bs p l s m meth c b L xs ρ cs G a) (hc1 : kc ≤ 601024) (hc2 : ks ≤ 7293034) (h1 : vp_in (I + 1) L) (hB : B < 90000) (hR : Rel B w) (kk : ∀ w2, Rel (B + 108) w2 → gG ρ cs G (Lx p l e s m below meth c b kc ks) 1380 (lo ρ b I) [] w2) : gG ρ cs G (Lx p l e s m below meth c b kc ks) 657 (lo ρ b I) [] w := by
  have h := B0.okx (e := e) (below := below) hc1 hc2
  obtain ⟨r, w1, w2, e1, e2, hR2⟩ := (k_worth ((xs (I + 1).toNatClampNeg))) B w hB hR
  refine g_aload_n h 3 tL_657 rfl ?_
  refine g_aload_n h 4 tL_658 rfl ?_
  refine g_iload h 0 tL_659 rfl ?_
  refine g_iconst (v := 1) h tL_661 (by decide) ?_
  refine g_iadd h tL_662 ?_
  refine g_sld B0 h1 tL_663 ?_
  refine g_lcall h 75 (As := [.int (xs (I + 1).toNatClampNeg)]) (st := []) my_X11_worth mi_X11_worth mL_94 rfl (by decide) rfl rfl rfl (Nat.le_of_ble_eq_true rfl) (by decide) tL_664 (S_X11_worth B0.hin e1) ?_
  refine g_aload_n h 2 tL_667 rfl ?_
  refine g_aload_n h 4 tL_668 rfl ?_
  refine g_iload h 0 tL_669 rfl ?_
  refine g_iconst (v := 1) h tL_671 (by decide) ?_
  refine g_iadd h tL_672 ?_
  refine g_sld B0 h1 tL_673 ?_
  refine g_lcall h 119 (As := [.int (xs (I + 1).toNatClampNeg)]) (st := [.int r]) my_X12_worth mi_X12_worth mL_97 rfl (by decide) rfl rfl rfl (Nat.le_of_ble_eq_true rfl) (by decide) tL_674 (S_X12_worth B0.hin e2) ?_
  exact g_icmp_eq (B := some ()) (E := none) (rr := ()) (tgt := 1380) h tL_677 (by decide) (if_pos rfl) (fun _ => kk _ hR2) (fun q => nomatch q)
theorem lc_16 (B0 : Bs p l s m meth c b L xs ρ cs G a) (hc1 : kc ≤ 601024) (hc2 : ks ≤ 7293034) (hB : B < 90000) (hR : Rel B w) (kk : ∀ w2, Rel (B + 108) w2 → gG ρ cs G (Lx p l e s m below meth c b kc ks) 1380 (lo ρ b I) [] w2) : gG ρ cs G (Lx p l e s m below meth c b kc ks) 682 (lo ρ b I) [] w := by
  have h := B0.okx (e := e) (below := below) hc1 hc2
  obtain ⟨r, w1, w2, e1, e2, hR2⟩ := k_best B w hB hR
  refine g_aload_n h 3 tL_682 rfl ?_
  refine g_lcall h 75 (As := []) (st := []) my_X11_best mi_X11_best mL_98 rfl (by decide) rfl rfl rfl (Nat.le_of_ble_eq_true rfl) (by decide) tL_683 (S_X11_best B0.hin e1) ?_
  refine g_aload_n h 2 tL_686 rfl ?_
  refine g_lcall h 119 (As := []) (st := [.int r]) my_X12_best mi_X12_best mL_101 rfl (by decide) rfl rfl rfl (Nat.le_of_ble_eq_true rfl) (by decide) tL_687 (S_X12_best B0.hin e2) ?_
  exact g_icmp_eq (B := some ()) (E := none) (rr := ()) (tgt := 1380) h tL_690 (by decide) (if_pos rfl) (fun _ => kk _ hR2) (fun q => nomatch q)
theorem lc_17 (B0 : Bs p l s m meth c b L xs ρ cs G a) (hc1 : kc ≤ 601024) (hc2 : ks ≤ 7293034) (hB : B < 90000) (hR : Rel B w) (kk : ∀ w2, Rel (B + 108) w2 → gG ρ cs G (Lx p l e s m below meth c b kc ks) 1380 (lo ρ b I) [] w2) : gG ρ cs G (Lx p l e s m below meth c b kc ks) 695 (lo ρ b I) [] w := by
  have h := B0.okx (e := e) (below := below) hc1 hc2
  obtain ⟨r, w1, w2, e1, e2, hR2⟩ := k_most B w hB hR
  refine g_aload_n h 3 tL_695 rfl ?_
  refine g_lcall h 75 (As := []) (st := []) my_X11_most mi_X11_most mL_102 rfl (by decide) rfl rfl rfl (Nat.le_of_ble_eq_true rfl) (by decide) tL_696 (S_X11_most B0.hin e1) ?_
  refine g_aload_n h 2 tL_699 rfl ?_
  refine g_lcall h 119 (As := []) (st := [.int r]) my_X12_most mi_X12_most mL_105 rfl (by decide) rfl rfl rfl (Nat.le_of_ble_eq_true rfl) (by decide) tL_700 (S_X12_most B0.hin e2) ?_
  exact g_icmp_eq (B := some ()) (E := none) (rr := ()) (tgt := 1380) h tL_703 (by decide) (if_pos rfl) (fun _ => kk _ hR2) (fun q => nomatch q)
theorem lc_18 (B0 : Bs p l s m meth c b L xs ρ cs G a) (hc1 : kc ≤ 601024) (hc2 : ks ≤ 7293034) (hB : B < 90000) (hR : Rel B w) (kk : ∀ w2, Rel (B + 108) w2 → gG ρ cs G (Lx p l e s m below meth c b kc ks) 1380 (lo ρ b I) [] w2) : gG ρ cs G (Lx p l e s m below meth c b kc ks) 708 (lo ρ b I) [] w := by
  have h := B0.okx (e := e) (below := below) hc1 hc2
  obtain ⟨r, w1, w2, e1, e2, hR2⟩ := k_chain B w hB hR
  refine g_aload_n h 3 tL_708 rfl ?_
  refine g_lcall h 75 (As := []) (st := []) my_X11_chain mi_X11_chain mL_106 rfl (by decide) rfl rfl rfl (Nat.le_of_ble_eq_true rfl) (by decide) tL_709 (S_X11_chain B0.hin e1) ?_
  refine g_aload_n h 2 tL_712 rfl ?_
  refine g_lcall h 119 (As := []) (st := [.int r]) my_X12_chain mi_X12_chain mL_109 rfl (by decide) rfl rfl rfl (Nat.le_of_ble_eq_true rfl) (by decide) tL_713 (S_X12_chain B0.hin e2) ?_
  exact g_icmp_eq (B := some ()) (E := none) (rr := ()) (tgt := 1380) h tL_716 (by decide) (if_pos rfl) (fun _ => kk _ hR2) (fun q => nomatch q)
theorem lc_19 (B0 : Bs p l s m meth c b L xs ρ cs G a) (hc1 : kc ≤ 601024) (hc2 : ks ≤ 7293034) (hB : B < 90000) (hR : Rel B w) (kk : ∀ w2, Rel (B + 108) w2 → gG ρ cs G (Lx p l e s m below meth c b kc ks) 1380 (lo ρ b I) [] w2) : gG ρ cs G (Lx p l e s m below meth c b kc ks) 721 (lo ρ b I) [] w := by
  have h := B0.okx (e := e) (below := below) hc1 hc2
  obtain ⟨r, w1, w2, e1, e2, hR2⟩ := k_longest B w hB hR
  refine g_aload_n h 3 tL_721 rfl ?_
  refine g_lcall h 75 (As := []) (st := []) my_X11_longest mi_X11_longest mL_110 rfl (by decide) rfl rfl rfl (Nat.le_of_ble_eq_true rfl) (by decide) tL_722 (S_X11_longest B0.hin e1) ?_
  refine g_aload_n h 2 tL_725 rfl ?_
  refine g_lcall h 119 (As := []) (st := [.int r]) my_X12_longest mi_X12_longest mL_113 rfl (by decide) rfl rfl rfl (Nat.le_of_ble_eq_true rfl) (by decide) tL_726 (S_X12_longest B0.hin e2) ?_
  exact g_icmp_eq (B := some ()) (E := none) (rr := ()) (tgt := 1380) h tL_729 (by decide) (if_pos rfl) (fun _ => kk _ hR2) (fun q => nomatch q)
theorem lc_20 (B0 : Bs p l s m meth c b L xs ρ cs G a) (hc1 : kc ≤ 601024) (hc2 : ks ≤ 7293034) (hB : B < 90000) (hR : Rel B w) (kk : ∀ w2, Rel (B + 108) w2 → gG ρ cs G (Lx p l e s m below meth c b kc ks) 1380 (lo ρ b I) [] w2) : gG ρ cs G (Lx p l e s m below meth c b kc ks) 734 (lo ρ b I) [] w := by
  have h := B0.okx (e := e) (below := below) hc1 hc2
  obtain ⟨r, w1, w2, e1, e2, hR2⟩ := k_threat B w hB hR
  refine g_aload_n h 3 tL_734 rfl ?_
  refine g_lcall h 75 (As := []) (st := []) my_X11_threat mi_X11_threat mL_114 rfl (by decide) rfl rfl rfl (Nat.le_of_ble_eq_true rfl) (by decide) tL_735 (S_X11_threat B0.hin e1) ?_
  refine g_aload_n h 2 tL_738 rfl ?_
  refine g_lcall h 119 (As := []) (st := [.int r]) my_X12_threat mi_X12_threat mL_117 rfl (by decide) rfl rfl rfl (Nat.le_of_ble_eq_true rfl) (by decide) tL_739 (S_X12_threat B0.hin e2) ?_
  exact g_icmp_eq (B := some ()) (E := none) (rr := ()) (tgt := 1380) h tL_742 (by decide) (if_pos rfl) (fun _ => kk _ hR2) (fun q => nomatch q)
theorem lc_21 (B0 : Bs p l s m meth c b L xs ρ cs G a) (hc1 : kc ≤ 601024) (hc2 : ks ≤ 7293034) (h1 : vp_in (I + 1) L) (hB : B < 90000) (hR : Rel B w) (kk : ∀ w2, Rel (B + 108) w2 → gG ρ cs G (Lx p l e s m below meth c b kc ks) 1380 (lo ρ b I) [] w2) : gG ρ cs G (Lx p l e s m below meth c b kc ks) 747 (lo ρ b I) [] w := by
  have h := B0.okx (e := e) (below := below) hc1 hc2
  obtain ⟨r, w1, w2, e1, e2, hR2⟩ := (k_risks ((xs (I + 1).toNatClampNeg))) B w hB hR
  refine g_aload_n h 3 tL_747 rfl ?_
  refine g_aload_n h 4 tL_748 rfl ?_
  refine g_iload h 0 tL_749 rfl ?_
  refine g_iconst (v := 1) h tL_751 (by decide) ?_
  refine g_iadd h tL_752 ?_
  refine g_sld B0 h1 tL_753 ?_
  refine g_lcall h 75 (As := [.int (xs (I + 1).toNatClampNeg)]) (st := []) my_X11_risks mi_X11_risks mL_118 rfl (by decide) rfl rfl rfl (Nat.le_of_ble_eq_true rfl) (by decide) tL_754 (S_X11_risks B0.hin e1) ?_
  refine g_aload_n h 2 tL_757 rfl ?_
  refine g_aload_n h 4 tL_758 rfl ?_
  refine g_iload h 0 tL_759 rfl ?_
  refine g_iconst (v := 1) h tL_761 (by decide) ?_
  refine g_iadd h tL_762 ?_
  refine g_sld B0 h1 tL_763 ?_
  refine g_lcall h 119 (As := [.int (xs (I + 1).toNatClampNeg)]) (st := [.int r]) my_X12_risks mi_X12_risks mL_121 rfl (by decide) rfl rfl rfl (Nat.le_of_ble_eq_true rfl) (by decide) tL_764 (S_X12_risks B0.hin e2) ?_
  exact g_icmp_eq (B := some ()) (E := none) (rr := ()) (tgt := 1380) h tL_767 (by decide) (if_pos rfl) (fun _ => kk _ hR2) (fun q => nomatch q)
theorem lc_22 (B0 : Bs p l s m meth c b L xs ρ cs G a) (hc1 : kc ≤ 601024) (hc2 : ks ≤ 7293034) (hB : B < 90000) (hR : Rel B w) (kk : ∀ w2, Rel (B + 108) w2 → gG ρ cs G (Lx p l e s m below meth c b kc ks) 1380 (lo ρ b I) [] w2) : gG ρ cs G (Lx p l e s m below meth c b kc ks) 772 (lo ρ b I) [] w := by
  have h := B0.okx (e := e) (below := below) hc1 hc2
  obtain ⟨r, w1, w2, e1, e2, hR2⟩ := k_starves B w hB hR
  refine g_aload_n h 3 tL_772 rfl ?_
  refine g_lcall h 75 (As := []) (st := []) my_X11_starves mi_X11_starves mL_122 rfl (by decide) rfl rfl rfl (Nat.le_of_ble_eq_true rfl) (by decide) tL_773 (S_X11_starves B0.hin e1) ?_
  refine g_aload_n h 2 tL_776 rfl ?_
  refine g_lcall h 119 (As := []) (st := [.int r]) my_X12_starves mi_X12_starves mL_125 rfl (by decide) rfl rfl rfl (Nat.le_of_ble_eq_true rfl) (by decide) tL_777 (S_X12_starves B0.hin e2) ?_
  exact g_icmp_eq (B := some ()) (E := none) (rr := ()) (tgt := 1380) h tL_780 (by decide) (if_pos rfl) (fun _ => kk _ hR2) (fun q => nomatch q)
theorem lc_23 (B0 : Bs p l s m meth c b L xs ρ cs G a) (hc1 : kc ≤ 601024) (hc2 : ks ≤ 7293034) (h1 : vp_in (I + 1) L) (hB : B < 90000) (hR : Rel B w) (kk : ∀ w2, Rel (B + 108) w2 → gG ρ cs G (Lx p l e s m below meth c b kc ks) 1380 (lo ρ b I) [] w2) : gG ρ cs G (Lx p l e s m below meth c b kc ks) 785 (lo ρ b I) [] w := by
  have h := B0.okx (e := e) (below := below) hc1 hc2
  obtain ⟨r, w1, w2, e1, e2, hR2⟩ := (k_looks ((xs (I + 1).toNatClampNeg))) B w hB hR
  refine g_aload_n h 3 tL_785 rfl ?_
  refine g_aload_n h 4 tL_786 rfl ?_
  refine g_iload h 0 tL_787 rfl ?_
  refine g_iconst (v := 1) h tL_789 (by decide) ?_
  refine g_iadd h tL_790 ?_
  refine g_sld B0 h1 tL_791 ?_
  refine g_lcall h 75 (As := [.int (xs (I + 1).toNatClampNeg)]) (st := []) my_X11_looks mi_X11_looks mL_126 rfl (by decide) rfl rfl rfl (Nat.le_of_ble_eq_true rfl) (by decide) tL_792 (S_X11_looks B0.hin e1) ?_
  refine g_aload_n h 2 tL_795 rfl ?_
  refine g_aload_n h 4 tL_796 rfl ?_
  refine g_iload h 0 tL_797 rfl ?_
  refine g_iconst (v := 1) h tL_799 (by decide) ?_
  refine g_iadd h tL_800 ?_
  refine g_sld B0 h1 tL_801 ?_
  refine g_lcall h 119 (As := [.int (xs (I + 1).toNatClampNeg)]) (st := [.int r]) my_X12_looks mi_X12_looks mL_129 rfl (by decide) rfl rfl rfl (Nat.le_of_ble_eq_true rfl) (by decide) tL_802 (S_X12_looks B0.hin e2) ?_
  exact g_icmp_eq (B := some ()) (E := none) (rr := ()) (tgt := 1380) h tL_805 (by decide) (if_pos rfl) (fun _ => kk _ hR2) (fun q => nomatch q)
theorem lc_24 (B0 : Bs p l s m meth c b L xs ρ cs G a) (hc1 : kc ≤ 601024) (hc2 : ks ≤ 7293034) (h1 : vp_in (I + 1) L) (h2 : vp_in (I + 2) L) (hB : B < 90000) (hR : Rel B w) (kk : ∀ w2, Rel (B + 108) w2 → gG ρ cs G (Lx p l e s m below meth c b kc ks) 1380 (lo ρ b I) [] w2) : gG ρ cs G (Lx p l e s m below meth c b kc ks) 810 (lo ρ b I) [] w := by
  have h := B0.okx (e := e) (below := below) hc1 hc2
  obtain ⟨r, w1, w2, e1, e2, hR2⟩ := (k_ways ((xs (I + 1).toNatClampNeg)) ((xs (I + 2).toNatClampNeg))) B w hB hR
  refine g_aload_n h 3 tL_810 rfl ?_
  refine g_aload_n h 4 tL_811 rfl ?_
  refine g_iload h 0 tL_812 rfl ?_
  refine g_iconst (v := 1) h tL_814 (by decide) ?_
  refine g_iadd h tL_815 ?_
  refine g_sld B0 h1 tL_816 ?_
  refine g_aload_n h 4 tL_817 rfl ?_
  refine g_iload h 0 tL_818 rfl ?_
  refine g_iconst (v := 2) h tL_820 (by decide) ?_
  refine g_iadd h tL_821 ?_
  refine g_sld B0 h2 tL_822 ?_
  refine g_lcall h 75 (As := [.int (xs (I + 1).toNatClampNeg), .int (xs (I + 2).toNatClampNeg)]) (st := []) my_X11_ways mi_X11_ways mL_130 rfl (by decide) rfl rfl rfl (Nat.le_of_ble_eq_true rfl) (by decide) tL_823 (S_X11_ways B0.hin e1) ?_
  refine g_aload_n h 2 tL_826 rfl ?_
  refine g_aload_n h 4 tL_827 rfl ?_
  refine g_iload h 0 tL_828 rfl ?_
  refine g_iconst (v := 1) h tL_830 (by decide) ?_
  refine g_iadd h tL_831 ?_
  refine g_sld B0 h1 tL_832 ?_
  refine g_aload_n h 4 tL_833 rfl ?_
  refine g_iload h 0 tL_834 rfl ?_
  refine g_iconst (v := 2) h tL_836 (by decide) ?_
  refine g_iadd h tL_837 ?_
  refine g_sld B0 h2 tL_838 ?_
  refine g_lcall h 119 (As := [.int (xs (I + 1).toNatClampNeg), .int (xs (I + 2).toNatClampNeg)]) (st := [.int r]) my_X12_ways mi_X12_ways mL_133 rfl (by decide) rfl rfl rfl (Nat.le_of_ble_eq_true rfl) (by decide) tL_839 (S_X12_ways B0.hin e2) ?_
  exact g_icmp_eq (B := some ()) (E := none) (rr := ()) (tgt := 1380) h tL_842 (by decide) (if_pos rfl) (fun _ => kk _ hR2) (fun q => nomatch q)
theorem lc_25 (B0 : Bs p l s m meth c b L xs ρ cs G a) (hc1 : kc ≤ 601024) (hc2 : ks ≤ 7293034) (h1 : vp_in (I + 1) L) (hB : B < 90000) (hR : Rel B w) (kk : ∀ w2, Rel (B + 108) w2 → gG ρ cs G (Lx p l e s m below meth c b kc ks) 1380 (lo ρ b I) [] w2) : gG ρ cs G (Lx p l e s m below meth c b kc ks) 847 (lo ρ b I) [] w := by
  have h := B0.okx (e := e) (below := below) hc1 hc2
  obtain ⟨r, w1, w2, e1, e2, hR2⟩ := (k_reach ((xs (I + 1).toNatClampNeg))) B w hB hR
  refine g_aload_n h 3 tL_847 rfl ?_
  refine g_aload_n h 4 tL_848 rfl ?_
  refine g_iload h 0 tL_849 rfl ?_
  refine g_iconst (v := 1) h tL_851 (by decide) ?_
  refine g_iadd h tL_852 ?_
  refine g_sld B0 h1 tL_853 ?_
  refine g_lcall h 75 (As := [.int (xs (I + 1).toNatClampNeg)]) (st := []) my_X11_reach mi_X11_reach mL_134 rfl (by decide) rfl rfl rfl (Nat.le_of_ble_eq_true rfl) (by decide) tL_854 (S_X11_reach B0.hin e1) ?_
  refine g_aload_n h 2 tL_857 rfl ?_
  refine g_aload_n h 4 tL_858 rfl ?_
  refine g_iload h 0 tL_859 rfl ?_
  refine g_iconst (v := 1) h tL_861 (by decide) ?_
  refine g_iadd h tL_862 ?_
  refine g_sld B0 h1 tL_863 ?_
  refine g_lcall h 119 (As := [.int (xs (I + 1).toNatClampNeg)]) (st := [.int r]) my_X12_reach mi_X12_reach mL_137 rfl (by decide) rfl rfl rfl (Nat.le_of_ble_eq_true rfl) (by decide) tL_864 (S_X12_reach B0.hin e2) ?_
  exact g_icmp_eq (B := some ()) (E := none) (rr := ()) (tgt := 1380) h tL_867 (by decide) (if_pos rfl) (fun _ => kk _ hR2) (fun q => nomatch q)
theorem lc_26 (B0 : Bs p l s m meth c b L xs ρ cs G a) (hc1 : kc ≤ 601024) (hc2 : ks ≤ 7293034) (h1 : vp_in (I + 1) L) (h2 : vp_in (I + 2) L) (hB : B < 90000) (hR : Rel B w) (kk : ∀ w2, Rel (B + 108) w2 → gG ρ cs G (Lx p l e s m below meth c b kc ks) 1380 (lo ρ b I) [] w2) : gG ρ cs G (Lx p l e s m below meth c b kc ks) 872 (lo ρ b I) [] w := by
  have h := B0.okx (e := e) (below := below) hc1 hc2
  obtain ⟨r, w1, w2, e1, e2, hR2⟩ := (k_luck ((xs (I + 1).toNatClampNeg)) ((xs (I + 2).toNatClampNeg))) B w hB hR
  refine g_aload_n h 3 tL_872 rfl ?_
  refine g_aload_n h 4 tL_873 rfl ?_
  refine g_iload h 0 tL_874 rfl ?_
  refine g_iconst (v := 1) h tL_876 (by decide) ?_
  refine g_iadd h tL_877 ?_
  refine g_sld B0 h1 tL_878 ?_
  refine g_aload_n h 4 tL_879 rfl ?_
  refine g_iload h 0 tL_880 rfl ?_
  refine g_iconst (v := 2) h tL_882 (by decide) ?_
  refine g_iadd h tL_883 ?_
  refine g_sld B0 h2 tL_884 ?_
  refine g_lcall h 75 (As := [.int (xs (I + 1).toNatClampNeg), .int (xs (I + 2).toNatClampNeg)]) (st := []) my_X11_luck mi_X11_luck mL_138 rfl (by decide) rfl rfl rfl (Nat.le_of_ble_eq_true rfl) (by decide) tL_885 (S_X11_luck B0.hin e1) ?_
  refine g_aload_n h 2 tL_888 rfl ?_
  refine g_aload_n h 4 tL_889 rfl ?_
  refine g_iload h 0 tL_890 rfl ?_
  refine g_iconst (v := 1) h tL_892 (by decide) ?_
  refine g_iadd h tL_893 ?_
  refine g_sld B0 h1 tL_894 ?_
  refine g_aload_n h 4 tL_895 rfl ?_
  refine g_iload h 0 tL_896 rfl ?_
  refine g_iconst (v := 2) h tL_898 (by decide) ?_
  refine g_iadd h tL_899 ?_
  refine g_sld B0 h2 tL_900 ?_
  refine g_lcall h 119 (As := [.int (xs (I + 1).toNatClampNeg), .int (xs (I + 2).toNatClampNeg)]) (st := [.int r]) my_X12_luck mi_X12_luck mL_141 rfl (by decide) rfl rfl rfl (Nat.le_of_ble_eq_true rfl) (by decide) tL_901 (S_X12_luck B0.hin e2) ?_
  exact g_icmp_eq (B := some ()) (E := none) (rr := ()) (tgt := 1380) h tL_904 (by decide) (if_pos rfl) (fun _ => kk _ hR2) (fun q => nomatch q)
theorem lc_27 (B0 : Bs p l s m meth c b L xs ρ cs G a) (hc1 : kc ≤ 601024) (hc2 : ks ≤ 7293034) (h1 : vp_in (I + 1) L) (hB : B < 90000) (hR : Rel B w) (kk : ∀ w2, Rel (B + 108) w2 → gG ρ cs G (Lx p l e s m below meth c b kc ks) 1380 (lo ρ b I) [] w2) : gG ρ cs G (Lx p l e s m below meth c b kc ks) 909 (lo ρ b I) [] w := by
  have h := B0.okx (e := e) (below := below) hc1 hc2
  obtain ⟨r, w1, w2, e1, e2, hR2⟩ := (k_when ((xs (I + 1).toNatClampNeg))) B w hB hR
  refine g_aload_n h 3 tL_909 rfl ?_
  refine g_aload_n h 4 tL_910 rfl ?_
  refine g_iload h 0 tL_911 rfl ?_
  refine g_iconst (v := 1) h tL_913 (by decide) ?_
  refine g_iadd h tL_914 ?_
  refine g_sld B0 h1 tL_915 ?_
  refine g_lcall h 75 (As := [.int (xs (I + 1).toNatClampNeg)]) (st := []) my_X11_when mi_X11_when mL_142 rfl (by decide) rfl rfl rfl (Nat.le_of_ble_eq_true rfl) (by decide) tL_916 (S_X11_when B0.hin e1) ?_
  refine g_aload_n h 2 tL_919 rfl ?_
  refine g_aload_n h 4 tL_920 rfl ?_
  refine g_iload h 0 tL_921 rfl ?_
  refine g_iconst (v := 1) h tL_923 (by decide) ?_
  refine g_iadd h tL_924 ?_
  refine g_sld B0 h1 tL_925 ?_
  refine g_lcall h 119 (As := [.int (xs (I + 1).toNatClampNeg)]) (st := [.int r]) my_X12_when mi_X12_when mL_145 rfl (by decide) rfl rfl rfl (Nat.le_of_ble_eq_true rfl) (by decide) tL_926 (S_X12_when B0.hin e2) ?_
  exact g_icmp_eq (B := some ()) (E := none) (rr := ()) (tgt := 1380) h tL_929 (by decide) (if_pos rfl) (fun _ => kk _ hR2) (fun q => nomatch q)
theorem lc_28 (B0 : Bs p l s m meth c b L xs ρ cs G a) (hc1 : kc ≤ 601024) (hc2 : ks ≤ 7293034) (hB : B < 90000) (hR : Rel B w) (kk : ∀ w2, Rel (B + 108) w2 → gG ρ cs G (Lx p l e s m below meth c b kc ks) 1380 (lo ρ b I) [] w2) : gG ρ cs G (Lx p l e s m below meth c b kc ks) 934 (lo ρ b I) [] w := by
  have h := B0.okx (e := e) (below := below) hc1 hc2
  obtain ⟨r, w1, w2, e1, e2, hR2⟩ := k_ends B w hB hR
  refine g_aload_n h 3 tL_934 rfl ?_
  refine g_lcall h 75 (As := []) (st := []) my_X11_ends mi_X11_ends mL_146 rfl (by decide) rfl rfl rfl (Nat.le_of_ble_eq_true rfl) (by decide) tL_935 (S_X11_ends B0.hin e1) ?_
  refine g_aload_n h 2 tL_938 rfl ?_
  refine g_lcall h 119 (As := []) (st := [.int r]) my_X12_ends mi_X12_ends mL_149 rfl (by decide) rfl rfl rfl (Nat.le_of_ble_eq_true rfl) (by decide) tL_939 (S_X12_ends B0.hin e2) ?_
  exact g_icmp_eq (B := some ()) (E := none) (rr := ()) (tgt := 1380) h tL_942 (by decide) (if_pos rfl) (fun _ => kk _ hR2) (fun q => nomatch q)
theorem lc_29 (B0 : Bs p l s m meth c b L xs ρ cs G a) (hc1 : kc ≤ 601024) (hc2 : ks ≤ 7293034) (hB : B < 90000) (hR : Rel B w) (kk : ∀ w2, Rel (B + 108) w2 → gG ρ cs G (Lx p l e s m below meth c b kc ks) 1380 (lo ρ b I) [] w2) : gG ρ cs G (Lx p l e s m below meth c b kc ks) 947 (lo ρ b I) [] w := by
  have h := B0.okx (e := e) (below := below) hc1 hc2
  obtain ⟨r, w1, w2, e1, e2, hR2⟩ := k_round B w hB hR
  refine g_aload_n h 3 tL_947 rfl ?_
  refine g_lcall h 75 (As := []) (st := []) my_X11_round mi_X11_round mL_150 rfl (by decide) rfl rfl rfl (Nat.le_of_ble_eq_true rfl) (by decide) tL_948 (S_X11_round B0.hin e1) ?_
  refine g_aload_n h 2 tL_951 rfl ?_
  refine g_lcall h 119 (As := []) (st := [.int r]) my_X12_round mi_X12_round mL_153 rfl (by decide) rfl rfl rfl (Nat.le_of_ble_eq_true rfl) (by decide) tL_952 (S_X12_round B0.hin e2) ?_
  exact g_icmp_eq (B := some ()) (E := none) (rr := ()) (tgt := 1380) h tL_955 (by decide) (if_pos rfl) (fun _ => kk _ hR2) (fun q => nomatch q)
theorem lc_30 (B0 : Bs p l s m meth c b L xs ρ cs G a) (hc1 : kc ≤ 601024) (hc2 : ks ≤ 7293034) (h1 : vp_in (I + 1) L) (hB : B < 90000) (hR : Rel B w) (kk : ∀ w2, Rel (B + 108) w2 → gG ρ cs G (Lx p l e s m below meth c b kc ks) 1380 (lo ρ b I) [] w2) : gG ρ cs G (Lx p l e s m below meth c b kc ks) 960 (lo ρ b I) [] w := by
  have h := B0.okx (e := e) (below := below) hc1 hc2
  obtain ⟨r, w1, w2, e1, e2, hR2⟩ := (k_fullest ((xs (I + 1).toNatClampNeg))) B w hB hR
  refine g_aload_n h 3 tL_960 rfl ?_
  refine g_aload_n h 4 tL_961 rfl ?_
  refine g_iload h 0 tL_962 rfl ?_
  refine g_iconst (v := 1) h tL_964 (by decide) ?_
  refine g_iadd h tL_965 ?_
  refine g_sld B0 h1 tL_966 ?_
  refine g_lcall h 75 (As := [.int (xs (I + 1).toNatClampNeg)]) (st := []) my_X11_fullest mi_X11_fullest mL_154 rfl (by decide) rfl rfl rfl (Nat.le_of_ble_eq_true rfl) (by decide) tL_967 (S_X11_fullest B0.hin e1) ?_
  refine g_aload_n h 2 tL_970 rfl ?_
  refine g_aload_n h 4 tL_971 rfl ?_
  refine g_iload h 0 tL_972 rfl ?_
  refine g_iconst (v := 1) h tL_974 (by decide) ?_
  refine g_iadd h tL_975 ?_
  refine g_sld B0 h1 tL_976 ?_
  refine g_lcall h 119 (As := [.int (xs (I + 1).toNatClampNeg)]) (st := [.int r]) my_X12_fullest mi_X12_fullest mL_157 rfl (by decide) rfl rfl rfl (Nat.le_of_ble_eq_true rfl) (by decide) tL_977 (S_X12_fullest B0.hin e2) ?_
  exact g_icmp_eq (B := some ()) (E := none) (rr := ()) (tgt := 1380) h tL_980 (by decide) (if_pos rfl) (fun _ => kk _ hR2) (fun q => nomatch q)
theorem lc_31 (B0 : Bs p l s m meth c b L xs ρ cs G a) (hc1 : kc ≤ 601024) (hc2 : ks ≤ 7293034) (h1 : vp_in (I + 1) L) (hB : B < 90000) (hR : Rel B w) (kk : ∀ w2, Rel (B + 108) w2 → gG ρ cs G (Lx p l e s m below meth c b kc ks) 1380 (lo ρ b I) [] w2) : gG ρ cs G (Lx p l e s m below meth c b kc ks) 985 (lo ρ b I) [] w := by
  have h := B0.okx (e := e) (below := below) hc1 hc2
  obtain ⟨r, w1, w2, e1, e2, hR2⟩ := (k_alone ((xs (I + 1).toNatClampNeg))) B w hB hR
  refine g_aload_n h 3 tL_985 rfl ?_
  refine g_aload_n h 4 tL_986 rfl ?_
  refine g_iload h 0 tL_987 rfl ?_
  refine g_iconst (v := 1) h tL_989 (by decide) ?_
  refine g_iadd h tL_990 ?_
  refine g_sld B0 h1 tL_991 ?_
  refine g_lcall h 75 (As := [.int (xs (I + 1).toNatClampNeg)]) (st := []) my_X11_alone mi_X11_alone mL_158 rfl (by decide) rfl rfl rfl (Nat.le_of_ble_eq_true rfl) (by decide) tL_992 (S_X11_alone B0.hin e1) ?_
  refine g_aload_n h 2 tL_995 rfl ?_
  refine g_aload_n h 4 tL_996 rfl ?_
  refine g_iload h 0 tL_997 rfl ?_
  refine g_iconst (v := 1) h tL_999 (by decide) ?_
  refine g_iadd h tL_1000 ?_
  refine g_sld B0 h1 tL_1001 ?_
  refine g_lcall h 119 (As := [.int (xs (I + 1).toNatClampNeg)]) (st := [.int r]) my_X12_alone mi_X12_alone mL_161 rfl (by decide) rfl rfl rfl (Nat.le_of_ble_eq_true rfl) (by decide) tL_1002 (S_X12_alone B0.hin e2) ?_
  exact g_icmp_eq (B := some ()) (E := none) (rr := ()) (tgt := 1380) h tL_1005 (by decide) (if_pos rfl) (fun _ => kk _ hR2) (fun q => nomatch q)
theorem lc_32 (B0 : Bs p l s m meth c b L xs ρ cs G a) (hc1 : kc ≤ 601024) (hc2 : ks ≤ 7293034) (hB : B < 90000) (hR : Rel B w) (kk : ∀ w2, Rel (B + 108) w2 → gG ρ cs G (Lx p l e s m below meth c b kc ks) 1380 (lo ρ b I) [] w2) : gG ρ cs G (Lx p l e s m below meth c b kc ks) 1010 (lo ρ b I) [] w := by
  have h := B0.okx (e := e) (below := below) hc1 hc2
  obtain ⟨r, w1, w2, e1, e2, hR2⟩ := k_comes B w hB hR
  refine g_aload_n h 3 tL_1010 rfl ?_
  refine g_lcall h 75 (As := []) (st := []) my_X11_comes mi_X11_comes mL_162 rfl (by decide) rfl rfl rfl (Nat.le_of_ble_eq_true rfl) (by decide) tL_1011 (S_X11_comes B0.hin e1) ?_
  refine g_aload_n h 2 tL_1014 rfl ?_
  refine g_lcall h 119 (As := []) (st := [.int r]) my_X12_comes mi_X12_comes mL_165 rfl (by decide) rfl rfl rfl (Nat.le_of_ble_eq_true rfl) (by decide) tL_1015 (S_X12_comes B0.hin e2) ?_
  exact g_icmp_eq (B := some ()) (E := none) (rr := ()) (tgt := 1380) h tL_1018 (by decide) (if_pos rfl) (fun _ => kk _ hR2) (fun q => nomatch q)
theorem lc_33 (B0 : Bs p l s m meth c b L xs ρ cs G a) (hc1 : kc ≤ 601024) (hc2 : ks ≤ 7293034) (h1 : vp_in (I + 1) L) (h2 : vp_in (I + 2) L) (hB : B < 90000) (hR : Rel B w) (kk : ∀ w2, Rel (B + 108) w2 → gG ρ cs G (Lx p l e s m below meth c b kc ks) 1380 (lo ρ b I) [] w2) : gG ρ cs G (Lx p l e s m below meth c b kc ks) 1023 (lo ρ b I) [] w := by
  have h := B0.okx (e := e) (below := below) hc1 hc2
  obtain ⟨r, w1, w2, e1, e2, hR2⟩ := (k_heard ((xs (I + 1).toNatClampNeg)) ((xs (I + 2).toNatClampNeg))) B w hB hR
  refine g_aload_n h 3 tL_1023 rfl ?_
  refine g_aload_n h 4 tL_1024 rfl ?_
  refine g_iload h 0 tL_1025 rfl ?_
  refine g_iconst (v := 1) h tL_1027 (by decide) ?_
  refine g_iadd h tL_1028 ?_
  refine g_sld B0 h1 tL_1029 ?_
  refine g_aload_n h 4 tL_1030 rfl ?_
  refine g_iload h 0 tL_1031 rfl ?_
  refine g_iconst (v := 2) h tL_1033 (by decide) ?_
  refine g_iadd h tL_1034 ?_
  refine g_sld B0 h2 tL_1035 ?_
  refine g_lcall h 75 (As := [.int (xs (I + 1).toNatClampNeg), .int (xs (I + 2).toNatClampNeg)]) (st := []) my_X11_heard mi_X11_heard mL_166 rfl (by decide) rfl rfl rfl (Nat.le_of_ble_eq_true rfl) (by decide) tL_1036 (S_X11_heard B0.hin e1) ?_
  refine g_aload_n h 2 tL_1039 rfl ?_
  refine g_aload_n h 4 tL_1040 rfl ?_
  refine g_iload h 0 tL_1041 rfl ?_
  refine g_iconst (v := 1) h tL_1043 (by decide) ?_
  refine g_iadd h tL_1044 ?_
  refine g_sld B0 h1 tL_1045 ?_
  refine g_aload_n h 4 tL_1046 rfl ?_
  refine g_iload h 0 tL_1047 rfl ?_
  refine g_iconst (v := 2) h tL_1049 (by decide) ?_
  refine g_iadd h tL_1050 ?_
  refine g_sld B0 h2 tL_1051 ?_
  refine g_lcall h 119 (As := [.int (xs (I + 1).toNatClampNeg), .int (xs (I + 2).toNatClampNeg)]) (st := [.int r]) my_X12_heard mi_X12_heard mL_169 rfl (by decide) rfl rfl rfl (Nat.le_of_ble_eq_true rfl) (by decide) tL_1052 (S_X12_heard B0.hin e2) ?_
  exact g_icmp_eq (B := some ()) (E := none) (rr := ()) (tgt := 1380) h tL_1055 (by decide) (if_pos rfl) (fun _ => kk _ hR2) (fun q => nomatch q)
theorem lc_34 (B0 : Bs p l s m meth c b L xs ρ cs G a) (hc1 : kc ≤ 601024) (hc2 : ks ≤ 7293034) (hB : B < 90000) (hR : Rel B w) (kk : ∀ w2, Rel (B + 108) w2 → gG ρ cs G (Lx p l e s m below meth c b kc ks) 1380 (lo ρ b I) [] w2) : gG ρ cs G (Lx p l e s m below meth c b kc ks) 1060 (lo ρ b I) [] w := by
  have h := B0.okx (e := e) (below := below) hc1 hc2
  obtain ⟨r, w1, w2, e1, e2, hR2⟩ := k_forget B w hB hR
  refine g_aload_n h 3 tL_1060 rfl ?_
  refine g_lcall h 75 (As := []) (st := []) my_X11_forget mi_X11_forget mL_170 rfl (by decide) rfl rfl rfl (Nat.le_of_ble_eq_true rfl) (by decide) tL_1061 (S_X11_forget B0.hin e1) ?_
  refine g_aload_n h 2 tL_1064 rfl ?_
  refine g_lcall h 119 (As := []) (st := [.int r]) my_X12_forget mi_X12_forget mL_173 rfl (by decide) rfl rfl rfl (Nat.le_of_ble_eq_true rfl) (by decide) tL_1065 (S_X12_forget B0.hin e2) ?_
  exact g_icmp_eq (B := some ()) (E := none) (rr := ()) (tgt := 1380) h tL_1068 (by decide) (if_pos rfl) (fun _ => kk _ hR2) (fun q => nomatch q)
theorem lc_35 (B0 : Bs p l s m meth c b L xs ρ cs G a) (hc1 : kc ≤ 601024) (hc2 : ks ≤ 7293034) (hB : B < 90000) (hR : Rel B w) (kk : ∀ w2, Rel (B + 108) w2 → gG ρ cs G (Lx p l e s m below meth c b kc ks) 1380 (lo ρ b I) [] w2) : gG ρ cs G (Lx p l e s m below meth c b kc ks) 1073 (lo ρ b I) [] w := by
  have h := B0.okx (e := e) (below := below) hc1 hc2
  obtain ⟨r, w1, w2, e1, e2, hR2⟩ := k_fits B w hB hR
  refine g_aload_n h 3 tL_1073 rfl ?_
  refine g_lcall h 75 (As := []) (st := []) my_X11_fits mi_X11_fits mL_174 rfl (by decide) rfl rfl rfl (Nat.le_of_ble_eq_true rfl) (by decide) tL_1074 (S_X11_fits B0.hin e1) ?_
  refine g_aload_n h 2 tL_1077 rfl ?_
  refine g_lcall h 119 (As := []) (st := [.int r]) my_X12_fits mi_X12_fits mL_177 rfl (by decide) rfl rfl rfl (Nat.le_of_ble_eq_true rfl) (by decide) tL_1078 (S_X12_fits B0.hin e2) ?_
  exact g_icmp_eq (B := some ()) (E := none) (rr := ()) (tgt := 1380) h tL_1081 (by decide) (if_pos rfl) (fun _ => kk _ hR2) (fun q => nomatch q)
theorem lc_36 (B0 : Bs p l s m meth c b L xs ρ cs G a) (hc1 : kc ≤ 601024) (hc2 : ks ≤ 7293034) (hB : B < 90000) (hR : Rel B w) (kk : ∀ w2, Rel (B + 108) w2 → gG ρ cs G (Lx p l e s m below meth c b kc ks) 1380 (lo ρ b I) [] w2) : gG ρ cs G (Lx p l e s m below meth c b kc ks) 1086 (lo ρ b I) [] w := by
  have h := B0.okx (e := e) (below := below) hc1 hc2
  obtain ⟨r, w1, w2, e1, e2, hR2⟩ := k_asks B w hB hR
  refine g_aload_n h 3 tL_1086 rfl ?_
  refine g_lcall h 75 (As := []) (st := []) my_X11_asks mi_X11_asks mL_178 rfl (by decide) rfl rfl rfl (Nat.le_of_ble_eq_true rfl) (by decide) tL_1087 (S_X11_asks B0.hin e1) ?_
  refine g_aload_n h 2 tL_1090 rfl ?_
  refine g_lcall h 119 (As := []) (st := [.int r]) my_X12_asks mi_X12_asks mL_181 rfl (by decide) rfl rfl rfl (Nat.le_of_ble_eq_true rfl) (by decide) tL_1091 (S_X12_asks B0.hin e2) ?_
  exact g_icmp_eq (B := some ()) (E := none) (rr := ()) (tgt := 1380) h tL_1094 (by decide) (if_pos rfl) (fun _ => kk _ hR2) (fun q => nomatch q)
theorem lc_37 (B0 : Bs p l s m meth c b L xs ρ cs G a) (hc1 : kc ≤ 601024) (hc2 : ks ≤ 7293034) (h1 : vp_in (I + 1) L) (h2 : vp_in (I + 2) L) (hB : B < 90000) (hR : Rel B w) (kk : ∀ w2, Rel (B + 108) w2 → gG ρ cs G (Lx p l e s m below meth c b kc ks) 1380 (lo ρ b I) [] w2) : gG ρ cs G (Lx p l e s m below meth c b kc ks) 1099 (lo ρ b I) [] w := by
  have h := B0.okx (e := e) (below := below) hc1 hc2
  obtain ⟨r, w1, w2, e1, e2, hR2⟩ := (k_saw ((xs (I + 1).toNatClampNeg)) ((xs (I + 2).toNatClampNeg))) B w hB hR
  refine g_aload_n h 3 tL_1099 rfl ?_
  refine g_aload_n h 4 tL_1100 rfl ?_
  refine g_iload h 0 tL_1101 rfl ?_
  refine g_iconst (v := 1) h tL_1103 (by decide) ?_
  refine g_iadd h tL_1104 ?_
  refine g_sld B0 h1 tL_1105 ?_
  refine g_aload_n h 4 tL_1106 rfl ?_
  refine g_iload h 0 tL_1107 rfl ?_
  refine g_iconst (v := 2) h tL_1109 (by decide) ?_
  refine g_iadd h tL_1110 ?_
  refine g_sld B0 h2 tL_1111 ?_
  refine g_lcall h 75 (As := [.int (xs (I + 1).toNatClampNeg), .int (xs (I + 2).toNatClampNeg)]) (st := []) my_X11_saw mi_X11_saw mL_182 rfl (by decide) rfl rfl rfl (Nat.le_of_ble_eq_true rfl) (by decide) tL_1112 (S_X11_saw B0.hin e1) ?_
  refine g_aload_n h 2 tL_1115 rfl ?_
  refine g_aload_n h 4 tL_1116 rfl ?_
  refine g_iload h 0 tL_1117 rfl ?_
  refine g_iconst (v := 1) h tL_1119 (by decide) ?_
  refine g_iadd h tL_1120 ?_
  refine g_sld B0 h1 tL_1121 ?_
  refine g_aload_n h 4 tL_1122 rfl ?_
  refine g_iload h 0 tL_1123 rfl ?_
  refine g_iconst (v := 2) h tL_1125 (by decide) ?_
  refine g_iadd h tL_1126 ?_
  refine g_sld B0 h2 tL_1127 ?_
  refine g_lcall h 119 (As := [.int (xs (I + 1).toNatClampNeg), .int (xs (I + 2).toNatClampNeg)]) (st := [.int r]) my_X12_saw mi_X12_saw mL_185 rfl (by decide) rfl rfl rfl (Nat.le_of_ble_eq_true rfl) (by decide) tL_1128 (S_X12_saw B0.hin e2) ?_
  exact g_icmp_eq (B := some ()) (E := none) (rr := ()) (tgt := 1380) h tL_1131 (by decide) (if_pos rfl) (fun _ => kk _ hR2) (fun q => nomatch q)
theorem lc_38 (B0 : Bs p l s m meth c b L xs ρ cs G a) (hc1 : kc ≤ 601024) (hc2 : ks ≤ 7293034) (hB : B < 90000) (hR : Rel B w) (kk : ∀ w2, Rel (B + 108) w2 → gG ρ cs G (Lx p l e s m below meth c b kc ks) 1380 (lo ρ b I) [] w2) : gG ρ cs G (Lx p l e s m below meth c b kc ks) 1136 (lo ρ b I) [] w := by
  have h := B0.okx (e := e) (below := below) hc1 hc2
  obtain ⟨r, w1, w2, e1, e2, hR2⟩ := k_denies B w hB hR
  refine g_aload_n h 3 tL_1136 rfl ?_
  refine g_lcall h 75 (As := []) (st := []) my_X11_denies mi_X11_denies mL_186 rfl (by decide) rfl rfl rfl (Nat.le_of_ble_eq_true rfl) (by decide) tL_1137 (S_X11_denies B0.hin e1) ?_
  refine g_aload_n h 2 tL_1140 rfl ?_
  refine g_lcall h 119 (As := []) (st := [.int r]) my_X12_denies mi_X12_denies mL_189 rfl (by decide) rfl rfl rfl (Nat.le_of_ble_eq_true rfl) (by decide) tL_1141 (S_X12_denies B0.hin e2) ?_
  exact g_icmp_eq (B := some ()) (E := none) (rr := ()) (tgt := 1380) h tL_1144 (by decide) (if_pos rfl) (fun _ => kk _ hR2) (fun q => nomatch q)
theorem lc_39 (B0 : Bs p l s m meth c b L xs ρ cs G a) (hc1 : kc ≤ 601024) (hc2 : ks ≤ 7293034) (hB : B < 90000) (hR : Rel B w) (kk : ∀ w2, Rel (B + 108) w2 → gG ρ cs G (Lx p l e s m below meth c b kc ks) 1380 (lo ρ b I) [] w2) : gG ρ cs G (Lx p l e s m below meth c b kc ks) 1149 (lo ρ b I) [] w := by
  have h := B0.okx (e := e) (below := below) hc1 hc2
  obtain ⟨r, w1, w2, e1, e2, hR2⟩ := k_guess B w hB hR
  refine g_aload_n h 3 tL_1149 rfl ?_
  refine g_lcall h 75 (As := []) (st := []) my_X11_guess mi_X11_guess mL_190 rfl (by decide) rfl rfl rfl (Nat.le_of_ble_eq_true rfl) (by decide) tL_1150 (S_X11_guess B0.hin e1) ?_
  refine g_aload_n h 2 tL_1153 rfl ?_
  refine g_lcall h 119 (As := []) (st := [.int r]) my_X12_guess mi_X12_guess mL_193 rfl (by decide) rfl rfl rfl (Nat.le_of_ble_eq_true rfl) (by decide) tL_1154 (S_X12_guess B0.hin e2) ?_
  exact g_icmp_eq (B := some ()) (E := none) (rr := ()) (tgt := 1380) h tL_1157 (by decide) (if_pos rfl) (fun _ => kk _ hR2) (fun q => nomatch q)
theorem lc_40 (B0 : Bs p l s m meth c b L xs ρ cs G a) (hc1 : kc ≤ 601024) (hc2 : ks ≤ 7293034) (hB : B < 90000) (hR : Rel B w) (kk : ∀ w2, Rel (B + 108) w2 → gG ρ cs G (Lx p l e s m below meth c b kc ks) 1380 (lo ρ b I) [] w2) : gG ρ cs G (Lx p l e s m below meth c b kc ks) 1162 (lo ρ b I) [] w := by
  have h := B0.okx (e := e) (below := below) hc1 hc2
  obtain ⟨r, w1, w2, e1, e2, hR2⟩ := k_tries B w hB hR
  refine g_aload_n h 3 tL_1162 rfl ?_
  refine g_lcall h 75 (As := []) (st := []) my_X11_tries mi_X11_tries mL_194 rfl (by decide) rfl rfl rfl (Nat.le_of_ble_eq_true rfl) (by decide) tL_1163 (S_X11_tries B0.hin e1) ?_
  refine g_aload_n h 2 tL_1166 rfl ?_
  refine g_lcall h 119 (As := []) (st := [.int r]) my_X12_tries mi_X12_tries mL_197 rfl (by decide) rfl rfl rfl (Nat.le_of_ble_eq_true rfl) (by decide) tL_1167 (S_X12_tries B0.hin e2) ?_
  exact g_icmp_eq (B := some ()) (E := none) (rr := ()) (tgt := 1380) h tL_1170 (by decide) (if_pos rfl) (fun _ => kk _ hR2) (fun q => nomatch q)
theorem lc_41 (B0 : Bs p l s m meth c b L xs ρ cs G a) (hc1 : kc ≤ 601024) (hc2 : ks ≤ 7293034) (h1 : vp_in (I + 1) L) (hB : B < 90000) (hR : Rel B w) (kk : ∀ w2, Rel (B + 108) w2 → gG ρ cs G (Lx p l e s m below meth c b kc ks) 1380 (lo ρ b I) [] w2) : gG ρ cs G (Lx p l e s m below meth c b kc ks) 1175 (lo ρ b I) [] w := by
  have h := B0.okx (e := e) (below := below) hc1 hc2
  obtain ⟨r, w1, w2, e1, e2, hR2⟩ := (k_bids ((xs (I + 1).toNatClampNeg))) B w hB hR
  refine g_aload_n h 3 tL_1175 rfl ?_
  refine g_aload_n h 4 tL_1176 rfl ?_
  refine g_iload h 0 tL_1177 rfl ?_
  refine g_iconst (v := 1) h tL_1179 (by decide) ?_
  refine g_iadd h tL_1180 ?_
  refine g_sld B0 h1 tL_1181 ?_
  refine g_lcall h 75 (As := [.int (xs (I + 1).toNatClampNeg)]) (st := []) my_X11_bids mi_X11_bids mL_198 rfl (by decide) rfl rfl rfl (Nat.le_of_ble_eq_true rfl) (by decide) tL_1182 (S_X11_bids B0.hin e1) ?_
  refine g_aload_n h 2 tL_1185 rfl ?_
  refine g_aload_n h 4 tL_1186 rfl ?_
  refine g_iload h 0 tL_1187 rfl ?_
  refine g_iconst (v := 1) h tL_1189 (by decide) ?_
  refine g_iadd h tL_1190 ?_
  refine g_sld B0 h1 tL_1191 ?_
  refine g_lcall h 119 (As := [.int (xs (I + 1).toNatClampNeg)]) (st := [.int r]) my_X12_bids mi_X12_bids mL_201 rfl (by decide) rfl rfl rfl (Nat.le_of_ble_eq_true rfl) (by decide) tL_1192 (S_X12_bids B0.hin e2) ?_
  exact g_icmp_eq (B := some ()) (E := none) (rr := ()) (tgt := 1380) h tL_1195 (by decide) (if_pos rfl) (fun _ => kk _ hR2) (fun q => nomatch q)
theorem lc_42 (B0 : Bs p l s m meth c b L xs ρ cs G a) (hc1 : kc ≤ 601024) (hc2 : ks ≤ 7293034) (hB : B < 90000) (hR : Rel B w) (kk : ∀ w2, Rel (B + 108) w2 → gG ρ cs G (Lx p l e s m below meth c b kc ks) 1380 (lo ρ b I) [] w2) : gG ρ cs G (Lx p l e s m below meth c b kc ks) 1200 (lo ρ b I) [] w := by
  have h := B0.okx (e := e) (below := below) hc1 hc2
  obtain ⟨r, w1, w2, e1, e2, hR2⟩ := call_other B w hB hR
  refine g_aload_n h 3 tL_1200 rfl ?_
  refine g_lcall h 75 (As := []) (st := []) my_X11_other mi_X11_other mL_202 rfl (by decide) rfl rfl rfl (Nat.le_of_ble_eq_true rfl) (by decide) tL_1201 (S_X11_other B0.hin e1) ?_
  refine g_aload_n h 2 tL_1204 rfl ?_
  refine g_lcall h 119 (As := []) (st := [.int r]) my_X12_other mi_X12_other mL_205 rfl (by decide) rfl rfl rfl (Nat.le_of_ble_eq_true rfl) (by decide) tL_1205 (S_X12_other B0.hin e2) ?_
  exact g_icmp_eq (B := some ()) (E := none) (rr := ()) (tgt := 1380) h tL_1208 (by decide) (if_pos rfl) (fun _ => kk _ hR2) (fun q => nomatch q)
theorem lc_43 (B0 : Bs p l s m meth c b L xs ρ cs G a) (hc1 : kc ≤ 601024) (hc2 : ks ≤ 7293034) (h1 : vp_in (I + 1) L) (h2 : vp_in (I + 2) L) (hB : B < 90000) (hR : Rel B w) (kk : ∀ w2, Rel (B + 108) w2 → gG ρ cs G (Lx p l e s m below meth c b kc ks) 1380 (lo ρ b I) [] w2) : gG ρ cs G (Lx p l e s m below meth c b kc ks) 1213 (lo ρ b I) [] w := by
  have h := B0.okx (e := e) (below := below) hc1 hc2
  obtain ⟨r, w1, w2, e1, e2, hR2⟩ := (k_years ((xs (I + 1).toNatClampNeg)) ((xs (I + 2).toNatClampNeg))) B w hB hR
  refine g_aload_n h 3 tL_1213 rfl ?_
  refine g_aload_n h 4 tL_1214 rfl ?_
  refine g_iload h 0 tL_1215 rfl ?_
  refine g_iconst (v := 1) h tL_1217 (by decide) ?_
  refine g_iadd h tL_1218 ?_
  refine g_sld B0 h1 tL_1219 ?_
  refine g_aload_n h 4 tL_1220 rfl ?_
  refine g_iload h 0 tL_1221 rfl ?_
  refine g_iconst (v := 2) h tL_1223 (by decide) ?_
  refine g_iadd h tL_1224 ?_
  refine g_sld B0 h2 tL_1225 ?_
  refine g_lcall h 75 (As := [.int (xs (I + 1).toNatClampNeg), .int (xs (I + 2).toNatClampNeg)]) (st := []) my_X11_years mi_X11_years mL_206 rfl (by decide) rfl rfl rfl (Nat.le_of_ble_eq_true rfl) (by decide) tL_1226 (S_X11_years B0.hin e1) ?_
  refine g_aload_n h 2 tL_1229 rfl ?_
  refine g_aload_n h 4 tL_1230 rfl ?_
  refine g_iload h 0 tL_1231 rfl ?_
  refine g_iconst (v := 1) h tL_1233 (by decide) ?_
  refine g_iadd h tL_1234 ?_
  refine g_sld B0 h1 tL_1235 ?_
  refine g_aload_n h 4 tL_1236 rfl ?_
  refine g_iload h 0 tL_1237 rfl ?_
  refine g_iconst (v := 2) h tL_1239 (by decide) ?_
  refine g_iadd h tL_1240 ?_
  refine g_sld B0 h2 tL_1241 ?_
  refine g_lcall h 119 (As := [.int (xs (I + 1).toNatClampNeg), .int (xs (I + 2).toNatClampNeg)]) (st := [.int r]) my_X12_years mi_X12_years mL_209 rfl (by decide) rfl rfl rfl (Nat.le_of_ble_eq_true rfl) (by decide) tL_1242 (S_X12_years B0.hin e2) ?_
  exact g_icmp_eq (B := some ()) (E := none) (rr := ()) (tgt := 1380) h tL_1245 (by decide) (if_pos rfl) (fun _ => kk _ hR2) (fun q => nomatch q)
theorem lc_44 (B0 : Bs p l s m meth c b L xs ρ cs G a) (hc1 : kc ≤ 601024) (hc2 : ks ≤ 7293034) (h1 : vp_in (I + 1) L) (hB : B < 90000) (hR : Rel B w) (kk : ∀ w2, Rel (B + 108) w2 → gG ρ cs G (Lx p l e s m below meth c b kc ks) 1380 (lo ρ b I) [] w2) : gG ρ cs G (Lx p l e s m below meth c b kc ks) 1250 (lo ρ b I) [] w := by
  have h := B0.okx (e := e) (below := below) hc1 hc2
  obtain ⟨r, w1, w2, e1, e2, hR2⟩ := (k_keep ((xs (I + 1).toNatClampNeg))) B w hB hR
  refine g_aload_n h 3 tL_1250 rfl ?_
  refine g_aload_n h 4 tL_1251 rfl ?_
  refine g_iload h 0 tL_1252 rfl ?_
  refine g_iconst (v := 1) h tL_1254 (by decide) ?_
  refine g_iadd h tL_1255 ?_
  refine g_sld B0 h1 tL_1256 ?_
  refine g_lcall h 75 (As := [.int (xs (I + 1).toNatClampNeg)]) (st := []) my_X11_keep mi_X11_keep mL_210 rfl (by decide) rfl rfl rfl (Nat.le_of_ble_eq_true rfl) (by decide) tL_1257 (S_X11_keep B0.hin e1) ?_
  refine g_aload_n h 2 tL_1260 rfl ?_
  refine g_aload_n h 4 tL_1261 rfl ?_
  refine g_iload h 0 tL_1262 rfl ?_
  refine g_iconst (v := 1) h tL_1264 (by decide) ?_
  refine g_iadd h tL_1265 ?_
  refine g_sld B0 h1 tL_1266 ?_
  refine g_lcall h 119 (As := [.int (xs (I + 1).toNatClampNeg)]) (st := [.int r]) my_X12_keep mi_X12_keep mL_213 rfl (by decide) rfl rfl rfl (Nat.le_of_ble_eq_true rfl) (by decide) tL_1267 (S_X12_keep B0.hin e2) ?_
  exact g_icmp_eq (B := some ()) (E := none) (rr := ()) (tgt := 1380) h tL_1270 (by decide) (if_pos rfl) (fun _ => kk _ hR2) (fun q => nomatch q)
theorem lc_45 (B0 : Bs p l s m meth c b L xs ρ cs G a) (hc1 : kc ≤ 601024) (hc2 : ks ≤ 7293034) (h1 : vp_in (I + 1) L) (hB : B < 90000) (hR : Rel B w) (kk : ∀ w2, Rel (B + 108) w2 → gG ρ cs G (Lx p l e s m below meth c b kc ks) 1380 (lo ρ b I) [] w2) : gG ρ cs G (Lx p l e s m below meth c b kc ks) 1275 (lo ρ b I) [] w := by
  have h := B0.okx (e := e) (below := below) hc1 hc2
  obtain ⟨r, w1, w2, e1, e2, hR2⟩ := (k_again ((xs (I + 1).toNatClampNeg))) B w hB hR
  refine g_aload_n h 3 tL_1275 rfl ?_
  refine g_aload_n h 4 tL_1276 rfl ?_
  refine g_iload h 0 tL_1277 rfl ?_
  refine g_iconst (v := 1) h tL_1279 (by decide) ?_
  refine g_iadd h tL_1280 ?_
  refine g_sld B0 h1 tL_1281 ?_
  refine g_lcall h 75 (As := [.int (xs (I + 1).toNatClampNeg)]) (st := []) my_X11_again mi_X11_again mL_214 rfl (by decide) rfl rfl rfl (Nat.le_of_ble_eq_true rfl) (by decide) tL_1282 (S_X11_again B0.hin e1) ?_
  refine g_aload_n h 2 tL_1285 rfl ?_
  refine g_aload_n h 4 tL_1286 rfl ?_
  refine g_iload h 0 tL_1287 rfl ?_
  refine g_iconst (v := 1) h tL_1289 (by decide) ?_
  refine g_iadd h tL_1290 ?_
  refine g_sld B0 h1 tL_1291 ?_
  refine g_lcall h 119 (As := [.int (xs (I + 1).toNatClampNeg)]) (st := [.int r]) my_X12_again mi_X12_again mL_217 rfl (by decide) rfl rfl rfl (Nat.le_of_ble_eq_true rfl) (by decide) tL_1292 (S_X12_again B0.hin e2) ?_
  exact g_icmp_eq (B := some ()) (E := none) (rr := ()) (tgt := 1380) h tL_1295 (by decide) (if_pos rfl) (fun _ => kk _ hR2) (fun q => nomatch q)
theorem lc_46 (B0 : Bs p l s m meth c b L xs ρ cs G a) (hc1 : kc ≤ 601024) (hc2 : ks ≤ 7293034) (h1 : vp_in (I + 1) L) (hB : B < 90000) (hR : Rel B w) (kk : ∀ w2, Rel (B + 108) w2 → gG ρ cs G (Lx p l e s m below meth c b kc ks) 1380 (lo ρ b I) [] w2) : gG ρ cs G (Lx p l e s m below meth c b kc ks) 1300 (lo ρ b I) [] w := by
  have h := B0.okx (e := e) (below := below) hc1 hc2
  obtain ⟨r, w1, w2, e1, e2, hR2⟩ := (k_count ((xs (I + 1).toNatClampNeg))) B w hB hR
  refine g_aload_n h 3 tL_1300 rfl ?_
  refine g_aload_n h 4 tL_1301 rfl ?_
  refine g_iload h 0 tL_1302 rfl ?_
  refine g_iconst (v := 1) h tL_1304 (by decide) ?_
  refine g_iadd h tL_1305 ?_
  refine g_sld B0 h1 tL_1306 ?_
  refine g_lcall h 75 (As := [.int (xs (I + 1).toNatClampNeg)]) (st := []) my_X11_count mi_X11_count mL_218 rfl (by decide) rfl rfl rfl (Nat.le_of_ble_eq_true rfl) (by decide) tL_1307 (S_X11_count B0.hin e1) ?_
  refine g_aload_n h 2 tL_1310 rfl ?_
  refine g_aload_n h 4 tL_1311 rfl ?_
  refine g_iload h 0 tL_1312 rfl ?_
  refine g_iconst (v := 1) h tL_1314 (by decide) ?_
  refine g_iadd h tL_1315 ?_
  refine g_sld B0 h1 tL_1316 ?_
  refine g_lcall h 119 (As := [.int (xs (I + 1).toNatClampNeg)]) (st := [.int r]) my_X12_count mi_X12_count mL_221 rfl (by decide) rfl rfl rfl (Nat.le_of_ble_eq_true rfl) (by decide) tL_1317 (S_X12_count B0.hin e2) ?_
  exact g_icmp_eq (B := some ()) (E := none) (rr := ()) (tgt := 1380) h tL_1320 (by decide) (if_pos rfl) (fun _ => kk _ hR2) (fun q => nomatch q)
end LC
