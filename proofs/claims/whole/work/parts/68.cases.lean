/-! the law's cases (laid by wip/whole/gen_law.py) -/
theorem lL_21 : px_yV "PowerRailsLaw" 21 0 y_PR_feed c_PR_feed 6 (some .int) 5 := ⟨⟨⟨(px_w 539 (by decide +kernel) (by decide +kernel)), (px_w 100 (by decide +kernel) (by decide +kernel)), (px_w 542 (by decide +kernel) (by decide +kernel))⟩, by decide +kernel, by decide +kernel, by decide +kernel⟩, (px_w 540 (by decide +kernel) (by decide +kernel)), (px_w 541 (by decide +kernel) (by decide +kernel)), rfl⟩
theorem lL_25 : px_yV "PowerRailsLaw" 25 6 y_Mo_feed c_Mo_feed 8 (some .int) 5 := ⟨⟨⟨(px_w 1283 (by decide +kernel) (by decide +kernel)), (px_w 110 (by decide +kernel) (by decide +kernel)), (px_w 1286 (by decide +kernel) (by decide +kernel))⟩, by decide +kernel, by decide +kernel, by decide +kernel⟩, (px_w 1284 (by decide +kernel) (by decide +kernel)), (px_w 1285 (by decide +kernel) (by decide +kernel)), rfl⟩
theorem lL_26 : px_yV "PowerRailsLaw" 26 0 y_PR_text c_PR_text 4 (some .int) 1 := ⟨⟨⟨(px_w 547 (by decide +kernel) (by decide +kernel)), (px_w 100 (by decide +kernel) (by decide +kernel)), (px_w 550 (by decide +kernel) (by decide +kernel))⟩, by decide +kernel, by decide +kernel, by decide +kernel⟩, (px_w 548 (by decide +kernel) (by decide +kernel)), (px_w 549 (by decide +kernel) (by decide +kernel)), rfl⟩
theorem lL_30 : px_yV "PowerRailsLaw" 30 6 y_Mo_text c_Mo_text 2 (some .int) 1 := ⟨⟨⟨(px_w 1287 (by decide +kernel) (by decide +kernel)), (px_w 110 (by decide +kernel) (by decide +kernel)), (px_w 1290 (by decide +kernel) (by decide +kernel))⟩, by decide +kernel, by decide +kernel, by decide +kernel⟩, (px_w 1288 (by decide +kernel) (by decide +kernel)), (px_w 1289 (by decide +kernel) (by decide +kernel)), rfl⟩
theorem lL_31 : px_yV "PowerRailsLaw" 31 0 y_PR_fault c_PR_fault 2 (some .int) 1 := ⟨⟨⟨(px_w 676 (by decide +kernel) (by decide +kernel)), (px_w 100 (by decide +kernel) (by decide +kernel)), (px_w 679 (by decide +kernel) (by decide +kernel))⟩, by decide +kernel, by decide +kernel, by decide +kernel⟩, (px_w 677 (by decide +kernel) (by decide +kernel)), (px_w 678 (by decide +kernel) (by decide +kernel)), rfl⟩
theorem lL_34 : px_yV "PowerRailsLaw" 34 6 y_Mo_fault c_Mo_fault 2 (some .int) 1 := ⟨⟨⟨(px_w 1365 (by decide +kernel) (by decide +kernel)), (px_w 110 (by decide +kernel) (by decide +kernel)), (px_w 1368 (by decide +kernel) (by decide +kernel))⟩, by decide +kernel, by decide +kernel, by decide +kernel⟩, (px_w 1366 (by decide +kernel) (by decide +kernel)), (px_w 1367 (by decide +kernel) (by decide +kernel)), rfl⟩
theorem lL_35 : px_yV "PowerRailsLaw" 35 0 y_PR_named c_PR_named 2 (some .int) 1 := ⟨⟨⟨(px_w 680 (by decide +kernel) (by decide +kernel)), (px_w 100 (by decide +kernel) (by decide +kernel)), (px_w 683 (by decide +kernel) (by decide +kernel))⟩, by decide +kernel, by decide +kernel, by decide +kernel⟩, (px_w 681 (by decide +kernel) (by decide +kernel)), (px_w 682 (by decide +kernel) (by decide +kernel)), rfl⟩
theorem lL_38 : px_yV "PowerRailsLaw" 38 6 y_Mo_named c_Mo_named 2 (some .int) 1 := ⟨⟨⟨(px_w 1369 (by decide +kernel) (by decide +kernel)), (px_w 110 (by decide +kernel) (by decide +kernel)), (px_w 1372 (by decide +kernel) (by decide +kernel))⟩, by decide +kernel, by decide +kernel, by decide +kernel⟩, (px_w 1370 (by decide +kernel) (by decide +kernel)), (px_w 1371 (by decide +kernel) (by decide +kernel)), rfl⟩
theorem lL_39 : px_yV "PowerRailsLaw" 39 0 y_PR_tick c_PR_tick 3 (some .int) 1 := ⟨⟨⟨(px_w 685 (by decide +kernel) (by decide +kernel)), (px_w 100 (by decide +kernel) (by decide +kernel)), (px_w 688 (by decide +kernel) (by decide +kernel))⟩, by decide +kernel, by decide +kernel, by decide +kernel⟩, (px_w 686 (by decide +kernel) (by decide +kernel)), (px_w 687 (by decide +kernel) (by decide +kernel)), rfl⟩
theorem lL_42 : px_yV "PowerRailsLaw" 42 6 y_Mo_tick c_Mo_tick 3 (some .int) 1 := ⟨⟨⟨(px_w 1388 (by decide +kernel) (by decide +kernel)), (px_w 110 (by decide +kernel) (by decide +kernel)), (px_w 1391 (by decide +kernel) (by decide +kernel))⟩, by decide +kernel, by decide +kernel, by decide +kernel⟩, (px_w 1389 (by decide +kernel) (by decide +kernel)), (px_w 1390 (by decide +kernel) (by decide +kernel)), rfl⟩
theorem lL_43 : px_yV "PowerRailsLaw" 43 0 y_PR_ask c_PR_ask 3 (some .int) 2 := ⟨⟨⟨(px_w 822 (by decide +kernel) (by decide +kernel)), (px_w 100 (by decide +kernel) (by decide +kernel)), (px_w 825 (by decide +kernel) (by decide +kernel))⟩, by decide +kernel, by decide +kernel, by decide +kernel⟩, (px_w 823 (by decide +kernel) (by decide +kernel)), (px_w 824 (by decide +kernel) (by decide +kernel)), rfl⟩
theorem lL_47 : px_yV "PowerRailsLaw" 47 6 y_Mo_ask c_Mo_ask 3 (some .int) 2 := ⟨⟨⟨(px_w 1484 (by decide +kernel) (by decide +kernel)), (px_w 110 (by decide +kernel) (by decide +kernel)), (px_w 1487 (by decide +kernel) (by decide +kernel))⟩, by decide +kernel, by decide +kernel, by decide +kernel⟩, (px_w 1485 (by decide +kernel) (by decide +kernel)), (px_w 1486 (by decide +kernel) (by decide +kernel)), rfl⟩
theorem lL_48 : px_yV "PowerRailsLaw" 48 0 y_PR_begin c_PR_begin 1 (some .int) 0 := ⟨⟨⟨(px_w 831 (by decide +kernel) (by decide +kernel)), (px_w 100 (by decide +kernel) (by decide +kernel)), (px_w 834 (by decide +kernel) (by decide +kernel))⟩, by decide +kernel, by decide +kernel, by decide +kernel⟩, (px_w 832 (by decide +kernel) (by decide +kernel)), (px_w 833 (by decide +kernel) (by decide +kernel)), rfl⟩
theorem lL_52 : px_yV "PowerRailsLaw" 52 6 y_Mo_begin c_Mo_begin 1 (some .int) 0 := ⟨⟨⟨(px_w 1492 (by decide +kernel) (by decide +kernel)), (px_w 110 (by decide +kernel) (by decide +kernel)), (px_w 1495 (by decide +kernel) (by decide +kernel))⟩, by decide +kernel, by decide +kernel, by decide +kernel⟩, (px_w 1493 (by decide +kernel) (by decide +kernel)), (px_w 1494 (by decide +kernel) (by decide +kernel)), rfl⟩
theorem lL_53 : px_yV "PowerRailsLaw" 53 0 y_PR_load c_PR_load 4 (some .int) 2 := ⟨⟨⟨(px_w 839 (by decide +kernel) (by decide +kernel)), (px_w 100 (by decide +kernel) (by decide +kernel)), (px_w 842 (by decide +kernel) (by decide +kernel))⟩, by decide +kernel, by decide +kernel, by decide +kernel⟩, (px_w 840 (by decide +kernel) (by decide +kernel)), (px_w 841 (by decide +kernel) (by decide +kernel)), rfl⟩
theorem lL_56 : px_yV "PowerRailsLaw" 56 6 y_Mo_load c_Mo_load 4 (some .int) 2 := ⟨⟨⟨(px_w 1496 (by decide +kernel) (by decide +kernel)), (px_w 110 (by decide +kernel) (by decide +kernel)), (px_w 1499 (by decide +kernel) (by decide +kernel))⟩, by decide +kernel, by decide +kernel, by decide +kernel⟩, (px_w 1497 (by decide +kernel) (by decide +kernel)), (px_w 1498 (by decide +kernel) (by decide +kernel)), rfl⟩
theorem lL_57 : px_yV "PowerRailsLaw" 57 0 y_PR_limit c_PR_limit 4 (some .int) 2 := ⟨⟨⟨(px_w 843 (by decide +kernel) (by decide +kernel)), (px_w 100 (by decide +kernel) (by decide +kernel)), (px_w 846 (by decide +kernel) (by decide +kernel))⟩, by decide +kernel, by decide +kernel, by decide +kernel⟩, (px_w 844 (by decide +kernel) (by decide +kernel)), (px_w 845 (by decide +kernel) (by decide +kernel)), rfl⟩
theorem lL_60 : px_yV "PowerRailsLaw" 60 6 y_Mo_limit c_Mo_limit 4 (some .int) 2 := ⟨⟨⟨(px_w 1500 (by decide +kernel) (by decide +kernel)), (px_w 110 (by decide +kernel) (by decide +kernel)), (px_w 1503 (by decide +kernel) (by decide +kernel))⟩, by decide +kernel, by decide +kernel, by decide +kernel⟩, (px_w 1501 (by decide +kernel) (by decide +kernel)), (px_w 1502 (by decide +kernel) (by decide +kernel)), rfl⟩
theorem lL_70 : px_yV "PowerRailsLaw" 70 0 y_PR_hangs c_PR_hangs 3 (some .int) 2 := ⟨⟨⟨(px_w 848 (by decide +kernel) (by decide +kernel)), (px_w 100 (by decide +kernel) (by decide +kernel)), (px_w 851 (by decide +kernel) (by decide +kernel))⟩, by decide +kernel, by decide +kernel, by decide +kernel⟩, (px_w 849 (by decide +kernel) (by decide +kernel)), (px_w 850 (by decide +kernel) (by decide +kernel)), rfl⟩
theorem lL_73 : px_yV "PowerRailsLaw" 73 6 y_Mo_hangs c_Mo_hangs 3 (some .int) 2 := ⟨⟨⟨(px_w 1508 (by decide +kernel) (by decide +kernel)), (px_w 110 (by decide +kernel) (by decide +kernel)), (px_w 1511 (by decide +kernel) (by decide +kernel))⟩, by decide +kernel, by decide +kernel, by decide +kernel⟩, (px_w 1509 (by decide +kernel) (by decide +kernel)), (px_w 1510 (by decide +kernel) (by decide +kernel)), rfl⟩
theorem lL_74 : px_yV "PowerRailsLaw" 74 0 y_PR_waiting c_PR_waiting 3 (some .int) 2 := ⟨⟨⟨(px_w 852 (by decide +kernel) (by decide +kernel)), (px_w 100 (by decide +kernel) (by decide +kernel)), (px_w 855 (by decide +kernel) (by decide +kernel))⟩, by decide +kernel, by decide +kernel, by decide +kernel⟩, (px_w 853 (by decide +kernel) (by decide +kernel)), (px_w 854 (by decide +kernel) (by decide +kernel)), rfl⟩
theorem lL_77 : px_yV "PowerRailsLaw" 77 6 y_Mo_waiting c_Mo_waiting 4 (some .int) 2 := ⟨⟨⟨(px_w 1512 (by decide +kernel) (by decide +kernel)), (px_w 110 (by decide +kernel) (by decide +kernel)), (px_w 1515 (by decide +kernel) (by decide +kernel))⟩, by decide +kernel, by decide +kernel, by decide +kernel⟩, (px_w 1513 (by decide +kernel) (by decide +kernel)), (px_w 1514 (by decide +kernel) (by decide +kernel)), rfl⟩
theorem lL_78 : px_yV "PowerRailsLaw" 78 0 y_PR_sequence c_PR_sequence 2 (some .int) 1 := ⟨⟨⟨(px_w 857 (by decide +kernel) (by decide +kernel)), (px_w 100 (by decide +kernel) (by decide +kernel)), (px_w 860 (by decide +kernel) (by decide +kernel))⟩, by decide +kernel, by decide +kernel, by decide +kernel⟩, (px_w 858 (by decide +kernel) (by decide +kernel)), (px_w 859 (by decide +kernel) (by decide +kernel)), rfl⟩
theorem lL_81 : px_yV "PowerRailsLaw" 81 6 y_Mo_sequence c_Mo_sequence 2 (some .int) 1 := ⟨⟨⟨(px_w 1516 (by decide +kernel) (by decide +kernel)), (px_w 110 (by decide +kernel) (by decide +kernel)), (px_w 1519 (by decide +kernel) (by decide +kernel))⟩, by decide +kernel, by decide +kernel, by decide +kernel⟩, (px_w 1517 (by decide +kernel) (by decide +kernel)), (px_w 1518 (by decide +kernel) (by decide +kernel)), rfl⟩
theorem lL_82 : px_yV "PowerRailsLaw" 82 0 y_PR_step c_PR_step 3 (some .int) 2 := ⟨⟨⟨(px_w 861 (by decide +kernel) (by decide +kernel)), (px_w 100 (by decide +kernel) (by decide +kernel)), (px_w 864 (by decide +kernel) (by decide +kernel))⟩, by decide +kernel, by decide +kernel, by decide +kernel⟩, (px_w 862 (by decide +kernel) (by decide +kernel)), (px_w 863 (by decide +kernel) (by decide +kernel)), rfl⟩
theorem lL_85 : px_yV "PowerRailsLaw" 85 6 y_Mo_step c_Mo_step 3 (some .int) 2 := ⟨⟨⟨(px_w 1520 (by decide +kernel) (by decide +kernel)), (px_w 110 (by decide +kernel) (by decide +kernel)), (px_w 1523 (by decide +kernel) (by decide +kernel))⟩, by decide +kernel, by decide +kernel, by decide +kernel⟩, (px_w 1521 (by decide +kernel) (by decide +kernel)), (px_w 1522 (by decide +kernel) (by decide +kernel)), rfl⟩
theorem lL_86 : px_yV "PowerRailsLaw" 86 0 y_PR_why c_PR_why 2 (some .int) 1 := ⟨⟨⟨(px_w 865 (by decide +kernel) (by decide +kernel)), (px_w 100 (by decide +kernel) (by decide +kernel)), (px_w 868 (by decide +kernel) (by decide +kernel))⟩, by decide +kernel, by decide +kernel, by decide +kernel⟩, (px_w 866 (by decide +kernel) (by decide +kernel)), (px_w 867 (by decide +kernel) (by decide +kernel)), rfl⟩
theorem lL_89 : px_yV "PowerRailsLaw" 89 6 y_Mo_why c_Mo_why 2 (some .int) 1 := ⟨⟨⟨(px_w 1524 (by decide +kernel) (by decide +kernel)), (px_w 110 (by decide +kernel) (by decide +kernel)), (px_w 1527 (by decide +kernel) (by decide +kernel))⟩, by decide +kernel, by decide +kernel, by decide +kernel⟩, (px_w 1525 (by decide +kernel) (by decide +kernel)), (px_w 1526 (by decide +kernel) (by decide +kernel)), rfl⟩
theorem lL_90 : px_yV "PowerRailsLaw" 90 0 y_PR_ring c_PR_ring 2 (some .int) 1 := ⟨⟨⟨(px_w 871 (by decide +kernel) (by decide +kernel)), (px_w 100 (by decide +kernel) (by decide +kernel)), (px_w 874 (by decide +kernel) (by decide +kernel))⟩, by decide +kernel, by decide +kernel, by decide +kernel⟩, (px_w 872 (by decide +kernel) (by decide +kernel)), (px_w 873 (by decide +kernel) (by decide +kernel)), rfl⟩
theorem lL_93 : px_yV "PowerRailsLaw" 93 6 y_Mo_ring c_Mo_ring 2 (some .int) 1 := ⟨⟨⟨(px_w 1536 (by decide +kernel) (by decide +kernel)), (px_w 110 (by decide +kernel) (by decide +kernel)), (px_w 1539 (by decide +kernel) (by decide +kernel))⟩, by decide +kernel, by decide +kernel, by decide +kernel⟩, (px_w 1537 (by decide +kernel) (by decide +kernel)), (px_w 1538 (by decide +kernel) (by decide +kernel)), rfl⟩
theorem lL_94 : px_yV "PowerRailsLaw" 94 0 y_PR_never c_PR_never 2 (some .int) 1 := ⟨⟨⟨(px_w 890 (by decide +kernel) (by decide +kernel)), (px_w 100 (by decide +kernel) (by decide +kernel)), (px_w 893 (by decide +kernel) (by decide +kernel))⟩, by decide +kernel, by decide +kernel, by decide +kernel⟩, (px_w 891 (by decide +kernel) (by decide +kernel)), (px_w 892 (by decide +kernel) (by decide +kernel)), rfl⟩
theorem lL_97 : px_yV "PowerRailsLaw" 97 6 y_Mo_never c_Mo_never 5 (some .int) 1 := ⟨⟨⟨(px_w 1552 (by decide +kernel) (by decide +kernel)), (px_w 110 (by decide +kernel) (by decide +kernel)), (px_w 1555 (by decide +kernel) (by decide +kernel))⟩, by decide +kernel, by decide +kernel, by decide +kernel⟩, (px_w 1553 (by decide +kernel) (by decide +kernel)), (px_w 1554 (by decide +kernel) (by decide +kernel)), rfl⟩
theorem lL_98 : px_yV "PowerRailsLaw" 98 0 y_PR_order c_PR_order 2 (some .int) 1 := ⟨⟨⟨(px_w 898 (by decide +kernel) (by decide +kernel)), (px_w 100 (by decide +kernel) (by decide +kernel)), (px_w 901 (by decide +kernel) (by decide +kernel))⟩, by decide +kernel, by decide +kernel, by decide +kernel⟩, (px_w 899 (by decide +kernel) (by decide +kernel)), (px_w 900 (by decide +kernel) (by decide +kernel)), rfl⟩
theorem lL_101 : px_yV "PowerRailsLaw" 101 6 y_Mo_order c_Mo_order 5 (some .int) 1 := ⟨⟨⟨(px_w 1576 (by decide +kernel) (by decide +kernel)), (px_w 110 (by decide +kernel) (by decide +kernel)), (px_w 1579 (by decide +kernel) (by decide +kernel))⟩, by decide +kernel, by decide +kernel, by decide +kernel⟩, (px_w 1577 (by decide +kernel) (by decide +kernel)), (px_w 1578 (by decide +kernel) (by decide +kernel)), rfl⟩
theorem lL_102 : px_yV "PowerRailsLaw" 102 0 y_PR_heat c_PR_heat 1 (some .int) 0 := ⟨⟨⟨(px_w 928 (by decide +kernel) (by decide +kernel)), (px_w 100 (by decide +kernel) (by decide +kernel)), (px_w 931 (by decide +kernel) (by decide +kernel))⟩, by decide +kernel, by decide +kernel, by decide +kernel⟩, (px_w 929 (by decide +kernel) (by decide +kernel)), (px_w 930 (by decide +kernel) (by decide +kernel)), rfl⟩
theorem lL_105 : px_yV "PowerRailsLaw" 105 6 y_Mo_heat c_Mo_heat 1 (some .int) 0 := ⟨⟨⟨(px_w 1556 (by decide +kernel) (by decide +kernel)), (px_w 110 (by decide +kernel) (by decide +kernel)), (px_w 1559 (by decide +kernel) (by decide +kernel))⟩, by decide +kernel, by decide +kernel, by decide +kernel⟩, (px_w 1557 (by decide +kernel) (by decide +kernel)), (px_w 1558 (by decide +kernel) (by decide +kernel)), rfl⟩
theorem lL_106 : px_yV "PowerRailsLaw" 106 0 y_PR_ahead c_PR_ahead 7 (some .int) 3 := ⟨⟨⟨(px_w 964 (by decide +kernel) (by decide +kernel)), (px_w 100 (by decide +kernel) (by decide +kernel)), (px_w 967 (by decide +kernel) (by decide +kernel))⟩, by decide +kernel, by decide +kernel, by decide +kernel⟩, (px_w 965 (by decide +kernel) (by decide +kernel)), (px_w 966 (by decide +kernel) (by decide +kernel)), rfl⟩
theorem lL_110 : px_yV "PowerRailsLaw" 110 6 y_Mo_ahead c_Mo_ahead 8 (some .int) 3 := ⟨⟨⟨(px_w 1580 (by decide +kernel) (by decide +kernel)), (px_w 110 (by decide +kernel) (by decide +kernel)), (px_w 1583 (by decide +kernel) (by decide +kernel))⟩, by decide +kernel, by decide +kernel, by decide +kernel⟩, (px_w 1581 (by decide +kernel) (by decide +kernel)), (px_w 1582 (by decide +kernel) (by decide +kernel)), rfl⟩
theorem lL_111 : px_yV "PowerRailsLaw" 111 0 y_PR_peak c_PR_peak 4 (some .int) 1 := ⟨⟨⟨(px_w 969 (by decide +kernel) (by decide +kernel)), (px_w 100 (by decide +kernel) (by decide +kernel)), (px_w 972 (by decide +kernel) (by decide +kernel))⟩, by decide +kernel, by decide +kernel, by decide +kernel⟩, (px_w 970 (by decide +kernel) (by decide +kernel)), (px_w 971 (by decide +kernel) (by decide +kernel)), rfl⟩
theorem lL_114 : px_yV "PowerRailsLaw" 114 6 y_Mo_peak c_Mo_peak 4 (some .int) 1 := ⟨⟨⟨(px_w 1587 (by decide +kernel) (by decide +kernel)), (px_w 110 (by decide +kernel) (by decide +kernel)), (px_w 1590 (by decide +kernel) (by decide +kernel))⟩, by decide +kernel, by decide +kernel, by decide +kernel⟩, (px_w 1588 (by decide +kernel) (by decide +kernel)), (px_w 1589 (by decide +kernel) (by decide +kernel)), rfl⟩
theorem lL_115 : px_yV "PowerRailsLaw" 115 0 y_PR_quiet c_PR_quiet 2 (some .int) 0 := ⟨⟨⟨(px_w 973 (by decide +kernel) (by decide +kernel)), (px_w 100 (by decide +kernel) (by decide +kernel)), (px_w 976 (by decide +kernel) (by decide +kernel))⟩, by decide +kernel, by decide +kernel, by decide +kernel⟩, (px_w 974 (by decide +kernel) (by decide +kernel)), (px_w 975 (by decide +kernel) (by decide +kernel)), rfl⟩
theorem lL_118 : px_yV "PowerRailsLaw" 118 6 y_Mo_quiet c_Mo_quiet 3 (some .int) 0 := ⟨⟨⟨(px_w 1591 (by decide +kernel) (by decide +kernel)), (px_w 110 (by decide +kernel) (by decide +kernel)), (px_w 1594 (by decide +kernel) (by decide +kernel))⟩, by decide +kernel, by decide +kernel, by decide +kernel⟩, (px_w 1592 (by decide +kernel) (by decide +kernel)), (px_w 1593 (by decide +kernel) (by decide +kernel)), rfl⟩
theorem lL_119 : px_yV "PowerRailsLaw" 119 0 y_PR_leastLimit c_PR_leastLimit 5 (some .int) 1 := ⟨⟨⟨(px_w 981 (by decide +kernel) (by decide +kernel)), (px_w 100 (by decide +kernel) (by decide +kernel)), (px_w 984 (by decide +kernel) (by decide +kernel))⟩, by decide +kernel, by decide +kernel, by decide +kernel⟩, (px_w 982 (by decide +kernel) (by decide +kernel)), (px_w 983 (by decide +kernel) (by decide +kernel)), rfl⟩
theorem lL_122 : px_yV "PowerRailsLaw" 122 6 y_Mo_leastLimit c_Mo_leastLimit 5 (some .int) 1 := ⟨⟨⟨(px_w 1599 (by decide +kernel) (by decide +kernel)), (px_w 110 (by decide +kernel) (by decide +kernel)), (px_w 1602 (by decide +kernel) (by decide +kernel))⟩, by decide +kernel, by decide +kernel, by decide +kernel⟩, (px_w 1600 (by decide +kernel) (by decide +kernel)), (px_w 1601 (by decide +kernel) (by decide +kernel)), rfl⟩
theorem lL_123 : px_yV "PowerRailsLaw" 123 0 y_PR_ifLoad c_PR_ifLoad 5 (some .int) 2 := ⟨⟨⟨(px_w 986 (by decide +kernel) (by decide +kernel)), (px_w 100 (by decide +kernel) (by decide +kernel)), (px_w 989 (by decide +kernel) (by decide +kernel))⟩, by decide +kernel, by decide +kernel, by decide +kernel⟩, (px_w 987 (by decide +kernel) (by decide +kernel)), (px_w 988 (by decide +kernel) (by decide +kernel)), rfl⟩
theorem lL_126 : px_yV "PowerRailsLaw" 126 6 y_Mo_ifLoad c_Mo_ifLoad 5 (some .int) 2 := ⟨⟨⟨(px_w 1603 (by decide +kernel) (by decide +kernel)), (px_w 110 (by decide +kernel) (by decide +kernel)), (px_w 1606 (by decide +kernel) (by decide +kernel))⟩, by decide +kernel, by decide +kernel, by decide +kernel⟩, (px_w 1604 (by decide +kernel) (by decide +kernel)), (px_w 1605 (by decide +kernel) (by decide +kernel)), rfl⟩
theorem lL_127 : px_yV "PowerRailsLaw" 127 0 y_PR_ifOff c_PR_ifOff 4 (some .int) 1 := ⟨⟨⟨(px_w 990 (by decide +kernel) (by decide +kernel)), (px_w 100 (by decide +kernel) (by decide +kernel)), (px_w 993 (by decide +kernel) (by decide +kernel))⟩, by decide +kernel, by decide +kernel, by decide +kernel⟩, (px_w 991 (by decide +kernel) (by decide +kernel)), (px_w 992 (by decide +kernel) (by decide +kernel)), rfl⟩
theorem lL_130 : px_yV "PowerRailsLaw" 130 6 y_Mo_ifOff c_Mo_ifOff 5 (some .int) 1 := ⟨⟨⟨(px_w 1607 (by decide +kernel) (by decide +kernel)), (px_w 110 (by decide +kernel) (by decide +kernel)), (px_w 1610 (by decide +kernel) (by decide +kernel))⟩, by decide +kernel, by decide +kernel, by decide +kernel⟩, (px_w 1608 (by decide +kernel) (by decide +kernel)), (px_w 1609 (by decide +kernel) (by decide +kernel)), rfl⟩
theorem lL_131 : px_yV "PowerRailsLaw" 131 0 y_PR_bestOff c_PR_bestOff 6 (some .int) 1 := ⟨⟨⟨(px_w 994 (by decide +kernel) (by decide +kernel)), (px_w 100 (by decide +kernel) (by decide +kernel)), (px_w 997 (by decide +kernel) (by decide +kernel))⟩, by decide +kernel, by decide +kernel, by decide +kernel⟩, (px_w 995 (by decide +kernel) (by decide +kernel)), (px_w 996 (by decide +kernel) (by decide +kernel)), rfl⟩
theorem lL_134 : px_yV "PowerRailsLaw" 134 6 y_Mo_bestOff c_Mo_bestOff 6 (some .int) 1 := ⟨⟨⟨(px_w 1611 (by decide +kernel) (by decide +kernel)), (px_w 110 (by decide +kernel) (by decide +kernel)), (px_w 1614 (by decide +kernel) (by decide +kernel))⟩, by decide +kernel, by decide +kernel, by decide +kernel⟩, (px_w 1612 (by decide +kernel) (by decide +kernel)), (px_w 1613 (by decide +kernel) (by decide +kernel)), rfl⟩
theorem lL_135 : px_yV "PowerRailsLaw" 135 0 y_PR_total c_PR_total 1 (some .int) 0 := ⟨⟨⟨(px_w 934 (by decide +kernel) (by decide +kernel)), (px_w 100 (by decide +kernel) (by decide +kernel)), (px_w 937 (by decide +kernel) (by decide +kernel))⟩, by decide +kernel, by decide +kernel, by decide +kernel⟩, (px_w 935 (by decide +kernel) (by decide +kernel)), (px_w 936 (by decide +kernel) (by decide +kernel)), rfl⟩
theorem lL_138 : px_yV "PowerRailsLaw" 138 6 y_Mo_total c_Mo_total 1 (some .int) 0 := ⟨⟨⟨(px_w 1528 (by decide +kernel) (by decide +kernel)), (px_w 110 (by decide +kernel) (by decide +kernel)), (px_w 1531 (by decide +kernel) (by decide +kernel))⟩, by decide +kernel, by decide +kernel, by decide +kernel⟩, (px_w 1529 (by decide +kernel) (by decide +kernel)), (px_w 1530 (by decide +kernel) (by decide +kernel)), rfl⟩
theorem lL_139 : px_yV "PowerRailsLaw" 139 0 y_PR_log c_PR_log 4 (some .int) 2 := ⟨⟨⟨(px_w 938 (by decide +kernel) (by decide +kernel)), (px_w 100 (by decide +kernel) (by decide +kernel)), (px_w 941 (by decide +kernel) (by decide +kernel))⟩, by decide +kernel, by decide +kernel, by decide +kernel⟩, (px_w 939 (by decide +kernel) (by decide +kernel)), (px_w 940 (by decide +kernel) (by decide +kernel)), rfl⟩
theorem lL_142 : px_yV "PowerRailsLaw" 142 6 y_Mo_log c_Mo_log 3 (some .int) 2 := ⟨⟨⟨(px_w 1532 (by decide +kernel) (by decide +kernel)), (px_w 110 (by decide +kernel) (by decide +kernel)), (px_w 1535 (by decide +kernel) (by decide +kernel))⟩, by decide +kernel, by decide +kernel, by decide +kernel⟩, (px_w 1533 (by decide +kernel) (by decide +kernel)), (px_w 1534 (by decide +kernel) (by decide +kernel)), rfl⟩
theorem lL_143 : px_yV "PowerRailsLaw" 143 0 y_PR_chance c_PR_chance 6 (some .int) 4 := ⟨⟨⟨(px_w 1003 (by decide +kernel) (by decide +kernel)), (px_w 100 (by decide +kernel) (by decide +kernel)), (px_w 1006 (by decide +kernel) (by decide +kernel))⟩, by decide +kernel, by decide +kernel, by decide +kernel⟩, (px_w 1004 (by decide +kernel) (by decide +kernel)), (px_w 1005 (by decide +kernel) (by decide +kernel)), rfl⟩
theorem lL_147 : px_yV "PowerRailsLaw" 147 6 y_Mo_chance c_Mo_chance 9 (some .int) 4 := ⟨⟨⟨(px_w 1615 (by decide +kernel) (by decide +kernel)), (px_w 110 (by decide +kernel) (by decide +kernel)), (px_w 1618 (by decide +kernel) (by decide +kernel))⟩, by decide +kernel, by decide +kernel, by decide +kernel⟩, (px_w 1616 (by decide +kernel) (by decide +kernel)), (px_w 1617 (by decide +kernel) (by decide +kernel)), rfl⟩
theorem lL_148 : px_yV "PowerRailsLaw" 148 0 y_PR_undo c_PR_undo 1 (some .int) 0 := ⟨⟨⟨(px_w 1020 (by decide +kernel) (by decide +kernel)), (px_w 100 (by decide +kernel) (by decide +kernel)), (px_w 1023 (by decide +kernel) (by decide +kernel))⟩, by decide +kernel, by decide +kernel, by decide +kernel⟩, (px_w 1021 (by decide +kernel) (by decide +kernel)), (px_w 1022 (by decide +kernel) (by decide +kernel)), rfl⟩
theorem lL_151 : px_yV "PowerRailsLaw" 151 6 y_Mo_undo c_Mo_undo 1 (some .int) 0 := ⟨⟨⟨(px_w 1373 (by decide +kernel) (by decide +kernel)), (px_w 110 (by decide +kernel) (by decide +kernel)), (px_w 1376 (by decide +kernel) (by decide +kernel))⟩, by decide +kernel, by decide +kernel, by decide +kernel⟩, (px_w 1374 (by decide +kernel) (by decide +kernel)), (px_w 1375 (by decide +kernel) (by decide +kernel)), rfl⟩
theorem lL_152 : px_yV "PowerRailsLaw" 152 0 y_PR_keep c_PR_keep 1 (some .int) 0 := ⟨⟨⟨(px_w 1024 (by decide +kernel) (by decide +kernel)), (px_w 100 (by decide +kernel) (by decide +kernel)), (px_w 1027 (by decide +kernel) (by decide +kernel))⟩, by decide +kernel, by decide +kernel, by decide +kernel⟩, (px_w 1025 (by decide +kernel) (by decide +kernel)), (px_w 1026 (by decide +kernel) (by decide +kernel)), rfl⟩
theorem lL_155 : px_yV "PowerRailsLaw" 155 6 y_Mo_keep c_Mo_keep 1 (some .int) 0 := ⟨⟨⟨(px_w 1380 (by decide +kernel) (by decide +kernel)), (px_w 110 (by decide +kernel) (by decide +kernel)), (px_w 1383 (by decide +kernel) (by decide +kernel))⟩, by decide +kernel, by decide +kernel, by decide +kernel⟩, (px_w 1381 (by decide +kernel) (by decide +kernel)), (px_w 1382 (by decide +kernel) (by decide +kernel)), rfl⟩
theorem lL_156 : px_yV "PowerRailsLaw" 156 0 y_PR_back c_PR_back 1 (some .int) 0 := ⟨⟨⟨(px_w 1028 (by decide +kernel) (by decide +kernel)), (px_w 100 (by decide +kernel) (by decide +kernel)), (px_w 1031 (by decide +kernel) (by decide +kernel))⟩, by decide +kernel, by decide +kernel, by decide +kernel⟩, (px_w 1029 (by decide +kernel) (by decide +kernel)), (px_w 1030 (by decide +kernel) (by decide +kernel)), rfl⟩
theorem lL_159 : px_yV "PowerRailsLaw" 159 6 y_Mo_back c_Mo_back 1 (some .int) 0 := ⟨⟨⟨(px_w 1384 (by decide +kernel) (by decide +kernel)), (px_w 110 (by decide +kernel) (by decide +kernel)), (px_w 1387 (by decide +kernel) (by decide +kernel))⟩, by decide +kernel, by decide +kernel, by decide +kernel⟩, (px_w 1385 (by decide +kernel) (by decide +kernel)), (px_w 1386 (by decide +kernel) (by decide +kernel)), rfl⟩
theorem lL_160 : px_yV "PowerRailsLaw" 160 0 y_PR_count c_PR_count 2 (some .int) 1 := ⟨⟨⟨(px_w 950 (by decide +kernel) (by decide +kernel)), (px_w 100 (by decide +kernel) (by decide +kernel)), (px_w 953 (by decide +kernel) (by decide +kernel))⟩, by decide +kernel, by decide +kernel, by decide +kernel⟩, (px_w 951 (by decide +kernel) (by decide +kernel)), (px_w 952 (by decide +kernel) (by decide +kernel)), rfl⟩
theorem lL_163 : px_yV "PowerRailsLaw" 163 6 y_Mo_count c_Mo_count 2 (some .int) 1 := ⟨⟨⟨(px_w 1633 (by decide +kernel) (by decide +kernel)), (px_w 110 (by decide +kernel) (by decide +kernel)), (px_w 1636 (by decide +kernel) (by decide +kernel))⟩, by decide +kernel, by decide +kernel, by decide +kernel⟩, (px_w 1634 (by decide +kernel) (by decide +kernel)), (px_w 1635 (by decide +kernel) (by decide +kernel)), rfl⟩
section LWK
variable {p : Program} {l : Launch} {e : Env} {s : State} {m : MethodId} {below : List Frame} {meth : Method} {c : Code} {b L : Nat} {xs : Nat → Int32} {D : va_G} {tA : Nat → ClassId} {adC adM : pxI → Nat} {cL : ClassId} {q0 : Nat} {σ μ : pxS} {g : Nat → Int64} {H : Heap} {locs : List Loc} {k n : Nat} {ls : Array Slot}
theorem lw_k0 {t : Nat} (hF : lw_F p s m meth c b L xs D tA adC adM cL q0) (hH : lw_H s D tA adC adM cL q0 σ μ g H locs) (hI : dInv σ μ) (hls : lw_L ls b adC adM q0 (dn t)) (ht : t + 6 ≤ L) (hk : k + 1 ≤ 601024 ∧ n + 6 ≤ 7293034)
    (kk : ∀ (H1 : Heap) (locs1 : List Loc) (ls1 : Array Slot) (σ1 μ1 : pxS) (g1 : Nat → Int64), lw_H s D tA adC adM cL q0 σ1 μ1 g1 H1 locs1 → dInv σ1 μ1 → lw_L ls1 b adC adM q0 (dn t) → lw_W p l e s m below meth c b H1 locs1 (k + 1) (n + 6) (F0 m 1208 ls1 [])) : lw_W p l e s m below meth c b H locs k n (F0 m 188 ls []) := by
  obtain ⟨hx, hb, -⟩ := hF.1
  obtain ⟨P, pp, B, I, hh, ff, hI⟩ := hI
  obtain ⟨r, e1, r2, e2, e3, e4⟩ := dS_feed hI (xs (t + 1)) (xs (t + 2)) (xs (t + 3)) (xs (t + 4)) (xs (t + 5))
  refine lv_aload_n hx hb (show decode code 188 = .ok (.aload_n 1, 1) by decide +kernel) rfl (lv_at hls 1 rfl) ?_
  refine lw_arg (pc := 189) 1 hF hH hls ht (by decide +kernel) (by decide) ?_
  refine lw_arg (pc := 195) 2 hF hH hls ht (by decide +kernel) (by decide) ?_
  refine lw_arg (pc := 201) 3 hF hH hls ht (by decide +kernel) (by decide) ?_
  refine lw_arg (pc := 207) 4 hF hH hls ht (by decide +kernel) (by decide) ?_
  refine lw_arg (pc := 213) 5 hF hH hls ht (by decide +kernel) (by decide) ?_
  refine lw_cC (pc := 219) (d := 2) (rest := []) [xs (t + 1), xs (t + 2), xs (t + 3), xs (t + 4), xs (t + 5)] hF hH hls.1 (by decide +kernel) lL_21 rfl rfl (Nat.le_of_ble_eq_true rfl) ⟨by decide, by decide⟩ ⟨by omega, by omega⟩ (k_PR_feed e1) fun H1 locs1 hH => ?_
  refine lv_aload_n hx hb (show decode code 222 = .ok (.aload_n 2, 1) by decide +kernel) rfl (lv_at hls 2 rfl) ?_
  refine lw_arg (pc := 223) 1 hF hH hls ht (by decide +kernel) (by decide) ?_
  refine lw_arg (pc := 229) 2 hF hH hls ht (by decide +kernel) (by decide) ?_
  refine lw_arg (pc := 235) 3 hF hH hls ht (by decide +kernel) (by decide) ?_
  refine lw_arg (pc := 241) 4 hF hH hls ht (by decide +kernel) (by decide) ?_
  refine lw_arg (pc := 247) 5 hF hH hls ht (by decide +kernel) (by decide) ?_
  refine lw_cM (pc := 253) (d := 1) [xs (t + 1), xs (t + 2), xs (t + 3), xs (t + 4), xs (t + 5)] hF hH hls.1 (by decide +kernel) lL_25 rfl rfl (Nat.le_of_ble_eq_true rfl) ⟨by decide, by decide⟩ ⟨by omega, by omega⟩ (k_Mo_feed e2) fun H2 locs2 hH => ?_
  refine lw_eq (off := 952) hF e3 (show decode code 256 = .ok (.if_icmp .eq 952, 3) by decide +kernel) (by decide) ?_
  exact W.widen (Nat.le_add_right _ _) (Nat.le_add_right _ _) (kk _ _ _ _ _ _ hH e4 hls)
theorem lw_k1 {t : Nat} (hF : lw_F p s m meth c b L xs D tA adC adM cL q0) (hH : lw_H s D tA adC adM cL q0 σ μ g H locs) (hI : dInv σ μ) (hls : lw_L ls b adC adM q0 (dn t)) (ht : t + 6 ≤ L) (hk : k + 1 ≤ 601024 ∧ n + 6 ≤ 7293034)
    (kk : ∀ (H1 : Heap) (locs1 : List Loc) (ls1 : Array Slot) (σ1 μ1 : pxS) (g1 : Nat → Int64), lw_H s D tA adC adM cL q0 σ1 μ1 g1 H1 locs1 → dInv σ1 μ1 → lw_L ls1 b adC adM q0 (dn t) → lw_W p l e s m below meth c b H1 locs1 (k + 1) (n + 6) (F0 m 1208 ls1 [])) : lw_W p l e s m below meth c b H locs k n (F0 m 261 ls []) := by
  obtain ⟨hx, hb, -⟩ := hF.1
  obtain ⟨P, pp, B, I, hh, ff, hI⟩ := hI
  obtain ⟨r, e1, r2, e2, e3, e4⟩ := dS_text hI (xs (t + 1))
  refine lv_aload_n hx hb (show decode code 261 = .ok (.aload_n 1, 1) by decide +kernel) rfl (lv_at hls 1 rfl) ?_
  refine lw_arg (pc := 262) 1 hF hH hls ht (by decide +kernel) (by decide) ?_
  refine lw_cC (pc := 268) (d := 8) (rest := []) [xs (t + 1)] hF hH hls.1 (by decide +kernel) lL_26 rfl rfl (Nat.le_of_ble_eq_true rfl) ⟨by decide, by decide⟩ ⟨by omega, by omega⟩ (k_PR_text e1) fun H1 locs1 hH => ?_
  refine lv_aload_n hx hb (show decode code 271 = .ok (.aload_n 2, 1) by decide +kernel) rfl (lv_at hls 2 rfl) ?_
  refine lw_arg (pc := 272) 1 hF hH hls ht (by decide +kernel) (by decide) ?_
  refine lw_cM (pc := 278) (d := 14) [xs (t + 1)] hF hH hls.1 (by decide +kernel) lL_30 rfl rfl (Nat.le_of_ble_eq_true rfl) ⟨by decide, by decide⟩ ⟨by omega, by omega⟩ (k_Mo_text e2) fun H2 locs2 hH => ?_
  refine lw_eq (off := 927) hF e3 (show decode code 281 = .ok (.if_icmp .eq 927, 3) by decide +kernel) (by decide) ?_
  exact W.widen (Nat.le_add_right _ _) (Nat.le_add_right _ _) (kk _ _ _ _ _ _ hH e4 hls)
theorem lw_k2 {t : Nat} (hF : lw_F p s m meth c b L xs D tA adC adM cL q0) (hH : lw_H s D tA adC adM cL q0 σ μ g H locs) (hI : dInv σ μ) (hls : lw_L ls b adC adM q0 (dn t)) (ht : t + 6 ≤ L) (hk : k + 1 ≤ 601024 ∧ n + 6 ≤ 7293034)
    (kk : ∀ (H1 : Heap) (locs1 : List Loc) (ls1 : Array Slot) (σ1 μ1 : pxS) (g1 : Nat → Int64), lw_H s D tA adC adM cL q0 σ1 μ1 g1 H1 locs1 → dInv σ1 μ1 → lw_L ls1 b adC adM q0 (dn t) → lw_W p l e s m below meth c b H1 locs1 (k + 1) (n + 6) (F0 m 1208 ls1 [])) : lw_W p l e s m below meth c b H locs k n (F0 m 286 ls []) := by
  obtain ⟨hx, hb, -⟩ := hF.1
  obtain ⟨P, pp, B, I, hh, ff, hI⟩ := hI
  obtain ⟨r, e1, r2, e2, e3, e4⟩ := dG_fault hI (xs (t + 1))
  refine lv_aload_n hx hb (show decode code 286 = .ok (.aload_n 1, 1) by decide +kernel) rfl (lv_at hls 1 rfl) ?_
  refine lw_arg (pc := 287) 1 hF hH hls ht (by decide +kernel) (by decide) ?_
  refine lw_cC (pc := 293) (d := 1) (rest := []) [xs (t + 1)] hF hH hls.1 (by decide +kernel) lL_31 rfl rfl (Nat.le_of_ble_eq_true rfl) ⟨by decide, by decide⟩ ⟨by omega, by omega⟩ (k_PR_fault e1) fun H1 locs1 hH => ?_
  refine lv_aload_n hx hb (show decode code 296 = .ok (.aload_n 2, 1) by decide +kernel) rfl (lv_at hls 2 rfl) ?_
  refine lw_arg (pc := 297) 1 hF hH hls ht (by decide +kernel) (by decide) ?_
  refine lw_cM (pc := 303) (d := 1) [xs (t + 1)] hF hH hls.1 (by decide +kernel) lL_34 rfl rfl (Nat.le_of_ble_eq_true rfl) ⟨by decide, by decide⟩ ⟨by omega, by omega⟩ (k_Mo_fault e2) fun H2 locs2 hH => ?_
  refine lw_eq (off := 902) hF e3 (show decode code 306 = .ok (.if_icmp .eq 902, 3) by decide +kernel) (by decide) ?_
  exact W.widen (Nat.le_add_right _ _) (Nat.le_add_right _ _) (kk _ _ _ _ _ _ hH ⟨P, pp, B, I, hh, ff, e4⟩ hls)
theorem lw_k3 {t : Nat} (hF : lw_F p s m meth c b L xs D tA adC adM cL q0) (hH : lw_H s D tA adC adM cL q0 σ μ g H locs) (hI : dInv σ μ) (hls : lw_L ls b adC adM q0 (dn t)) (ht : t + 6 ≤ L) (hk : k + 1 ≤ 601024 ∧ n + 6 ≤ 7293034)
    (kk : ∀ (H1 : Heap) (locs1 : List Loc) (ls1 : Array Slot) (σ1 μ1 : pxS) (g1 : Nat → Int64), lw_H s D tA adC adM cL q0 σ1 μ1 g1 H1 locs1 → dInv σ1 μ1 → lw_L ls1 b adC adM q0 (dn t) → lw_W p l e s m below meth c b H1 locs1 (k + 1) (n + 6) (F0 m 1208 ls1 [])) : lw_W p l e s m below meth c b H locs k n (F0 m 311 ls []) := by
  obtain ⟨hx, hb, -⟩ := hF.1
  obtain ⟨P, pp, B, I, hh, ff, hI⟩ := hI
  obtain ⟨r, e1, r2, e2, e3, e4⟩ := dG_named hI (xs (t + 1))
  refine lv_aload_n hx hb (show decode code 311 = .ok (.aload_n 1, 1) by decide +kernel) rfl (lv_at hls 1 rfl) ?_
  refine lw_arg (pc := 312) 1 hF hH hls ht (by decide +kernel) (by decide) ?_
  refine lw_cC (pc := 318) (d := 2) (rest := []) [xs (t + 1)] hF hH hls.1 (by decide +kernel) lL_35 rfl rfl (Nat.le_of_ble_eq_true rfl) ⟨by decide, by decide⟩ ⟨by omega, by omega⟩ (k_PR_named e1) fun H1 locs1 hH => ?_
  refine lv_aload_n hx hb (show decode code 321 = .ok (.aload_n 2, 1) by decide +kernel) rfl (lv_at hls 2 rfl) ?_
  refine lw_arg (pc := 322) 1 hF hH hls ht (by decide +kernel) (by decide) ?_
  refine lw_cM (pc := 328) (d := 2) [xs (t + 1)] hF hH hls.1 (by decide +kernel) lL_38 rfl rfl (Nat.le_of_ble_eq_true rfl) ⟨by decide, by decide⟩ ⟨by omega, by omega⟩ (k_Mo_named e2) fun H2 locs2 hH => ?_
  refine lw_eq (off := 877) hF e3 (show decode code 331 = .ok (.if_icmp .eq 877, 3) by decide +kernel) (by decide) ?_
  exact W.widen (Nat.le_add_right _ _) (Nat.le_add_right _ _) (kk _ _ _ _ _ _ hH ⟨P, pp, B, I, hh, ff, e4⟩ hls)
theorem lw_k4 {t : Nat} (hF : lw_F p s m meth c b L xs D tA adC adM cL q0) (hH : lw_H s D tA adC adM cL q0 σ μ g H locs) (hI : dInv σ μ) (hls : lw_L ls b adC adM q0 (dn t)) (ht : t + 6 ≤ L) (hk : k + 1 ≤ 601024 ∧ n + 6 ≤ 7293034)
    (kk : ∀ (H1 : Heap) (locs1 : List Loc) (ls1 : Array Slot) (σ1 μ1 : pxS) (g1 : Nat → Int64), lw_H s D tA adC adM cL q0 σ1 μ1 g1 H1 locs1 → dInv σ1 μ1 → lw_L ls1 b adC adM q0 (dn t) → lw_W p l e s m below meth c b H1 locs1 (k + 1) (n + 6) (F0 m 1208 ls1 [])) : lw_W p l e s m below meth c b H locs k n (F0 m 336 ls []) := by
  obtain ⟨hx, hb, -⟩ := hF.1
  obtain ⟨P, pp, B, I, hh, ff, hI⟩ := hI
  obtain ⟨r, e1, r2, e2, e3, e4⟩ := dS_tick hI (xs (t + 1))
  refine lv_aload_n hx hb (show decode code 336 = .ok (.aload_n 1, 1) by decide +kernel) rfl (lv_at hls 1 rfl) ?_
  refine lw_arg (pc := 337) 1 hF hH hls ht (by decide +kernel) (by decide) ?_
  refine lw_cC (pc := 343) (d := 7) (rest := []) [xs (t + 1)] hF hH hls.1 (by decide +kernel) lL_39 rfl rfl (Nat.le_of_ble_eq_true rfl) ⟨by decide, by decide⟩ ⟨by omega, by omega⟩ (k_PR_tick e1) fun H1 locs1 hH => ?_
  refine lv_aload_n hx hb (show decode code 346 = .ok (.aload_n 2, 1) by decide +kernel) rfl (lv_at hls 2 rfl) ?_
  refine lw_arg (pc := 347) 1 hF hH hls ht (by decide +kernel) (by decide) ?_
  refine lw_cM (pc := 353) (d := 9) [xs (t + 1)] hF hH hls.1 (by decide +kernel) lL_42 rfl rfl (Nat.le_of_ble_eq_true rfl) ⟨by decide, by decide⟩ ⟨by omega, by omega⟩ (k_Mo_tick e2) fun H2 locs2 hH => ?_
  refine lw_eq (off := 852) hF e3 (show decode code 356 = .ok (.if_icmp .eq 852, 3) by decide +kernel) (by decide) ?_
  exact W.widen (Nat.le_add_right _ _) (Nat.le_add_right _ _) (kk _ _ _ _ _ _ hH e4 hls)
theorem lw_k5 {t : Nat} (hF : lw_F p s m meth c b L xs D tA adC adM cL q0) (hH : lw_H s D tA adC adM cL q0 σ μ g H locs) (hI : dInv σ μ) (hls : lw_L ls b adC adM q0 (dn t)) (ht : t + 6 ≤ L) (hk : k + 1 ≤ 601024 ∧ n + 6 ≤ 7293034)
    (kk : ∀ (H1 : Heap) (locs1 : List Loc) (ls1 : Array Slot) (σ1 μ1 : pxS) (g1 : Nat → Int64), lw_H s D tA adC adM cL q0 σ1 μ1 g1 H1 locs1 → dInv σ1 μ1 → lw_L ls1 b adC adM q0 (dn t) → lw_W p l e s m below meth c b H1 locs1 (k + 1) (n + 6) (F0 m 1208 ls1 [])) : lw_W p l e s m below meth c b H locs k n (F0 m 361 ls []) := by
  obtain ⟨hx, hb, -⟩ := hF.1
  obtain ⟨P, pp, B, I, hh, ff, hI⟩ := hI
  obtain ⟨r, e1, r2, e2, e3, e4⟩ := dS_ask hI (xs (t + 1)) (!decide (xs (t + 2) = 0))
  refine lv_aload_n hx hb (show decode code 361 = .ok (.aload_n 1, 1) by decide +kernel) rfl (lv_at hls 1 rfl) ?_
  refine lw_arg (pc := 362) 1 hF hH hls ht (by decide +kernel) (by decide) ?_
  refine lw_arg (pc := 368) 2 hF hH hls ht (by decide +kernel) (by decide) ?_
  refine lw_bool (pc := 374) hF (by decide +kernel) (by decide +kernel) (by decide +kernel) (by decide +kernel) ?_
  refine lw_cC (pc := 382) (d := 4) (rest := []) [xs (t + 1), if (!decide (xs (t + 2) = 0)) = true then 1 else 0] hF hH hls.1 (by decide +kernel) lL_43 rfl rfl (Nat.le_of_ble_eq_true rfl) ⟨by decide, by decide⟩ ⟨by omega, by omega⟩ (k_PR_ask e1) fun H1 locs1 hH => ?_
  refine lv_aload_n hx hb (show decode code 385 = .ok (.aload_n 2, 1) by decide +kernel) rfl (lv_at hls 2 rfl) ?_
  refine lw_arg (pc := 386) 1 hF hH hls ht (by decide +kernel) (by decide) ?_
  refine lw_arg (pc := 392) 2 hF hH hls ht (by decide +kernel) (by decide) ?_
  refine lw_bool (pc := 398) hF (by decide +kernel) (by decide +kernel) (by decide +kernel) (by decide +kernel) ?_
  refine lw_cM (pc := 406) (d := 6) [xs (t + 1), if (!decide (xs (t + 2) = 0)) = true then 1 else 0] hF hH hls.1 (by decide +kernel) lL_47 rfl rfl (Nat.le_of_ble_eq_true rfl) ⟨by decide, by decide⟩ ⟨by omega, by omega⟩ (k_Mo_ask e2) fun H2 locs2 hH => ?_
  refine lw_eq (off := 799) hF e3 (show decode code 409 = .ok (.if_icmp .eq 799, 3) by decide +kernel) (by decide) ?_
  exact W.widen (Nat.le_add_right _ _) (Nat.le_add_right _ _) (kk _ _ _ _ _ _ hH e4 hls)
theorem lw_k6 {t : Nat} (hF : lw_F p s m meth c b L xs D tA adC adM cL q0) (hH : lw_H s D tA adC adM cL q0 σ μ g H locs) (hI : dInv σ μ) (hls : lw_L ls b adC adM q0 (dn t)) (ht : t + 6 ≤ L) (hk : k + 1 ≤ 601024 ∧ n + 6 ≤ 7293034)
    (kk : ∀ (H1 : Heap) (locs1 : List Loc) (ls1 : Array Slot) (σ1 μ1 : pxS) (g1 : Nat → Int64), lw_H s D tA adC adM cL q0 σ1 μ1 g1 H1 locs1 → dInv σ1 μ1 → lw_L ls1 b adC adM q0 (dn t) → lw_W p l e s m below meth c b H1 locs1 (k + 1) (n + 6) (F0 m 1208 ls1 [])) : lw_W p l e s m below meth c b H locs k n (F0 m 414 ls []) := by
  obtain ⟨hx, hb, -⟩ := hF.1
  obtain ⟨P, pp, B, I, hh, ff, hI⟩ := hI
  obtain ⟨r, e1, r2, e2, e3, e4⟩ := dS_begin hI
  refine lv_aload_n hx hb (show decode code 414 = .ok (.aload_n 1, 1) by decide +kernel) rfl (lv_at hls 1 rfl) ?_
  refine lw_cC (pc := 415) (d := 4) (rest := []) [] hF hH hls.1 (by decide +kernel) lL_48 rfl rfl (Nat.le_of_ble_eq_true rfl) ⟨by decide, by decide⟩ ⟨by omega, by omega⟩ (k_PR_begin e1) fun H1 locs1 hH => ?_
  refine lv_aload_n hx hb (show decode code 418 = .ok (.aload_n 2, 1) by decide +kernel) rfl (lv_at hls 2 rfl) ?_
  refine lw_cM (pc := 419) (d := 3) [] hF hH hls.1 (by decide +kernel) lL_52 rfl rfl (Nat.le_of_ble_eq_true rfl) ⟨by decide, by decide⟩ ⟨by omega, by omega⟩ (k_Mo_begin e2) fun H2 locs2 hH => ?_
  refine lw_eq (off := 786) hF e3 (show decode code 422 = .ok (.if_icmp .eq 786, 3) by decide +kernel) (by decide) ?_
  exact W.widen (Nat.le_add_right _ _) (Nat.le_add_right _ _) (kk _ _ _ _ _ _ hH e4 hls)
theorem lw_k7 {t : Nat} (hF : lw_F p s m meth c b L xs D tA adC adM cL q0) (hH : lw_H s D tA adC adM cL q0 σ μ g H locs) (hI : dInv σ μ) (hls : lw_L ls b adC adM q0 (dn t)) (ht : t + 6 ≤ L) (hk : k + 1 ≤ 601024 ∧ n + 6 ≤ 7293034)
    (kk : ∀ (H1 : Heap) (locs1 : List Loc) (ls1 : Array Slot) (σ1 μ1 : pxS) (g1 : Nat → Int64), lw_H s D tA adC adM cL q0 σ1 μ1 g1 H1 locs1 → dInv σ1 μ1 → lw_L ls1 b adC adM q0 (dn t) → lw_W p l e s m below meth c b H1 locs1 (k + 1) (n + 6) (F0 m 1208 ls1 [])) : lw_W p l e s m below meth c b H locs k n (F0 m 427 ls []) := by
  obtain ⟨hx, hb, -⟩ := hF.1
  obtain ⟨P, pp, B, I, hh, ff, hI⟩ := hI
  obtain ⟨r, e1, r2, e2, e3, e4⟩ := dS_load hI (xs (t + 1)) (xs (t + 2))
  refine lv_aload_n hx hb (show decode code 427 = .ok (.aload_n 1, 1) by decide +kernel) rfl (lv_at hls 1 rfl) ?_
  refine lw_arg (pc := 428) 1 hF hH hls ht (by decide +kernel) (by decide) ?_
  refine lw_arg (pc := 434) 2 hF hH hls ht (by decide +kernel) (by decide) ?_
  refine lw_cC (pc := 440) (d := 4) (rest := []) [xs (t + 1), xs (t + 2)] hF hH hls.1 (by decide +kernel) lL_53 rfl rfl (Nat.le_of_ble_eq_true rfl) ⟨by decide, by decide⟩ ⟨by omega, by omega⟩ (k_PR_load e1) fun H1 locs1 hH => ?_
  refine lv_aload_n hx hb (show decode code 443 = .ok (.aload_n 2, 1) by decide +kernel) rfl (lv_at hls 2 rfl) ?_
  refine lw_arg (pc := 444) 1 hF hH hls ht (by decide +kernel) (by decide) ?_
  refine lw_arg (pc := 450) 2 hF hH hls ht (by decide +kernel) (by decide) ?_
  refine lw_cM (pc := 456) (d := 3) [xs (t + 1), xs (t + 2)] hF hH hls.1 (by decide +kernel) lL_56 rfl rfl (Nat.le_of_ble_eq_true rfl) ⟨by decide, by decide⟩ ⟨by omega, by omega⟩ (k_Mo_load e2) fun H2 locs2 hH => ?_
  refine lw_eq (off := 749) hF e3 (show decode code 459 = .ok (.if_icmp .eq 749, 3) by decide +kernel) (by decide) ?_
  exact W.widen (Nat.le_add_right _ _) (Nat.le_add_right _ _) (kk _ _ _ _ _ _ hH e4 hls)
theorem lw_k8 {t : Nat} (hF : lw_F p s m meth c b L xs D tA adC adM cL q0) (hH : lw_H s D tA adC adM cL q0 σ μ g H locs) (hI : dInv σ μ) (hls : lw_L ls b adC adM q0 (dn t)) (ht : t + 6 ≤ L) (hk : k + 1 ≤ 601024 ∧ n + 6 ≤ 7293034)
    (kk : ∀ (H1 : Heap) (locs1 : List Loc) (ls1 : Array Slot) (σ1 μ1 : pxS) (g1 : Nat → Int64), lw_H s D tA adC adM cL q0 σ1 μ1 g1 H1 locs1 → dInv σ1 μ1 → lw_L ls1 b adC adM q0 (dn t) → lw_W p l e s m below meth c b H1 locs1 (k + 1) (n + 6) (F0 m 1208 ls1 [])) : lw_W p l e s m below meth c b H locs k n (F0 m 464 ls []) := by
  obtain ⟨hx, hb, -⟩ := hF.1
  obtain ⟨P, pp, B, I, hh, ff, hI⟩ := hI
  obtain ⟨r, e1, r2, e2, e3, e4⟩ := dS_limit hI (xs (t + 1)) (xs (t + 2))
  refine lv_aload_n hx hb (show decode code 464 = .ok (.aload_n 1, 1) by decide +kernel) rfl (lv_at hls 1 rfl) ?_
  refine lw_arg (pc := 465) 1 hF hH hls ht (by decide +kernel) (by decide) ?_
  refine lw_arg (pc := 471) 2 hF hH hls ht (by decide +kernel) (by decide) ?_
  refine lw_cC (pc := 477) (d := 4) (rest := []) [xs (t + 1), xs (t + 2)] hF hH hls.1 (by decide +kernel) lL_57 rfl rfl (Nat.le_of_ble_eq_true rfl) ⟨by decide, by decide⟩ ⟨by omega, by omega⟩ (k_PR_limit e1) fun H1 locs1 hH => ?_
  refine lv_aload_n hx hb (show decode code 480 = .ok (.aload_n 2, 1) by decide +kernel) rfl (lv_at hls 2 rfl) ?_
  refine lw_arg (pc := 481) 1 hF hH hls ht (by decide +kernel) (by decide) ?_
  refine lw_arg (pc := 487) 2 hF hH hls ht (by decide +kernel) (by decide) ?_
  refine lw_cM (pc := 493) (d := 3) [xs (t + 1), xs (t + 2)] hF hH hls.1 (by decide +kernel) lL_60 rfl rfl (Nat.le_of_ble_eq_true rfl) ⟨by decide, by decide⟩ ⟨by omega, by omega⟩ (k_Mo_limit e2) fun H2 locs2 hH => ?_
  refine lw_eq (off := 712) hF e3 (show decode code 496 = .ok (.if_icmp .eq 712, 3) by decide +kernel) (by decide) ?_
  exact W.widen (Nat.le_add_right _ _) (Nat.le_add_right _ _) (kk _ _ _ _ _ _ hH e4 hls)
theorem lw_k10 {t : Nat} (hF : lw_F p s m meth c b L xs D tA adC adM cL q0) (hH : lw_H s D tA adC adM cL q0 σ μ g H locs) (hI : dInv σ μ) (hls : lw_L ls b adC adM q0 (dn t)) (ht : t + 6 ≤ L) (hk : k + 1 ≤ 601024 ∧ n + 6 ≤ 7293034)
    (kk : ∀ (H1 : Heap) (locs1 : List Loc) (ls1 : Array Slot) (σ1 μ1 : pxS) (g1 : Nat → Int64), lw_H s D tA adC adM cL q0 σ1 μ1 g1 H1 locs1 → dInv σ1 μ1 → lw_L ls1 b adC adM q0 (dn t) → lw_W p l e s m below meth c b H1 locs1 (k + 1) (n + 6) (F0 m 1208 ls1 [])) : lw_W p l e s m below meth c b H locs k n (F0 m 569 ls []) := by
  obtain ⟨hx, hb, -⟩ := hF.1
  obtain ⟨P, pp, B, I, hh, ff, hI⟩ := hI
  obtain ⟨r, e1, r2, e2, e3, e4⟩ := dG_hangs hI (xs (t + 1)) (xs (t + 2))
  refine lv_aload_n hx hb (show decode code 569 = .ok (.aload_n 1, 1) by decide +kernel) rfl (lv_at hls 1 rfl) ?_
  refine lw_arg (pc := 570) 1 hF hH hls ht (by decide +kernel) (by decide) ?_
  refine lw_arg (pc := 576) 2 hF hH hls ht (by decide +kernel) (by decide) ?_
  refine lw_cC (pc := 582) (d := 2) (rest := []) [xs (t + 1), xs (t + 2)] hF hH hls.1 (by decide +kernel) lL_70 rfl rfl (Nat.le_of_ble_eq_true rfl) ⟨by decide, by decide⟩ ⟨by omega, by omega⟩ (k_PR_hangs e1) fun H1 locs1 hH => ?_
  refine lv_aload_n hx hb (show decode code 585 = .ok (.aload_n 2, 1) by decide +kernel) rfl (lv_at hls 2 rfl) ?_
  refine lw_arg (pc := 586) 1 hF hH hls ht (by decide +kernel) (by decide) ?_
  refine lw_arg (pc := 592) 2 hF hH hls ht (by decide +kernel) (by decide) ?_
  refine lw_cM (pc := 598) (d := 3) [xs (t + 1), xs (t + 2)] hF hH hls.1 (by decide +kernel) lL_73 rfl rfl (Nat.le_of_ble_eq_true rfl) ⟨by decide, by decide⟩ ⟨by omega, by omega⟩ (k_Mo_hangs e2) fun H2 locs2 hH => ?_
  refine lw_eq (off := 607) hF e3 (show decode code 601 = .ok (.if_icmp .eq 607, 3) by decide +kernel) (by decide) ?_
  exact W.widen (Nat.le_add_right _ _) (Nat.le_add_right _ _) (kk _ _ _ _ _ _ hH ⟨P, pp, B, I, hh, ff, e4⟩ hls)
theorem lw_k11 {t : Nat} (hF : lw_F p s m meth c b L xs D tA adC adM cL q0) (hH : lw_H s D tA adC adM cL q0 σ μ g H locs) (hI : dInv σ μ) (hls : lw_L ls b adC adM q0 (dn t)) (ht : t + 6 ≤ L) (hk : k + 1 ≤ 601024 ∧ n + 6 ≤ 7293034)
    (kk : ∀ (H1 : Heap) (locs1 : List Loc) (ls1 : Array Slot) (σ1 μ1 : pxS) (g1 : Nat → Int64), lw_H s D tA adC adM cL q0 σ1 μ1 g1 H1 locs1 → dInv σ1 μ1 → lw_L ls1 b adC adM q0 (dn t) → lw_W p l e s m below meth c b H1 locs1 (k + 1) (n + 6) (F0 m 1208 ls1 [])) : lw_W p l e s m below meth c b H locs k n (F0 m 606 ls []) := by
  obtain ⟨hx, hb, -⟩ := hF.1
  obtain ⟨P, pp, B, I, hh, ff, hI⟩ := hI
  obtain ⟨r, e1, r2, e2, e3, e4⟩ := dG_waiting hI (xs (t + 1)) (if (!decide (xs (t + 2) = 0)) = true then 1 else 0)
  refine lv_aload_n hx hb (show decode code 606 = .ok (.aload_n 1, 1) by decide +kernel) rfl (lv_at hls 1 rfl) ?_
  refine lw_arg (pc := 607) 1 hF hH hls ht (by decide +kernel) (by decide) ?_
  refine lw_arg (pc := 613) 2 hF hH hls ht (by decide +kernel) (by decide) ?_
  refine lw_bool (pc := 619) hF (by decide +kernel) (by decide +kernel) (by decide +kernel) (by decide +kernel) ?_
  refine lw_cC (pc := 627) (d := 2) (rest := []) [xs (t + 1), if (!decide (xs (t + 2) = 0)) = true then 1 else 0] hF hH hls.1 (by decide +kernel) lL_74 rfl rfl (Nat.le_of_ble_eq_true rfl) ⟨by decide, by decide⟩ ⟨by omega, by omega⟩ (k_PR_waiting e1) fun H1 locs1 hH => ?_
  refine lv_aload_n hx hb (show decode code 630 = .ok (.aload_n 2, 1) by decide +kernel) rfl (lv_at hls 2 rfl) ?_
  refine lw_arg (pc := 631) 1 hF hH hls ht (by decide +kernel) (by decide) ?_
  refine lw_arg (pc := 637) 2 hF hH hls ht (by decide +kernel) (by decide) ?_
  refine lw_bool (pc := 643) hF (by decide +kernel) (by decide +kernel) (by decide +kernel) (by decide +kernel) ?_
  refine lw_cM (pc := 651) (d := 1) [xs (t + 1), if (!decide (xs (t + 2) = 0)) = true then 1 else 0] hF hH hls.1 (by decide +kernel) lL_77 rfl rfl (Nat.le_of_ble_eq_true rfl) ⟨by decide, by decide⟩ ⟨by omega, by omega⟩ (k_Mo_waiting e2) fun H2 locs2 hH => ?_
  refine lw_eq (off := 554) hF e3 (show decode code 654 = .ok (.if_icmp .eq 554, 3) by decide +kernel) (by decide) ?_
  exact W.widen (Nat.le_add_right _ _) (Nat.le_add_right _ _) (kk _ _ _ _ _ _ hH ⟨P, pp, B, I, hh, ff, e4⟩ hls)
theorem lw_k12 {t : Nat} (hF : lw_F p s m meth c b L xs D tA adC adM cL q0) (hH : lw_H s D tA adC adM cL q0 σ μ g H locs) (hI : dInv σ μ) (hls : lw_L ls b adC adM q0 (dn t)) (ht : t + 6 ≤ L) (hk : k + 1 ≤ 601024 ∧ n + 6 ≤ 7293034)
    (kk : ∀ (H1 : Heap) (locs1 : List Loc) (ls1 : Array Slot) (σ1 μ1 : pxS) (g1 : Nat → Int64), lw_H s D tA adC adM cL q0 σ1 μ1 g1 H1 locs1 → dInv σ1 μ1 → lw_L ls1 b adC adM q0 (dn t) → lw_W p l e s m below meth c b H1 locs1 (k + 1) (n + 6) (F0 m 1208 ls1 [])) : lw_W p l e s m below meth c b H locs k n (F0 m 659 ls []) := by
  obtain ⟨hx, hb, -⟩ := hF.1
  obtain ⟨P, pp, B, I, hh, ff, hI⟩ := hI
  obtain ⟨r, e1, r2, e2, e3, e4⟩ := dG_sequence hI (xs (t + 1))
  refine lv_aload_n hx hb (show decode code 659 = .ok (.aload_n 1, 1) by decide +kernel) rfl (lv_at hls 1 rfl) ?_
  refine lw_arg (pc := 660) 1 hF hH hls ht (by decide +kernel) (by decide) ?_
  refine lw_cC (pc := 666) (d := 1) (rest := []) [xs (t + 1)] hF hH hls.1 (by decide +kernel) lL_78 rfl rfl (Nat.le_of_ble_eq_true rfl) ⟨by decide, by decide⟩ ⟨by omega, by omega⟩ (k_PR_sequence e1) fun H1 locs1 hH => ?_
  refine lv_aload_n hx hb (show decode code 669 = .ok (.aload_n 2, 1) by decide +kernel) rfl (lv_at hls 2 rfl) ?_
  refine lw_arg (pc := 670) 1 hF hH hls ht (by decide +kernel) (by decide) ?_
  refine lw_cM (pc := 676) (d := 1) [xs (t + 1)] hF hH hls.1 (by decide +kernel) lL_81 rfl rfl (Nat.le_of_ble_eq_true rfl) ⟨by decide, by decide⟩ ⟨by omega, by omega⟩ (k_Mo_sequence e2) fun H2 locs2 hH => ?_
  refine lw_eq (off := 529) hF e3 (show decode code 679 = .ok (.if_icmp .eq 529, 3) by decide +kernel) (by decide) ?_
  exact W.widen (Nat.le_add_right _ _) (Nat.le_add_right _ _) (kk _ _ _ _ _ _ hH ⟨P, pp, B, I, hh, ff, e4⟩ hls)
theorem lw_k13 {t : Nat} (hF : lw_F p s m meth c b L xs D tA adC adM cL q0) (hH : lw_H s D tA adC adM cL q0 σ μ g H locs) (hI : dInv σ μ) (hls : lw_L ls b adC adM q0 (dn t)) (ht : t + 6 ≤ L) (hk : k + 1 ≤ 601024 ∧ n + 6 ≤ 7293034)
    (kk : ∀ (H1 : Heap) (locs1 : List Loc) (ls1 : Array Slot) (σ1 μ1 : pxS) (g1 : Nat → Int64), lw_H s D tA adC adM cL q0 σ1 μ1 g1 H1 locs1 → dInv σ1 μ1 → lw_L ls1 b adC adM q0 (dn t) → lw_W p l e s m below meth c b H1 locs1 (k + 1) (n + 6) (F0 m 1208 ls1 [])) : lw_W p l e s m below meth c b H locs k n (F0 m 684 ls []) := by
  obtain ⟨hx, hb, -⟩ := hF.1
  obtain ⟨P, pp, B, I, hh, ff, hI⟩ := hI
  obtain ⟨r, e1, r2, e2, e3, e4⟩ := dG_step hI (xs (t + 1)) (xs (t + 2))
  refine lv_aload_n hx hb (show decode code 684 = .ok (.aload_n 1, 1) by decide +kernel) rfl (lv_at hls 1 rfl) ?_
  refine lw_arg (pc := 685) 1 hF hH hls ht (by decide +kernel) (by decide) ?_
  refine lw_arg (pc := 691) 2 hF hH hls ht (by decide +kernel) (by decide) ?_
  refine lw_cC (pc := 697) (d := 1) (rest := []) [xs (t + 1), xs (t + 2)] hF hH hls.1 (by decide +kernel) lL_82 rfl rfl (Nat.le_of_ble_eq_true rfl) ⟨by decide, by decide⟩ ⟨by omega, by omega⟩ (k_PR_step e1) fun H1 locs1 hH => ?_
  refine lv_aload_n hx hb (show decode code 700 = .ok (.aload_n 2, 1) by decide +kernel) rfl (lv_at hls 2 rfl) ?_
  refine lw_arg (pc := 701) 1 hF hH hls ht (by decide +kernel) (by decide) ?_
  refine lw_arg (pc := 707) 2 hF hH hls ht (by decide +kernel) (by decide) ?_
  refine lw_cM (pc := 713) (d := 1) [xs (t + 1), xs (t + 2)] hF hH hls.1 (by decide +kernel) lL_85 rfl rfl (Nat.le_of_ble_eq_true rfl) ⟨by decide, by decide⟩ ⟨by omega, by omega⟩ (k_Mo_step e2) fun H2 locs2 hH => ?_
  refine lw_eq (off := 492) hF e3 (show decode code 716 = .ok (.if_icmp .eq 492, 3) by decide +kernel) (by decide) ?_
  exact W.widen (Nat.le_add_right _ _) (Nat.le_add_right _ _) (kk _ _ _ _ _ _ hH ⟨P, pp, B, I, hh, ff, e4⟩ hls)
theorem lw_k14 {t : Nat} (hF : lw_F p s m meth c b L xs D tA adC adM cL q0) (hH : lw_H s D tA adC adM cL q0 σ μ g H locs) (hI : dInv σ μ) (hls : lw_L ls b adC adM q0 (dn t)) (ht : t + 6 ≤ L) (hk : k + 1 ≤ 601024 ∧ n + 6 ≤ 7293034)
    (kk : ∀ (H1 : Heap) (locs1 : List Loc) (ls1 : Array Slot) (σ1 μ1 : pxS) (g1 : Nat → Int64), lw_H s D tA adC adM cL q0 σ1 μ1 g1 H1 locs1 → dInv σ1 μ1 → lw_L ls1 b adC adM q0 (dn t) → lw_W p l e s m below meth c b H1 locs1 (k + 1) (n + 6) (F0 m 1208 ls1 [])) : lw_W p l e s m below meth c b H locs k n (F0 m 721 ls []) := by
  obtain ⟨hx, hb, -⟩ := hF.1
  obtain ⟨P, pp, B, I, hh, ff, hI⟩ := hI
  obtain ⟨r, e1, r2, e2, e3, e4⟩ := dG_why hI (xs (t + 1))
  refine lv_aload_n hx hb (show decode code 721 = .ok (.aload_n 1, 1) by decide +kernel) rfl (lv_at hls 1 rfl) ?_
  refine lw_arg (pc := 722) 1 hF hH hls ht (by decide +kernel) (by decide) ?_
  refine lw_cC (pc := 728) (d := 3) (rest := []) [xs (t + 1)] hF hH hls.1 (by decide +kernel) lL_86 rfl rfl (Nat.le_of_ble_eq_true rfl) ⟨by decide, by decide⟩ ⟨by omega, by omega⟩ (k_PR_why e1) fun H1 locs1 hH => ?_
  refine lv_aload_n hx hb (show decode code 731 = .ok (.aload_n 2, 1) by decide +kernel) rfl (lv_at hls 2 rfl) ?_
  refine lw_arg (pc := 732) 1 hF hH hls ht (by decide +kernel) (by decide) ?_
  refine lw_cM (pc := 738) (d := 4) [xs (t + 1)] hF hH hls.1 (by decide +kernel) lL_89 rfl rfl (Nat.le_of_ble_eq_true rfl) ⟨by decide, by decide⟩ ⟨by omega, by omega⟩ (k_Mo_why e2) fun H2 locs2 hH => ?_
  refine lw_eq (off := 467) hF e3 (show decode code 741 = .ok (.if_icmp .eq 467, 3) by decide +kernel) (by decide) ?_
  exact W.widen (Nat.le_add_right _ _) (Nat.le_add_right _ _) (kk _ _ _ _ _ _ hH ⟨P, pp, B, I, hh, ff, e4⟩ hls)
theorem lw_k15 {t : Nat} (hF : lw_F p s m meth c b L xs D tA adC adM cL q0) (hH : lw_H s D tA adC adM cL q0 σ μ g H locs) (hI : dInv σ μ) (hls : lw_L ls b adC adM q0 (dn t)) (ht : t + 6 ≤ L) (hk : k + 1 ≤ 601024 ∧ n + 6 ≤ 7293034)
    (kk : ∀ (H1 : Heap) (locs1 : List Loc) (ls1 : Array Slot) (σ1 μ1 : pxS) (g1 : Nat → Int64), lw_H s D tA adC adM cL q0 σ1 μ1 g1 H1 locs1 → dInv σ1 μ1 → lw_L ls1 b adC adM q0 (dn t) → lw_W p l e s m below meth c b H1 locs1 (k + 1) (n + 6) (F0 m 1208 ls1 [])) : lw_W p l e s m below meth c b H locs k n (F0 m 746 ls []) := by
  obtain ⟨hx, hb, -⟩ := hF.1
  obtain ⟨P, pp, B, I, hh, ff, hI⟩ := hI
  have hD := hI.W.D
  have hC := hI.W.C
  obtain ⟨r, e1, r2, e2, e3, e4⟩ := dG_ring hI hD hC (xs (t + 1))
  refine lv_aload_n hx hb (show decode code 746 = .ok (.aload_n 1, 1) by decide +kernel) rfl (lv_at hls 1 rfl) ?_
  refine lw_arg (pc := 747) 1 hF hH hls ht (by decide +kernel) (by decide) ?_
  refine lw_cC (pc := 753) (d := 4) (rest := []) [xs (t + 1)] hF hH hls.1 (by decide +kernel) lL_90 rfl rfl (Nat.le_of_ble_eq_true rfl) ⟨by decide, by decide⟩ ⟨by omega, by omega⟩ (k_PR_ring e1) fun H1 locs1 hH => ?_
  refine lv_aload_n hx hb (show decode code 756 = .ok (.aload_n 2, 1) by decide +kernel) rfl (lv_at hls 2 rfl) ?_
  refine lw_arg (pc := 757) 1 hF hH hls ht (by decide +kernel) (by decide) ?_
  refine lw_cM (pc := 763) (d := 4) [xs (t + 1)] hF hH hls.1 (by decide +kernel) lL_93 rfl rfl (Nat.le_of_ble_eq_true rfl) ⟨by decide, by decide⟩ ⟨by omega, by omega⟩ (k_Mo_ring e2) fun H2 locs2 hH => ?_
  refine lw_eq (off := 442) hF e3 (show decode code 766 = .ok (.if_icmp .eq 442, 3) by decide +kernel) (by decide) ?_
  exact W.widen (Nat.le_add_right _ _) (Nat.le_add_right _ _) (kk _ _ _ _ _ _ hH ⟨P, pp, B, I, hh, ff, e4⟩ hls)
theorem lw_k16 {t : Nat} (hF : lw_F p s m meth c b L xs D tA adC adM cL q0) (hH : lw_H s D tA adC adM cL q0 σ μ g H locs) (hI : dInv σ μ) (hls : lw_L ls b adC adM q0 (dn t)) (ht : t + 6 ≤ L) (hk : k + 1 ≤ 601024 ∧ n + 6 ≤ 7293034)
    (kk : ∀ (H1 : Heap) (locs1 : List Loc) (ls1 : Array Slot) (σ1 μ1 : pxS) (g1 : Nat → Int64), lw_H s D tA adC adM cL q0 σ1 μ1 g1 H1 locs1 → dInv σ1 μ1 → lw_L ls1 b adC adM q0 (dn t) → lw_W p l e s m below meth c b H1 locs1 (k + 1) (n + 6) (F0 m 1208 ls1 [])) : lw_W p l e s m below meth c b H locs k n (F0 m 771 ls []) := by
  obtain ⟨hx, hb, -⟩ := hF.1
  obtain ⟨P, pp, B, I, hh, ff, hI⟩ := hI
  obtain ⟨r, e1, r2, e2, e3, e4⟩ := dG_never hI (xs (t + 1))
  refine lv_aload_n hx hb (show decode code 771 = .ok (.aload_n 1, 1) by decide +kernel) rfl (lv_at hls 1 rfl) ?_
  refine lw_arg (pc := 772) 1 hF hH hls ht (by decide +kernel) (by decide) ?_
  refine lw_cC (pc := 778) (d := 3) (rest := []) [xs (t + 1)] hF hH hls.1 (by decide +kernel) lL_94 rfl rfl (Nat.le_of_ble_eq_true rfl) ⟨by decide, by decide⟩ ⟨by omega, by omega⟩ (k_PR_never e1) fun H1 locs1 hH => ?_
  refine lv_aload_n hx hb (show decode code 781 = .ok (.aload_n 2, 1) by decide +kernel) rfl (lv_at hls 2 rfl) ?_
  refine lw_arg (pc := 782) 1 hF hH hls ht (by decide +kernel) (by decide) ?_
  refine lw_cM (pc := 788) (d := 3) [xs (t + 1)] hF hH hls.1 (by decide +kernel) lL_97 rfl rfl (Nat.le_of_ble_eq_true rfl) ⟨by decide, by decide⟩ ⟨by omega, by omega⟩ (k_Mo_never e2) fun H2 locs2 hH => ?_
  refine lw_eq (off := 417) hF e3 (show decode code 791 = .ok (.if_icmp .eq 417, 3) by decide +kernel) (by decide) ?_
  exact W.widen (Nat.le_add_right _ _) (Nat.le_add_right _ _) (kk _ _ _ _ _ _ hH ⟨P, pp, B, I, hh, ff, e4⟩ hls)
theorem lw_k17 {t : Nat} (hF : lw_F p s m meth c b L xs D tA adC adM cL q0) (hH : lw_H s D tA adC adM cL q0 σ μ g H locs) (hI : dInv σ μ) (hls : lw_L ls b adC adM q0 (dn t)) (ht : t + 6 ≤ L) (hk : k + 1 ≤ 601024 ∧ n + 6 ≤ 7293034)
    (kk : ∀ (H1 : Heap) (locs1 : List Loc) (ls1 : Array Slot) (σ1 μ1 : pxS) (g1 : Nat → Int64), lw_H s D tA adC adM cL q0 σ1 μ1 g1 H1 locs1 → dInv σ1 μ1 → lw_L ls1 b adC adM q0 (dn t) → lw_W p l e s m below meth c b H1 locs1 (k + 1) (n + 6) (F0 m 1208 ls1 [])) : lw_W p l e s m below meth c b H locs k n (F0 m 796 ls []) := by
  obtain ⟨hx, hb, -⟩ := hF.1
  obtain ⟨P, pp, B, I, hh, ff, hI⟩ := hI
  have hD := hI.W.D
  obtain ⟨r, e1, r2, e2, e3, e4⟩ := dG_order hI hD (xs (t + 1))
  refine lv_aload_n hx hb (show decode code 796 = .ok (.aload_n 1, 1) by decide +kernel) rfl (lv_at hls 1 rfl) ?_
  refine lw_arg (pc := 797) 1 hF hH hls ht (by decide +kernel) (by decide) ?_
  refine lw_cC (pc := 803) (d := 6) (rest := []) [xs (t + 1)] hF hH hls.1 (by decide +kernel) lL_98 rfl rfl (Nat.le_of_ble_eq_true rfl) ⟨by decide, by decide⟩ ⟨by omega, by omega⟩ (k_PR_order e1) fun H1 locs1 hH => ?_
  refine lv_aload_n hx hb (show decode code 806 = .ok (.aload_n 2, 1) by decide +kernel) rfl (lv_at hls 2 rfl) ?_
  refine lw_arg (pc := 807) 1 hF hH hls ht (by decide +kernel) (by decide) ?_
  refine lw_cM (pc := 813) (d := 4) [xs (t + 1)] hF hH hls.1 (by decide +kernel) lL_101 rfl rfl (Nat.le_of_ble_eq_true rfl) ⟨by decide, by decide⟩ ⟨by omega, by omega⟩ (k_Mo_order e2) fun H2 locs2 hH => ?_
  refine lw_eq (off := 392) hF e3 (show decode code 816 = .ok (.if_icmp .eq 392, 3) by decide +kernel) (by decide) ?_
  exact W.widen (Nat.le_add_right _ _) (Nat.le_add_right _ _) (kk _ _ _ _ _ _ hH ⟨P, pp, B, I, hh, ff, e4⟩ hls)
theorem lw_k18 {t : Nat} (hF : lw_F p s m meth c b L xs D tA adC adM cL q0) (hH : lw_H s D tA adC adM cL q0 σ μ g H locs) (hI : dInv σ μ) (hls : lw_L ls b adC adM q0 (dn t)) (ht : t + 6 ≤ L) (hk : k + 1 ≤ 601024 ∧ n + 6 ≤ 7293034)
    (kk : ∀ (H1 : Heap) (locs1 : List Loc) (ls1 : Array Slot) (σ1 μ1 : pxS) (g1 : Nat → Int64), lw_H s D tA adC adM cL q0 σ1 μ1 g1 H1 locs1 → dInv σ1 μ1 → lw_L ls1 b adC adM q0 (dn t) → lw_W p l e s m below meth c b H1 locs1 (k + 1) (n + 6) (F0 m 1208 ls1 [])) : lw_W p l e s m below meth c b H locs k n (F0 m 821 ls []) := by
  obtain ⟨hx, hb, -⟩ := hF.1
  obtain ⟨P, pp, B, I, hh, ff, hI⟩ := hI
  have hD := hI.W.D
  obtain ⟨r, e1, r2, e2, e3, e4⟩ := dG_heat hI hD
  refine lv_aload_n hx hb (show decode code 821 = .ok (.aload_n 1, 1) by decide +kernel) rfl (lv_at hls 1 rfl) ?_
  refine lw_cC (pc := 822) (d := 4) (rest := []) [] hF hH hls.1 (by decide +kernel) lL_102 rfl rfl (Nat.le_of_ble_eq_true rfl) ⟨by decide, by decide⟩ ⟨by omega, by omega⟩ (k_PR_heat e1) fun H1 locs1 hH => ?_
  refine lv_aload_n hx hb (show decode code 825 = .ok (.aload_n 2, 1) by decide +kernel) rfl (lv_at hls 2 rfl) ?_
  refine lw_cM (pc := 826) (d := 4) [] hF hH hls.1 (by decide +kernel) lL_105 rfl rfl (Nat.le_of_ble_eq_true rfl) ⟨by decide, by decide⟩ ⟨by omega, by omega⟩ (k_Mo_heat e2) fun H2 locs2 hH => ?_
  refine lw_eq (off := 379) hF e3 (show decode code 829 = .ok (.if_icmp .eq 379, 3) by decide +kernel) (by decide) ?_
  exact W.widen (Nat.le_add_right _ _) (Nat.le_add_right _ _) (kk _ _ _ _ _ _ hH ⟨P, pp, B, I, hh, ff, e4⟩ hls)
theorem lw_k19 {t : Nat} (hF : lw_F p s m meth c b L xs D tA adC adM cL q0) (hH : lw_H s D tA adC adM cL q0 σ μ g H locs) (hI : dInv σ μ) (hls : lw_L ls b adC adM q0 (dn t)) (ht : t + 6 ≤ L) (hk : k + 1 ≤ 601024 ∧ n + 6 ≤ 7293034)
    (kk : ∀ (H1 : Heap) (locs1 : List Loc) (ls1 : Array Slot) (σ1 μ1 : pxS) (g1 : Nat → Int64), lw_H s D tA adC adM cL q0 σ1 μ1 g1 H1 locs1 → dInv σ1 μ1 → lw_L ls1 b adC adM q0 (dn t) → lw_W p l e s m below meth c b H1 locs1 (k + 1) (n + 6) (F0 m 1208 ls1 [])) : lw_W p l e s m below meth c b H locs k n (F0 m 834 ls []) := by
  obtain ⟨hx, hb, -⟩ := hF.1
  obtain ⟨P, pp, B, I, hh, ff, hI⟩ := hI
  obtain ⟨r, e1, r2, e2, e3, e4⟩ := dS_ahead hI (xs (t + 1)) (xs (t + 2)) (xs (t + 3))
  refine lv_aload_n hx hb (show decode code 834 = .ok (.aload_n 1, 1) by decide +kernel) rfl (lv_at hls 1 rfl) ?_
  refine lw_arg (pc := 835) 1 hF hH hls ht (by decide +kernel) (by decide) ?_
  refine lw_arg (pc := 841) 2 hF hH hls ht (by decide +kernel) (by decide) ?_
  refine lw_arg (pc := 847) 3 hF hH hls ht (by decide +kernel) (by decide) ?_
  refine lw_cC (pc := 853) (d := 7) (rest := []) [xs (t + 1), xs (t + 2), xs (t + 3)] hF hH hls.1 (by decide +kernel) lL_106 rfl rfl (Nat.le_of_ble_eq_true rfl) ⟨by decide, by decide⟩ ⟨by omega, by omega⟩ (k_PR_ahead e1) fun H1 locs1 hH => ?_
  refine lv_aload_n hx hb (show decode code 856 = .ok (.aload_n 2, 1) by decide +kernel) rfl (lv_at hls 2 rfl) ?_
  refine lw_arg (pc := 857) 1 hF hH hls ht (by decide +kernel) (by decide) ?_
  refine lw_arg (pc := 863) 2 hF hH hls ht (by decide +kernel) (by decide) ?_
  refine lw_arg (pc := 869) 3 hF hH hls ht (by decide +kernel) (by decide) ?_
  refine lw_cM (pc := 875) (d := 9) [xs (t + 1), xs (t + 2), xs (t + 3)] hF hH hls.1 (by decide +kernel) lL_110 rfl rfl (Nat.le_of_ble_eq_true rfl) ⟨by decide, by decide⟩ ⟨by omega, by omega⟩ (k_Mo_ahead e2) fun H2 locs2 hH => ?_
  refine lw_eq (off := 330) hF e3 (show decode code 878 = .ok (.if_icmp .eq 330, 3) by decide +kernel) (by decide) ?_
  exact W.widen (Nat.le_add_right _ _) (Nat.le_add_right _ _) (kk _ _ _ _ _ _ hH e4 hls)
theorem lw_k20 {t : Nat} (hF : lw_F p s m meth c b L xs D tA adC adM cL q0) (hH : lw_H s D tA adC adM cL q0 σ μ g H locs) (hI : dInv σ μ) (hls : lw_L ls b adC adM q0 (dn t)) (ht : t + 6 ≤ L) (hk : k + 1 ≤ 601024 ∧ n + 6 ≤ 7293034)
    (kk : ∀ (H1 : Heap) (locs1 : List Loc) (ls1 : Array Slot) (σ1 μ1 : pxS) (g1 : Nat → Int64), lw_H s D tA adC adM cL q0 σ1 μ1 g1 H1 locs1 → dInv σ1 μ1 → lw_L ls1 b adC adM q0 (dn t) → lw_W p l e s m below meth c b H1 locs1 (k + 1) (n + 6) (F0 m 1208 ls1 [])) : lw_W p l e s m below meth c b H locs k n (F0 m 883 ls []) := by
  obtain ⟨hx, hb, -⟩ := hF.1
  obtain ⟨P, pp, B, I, hh, ff, hI⟩ := hI
  obtain ⟨r, e1, r2, e2, e3, e4⟩ := dS_peak hI (xs (t + 1))
  refine lv_aload_n hx hb (show decode code 883 = .ok (.aload_n 1, 1) by decide +kernel) rfl (lv_at hls 1 rfl) ?_
  refine lw_arg (pc := 884) 1 hF hH hls ht (by decide +kernel) (by decide) ?_
  refine lw_cC (pc := 890) (d := 7) (rest := []) [xs (t + 1)] hF hH hls.1 (by decide +kernel) lL_111 rfl rfl (Nat.le_of_ble_eq_true rfl) ⟨by decide, by decide⟩ ⟨by omega, by omega⟩ (k_PR_peak e1) fun H1 locs1 hH => ?_
  refine lv_aload_n hx hb (show decode code 893 = .ok (.aload_n 2, 1) by decide +kernel) rfl (lv_at hls 2 rfl) ?_
  refine lw_arg (pc := 894) 1 hF hH hls ht (by decide +kernel) (by decide) ?_
  refine lw_cM (pc := 900) (d := 9) [xs (t + 1)] hF hH hls.1 (by decide +kernel) lL_114 rfl rfl (Nat.le_of_ble_eq_true rfl) ⟨by decide, by decide⟩ ⟨by omega, by omega⟩ (k_Mo_peak e2) fun H2 locs2 hH => ?_
  refine lw_eq (off := 305) hF e3 (show decode code 903 = .ok (.if_icmp .eq 305, 3) by decide +kernel) (by decide) ?_
  exact W.widen (Nat.le_add_right _ _) (Nat.le_add_right _ _) (kk _ _ _ _ _ _ hH e4 hls)
theorem lw_k21 {t : Nat} (hF : lw_F p s m meth c b L xs D tA adC adM cL q0) (hH : lw_H s D tA adC adM cL q0 σ μ g H locs) (hI : dInv σ μ) (hls : lw_L ls b adC adM q0 (dn t)) (ht : t + 6 ≤ L) (hk : k + 1 ≤ 601024 ∧ n + 6 ≤ 7293034)
    (kk : ∀ (H1 : Heap) (locs1 : List Loc) (ls1 : Array Slot) (σ1 μ1 : pxS) (g1 : Nat → Int64), lw_H s D tA adC adM cL q0 σ1 μ1 g1 H1 locs1 → dInv σ1 μ1 → lw_L ls1 b adC adM q0 (dn t) → lw_W p l e s m below meth c b H1 locs1 (k + 1) (n + 6) (F0 m 1208 ls1 [])) : lw_W p l e s m below meth c b H locs k n (F0 m 908 ls []) := by
  obtain ⟨hx, hb, -⟩ := hF.1
  obtain ⟨P, pp, B, I, hh, ff, hI⟩ := hI
  obtain ⟨r, e1, r2, e2, e3, e4⟩ := dS_quiet hI
  refine lv_aload_n hx hb (show decode code 908 = .ok (.aload_n 1, 1) by decide +kernel) rfl (lv_at hls 1 rfl) ?_
  refine lw_cC (pc := 909) (d := 7) (rest := []) [] hF hH hls.1 (by decide +kernel) lL_115 rfl rfl (Nat.le_of_ble_eq_true rfl) ⟨by decide, by decide⟩ ⟨by omega, by omega⟩ (k_PR_quiet e1) fun H1 locs1 hH => ?_
  refine lv_aload_n hx hb (show decode code 912 = .ok (.aload_n 2, 1) by decide +kernel) rfl (lv_at hls 2 rfl) ?_
  refine lw_cM (pc := 913) (d := 9) [] hF hH hls.1 (by decide +kernel) lL_118 rfl rfl (Nat.le_of_ble_eq_true rfl) ⟨by decide, by decide⟩ ⟨by omega, by omega⟩ (k_Mo_quiet e2) fun H2 locs2 hH => ?_
  refine lw_eq (off := 292) hF e3 (show decode code 916 = .ok (.if_icmp .eq 292, 3) by decide +kernel) (by decide) ?_
  exact W.widen (Nat.le_add_right _ _) (Nat.le_add_right _ _) (kk _ _ _ _ _ _ hH e4 hls)
theorem lw_k22 {t : Nat} (hF : lw_F p s m meth c b L xs D tA adC adM cL q0) (hH : lw_H s D tA adC adM cL q0 σ μ g H locs) (hI : dInv σ μ) (hls : lw_L ls b adC adM q0 (dn t)) (ht : t + 6 ≤ L) (hk : k + 1 ≤ 601024 ∧ n + 6 ≤ 7293034)
    (kk : ∀ (H1 : Heap) (locs1 : List Loc) (ls1 : Array Slot) (σ1 μ1 : pxS) (g1 : Nat → Int64), lw_H s D tA adC adM cL q0 σ1 μ1 g1 H1 locs1 → dInv σ1 μ1 → lw_L ls1 b adC adM q0 (dn t) → lw_W p l e s m below meth c b H1 locs1 (k + 1) (n + 6) (F0 m 1208 ls1 [])) : lw_W p l e s m below meth c b H locs k n (F0 m 921 ls []) := by
  obtain ⟨hx, hb, -⟩ := hF.1
  obtain ⟨P, pp, B, I, hh, ff, hI⟩ := hI
  obtain ⟨r, e1, r2, e2, e3, e4⟩ := dS_leastLimit hI (xs (t + 1))
  refine lv_aload_n hx hb (show decode code 921 = .ok (.aload_n 1, 1) by decide +kernel) rfl (lv_at hls 1 rfl) ?_
  refine lw_arg (pc := 922) 1 hF hH hls ht (by decide +kernel) (by decide) ?_
  refine lw_cC (pc := 928) (d := 7) (rest := []) [xs (t + 1)] hF hH hls.1 (by decide +kernel) lL_119 rfl rfl (Nat.le_of_ble_eq_true rfl) ⟨by decide, by decide⟩ ⟨by omega, by omega⟩ (k_PR_leastLimit e1) fun H1 locs1 hH => ?_
  refine lv_aload_n hx hb (show decode code 931 = .ok (.aload_n 2, 1) by decide +kernel) rfl (lv_at hls 2 rfl) ?_
  refine lw_arg (pc := 932) 1 hF hH hls ht (by decide +kernel) (by decide) ?_
  refine lw_cM (pc := 938) (d := 9) [xs (t + 1)] hF hH hls.1 (by decide +kernel) lL_122 rfl rfl (Nat.le_of_ble_eq_true rfl) ⟨by decide, by decide⟩ ⟨by omega, by omega⟩ (k_Mo_leastLimit e2) fun H2 locs2 hH => ?_
  refine lw_eq (off := 267) hF e3 (show decode code 941 = .ok (.if_icmp .eq 267, 3) by decide +kernel) (by decide) ?_
  exact W.widen (Nat.le_add_right _ _) (Nat.le_add_right _ _) (kk _ _ _ _ _ _ hH e4 hls)
theorem lw_k23 {t : Nat} (hF : lw_F p s m meth c b L xs D tA adC adM cL q0) (hH : lw_H s D tA adC adM cL q0 σ μ g H locs) (hI : dInv σ μ) (hls : lw_L ls b adC adM q0 (dn t)) (ht : t + 6 ≤ L) (hk : k + 1 ≤ 601024 ∧ n + 6 ≤ 7293034)
    (kk : ∀ (H1 : Heap) (locs1 : List Loc) (ls1 : Array Slot) (σ1 μ1 : pxS) (g1 : Nat → Int64), lw_H s D tA adC adM cL q0 σ1 μ1 g1 H1 locs1 → dInv σ1 μ1 → lw_L ls1 b adC adM q0 (dn t) → lw_W p l e s m below meth c b H1 locs1 (k + 1) (n + 6) (F0 m 1208 ls1 [])) : lw_W p l e s m below meth c b H locs k n (F0 m 946 ls []) := by
  obtain ⟨hx, hb, -⟩ := hF.1
  obtain ⟨P, pp, B, I, hh, ff, hI⟩ := hI
  obtain ⟨r, e1, r2, e2, e3, e4⟩ := dS_ifLoad hI (xs (t + 1)) (xs (t + 2))
  refine lv_aload_n hx hb (show decode code 946 = .ok (.aload_n 1, 1) by decide +kernel) rfl (lv_at hls 1 rfl) ?_
  refine lw_arg (pc := 947) 1 hF hH hls ht (by decide +kernel) (by decide) ?_
  refine lw_arg (pc := 953) 2 hF hH hls ht (by decide +kernel) (by decide) ?_
  refine lw_cC (pc := 959) (d := 7) (rest := []) [xs (t + 1), xs (t + 2)] hF hH hls.1 (by decide +kernel) lL_123 rfl rfl (Nat.le_of_ble_eq_true rfl) ⟨by decide, by decide⟩ ⟨by omega, by omega⟩ (k_PR_ifLoad e1) fun H1 locs1 hH => ?_
  refine lv_aload_n hx hb (show decode code 962 = .ok (.aload_n 2, 1) by decide +kernel) rfl (lv_at hls 2 rfl) ?_
  refine lw_arg (pc := 963) 1 hF hH hls ht (by decide +kernel) (by decide) ?_
  refine lw_arg (pc := 969) 2 hF hH hls ht (by decide +kernel) (by decide) ?_
  refine lw_cM (pc := 975) (d := 9) [xs (t + 1), xs (t + 2)] hF hH hls.1 (by decide +kernel) lL_126 rfl rfl (Nat.le_of_ble_eq_true rfl) ⟨by decide, by decide⟩ ⟨by omega, by omega⟩ (k_Mo_ifLoad e2) fun H2 locs2 hH => ?_
  refine lw_eq (off := 230) hF e3 (show decode code 978 = .ok (.if_icmp .eq 230, 3) by decide +kernel) (by decide) ?_
  exact W.widen (Nat.le_add_right _ _) (Nat.le_add_right _ _) (kk _ _ _ _ _ _ hH e4 hls)
theorem lw_k24 {t : Nat} (hF : lw_F p s m meth c b L xs D tA adC adM cL q0) (hH : lw_H s D tA adC adM cL q0 σ μ g H locs) (hI : dInv σ μ) (hls : lw_L ls b adC adM q0 (dn t)) (ht : t + 6 ≤ L) (hk : k + 1 ≤ 601024 ∧ n + 6 ≤ 7293034)
    (kk : ∀ (H1 : Heap) (locs1 : List Loc) (ls1 : Array Slot) (σ1 μ1 : pxS) (g1 : Nat → Int64), lw_H s D tA adC adM cL q0 σ1 μ1 g1 H1 locs1 → dInv σ1 μ1 → lw_L ls1 b adC adM q0 (dn t) → lw_W p l e s m below meth c b H1 locs1 (k + 1) (n + 6) (F0 m 1208 ls1 [])) : lw_W p l e s m below meth c b H locs k n (F0 m 983 ls []) := by
  obtain ⟨hx, hb, -⟩ := hF.1
  obtain ⟨P, pp, B, I, hh, ff, hI⟩ := hI
  obtain ⟨r, e1, r2, e2, e3, e4⟩ := dS_ifOff hI (xs (t + 1))
  refine lv_aload_n hx hb (show decode code 983 = .ok (.aload_n 1, 1) by decide +kernel) rfl (lv_at hls 1 rfl) ?_
  refine lw_arg (pc := 984) 1 hF hH hls ht (by decide +kernel) (by decide) ?_
  refine lw_cC (pc := 990) (d := 4) (rest := []) [xs (t + 1)] hF hH hls.1 (by decide +kernel) lL_127 rfl rfl (Nat.le_of_ble_eq_true rfl) ⟨by decide, by decide⟩ ⟨by omega, by omega⟩ (k_PR_ifOff e1) fun H1 locs1 hH => ?_
  refine lv_aload_n hx hb (show decode code 993 = .ok (.aload_n 2, 1) by decide +kernel) rfl (lv_at hls 2 rfl) ?_
  refine lw_arg (pc := 994) 1 hF hH hls ht (by decide +kernel) (by decide) ?_
  refine lw_cM (pc := 1000) (d := 6) [xs (t + 1)] hF hH hls.1 (by decide +kernel) lL_130 rfl rfl (Nat.le_of_ble_eq_true rfl) ⟨by decide, by decide⟩ ⟨by omega, by omega⟩ (k_Mo_ifOff e2) fun H2 locs2 hH => ?_
  refine lw_eq (off := 205) hF e3 (show decode code 1003 = .ok (.if_icmp .eq 205, 3) by decide +kernel) (by decide) ?_
  exact W.widen (Nat.le_add_right _ _) (Nat.le_add_right _ _) (kk _ _ _ _ _ _ hH e4 hls)
theorem lw_k25 {t : Nat} (hF : lw_F p s m meth c b L xs D tA adC adM cL q0) (hH : lw_H s D tA adC adM cL q0 σ μ g H locs) (hI : dInv σ μ) (hls : lw_L ls b adC adM q0 (dn t)) (ht : t + 6 ≤ L) (hk : k + 1 ≤ 601024 ∧ n + 6 ≤ 7293034)
    (kk : ∀ (H1 : Heap) (locs1 : List Loc) (ls1 : Array Slot) (σ1 μ1 : pxS) (g1 : Nat → Int64), lw_H s D tA adC adM cL q0 σ1 μ1 g1 H1 locs1 → dInv σ1 μ1 → lw_L ls1 b adC adM q0 (dn t) → lw_W p l e s m below meth c b H1 locs1 (k + 1) (n + 6) (F0 m 1208 ls1 [])) : lw_W p l e s m below meth c b H locs k n (F0 m 1008 ls []) := by
  obtain ⟨hx, hb, -⟩ := hF.1
  obtain ⟨P, pp, B, I, hh, ff, hI⟩ := hI
  obtain ⟨r, e1, r2, e2, e3, e4⟩ := dS_bestOff hI (xs (t + 1))
  refine lv_aload_n hx hb (show decode code 1008 = .ok (.aload_n 1, 1) by decide +kernel) rfl (lv_at hls 1 rfl) ?_
  refine lw_arg (pc := 1009) 1 hF hH hls ht (by decide +kernel) (by decide) ?_
  refine lw_cC (pc := 1015) (d := 8) (rest := []) [xs (t + 1)] hF hH hls.1 (by decide +kernel) lL_131 rfl rfl (Nat.le_of_ble_eq_true rfl) ⟨by decide, by decide⟩ ⟨by omega, by omega⟩ (k_PR_bestOff e1) fun H1 locs1 hH => ?_
  refine lv_aload_n hx hb (show decode code 1018 = .ok (.aload_n 2, 1) by decide +kernel) rfl (lv_at hls 2 rfl) ?_
  refine lw_arg (pc := 1019) 1 hF hH hls ht (by decide +kernel) (by decide) ?_
  refine lw_cM (pc := 1025) (d := 9) [xs (t + 1)] hF hH hls.1 (by decide +kernel) lL_134 rfl rfl (Nat.le_of_ble_eq_true rfl) ⟨by decide, by decide⟩ ⟨by omega, by omega⟩ (k_Mo_bestOff e2) fun H2 locs2 hH => ?_
  refine lw_eq (off := 180) hF e3 (show decode code 1028 = .ok (.if_icmp .eq 180, 3) by decide +kernel) (by decide) ?_
  exact W.widen (Nat.le_add_right _ _) (Nat.le_add_right _ _) (kk _ _ _ _ _ _ hH e4 hls)
theorem lw_k26 {t : Nat} (hF : lw_F p s m meth c b L xs D tA adC adM cL q0) (hH : lw_H s D tA adC adM cL q0 σ μ g H locs) (hI : dInv σ μ) (hls : lw_L ls b adC adM q0 (dn t)) (ht : t + 6 ≤ L) (hk : k + 1 ≤ 601024 ∧ n + 6 ≤ 7293034)
    (kk : ∀ (H1 : Heap) (locs1 : List Loc) (ls1 : Array Slot) (σ1 μ1 : pxS) (g1 : Nat → Int64), lw_H s D tA adC adM cL q0 σ1 μ1 g1 H1 locs1 → dInv σ1 μ1 → lw_L ls1 b adC adM q0 (dn t) → lw_W p l e s m below meth c b H1 locs1 (k + 1) (n + 6) (F0 m 1208 ls1 [])) : lw_W p l e s m below meth c b H locs k n (F0 m 1033 ls []) := by
  obtain ⟨hx, hb, -⟩ := hF.1
  obtain ⟨P, pp, B, I, hh, ff, hI⟩ := hI
  obtain ⟨r, e1, r2, e2, e3, e4⟩ := dG_total hI
  refine lv_aload_n hx hb (show decode code 1033 = .ok (.aload_n 1, 1) by decide +kernel) rfl (lv_at hls 1 rfl) ?_
  refine lw_cC (pc := 1034) (d := 1) (rest := []) [] hF hH hls.1 (by decide +kernel) lL_135 rfl rfl (Nat.le_of_ble_eq_true rfl) ⟨by decide, by decide⟩ ⟨by omega, by omega⟩ (k_PR_total e1) fun H1 locs1 hH => ?_
  refine lv_aload_n hx hb (show decode code 1037 = .ok (.aload_n 2, 1) by decide +kernel) rfl (lv_at hls 2 rfl) ?_
  refine lw_cM (pc := 1038) (d := 1) [] hF hH hls.1 (by decide +kernel) lL_138 rfl rfl (Nat.le_of_ble_eq_true rfl) ⟨by decide, by decide⟩ ⟨by omega, by omega⟩ (k_Mo_total e2) fun H2 locs2 hH => ?_
  refine lw_eq (off := 167) hF e3 (show decode code 1041 = .ok (.if_icmp .eq 167, 3) by decide +kernel) (by decide) ?_
  exact W.widen (Nat.le_add_right _ _) (Nat.le_add_right _ _) (kk _ _ _ _ _ _ hH ⟨P, pp, B, I, hh, ff, e4⟩ hls)
theorem lw_k27 {t : Nat} (hF : lw_F p s m meth c b L xs D tA adC adM cL q0) (hH : lw_H s D tA adC adM cL q0 σ μ g H locs) (hI : dInv σ μ) (hls : lw_L ls b adC adM q0 (dn t)) (ht : t + 6 ≤ L) (hk : k + 1 ≤ 601024 ∧ n + 6 ≤ 7293034)
    (kk : ∀ (H1 : Heap) (locs1 : List Loc) (ls1 : Array Slot) (σ1 μ1 : pxS) (g1 : Nat → Int64), lw_H s D tA adC adM cL q0 σ1 μ1 g1 H1 locs1 → dInv σ1 μ1 → lw_L ls1 b adC adM q0 (dn t) → lw_W p l e s m below meth c b H1 locs1 (k + 1) (n + 6) (F0 m 1208 ls1 [])) : lw_W p l e s m below meth c b H locs k n (F0 m 1046 ls []) := by
  obtain ⟨hx, hb, -⟩ := hF.1
  obtain ⟨P, pp, B, I, hh, ff, hI⟩ := hI
  obtain ⟨r, e1, r2, e2, e3, e4⟩ := dG_log hI (xs (t + 1)) (xs (t + 2))
  refine lv_aload_n hx hb (show decode code 1046 = .ok (.aload_n 1, 1) by decide +kernel) rfl (lv_at hls 1 rfl) ?_
  refine lw_arg (pc := 1047) 1 hF hH hls ht (by decide +kernel) (by decide) ?_
  refine lw_arg (pc := 1053) 2 hF hH hls ht (by decide +kernel) (by decide) ?_
  refine lw_cC (pc := 1059) (d := 3) (rest := []) [xs (t + 1), xs (t + 2)] hF hH hls.1 (by decide +kernel) lL_139 rfl rfl (Nat.le_of_ble_eq_true rfl) ⟨by decide, by decide⟩ ⟨by omega, by omega⟩ (k_PR_log e1) fun H1 locs1 hH => ?_
  refine lv_aload_n hx hb (show decode code 1062 = .ok (.aload_n 2, 1) by decide +kernel) rfl (lv_at hls 2 rfl) ?_
  refine lw_arg (pc := 1063) 1 hF hH hls ht (by decide +kernel) (by decide) ?_
  refine lw_arg (pc := 1069) 2 hF hH hls ht (by decide +kernel) (by decide) ?_
  refine lw_cM (pc := 1075) (d := 1) [xs (t + 1), xs (t + 2)] hF hH hls.1 (by decide +kernel) lL_142 rfl rfl (Nat.le_of_ble_eq_true rfl) ⟨by decide, by decide⟩ ⟨by omega, by omega⟩ (k_Mo_log e2) fun H2 locs2 hH => ?_
  refine lw_eq (off := 130) hF e3 (show decode code 1078 = .ok (.if_icmp .eq 130, 3) by decide +kernel) (by decide) ?_
  exact W.widen (Nat.le_add_right _ _) (Nat.le_add_right _ _) (kk _ _ _ _ _ _ hH ⟨P, pp, B, I, hh, ff, e4⟩ hls)
theorem lw_k28 {t : Nat} (hF : lw_F p s m meth c b L xs D tA adC adM cL q0) (hH : lw_H s D tA adC adM cL q0 σ μ g H locs) (hI : dInv σ μ) (hls : lw_L ls b adC adM q0 (dn t)) (ht : t + 6 ≤ L) (hk : k + 1 ≤ 601024 ∧ n + 6 ≤ 7293034)
    (kk : ∀ (H1 : Heap) (locs1 : List Loc) (ls1 : Array Slot) (σ1 μ1 : pxS) (g1 : Nat → Int64), lw_H s D tA adC adM cL q0 σ1 μ1 g1 H1 locs1 → dInv σ1 μ1 → lw_L ls1 b adC adM q0 (dn t) → lw_W p l e s m below meth c b H1 locs1 (k + 1) (n + 6) (F0 m 1208 ls1 [])) : lw_W p l e s m below meth c b H locs k n (F0 m 1083 ls []) := by
  obtain ⟨hx, hb, -⟩ := hF.1
  obtain ⟨P, pp, B, I, hh, ff, hI⟩ := hI
  obtain ⟨r, e1, r2, e2, e3, e4⟩ := dS_chance hI (xs (t + 1)) (xs (t + 2)) (xs (t + 3)) (xs (t + 4))
  refine lv_aload_n hx hb (show decode code 1083 = .ok (.aload_n 1, 1) by decide +kernel) rfl (lv_at hls 1 rfl) ?_
  refine lw_arg (pc := 1084) 1 hF hH hls ht (by decide +kernel) (by decide) ?_
  refine lw_arg (pc := 1090) 2 hF hH hls ht (by decide +kernel) (by decide) ?_
  refine lw_arg (pc := 1096) 3 hF hH hls ht (by decide +kernel) (by decide) ?_
  refine lw_arg (pc := 1102) 4 hF hH hls ht (by decide +kernel) (by decide) ?_
  refine lw_cC (pc := 1108) (d := 8) (rest := []) [xs (t + 1), xs (t + 2), xs (t + 3), xs (t + 4)] hF hH hls.1 (by decide +kernel) lL_143 rfl rfl (Nat.le_of_ble_eq_true rfl) ⟨by decide, by decide⟩ ⟨by omega, by omega⟩ (k_PR_chance e1) fun H1 locs1 hH => ?_
  refine lv_aload_n hx hb (show decode code 1111 = .ok (.aload_n 2, 1) by decide +kernel) rfl (lv_at hls 2 rfl) ?_
  refine lw_arg (pc := 1112) 1 hF hH hls ht (by decide +kernel) (by decide) ?_
  refine lw_arg (pc := 1118) 2 hF hH hls ht (by decide +kernel) (by decide) ?_
  refine lw_arg (pc := 1124) 3 hF hH hls ht (by decide +kernel) (by decide) ?_
  refine lw_arg (pc := 1130) 4 hF hH hls ht (by decide +kernel) (by decide) ?_
  refine lw_cM (pc := 1136) (d := 9) [xs (t + 1), xs (t + 2), xs (t + 3), xs (t + 4)] hF hH hls.1 (by decide +kernel) lL_147 rfl rfl (Nat.le_of_ble_eq_true rfl) ⟨by decide, by decide⟩ ⟨by omega, by omega⟩ (k_Mo_chance e2) fun H2 locs2 hH => ?_
  refine lw_eq (off := 69) hF e3 (show decode code 1139 = .ok (.if_icmp .eq 69, 3) by decide +kernel) (by decide) ?_
  exact W.widen (Nat.le_add_right _ _) (Nat.le_add_right _ _) (kk _ _ _ _ _ _ hH e4 hls)
theorem lw_k29 {t : Nat} (hF : lw_F p s m meth c b L xs D tA adC adM cL q0) (hH : lw_H s D tA adC adM cL q0 σ μ g H locs) (hI : dInv σ μ) (hls : lw_L ls b adC adM q0 (dn t)) (ht : t + 6 ≤ L) (hk : k + 1 ≤ 601024 ∧ n + 6 ≤ 7293034)
    (kk : ∀ (H1 : Heap) (locs1 : List Loc) (ls1 : Array Slot) (σ1 μ1 : pxS) (g1 : Nat → Int64), lw_H s D tA adC adM cL q0 σ1 μ1 g1 H1 locs1 → dInv σ1 μ1 → lw_L ls1 b adC adM q0 (dn t) → lw_W p l e s m below meth c b H1 locs1 (k + 1) (n + 6) (F0 m 1208 ls1 [])) : lw_W p l e s m below meth c b H locs k n (F0 m 1144 ls []) := by
  obtain ⟨hx, hb, -⟩ := hF.1
  obtain ⟨P, pp, B, I, hh, ff, hI⟩ := hI
  obtain ⟨r, e1, r2, e2, e3, e4⟩ := dS_undo hI
  refine lv_aload_n hx hb (show decode code 1144 = .ok (.aload_n 1, 1) by decide +kernel) rfl (lv_at hls 1 rfl) ?_
  refine lw_cC (pc := 1145) (d := 3) (rest := []) [] hF hH hls.1 (by decide +kernel) lL_148 rfl rfl (Nat.le_of_ble_eq_true rfl) ⟨by decide, by decide⟩ ⟨by omega, by omega⟩ (k_PR_undo e1) fun H1 locs1 hH => ?_
  refine lv_aload_n hx hb (show decode code 1148 = .ok (.aload_n 2, 1) by decide +kernel) rfl (lv_at hls 2 rfl) ?_
  refine lw_cM (pc := 1149) (d := 2) [] hF hH hls.1 (by decide +kernel) lL_151 rfl rfl (Nat.le_of_ble_eq_true rfl) ⟨by decide, by decide⟩ ⟨by omega, by omega⟩ (k_Mo_undo e2) fun H2 locs2 hH => ?_
  refine lw_eq (off := 56) hF e3 (show decode code 1152 = .ok (.if_icmp .eq 56, 3) by decide +kernel) (by decide) ?_
  exact W.widen (Nat.le_add_right _ _) (Nat.le_add_right _ _) (kk _ _ _ _ _ _ hH e4 hls)
theorem lw_k30 {t : Nat} (hF : lw_F p s m meth c b L xs D tA adC adM cL q0) (hH : lw_H s D tA adC adM cL q0 σ μ g H locs) (hI : dInv σ μ) (hls : lw_L ls b adC adM q0 (dn t)) (ht : t + 6 ≤ L) (hk : k + 1 ≤ 601024 ∧ n + 6 ≤ 7293034)
    (kk : ∀ (H1 : Heap) (locs1 : List Loc) (ls1 : Array Slot) (σ1 μ1 : pxS) (g1 : Nat → Int64), lw_H s D tA adC adM cL q0 σ1 μ1 g1 H1 locs1 → dInv σ1 μ1 → lw_L ls1 b adC adM q0 (dn t) → lw_W p l e s m below meth c b H1 locs1 (k + 1) (n + 6) (F0 m 1208 ls1 [])) : lw_W p l e s m below meth c b H locs k n (F0 m 1157 ls []) := by
  obtain ⟨hx, hb, -⟩ := hF.1
  obtain ⟨P, pp, B, I, hh, ff, hI⟩ := hI
  obtain ⟨r, e1, r2, e2, e3, e4⟩ := dS_keep hI
  refine lv_aload_n hx hb (show decode code 1157 = .ok (.aload_n 1, 1) by decide +kernel) rfl (lv_at hls 1 rfl) ?_
  refine lw_cC (pc := 1158) (d := 3) (rest := []) [] hF hH hls.1 (by decide +kernel) lL_152 rfl rfl (Nat.le_of_ble_eq_true rfl) ⟨by decide, by decide⟩ ⟨by omega, by omega⟩ (k_PR_keep e1) fun H1 locs1 hH => ?_
  refine lv_aload_n hx hb (show decode code 1161 = .ok (.aload_n 2, 1) by decide +kernel) rfl (lv_at hls 2 rfl) ?_
  refine lw_cM (pc := 1162) (d := 2) [] hF hH hls.1 (by decide +kernel) lL_155 rfl rfl (Nat.le_of_ble_eq_true rfl) ⟨by decide, by decide⟩ ⟨by omega, by omega⟩ (k_Mo_keep e2) fun H2 locs2 hH => ?_
  refine lw_eq (off := 43) hF e3 (show decode code 1165 = .ok (.if_icmp .eq 43, 3) by decide +kernel) (by decide) ?_
  exact W.widen (Nat.le_add_right _ _) (Nat.le_add_right _ _) (kk _ _ _ _ _ _ hH e4 hls)
theorem lw_k31 {t : Nat} (hF : lw_F p s m meth c b L xs D tA adC adM cL q0) (hH : lw_H s D tA adC adM cL q0 σ μ g H locs) (hI : dInv σ μ) (hls : lw_L ls b adC adM q0 (dn t)) (ht : t + 6 ≤ L) (hk : k + 1 ≤ 601024 ∧ n + 6 ≤ 7293034)
    (kk : ∀ (H1 : Heap) (locs1 : List Loc) (ls1 : Array Slot) (σ1 μ1 : pxS) (g1 : Nat → Int64), lw_H s D tA adC adM cL q0 σ1 μ1 g1 H1 locs1 → dInv σ1 μ1 → lw_L ls1 b adC adM q0 (dn t) → lw_W p l e s m below meth c b H1 locs1 (k + 1) (n + 6) (F0 m 1208 ls1 [])) : lw_W p l e s m below meth c b H locs k n (F0 m 1170 ls []) := by
  obtain ⟨hx, hb, -⟩ := hF.1
  obtain ⟨P, pp, B, I, hh, ff, hI⟩ := hI
  obtain ⟨r, e1, r2, e2, e3, e4⟩ := dS_back hI
  refine lv_aload_n hx hb (show decode code 1170 = .ok (.aload_n 1, 1) by decide +kernel) rfl (lv_at hls 1 rfl) ?_
  refine lw_cC (pc := 1171) (d := 3) (rest := []) [] hF hH hls.1 (by decide +kernel) lL_156 rfl rfl (Nat.le_of_ble_eq_true rfl) ⟨by decide, by decide⟩ ⟨by omega, by omega⟩ (k_PR_back e1) fun H1 locs1 hH => ?_
  refine lv_aload_n hx hb (show decode code 1174 = .ok (.aload_n 2, 1) by decide +kernel) rfl (lv_at hls 2 rfl) ?_
  refine lw_cM (pc := 1175) (d := 2) [] hF hH hls.1 (by decide +kernel) lL_159 rfl rfl (Nat.le_of_ble_eq_true rfl) ⟨by decide, by decide⟩ ⟨by omega, by omega⟩ (k_Mo_back e2) fun H2 locs2 hH => ?_
  refine lw_eq (off := 30) hF e3 (show decode code 1178 = .ok (.if_icmp .eq 30, 3) by decide +kernel) (by decide) ?_
  exact W.widen (Nat.le_add_right _ _) (Nat.le_add_right _ _) (kk _ _ _ _ _ _ hH e4 hls)
theorem lw_k32 {t : Nat} (hF : lw_F p s m meth c b L xs D tA adC adM cL q0) (hH : lw_H s D tA adC adM cL q0 σ μ g H locs) (hI : dInv σ μ) (hls : lw_L ls b adC adM q0 (dn t)) (ht : t + 6 ≤ L) (hk : k + 1 ≤ 601024 ∧ n + 6 ≤ 7293034)
    (kk : ∀ (H1 : Heap) (locs1 : List Loc) (ls1 : Array Slot) (σ1 μ1 : pxS) (g1 : Nat → Int64), lw_H s D tA adC adM cL q0 σ1 μ1 g1 H1 locs1 → dInv σ1 μ1 → lw_L ls1 b adC adM q0 (dn t) → lw_W p l e s m below meth c b H1 locs1 (k + 1) (n + 6) (F0 m 1208 ls1 [])) : lw_W p l e s m below meth c b H locs k n (F0 m 1183 ls []) := by
  obtain ⟨hx, hb, -⟩ := hF.1
  obtain ⟨P, pp, B, I, hh, ff, hI⟩ := hI
  obtain ⟨r, e1, r2, e2, e3, e4⟩ := dG_count hI (xs (t + 1))
  refine lv_aload_n hx hb (show decode code 1183 = .ok (.aload_n 1, 1) by decide +kernel) rfl (lv_at hls 1 rfl) ?_
  refine lw_arg (pc := 1184) 1 hF hH hls ht (by decide +kernel) (by decide) ?_
  refine lw_cC (pc := 1190) (d := 3) (rest := []) [xs (t + 1)] hF hH hls.1 (by decide +kernel) lL_160 rfl rfl (Nat.le_of_ble_eq_true rfl) ⟨by decide, by decide⟩ ⟨by omega, by omega⟩ (k_PR_count e1) fun H1 locs1 hH => ?_
  refine lv_aload_n hx hb (show decode code 1193 = .ok (.aload_n 2, 1) by decide +kernel) rfl (lv_at hls 2 rfl) ?_
  refine lw_arg (pc := 1194) 1 hF hH hls ht (by decide +kernel) (by decide) ?_
  refine lw_cM (pc := 1200) (d := 5) [xs (t + 1)] hF hH hls.1 (by decide +kernel) lL_163 rfl rfl (Nat.le_of_ble_eq_true rfl) ⟨by decide, by decide⟩ ⟨by omega, by omega⟩ (k_Mo_count e2) fun H2 locs2 hH => ?_
  refine lw_eq (off := 5) hF e3 (show decode code 1203 = .ok (.if_icmp .eq 5, 3) by decide +kernel) (by decide) ?_
  exact W.widen (Nat.le_add_right _ _) (Nat.le_add_right _ _) (kk _ _ _ _ _ _ hH ⟨P, pp, B, I, hh, ff, e4⟩ hls)
end LWK
