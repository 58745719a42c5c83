/-! rows of the law -/
theorem mkX11_feed : gz_mk mX11_feed 5 := ⟨by decide +kernel, ⟨by decide +kernel, by decide +kernel, by decide +kernel⟩, (gz_mem 439 (by decide +kernel) (by decide +kernel)), by decide, (gz_mem 108 (by decide +kernel) (by decide +kernel))⟩
theorem mvL_19 : gz_mv RL 19 mX11_feed 5 := ⟨mkX11_feed, (gz_mem 436 (by decide +kernel) (by decide +kernel)), (gz_mem 437 (by decide +kernel) (by decide +kernel)), (gz_mem 438 (by decide +kernel) (by decide +kernel))⟩
theorem mkX12_feed : gz_mk mX12_feed 5 := ⟨by decide +kernel, ⟨by decide +kernel, by decide +kernel, by decide +kernel⟩, (gz_mem 1436 (by decide +kernel) (by decide +kernel)), by decide, (gz_mem 118 (by decide +kernel) (by decide +kernel))⟩
theorem mvL_23 : gz_mv RL 23 mX12_feed 5 := ⟨mkX12_feed, (gz_mem 1433 (by decide +kernel) (by decide +kernel)), (gz_mem 1434 (by decide +kernel) (by decide +kernel)), (gz_mem 1435 (by decide +kernel) (by decide +kernel))⟩
theorem mkX11_end : gz_mk mX11_end 1 := ⟨by decide +kernel, ⟨by decide +kernel, by decide +kernel, by decide +kernel⟩, (gz_mem 450 (by decide +kernel) (by decide +kernel)), by decide, (gz_mem 108 (by decide +kernel) (by decide +kernel))⟩
theorem mvL_24 : gz_mv RL 24 mX11_end 1 := ⟨mkX11_end, (gz_mem 447 (by decide +kernel) (by decide +kernel)), (gz_mem 448 (by decide +kernel) (by decide +kernel)), (gz_mem 449 (by decide +kernel) (by decide +kernel))⟩
theorem mkX12_end : gz_mk mX12_end 1 := ⟨by decide +kernel, ⟨by decide +kernel, by decide +kernel, by decide +kernel⟩, (gz_mem 1447 (by decide +kernel) (by decide +kernel)), by decide, (gz_mem 118 (by decide +kernel) (by decide +kernel))⟩
theorem mvL_28 : gz_mv RL 28 mX12_end 1 := ⟨mkX12_end, (gz_mem 1444 (by decide +kernel) (by decide +kernel)), (gz_mem 1445 (by decide +kernel) (by decide +kernel)), (gz_mem 1446 (by decide +kernel) (by decide +kernel))⟩
theorem mkX11_fault : gz_mk mX11_fault 1 := ⟨by decide +kernel, ⟨by decide +kernel, by decide +kernel, by decide +kernel⟩, (gz_mem 454 (by decide +kernel) (by decide +kernel)), by decide, (gz_mem 108 (by decide +kernel) (by decide +kernel))⟩
theorem mvL_29 : gz_mv RL 29 mX11_fault 1 := ⟨mkX11_fault, (gz_mem 451 (by decide +kernel) (by decide +kernel)), (gz_mem 452 (by decide +kernel) (by decide +kernel)), (gz_mem 453 (by decide +kernel) (by decide +kernel))⟩
theorem mvL_33 : gz_mv RL 33 mX12_fault 1 := ⟨mkX12_fault, (gz_mem 1448 (by decide +kernel) (by decide +kernel)), (gz_mem 1449 (by decide +kernel) (by decide +kernel)), (gz_mem 1450 (by decide +kernel) (by decide +kernel))⟩
theorem mkX11_text : gz_mk mX11_text 1 := ⟨by decide +kernel, ⟨by decide +kernel, by decide +kernel, by decide +kernel⟩, (gz_mem 603 (by decide +kernel) (by decide +kernel)), by decide, (gz_mem 108 (by decide +kernel) (by decide +kernel))⟩
theorem mvL_34 : gz_mv RL 34 mX11_text 1 := ⟨mkX11_text, (gz_mem 600 (by decide +kernel) (by decide +kernel)), (gz_mem 601 (by decide +kernel) (by decide +kernel)), (gz_mem 602 (by decide +kernel) (by decide +kernel))⟩
theorem mkX12_text : gz_mk mX12_text 1 := ⟨by decide +kernel, ⟨by decide +kernel, by decide +kernel, by decide +kernel⟩, (gz_mem 1642 (by decide +kernel) (by decide +kernel)), by decide, (gz_mem 118 (by decide +kernel) (by decide +kernel))⟩
theorem mvL_37 : gz_mv RL 37 mX12_text 1 := ⟨mkX12_text, (gz_mem 1639 (by decide +kernel) (by decide +kernel)), (gz_mem 1640 (by decide +kernel) (by decide +kernel)), (gz_mem 1641 (by decide +kernel) (by decide +kernel))⟩
theorem mkX11_shore : gz_mk mX11_shore 2 := ⟨by decide +kernel, ⟨by decide +kernel, by decide +kernel, by decide +kernel⟩, (gz_mem 681 (by decide +kernel) (by decide +kernel)), by decide, (gz_mem 108 (by decide +kernel) (by decide +kernel))⟩
theorem mvL_38 : gz_mv RL 38 mX11_shore 2 := ⟨mkX11_shore, (gz_mem 678 (by decide +kernel) (by decide +kernel)), (gz_mem 679 (by decide +kernel) (by decide +kernel)), (gz_mem 680 (by decide +kernel) (by decide +kernel))⟩
theorem mkX12_shore : gz_mk mX12_shore 2 := ⟨by decide +kernel, ⟨by decide +kernel, by decide +kernel, by decide +kernel⟩, (gz_mem 1659 (by decide +kernel) (by decide +kernel)), by decide, (gz_mem 118 (by decide +kernel) (by decide +kernel))⟩
theorem mvL_41 : gz_mv RL 41 mX12_shore 2 := ⟨mkX12_shore, (gz_mem 1656 (by decide +kernel) (by decide +kernel)), (gz_mem 1657 (by decide +kernel) (by decide +kernel)), (gz_mem 1658 (by decide +kernel) (by decide +kernel))⟩
theorem mkX12_goer : gz_mk mX12_goer 2 := ⟨by decide +kernel, ⟨by decide +kernel, by decide +kernel, by decide +kernel⟩, (gz_mem 1671 (by decide +kernel) (by decide +kernel)), by decide, (gz_mem 118 (by decide +kernel) (by decide +kernel))⟩
theorem mvL_47 : gz_mv RL 47 mX12_goer 2 := ⟨mkX12_goer, (gz_mem 1668 (by decide +kernel) (by decide +kernel)), (gz_mem 1669 (by decide +kernel) (by decide +kernel)), (gz_mem 1670 (by decide +kernel) (by decide +kernel))⟩
theorem mkX12_thrown : gz_mk mX12_thrown 0 := ⟨by decide +kernel, ⟨by decide +kernel, by decide +kernel, by decide +kernel⟩, (gz_mem 1432 (by decide +kernel) (by decide +kernel)), by decide, (gz_mem 118 (by decide +kernel) (by decide +kernel))⟩
theorem mvL_48 : gz_mv RL 48 mX12_thrown 0 := ⟨mkX12_thrown, (gz_mem 1429 (by decide +kernel) (by decide +kernel)), (gz_mem 1430 (by decide +kernel) (by decide +kernel)), (gz_mem 1431 (by decide +kernel) (by decide +kernel))⟩
theorem mkX11_law : gz_mk mX11_law 1 := ⟨by decide +kernel, ⟨by decide +kernel, by decide +kernel, by decide +kernel⟩, (gz_mem 698 (by decide +kernel) (by decide +kernel)), by decide, (gz_mem 108 (by decide +kernel) (by decide +kernel))⟩
theorem mvL_52 : gz_mv RL 52 mX11_law 1 := ⟨mkX11_law, (gz_mem 695 (by decide +kernel) (by decide +kernel)), (gz_mem 696 (by decide +kernel) (by decide +kernel)), (gz_mem 697 (by decide +kernel) (by decide +kernel))⟩
theorem mkX12_law : gz_mk mX12_law 1 := ⟨by decide +kernel, ⟨by decide +kernel, by decide +kernel, by decide +kernel⟩, (gz_mem 1684 (by decide +kernel) (by decide +kernel)), by decide, (gz_mem 118 (by decide +kernel) (by decide +kernel))⟩
theorem mvL_55 : gz_mv RL 55 mX12_law 1 := ⟨mkX12_law, (gz_mem 1681 (by decide +kernel) (by decide +kernel)), (gz_mem 1682 (by decide +kernel) (by decide +kernel)), (gz_mem 1683 (by decide +kernel) (by decide +kernel))⟩
theorem mkX11_children : gz_mk mX11_children 1 := ⟨by decide +kernel, ⟨by decide +kernel, by decide +kernel, by decide +kernel⟩, (gz_mem 702 (by decide +kernel) (by decide +kernel)), by decide, (gz_mem 108 (by decide +kernel) (by decide +kernel))⟩
theorem mvL_56 : gz_mv RL 56 mX11_children 1 := ⟨mkX11_children, (gz_mem 699 (by decide +kernel) (by decide +kernel)), (gz_mem 700 (by decide +kernel) (by decide +kernel)), (gz_mem 701 (by decide +kernel) (by decide +kernel))⟩
theorem mkX12_children : gz_mk mX12_children 1 := ⟨by decide +kernel, ⟨by decide +kernel, by decide +kernel, by decide +kernel⟩, (gz_mem 1688 (by decide +kernel) (by decide +kernel)), by decide, (gz_mem 118 (by decide +kernel) (by decide +kernel))⟩
theorem mvL_59 : gz_mv RL 59 mX12_children 1 := ⟨mkX12_children, (gz_mem 1685 (by decide +kernel) (by decide +kernel)), (gz_mem 1686 (by decide +kernel) (by decide +kernel)), (gz_mem 1687 (by decide +kernel) (by decide +kernel))⟩
theorem mkX11_hour : gz_mk mX11_hour 0 := ⟨by decide +kernel, ⟨by decide +kernel, by decide +kernel, by decide +kernel⟩, (gz_mem 706 (by decide +kernel) (by decide +kernel)), by decide, (gz_mem 108 (by decide +kernel) (by decide +kernel))⟩
theorem mvL_60 : gz_mv RL 60 mX11_hour 0 := ⟨mkX11_hour, (gz_mem 703 (by decide +kernel) (by decide +kernel)), (gz_mem 704 (by decide +kernel) (by decide +kernel)), (gz_mem 705 (by decide +kernel) (by decide +kernel))⟩
theorem mkX12_hour : gz_mk mX12_hour 0 := ⟨by decide +kernel, ⟨by decide +kernel, by decide +kernel, by decide +kernel⟩, (gz_mem 1693 (by decide +kernel) (by decide +kernel)), by decide, (gz_mem 118 (by decide +kernel) (by decide +kernel))⟩
theorem mvL_63 : gz_mv RL 63 mX12_hour 0 := ⟨mkX12_hour, (gz_mem 1690 (by decide +kernel) (by decide +kernel)), (gz_mem 1691 (by decide +kernel) (by decide +kernel)), (gz_mem 1692 (by decide +kernel) (by decide +kernel))⟩
theorem mkX11_tide : gz_mk mX11_tide 1 := ⟨by decide +kernel, ⟨by decide +kernel, by decide +kernel, by decide +kernel⟩, (gz_mem 790 (by decide +kernel) (by decide +kernel)), by decide, (gz_mem 108 (by decide +kernel) (by decide +kernel))⟩
theorem mvL_64 : gz_mv RL 64 mX11_tide 1 := ⟨mkX11_tide, (gz_mem 787 (by decide +kernel) (by decide +kernel)), (gz_mem 788 (by decide +kernel) (by decide +kernel)), (gz_mem 789 (by decide +kernel) (by decide +kernel))⟩
theorem mkX12_tide : gz_mk mX12_tide 1 := ⟨by decide +kernel, ⟨by decide +kernel, by decide +kernel, by decide +kernel⟩, (gz_mem 1737 (by decide +kernel) (by decide +kernel)), by decide, (gz_mem 118 (by decide +kernel) (by decide +kernel))⟩
theorem mvL_67 : gz_mv RL 67 mX12_tide 1 := ⟨mkX12_tide, (gz_mem 1734 (by decide +kernel) (by decide +kernel)), (gz_mem 1735 (by decide +kernel) (by decide +kernel)), (gz_mem 1736 (by decide +kernel) (by decide +kernel))⟩
theorem mkX11_stone : gz_mk mX11_stone 1 := ⟨by decide +kernel, ⟨by decide +kernel, by decide +kernel, by decide +kernel⟩, (gz_mem 798 (by decide +kernel) (by decide +kernel)), by decide, (gz_mem 108 (by decide +kernel) (by decide +kernel))⟩
theorem mvL_68 : gz_mv RL 68 mX11_stone 1 := ⟨mkX11_stone, (gz_mem 795 (by decide +kernel) (by decide +kernel)), (gz_mem 796 (by decide +kernel) (by decide +kernel)), (gz_mem 797 (by decide +kernel) (by decide +kernel))⟩
theorem mkX12_stone : gz_mk mX12_stone 1 := ⟨by decide +kernel, ⟨by decide +kernel, by decide +kernel, by decide +kernel⟩, (gz_mem 1746 (by decide +kernel) (by decide +kernel)), by decide, (gz_mem 118 (by decide +kernel) (by decide +kernel))⟩
theorem mvL_71 : gz_mv RL 71 mX12_stone 1 := ⟨mkX12_stone, (gz_mem 1743 (by decide +kernel) (by decide +kernel)), (gz_mem 1744 (by decide +kernel) (by decide +kernel)), (gz_mem 1745 (by decide +kernel) (by decide +kernel))⟩
theorem mkX11_sweep : gz_mk mX11_sweep 1 := ⟨by decide +kernel, ⟨by decide +kernel, by decide +kernel, by decide +kernel⟩, (gz_mem 813 (by decide +kernel) (by decide +kernel)), by decide, (gz_mem 108 (by decide +kernel) (by decide +kernel))⟩
theorem mvL_72 : gz_mv RL 72 mX11_sweep 1 := ⟨mkX11_sweep, (gz_mem 810 (by decide +kernel) (by decide +kernel)), (gz_mem 811 (by decide +kernel) (by decide +kernel)), (gz_mem 812 (by decide +kernel) (by decide +kernel))⟩
theorem mkX12_sweep : gz_mk mX12_sweep 1 := ⟨by decide +kernel, ⟨by decide +kernel, by decide +kernel, by decide +kernel⟩, (gz_mem 1754 (by decide +kernel) (by decide +kernel)), by decide, (gz_mem 118 (by decide +kernel) (by decide +kernel))⟩
theorem mvL_75 : gz_mv RL 75 mX12_sweep 1 := ⟨mkX12_sweep, (gz_mem 1751 (by decide +kernel) (by decide +kernel)), (gz_mem 1752 (by decide +kernel) (by decide +kernel)), (gz_mem 1753 (by decide +kernel) (by decide +kernel))⟩
theorem mkX11_anew : gz_mk mX11_anew 2 := ⟨by decide +kernel, ⟨by decide +kernel, by decide +kernel, by decide +kernel⟩, (gz_mem 825 (by decide +kernel) (by decide +kernel)), by decide, (gz_mem 108 (by decide +kernel) (by decide +kernel))⟩
theorem mvL_76 : gz_mv RL 76 mX11_anew 2 := ⟨mkX11_anew, (gz_mem 822 (by decide +kernel) (by decide +kernel)), (gz_mem 823 (by decide +kernel) (by decide +kernel)), (gz_mem 824 (by decide +kernel) (by decide +kernel))⟩
theorem mkX12_anew : gz_mk mX12_anew 2 := ⟨by decide +kernel, ⟨by decide +kernel, by decide +kernel, by decide +kernel⟩, (gz_mem 1767 (by decide +kernel) (by decide +kernel)), by decide, (gz_mem 118 (by decide +kernel) (by decide +kernel))⟩
theorem mvL_79 : gz_mv RL 79 mX12_anew 2 := ⟨mkX12_anew, (gz_mem 1764 (by decide +kernel) (by decide +kernel)), (gz_mem 1765 (by decide +kernel) (by decide +kernel)), (gz_mem 1766 (by decide +kernel) (by decide +kernel))⟩
theorem mkX11_give : gz_mk mX11_give 1 := ⟨by decide +kernel, ⟨by decide +kernel, by decide +kernel, by decide +kernel⟩, (gz_mem 848 (by decide +kernel) (by decide +kernel)), by decide, (gz_mem 108 (by decide +kernel) (by decide +kernel))⟩
theorem mvL_80 : gz_mv RL 80 mX11_give 1 := ⟨mkX11_give, (gz_mem 845 (by decide +kernel) (by decide +kernel)), (gz_mem 846 (by decide +kernel) (by decide +kernel)), (gz_mem 847 (by decide +kernel) (by decide +kernel))⟩
theorem mkX12_give : gz_mk mX12_give 1 := ⟨by decide +kernel, ⟨by decide +kernel, by decide +kernel, by decide +kernel⟩, (gz_mem 1780 (by decide +kernel) (by decide +kernel)), by decide, (gz_mem 118 (by decide +kernel) (by decide +kernel))⟩
theorem mvL_83 : gz_mv RL 83 mX12_give 1 := ⟨mkX12_give, (gz_mem 1777 (by decide +kernel) (by decide +kernel)), (gz_mem 1778 (by decide +kernel) (by decide +kernel)), (gz_mem 1779 (by decide +kernel) (by decide +kernel))⟩
theorem mkX11_years : gz_mk mX11_years 2 := ⟨by decide +kernel, ⟨by decide +kernel, by decide +kernel, by decide +kernel⟩, (gz_mem 856 (by decide +kernel) (by decide +kernel)), by decide, (gz_mem 108 (by decide +kernel) (by decide +kernel))⟩
theorem mvL_86 : gz_mv RL 86 mX11_years 2 := ⟨mkX11_years, (gz_mem 853 (by decide +kernel) (by decide +kernel)), (gz_mem 854 (by decide +kernel) (by decide +kernel)), (gz_mem 855 (by decide +kernel) (by decide +kernel))⟩
theorem mkX12_years : gz_mk mX12_years 2 := ⟨by decide +kernel, ⟨by decide +kernel, by decide +kernel, by decide +kernel⟩, (gz_mem 1785 (by decide +kernel) (by decide +kernel)), by decide, (gz_mem 118 (by decide +kernel) (by decide +kernel))⟩
theorem mvL_90 : gz_mv RL 90 mX12_years 2 := ⟨mkX12_years, (gz_mem 1782 (by decide +kernel) (by decide +kernel)), (gz_mem 1783 (by decide +kernel) (by decide +kernel)), (gz_mem 1784 (by decide +kernel) (by decide +kernel))⟩
theorem mkX11_undo : gz_mk mX11_undo 0 := ⟨by decide +kernel, ⟨by decide +kernel, by decide +kernel, by decide +kernel⟩, (gz_mem 868 (by decide +kernel) (by decide +kernel)), by decide, (gz_mem 108 (by decide +kernel) (by decide +kernel))⟩
theorem mvL_91 : gz_mv RL 91 mX11_undo 0 := ⟨mkX11_undo, (gz_mem 865 (by decide +kernel) (by decide +kernel)), (gz_mem 866 (by decide +kernel) (by decide +kernel)), (gz_mem 867 (by decide +kernel) (by decide +kernel))⟩
theorem mkX12_undo : gz_mk mX12_undo 0 := ⟨by decide +kernel, ⟨by decide +kernel, by decide +kernel, by decide +kernel⟩, (gz_mem 1796 (by decide +kernel) (by decide +kernel)), by decide, (gz_mem 118 (by decide +kernel) (by decide +kernel))⟩
theorem mvL_94 : gz_mv RL 94 mX12_undo 0 := ⟨mkX12_undo, (gz_mem 1793 (by decide +kernel) (by decide +kernel)), (gz_mem 1794 (by decide +kernel) (by decide +kernel)), (gz_mem 1795 (by decide +kernel) (by decide +kernel))⟩
theorem mkX11_log : gz_mk mX11_log 2 := ⟨by decide +kernel, ⟨by decide +kernel, by decide +kernel, by decide +kernel⟩, (gz_mem 876 (by decide +kernel) (by decide +kernel)), by decide, (gz_mem 108 (by decide +kernel) (by decide +kernel))⟩
theorem mvL_95 : gz_mv RL 95 mX11_log 2 := ⟨mkX11_log, (gz_mem 873 (by decide +kernel) (by decide +kernel)), (gz_mem 874 (by decide +kernel) (by decide +kernel)), (gz_mem 875 (by decide +kernel) (by decide +kernel))⟩
theorem mkX12_log : gz_mk mX12_log 2 := ⟨by decide +kernel, ⟨by decide +kernel, by decide +kernel, by decide +kernel⟩, (gz_mem 1800 (by decide +kernel) (by decide +kernel)), by decide, (gz_mem 118 (by decide +kernel) (by decide +kernel))⟩
theorem mvL_98 : gz_mv RL 98 mX12_log 2 := ⟨mkX12_log, (gz_mem 1797 (by decide +kernel) (by decide +kernel)), (gz_mem 1798 (by decide +kernel) (by decide +kernel)), (gz_mem 1799 (by decide +kernel) (by decide +kernel))⟩
theorem mkX11_step : gz_mk mX11_step 3 := ⟨by decide +kernel, ⟨by decide +kernel, by decide +kernel, by decide +kernel⟩, (gz_mem 887 (by decide +kernel) (by decide +kernel)), by decide, (gz_mem 108 (by decide +kernel) (by decide +kernel))⟩
theorem mvL_99 : gz_mv RL 99 mX11_step 3 := ⟨mkX11_step, (gz_mem 884 (by decide +kernel) (by decide +kernel)), (gz_mem 885 (by decide +kernel) (by decide +kernel)), (gz_mem 886 (by decide +kernel) (by decide +kernel))⟩
theorem mkX12_step : gz_mk mX12_step 3 := ⟨by decide +kernel, ⟨by decide +kernel, by decide +kernel, by decide +kernel⟩, (gz_mem 1804 (by decide +kernel) (by decide +kernel)), by decide, (gz_mem 118 (by decide +kernel) (by decide +kernel))⟩
theorem mvL_103 : gz_mv RL 103 mX12_step 3 := ⟨mkX12_step, (gz_mem 1801 (by decide +kernel) (by decide +kernel)), (gz_mem 1802 (by decide +kernel) (by decide +kernel)), (gz_mem 1803 (by decide +kernel) (by decide +kernel))⟩
theorem mkX11_run : gz_mk mX11_run 2 := ⟨by decide +kernel, ⟨by decide +kernel, by decide +kernel, by decide +kernel⟩, (gz_mem 900 (by decide +kernel) (by decide +kernel)), by decide, (gz_mem 108 (by decide +kernel) (by decide +kernel))⟩
theorem mvL_104 : gz_mv RL 104 mX11_run 2 := ⟨mkX11_run, (gz_mem 897 (by decide +kernel) (by decide +kernel)), (gz_mem 898 (by decide +kernel) (by decide +kernel)), (gz_mem 899 (by decide +kernel) (by decide +kernel))⟩
theorem mkX12_run : gz_mk mX12_run 2 := ⟨by decide +kernel, ⟨by decide +kernel, by decide +kernel, by decide +kernel⟩, (gz_mem 1813 (by decide +kernel) (by decide +kernel)), by decide, (gz_mem 118 (by decide +kernel) (by decide +kernel))⟩
theorem mvL_107 : gz_mv RL 107 mX12_run 2 := ⟨mkX12_run, (gz_mem 1810 (by decide +kernel) (by decide +kernel)), (gz_mem 1811 (by decide +kernel) (by decide +kernel)), (gz_mem 1812 (by decide +kernel) (by decide +kernel))⟩
theorem mkX11_perform : gz_mk mX11_perform 1 := ⟨by decide +kernel, ⟨by decide +kernel, by decide +kernel, by decide +kernel⟩, (gz_mem 923 (by decide +kernel) (by decide +kernel)), by decide, (gz_mem 108 (by decide +kernel) (by decide +kernel))⟩
theorem mvL_108 : gz_mv RL 108 mX11_perform 1 := ⟨mkX11_perform, (gz_mem 920 (by decide +kernel) (by decide +kernel)), (gz_mem 921 (by decide +kernel) (by decide +kernel)), (gz_mem 922 (by decide +kernel) (by decide +kernel))⟩
theorem mkX12_perform : gz_mk mX12_perform 1 := ⟨by decide +kernel, ⟨by decide +kernel, by decide +kernel, by decide +kernel⟩, (gz_mem 1828 (by decide +kernel) (by decide +kernel)), by decide, (gz_mem 118 (by decide +kernel) (by decide +kernel))⟩
theorem mvL_111 : gz_mv RL 111 mX12_perform 1 := ⟨mkX12_perform, (gz_mem 1825 (by decide +kernel) (by decide +kernel)), (gz_mem 1826 (by decide +kernel) (by decide +kernel)), (gz_mem 1827 (by decide +kernel) (by decide +kernel))⟩
theorem mkX11_where : gz_mk mX11_where 2 := ⟨by decide +kernel, ⟨by decide +kernel, by decide +kernel, by decide +kernel⟩, (gz_mem 927 (by decide +kernel) (by decide +kernel)), by decide, (gz_mem 108 (by decide +kernel) (by decide +kernel))⟩
theorem mvL_112 : gz_mv RL 112 mX11_where 2 := ⟨mkX11_where, (gz_mem 924 (by decide +kernel) (by decide +kernel)), (gz_mem 925 (by decide +kernel) (by decide +kernel)), (gz_mem 926 (by decide +kernel) (by decide +kernel))⟩
theorem mkX12_where : gz_mk mX12_where 2 := ⟨by decide +kernel, ⟨by decide +kernel, by decide +kernel, by decide +kernel⟩, (gz_mem 1832 (by decide +kernel) (by decide +kernel)), by decide, (gz_mem 118 (by decide +kernel) (by decide +kernel))⟩
theorem mvL_115 : gz_mv RL 115 mX12_where 2 := ⟨mkX12_where, (gz_mem 1829 (by decide +kernel) (by decide +kernel)), (gz_mem 1830 (by decide +kernel) (by decide +kernel)), (gz_mem 1831 (by decide +kernel) (by decide +kernel))⟩
theorem mkX11_meet : gz_mk mX11_meet 2 := ⟨by decide +kernel, ⟨by decide +kernel, by decide +kernel, by decide +kernel⟩, (gz_mem 938 (by decide +kernel) (by decide +kernel)), by decide, (gz_mem 108 (by decide +kernel) (by decide +kernel))⟩
theorem mvL_116 : gz_mv RL 116 mX11_meet 2 := ⟨mkX11_meet, (gz_mem 935 (by decide +kernel) (by decide +kernel)), (gz_mem 936 (by decide +kernel) (by decide +kernel)), (gz_mem 937 (by decide +kernel) (by decide +kernel))⟩
theorem mkX12_meet : gz_mk mX12_meet 2 := ⟨by decide +kernel, ⟨by decide +kernel, by decide +kernel, by decide +kernel⟩, (gz_mem 1837 (by decide +kernel) (by decide +kernel)), by decide, (gz_mem 118 (by decide +kernel) (by decide +kernel))⟩
theorem mvL_119 : gz_mv RL 119 mX12_meet 2 := ⟨mkX12_meet, (gz_mem 1834 (by decide +kernel) (by decide +kernel)), (gz_mem 1835 (by decide +kernel) (by decide +kernel)), (gz_mem 1836 (by decide +kernel) (by decide +kernel))⟩
theorem mkX11_ends : gz_mk mX11_ends 2 := ⟨by decide +kernel, ⟨by decide +kernel, by decide +kernel, by decide +kernel⟩, (gz_mem 955 (by decide +kernel) (by decide +kernel)), by decide, (gz_mem 108 (by decide +kernel) (by decide +kernel))⟩
theorem mvL_120 : gz_mv RL 120 mX11_ends 2 := ⟨mkX11_ends, (gz_mem 952 (by decide +kernel) (by decide +kernel)), (gz_mem 953 (by decide +kernel) (by decide +kernel)), (gz_mem 954 (by decide +kernel) (by decide +kernel))⟩
theorem mkX12_ends : gz_mk mX12_ends 2 := ⟨by decide +kernel, ⟨by decide +kernel, by decide +kernel, by decide +kernel⟩, (gz_mem 1854 (by decide +kernel) (by decide +kernel)), by decide, (gz_mem 118 (by decide +kernel) (by decide +kernel))⟩
theorem mvL_123 : gz_mv RL 123 mX12_ends 2 := ⟨mkX12_ends, (gz_mem 1851 (by decide +kernel) (by decide +kernel)), (gz_mem 1852 (by decide +kernel) (by decide +kernel)), (gz_mem 1853 (by decide +kernel) (by decide +kernel))⟩
theorem mkX11_again : gz_mk mX11_again 1 := ⟨by decide +kernel, ⟨by decide +kernel, by decide +kernel, by decide +kernel⟩, (gz_mem 964 (by decide +kernel) (by decide +kernel)), by decide, (gz_mem 108 (by decide +kernel) (by decide +kernel))⟩
theorem mvL_124 : gz_mv RL 124 mX11_again 1 := ⟨mkX11_again, (gz_mem 961 (by decide +kernel) (by decide +kernel)), (gz_mem 962 (by decide +kernel) (by decide +kernel)), (gz_mem 963 (by decide +kernel) (by decide +kernel))⟩
theorem mkX12_again : gz_mk mX12_again 1 := ⟨by decide +kernel, ⟨by decide +kernel, by decide +kernel, by decide +kernel⟩, (gz_mem 1858 (by decide +kernel) (by decide +kernel)), by decide, (gz_mem 118 (by decide +kernel) (by decide +kernel))⟩
theorem mvL_127 : gz_mv RL 127 mX12_again 1 := ⟨mkX12_again, (gz_mem 1855 (by decide +kernel) (by decide +kernel)), (gz_mem 1856 (by decide +kernel) (by decide +kernel)), (gz_mem 1857 (by decide +kernel) (by decide +kernel))⟩
theorem mkX11_way : gz_mk mX11_way 2 := ⟨by decide +kernel, ⟨by decide +kernel, by decide +kernel, by decide +kernel⟩, (gz_mem 974 (by decide +kernel) (by decide +kernel)), by decide, (gz_mem 108 (by decide +kernel) (by decide +kernel))⟩
theorem mvL_128 : gz_mv RL 128 mX11_way 2 := ⟨mkX11_way, (gz_mem 971 (by decide +kernel) (by decide +kernel)), (gz_mem 972 (by decide +kernel) (by decide +kernel)), (gz_mem 973 (by decide +kernel) (by decide +kernel))⟩
theorem mkX12_way : gz_mk mX12_way 2 := ⟨by decide +kernel, ⟨by decide +kernel, by decide +kernel, by decide +kernel⟩, (gz_mem 1862 (by decide +kernel) (by decide +kernel)), by decide, (gz_mem 118 (by decide +kernel) (by decide +kernel))⟩
theorem mvL_131 : gz_mv RL 131 mX12_way 2 := ⟨mkX12_way, (gz_mem 1859 (by decide +kernel) (by decide +kernel)), (gz_mem 1860 (by decide +kernel) (by decide +kernel)), (gz_mem 1861 (by decide +kernel) (by decide +kernel))⟩
theorem mkX11_stones : gz_mk mX11_stones 4 := ⟨by decide +kernel, ⟨by decide +kernel, by decide +kernel, by decide +kernel⟩, (gz_mem 991 (by decide +kernel) (by decide +kernel)), by decide, (gz_mem 108 (by decide +kernel) (by decide +kernel))⟩
theorem mvL_132 : gz_mv RL 132 mX11_stones 4 := ⟨mkX11_stones, (gz_mem 988 (by decide +kernel) (by decide +kernel)), (gz_mem 989 (by decide +kernel) (by decide +kernel)), (gz_mem 990 (by decide +kernel) (by decide +kernel))⟩
theorem mkX12_stones : gz_mk mX12_stones 4 := ⟨by decide +kernel, ⟨by decide +kernel, by decide +kernel, by decide +kernel⟩, (gz_mem 1874 (by decide +kernel) (by decide +kernel)), by decide, (gz_mem 118 (by decide +kernel) (by decide +kernel))⟩
theorem mvL_136 : gz_mv RL 136 mX12_stones 4 := ⟨mkX12_stones, (gz_mem 1871 (by decide +kernel) (by decide +kernel)), (gz_mem 1872 (by decide +kernel) (by decide +kernel)), (gz_mem 1873 (by decide +kernel) (by decide +kernel))⟩
theorem mkX11_seen : gz_mk mX11_seen 3 := ⟨by decide +kernel, ⟨by decide +kernel, by decide +kernel, by decide +kernel⟩, (gz_mem 1022 (by decide +kernel) (by decide +kernel)), by decide, (gz_mem 108 (by decide +kernel) (by decide +kernel))⟩
theorem mvL_137 : gz_mv RL 137 mX11_seen 3 := ⟨mkX11_seen, (gz_mem 1019 (by decide +kernel) (by decide +kernel)), (gz_mem 1020 (by decide +kernel) (by decide +kernel)), (gz_mem 1021 (by decide +kernel) (by decide +kernel))⟩
theorem mkX12_seen : gz_mk mX12_seen 3 := ⟨by decide +kernel, ⟨by decide +kernel, by decide +kernel, by decide +kernel⟩, (gz_mem 1893 (by decide +kernel) (by decide +kernel)), by decide, (gz_mem 118 (by decide +kernel) (by decide +kernel))⟩
theorem mvL_140 : gz_mv RL 140 mX12_seen 3 := ⟨mkX12_seen, (gz_mem 1890 (by decide +kernel) (by decide +kernel)), (gz_mem 1891 (by decide +kernel) (by decide +kernel)), (gz_mem 1892 (by decide +kernel) (by decide +kernel))⟩
theorem mkX11_fits : gz_mk mX11_fits 2 := ⟨by decide +kernel, ⟨by decide +kernel, by decide +kernel, by decide +kernel⟩, (gz_mem 1030 (by decide +kernel) (by decide +kernel)), by decide, (gz_mem 108 (by decide +kernel) (by decide +kernel))⟩
theorem mvL_141 : gz_mv RL 141 mX11_fits 2 := ⟨mkX11_fits, (gz_mem 1027 (by decide +kernel) (by decide +kernel)), (gz_mem 1028 (by decide +kernel) (by decide +kernel)), (gz_mem 1029 (by decide +kernel) (by decide +kernel))⟩
theorem mkX12_fits : gz_mk mX12_fits 2 := ⟨by decide +kernel, ⟨by decide +kernel, by decide +kernel, by decide +kernel⟩, (gz_mem 1897 (by decide +kernel) (by decide +kernel)), by decide, (gz_mem 118 (by decide +kernel) (by decide +kernel))⟩
theorem mvL_144 : gz_mv RL 144 mX12_fits 2 := ⟨mkX12_fits, (gz_mem 1894 (by decide +kernel) (by decide +kernel)), (gz_mem 1895 (by decide +kernel) (by decide +kernel)), (gz_mem 1896 (by decide +kernel) (by decide +kernel))⟩
theorem mkX11_ask : gz_mk mX11_ask 1 := ⟨by decide +kernel, ⟨by decide +kernel, by decide +kernel, by decide +kernel⟩, (gz_mem 1061 (by decide +kernel) (by decide +kernel)), by decide, (gz_mem 108 (by decide +kernel) (by decide +kernel))⟩
theorem mvL_145 : gz_mv RL 145 mX11_ask 1 := ⟨mkX11_ask, (gz_mem 1058 (by decide +kernel) (by decide +kernel)), (gz_mem 1059 (by decide +kernel) (by decide +kernel)), (gz_mem 1060 (by decide +kernel) (by decide +kernel))⟩
theorem mkX12_ask : gz_mk mX12_ask 1 := ⟨by decide +kernel, ⟨by decide +kernel, by decide +kernel, by decide +kernel⟩, (gz_mem 1909 (by decide +kernel) (by decide +kernel)), by decide, (gz_mem 118 (by decide +kernel) (by decide +kernel))⟩
theorem mvL_148 : gz_mv RL 148 mX12_ask 1 := ⟨mkX12_ask, (gz_mem 1906 (by decide +kernel) (by decide +kernel)), (gz_mem 1907 (by decide +kernel) (by decide +kernel)), (gz_mem 1908 (by decide +kernel) (by decide +kernel))⟩
theorem mkX11_game : gz_mk mX11_game 5 := ⟨by decide +kernel, ⟨by decide +kernel, by decide +kernel, by decide +kernel⟩, (gz_mem 1077 (by decide +kernel) (by decide +kernel)), by decide, (gz_mem 108 (by decide +kernel) (by decide +kernel))⟩
theorem mvL_149 : gz_mv RL 149 mX11_game 5 := ⟨mkX11_game, (gz_mem 1074 (by decide +kernel) (by decide +kernel)), (gz_mem 1075 (by decide +kernel) (by decide +kernel)), (gz_mem 1076 (by decide +kernel) (by decide +kernel))⟩
theorem mkX12_game : gz_mk mX12_game 5 := ⟨by decide +kernel, ⟨by decide +kernel, by decide +kernel, by decide +kernel⟩, (gz_mem 1913 (by decide +kernel) (by decide +kernel)), by decide, (gz_mem 118 (by decide +kernel) (by decide +kernel))⟩
theorem mvL_152 : gz_mv RL 152 mX12_game 5 := ⟨mkX12_game, (gz_mem 1910 (by decide +kernel) (by decide +kernel)), (gz_mem 1911 (by decide +kernel) (by decide +kernel)), (gz_mem 1912 (by decide +kernel) (by decide +kernel))⟩
theorem mkX11_rests : gz_mk mX11_rests 3 := ⟨by decide +kernel, ⟨by decide +kernel, by decide +kernel, by decide +kernel⟩, (gz_mem 1092 (by decide +kernel) (by decide +kernel)), by decide, (gz_mem 108 (by decide +kernel) (by decide +kernel))⟩
theorem mvL_153 : gz_mv RL 153 mX11_rests 3 := ⟨mkX11_rests, (gz_mem 1089 (by decide +kernel) (by decide +kernel)), (gz_mem 1090 (by decide +kernel) (by decide +kernel)), (gz_mem 1091 (by decide +kernel) (by decide +kernel))⟩
theorem mkX12_rests : gz_mk mX12_rests 3 := ⟨by decide +kernel, ⟨by decide +kernel, by decide +kernel, by decide +kernel⟩, (gz_mem 1925 (by decide +kernel) (by decide +kernel)), by decide, (gz_mem 118 (by decide +kernel) (by decide +kernel))⟩
theorem mvL_156 : gz_mv RL 156 mX12_rests 3 := ⟨mkX12_rests, (gz_mem 1922 (by decide +kernel) (by decide +kernel)), (gz_mem 1923 (by decide +kernel) (by decide +kernel)), (gz_mem 1924 (by decide +kernel) (by decide +kernel))⟩
theorem mkX11_odds : gz_mk mX11_odds 4 := ⟨by decide +kernel, ⟨by decide +kernel, by decide +kernel, by decide +kernel⟩, (gz_mem 1110 (by decide +kernel) (by decide +kernel)), by decide, (gz_mem 108 (by decide +kernel) (by decide +kernel))⟩
theorem mvL_157 : gz_mv RL 157 mX11_odds 4 := ⟨mkX11_odds, (gz_mem 1107 (by decide +kernel) (by decide +kernel)), (gz_mem 1108 (by decide +kernel) (by decide +kernel)), (gz_mem 1109 (by decide +kernel) (by decide +kernel))⟩
theorem mkX12_odds : gz_mk mX12_odds 4 := ⟨by decide +kernel, ⟨by decide +kernel, by decide +kernel, by decide +kernel⟩, (gz_mem 1929 (by decide +kernel) (by decide +kernel)), by decide, (gz_mem 118 (by decide +kernel) (by decide +kernel))⟩
theorem mvL_160 : gz_mv RL 160 mX12_odds 4 := ⟨mkX12_odds, (gz_mem 1926 (by decide +kernel) (by decide +kernel)), (gz_mem 1927 (by decide +kernel) (by decide +kernel)), (gz_mem 1928 (by decide +kernel) (by decide +kernel))⟩
theorem mkX11_shares : gz_mk mX11_shares 2 := ⟨by decide +kernel, ⟨by decide +kernel, by decide +kernel, by decide +kernel⟩, (gz_mem 1124 (by decide +kernel) (by decide +kernel)), by decide, (gz_mem 108 (by decide +kernel) (by decide +kernel))⟩
theorem mvL_161 : gz_mv RL 161 mX11_shares 2 := ⟨mkX11_shares, (gz_mem 1121 (by decide +kernel) (by decide +kernel)), (gz_mem 1122 (by decide +kernel) (by decide +kernel)), (gz_mem 1123 (by decide +kernel) (by decide +kernel))⟩
theorem mkX12_shares : gz_mk mX12_shares 2 := ⟨by decide +kernel, ⟨by decide +kernel, by decide +kernel, by decide +kernel⟩, (gz_mem 1940 (by decide +kernel) (by decide +kernel)), by decide, (gz_mem 118 (by decide +kernel) (by decide +kernel))⟩
theorem mvL_164 : gz_mv RL 164 mX12_shares 2 := ⟨mkX12_shares, (gz_mem 1937 (by decide +kernel) (by decide +kernel)), (gz_mem 1938 (by decide +kernel) (by decide +kernel)), (gz_mem 1939 (by decide +kernel) (by decide +kernel))⟩
theorem mkX11_ahead : gz_mk mX11_ahead 1 := ⟨by decide +kernel, ⟨by decide +kernel, by decide +kernel, by decide +kernel⟩, (gz_mem 1132 (by decide +kernel) (by decide +kernel)), by decide, (gz_mem 108 (by decide +kernel) (by decide +kernel))⟩
theorem mvL_165 : gz_mv RL 165 mX11_ahead 1 := ⟨mkX11_ahead, (gz_mem 1129 (by decide +kernel) (by decide +kernel)), (gz_mem 1130 (by decide +kernel) (by decide +kernel)), (gz_mem 1131 (by decide +kernel) (by decide +kernel))⟩
theorem mkX12_ahead : gz_mk mX12_ahead 1 := ⟨by decide +kernel, ⟨by decide +kernel, by decide +kernel, by decide +kernel⟩, (gz_mem 1945 (by decide +kernel) (by decide +kernel)), by decide, (gz_mem 118 (by decide +kernel) (by decide +kernel))⟩
theorem mvL_168 : gz_mv RL 168 mX12_ahead 1 := ⟨mkX12_ahead, (gz_mem 1942 (by decide +kernel) (by decide +kernel)), (gz_mem 1943 (by decide +kernel) (by decide +kernel)), (gz_mem 1944 (by decide +kernel) (by decide +kernel))⟩
theorem mkX11_all : gz_mk mX11_all 1 := ⟨by decide +kernel, ⟨by decide +kernel, by decide +kernel, by decide +kernel⟩, (gz_mem 1137 (by decide +kernel) (by decide +kernel)), by decide, (gz_mem 108 (by decide +kernel) (by decide +kernel))⟩
theorem mvL_169 : gz_mv RL 169 mX11_all 1 := ⟨mkX11_all, (gz_mem 1134 (by decide +kernel) (by decide +kernel)), (gz_mem 1135 (by decide +kernel) (by decide +kernel)), (gz_mem 1136 (by decide +kernel) (by decide +kernel))⟩
theorem mkX12_all : gz_mk mX12_all 1 := ⟨by decide +kernel, ⟨by decide +kernel, by decide +kernel, by decide +kernel⟩, (gz_mem 1949 (by decide +kernel) (by decide +kernel)), by decide, (gz_mem 118 (by decide +kernel) (by decide +kernel))⟩
theorem mvL_172 : gz_mv RL 172 mX12_all 1 := ⟨mkX12_all, (gz_mem 1946 (by decide +kernel) (by decide +kernel)), (gz_mem 1947 (by decide +kernel) (by decide +kernel)), (gz_mem 1948 (by decide +kernel) (by decide +kernel))⟩
theorem mkX11_image : gz_mk mX11_image 0 := ⟨by decide +kernel, ⟨by decide +kernel, by decide +kernel, by decide +kernel⟩, (gz_mem 1175 (by decide +kernel) (by decide +kernel)), by decide, (gz_mem 108 (by decide +kernel) (by decide +kernel))⟩
theorem mvL_173 : gz_mv RL 173 mX11_image 0 := ⟨mkX11_image, (gz_mem 1172 (by decide +kernel) (by decide +kernel)), (gz_mem 1173 (by decide +kernel) (by decide +kernel)), (gz_mem 1174 (by decide +kernel) (by decide +kernel))⟩
theorem mkX12_image : gz_mk mX12_image 0 := ⟨by decide +kernel, ⟨by decide +kernel, by decide +kernel, by decide +kernel⟩, (gz_mem 1981 (by decide +kernel) (by decide +kernel)), by decide, (gz_mem 118 (by decide +kernel) (by decide +kernel))⟩
theorem mvL_176 : gz_mv RL 176 mX12_image 0 := ⟨mkX12_image, (gz_mem 1978 (by decide +kernel) (by decide +kernel)), (gz_mem 1979 (by decide +kernel) (by decide +kernel)), (gz_mem 1980 (by decide +kernel) (by decide +kernel))⟩
theorem mkX11_back : gz_mk mX11_back 0 := ⟨by decide +kernel, ⟨by decide +kernel, by decide +kernel, by decide +kernel⟩, (gz_mem 1183 (by decide +kernel) (by decide +kernel)), by decide, (gz_mem 108 (by decide +kernel) (by decide +kernel))⟩
theorem mvL_177 : gz_mv RL 177 mX11_back 0 := ⟨mkX11_back, (gz_mem 1180 (by decide +kernel) (by decide +kernel)), (gz_mem 1181 (by decide +kernel) (by decide +kernel)), (gz_mem 1182 (by decide +kernel) (by decide +kernel))⟩
theorem mkX12_back : gz_mk mX12_back 0 := ⟨by decide +kernel, ⟨by decide +kernel, by decide +kernel, by decide +kernel⟩, (gz_mem 1985 (by decide +kernel) (by decide +kernel)), by decide, (gz_mem 118 (by decide +kernel) (by decide +kernel))⟩
theorem mvL_180 : gz_mv RL 180 mX12_back 0 := ⟨mkX12_back, (gz_mem 1982 (by decide +kernel) (by decide +kernel)), (gz_mem 1983 (by decide +kernel) (by decide +kernel)), (gz_mem 1984 (by decide +kernel) (by decide +kernel))⟩
theorem mkX11_count : gz_mk mX11_count 1 := ⟨by decide +kernel, ⟨by decide +kernel, by decide +kernel, by decide +kernel⟩, (gz_mem 1191 (by decide +kernel) (by decide +kernel)), by decide, (gz_mem 108 (by decide +kernel) (by decide +kernel))⟩
theorem mvL_181 : gz_mv RL 181 mX11_count 1 := ⟨mkX11_count, (gz_mem 1188 (by decide +kernel) (by decide +kernel)), (gz_mem 1189 (by decide +kernel) (by decide +kernel)), (gz_mem 1190 (by decide +kernel) (by decide +kernel))⟩
theorem mkX12_count : gz_mk mX12_count 1 := ⟨by decide +kernel, ⟨by decide +kernel, by decide +kernel, by decide +kernel⟩, (gz_mem 1989 (by decide +kernel) (by decide +kernel)), by decide, (gz_mem 118 (by decide +kernel) (by decide +kernel))⟩
theorem mvL_184 : gz_mv RL 184 mX12_count 1 := ⟨mkX12_count, (gz_mem 1986 (by decide +kernel) (by decide +kernel)), (gz_mem 1987 (by decide +kernel) (by decide +kernel)), (gz_mem 1988 (by decide +kernel) (by decide +kernel))⟩
theorem xl_84 : Cond.constantLong RL 84 4294967295 ∈ gz_U := gz_mem 1990 (by decide +kernel) (by decide +kernel)
def gx_SC (X : gx_T) (b L : Nat) (xs : Nat → Int32) : Prop := match X with
  | (p, l, e, R, s, m, args, below, meth, c, D, A, Q) => va_X b L xs s s.heap ∧ b < s.heap.size ∧ ¬ A b
def gx_EL (X : gx_T) (b : Nat) : Prop := match X with
  | (p, l, e, R, s, m, args, below, meth, c, D, A, Q) => R = room_1 ∧ args = #[Value.ref b] ∧ Q = lw_Z below #[Value.ref b] s ∧ ∀ q, A q → s.heap.size ≤ q
section GXL
variable {X : gx_T} {M : gz_M} {cs : Nat → ClassId} {hh kc nc mc ms : Nat} {w : va_W} {pc : Nat} {ls : List (Option Value)} {st : List Value} {La : gz_L} {a : Nat → Nat} {g : gz_S} {b L i k : Nat} {xs : Nat → Int32}
theorem gy_sld {x : Int32} (C : gx_C X M cs hh) (SC : gx_SC X b L xs) (hd : decode M.2.1 pc = .ok (.iaload, 1)) (hin : vp_in x L) (nx : gx X M kc nc w (pc + 1) ls (.int (xs x.toNatClampNeg) :: st)) : gx X M kc nc w pc ls (.int x :: .ref b :: st) := by
  obtain ⟨p, l, e, R, s, m, args, below, meth, c, D, A, Q⟩ := X
  intro H locs lsA hP hD hS hl
  exact va_sld C.1 C.2.1 SC.1 SC.2.1 SC.2.2 hS hin hd (nx H locs lsA hP hD hS hl)
theorem gy_slen (C : gx_C X M cs hh) (SC : gx_SC X b L xs) (hd : decode M.2.1 pc = .ok (.arraylength, 1)) (nx : gx X M kc nc w (pc + 1) ls (.int (Int32.ofNat L) :: st)) : gx X M kc nc w pc ls (.ref b :: st) := by
  obtain ⟨p, l, e, R, s, m, args, below, meth, c, D, A, Q⟩ := X
  intro H locs lsA hP hD hS hl
  exact va_slen C.1 C.2.1 SC.1 SC.2.1 SC.2.2 hS hd (nx H locs lsA hP hD hS hl)
theorem gy_lcmp {x y : Int64} (C : gx_C X M cs hh) (hd : decode M.2.1 pc = .ok (.lcmp, 1)) (nx : gx X M kc nc w (pc + 1) ls (.int (lg_cmp x y) :: st)) : gx X M kc nc w pc ls (.long y :: .long x :: st) := by
  obtain ⟨p, l, e, R, s, m, args, below, meth, c, D, A, Q⟩ := X
  intro H locs lsA hP hD hS hl
  exact W.lcmp C.1 C.2.1 hd (nx H locs lsA hP hD hS hl)
/-- one of a call's numbers -/
theorem gy_arg {n0 : Int} (C : gx_C X M cs hh) (SC : gx_SC X b L xs) (h0 : ls[0]? = some (some (.ref b))) (h4 : ls[4]? = some (some (.int (nI i)))) (hL : i + k < L) (hL2 : L ≤ 3072) (hk : Int32.ofInt n0 = nI k)
    (d0 : decode M.2.1 pc = .ok (.aload_n 0, 1)) (d1 : decode M.2.1 (pc + 1) = .ok (.iload 4, 2)) (d2 : decode M.2.1 (pc + 3) = .ok (.iconst n0, 1)) (d3 : decode M.2.1 (pc + 4) = .ok (.iadd, 1)) (d4 : decode M.2.1 (pc + 5) = .ok (.iaload, 1))
    (nx : gx X M kc nc w (pc + 6) ls (.int (xs (i + k)) :: st)) : gx X M kc nc w pc ls st := by
  refine gy_aload_n C d0 h0 ?_
  refine gy_iload C d1 h4 ?_
  refine gy_iconst C d2 hk ?_
  refine gy_iadd C d3 ?_
  refine gy_st (st2 := .int (nI (i + k)) :: .ref b :: st) (by rw [n_add]) ?_
  refine gy_sld C SC d4 (n_okP hL (by omega)) ?_
  rw [n_cl (by omega)]
  exact nx
theorem gx_blindR {D : va_G} {av : List Value} {sz : Nat} : FrameBlind (va_Pc av (fun U => U.heap.size = sz ∧ va_P D vwCl w U.heap ∧ va_K D vwCl (gz_ty cs) U ∧ va_D (fun _ => True) w ∧ gx_X cs U ∧ gz_RO a (va_A w sz) U U.heap)) := by
  intro b U f mk q
  obtain ⟨q0, q1, qP, qK, qD, qX, qR⟩ := q
  exact ⟨q0, q1, qP, va_K.moved (u := U) (U := U.calling f mk b) (Vm.Alike.refl U.vm) qK, qD, gx_X.same (u := U) (U := U.calling f mk b) rfl qX, gz_RO.same (u := U) (U := U.calling f mk b) rfl qR⟩
/-- a call over any world, with what lies about -/
theorem gy_callR {ix h2 j ci : Nat} {N : gz_M} (As : List Value) {Ph : Option Value → va_W → Prop} (C : gx_C X M cs hh) (hRO : gx_RO X a) (hd : decode M.2.1 pc = .ok (.invokevirtual ix, 3)) (hm : gz_mv M.1.cls ix N As.length) (hh2 : h2 < hh) (hci : ci < 13) (hk : gz_kd La j = (0, ci)) (hc : gz_kR ci = N.1.cls) (hst : (st.map fun v => v.category).sum ≤ 8) (hR : gx_ok X (kc + mc) (nc + ms))
    (kcn : gx_KR (gx_l X) (gx_D X) cs h2 N mc ms (.ref (a j) :: As) (gz_w cs La a g) a Ph)
    (nx : ∀ v w', Ph v w' → gx X M (kc + mc) (nc + ms) w' (pc + 3) ls (v.toList ++ st)) : gx X M kc nc (gz_w cs La a g) pc ls (As.reverse ++ .ref (a j) :: st) := by
  obtain ⟨p, l, e, R, s, m, args, below, meth, c, D, A, Q⟩ := X
  intro H locs lsA hP hD hS hl
  obtain ⟨hx, hb, hml, hr, hlk, hown, hts, hK, hX, hA, hf1, hf2⟩ := C
  have hRO : gz_RO a A s s.heap := hRO
  have hF := gx_A1 (H := H) hD hS hA
  obtain ⟨q, -, hq⟩ := gz_at (cs := cs) (a := a) (g := g) (La := La) (j := j) (by rw [hk]; exact (by decide : 0 < 9))
  rw [gz_ceO hk] at hq
  have cb : CallB R s args M.1.cls ix N.1 N.2.1 N.2.2.1 N.2.2.2 (gz_ws N) (gx_rm h2 mc ms) mc ms As.length := callB_of As.length hts (gx_GI hm.1) rfl rfl rfl (hts _ hm.1.2.2.2.2) (hts _ hm.2.1) hm.1.2.1 ⟨by show h2 + 1 ≤ R.frames; omega, by show 8 + (N.2.2.1 + 11) + 64 * h2 ≤ R.locals; have := hm.1.2.2.2.1; omega⟩
  have hRO2 : ∀ U : State, U.heap = H → s.WarmedH U.vm → gz_RO a (va_A (gz_w cs La a g) H.size) U U.heap := fun U hU hW => by
    rw [hU]; exact ((hRO.kept (fun q h1 h2 => hS.2.1 q h1 h2)).narrow hF).warm hW
  have hcl := gz_cl hci
  rw [hc] at hcl
  have hrun := va_runV (p := p) (l := l) (e := e) (below := below) (meth := meth) (locs := locs) (cells := kc) (slots := nc) (H := H) (As := As) (rest := st) (b := a j) (g := F0 m pc lsA (As.reverse ++ .ref (a j) :: st)) ⟨hx, hb, hml, hown, hts⟩ (kcn H.size) (C := N.1.cls) ⟨cb, hts _ hm.2.2.1, hts _ hm.2.2.2⟩
    ⟨gx_blindR, va_recv hK hP (ci := ci) (q0 := q) hcl hq, fun U hU hW => ⟨rfl, by rw [hU], by rw [hU]; exact hP, va_K.moved hW.alike hK, hD.weaken (fun _ _ _ _ => trivial), gx_X.warm hW hX, hRO2 U hU hW⟩⟩ rfl rfl hl.1 rfl (lv_room (m := m) (pc := pc) (ls := lsA) (rest := []) hst) hd hR
  refine gx_callg hrun hS hF (fun v w1 H1 locs1 hp hP1 hD1 hk1 hS1 => ?_)
  exact nx v w1 hp H1 locs1 lsA hP1 (hD1.weaken (fun _ q _ z => hF q.1 z)) hS1 hl
theorem gx_GIL : GoodIn gz_U (va_wsS RL 42 yL_goer gz_wL) := by
  intro w hw
  have hu : w ∈ gz_U := by
    rcases List.mem_append.mp hw with h | h
    · rcases List.mem_cons.mp h with h | h
      · rw [h]; exact xg_k5.1
      rcases List.mem_cons.mp h with h | h
      · rw [h]; exact xg_k5.2.1
      rcases List.mem_cons.mp h with h | h
      · rw [h]; exact xg_k5.2.2
      · cases h
    · rcases List.mem_cons.mp h with h | h
      · rw [h]; exact xg_k4
      · exact h
  exact ⟨hu, gz_good hu⟩
/-- the law's call of its own goer -/
theorem gy_callG {Ph : Option Value → va_W → Prop} (As : List Value) (C : gx_C X M cs hh) (hM : M.1.cls = RL) (hRO : gx_RO X a) (RE : gx_RE X cs) (hd : decode M.2.1 pc = .ok (.invokestatic 42, 3)) (hn : As.length = 4) (hh2 : 12 < hh) (hst : (st.map fun v => v.category).sum ≤ 8) (hR : gx_ok X (kc + 1) (nc + 6))
    (kcn : ∀ sz, Met (gx_l X) yL_goer gz_wL (gx_rm 12 1 6) (gx_Pc (gx_D X) cs As w a sz) (gx_Q (gx_D X) (va_A w sz) Ph) 1 6 (va_A w sz))
    (nx : ∀ v w', Ph v w' → gx X M (kc + 1) (nc + 6) w' (pc + 3) ls (v.toList ++ st)) : gx X M kc nc w pc ls (As.reverse ++ st) := by
  obtain ⟨p, l, e, R, s, m, args, below, meth, c, D, A, Q⟩ := X
  intro H locs lsA hP hD hS hl
  obtain ⟨hx, hb, hml, hr, hlk, hown, hts, hK, hX, hA, hf1, hf2⟩ := C
  have hRO : gz_RO a A s s.heap := hRO
  have RE : gx_EX cs A s s.heap := RE
  rw [hM] at hown
  have hF := gx_A1 (H := H) hD hS hA
  have cw : vx_CSW R s args RL 42 yL_goer cL_goer 5 (some .int) [(0, 10, 13, 13)] gz_wL (gx_rm 12 1 6) 1 6 4 := vx_cwSW 4 hts gx_GIL rfl rfl rfl ⟨by decide +kernel, by decide +kernel, by decide +kernel⟩ ⟨by show 12 + 1 ≤ R.frames; omega, by show 8 + (5 + 11) + 64 * 12 ≤ R.locals; omega⟩
  have hRO2 : ∀ U : State, U.heap = H → s.WarmedH U.vm → gz_RO a (va_A w H.size) U U.heap := fun U hU hW => by
    rw [hU]; exact ((hRO.kept (fun q h1 h2 => hS.2.1 q h1 h2)).narrow hF).warm hW
  have hRE2 : ∀ U : State, U.heap = H → s.WarmedH U.vm → gx_EX cs (va_A w H.size) U U.heap := fun U hU hW => by
    rw [hU]; exact ((RE.kept (fun q h1 h2 => hS.2.1 q h1 h2)).narrow hF).warm hW
  have hrun := vx_runSW (p := p) (l := l) (e := e) (below := below) (meth := meth) (locs := locs) (cells := kc) (slots := nc) (H := H) (As := As) (rest := st) (g := F0 m pc lsA (As.reverse ++ st)) ⟨hx, hb, hml, hown, hts⟩ (kcn H.size) cw
    ⟨gx_blindX, fun U hU hW => ⟨rfl, by rw [hU], by rw [hU]; exact hP, va_K.moved hW.alike hK, hD.weaken (fun _ _ _ _ => trivial), gx_X.warm hW hX, hRO2 U hU hW, hRE2 U hU hW⟩⟩ rfl hn hl.1 rfl (lv_room (m := m) (pc := pc) (ls := lsA) (rest := []) hst) hd hR
  refine gx_callg hrun hS hF (fun v w1 H1 locs1 hp hP1 hD1 hk1 hS1 => ?_)
  exact nx v w1 hp H1 locs1 lsA hP1 (hD1.weaken (fun _ q _ z => hF q.1 z)) hS1 hl
/-- the law's end -/
theorem gy_lend (C : gx_C X M cs hh) (hM : M = mL_law) (EL : gx_EL X b) (hd : decode M.2.1 pc = .ok (.ireturn, 1)) (h1 : kc ≤ 601024) (h2 : nc ≤ 7293034) : gx X M kc nc w pc ls [.int 1] := by
  obtain ⟨p, l, e, R, s, m, args, below, meth, c, D, A, Q⟩ := X
  obtain ⟨e1, e2, e3, e4⟩ := EL
  subst hM e1 e2 e3
  intro H locs lsA hP hD hS hl
  refine W.widen h1 h2 ?_
  refine va_forget (fun q hq => e4 _ (hS.2.2 q hq)) ?_
  exact lw_ret C.1 C.2.1 C.2.2.2.1 C.2.2.2.2.1 hd
theorem gx_RO.cg {a' : Nat → Nat} (h : gx_RO X a) (ha : ∀ j, (j < 100 ∨ 200 ≤ j) → a' j = a j) : gx_RO X a' := by
  obtain ⟨p, l, e, R, s, m, args, below, meth, c, D, A, Q⟩ := X
  have h : gz_RO a A s s.heap := h
  show gz_RO a' A s s.heap
  have e1 : (fun i => a' (210 + i)) = (fun i => a (210 + i)) := funext fun i => ha _ (Or.inr (by omega))
  have e2 : (fun i => a' (220 + i)) = (fun i => a (220 + i)) := funext fun i => ha _ (Or.inr (by omega))
  unfold gz_RO gz_RS
  rw [ha 200 (Or.inr (by omega)), ha 201 (Or.inr (by omega)), ha 202 (Or.inr (by omega)), ha 230 (Or.inr (by omega)), ha 210 (Or.inr (by omega)), ha 211 (Or.inr (by omega)), ha 212 (Or.inr (by omega)), ha 213 (Or.inr (by omega)), ha 214 (Or.inr (by omega)), e1, e2]
  exact h
end GXL
/-- what holds all through the law -/
def lw_H (X : gx_T) (cs : Nat → ClassId) (a : Nat → Nat) (b L : Nat) (xs : Nat → Int32) : Prop := gx_C X mL_law cs 1000 ∧ gx_RO X a ∧ gx_RE X cs ∧ gx_SC X b L xs ∧ gx_ok X 601024 7293034 ∧ (gx_l X).stackTraces = false ∧ L ≤ 3072
abbrev lw_ls (a : Nat → Nat) (b i : Nat) : List (Option Value) := [some (.ref b), some (.ref (a 0)), some (.ref (a 39)), some (.ref (a 38)), some (.int (nI i)), none, none]
theorem lw_stop {i L : Nat} (hi : i ≤ 3072) (hL : L ≤ 3072) (h : ¬ nI L - (6 : Int32) < nI i) : i + 6 ≤ L := by
  rw [x_lt (by omega)] at h
  have e : (nI L - (6 : Int32)).toInt = (L : Int) - 6 := by
    rw [show (6 : Int32) = nI 6 from rfl, Int32.toInt_sub, n_ti (by omega), n_ti (by omega)]
    exact Int.bmod_eq_of_le (by omega) (by omega)
  rw [e] at h
  omega
theorem WR.h1 {La : gz_L} {g : gz_S} {B : Nat} (h : WR La g B) : (g.2.2 1).getD 0 < 100 ∧ La.1 ≤ 4 ∧ La.2.1 ≤ 4 := by
  obtain ⟨l, Ls, Es, cur, lv, V, V0, a, K, Lg, him, IV, ILg, s, hC, hR, hI⟩ := h
  obtain ⟨t1, ⟨t2a, t2b, t2c, t2d⟩, t3, t4, t5, t6, t7, t8⟩ := hC.1
  exact ⟨t7.2, by omega, by omega⟩

