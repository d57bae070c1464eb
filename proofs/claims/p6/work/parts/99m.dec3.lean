theorem gd_LA_law_704 : (decode code 704 = .ok (.iload_n 3, 1)) ∧ (decode code 705 = .ok (.iconst 3, 1)) ∧ (decode code 706 = .ok (.iadd, 1)) ∧ (decode code 707 = .ok (.iaload, 1)) ∧ (decode code 708 = .ok (.invokevirtual 82, 3)) ∧ (decode code 711 = .ok (.pop, 1)) ∧ (decode code 712 = .ok (.aload_n 2, 1)) ∧ (decode code 713 = .ok (.aload_n 0, 1)) ∧ (decode code 714 = .ok (.iload_n 3, 1)) ∧ (decode code 715 = .ok (.iconst 1, 1)) := by decide +kernel
theorem d_LA_law_704 : decode code 704 = .ok (.iload_n 3, 1) := gd_LA_law_704.1
theorem d_LA_law_705 : decode code 705 = .ok (.iconst 3, 1) := gd_LA_law_704.2.1
theorem d_LA_law_706 : decode code 706 = .ok (.iadd, 1) := gd_LA_law_704.2.2.1
theorem d_LA_law_707 : decode code 707 = .ok (.iaload, 1) := gd_LA_law_704.2.2.2.1
theorem d_LA_law_708 : decode code 708 = .ok (.invokevirtual 82, 3) := gd_LA_law_704.2.2.2.2.1
theorem d_LA_law_711 : decode code 711 = .ok (.pop, 1) := gd_LA_law_704.2.2.2.2.2.1
theorem d_LA_law_712 : decode code 712 = .ok (.aload_n 2, 1) := gd_LA_law_704.2.2.2.2.2.2.1
theorem d_LA_law_713 : decode code 713 = .ok (.aload_n 0, 1) := gd_LA_law_704.2.2.2.2.2.2.2.1
theorem d_LA_law_714 : decode code 714 = .ok (.iload_n 3, 1) := gd_LA_law_704.2.2.2.2.2.2.2.2.1
theorem d_LA_law_715 : decode code 715 = .ok (.iconst 1, 1) := gd_LA_law_704.2.2.2.2.2.2.2.2.2
theorem gd_LA_law_716 : (decode code 716 = .ok (.iadd, 1)) ∧ (decode code 717 = .ok (.iaload, 1)) ∧ (decode code 718 = .ok (.aload_n 0, 1)) ∧ (decode code 719 = .ok (.iload_n 3, 1)) ∧ (decode code 720 = .ok (.iconst 2, 1)) ∧ (decode code 721 = .ok (.iadd, 1)) ∧ (decode code 722 = .ok (.iaload, 1)) ∧ (decode code 723 = .ok (.aload_n 0, 1)) ∧ (decode code 724 = .ok (.iload_n 3, 1)) ∧ (decode code 725 = .ok (.iconst 3, 1)) := by decide +kernel
theorem d_LA_law_716 : decode code 716 = .ok (.iadd, 1) := gd_LA_law_716.1
theorem d_LA_law_717 : decode code 717 = .ok (.iaload, 1) := gd_LA_law_716.2.1
theorem d_LA_law_718 : decode code 718 = .ok (.aload_n 0, 1) := gd_LA_law_716.2.2.1
theorem d_LA_law_719 : decode code 719 = .ok (.iload_n 3, 1) := gd_LA_law_716.2.2.2.1
theorem d_LA_law_720 : decode code 720 = .ok (.iconst 2, 1) := gd_LA_law_716.2.2.2.2.1
theorem d_LA_law_721 : decode code 721 = .ok (.iadd, 1) := gd_LA_law_716.2.2.2.2.2.1
theorem d_LA_law_722 : decode code 722 = .ok (.iaload, 1) := gd_LA_law_716.2.2.2.2.2.2.1
theorem d_LA_law_723 : decode code 723 = .ok (.aload_n 0, 1) := gd_LA_law_716.2.2.2.2.2.2.2.1
theorem d_LA_law_724 : decode code 724 = .ok (.iload_n 3, 1) := gd_LA_law_716.2.2.2.2.2.2.2.2.1
theorem d_LA_law_725 : decode code 725 = .ok (.iconst 3, 1) := gd_LA_law_716.2.2.2.2.2.2.2.2.2
theorem gd_LA_law_726 : (decode code 726 = .ok (.iadd, 1)) ∧ (decode code 727 = .ok (.iaload, 1)) ∧ (decode code 728 = .ok (.invokevirtual 85, 3)) ∧ (decode code 731 = .ok (.pop, 1)) ∧ (decode code 732 = .ok (.goto 177, 3)) ∧ (decode code 735 = .ok (.aload_n 1, 1)) ∧ (decode code 736 = .ok (.aload_n 0, 1)) ∧ (decode code 737 = .ok (.iload_n 3, 1)) ∧ (decode code 738 = .ok (.iconst 1, 1)) ∧ (decode code 739 = .ok (.iadd, 1)) := by decide +kernel
theorem d_LA_law_726 : decode code 726 = .ok (.iadd, 1) := gd_LA_law_726.1
theorem d_LA_law_727 : decode code 727 = .ok (.iaload, 1) := gd_LA_law_726.2.1
theorem d_LA_law_728 : decode code 728 = .ok (.invokevirtual 85, 3) := gd_LA_law_726.2.2.1
theorem d_LA_law_731 : decode code 731 = .ok (.pop, 1) := gd_LA_law_726.2.2.2.1
theorem d_LA_law_732 : decode code 732 = .ok (.goto 177, 3) := gd_LA_law_726.2.2.2.2.1
theorem d_LA_law_735 : decode code 735 = .ok (.aload_n 1, 1) := gd_LA_law_726.2.2.2.2.2.1
theorem d_LA_law_736 : decode code 736 = .ok (.aload_n 0, 1) := gd_LA_law_726.2.2.2.2.2.2.1
theorem d_LA_law_737 : decode code 737 = .ok (.iload_n 3, 1) := gd_LA_law_726.2.2.2.2.2.2.2.1
theorem d_LA_law_738 : decode code 738 = .ok (.iconst 1, 1) := gd_LA_law_726.2.2.2.2.2.2.2.2.1
theorem d_LA_law_739 : decode code 739 = .ok (.iadd, 1) := gd_LA_law_726.2.2.2.2.2.2.2.2.2
theorem gd_LA_law_740 : (decode code 740 = .ok (.iaload, 1)) ∧ (decode code 741 = .ok (.invokevirtual 86, 3)) ∧ (decode code 744 = .ok (.pop, 1)) ∧ (decode code 745 = .ok (.aload_n 2, 1)) ∧ (decode code 746 = .ok (.aload_n 0, 1)) ∧ (decode code 747 = .ok (.iload_n 3, 1)) ∧ (decode code 748 = .ok (.iconst 1, 1)) ∧ (decode code 749 = .ok (.iadd, 1)) ∧ (decode code 750 = .ok (.iaload, 1)) ∧ (decode code 751 = .ok (.invokevirtual 89, 3)) := by decide +kernel
theorem d_LA_law_740 : decode code 740 = .ok (.iaload, 1) := gd_LA_law_740.1
theorem d_LA_law_741 : decode code 741 = .ok (.invokevirtual 86, 3) := gd_LA_law_740.2.1
theorem d_LA_law_744 : decode code 744 = .ok (.pop, 1) := gd_LA_law_740.2.2.1
theorem d_LA_law_745 : decode code 745 = .ok (.aload_n 2, 1) := gd_LA_law_740.2.2.2.1
theorem d_LA_law_746 : decode code 746 = .ok (.aload_n 0, 1) := gd_LA_law_740.2.2.2.2.1
theorem d_LA_law_747 : decode code 747 = .ok (.iload_n 3, 1) := gd_LA_law_740.2.2.2.2.2.1
theorem d_LA_law_748 : decode code 748 = .ok (.iconst 1, 1) := gd_LA_law_740.2.2.2.2.2.2.1
theorem d_LA_law_749 : decode code 749 = .ok (.iadd, 1) := gd_LA_law_740.2.2.2.2.2.2.2.1
theorem d_LA_law_750 : decode code 750 = .ok (.iaload, 1) := gd_LA_law_740.2.2.2.2.2.2.2.2.1
theorem d_LA_law_751 : decode code 751 = .ok (.invokevirtual 89, 3) := gd_LA_law_740.2.2.2.2.2.2.2.2.2
theorem gd_LA_law_754 : (decode code 754 = .ok (.pop, 1)) ∧ (decode code 755 = .ok (.goto 154, 3)) ∧ (decode code 758 = .ok (.aload_n 1, 1)) ∧ (decode code 759 = .ok (.invokevirtual 90, 3)) ∧ (decode code 762 = .ok (.pop, 1)) ∧ (decode code 763 = .ok (.aload_n 2, 1)) ∧ (decode code 764 = .ok (.invokevirtual 94, 3)) ∧ (decode code 767 = .ok (.pop, 1)) ∧ (decode code 768 = .ok (.goto 141, 3)) ∧ (decode code 771 = .ok (.aload_n 1, 1)) := by decide +kernel
theorem d_LA_law_754 : decode code 754 = .ok (.pop, 1) := gd_LA_law_754.1
theorem d_LA_law_755 : decode code 755 = .ok (.goto 154, 3) := gd_LA_law_754.2.1
theorem d_LA_law_758 : decode code 758 = .ok (.aload_n 1, 1) := gd_LA_law_754.2.2.1
theorem d_LA_law_759 : decode code 759 = .ok (.invokevirtual 90, 3) := gd_LA_law_754.2.2.2.1
theorem d_LA_law_762 : decode code 762 = .ok (.pop, 1) := gd_LA_law_754.2.2.2.2.1
theorem d_LA_law_763 : decode code 763 = .ok (.aload_n 2, 1) := gd_LA_law_754.2.2.2.2.2.1
theorem d_LA_law_764 : decode code 764 = .ok (.invokevirtual 94, 3) := gd_LA_law_754.2.2.2.2.2.2.1
theorem d_LA_law_767 : decode code 767 = .ok (.pop, 1) := gd_LA_law_754.2.2.2.2.2.2.2.1
theorem d_LA_law_768 : decode code 768 = .ok (.goto 141, 3) := gd_LA_law_754.2.2.2.2.2.2.2.2.1
theorem d_LA_law_771 : decode code 771 = .ok (.aload_n 1, 1) := gd_LA_law_754.2.2.2.2.2.2.2.2.2
theorem gd_LA_law_772 : (decode code 772 = .ok (.aload_n 0, 1)) ∧ (decode code 773 = .ok (.iload_n 3, 1)) ∧ (decode code 774 = .ok (.iconst 1, 1)) ∧ (decode code 775 = .ok (.iadd, 1)) ∧ (decode code 776 = .ok (.iaload, 1)) ∧ (decode code 777 = .ok (.aload_n 0, 1)) ∧ (decode code 778 = .ok (.iload_n 3, 1)) ∧ (decode code 779 = .ok (.iconst 2, 1)) ∧ (decode code 780 = .ok (.iadd, 1)) ∧ (decode code 781 = .ok (.iaload, 1)) := by decide +kernel
theorem d_LA_law_772 : decode code 772 = .ok (.aload_n 0, 1) := gd_LA_law_772.1
theorem d_LA_law_773 : decode code 773 = .ok (.iload_n 3, 1) := gd_LA_law_772.2.1
theorem d_LA_law_774 : decode code 774 = .ok (.iconst 1, 1) := gd_LA_law_772.2.2.1
theorem d_LA_law_775 : decode code 775 = .ok (.iadd, 1) := gd_LA_law_772.2.2.2.1
theorem d_LA_law_776 : decode code 776 = .ok (.iaload, 1) := gd_LA_law_772.2.2.2.2.1
theorem d_LA_law_777 : decode code 777 = .ok (.aload_n 0, 1) := gd_LA_law_772.2.2.2.2.2.1
theorem d_LA_law_778 : decode code 778 = .ok (.iload_n 3, 1) := gd_LA_law_772.2.2.2.2.2.2.1
theorem d_LA_law_779 : decode code 779 = .ok (.iconst 2, 1) := gd_LA_law_772.2.2.2.2.2.2.2.1
theorem d_LA_law_780 : decode code 780 = .ok (.iadd, 1) := gd_LA_law_772.2.2.2.2.2.2.2.2.1
theorem d_LA_law_781 : decode code 781 = .ok (.iaload, 1) := gd_LA_law_772.2.2.2.2.2.2.2.2.2
theorem gd_LA_law_782 : (decode code 782 = .ok (.invokevirtual 95, 3)) ∧ (decode code 785 = .ok (.pop, 1)) ∧ (decode code 786 = .ok (.aload_n 2, 1)) ∧ (decode code 787 = .ok (.aload_n 0, 1)) ∧ (decode code 788 = .ok (.iload_n 3, 1)) ∧ (decode code 789 = .ok (.iconst 1, 1)) ∧ (decode code 790 = .ok (.iadd, 1)) ∧ (decode code 791 = .ok (.iaload, 1)) ∧ (decode code 792 = .ok (.aload_n 0, 1)) ∧ (decode code 793 = .ok (.iload_n 3, 1)) := by decide +kernel
theorem d_LA_law_782 : decode code 782 = .ok (.invokevirtual 95, 3) := gd_LA_law_782.1
theorem d_LA_law_785 : decode code 785 = .ok (.pop, 1) := gd_LA_law_782.2.1
theorem d_LA_law_786 : decode code 786 = .ok (.aload_n 2, 1) := gd_LA_law_782.2.2.1
theorem d_LA_law_787 : decode code 787 = .ok (.aload_n 0, 1) := gd_LA_law_782.2.2.2.1
theorem d_LA_law_788 : decode code 788 = .ok (.iload_n 3, 1) := gd_LA_law_782.2.2.2.2.1
theorem d_LA_law_789 : decode code 789 = .ok (.iconst 1, 1) := gd_LA_law_782.2.2.2.2.2.1
theorem d_LA_law_790 : decode code 790 = .ok (.iadd, 1) := gd_LA_law_782.2.2.2.2.2.2.1
theorem d_LA_law_791 : decode code 791 = .ok (.iaload, 1) := gd_LA_law_782.2.2.2.2.2.2.2.1
theorem d_LA_law_792 : decode code 792 = .ok (.aload_n 0, 1) := gd_LA_law_782.2.2.2.2.2.2.2.2.1
theorem d_LA_law_793 : decode code 793 = .ok (.iload_n 3, 1) := gd_LA_law_782.2.2.2.2.2.2.2.2.2
theorem gd_LA_law_794 : (decode code 794 = .ok (.iconst 2, 1)) ∧ (decode code 795 = .ok (.iadd, 1)) ∧ (decode code 796 = .ok (.iaload, 1)) ∧ (decode code 797 = .ok (.invokevirtual 98, 3)) ∧ (decode code 800 = .ok (.pop, 1)) ∧ (decode code 801 = .ok (.goto 108, 3)) ∧ (decode code 804 = .ok (.aload_n 1, 1)) ∧ (decode code 805 = .ok (.invokevirtual 99, 3)) ∧ (decode code 808 = .ok (.pop, 1)) ∧ (decode code 809 = .ok (.aload_n 2, 1)) := by decide +kernel
theorem d_LA_law_794 : decode code 794 = .ok (.iconst 2, 1) := gd_LA_law_794.1
theorem d_LA_law_795 : decode code 795 = .ok (.iadd, 1) := gd_LA_law_794.2.1
theorem d_LA_law_796 : decode code 796 = .ok (.iaload, 1) := gd_LA_law_794.2.2.1
theorem d_LA_law_797 : decode code 797 = .ok (.invokevirtual 98, 3) := gd_LA_law_794.2.2.2.1
theorem d_LA_law_800 : decode code 800 = .ok (.pop, 1) := gd_LA_law_794.2.2.2.2.1
theorem d_LA_law_801 : decode code 801 = .ok (.goto 108, 3) := gd_LA_law_794.2.2.2.2.2.1
theorem d_LA_law_804 : decode code 804 = .ok (.aload_n 1, 1) := gd_LA_law_794.2.2.2.2.2.2.1
theorem d_LA_law_805 : decode code 805 = .ok (.invokevirtual 99, 3) := gd_LA_law_794.2.2.2.2.2.2.2.1
theorem d_LA_law_808 : decode code 808 = .ok (.pop, 1) := gd_LA_law_794.2.2.2.2.2.2.2.2.1
theorem d_LA_law_809 : decode code 809 = .ok (.aload_n 2, 1) := gd_LA_law_794.2.2.2.2.2.2.2.2.2
theorem gd_LA_law_810 : (decode code 810 = .ok (.invokevirtual 102, 3)) ∧ (decode code 813 = .ok (.pop, 1)) ∧ (decode code 814 = .ok (.goto 95, 3)) ∧ (decode code 817 = .ok (.aload_n 1, 1)) ∧ (decode code 818 = .ok (.aload_n 0, 1)) ∧ (decode code 819 = .ok (.iload_n 3, 1)) ∧ (decode code 820 = .ok (.iconst 1, 1)) ∧ (decode code 821 = .ok (.iadd, 1)) ∧ (decode code 822 = .ok (.iaload, 1)) ∧ (decode code 823 = .ok (.invokevirtual 103, 3)) := by decide +kernel
theorem d_LA_law_810 : decode code 810 = .ok (.invokevirtual 102, 3) := gd_LA_law_810.1
theorem d_LA_law_813 : decode code 813 = .ok (.pop, 1) := gd_LA_law_810.2.1
theorem d_LA_law_814 : decode code 814 = .ok (.goto 95, 3) := gd_LA_law_810.2.2.1
theorem d_LA_law_817 : decode code 817 = .ok (.aload_n 1, 1) := gd_LA_law_810.2.2.2.1
theorem d_LA_law_818 : decode code 818 = .ok (.aload_n 0, 1) := gd_LA_law_810.2.2.2.2.1
theorem d_LA_law_819 : decode code 819 = .ok (.iload_n 3, 1) := gd_LA_law_810.2.2.2.2.2.1
theorem d_LA_law_820 : decode code 820 = .ok (.iconst 1, 1) := gd_LA_law_810.2.2.2.2.2.2.1
theorem d_LA_law_821 : decode code 821 = .ok (.iadd, 1) := gd_LA_law_810.2.2.2.2.2.2.2.1
theorem d_LA_law_822 : decode code 822 = .ok (.iaload, 1) := gd_LA_law_810.2.2.2.2.2.2.2.2.1
theorem d_LA_law_823 : decode code 823 = .ok (.invokevirtual 103, 3) := gd_LA_law_810.2.2.2.2.2.2.2.2.2
theorem gd_LA_law_826 : (decode code 826 = .ok (.pop, 1)) ∧ (decode code 827 = .ok (.aload_n 2, 1)) ∧ (decode code 828 = .ok (.aload_n 0, 1)) ∧ (decode code 829 = .ok (.iload_n 3, 1)) ∧ (decode code 830 = .ok (.iconst 1, 1)) ∧ (decode code 831 = .ok (.iadd, 1)) ∧ (decode code 832 = .ok (.iaload, 1)) ∧ (decode code 833 = .ok (.invokevirtual 106, 3)) ∧ (decode code 836 = .ok (.pop, 1)) ∧ (decode code 837 = .ok (.goto 72, 3)) := by decide +kernel
theorem d_LA_law_826 : decode code 826 = .ok (.pop, 1) := gd_LA_law_826.1
theorem d_LA_law_827 : decode code 827 = .ok (.aload_n 2, 1) := gd_LA_law_826.2.1
theorem d_LA_law_828 : decode code 828 = .ok (.aload_n 0, 1) := gd_LA_law_826.2.2.1
theorem d_LA_law_829 : decode code 829 = .ok (.iload_n 3, 1) := gd_LA_law_826.2.2.2.1
theorem d_LA_law_830 : decode code 830 = .ok (.iconst 1, 1) := gd_LA_law_826.2.2.2.2.1
theorem d_LA_law_831 : decode code 831 = .ok (.iadd, 1) := gd_LA_law_826.2.2.2.2.2.1
theorem d_LA_law_832 : decode code 832 = .ok (.iaload, 1) := gd_LA_law_826.2.2.2.2.2.2.1
theorem d_LA_law_833 : decode code 833 = .ok (.invokevirtual 106, 3) := gd_LA_law_826.2.2.2.2.2.2.2.1
theorem d_LA_law_836 : decode code 836 = .ok (.pop, 1) := gd_LA_law_826.2.2.2.2.2.2.2.2.1
theorem d_LA_law_837 : decode code 837 = .ok (.goto 72, 3) := gd_LA_law_826.2.2.2.2.2.2.2.2.2
theorem gd_LA_law_840 : (decode code 840 = .ok (.aload_n 1, 1)) ∧ (decode code 841 = .ok (.aload_n 0, 1)) ∧ (decode code 842 = .ok (.iload_n 3, 1)) ∧ (decode code 843 = .ok (.iconst 1, 1)) ∧ (decode code 844 = .ok (.iadd, 1)) ∧ (decode code 845 = .ok (.iaload, 1)) ∧ (decode code 846 = .ok (.aload_n 0, 1)) ∧ (decode code 847 = .ok (.iload_n 3, 1)) ∧ (decode code 848 = .ok (.iconst 2, 1)) ∧ (decode code 849 = .ok (.iadd, 1)) := by decide +kernel
theorem d_LA_law_840 : decode code 840 = .ok (.aload_n 1, 1) := gd_LA_law_840.1
theorem d_LA_law_841 : decode code 841 = .ok (.aload_n 0, 1) := gd_LA_law_840.2.1
theorem d_LA_law_842 : decode code 842 = .ok (.iload_n 3, 1) := gd_LA_law_840.2.2.1
theorem d_LA_law_843 : decode code 843 = .ok (.iconst 1, 1) := gd_LA_law_840.2.2.2.1
theorem d_LA_law_844 : decode code 844 = .ok (.iadd, 1) := gd_LA_law_840.2.2.2.2.1
theorem d_LA_law_845 : decode code 845 = .ok (.iaload, 1) := gd_LA_law_840.2.2.2.2.2.1
theorem d_LA_law_846 : decode code 846 = .ok (.aload_n 0, 1) := gd_LA_law_840.2.2.2.2.2.2.1
theorem d_LA_law_847 : decode code 847 = .ok (.iload_n 3, 1) := gd_LA_law_840.2.2.2.2.2.2.2.1
theorem d_LA_law_848 : decode code 848 = .ok (.iconst 2, 1) := gd_LA_law_840.2.2.2.2.2.2.2.2.1
theorem d_LA_law_849 : decode code 849 = .ok (.iadd, 1) := gd_LA_law_840.2.2.2.2.2.2.2.2.2
theorem gd_LA_law_850 : (decode code 850 = .ok (.iaload, 1)) ∧ (decode code 851 = .ok (.invokevirtual 107, 3)) ∧ (decode code 854 = .ok (.pop, 1)) ∧ (decode code 855 = .ok (.aload_n 2, 1)) ∧ (decode code 856 = .ok (.aload_n 0, 1)) ∧ (decode code 857 = .ok (.iload_n 3, 1)) ∧ (decode code 858 = .ok (.iconst 1, 1)) ∧ (decode code 859 = .ok (.iadd, 1)) ∧ (decode code 860 = .ok (.iaload, 1)) ∧ (decode code 861 = .ok (.aload_n 0, 1)) := by decide +kernel
theorem d_LA_law_850 : decode code 850 = .ok (.iaload, 1) := gd_LA_law_850.1
theorem d_LA_law_851 : decode code 851 = .ok (.invokevirtual 107, 3) := gd_LA_law_850.2.1
theorem d_LA_law_854 : decode code 854 = .ok (.pop, 1) := gd_LA_law_850.2.2.1
theorem d_LA_law_855 : decode code 855 = .ok (.aload_n 2, 1) := gd_LA_law_850.2.2.2.1
theorem d_LA_law_856 : decode code 856 = .ok (.aload_n 0, 1) := gd_LA_law_850.2.2.2.2.1
theorem d_LA_law_857 : decode code 857 = .ok (.iload_n 3, 1) := gd_LA_law_850.2.2.2.2.2.1
theorem d_LA_law_858 : decode code 858 = .ok (.iconst 1, 1) := gd_LA_law_850.2.2.2.2.2.2.1
theorem d_LA_law_859 : decode code 859 = .ok (.iadd, 1) := gd_LA_law_850.2.2.2.2.2.2.2.1
theorem d_LA_law_860 : decode code 860 = .ok (.iaload, 1) := gd_LA_law_850.2.2.2.2.2.2.2.2.1
theorem d_LA_law_861 : decode code 861 = .ok (.aload_n 0, 1) := gd_LA_law_850.2.2.2.2.2.2.2.2.2
theorem gd_LA_law_862 : (decode code 862 = .ok (.iload_n 3, 1)) ∧ (decode code 863 = .ok (.iconst 2, 1)) ∧ (decode code 864 = .ok (.iadd, 1)) ∧ (decode code 865 = .ok (.iaload, 1)) ∧ (decode code 866 = .ok (.invokevirtual 110, 3)) ∧ (decode code 869 = .ok (.pop, 1)) ∧ (decode code 870 = .ok (.goto 39, 3)) ∧ (decode code 873 = .ok (.aload_n 1, 1)) ∧ (decode code 874 = .ok (.aload_n 0, 1)) ∧ (decode code 875 = .ok (.iload_n 3, 1)) := by decide +kernel
theorem d_LA_law_862 : decode code 862 = .ok (.iload_n 3, 1) := gd_LA_law_862.1
theorem d_LA_law_863 : decode code 863 = .ok (.iconst 2, 1) := gd_LA_law_862.2.1
theorem d_LA_law_864 : decode code 864 = .ok (.iadd, 1) := gd_LA_law_862.2.2.1
theorem d_LA_law_865 : decode code 865 = .ok (.iaload, 1) := gd_LA_law_862.2.2.2.1
theorem d_LA_law_866 : decode code 866 = .ok (.invokevirtual 110, 3) := gd_LA_law_862.2.2.2.2.1
theorem d_LA_law_869 : decode code 869 = .ok (.pop, 1) := gd_LA_law_862.2.2.2.2.2.1
theorem d_LA_law_870 : decode code 870 = .ok (.goto 39, 3) := gd_LA_law_862.2.2.2.2.2.2.1
theorem d_LA_law_873 : decode code 873 = .ok (.aload_n 1, 1) := gd_LA_law_862.2.2.2.2.2.2.2.1
theorem d_LA_law_874 : decode code 874 = .ok (.aload_n 0, 1) := gd_LA_law_862.2.2.2.2.2.2.2.2.1
theorem d_LA_law_875 : decode code 875 = .ok (.iload_n 3, 1) := gd_LA_law_862.2.2.2.2.2.2.2.2.2
theorem gd_LA_law_876 : (decode code 876 = .ok (.iconst 1, 1)) ∧ (decode code 877 = .ok (.iadd, 1)) ∧ (decode code 878 = .ok (.iaload, 1)) ∧ (decode code 879 = .ok (.invokevirtual 111, 3)) ∧ (decode code 882 = .ok (.pop, 1)) ∧ (decode code 883 = .ok (.aload_n 2, 1)) ∧ (decode code 884 = .ok (.aload_n 0, 1)) ∧ (decode code 885 = .ok (.iload_n 3, 1)) ∧ (decode code 886 = .ok (.iconst 1, 1)) ∧ (decode code 887 = .ok (.iadd, 1)) := by decide +kernel
theorem d_LA_law_876 : decode code 876 = .ok (.iconst 1, 1) := gd_LA_law_876.1
theorem d_LA_law_877 : decode code 877 = .ok (.iadd, 1) := gd_LA_law_876.2.1
theorem d_LA_law_878 : decode code 878 = .ok (.iaload, 1) := gd_LA_law_876.2.2.1
theorem d_LA_law_879 : decode code 879 = .ok (.invokevirtual 111, 3) := gd_LA_law_876.2.2.2.1
theorem d_LA_law_882 : decode code 882 = .ok (.pop, 1) := gd_LA_law_876.2.2.2.2.1
theorem d_LA_law_883 : decode code 883 = .ok (.aload_n 2, 1) := gd_LA_law_876.2.2.2.2.2.1
theorem d_LA_law_884 : decode code 884 = .ok (.aload_n 0, 1) := gd_LA_law_876.2.2.2.2.2.2.1
theorem d_LA_law_885 : decode code 885 = .ok (.iload_n 3, 1) := gd_LA_law_876.2.2.2.2.2.2.2.1
theorem d_LA_law_886 : decode code 886 = .ok (.iconst 1, 1) := gd_LA_law_876.2.2.2.2.2.2.2.2.1
theorem d_LA_law_887 : decode code 887 = .ok (.iadd, 1) := gd_LA_law_876.2.2.2.2.2.2.2.2.2
theorem gd_LA_law_888 : (decode code 888 = .ok (.iaload, 1)) ∧ (decode code 889 = .ok (.invokevirtual 114, 3)) ∧ (decode code 892 = .ok (.pop, 1)) ∧ (decode code 893 = .ok (.goto 16, 3)) ∧ (decode code 896 = .ok (.aload_n 1, 1)) ∧ (decode code 897 = .ok (.invokevirtual 115, 3)) ∧ (decode code 900 = .ok (.pop2, 1)) ∧ (decode code 901 = .ok (.aload_n 2, 1)) ∧ (decode code 902 = .ok (.invokevirtual 119, 3)) ∧ (decode code 905 = .ok (.pop2, 1)) := by decide +kernel
theorem d_LA_law_888 : decode code 888 = .ok (.iaload, 1) := gd_LA_law_888.1
theorem d_LA_law_889 : decode code 889 = .ok (.invokevirtual 114, 3) := gd_LA_law_888.2.1
theorem d_LA_law_892 : decode code 892 = .ok (.pop, 1) := gd_LA_law_888.2.2.1
theorem d_LA_law_893 : decode code 893 = .ok (.goto 16, 3) := gd_LA_law_888.2.2.2.1
theorem d_LA_law_896 : decode code 896 = .ok (.aload_n 1, 1) := gd_LA_law_888.2.2.2.2.1
theorem d_LA_law_897 : decode code 897 = .ok (.invokevirtual 115, 3) := gd_LA_law_888.2.2.2.2.2.1
theorem d_LA_law_900 : decode code 900 = .ok (.pop2, 1) := gd_LA_law_888.2.2.2.2.2.2.1
theorem d_LA_law_901 : decode code 901 = .ok (.aload_n 2, 1) := gd_LA_law_888.2.2.2.2.2.2.2.1
theorem d_LA_law_902 : decode code 902 = .ok (.invokevirtual 119, 3) := gd_LA_law_888.2.2.2.2.2.2.2.2.1
theorem d_LA_law_905 : decode code 905 = .ok (.pop2, 1) := gd_LA_law_888.2.2.2.2.2.2.2.2.2
