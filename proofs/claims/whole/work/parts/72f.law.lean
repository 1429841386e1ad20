theorem dl_753 : decode code 753 = .ok (.iload_n 3, 1) := by decide +kernel
theorem dl_754 : decode code 754 = .ok (.iconst 1, 1) := by decide +kernel
theorem dl_755 : decode code 755 = .ok (.iadd, 1) := by decide +kernel
theorem dl_756 : decode code 756 = .ok (.iaload, 1) := by decide +kernel
theorem dl_757 : decode code 757 = .ok (.aload_n 0, 1) := by decide +kernel
theorem dl_758 : decode code 758 = .ok (.iload_n 3, 1) := by decide +kernel
theorem dl_759 : decode code 759 = .ok (.iconst 2, 1) := by decide +kernel
theorem dl_760 : decode code 760 = .ok (.iadd, 1) := by decide +kernel
theorem dl_761 : decode code 761 = .ok (.iaload, 1) := by decide +kernel
theorem dl_762 : decode code 762 = .ok (.invokevirtual 104, 3) := by decide +kernel
theorem dl_765 : decode code 765 = .ok (.aload_n 2, 1) := by decide +kernel
theorem dl_766 : decode code 766 = .ok (.aload_n 0, 1) := by decide +kernel
theorem dl_767 : decode code 767 = .ok (.iload_n 3, 1) := by decide +kernel
theorem dl_768 : decode code 768 = .ok (.iconst 1, 1) := by decide +kernel
theorem dl_769 : decode code 769 = .ok (.iadd, 1) := by decide +kernel
theorem dl_770 : decode code 770 = .ok (.iaload, 1) := by decide +kernel
theorem dl_771 : decode code 771 = .ok (.aload_n 0, 1) := by decide +kernel
theorem dl_772 : decode code 772 = .ok (.iload_n 3, 1) := by decide +kernel
theorem dl_773 : decode code 773 = .ok (.iconst 2, 1) := by decide +kernel
theorem dl_774 : decode code 774 = .ok (.iadd, 1) := by decide +kernel
theorem dl_775 : decode code 775 = .ok (.iaload, 1) := by decide +kernel
theorem dl_776 : decode code 776 = .ok (.invokevirtual 107, 3) := by decide +kernel
theorem dl_779 : decode code 779 = .ok (.if_icmp .eq 211, 3) := by decide +kernel
theorem dl_782 : decode code 782 = .ok (.iconst 0, 1) := by decide +kernel
theorem dl_783 : decode code 783 = .ok (.ireturn, 1) := by decide +kernel
theorem dl_784 : decode code 784 = .ok (.aload_n 1, 1) := by decide +kernel
theorem dl_785 : decode code 785 = .ok (.aload_n 0, 1) := by decide +kernel
theorem dl_786 : decode code 786 = .ok (.iload_n 3, 1) := by decide +kernel
theorem dl_787 : decode code 787 = .ok (.iconst 1, 1) := by decide +kernel
theorem dl_788 : decode code 788 = .ok (.iadd, 1) := by decide +kernel
theorem dl_789 : decode code 789 = .ok (.iaload, 1) := by decide +kernel
theorem dl_790 : decode code 790 = .ok (.aload_n 0, 1) := by decide +kernel
theorem dl_791 : decode code 791 = .ok (.iload_n 3, 1) := by decide +kernel
theorem dl_792 : decode code 792 = .ok (.iconst 2, 1) := by decide +kernel
theorem dl_793 : decode code 793 = .ok (.iadd, 1) := by decide +kernel
theorem dl_794 : decode code 794 = .ok (.iaload, 1) := by decide +kernel
theorem dl_795 : decode code 795 = .ok (.aload_n 0, 1) := by decide +kernel
theorem dl_796 : decode code 796 = .ok (.iload_n 3, 1) := by decide +kernel
theorem dl_797 : decode code 797 = .ok (.iconst 3, 1) := by decide +kernel
theorem dl_798 : decode code 798 = .ok (.iadd, 1) := by decide +kernel
theorem dl_799 : decode code 799 = .ok (.iaload, 1) := by decide +kernel
theorem dl_800 : decode code 800 = .ok (.aload_n 0, 1) := by decide +kernel
theorem dl_801 : decode code 801 = .ok (.iload_n 3, 1) := by decide +kernel
theorem dl_802 : decode code 802 = .ok (.iconst 4, 1) := by decide +kernel
theorem dl_803 : decode code 803 = .ok (.iadd, 1) := by decide +kernel
theorem dl_804 : decode code 804 = .ok (.iaload, 1) := by decide +kernel
theorem dl_805 : decode code 805 = .ok (.invokevirtual 108, 3) := by decide +kernel
theorem dl_808 : decode code 808 = .ok (.aload_n 2, 1) := by decide +kernel
theorem dl_809 : decode code 809 = .ok (.aload_n 0, 1) := by decide +kernel
theorem dl_810 : decode code 810 = .ok (.iload_n 3, 1) := by decide +kernel
theorem dl_811 : decode code 811 = .ok (.iconst 1, 1) := by decide +kernel
theorem dl_812 : decode code 812 = .ok (.iadd, 1) := by decide +kernel
theorem dl_813 : decode code 813 = .ok (.iaload, 1) := by decide +kernel
theorem dl_814 : decode code 814 = .ok (.aload_n 0, 1) := by decide +kernel
theorem dl_815 : decode code 815 = .ok (.iload_n 3, 1) := by decide +kernel
theorem dl_816 : decode code 816 = .ok (.iconst 2, 1) := by decide +kernel
theorem dl_817 : decode code 817 = .ok (.iadd, 1) := by decide +kernel
theorem dl_818 : decode code 818 = .ok (.iaload, 1) := by decide +kernel
theorem dl_819 : decode code 819 = .ok (.aload_n 0, 1) := by decide +kernel
theorem dl_820 : decode code 820 = .ok (.iload_n 3, 1) := by decide +kernel
theorem dl_821 : decode code 821 = .ok (.iconst 3, 1) := by decide +kernel
theorem dl_822 : decode code 822 = .ok (.iadd, 1) := by decide +kernel
theorem dl_823 : decode code 823 = .ok (.iaload, 1) := by decide +kernel
theorem dl_824 : decode code 824 = .ok (.aload_n 0, 1) := by decide +kernel
theorem dl_825 : decode code 825 = .ok (.iload_n 3, 1) := by decide +kernel
theorem dl_826 : decode code 826 = .ok (.iconst 4, 1) := by decide +kernel
theorem dl_827 : decode code 827 = .ok (.iadd, 1) := by decide +kernel
theorem dl_828 : decode code 828 = .ok (.iaload, 1) := by decide +kernel
theorem dl_829 : decode code 829 = .ok (.invokevirtual 112, 3) := by decide +kernel
theorem dl_832 : decode code 832 = .ok (.if_icmp .eq 158, 3) := by decide +kernel
theorem dl_835 : decode code 835 = .ok (.iconst 0, 1) := by decide +kernel
theorem dl_836 : decode code 836 = .ok (.ireturn, 1) := by decide +kernel
theorem dl_837 : decode code 837 = .ok (.aload_n 1, 1) := by decide +kernel
theorem dl_838 : decode code 838 = .ok (.aload_n 0, 1) := by decide +kernel
theorem dl_839 : decode code 839 = .ok (.iload_n 3, 1) := by decide +kernel
theorem dl_840 : decode code 840 = .ok (.iconst 1, 1) := by decide +kernel
theorem dl_841 : decode code 841 = .ok (.iadd, 1) := by decide +kernel
theorem dl_842 : decode code 842 = .ok (.iaload, 1) := by decide +kernel
theorem dl_843 : decode code 843 = .ok (.invokevirtual 113, 3) := by decide +kernel
theorem dl_846 : decode code 846 = .ok (.aload_n 2, 1) := by decide +kernel
theorem dl_847 : decode code 847 = .ok (.aload_n 0, 1) := by decide +kernel
theorem dl_848 : decode code 848 = .ok (.iload_n 3, 1) := by decide +kernel
theorem dl_849 : decode code 849 = .ok (.iconst 1, 1) := by decide +kernel
theorem dl_850 : decode code 850 = .ok (.iadd, 1) := by decide +kernel
theorem dl_851 : decode code 851 = .ok (.iaload, 1) := by decide +kernel
theorem dl_852 : decode code 852 = .ok (.invokevirtual 116, 3) := by decide +kernel
theorem dl_855 : decode code 855 = .ok (.if_icmp .eq 135, 3) := by decide +kernel
theorem dl_858 : decode code 858 = .ok (.iconst 0, 1) := by decide +kernel
theorem dl_859 : decode code 859 = .ok (.ireturn, 1) := by decide +kernel
theorem dl_860 : decode code 860 = .ok (.aload_n 1, 1) := by decide +kernel
theorem dl_861 : decode code 861 = .ok (.aload_n 0, 1) := by decide +kernel
theorem dl_862 : decode code 862 = .ok (.iload_n 3, 1) := by decide +kernel
theorem dl_863 : decode code 863 = .ok (.iconst 1, 1) := by decide +kernel
theorem dl_864 : decode code 864 = .ok (.iadd, 1) := by decide +kernel
theorem dl_865 : decode code 865 = .ok (.iaload, 1) := by decide +kernel
