theorem dL_law_716 : decode code 716 = .ok (.iload_n 3, 1) := by decide +kernel
theorem dL_law_717 : decode code 717 = .ok (.iconst 3, 1) := by decide +kernel
theorem dL_law_718 : decode code 718 = .ok (.iadd, 1) := by decide +kernel
theorem dL_law_719 : decode code 719 = .ok (.iaload, 1) := by decide +kernel
theorem dL_law_720 : decode code 720 = .ok (.invokevirtual 90, 3) := by decide +kernel
theorem dL_law_723 : decode code 723 = .ok (.if_icmp .eq 814, 3) := by decide +kernel
theorem dL_law_726 : decode code 726 = .ok (.iconst 0, 1) := by decide +kernel
theorem dL_law_727 : decode code 727 = .ok (.ireturn, 1) := by decide +kernel
theorem dL_law_728 : decode code 728 = .ok (.aload_n 1, 1) := by decide +kernel
theorem dL_law_729 : decode code 729 = .ok (.aload_n 0, 1) := by decide +kernel
theorem dL_law_730 : decode code 730 = .ok (.iload_n 3, 1) := by decide +kernel
theorem dL_law_731 : decode code 731 = .ok (.iconst 1, 1) := by decide +kernel
theorem dL_law_732 : decode code 732 = .ok (.iadd, 1) := by decide +kernel
theorem dL_law_733 : decode code 733 = .ok (.iaload, 1) := by decide +kernel
theorem dL_law_734 : decode code 734 = .ok (.aload_n 0, 1) := by decide +kernel
theorem dL_law_735 : decode code 735 = .ok (.iload_n 3, 1) := by decide +kernel
theorem dL_law_736 : decode code 736 = .ok (.iconst 2, 1) := by decide +kernel
theorem dL_law_737 : decode code 737 = .ok (.iadd, 1) := by decide +kernel
theorem dL_law_738 : decode code 738 = .ok (.iaload, 1) := by decide +kernel
theorem dL_law_739 : decode code 739 = .ok (.invokevirtual 91, 3) := by decide +kernel
theorem dL_law_742 : decode code 742 = .ok (.aload_n 2, 1) := by decide +kernel
theorem dL_law_743 : decode code 743 = .ok (.aload_n 0, 1) := by decide +kernel
theorem dL_law_744 : decode code 744 = .ok (.iload_n 3, 1) := by decide +kernel
theorem dL_law_745 : decode code 745 = .ok (.iconst 1, 1) := by decide +kernel
theorem dL_law_746 : decode code 746 = .ok (.iadd, 1) := by decide +kernel
theorem dL_law_747 : decode code 747 = .ok (.iaload, 1) := by decide +kernel
theorem dL_law_748 : decode code 748 = .ok (.aload_n 0, 1) := by decide +kernel
theorem dL_law_749 : decode code 749 = .ok (.iload_n 3, 1) := by decide +kernel
theorem dL_law_750 : decode code 750 = .ok (.iconst 2, 1) := by decide +kernel
theorem dL_law_751 : decode code 751 = .ok (.iadd, 1) := by decide +kernel
theorem dL_law_752 : decode code 752 = .ok (.iaload, 1) := by decide +kernel
theorem dL_law_753 : decode code 753 = .ok (.invokevirtual 94, 3) := by decide +kernel
theorem dL_law_756 : decode code 756 = .ok (.if_icmp .eq 781, 3) := by decide +kernel
theorem dL_law_759 : decode code 759 = .ok (.iconst 0, 1) := by decide +kernel
theorem dL_law_760 : decode code 760 = .ok (.ireturn, 1) := by decide +kernel
theorem dL_law_761 : decode code 761 = .ok (.aload_n 1, 1) := by decide +kernel
theorem dL_law_762 : decode code 762 = .ok (.aload_n 0, 1) := by decide +kernel
theorem dL_law_763 : decode code 763 = .ok (.iload_n 3, 1) := by decide +kernel
theorem dL_law_764 : decode code 764 = .ok (.iconst 1, 1) := by decide +kernel
theorem dL_law_765 : decode code 765 = .ok (.iadd, 1) := by decide +kernel
theorem dL_law_766 : decode code 766 = .ok (.iaload, 1) := by decide +kernel
theorem dL_law_767 : decode code 767 = .ok (.invokevirtual 95, 3) := by decide +kernel
theorem dL_law_770 : decode code 770 = .ok (.aload_n 2, 1) := by decide +kernel
theorem dL_law_771 : decode code 771 = .ok (.aload_n 0, 1) := by decide +kernel
theorem dL_law_772 : decode code 772 = .ok (.iload_n 3, 1) := by decide +kernel
theorem dL_law_773 : decode code 773 = .ok (.iconst 1, 1) := by decide +kernel
theorem dL_law_774 : decode code 774 = .ok (.iadd, 1) := by decide +kernel
theorem dL_law_775 : decode code 775 = .ok (.iaload, 1) := by decide +kernel
theorem dL_law_776 : decode code 776 = .ok (.invokevirtual 98, 3) := by decide +kernel
theorem dL_law_779 : decode code 779 = .ok (.if_icmp .eq 758, 3) := by decide +kernel
theorem dL_law_782 : decode code 782 = .ok (.iconst 0, 1) := by decide +kernel
theorem dL_law_783 : decode code 783 = .ok (.ireturn, 1) := by decide +kernel
theorem dL_law_784 : decode code 784 = .ok (.aload_n 1, 1) := by decide +kernel
theorem dL_law_785 : decode code 785 = .ok (.aload_n 0, 1) := by decide +kernel
theorem dL_law_786 : decode code 786 = .ok (.iload_n 3, 1) := by decide +kernel
theorem dL_law_787 : decode code 787 = .ok (.iconst 1, 1) := by decide +kernel
theorem dL_law_788 : decode code 788 = .ok (.iadd, 1) := by decide +kernel
theorem dL_law_789 : decode code 789 = .ok (.iaload, 1) := by decide +kernel
theorem dL_law_790 : decode code 790 = .ok (.invokevirtual 99, 3) := by decide +kernel
theorem dL_law_793 : decode code 793 = .ok (.aload_n 2, 1) := by decide +kernel
theorem dL_law_794 : decode code 794 = .ok (.aload_n 0, 1) := by decide +kernel
theorem dL_law_795 : decode code 795 = .ok (.iload_n 3, 1) := by decide +kernel
theorem dL_law_796 : decode code 796 = .ok (.iconst 1, 1) := by decide +kernel
theorem dL_law_797 : decode code 797 = .ok (.iadd, 1) := by decide +kernel
theorem dL_law_798 : decode code 798 = .ok (.iaload, 1) := by decide +kernel
theorem dL_law_799 : decode code 799 = .ok (.invokevirtual 102, 3) := by decide +kernel
theorem dL_law_802 : decode code 802 = .ok (.if_icmp .eq 735, 3) := by decide +kernel
theorem dL_law_805 : decode code 805 = .ok (.iconst 0, 1) := by decide +kernel
theorem dL_law_806 : decode code 806 = .ok (.ireturn, 1) := by decide +kernel
theorem dL_law_807 : decode code 807 = .ok (.aload_n 1, 1) := by decide +kernel
theorem dL_law_808 : decode code 808 = .ok (.aload_n 0, 1) := by decide +kernel
theorem dL_law_809 : decode code 809 = .ok (.iload_n 3, 1) := by decide +kernel
theorem dL_law_810 : decode code 810 = .ok (.iconst 1, 1) := by decide +kernel
theorem dL_law_811 : decode code 811 = .ok (.iadd, 1) := by decide +kernel
theorem dL_law_812 : decode code 812 = .ok (.iaload, 1) := by decide +kernel
theorem dL_law_813 : decode code 813 = .ok (.aload_n 0, 1) := by decide +kernel
theorem dL_law_814 : decode code 814 = .ok (.iload_n 3, 1) := by decide +kernel
theorem dL_law_815 : decode code 815 = .ok (.iconst 2, 1) := by decide +kernel
theorem dL_law_816 : decode code 816 = .ok (.iadd, 1) := by decide +kernel
theorem dL_law_817 : decode code 817 = .ok (.iaload, 1) := by decide +kernel
theorem dL_law_818 : decode code 818 = .ok (.invokevirtual 103, 3) := by decide +kernel
theorem dL_law_821 : decode code 821 = .ok (.aload_n 2, 1) := by decide +kernel
theorem dL_law_822 : decode code 822 = .ok (.aload_n 0, 1) := by decide +kernel
theorem dL_law_823 : decode code 823 = .ok (.iload_n 3, 1) := by decide +kernel
theorem dL_law_824 : decode code 824 = .ok (.iconst 1, 1) := by decide +kernel
theorem dL_law_825 : decode code 825 = .ok (.iadd, 1) := by decide +kernel
theorem dL_law_826 : decode code 826 = .ok (.iaload, 1) := by decide +kernel
theorem dL_law_827 : decode code 827 = .ok (.aload_n 0, 1) := by decide +kernel
theorem dL_law_828 : decode code 828 = .ok (.iload_n 3, 1) := by decide +kernel
theorem dL_law_829 : decode code 829 = .ok (.iconst 2, 1) := by decide +kernel
theorem dL_law_830 : decode code 830 = .ok (.iadd, 1) := by decide +kernel
theorem dL_law_831 : decode code 831 = .ok (.iaload, 1) := by decide +kernel
theorem dL_law_832 : decode code 832 = .ok (.invokevirtual 106, 3) := by decide +kernel
theorem dL_law_835 : decode code 835 = .ok (.if_icmp .eq 702, 3) := by decide +kernel
theorem dL_law_838 : decode code 838 = .ok (.iconst 0, 1) := by decide +kernel
theorem dL_law_839 : decode code 839 = .ok (.ireturn, 1) := by decide +kernel
theorem dL_law_840 : decode code 840 = .ok (.aload_n 1, 1) := by decide +kernel
theorem dL_law_841 : decode code 841 = .ok (.aload_n 0, 1) := by decide +kernel
theorem dL_law_842 : decode code 842 = .ok (.iload_n 3, 1) := by decide +kernel
theorem dL_law_843 : decode code 843 = .ok (.iconst 1, 1) := by decide +kernel
theorem dL_law_844 : decode code 844 = .ok (.iadd, 1) := by decide +kernel
theorem dL_law_845 : decode code 845 = .ok (.iaload, 1) := by decide +kernel
theorem dL_law_846 : decode code 846 = .ok (.aload_n 0, 1) := by decide +kernel
theorem dL_law_847 : decode code 847 = .ok (.iload_n 3, 1) := by decide +kernel
theorem dL_law_848 : decode code 848 = .ok (.iconst 2, 1) := by decide +kernel
theorem dL_law_849 : decode code 849 = .ok (.iadd, 1) := by decide +kernel
theorem dL_law_850 : decode code 850 = .ok (.iaload, 1) := by decide +kernel
theorem dL_law_851 : decode code 851 = .ok (.invokevirtual 107, 3) := by decide +kernel
theorem dL_law_854 : decode code 854 = .ok (.aload_n 2, 1) := by decide +kernel
theorem dL_law_855 : decode code 855 = .ok (.aload_n 0, 1) := by decide +kernel
theorem dL_law_856 : decode code 856 = .ok (.iload_n 3, 1) := by decide +kernel
theorem dL_law_857 : decode code 857 = .ok (.iconst 1, 1) := by decide +kernel
theorem dL_law_858 : decode code 858 = .ok (.iadd, 1) := by decide +kernel
theorem dL_law_859 : decode code 859 = .ok (.iaload, 1) := by decide +kernel
theorem dL_law_860 : decode code 860 = .ok (.aload_n 0, 1) := by decide +kernel
theorem dL_law_861 : decode code 861 = .ok (.iload_n 3, 1) := by decide +kernel
theorem dL_law_862 : decode code 862 = .ok (.iconst 2, 1) := by decide +kernel
theorem dL_law_863 : decode code 863 = .ok (.iadd, 1) := by decide +kernel
theorem dL_law_864 : decode code 864 = .ok (.iaload, 1) := by decide +kernel
theorem dL_law_865 : decode code 865 = .ok (.invokevirtual 110, 3) := by decide +kernel
theorem dL_law_868 : decode code 868 = .ok (.if_icmp .eq 669, 3) := by decide +kernel
theorem dL_law_871 : decode code 871 = .ok (.iconst 0, 1) := by decide +kernel
theorem dL_law_872 : decode code 872 = .ok (.ireturn, 1) := by decide +kernel
theorem dL_law_873 : decode code 873 = .ok (.aload_n 1, 1) := by decide +kernel
theorem dL_law_874 : decode code 874 = .ok (.aload_n 0, 1) := by decide +kernel
theorem dL_law_875 : decode code 875 = .ok (.iload_n 3, 1) := by decide +kernel
theorem dL_law_876 : decode code 876 = .ok (.iconst 1, 1) := by decide +kernel
theorem dL_law_877 : decode code 877 = .ok (.iadd, 1) := by decide +kernel
theorem dL_law_878 : decode code 878 = .ok (.iaload, 1) := by decide +kernel
theorem dL_law_879 : decode code 879 = .ok (.aload_n 0, 1) := by decide +kernel
