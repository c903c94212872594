/-! ===== 52: the law: decode rows (written by program) ===== -/
theorem zd_L_692 : decode code 692 = .ok (.aload_n 0, 1) := by decide +kernel
theorem zd_L_693 : decode code 693 = .ok (.iload_n 3, 1) := by decide +kernel
theorem zd_L_694 : decode code 694 = .ok (.iconst 1, 1) := by decide +kernel
theorem zd_L_695 : decode code 695 = .ok (.iadd, 1) := by decide +kernel
theorem zd_L_696 : decode code 696 = .ok (.iaload, 1) := by decide +kernel
theorem zd_L_697 : decode code 697 = .ok (.aload_n 0, 1) := by decide +kernel
theorem zd_L_698 : decode code 698 = .ok (.iload_n 3, 1) := by decide +kernel
theorem zd_L_699 : decode code 699 = .ok (.iconst 2, 1) := by decide +kernel
theorem zd_L_700 : decode code 700 = .ok (.iadd, 1) := by decide +kernel
theorem zd_L_701 : decode code 701 = .ok (.iaload, 1) := by decide +kernel
theorem zd_L_702 : decode code 702 = .ok (.aload_n 0, 1) := by decide +kernel
theorem zd_L_703 : decode code 703 = .ok (.iload_n 3, 1) := by decide +kernel
theorem zd_L_704 : decode code 704 = .ok (.iconst 3, 1) := by decide +kernel
theorem zd_L_705 : decode code 705 = .ok (.iadd, 1) := by decide +kernel
theorem zd_L_706 : decode code 706 = .ok (.iaload, 1) := by decide +kernel
theorem zd_L_707 : decode code 707 = .ok (.invokevirtual 92, 3) := by decide +kernel
theorem zd_L_710 : decode code 710 = .ok (.aload_n 2, 1) := by decide +kernel
theorem zd_L_711 : decode code 711 = .ok (.aload_n 0, 1) := by decide +kernel
theorem zd_L_712 : decode code 712 = .ok (.iload_n 3, 1) := by decide +kernel
theorem zd_L_713 : decode code 713 = .ok (.iconst 1, 1) := by decide +kernel
theorem zd_L_714 : decode code 714 = .ok (.iadd, 1) := by decide +kernel
theorem zd_L_715 : decode code 715 = .ok (.iaload, 1) := by decide +kernel
theorem zd_L_716 : decode code 716 = .ok (.aload_n 0, 1) := by decide +kernel
theorem zd_L_717 : decode code 717 = .ok (.iload_n 3, 1) := by decide +kernel
theorem zd_L_718 : decode code 718 = .ok (.iconst 2, 1) := by decide +kernel
theorem zd_L_719 : decode code 719 = .ok (.iadd, 1) := by decide +kernel
theorem zd_L_720 : decode code 720 = .ok (.iaload, 1) := by decide +kernel
theorem zd_L_721 : decode code 721 = .ok (.aload_n 0, 1) := by decide +kernel
theorem zd_L_722 : decode code 722 = .ok (.iload_n 3, 1) := by decide +kernel
theorem zd_L_723 : decode code 723 = .ok (.iconst 3, 1) := by decide +kernel
theorem zd_L_724 : decode code 724 = .ok (.iadd, 1) := by decide +kernel
theorem zd_L_725 : decode code 725 = .ok (.iaload, 1) := by decide +kernel
theorem zd_L_726 : decode code 726 = .ok (.invokevirtual 95, 3) := by decide +kernel
theorem zd_L_729 : decode code 729 = .ok (.if_icmp .eq 240, 3) := by decide +kernel
theorem zd_L_732 : decode code 732 = .ok (.iconst 0, 1) := by decide +kernel
theorem zd_L_733 : decode code 733 = .ok (.ireturn, 1) := by decide +kernel
theorem zd_L_734 : decode code 734 = .ok (.aload_n 1, 1) := by decide +kernel
theorem zd_L_735 : decode code 735 = .ok (.aload_n 0, 1) := by decide +kernel
theorem zd_L_736 : decode code 736 = .ok (.iload_n 3, 1) := by decide +kernel
theorem zd_L_737 : decode code 737 = .ok (.iconst 1, 1) := by decide +kernel
theorem zd_L_738 : decode code 738 = .ok (.iadd, 1) := by decide +kernel
theorem zd_L_739 : decode code 739 = .ok (.iaload, 1) := by decide +kernel
theorem zd_L_740 : decode code 740 = .ok (.aload_n 0, 1) := by decide +kernel
theorem zd_L_741 : decode code 741 = .ok (.iload_n 3, 1) := by decide +kernel
theorem zd_L_742 : decode code 742 = .ok (.iconst 2, 1) := by decide +kernel
theorem zd_L_743 : decode code 743 = .ok (.iadd, 1) := by decide +kernel
theorem zd_L_744 : decode code 744 = .ok (.iaload, 1) := by decide +kernel
theorem zd_L_745 : decode code 745 = .ok (.aload_n 0, 1) := by decide +kernel
theorem zd_L_746 : decode code 746 = .ok (.iload_n 3, 1) := by decide +kernel
theorem zd_L_747 : decode code 747 = .ok (.iconst 3, 1) := by decide +kernel
theorem zd_L_748 : decode code 748 = .ok (.iadd, 1) := by decide +kernel
theorem zd_L_749 : decode code 749 = .ok (.iaload, 1) := by decide +kernel
theorem zd_L_750 : decode code 750 = .ok (.invokevirtual 96, 3) := by decide +kernel
theorem zd_L_753 : decode code 753 = .ok (.aload_n 2, 1) := by decide +kernel
theorem zd_L_754 : decode code 754 = .ok (.aload_n 0, 1) := by decide +kernel
theorem zd_L_755 : decode code 755 = .ok (.iload_n 3, 1) := by decide +kernel
theorem zd_L_756 : decode code 756 = .ok (.iconst 1, 1) := by decide +kernel
theorem zd_L_757 : decode code 757 = .ok (.iadd, 1) := by decide +kernel
theorem zd_L_758 : decode code 758 = .ok (.iaload, 1) := by decide +kernel
theorem zd_L_759 : decode code 759 = .ok (.aload_n 0, 1) := by decide +kernel
theorem zd_L_760 : decode code 760 = .ok (.iload_n 3, 1) := by decide +kernel
theorem zd_L_761 : decode code 761 = .ok (.iconst 2, 1) := by decide +kernel
theorem zd_L_762 : decode code 762 = .ok (.iadd, 1) := by decide +kernel
theorem zd_L_763 : decode code 763 = .ok (.iaload, 1) := by decide +kernel
theorem zd_L_764 : decode code 764 = .ok (.aload_n 0, 1) := by decide +kernel
theorem zd_L_765 : decode code 765 = .ok (.iload_n 3, 1) := by decide +kernel
theorem zd_L_766 : decode code 766 = .ok (.iconst 3, 1) := by decide +kernel
theorem zd_L_767 : decode code 767 = .ok (.iadd, 1) := by decide +kernel
theorem zd_L_768 : decode code 768 = .ok (.iaload, 1) := by decide +kernel
theorem zd_L_769 : decode code 769 = .ok (.invokevirtual 100, 3) := by decide +kernel
theorem zd_L_772 : decode code 772 = .ok (.lcmp, 1) := by decide +kernel
theorem zd_L_773 : decode code 773 = .ok (.ifCond .eq 196, 3) := by decide +kernel
theorem zd_L_776 : decode code 776 = .ok (.iconst 0, 1) := by decide +kernel
theorem zd_L_777 : decode code 777 = .ok (.ireturn, 1) := by decide +kernel
theorem zd_L_778 : decode code 778 = .ok (.aload_n 1, 1) := by decide +kernel
theorem zd_L_779 : decode code 779 = .ok (.aload_n 0, 1) := by decide +kernel
theorem zd_L_780 : decode code 780 = .ok (.iload_n 3, 1) := by decide +kernel
theorem zd_L_781 : decode code 781 = .ok (.iconst 1, 1) := by decide +kernel
theorem zd_L_782 : decode code 782 = .ok (.iadd, 1) := by decide +kernel
theorem zd_L_783 : decode code 783 = .ok (.iaload, 1) := by decide +kernel
theorem zd_L_784 : decode code 784 = .ok (.aload_n 0, 1) := by decide +kernel
theorem zd_L_785 : decode code 785 = .ok (.iload_n 3, 1) := by decide +kernel
theorem zd_L_786 : decode code 786 = .ok (.iconst 2, 1) := by decide +kernel
theorem zd_L_787 : decode code 787 = .ok (.iadd, 1) := by decide +kernel
theorem zd_L_788 : decode code 788 = .ok (.iaload, 1) := by decide +kernel
theorem zd_L_789 : decode code 789 = .ok (.aload_n 0, 1) := by decide +kernel
theorem zd_L_790 : decode code 790 = .ok (.iload_n 3, 1) := by decide +kernel
theorem zd_L_791 : decode code 791 = .ok (.iconst 3, 1) := by decide +kernel
theorem zd_L_792 : decode code 792 = .ok (.iadd, 1) := by decide +kernel
theorem zd_L_793 : decode code 793 = .ok (.iaload, 1) := by decide +kernel
theorem zd_L_794 : decode code 794 = .ok (.aload_n 0, 1) := by decide +kernel
theorem zd_L_795 : decode code 795 = .ok (.iload_n 3, 1) := by decide +kernel
theorem zd_L_796 : decode code 796 = .ok (.iconst 4, 1) := by decide +kernel
theorem zd_L_797 : decode code 797 = .ok (.iadd, 1) := by decide +kernel
theorem zd_L_798 : decode code 798 = .ok (.iaload, 1) := by decide +kernel
theorem zd_L_799 : decode code 799 = .ok (.aload_n 0, 1) := by decide +kernel
theorem zd_L_800 : decode code 800 = .ok (.iload_n 3, 1) := by decide +kernel
theorem zd_L_801 : decode code 801 = .ok (.iconst 5, 1) := by decide +kernel
theorem zd_L_802 : decode code 802 = .ok (.iadd, 1) := by decide +kernel
theorem zd_L_803 : decode code 803 = .ok (.iaload, 1) := by decide +kernel
theorem zd_L_804 : decode code 804 = .ok (.invokevirtual 101, 3) := by decide +kernel
theorem zd_L_807 : decode code 807 = .ok (.aload_n 2, 1) := by decide +kernel
theorem zd_L_808 : decode code 808 = .ok (.aload_n 0, 1) := by decide +kernel
theorem zd_L_809 : decode code 809 = .ok (.iload_n 3, 1) := by decide +kernel
theorem zd_L_810 : decode code 810 = .ok (.iconst 1, 1) := by decide +kernel
theorem zd_L_811 : decode code 811 = .ok (.iadd, 1) := by decide +kernel
theorem zd_L_812 : decode code 812 = .ok (.iaload, 1) := by decide +kernel
theorem zd_L_813 : decode code 813 = .ok (.aload_n 0, 1) := by decide +kernel
theorem zd_L_814 : decode code 814 = .ok (.iload_n 3, 1) := by decide +kernel
theorem zd_L_815 : decode code 815 = .ok (.iconst 2, 1) := by decide +kernel
theorem zd_L_816 : decode code 816 = .ok (.iadd, 1) := by decide +kernel
theorem zd_L_817 : decode code 817 = .ok (.iaload, 1) := by decide +kernel
theorem zd_L_818 : decode code 818 = .ok (.aload_n 0, 1) := by decide +kernel
theorem zd_L_819 : decode code 819 = .ok (.iload_n 3, 1) := by decide +kernel
theorem zd_L_820 : decode code 820 = .ok (.iconst 3, 1) := by decide +kernel
theorem zd_L_821 : decode code 821 = .ok (.iadd, 1) := by decide +kernel
theorem zd_L_822 : decode code 822 = .ok (.iaload, 1) := by decide +kernel
theorem zd_L_823 : decode code 823 = .ok (.aload_n 0, 1) := by decide +kernel
theorem zd_L_824 : decode code 824 = .ok (.iload_n 3, 1) := by decide +kernel
theorem zd_L_825 : decode code 825 = .ok (.iconst 4, 1) := by decide +kernel
theorem zd_L_826 : decode code 826 = .ok (.iadd, 1) := by decide +kernel
theorem zd_L_827 : decode code 827 = .ok (.iaload, 1) := by decide +kernel
theorem zd_L_828 : decode code 828 = .ok (.aload_n 0, 1) := by decide +kernel
theorem zd_L_829 : decode code 829 = .ok (.iload_n 3, 1) := by decide +kernel
theorem zd_L_830 : decode code 830 = .ok (.iconst 5, 1) := by decide +kernel
theorem zd_L_831 : decode code 831 = .ok (.iadd, 1) := by decide +kernel
theorem zd_L_832 : decode code 832 = .ok (.iaload, 1) := by decide +kernel
theorem zd_L_833 : decode code 833 = .ok (.invokevirtual 104, 3) := by decide +kernel
theorem zd_L_836 : decode code 836 = .ok (.if_icmp .eq 133, 3) := by decide +kernel
theorem zd_L_839 : decode code 839 = .ok (.iconst 0, 1) := by decide +kernel
theorem zd_L_840 : decode code 840 = .ok (.ireturn, 1) := by decide +kernel
theorem zd_L_841 : decode code 841 = .ok (.aload_n 1, 1) := by decide +kernel
theorem zd_L_842 : decode code 842 = .ok (.aload_n 0, 1) := by decide +kernel
theorem zd_L_843 : decode code 843 = .ok (.iload_n 3, 1) := by decide +kernel
theorem zd_L_844 : decode code 844 = .ok (.iconst 1, 1) := by decide +kernel
theorem zd_L_845 : decode code 845 = .ok (.iadd, 1) := by decide +kernel
theorem zd_L_846 : decode code 846 = .ok (.iaload, 1) := by decide +kernel
theorem zd_L_847 : decode code 847 = .ok (.invokevirtual 105, 3) := by decide +kernel
theorem zd_L_850 : decode code 850 = .ok (.aload_n 2, 1) := by decide +kernel
theorem zd_L_851 : decode code 851 = .ok (.aload_n 0, 1) := by decide +kernel
theorem zd_L_852 : decode code 852 = .ok (.iload_n 3, 1) := by decide +kernel
theorem zd_L_853 : decode code 853 = .ok (.iconst 1, 1) := by decide +kernel
theorem zd_L_854 : decode code 854 = .ok (.iadd, 1) := by decide +kernel
theorem zd_L_855 : decode code 855 = .ok (.iaload, 1) := by decide +kernel
theorem zd_L_856 : decode code 856 = .ok (.invokevirtual 108, 3) := by decide +kernel
theorem zd_L_859 : decode code 859 = .ok (.if_icmp .eq 110, 3) := by decide +kernel
theorem zd_L_862 : decode code 862 = .ok (.iconst 0, 1) := by decide +kernel
theorem zd_L_863 : decode code 863 = .ok (.ireturn, 1) := by decide +kernel
theorem zd_L_864 : decode code 864 = .ok (.aload_n 1, 1) := by decide +kernel
theorem zd_L_865 : decode code 865 = .ok (.aload_n 0, 1) := by decide +kernel
theorem zd_L_866 : decode code 866 = .ok (.iload_n 3, 1) := by decide +kernel
theorem zd_L_867 : decode code 867 = .ok (.iconst 1, 1) := by decide +kernel
theorem zd_L_868 : decode code 868 = .ok (.iadd, 1) := by decide +kernel
theorem zd_L_869 : decode code 869 = .ok (.iaload, 1) := by decide +kernel
theorem zd_L_870 : decode code 870 = .ok (.invokevirtual 109, 3) := by decide +kernel
theorem zd_L_873 : decode code 873 = .ok (.aload_n 2, 1) := by decide +kernel
theorem zd_L_874 : decode code 874 = .ok (.aload_n 0, 1) := by decide +kernel
theorem zd_L_875 : decode code 875 = .ok (.iload_n 3, 1) := by decide +kernel
theorem zd_L_876 : decode code 876 = .ok (.iconst 1, 1) := by decide +kernel
theorem zd_L_877 : decode code 877 = .ok (.iadd, 1) := by decide +kernel
theorem zd_L_878 : decode code 878 = .ok (.iaload, 1) := by decide +kernel
theorem zd_L_879 : decode code 879 = .ok (.invokevirtual 112, 3) := by decide +kernel
theorem zd_L_882 : decode code 882 = .ok (.if_icmp .eq 87, 3) := by decide +kernel
theorem zd_L_885 : decode code 885 = .ok (.iconst 0, 1) := by decide +kernel
theorem zd_L_886 : decode code 886 = .ok (.ireturn, 1) := by decide +kernel
theorem zd_L_887 : decode code 887 = .ok (.aload_n 1, 1) := by decide +kernel
theorem zd_L_888 : decode code 888 = .ok (.aload_n 0, 1) := by decide +kernel
theorem zd_L_889 : decode code 889 = .ok (.iload_n 3, 1) := by decide +kernel
theorem zd_L_890 : decode code 890 = .ok (.iconst 1, 1) := by decide +kernel
theorem zd_L_891 : decode code 891 = .ok (.iadd, 1) := by decide +kernel
theorem zd_L_892 : decode code 892 = .ok (.iaload, 1) := by decide +kernel
theorem zd_L_893 : decode code 893 = .ok (.aload_n 0, 1) := by decide +kernel
theorem zd_L_894 : decode code 894 = .ok (.iload_n 3, 1) := by decide +kernel
theorem zd_L_895 : decode code 895 = .ok (.iconst 2, 1) := by decide +kernel
theorem zd_L_896 : decode code 896 = .ok (.iadd, 1) := by decide +kernel
theorem zd_L_897 : decode code 897 = .ok (.iaload, 1) := by decide +kernel
theorem zd_L_898 : decode code 898 = .ok (.invokevirtual 113, 3) := by decide +kernel
theorem zd_L_901 : decode code 901 = .ok (.aload_n 2, 1) := by decide +kernel
theorem zd_L_902 : decode code 902 = .ok (.aload_n 0, 1) := by decide +kernel
theorem zd_L_903 : decode code 903 = .ok (.iload_n 3, 1) := by decide +kernel
theorem zd_L_904 : decode code 904 = .ok (.iconst 1, 1) := by decide +kernel
theorem zd_L_905 : decode code 905 = .ok (.iadd, 1) := by decide +kernel
theorem zd_L_906 : decode code 906 = .ok (.iaload, 1) := by decide +kernel
theorem zd_L_907 : decode code 907 = .ok (.aload_n 0, 1) := by decide +kernel
theorem zd_L_908 : decode code 908 = .ok (.iload_n 3, 1) := by decide +kernel
theorem zd_L_909 : decode code 909 = .ok (.iconst 2, 1) := by decide +kernel
theorem zd_L_910 : decode code 910 = .ok (.iadd, 1) := by decide +kernel
theorem zd_L_911 : decode code 911 = .ok (.iaload, 1) := by decide +kernel
theorem zd_L_912 : decode code 912 = .ok (.invokevirtual 116, 3) := by decide +kernel
theorem zd_L_915 : decode code 915 = .ok (.if_icmp .eq 54, 3) := by decide +kernel
theorem zd_L_918 : decode code 918 = .ok (.iconst 0, 1) := by decide +kernel
theorem zd_L_919 : decode code 919 = .ok (.ireturn, 1) := by decide +kernel
theorem zd_L_920 : decode code 920 = .ok (.aload_n 1, 1) := by decide +kernel
theorem zd_L_921 : decode code 921 = .ok (.invokevirtual 117, 3) := by decide +kernel
theorem zd_L_924 : decode code 924 = .ok (.aload_n 2, 1) := by decide +kernel
theorem zd_L_925 : decode code 925 = .ok (.invokevirtual 120, 3) := by decide +kernel
theorem zd_L_928 : decode code 928 = .ok (.if_icmp .eq 41, 3) := by decide +kernel
theorem zd_L_931 : decode code 931 = .ok (.iconst 0, 1) := by decide +kernel
theorem zd_L_932 : decode code 932 = .ok (.ireturn, 1) := by decide +kernel
theorem zd_L_933 : decode code 933 = .ok (.aload_n 1, 1) := by decide +kernel
theorem zd_L_934 : decode code 934 = .ok (.invokevirtual 121, 3) := by decide +kernel
theorem zd_L_937 : decode code 937 = .ok (.aload_n 2, 1) := by decide +kernel
theorem zd_L_938 : decode code 938 = .ok (.invokevirtual 124, 3) := by decide +kernel
theorem zd_L_941 : decode code 941 = .ok (.if_icmp .eq 28, 3) := by decide +kernel
theorem zd_L_944 : decode code 944 = .ok (.iconst 0, 1) := by decide +kernel
theorem zd_L_945 : decode code 945 = .ok (.ireturn, 1) := by decide +kernel
theorem zd_L_946 : decode code 946 = .ok (.aload_n 1, 1) := by decide +kernel
theorem zd_L_947 : decode code 947 = .ok (.aload_n 0, 1) := by decide +kernel
theorem zd_L_948 : decode code 948 = .ok (.iload_n 3, 1) := by decide +kernel
theorem zd_L_949 : decode code 949 = .ok (.iconst 1, 1) := by decide +kernel
theorem zd_L_950 : decode code 950 = .ok (.iadd, 1) := by decide +kernel
theorem zd_L_951 : decode code 951 = .ok (.iaload, 1) := by decide +kernel
theorem zd_L_952 : decode code 952 = .ok (.invokevirtual 125, 3) := by decide +kernel
theorem zd_L_955 : decode code 955 = .ok (.aload_n 2, 1) := by decide +kernel
theorem zd_L_956 : decode code 956 = .ok (.aload_n 0, 1) := by decide +kernel
theorem zd_L_957 : decode code 957 = .ok (.iload_n 3, 1) := by decide +kernel
theorem zd_L_958 : decode code 958 = .ok (.iconst 1, 1) := by decide +kernel
theorem zd_L_959 : decode code 959 = .ok (.iadd, 1) := by decide +kernel
theorem zd_L_960 : decode code 960 = .ok (.iaload, 1) := by decide +kernel
theorem zd_L_961 : decode code 961 = .ok (.invokevirtual 128, 3) := by decide +kernel
theorem zd_L_964 : decode code 964 = .ok (.if_icmp .eq 5, 3) := by decide +kernel
theorem zd_L_967 : decode code 967 = .ok (.iconst 0, 1) := by decide +kernel
theorem zd_L_968 : decode code 968 = .ok (.ireturn, 1) := by decide +kernel
theorem zd_L_969 : decode code 969 = .ok (.iinc 3 6, 3) := by decide +kernel
theorem zd_L_972 : decode code 972 = .ok (.goto (-954), 3) := by decide +kernel
theorem zd_L_975 : decode code 975 = .ok (.iconst 1, 1) := by decide +kernel
theorem zd_L_976 : decode code 976 = .ok (.ireturn, 1) := by decide +kernel
theorem zlw_1 : Cond.initialized "NeedOnce" ∈ nk_GT := nk_tm 1 (by decide +kernel) rfl
theorem zlw_7 : Cond.initialized "NeedOnceModel" ∈ nk_GT := nk_tm 7 (by decide +kernel) rfl
theorem zlw_169 : Cond.methodLink "NeedOnceLaw" 13 zy_N_heap ∈ nk_GT := nk_tm 169 (by decide +kernel) rfl
theorem zlw_170 : Cond.instanceMethod zy_N_heap ∈ nk_GT := nk_tm 170 (by decide +kernel) rfl
theorem zlw_171 : Cond.selects "NeedOnce" zy_N_heap zy_N_heap ∈ nk_GT := nk_tm 171 (by decide +kernel) rfl
set_option maxRecDepth 100000 in
theorem zlw_172 : Cond.code zy_N_heap zb_N_heap 8 (some .int) ∈ nk_GT := nk_tm 172 rfl rfl
theorem zlw_261 : Cond.methodLink "NeedOnceLaw" 18 zy_N_ofCell ∈ nk_GT := nk_tm 261 (by decide +kernel) rfl
theorem zlw_262 : Cond.instanceMethod zy_N_ofCell ∈ nk_GT := nk_tm 262 (by decide +kernel) rfl
theorem zlw_263 : Cond.selects "NeedOnce" zy_N_ofCell zy_N_ofCell ∈ nk_GT := nk_tm 263 (by decide +kernel) rfl
set_option maxRecDepth 100000 in
theorem zlw_264 : Cond.code zy_N_ofCell zb_N_ofCell 3 (some .int) ∈ nk_GT := nk_tm 264 rfl rfl
theorem zlw_282 : Cond.methodLink "NeedOnceLaw" 23 zy_N_price ∈ nk_GT := nk_tm 282 (by decide +kernel) rfl
theorem zlw_283 : Cond.instanceMethod zy_N_price ∈ nk_GT := nk_tm 283 (by decide +kernel) rfl
theorem zlw_284 : Cond.selects "NeedOnce" zy_N_price zy_N_price ∈ nk_GT := nk_tm 284 (by decide +kernel) rfl
set_option maxRecDepth 100000 in
theorem zlw_285 : Cond.code zy_N_price zb_N_price 4 (some .int) ∈ nk_GT := nk_tm 285 rfl rfl
theorem zlw_286 : Cond.methodLink "NeedOnceLaw" 27 zy_N_need ∈ nk_GT := nk_tm 286 (by decide +kernel) rfl
theorem zlw_287 : Cond.instanceMethod zy_N_need ∈ nk_GT := nk_tm 287 (by decide +kernel) rfl
theorem zlw_288 : Cond.selects "NeedOnce" zy_N_need zy_N_need ∈ nk_GT := nk_tm 288 (by decide +kernel) rfl
set_option maxRecDepth 100000 in
theorem zlw_289 : Cond.code zy_N_need zb_N_need 2 (some .int) ∈ nk_GT := nk_tm 289 rfl rfl
theorem zlw_341 : Cond.methodLink "NeedOnceLaw" 32 zy_N_latest ∈ nk_GT := nk_tm 341 (by decide +kernel) rfl
theorem zlw_342 : Cond.instanceMethod zy_N_latest ∈ nk_GT := nk_tm 342 (by decide +kernel) rfl
theorem zlw_343 : Cond.selects "NeedOnce" zy_N_latest zy_N_latest ∈ nk_GT := nk_tm 343 (by decide +kernel) rfl
set_option maxRecDepth 100000 in
theorem zlw_344 : Cond.code zy_N_latest zb_N_latest 3 (some .int) ∈ nk_GT := nk_tm 344 rfl rfl
theorem zlw_345 : Cond.methodLink "NeedOnceLaw" 36 zy_N_spent ∈ nk_GT := nk_tm 345 (by decide +kernel) rfl
theorem zlw_346 : Cond.instanceMethod zy_N_spent ∈ nk_GT := nk_tm 346 (by decide +kernel) rfl
theorem zlw_347 : Cond.selects "NeedOnce" zy_N_spent zy_N_spent ∈ nk_GT := nk_tm 347 (by decide +kernel) rfl
set_option maxRecDepth 100000 in
theorem zlw_348 : Cond.code zy_N_spent zb_N_spent 1 (some .int) ∈ nk_GT := nk_tm 348 rfl rfl
theorem zlw_349 : Cond.methodLink "NeedOnceLaw" 41 zy_N_sleep ∈ nk_GT := nk_tm 349 (by decide +kernel) rfl
theorem zlw_350 : Cond.instanceMethod zy_N_sleep ∈ nk_GT := nk_tm 350 (by decide +kernel) rfl
theorem zlw_351 : Cond.selects "NeedOnce" zy_N_sleep zy_N_sleep ∈ nk_GT := nk_tm 351 (by decide +kernel) rfl
set_option maxRecDepth 100000 in
theorem zlw_352 : Cond.code zy_N_sleep zb_N_sleep 2 (some .int) ∈ nk_GT := nk_tm 352 rfl rfl
theorem zlw_358 : Cond.methodLink "NeedOnceLaw" 45 zy_N_shorten ∈ nk_GT := nk_tm 358 (by decide +kernel) rfl
theorem zlw_359 : Cond.instanceMethod zy_N_shorten ∈ nk_GT := nk_tm 359 (by decide +kernel) rfl
theorem zlw_360 : Cond.selects "NeedOnce" zy_N_shorten zy_N_shorten ∈ nk_GT := nk_tm 360 (by decide +kernel) rfl
set_option maxRecDepth 100000 in
theorem zlw_361 : Cond.code zy_N_shorten zb_N_shorten 1 (some .int) ∈ nk_GT := nk_tm 361 rfl rfl
theorem zlw_370 : Cond.methodLink "NeedOnceLaw" 49 zy_N_held ∈ nk_GT := nk_tm 370 (by decide +kernel) rfl
theorem zlw_371 : Cond.instanceMethod zy_N_held ∈ nk_GT := nk_tm 371 (by decide +kernel) rfl
theorem zlw_372 : Cond.selects "NeedOnce" zy_N_held zy_N_held ∈ nk_GT := nk_tm 372 (by decide +kernel) rfl
set_option maxRecDepth 100000 in
theorem zlw_373 : Cond.code zy_N_held zb_N_held 2 (some .int) ∈ nk_GT := nk_tm 373 rfl rfl
theorem zlw_382 : Cond.methodLink "NeedOnceLaw" 53 zy_N_plainly ∈ nk_GT := nk_tm 382 (by decide +kernel) rfl
theorem zlw_383 : Cond.instanceMethod zy_N_plainly ∈ nk_GT := nk_tm 383 (by decide +kernel) rfl
theorem zlw_384 : Cond.selects "NeedOnce" zy_N_plainly zy_N_plainly ∈ nk_GT := nk_tm 384 (by decide +kernel) rfl
set_option maxRecDepth 100000 in
theorem zlw_385 : Cond.code zy_N_plainly zb_N_plainly 2 (some .int) ∈ nk_GT := nk_tm 385 rfl rfl
theorem zlw_391 : Cond.methodLink "NeedOnceLaw" 57 zy_N_day ∈ nk_GT := nk_tm 391 (by decide +kernel) rfl
theorem zlw_392 : Cond.instanceMethod zy_N_day ∈ nk_GT := nk_tm 392 (by decide +kernel) rfl
theorem zlw_393 : Cond.selects "NeedOnce" zy_N_day zy_N_day ∈ nk_GT := nk_tm 393 (by decide +kernel) rfl
set_option maxRecDepth 100000 in
theorem zlw_394 : Cond.code zy_N_day zb_N_day 8 (some .int) ∈ nk_GT := nk_tm 394 rfl rfl
theorem zlw_422 : Cond.methodLink "NeedOnceLaw" 62 zy_N_reading ∈ nk_GT := nk_tm 422 (by decide +kernel) rfl
theorem zlw_423 : Cond.instanceMethod zy_N_reading ∈ nk_GT := nk_tm 423 (by decide +kernel) rfl
theorem zlw_424 : Cond.selects "NeedOnce" zy_N_reading zy_N_reading ∈ nk_GT := nk_tm 424 (by decide +kernel) rfl
set_option maxRecDepth 100000 in
theorem zlw_425 : Cond.code zy_N_reading zb_N_reading 3 (some .int) ∈ nk_GT := nk_tm 425 rfl rfl
theorem zlw_430 : Cond.methodLink "NeedOnceLaw" 66 zy_N_back ∈ nk_GT := nk_tm 430 (by decide +kernel) rfl
theorem zlw_431 : Cond.instanceMethod zy_N_back ∈ nk_GT := nk_tm 431 (by decide +kernel) rfl
theorem zlw_432 : Cond.selects "NeedOnce" zy_N_back zy_N_back ∈ nk_GT := nk_tm 432 (by decide +kernel) rfl
set_option maxRecDepth 100000 in
theorem zlw_433 : Cond.code zy_N_back zb_N_back 2 (some .int) ∈ nk_GT := nk_tm 433 rfl rfl
theorem zlw_434 : Cond.methodLink "NeedOnceLaw" 70 zy_N_kinds ∈ nk_GT := nk_tm 434 (by decide +kernel) rfl
theorem zlw_435 : Cond.instanceMethod zy_N_kinds ∈ nk_GT := nk_tm 435 (by decide +kernel) rfl
theorem zlw_436 : Cond.selects "NeedOnce" zy_N_kinds zy_N_kinds ∈ nk_GT := nk_tm 436 (by decide +kernel) rfl
set_option maxRecDepth 100000 in
theorem zlw_437 : Cond.code zy_N_kinds zb_N_kinds 4 (some .int) ∈ nk_GT := nk_tm 437 rfl rfl
theorem zlw_446 : Cond.methodLink "NeedOnceLaw" 74 zy_N_prices ∈ nk_GT := nk_tm 446 (by decide +kernel) rfl
theorem zlw_447 : Cond.instanceMethod zy_N_prices ∈ nk_GT := nk_tm 447 (by decide +kernel) rfl
theorem zlw_448 : Cond.selects "NeedOnce" zy_N_prices zy_N_prices ∈ nk_GT := nk_tm 448 (by decide +kernel) rfl
set_option maxRecDepth 100000 in
theorem zlw_449 : Cond.code zy_N_prices zb_N_prices 4 (some .int) ∈ nk_GT := nk_tm 449 rfl rfl
theorem zlw_450 : Cond.methodLink "NeedOnceLaw" 78 zy_N_odds ∈ nk_GT := nk_tm 450 (by decide +kernel) rfl
theorem zlw_451 : Cond.instanceMethod zy_N_odds ∈ nk_GT := nk_tm 451 (by decide +kernel) rfl
theorem zlw_452 : Cond.selects "NeedOnce" zy_N_odds zy_N_odds ∈ nk_GT := nk_tm 452 (by decide +kernel) rfl
set_option maxRecDepth 100000 in
theorem zlw_453 : Cond.code zy_N_odds zb_N_odds 7 (some .long) ∈ nk_GT := nk_tm 453 rfl rfl
theorem zlw_463 : Cond.methodLink "NeedOnceLaw" 83 zy_N_sheet ∈ nk_GT := nk_tm 463 (by decide +kernel) rfl
theorem zlw_464 : Cond.instanceMethod zy_N_sheet ∈ nk_GT := nk_tm 464 (by decide +kernel) rfl
theorem zlw_465 : Cond.selects "NeedOnce" zy_N_sheet zy_N_sheet ∈ nk_GT := nk_tm 465 (by decide +kernel) rfl
set_option maxRecDepth 100000 in
theorem zlw_466 : Cond.code zy_N_sheet zb_N_sheet 4 (some .int) ∈ nk_GT := nk_tm 466 rfl rfl
theorem zlw_472 : Cond.methodLink "NeedOnceLaw" 88 zy_N_lose ∈ nk_GT := nk_tm 472 (by decide +kernel) rfl
theorem zlw_473 : Cond.instanceMethod zy_N_lose ∈ nk_GT := nk_tm 473 (by decide +kernel) rfl
theorem zlw_474 : Cond.selects "NeedOnce" zy_N_lose zy_N_lose ∈ nk_GT := nk_tm 474 (by decide +kernel) rfl
set_option maxRecDepth 100000 in
theorem zlw_475 : Cond.code zy_N_lose zb_N_lose 3 (some .int) ∈ nk_GT := nk_tm 475 rfl rfl
theorem zlw_476 : Cond.methodLink "NeedOnceLaw" 92 zy_N_put ∈ nk_GT := nk_tm 476 (by decide +kernel) rfl
theorem zlw_477 : Cond.instanceMethod zy_N_put ∈ nk_GT := nk_tm 477 (by decide +kernel) rfl
theorem zlw_478 : Cond.selects "NeedOnce" zy_N_put zy_N_put ∈ nk_GT := nk_tm 478 (by decide +kernel) rfl
set_option maxRecDepth 100000 in
theorem zlw_479 : Cond.code zy_N_put zb_N_put 5 (some .int) ∈ nk_GT := nk_tm 479 rfl rfl
theorem zlw_484 : Cond.methodLink "NeedOnceLaw" 96 zy_N_cell ∈ nk_GT := nk_tm 484 (by decide +kernel) rfl
theorem zlw_485 : Cond.instanceMethod zy_N_cell ∈ nk_GT := nk_tm 485 (by decide +kernel) rfl
theorem zlw_486 : Cond.selects "NeedOnce" zy_N_cell zy_N_cell ∈ nk_GT := nk_tm 486 (by decide +kernel) rfl
set_option maxRecDepth 100000 in
theorem zlw_487 : Cond.code zy_N_cell zb_N_cell 4 (some .long) ∈ nk_GT := nk_tm 487 rfl rfl
theorem zlw_488 : Cond.methodLink "NeedOnceLaw" 101 zy_N_copy ∈ nk_GT := nk_tm 488 (by decide +kernel) rfl
theorem zlw_489 : Cond.instanceMethod zy_N_copy ∈ nk_GT := nk_tm 489 (by decide +kernel) rfl
theorem zlw_490 : Cond.selects "NeedOnce" zy_N_copy zy_N_copy ∈ nk_GT := nk_tm 490 (by decide +kernel) rfl
set_option maxRecDepth 100000 in
theorem zlw_491 : Cond.code zy_N_copy zb_N_copy 7 (some .int) ∈ nk_GT := nk_tm 491 rfl rfl
theorem zlw_501 : Cond.methodLink "NeedOnceLaw" 105 zy_N_tell ∈ nk_GT := nk_tm 501 (by decide +kernel) rfl
theorem zlw_502 : Cond.instanceMethod zy_N_tell ∈ nk_GT := nk_tm 502 (by decide +kernel) rfl
theorem zlw_503 : Cond.selects "NeedOnce" zy_N_tell zy_N_tell ∈ nk_GT := nk_tm 503 (by decide +kernel) rfl
set_option maxRecDepth 100000 in
theorem zlw_504 : Cond.code zy_N_tell zb_N_tell 2 (some .int) ∈ nk_GT := nk_tm 504 rfl rfl
theorem zlw_521 : Cond.methodLink "NeedOnceLaw" 109 zy_N_point ∈ nk_GT := nk_tm 521 (by decide +kernel) rfl
theorem zlw_522 : Cond.instanceMethod zy_N_point ∈ nk_GT := nk_tm 522 (by decide +kernel) rfl
theorem zlw_523 : Cond.selects "NeedOnce" zy_N_point zy_N_point ∈ nk_GT := nk_tm 523 (by decide +kernel) rfl
set_option maxRecDepth 100000 in
theorem zlw_524 : Cond.code zy_N_point zb_N_point 3 (some .int) ∈ nk_GT := nk_tm 524 rfl rfl
theorem zlw_525 : Cond.methodLink "NeedOnceLaw" 113 zy_N_as ∈ nk_GT := nk_tm 525 (by decide +kernel) rfl
theorem zlw_526 : Cond.instanceMethod zy_N_as ∈ nk_GT := nk_tm 526 (by decide +kernel) rfl
theorem zlw_527 : Cond.selects "NeedOnce" zy_N_as zy_N_as ∈ nk_GT := nk_tm 527 (by decide +kernel) rfl
set_option maxRecDepth 100000 in
theorem zlw_528 : Cond.code zy_N_as zb_N_as 3 (some .int) ∈ nk_GT := nk_tm 528 rfl rfl
theorem zlw_529 : Cond.methodLink "NeedOnceLaw" 117 zy_N_trace ∈ nk_GT := nk_tm 529 (by decide +kernel) rfl
theorem zlw_530 : Cond.instanceMethod zy_N_trace ∈ nk_GT := nk_tm 530 (by decide +kernel) rfl
theorem zlw_531 : Cond.selects "NeedOnce" zy_N_trace zy_N_trace ∈ nk_GT := nk_tm 531 (by decide +kernel) rfl
set_option maxRecDepth 100000 in
theorem zlw_532 : Cond.code zy_N_trace zb_N_trace 1 (some .int) ∈ nk_GT := nk_tm 532 rfl rfl
theorem zlw_533 : Cond.methodLink "NeedOnceLaw" 121 zy_N_fault ∈ nk_GT := nk_tm 533 (by decide +kernel) rfl
theorem zlw_534 : Cond.instanceMethod zy_N_fault ∈ nk_GT := nk_tm 534 (by decide +kernel) rfl
theorem zlw_535 : Cond.selects "NeedOnce" zy_N_fault zy_N_fault ∈ nk_GT := nk_tm 535 (by decide +kernel) rfl
set_option maxRecDepth 100000 in
theorem zlw_536 : Cond.code zy_N_fault zb_N_fault 1 (some .int) ∈ nk_GT := nk_tm 536 rfl rfl
theorem zlw_537 : Cond.methodLink "NeedOnceLaw" 125 zy_N_many ∈ nk_GT := nk_tm 537 (by decide +kernel) rfl
theorem zlw_538 : Cond.instanceMethod zy_N_many ∈ nk_GT := nk_tm 538 (by decide +kernel) rfl
theorem zlw_539 : Cond.selects "NeedOnce" zy_N_many zy_N_many ∈ nk_GT := nk_tm 539 (by decide +kernel) rfl
set_option maxRecDepth 100000 in
theorem zlw_540 : Cond.code zy_N_many zb_N_many 2 (some .int) ∈ nk_GT := nk_tm 540 rfl rfl
theorem zlw_695 : Cond.methodLink "NeedOnceLaw" 17 zy_M_heap ∈ nk_GT := nk_tm 695 (by decide +kernel) rfl
theorem zlw_696 : Cond.instanceMethod zy_M_heap ∈ nk_GT := nk_tm 696 (by decide +kernel) rfl
theorem zlw_697 : Cond.selects "NeedOnceModel" zy_M_heap zy_M_heap ∈ nk_GT := nk_tm 697 (by decide +kernel) rfl
set_option maxRecDepth 100000 in
theorem zlw_698 : Cond.code zy_M_heap zb_M_heap 9 (some .int) ∈ nk_GT := nk_tm 698 rfl rfl
theorem zlw_754 : Cond.methodLink "NeedOnceLaw" 22 zy_M_ofCell ∈ nk_GT := nk_tm 754 (by decide +kernel) rfl
theorem zlw_755 : Cond.instanceMethod zy_M_ofCell ∈ nk_GT := nk_tm 755 (by decide +kernel) rfl
theorem zlw_756 : Cond.selects "NeedOnceModel" zy_M_ofCell zy_M_ofCell ∈ nk_GT := nk_tm 756 (by decide +kernel) rfl
set_option maxRecDepth 100000 in
theorem zlw_757 : Cond.code zy_M_ofCell zb_M_ofCell 3 (some .int) ∈ nk_GT := nk_tm 757 rfl rfl
theorem zlw_768 : Cond.methodLink "NeedOnceLaw" 26 zy_M_price ∈ nk_GT := nk_tm 768 (by decide +kernel) rfl
theorem zlw_769 : Cond.instanceMethod zy_M_price ∈ nk_GT := nk_tm 769 (by decide +kernel) rfl
theorem zlw_770 : Cond.selects "NeedOnceModel" zy_M_price zy_M_price ∈ nk_GT := nk_tm 770 (by decide +kernel) rfl
set_option maxRecDepth 100000 in
theorem zlw_771 : Cond.code zy_M_price zb_M_price 4 (some .int) ∈ nk_GT := nk_tm 771 rfl rfl
theorem zlw_775 : Cond.methodLink "NeedOnceLaw" 31 zy_M_need ∈ nk_GT := nk_tm 775 (by decide +kernel) rfl
theorem zlw_776 : Cond.instanceMethod zy_M_need ∈ nk_GT := nk_tm 776 (by decide +kernel) rfl
theorem zlw_777 : Cond.selects "NeedOnceModel" zy_M_need zy_M_need ∈ nk_GT := nk_tm 777 (by decide +kernel) rfl
set_option maxRecDepth 100000 in
theorem zlw_778 : Cond.code zy_M_need zb_M_need 4 (some .int) ∈ nk_GT := nk_tm 778 rfl rfl
theorem zlw_811 : Cond.methodLink "NeedOnceLaw" 35 zy_M_latest ∈ nk_GT := nk_tm 811 (by decide +kernel) rfl
theorem zlw_812 : Cond.instanceMethod zy_M_latest ∈ nk_GT := nk_tm 812 (by decide +kernel) rfl
theorem zlw_813 : Cond.selects "NeedOnceModel" zy_M_latest zy_M_latest ∈ nk_GT := nk_tm 813 (by decide +kernel) rfl
set_option maxRecDepth 100000 in
theorem zlw_814 : Cond.code zy_M_latest zb_M_latest 2 (some .int) ∈ nk_GT := nk_tm 814 rfl rfl
theorem zlw_816 : Cond.methodLink "NeedOnceLaw" 40 zy_M_spent ∈ nk_GT := nk_tm 816 (by decide +kernel) rfl
theorem zlw_817 : Cond.instanceMethod zy_M_spent ∈ nk_GT := nk_tm 817 (by decide +kernel) rfl
theorem zlw_818 : Cond.selects "NeedOnceModel" zy_M_spent zy_M_spent ∈ nk_GT := nk_tm 818 (by decide +kernel) rfl
set_option maxRecDepth 100000 in
theorem zlw_819 : Cond.code zy_M_spent zb_M_spent 1 (some .int) ∈ nk_GT := nk_tm 819 rfl rfl
theorem zlw_820 : Cond.methodLink "NeedOnceLaw" 44 zy_M_sleep ∈ nk_GT := nk_tm 820 (by decide +kernel) rfl
theorem zlw_821 : Cond.instanceMethod zy_M_sleep ∈ nk_GT := nk_tm 821 (by decide +kernel) rfl
theorem zlw_822 : Cond.selects "NeedOnceModel" zy_M_sleep zy_M_sleep ∈ nk_GT := nk_tm 822 (by decide +kernel) rfl
set_option maxRecDepth 100000 in
theorem zlw_823 : Cond.code zy_M_sleep zb_M_sleep 2 (some .int) ∈ nk_GT := nk_tm 823 rfl rfl
theorem zlw_828 : Cond.methodLink "NeedOnceLaw" 48 zy_M_shorten ∈ nk_GT := nk_tm 828 (by decide +kernel) rfl
theorem zlw_829 : Cond.instanceMethod zy_M_shorten ∈ nk_GT := nk_tm 829 (by decide +kernel) rfl
theorem zlw_830 : Cond.selects "NeedOnceModel" zy_M_shorten zy_M_shorten ∈ nk_GT := nk_tm 830 (by decide +kernel) rfl
set_option maxRecDepth 100000 in
theorem zlw_831 : Cond.code zy_M_shorten zb_M_shorten 4 (some .int) ∈ nk_GT := nk_tm 831 rfl rfl
theorem zlw_836 : Cond.methodLink "NeedOnceLaw" 52 zy_M_held ∈ nk_GT := nk_tm 836 (by decide +kernel) rfl
theorem zlw_837 : Cond.instanceMethod zy_M_held ∈ nk_GT := nk_tm 837 (by decide +kernel) rfl
theorem zlw_838 : Cond.selects "NeedOnceModel" zy_M_held zy_M_held ∈ nk_GT := nk_tm 838 (by decide +kernel) rfl
set_option maxRecDepth 100000 in
theorem zlw_839 : Cond.code zy_M_held zb_M_held 2 (some .int) ∈ nk_GT := nk_tm 839 rfl rfl
theorem zlw_849 : Cond.methodLink "NeedOnceLaw" 56 zy_M_plainly ∈ nk_GT := nk_tm 849 (by decide +kernel) rfl
theorem zlw_850 : Cond.instanceMethod zy_M_plainly ∈ nk_GT := nk_tm 850 (by decide +kernel) rfl
theorem zlw_851 : Cond.selects "NeedOnceModel" zy_M_plainly zy_M_plainly ∈ nk_GT := nk_tm 851 (by decide +kernel) rfl
set_option maxRecDepth 100000 in
theorem zlw_852 : Cond.code zy_M_plainly zb_M_plainly 3 (some .int) ∈ nk_GT := nk_tm 852 rfl rfl
theorem zlw_853 : Cond.methodLink "NeedOnceLaw" 61 zy_M_day ∈ nk_GT := nk_tm 853 (by decide +kernel) rfl
theorem zlw_854 : Cond.instanceMethod zy_M_day ∈ nk_GT := nk_tm 854 (by decide +kernel) rfl
theorem zlw_855 : Cond.selects "NeedOnceModel" zy_M_day zy_M_day ∈ nk_GT := nk_tm 855 (by decide +kernel) rfl
set_option maxRecDepth 100000 in
theorem zlw_856 : Cond.code zy_M_day zb_M_day 9 (some .int) ∈ nk_GT := nk_tm 856 rfl rfl
theorem zlw_890 : Cond.methodLink "NeedOnceLaw" 65 zy_M_reading ∈ nk_GT := nk_tm 890 (by decide +kernel) rfl
theorem zlw_891 : Cond.instanceMethod zy_M_reading ∈ nk_GT := nk_tm 891 (by decide +kernel) rfl
theorem zlw_892 : Cond.selects "NeedOnceModel" zy_M_reading zy_M_reading ∈ nk_GT := nk_tm 892 (by decide +kernel) rfl
set_option maxRecDepth 100000 in
theorem zlw_893 : Cond.code zy_M_reading zb_M_reading 3 (some .int) ∈ nk_GT := nk_tm 893 rfl rfl
theorem zlw_895 : Cond.methodLink "NeedOnceLaw" 69 zy_M_back ∈ nk_GT := nk_tm 895 (by decide +kernel) rfl
theorem zlw_896 : Cond.instanceMethod zy_M_back ∈ nk_GT := nk_tm 896 (by decide +kernel) rfl
theorem zlw_897 : Cond.selects "NeedOnceModel" zy_M_back zy_M_back ∈ nk_GT := nk_tm 897 (by decide +kernel) rfl
set_option maxRecDepth 100000 in
theorem zlw_898 : Cond.code zy_M_back zb_M_back 2 (some .int) ∈ nk_GT := nk_tm 898 rfl rfl
theorem zlw_899 : Cond.methodLink "NeedOnceLaw" 73 zy_M_kinds ∈ nk_GT := nk_tm 899 (by decide +kernel) rfl
theorem zlw_900 : Cond.instanceMethod zy_M_kinds ∈ nk_GT := nk_tm 900 (by decide +kernel) rfl
theorem zlw_901 : Cond.selects "NeedOnceModel" zy_M_kinds zy_M_kinds ∈ nk_GT := nk_tm 901 (by decide +kernel) rfl
set_option maxRecDepth 100000 in
theorem zlw_902 : Cond.code zy_M_kinds zb_M_kinds 5 (some .int) ∈ nk_GT := nk_tm 902 rfl rfl
theorem zlw_907 : Cond.methodLink "NeedOnceLaw" 77 zy_M_prices ∈ nk_GT := nk_tm 907 (by decide +kernel) rfl
theorem zlw_908 : Cond.instanceMethod zy_M_prices ∈ nk_GT := nk_tm 908 (by decide +kernel) rfl
theorem zlw_909 : Cond.selects "NeedOnceModel" zy_M_prices zy_M_prices ∈ nk_GT := nk_tm 909 (by decide +kernel) rfl
set_option maxRecDepth 100000 in
theorem zlw_910 : Cond.code zy_M_prices zb_M_prices 4 (some .int) ∈ nk_GT := nk_tm 910 rfl rfl
theorem zlw_911 : Cond.methodLink "NeedOnceLaw" 82 zy_M_odds ∈ nk_GT := nk_tm 911 (by decide +kernel) rfl
theorem zlw_912 : Cond.instanceMethod zy_M_odds ∈ nk_GT := nk_tm 912 (by decide +kernel) rfl
theorem zlw_913 : Cond.selects "NeedOnceModel" zy_M_odds zy_M_odds ∈ nk_GT := nk_tm 913 (by decide +kernel) rfl
set_option maxRecDepth 100000 in
theorem zlw_914 : Cond.code zy_M_odds zb_M_odds 8 (some .long) ∈ nk_GT := nk_tm 914 rfl rfl
theorem zlw_923 : Cond.methodLink "NeedOnceLaw" 87 zy_M_sheet ∈ nk_GT := nk_tm 923 (by decide +kernel) rfl
theorem zlw_924 : Cond.instanceMethod zy_M_sheet ∈ nk_GT := nk_tm 924 (by decide +kernel) rfl
theorem zlw_925 : Cond.selects "NeedOnceModel" zy_M_sheet zy_M_sheet ∈ nk_GT := nk_tm 925 (by decide +kernel) rfl
set_option maxRecDepth 100000 in
theorem zlw_926 : Cond.code zy_M_sheet zb_M_sheet 5 (some .int) ∈ nk_GT := nk_tm 926 rfl rfl
theorem zlw_927 : Cond.methodLink "NeedOnceLaw" 91 zy_M_lose ∈ nk_GT := nk_tm 927 (by decide +kernel) rfl
theorem zlw_928 : Cond.instanceMethod zy_M_lose ∈ nk_GT := nk_tm 928 (by decide +kernel) rfl
theorem zlw_929 : Cond.selects "NeedOnceModel" zy_M_lose zy_M_lose ∈ nk_GT := nk_tm 929 (by decide +kernel) rfl
set_option maxRecDepth 100000 in
theorem zlw_930 : Cond.code zy_M_lose zb_M_lose 3 (some .int) ∈ nk_GT := nk_tm 930 rfl rfl
theorem zlw_931 : Cond.methodLink "NeedOnceLaw" 95 zy_M_put ∈ nk_GT := nk_tm 931 (by decide +kernel) rfl
theorem zlw_932 : Cond.instanceMethod zy_M_put ∈ nk_GT := nk_tm 932 (by decide +kernel) rfl
theorem zlw_933 : Cond.selects "NeedOnceModel" zy_M_put zy_M_put ∈ nk_GT := nk_tm 933 (by decide +kernel) rfl
set_option maxRecDepth 100000 in
theorem zlw_934 : Cond.code zy_M_put zb_M_put 4 (some .int) ∈ nk_GT := nk_tm 934 rfl rfl
theorem zlw_939 : Cond.methodLink "NeedOnceLaw" 100 zy_M_cell ∈ nk_GT := nk_tm 939 (by decide +kernel) rfl
theorem zlw_940 : Cond.instanceMethod zy_M_cell ∈ nk_GT := nk_tm 940 (by decide +kernel) rfl
theorem zlw_941 : Cond.selects "NeedOnceModel" zy_M_cell zy_M_cell ∈ nk_GT := nk_tm 941 (by decide +kernel) rfl
set_option maxRecDepth 100000 in
theorem zlw_942 : Cond.code zy_M_cell zb_M_cell 4 (some .long) ∈ nk_GT := nk_tm 942 rfl rfl
theorem zlw_947 : Cond.methodLink "NeedOnceLaw" 104 zy_M_copy ∈ nk_GT := nk_tm 947 (by decide +kernel) rfl
theorem zlw_948 : Cond.instanceMethod zy_M_copy ∈ nk_GT := nk_tm 948 (by decide +kernel) rfl
theorem zlw_949 : Cond.selects "NeedOnceModel" zy_M_copy zy_M_copy ∈ nk_GT := nk_tm 949 (by decide +kernel) rfl
set_option maxRecDepth 100000 in
theorem zlw_950 : Cond.code zy_M_copy zb_M_copy 7 (some .int) ∈ nk_GT := nk_tm 950 rfl rfl
theorem zlw_951 : Cond.methodLink "NeedOnceLaw" 108 zy_M_tell ∈ nk_GT := nk_tm 951 (by decide +kernel) rfl
theorem zlw_952 : Cond.instanceMethod zy_M_tell ∈ nk_GT := nk_tm 952 (by decide +kernel) rfl
theorem zlw_953 : Cond.selects "NeedOnceModel" zy_M_tell zy_M_tell ∈ nk_GT := nk_tm 953 (by decide +kernel) rfl
set_option maxRecDepth 100000 in
theorem zlw_954 : Cond.code zy_M_tell zb_M_tell 4 (some .int) ∈ nk_GT := nk_tm 954 rfl rfl
theorem zlw_959 : Cond.methodLink "NeedOnceLaw" 112 zy_M_point ∈ nk_GT := nk_tm 959 (by decide +kernel) rfl
theorem zlw_960 : Cond.instanceMethod zy_M_point ∈ nk_GT := nk_tm 960 (by decide +kernel) rfl
theorem zlw_961 : Cond.selects "NeedOnceModel" zy_M_point zy_M_point ∈ nk_GT := nk_tm 961 (by decide +kernel) rfl
set_option maxRecDepth 100000 in
theorem zlw_962 : Cond.code zy_M_point zb_M_point 2 (some .int) ∈ nk_GT := nk_tm 962 rfl rfl
theorem zlw_963 : Cond.methodLink "NeedOnceLaw" 116 zy_M_as ∈ nk_GT := nk_tm 963 (by decide +kernel) rfl
theorem zlw_964 : Cond.instanceMethod zy_M_as ∈ nk_GT := nk_tm 964 (by decide +kernel) rfl
theorem zlw_965 : Cond.selects "NeedOnceModel" zy_M_as zy_M_as ∈ nk_GT := nk_tm 965 (by decide +kernel) rfl
set_option maxRecDepth 100000 in
theorem zlw_966 : Cond.code zy_M_as zb_M_as 3 (some .int) ∈ nk_GT := nk_tm 966 rfl rfl
theorem zlw_967 : Cond.methodLink "NeedOnceLaw" 120 zy_M_trace ∈ nk_GT := nk_tm 967 (by decide +kernel) rfl
theorem zlw_968 : Cond.instanceMethod zy_M_trace ∈ nk_GT := nk_tm 968 (by decide +kernel) rfl
theorem zlw_969 : Cond.selects "NeedOnceModel" zy_M_trace zy_M_trace ∈ nk_GT := nk_tm 969 (by decide +kernel) rfl
set_option maxRecDepth 100000 in
theorem zlw_970 : Cond.code zy_M_trace zb_M_trace 1 (some .int) ∈ nk_GT := nk_tm 970 rfl rfl
theorem zlw_971 : Cond.methodLink "NeedOnceLaw" 124 zy_M_fault ∈ nk_GT := nk_tm 971 (by decide +kernel) rfl
theorem zlw_972 : Cond.instanceMethod zy_M_fault ∈ nk_GT := nk_tm 972 (by decide +kernel) rfl
theorem zlw_973 : Cond.selects "NeedOnceModel" zy_M_fault zy_M_fault ∈ nk_GT := nk_tm 973 (by decide +kernel) rfl
set_option maxRecDepth 100000 in
theorem zlw_974 : Cond.code zy_M_fault zb_M_fault 1 (some .int) ∈ nk_GT := nk_tm 974 rfl rfl
theorem zlw_975 : Cond.methodLink "NeedOnceLaw" 128 zy_M_many ∈ nk_GT := nk_tm 975 (by decide +kernel) rfl
theorem zlw_976 : Cond.instanceMethod zy_M_many ∈ nk_GT := nk_tm 976 (by decide +kernel) rfl
theorem zlw_977 : Cond.selects "NeedOnceModel" zy_M_many zy_M_many ∈ nk_GT := nk_tm 977 (by decide +kernel) rfl
set_option maxRecDepth 100000 in
theorem zlw_978 : Cond.code zy_M_many zb_M_many 2 (some .int) ∈ nk_GT := nk_tm 978 rfl rfl
theorem zv_L_13 : nk_cV "NeedOnceLaw" 13 zy_N_heap zb_N_heap 8 (some .int) 4 := ⟨⟨zlw_172, zlw_1, ⟨by decide, by decide, by decide +kernel⟩, by decide, Or.inl zlw_169⟩, zlw_170, zlw_171⟩
theorem zv_L_17 : nk_cV "NeedOnceLaw" 17 zy_M_heap zb_M_heap 9 (some .int) 4 := ⟨⟨zlw_698, zlw_7, ⟨by decide, by decide, by decide +kernel⟩, by decide, Or.inl zlw_695⟩, zlw_696, zlw_697⟩
theorem zv_L_18 : nk_cV "NeedOnceLaw" 18 zy_N_ofCell zb_N_ofCell 3 (some .int) 2 := ⟨⟨zlw_264, zlw_1, ⟨by decide, by decide, by decide +kernel⟩, by decide, Or.inl zlw_261⟩, zlw_262, zlw_263⟩
theorem zv_L_22 : nk_cV "NeedOnceLaw" 22 zy_M_ofCell zb_M_ofCell 3 (some .int) 2 := ⟨⟨zlw_757, zlw_7, ⟨by decide, by decide, by decide +kernel⟩, by decide, Or.inl zlw_754⟩, zlw_755, zlw_756⟩
theorem zv_L_23 : nk_cV "NeedOnceLaw" 23 zy_N_price zb_N_price 4 (some .int) 2 := ⟨⟨zlw_285, zlw_1, ⟨by decide, by decide, by decide +kernel⟩, by decide, Or.inl zlw_282⟩, zlw_283, zlw_284⟩
theorem zv_L_26 : nk_cV "NeedOnceLaw" 26 zy_M_price zb_M_price 4 (some .int) 2 := ⟨⟨zlw_771, zlw_7, ⟨by decide, by decide, by decide +kernel⟩, by decide, Or.inl zlw_768⟩, zlw_769, zlw_770⟩
theorem zv_L_27 : nk_cV "NeedOnceLaw" 27 zy_N_need zb_N_need 2 (some .int) 1 := ⟨⟨zlw_289, zlw_1, ⟨by decide, by decide, by decide +kernel⟩, by decide, Or.inl zlw_286⟩, zlw_287, zlw_288⟩
theorem zv_L_31 : nk_cV "NeedOnceLaw" 31 zy_M_need zb_M_need 4 (some .int) 1 := ⟨⟨zlw_778, zlw_7, ⟨by decide, by decide, by decide +kernel⟩, by decide, Or.inl zlw_775⟩, zlw_776, zlw_777⟩
theorem zv_L_32 : nk_cV "NeedOnceLaw" 32 zy_N_latest zb_N_latest 3 (some .int) 1 := ⟨⟨zlw_344, zlw_1, ⟨by decide, by decide, by decide +kernel⟩, by decide, Or.inl zlw_341⟩, zlw_342, zlw_343⟩
theorem zv_L_35 : nk_cV "NeedOnceLaw" 35 zy_M_latest zb_M_latest 2 (some .int) 1 := ⟨⟨zlw_814, zlw_7, ⟨by decide, by decide, by decide +kernel⟩, by decide, Or.inl zlw_811⟩, zlw_812, zlw_813⟩
theorem zv_L_36 : nk_cV "NeedOnceLaw" 36 zy_N_spent zb_N_spent 1 (some .int) 0 := ⟨⟨zlw_348, zlw_1, ⟨by decide, by decide, by decide +kernel⟩, by decide, Or.inl zlw_345⟩, zlw_346, zlw_347⟩
theorem zv_L_40 : nk_cV "NeedOnceLaw" 40 zy_M_spent zb_M_spent 1 (some .int) 0 := ⟨⟨zlw_819, zlw_7, ⟨by decide, by decide, by decide +kernel⟩, by decide, Or.inl zlw_816⟩, zlw_817, zlw_818⟩
theorem zv_L_41 : nk_cV "NeedOnceLaw" 41 zy_N_sleep zb_N_sleep 2 (some .int) 0 := ⟨⟨zlw_352, zlw_1, ⟨by decide, by decide, by decide +kernel⟩, by decide, Or.inl zlw_349⟩, zlw_350, zlw_351⟩
theorem zv_L_44 : nk_cV "NeedOnceLaw" 44 zy_M_sleep zb_M_sleep 2 (some .int) 0 := ⟨⟨zlw_823, zlw_7, ⟨by decide, by decide, by decide +kernel⟩, by decide, Or.inl zlw_820⟩, zlw_821, zlw_822⟩
theorem zv_L_45 : nk_cV "NeedOnceLaw" 45 zy_N_shorten zb_N_shorten 1 (some .int) 0 := ⟨⟨zlw_361, zlw_1, ⟨by decide, by decide, by decide +kernel⟩, by decide, Or.inl zlw_358⟩, zlw_359, zlw_360⟩
theorem zv_L_48 : nk_cV "NeedOnceLaw" 48 zy_M_shorten zb_M_shorten 4 (some .int) 0 := ⟨⟨zlw_831, zlw_7, ⟨by decide, by decide, by decide +kernel⟩, by decide, Or.inl zlw_828⟩, zlw_829, zlw_830⟩
theorem zv_L_49 : nk_cV "NeedOnceLaw" 49 zy_N_held zb_N_held 2 (some .int) 1 := ⟨⟨zlw_373, zlw_1, ⟨by decide, by decide, by decide +kernel⟩, by decide, Or.inl zlw_370⟩, zlw_371, zlw_372⟩
theorem zv_L_52 : nk_cV "NeedOnceLaw" 52 zy_M_held zb_M_held 2 (some .int) 1 := ⟨⟨zlw_839, zlw_7, ⟨by decide, by decide, by decide +kernel⟩, by decide, Or.inl zlw_836⟩, zlw_837, zlw_838⟩
theorem zv_L_53 : nk_cV "NeedOnceLaw" 53 zy_N_plainly zb_N_plainly 2 (some .int) 1 := ⟨⟨zlw_385, zlw_1, ⟨by decide, by decide, by decide +kernel⟩, by decide, Or.inl zlw_382⟩, zlw_383, zlw_384⟩
theorem zv_L_56 : nk_cV "NeedOnceLaw" 56 zy_M_plainly zb_M_plainly 3 (some .int) 1 := ⟨⟨zlw_852, zlw_7, ⟨by decide, by decide, by decide +kernel⟩, by decide, Or.inl zlw_849⟩, zlw_850, zlw_851⟩
theorem zv_L_57 : nk_cV "NeedOnceLaw" 57 zy_N_day zb_N_day 8 (some .int) 5 := ⟨⟨zlw_394, zlw_1, ⟨by decide, by decide, by decide +kernel⟩, by decide, Or.inl zlw_391⟩, zlw_392, zlw_393⟩
theorem zv_L_61 : nk_cV "NeedOnceLaw" 61 zy_M_day zb_M_day 9 (some .int) 5 := ⟨⟨zlw_856, zlw_7, ⟨by decide, by decide, by decide +kernel⟩, by decide, Or.inl zlw_853⟩, zlw_854, zlw_855⟩
theorem zv_L_62 : nk_cV "NeedOnceLaw" 62 zy_N_reading zb_N_reading 3 (some .int) 2 := ⟨⟨zlw_425, zlw_1, ⟨by decide, by decide, by decide +kernel⟩, by decide, Or.inl zlw_422⟩, zlw_423, zlw_424⟩
theorem zv_L_65 : nk_cV "NeedOnceLaw" 65 zy_M_reading zb_M_reading 3 (some .int) 2 := ⟨⟨zlw_893, zlw_7, ⟨by decide, by decide, by decide +kernel⟩, by decide, Or.inl zlw_890⟩, zlw_891, zlw_892⟩
theorem zv_L_66 : nk_cV "NeedOnceLaw" 66 zy_N_back zb_N_back 2 (some .int) 1 := ⟨⟨zlw_433, zlw_1, ⟨by decide, by decide, by decide +kernel⟩, by decide, Or.inl zlw_430⟩, zlw_431, zlw_432⟩
theorem zv_L_69 : nk_cV "NeedOnceLaw" 69 zy_M_back zb_M_back 2 (some .int) 1 := ⟨⟨zlw_898, zlw_7, ⟨by decide, by decide, by decide +kernel⟩, by decide, Or.inl zlw_895⟩, zlw_896, zlw_897⟩
theorem zv_L_70 : nk_cV "NeedOnceLaw" 70 zy_N_kinds zb_N_kinds 4 (some .int) 1 := ⟨⟨zlw_437, zlw_1, ⟨by decide, by decide, by decide +kernel⟩, by decide, Or.inl zlw_434⟩, zlw_435, zlw_436⟩
theorem zv_L_73 : nk_cV "NeedOnceLaw" 73 zy_M_kinds zb_M_kinds 5 (some .int) 1 := ⟨⟨zlw_902, zlw_7, ⟨by decide, by decide, by decide +kernel⟩, by decide, Or.inl zlw_899⟩, zlw_900, zlw_901⟩
theorem zv_L_74 : nk_cV "NeedOnceLaw" 74 zy_N_prices zb_N_prices 4 (some .int) 1 := ⟨⟨zlw_449, zlw_1, ⟨by decide, by decide, by decide +kernel⟩, by decide, Or.inl zlw_446⟩, zlw_447, zlw_448⟩
theorem zv_L_77 : nk_cV "NeedOnceLaw" 77 zy_M_prices zb_M_prices 4 (some .int) 1 := ⟨⟨zlw_910, zlw_7, ⟨by decide, by decide, by decide +kernel⟩, by decide, Or.inl zlw_907⟩, zlw_908, zlw_909⟩
theorem zv_L_78 : nk_cV "NeedOnceLaw" 78 zy_N_odds zb_N_odds 7 (some .long) 4 := ⟨⟨zlw_453, zlw_1, ⟨by decide, by decide, by decide +kernel⟩, by decide, Or.inl zlw_450⟩, zlw_451, zlw_452⟩
theorem zv_L_82 : nk_cV "NeedOnceLaw" 82 zy_M_odds zb_M_odds 8 (some .long) 4 := ⟨⟨zlw_914, zlw_7, ⟨by decide, by decide, by decide +kernel⟩, by decide, Or.inl zlw_911⟩, zlw_912, zlw_913⟩
theorem zv_L_83 : nk_cV "NeedOnceLaw" 83 zy_N_sheet zb_N_sheet 4 (some .int) 3 := ⟨⟨zlw_466, zlw_1, ⟨by decide, by decide, by decide +kernel⟩, by decide, Or.inl zlw_463⟩, zlw_464, zlw_465⟩
theorem zv_L_87 : nk_cV "NeedOnceLaw" 87 zy_M_sheet zb_M_sheet 5 (some .int) 3 := ⟨⟨zlw_926, zlw_7, ⟨by decide, by decide, by decide +kernel⟩, by decide, Or.inl zlw_923⟩, zlw_924, zlw_925⟩
theorem zv_L_88 : nk_cV "NeedOnceLaw" 88 zy_N_lose zb_N_lose 3 (some .int) 1 := ⟨⟨zlw_475, zlw_1, ⟨by decide, by decide, by decide +kernel⟩, by decide, Or.inl zlw_472⟩, zlw_473, zlw_474⟩
theorem zv_L_91 : nk_cV "NeedOnceLaw" 91 zy_M_lose zb_M_lose 3 (some .int) 1 := ⟨⟨zlw_930, zlw_7, ⟨by decide, by decide, by decide +kernel⟩, by decide, Or.inl zlw_927⟩, zlw_928, zlw_929⟩
theorem zv_L_92 : nk_cV "NeedOnceLaw" 92 zy_N_put zb_N_put 5 (some .int) 3 := ⟨⟨zlw_479, zlw_1, ⟨by decide, by decide, by decide +kernel⟩, by decide, Or.inl zlw_476⟩, zlw_477, zlw_478⟩
theorem zv_L_95 : nk_cV "NeedOnceLaw" 95 zy_M_put zb_M_put 4 (some .int) 3 := ⟨⟨zlw_934, zlw_7, ⟨by decide, by decide, by decide +kernel⟩, by decide, Or.inl zlw_931⟩, zlw_932, zlw_933⟩
theorem zv_L_96 : nk_cV "NeedOnceLaw" 96 zy_N_cell zb_N_cell 4 (some .long) 3 := ⟨⟨zlw_487, zlw_1, ⟨by decide, by decide, by decide +kernel⟩, by decide, Or.inl zlw_484⟩, zlw_485, zlw_486⟩
theorem zv_L_100 : nk_cV "NeedOnceLaw" 100 zy_M_cell zb_M_cell 4 (some .long) 3 := ⟨⟨zlw_942, zlw_7, ⟨by decide, by decide, by decide +kernel⟩, by decide, Or.inl zlw_939⟩, zlw_940, zlw_941⟩
theorem zv_L_101 : nk_cV "NeedOnceLaw" 101 zy_N_copy zb_N_copy 7 (some .int) 5 := ⟨⟨zlw_491, zlw_1, ⟨by decide, by decide, by decide +kernel⟩, by decide, Or.inl zlw_488⟩, zlw_489, zlw_490⟩
theorem zv_L_104 : nk_cV "NeedOnceLaw" 104 zy_M_copy zb_M_copy 7 (some .int) 5 := ⟨⟨zlw_950, zlw_7, ⟨by decide, by decide, by decide +kernel⟩, by decide, Or.inl zlw_947⟩, zlw_948, zlw_949⟩
theorem zv_L_105 : nk_cV "NeedOnceLaw" 105 zy_N_tell zb_N_tell 2 (some .int) 1 := ⟨⟨zlw_504, zlw_1, ⟨by decide, by decide, by decide +kernel⟩, by decide, Or.inl zlw_501⟩, zlw_502, zlw_503⟩
theorem zv_L_108 : nk_cV "NeedOnceLaw" 108 zy_M_tell zb_M_tell 4 (some .int) 1 := ⟨⟨zlw_954, zlw_7, ⟨by decide, by decide, by decide +kernel⟩, by decide, Or.inl zlw_951⟩, zlw_952, zlw_953⟩
theorem zv_L_109 : nk_cV "NeedOnceLaw" 109 zy_N_point zb_N_point 3 (some .int) 1 := ⟨⟨zlw_524, zlw_1, ⟨by decide, by decide, by decide +kernel⟩, by decide, Or.inl zlw_521⟩, zlw_522, zlw_523⟩
theorem zv_L_112 : nk_cV "NeedOnceLaw" 112 zy_M_point zb_M_point 2 (some .int) 1 := ⟨⟨zlw_962, zlw_7, ⟨by decide, by decide, by decide +kernel⟩, by decide, Or.inl zlw_959⟩, zlw_960, zlw_961⟩
theorem zv_L_113 : nk_cV "NeedOnceLaw" 113 zy_N_as zb_N_as 3 (some .int) 2 := ⟨⟨zlw_528, zlw_1, ⟨by decide, by decide, by decide +kernel⟩, by decide, Or.inl zlw_525⟩, zlw_526, zlw_527⟩
theorem zv_L_116 : nk_cV "NeedOnceLaw" 116 zy_M_as zb_M_as 3 (some .int) 2 := ⟨⟨zlw_966, zlw_7, ⟨by decide, by decide, by decide +kernel⟩, by decide, Or.inl zlw_963⟩, zlw_964, zlw_965⟩
theorem zv_L_117 : nk_cV "NeedOnceLaw" 117 zy_N_trace zb_N_trace 1 (some .int) 0 := ⟨⟨zlw_532, zlw_1, ⟨by decide, by decide, by decide +kernel⟩, by decide, Or.inl zlw_529⟩, zlw_530, zlw_531⟩
theorem zv_L_120 : nk_cV "NeedOnceLaw" 120 zy_M_trace zb_M_trace 1 (some .int) 0 := ⟨⟨zlw_970, zlw_7, ⟨by decide, by decide, by decide +kernel⟩, by decide, Or.inl zlw_967⟩, zlw_968, zlw_969⟩
theorem zv_L_121 : nk_cV "NeedOnceLaw" 121 zy_N_fault zb_N_fault 1 (some .int) 0 := ⟨⟨zlw_536, zlw_1, ⟨by decide, by decide, by decide +kernel⟩, by decide, Or.inl zlw_533⟩, zlw_534, zlw_535⟩
theorem zv_L_124 : nk_cV "NeedOnceLaw" 124 zy_M_fault zb_M_fault 1 (some .int) 0 := ⟨⟨zlw_974, zlw_7, ⟨by decide, by decide, by decide +kernel⟩, by decide, Or.inl zlw_971⟩, zlw_972, zlw_973⟩
theorem zv_L_125 : nk_cV "NeedOnceLaw" 125 zy_N_many zb_N_many 2 (some .int) 1 := ⟨⟨zlw_540, zlw_1, ⟨by decide, by decide, by decide +kernel⟩, by decide, Or.inl zlw_537⟩, zlw_538, zlw_539⟩
theorem zv_L_128 : nk_cV "NeedOnceLaw" 128 zy_M_many zb_M_many 2 (some .int) 1 := ⟨⟨zlw_978, zlw_7, ⟨by decide, by decide, by decide +kernel⟩, by decide, Or.inl zlw_975⟩, zlw_976, zlw_977⟩
