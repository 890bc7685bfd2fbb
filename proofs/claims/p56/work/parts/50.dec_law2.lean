theorem dL_law_653 : decode cL_law 653 = .ok (.iload 16, 2) := by decide +kernel
theorem dL_law_655 : decode cL_law 655 = .ok (.iload 15, 2) := by decide +kernel
theorem dL_law_657 : decode cL_law 657 = .ok (.if_icmp .ne 39, 3) := by decide +kernel
theorem dL_law_660 : decode cL_law 660 = .ok (.aload_n 1, 1) := by decide +kernel
theorem dL_law_661 : decode cL_law 661 = .ok (.aload_n 1, 1) := by decide +kernel
theorem dL_law_662 : decode cL_law 662 = .ok (.iload 11, 2) := by decide +kernel
theorem dL_law_664 : decode cL_law 664 = .ok (.invokestatic 222, 3) := by decide +kernel
theorem dL_law_667 : decode cL_law 667 = .ok (.invokevirtual 115, 3) := by decide +kernel
theorem dL_law_670 : decode cL_law 670 = .ok (.aload_n 1, 1) := by decide +kernel
theorem dL_law_671 : decode cL_law 671 = .ok (.iconst (-1), 1) := by decide +kernel
theorem dL_law_672 : decode cL_law 672 = .ok (.invokevirtual 115, 3) := by decide +kernel
theorem dL_law_675 : decode cL_law 675 = .ok (.if_icmp .ne 21, 3) := by decide +kernel
theorem dL_law_678 : decode cL_law 678 = .ok (.aload_n 1, 1) := by decide +kernel
theorem dL_law_679 : decode cL_law 679 = .ok (.iload 11, 2) := by decide +kernel
theorem dL_law_681 : decode cL_law 681 = .ok (.invokevirtual 155, 3) := by decide +kernel
theorem dL_law_684 : decode cL_law 684 = .ok (.iload 10, 2) := by decide +kernel
theorem dL_law_686 : decode cL_law 686 = .ok (.ishr, 1) := by decide +kernel
theorem dL_law_687 : decode cL_law 687 = .ok (.iconst 1, 1) := by decide +kernel
theorem dL_law_688 : decode cL_law 688 = .ok (.iand, 1) := by decide +kernel
theorem dL_law_689 : decode cL_law 689 = .ok (.ifCond .ne 7, 3) := by decide +kernel
theorem dL_law_692 : decode cL_law 692 = .ok (.iconst 1, 1) := by decide +kernel
theorem dL_law_693 : decode cL_law 693 = .ok (.goto 4, 3) := by decide +kernel
theorem dL_law_696 : decode cL_law 696 = .ok (.iconst 0, 1) := by decide +kernel
theorem dL_law_697 : decode cL_law 697 = .ok (.istore 5, 2) := by decide +kernel
theorem dL_law_699 : decode cL_law 699 = .ok (.goto 1074, 3) := by decide +kernel
theorem dL_law_702 : decode cL_law 702 = .ok (.iload 9, 2) := by decide +kernel
theorem dL_law_704 : decode cL_law 704 = .ok (.bipush 18, 2) := by decide +kernel
theorem dL_law_706 : decode cL_law 706 = .ok (.if_icmp .ge 109, 3) := by decide +kernel
theorem dL_law_709 : decode cL_law 709 = .ok (.aload_n 1, 1) := by decide +kernel
theorem dL_law_710 : decode cL_law 710 = .ok (.iload 11, 2) := by decide +kernel
theorem dL_law_712 : decode cL_law 712 = .ok (.invokevirtual 127, 3) := by decide +kernel
theorem dL_law_715 : decode cL_law 715 = .ok (.istore 15, 2) := by decide +kernel
theorem dL_law_717 : decode cL_law 717 = .ok (.aload_n 1, 1) := by decide +kernel
theorem dL_law_718 : decode cL_law 718 = .ok (.aload_n 1, 1) := by decide +kernel
theorem dL_law_719 : decode cL_law 719 = .ok (.iload 11, 2) := by decide +kernel
theorem dL_law_721 : decode cL_law 721 = .ok (.invokestatic 222, 3) := by decide +kernel
theorem dL_law_724 : decode cL_law 724 = .ok (.invokevirtual 115, 3) := by decide +kernel
theorem dL_law_727 : decode cL_law 727 = .ok (.istore 16, 2) := by decide +kernel
theorem dL_law_729 : decode cL_law 729 = .ok (.aload_n 1, 1) := by decide +kernel
theorem dL_law_730 : decode cL_law 730 = .ok (.bipush 6, 2) := by decide +kernel
theorem dL_law_732 : decode cL_law 732 = .ok (.iload 10, 2) := by decide +kernel
theorem dL_law_734 : decode cL_law 734 = .ok (.iload 11, 2) := by decide +kernel
theorem dL_law_736 : decode cL_law 736 = .ok (.iconst 0, 1) := by decide +kernel
theorem dL_law_737 : decode cL_law 737 = .ok (.iconst 0, 1) := by decide +kernel
theorem dL_law_738 : decode cL_law 738 = .ok (.iconst 0, 1) := by decide +kernel
theorem dL_law_739 : decode cL_law 739 = .ok (.invokestatic 241, 3) := by decide +kernel
theorem dL_law_742 : decode cL_law 742 = .ok (.istore 17, 2) := by decide +kernel
theorem dL_law_744 : decode cL_law 744 = .ok (.iload 17, 2) := by decide +kernel
theorem dL_law_746 : decode cL_law 746 = .ok (.sipush (-1263), 3) := by decide +kernel
theorem dL_law_749 : decode cL_law 749 = .ok (.if_icmp .ne 22, 3) := by decide +kernel
theorem dL_law_752 : decode cL_law 752 = .ok (.aload_n 1, 1) := by decide +kernel
theorem dL_law_753 : decode cL_law 753 = .ok (.iload 11, 2) := by decide +kernel
theorem dL_law_755 : decode cL_law 755 = .ok (.invokevirtual 127, 3) := by decide +kernel
theorem dL_law_758 : decode cL_law 758 = .ok (.iload 15, 2) := by decide +kernel
theorem dL_law_760 : decode cL_law 760 = .ok (.if_icmp .ne 7, 3) := by decide +kernel
theorem dL_law_763 : decode cL_law 763 = .ok (.iconst 1, 1) := by decide +kernel
theorem dL_law_764 : decode cL_law 764 = .ok (.goto 46, 3) := by decide +kernel
theorem dL_law_767 : decode cL_law 767 = .ok (.iconst 0, 1) := by decide +kernel
theorem dL_law_768 : decode cL_law 768 = .ok (.goto 42, 3) := by decide +kernel
theorem dL_law_771 : decode cL_law 771 = .ok (.iload 17, 2) := by decide +kernel
theorem dL_law_773 : decode cL_law 773 = .ok (.iload 15, 2) := by decide +kernel
theorem dL_law_775 : decode cL_law 775 = .ok (.if_icmp .ne 34, 3) := by decide +kernel
theorem dL_law_778 : decode cL_law 778 = .ok (.aload_n 1, 1) := by decide +kernel
theorem dL_law_779 : decode cL_law 779 = .ok (.aload_n 1, 1) := by decide +kernel
theorem dL_law_780 : decode cL_law 780 = .ok (.iload 11, 2) := by decide +kernel
theorem dL_law_782 : decode cL_law 782 = .ok (.invokestatic 222, 3) := by decide +kernel
theorem dL_law_785 : decode cL_law 785 = .ok (.invokevirtual 115, 3) := by decide +kernel
theorem dL_law_788 : decode cL_law 788 = .ok (.iload 16, 2) := by decide +kernel
theorem dL_law_790 : decode cL_law 790 = .ok (.if_icmp .eq 19, 3) := by decide +kernel
theorem dL_law_793 : decode cL_law 793 = .ok (.aload_n 1, 1) := by decide +kernel
theorem dL_law_794 : decode cL_law 794 = .ok (.iload 11, 2) := by decide +kernel
theorem dL_law_796 : decode cL_law 796 = .ok (.invokevirtual 136, 3) := by decide +kernel
theorem dL_law_799 : decode cL_law 799 = .ok (.bipush 10, 2) := by decide +kernel
theorem dL_law_801 : decode cL_law 801 = .ok (.irem, 1) := by decide +kernel
theorem dL_law_802 : decode cL_law 802 = .ok (.ifCond .gt 7, 3) := by decide +kernel
theorem dL_law_805 : decode cL_law 805 = .ok (.iconst 1, 1) := by decide +kernel
theorem dL_law_806 : decode cL_law 806 = .ok (.goto 4, 3) := by decide +kernel
theorem dL_law_809 : decode cL_law 809 = .ok (.iconst 0, 1) := by decide +kernel
theorem dL_law_810 : decode cL_law 810 = .ok (.istore 5, 2) := by decide +kernel
theorem dL_law_812 : decode cL_law 812 = .ok (.goto 961, 3) := by decide +kernel
theorem dL_law_815 : decode cL_law 815 = .ok (.iload 9, 2) := by decide +kernel
theorem dL_law_817 : decode cL_law 817 = .ok (.bipush 22, 2) := by decide +kernel
theorem dL_law_819 : decode cL_law 819 = .ok (.if_icmp .ge 159, 3) := by decide +kernel
theorem dL_law_822 : decode cL_law 822 = .ok (.iload 8, 2) := by decide +kernel
theorem dL_law_824 : decode cL_law 824 = .ok (.sipush 400, 3) := by decide +kernel
theorem dL_law_827 : decode cL_law 827 = .ok (.idiv, 1) := by decide +kernel
theorem dL_law_828 : decode cL_law 828 = .ok (.iconst 4, 1) := by decide +kernel
theorem dL_law_829 : decode cL_law 829 = .ok (.irem, 1) := by decide +kernel
theorem dL_law_830 : decode cL_law 830 = .ok (.iconst 3, 1) := by decide +kernel
theorem dL_law_831 : decode cL_law 831 = .ok (.idiv, 1) := by decide +kernel
theorem dL_law_832 : decode cL_law 832 = .ok (.istore 15, 2) := by decide +kernel
theorem dL_law_834 : decode cL_law 834 = .ok (.iload 15, 2) := by decide +kernel
theorem dL_law_836 : decode cL_law 836 = .ok (.iconst 1, 1) := by decide +kernel
theorem dL_law_837 : decode cL_law 837 = .ok (.if_icmp .ne 20, 3) := by decide +kernel
theorem dL_law_840 : decode cL_law 840 = .ok (.iconst 1, 1) := by decide +kernel
theorem dL_law_841 : decode cL_law 841 = .ok (.iload 8, 2) := by decide +kernel
theorem dL_law_843 : decode cL_law 843 = .ok (.sipush 800, 3) := by decide +kernel
theorem dL_law_846 : decode cL_law 846 = .ok (.idiv, 1) := by decide +kernel
theorem dL_law_847 : decode cL_law 847 = .ok (.iconst 4, 1) := by decide +kernel
theorem dL_law_848 : decode cL_law 848 = .ok (.irem, 1) := by decide +kernel
theorem dL_law_849 : decode cL_law 849 = .ok (.iconst 3, 1) := by decide +kernel
theorem dL_law_850 : decode cL_law 850 = .ok (.idiv, 1) := by decide +kernel
theorem dL_law_851 : decode cL_law 851 = .ok (.iconst 2, 1) := by decide +kernel
theorem dL_law_852 : decode cL_law 852 = .ok (.imul, 1) := by decide +kernel
theorem dL_law_853 : decode cL_law 853 = .ok (.isub, 1) := by decide +kernel
theorem dL_law_854 : decode cL_law 854 = .ok (.goto 31, 3) := by decide +kernel
theorem dL_law_857 : decode cL_law 857 = .ok (.iload 8, 2) := by decide +kernel
theorem dL_law_859 : decode cL_law 859 = .ok (.sipush 800, 3) := by decide +kernel
theorem dL_law_862 : decode cL_law 862 = .ok (.idiv, 1) := by decide +kernel
theorem dL_law_863 : decode cL_law 863 = .ok (.bipush 8, 2) := by decide +kernel
theorem dL_law_865 : decode cL_law 865 = .ok (.irem, 1) := by decide +kernel
theorem dL_law_866 : decode cL_law 866 = .ok (.iconst 4, 1) := by decide +kernel
theorem dL_law_867 : decode cL_law 867 = .ok (.if_icmp .le 7, 3) := by decide +kernel
theorem dL_law_870 : decode cL_law 870 = .ok (.iconst 2, 1) := by decide +kernel
theorem dL_law_871 : decode cL_law 871 = .ok (.goto 14, 3) := by decide +kernel
theorem dL_law_874 : decode cL_law 874 = .ok (.iload 8, 2) := by decide +kernel
theorem dL_law_876 : decode cL_law 876 = .ok (.sipush 800, 3) := by decide +kernel
theorem dL_law_879 : decode cL_law 879 = .ok (.idiv, 1) := by decide +kernel
theorem dL_law_880 : decode cL_law 880 = .ok (.bipush 8, 2) := by decide +kernel
theorem dL_law_882 : decode cL_law 882 = .ok (.irem, 1) := by decide +kernel
theorem dL_law_883 : decode cL_law 883 = .ok (.iconst 2, 1) := by decide +kernel
theorem dL_law_884 : decode cL_law 884 = .ok (.isub, 1) := by decide +kernel
theorem dL_law_885 : decode cL_law 885 = .ok (.istore 16, 2) := by decide +kernel
theorem dL_law_887 : decode cL_law 887 = .ok (.aload_n 1, 1) := by decide +kernel
theorem dL_law_888 : decode cL_law 888 = .ok (.bipush 15, 2) := by decide +kernel
theorem dL_law_890 : decode cL_law 890 = .ok (.iload 8, 2) := by decide +kernel
theorem dL_law_892 : decode cL_law 892 = .ok (.iconst 3, 1) := by decide +kernel
theorem dL_law_893 : decode cL_law 893 = .ok (.idiv, 1) := by decide +kernel
theorem dL_law_894 : decode cL_law 894 = .ok (.bipush 6, 2) := by decide +kernel
theorem dL_law_896 : decode cL_law 896 = .ok (.irem, 1) := by decide +kernel
theorem dL_law_897 : decode cL_law 897 = .ok (.iload 11, 2) := by decide +kernel
theorem dL_law_899 : decode cL_law 899 = .ok (.iload 12, 2) := by decide +kernel
theorem dL_law_901 : decode cL_law 901 = .ok (.iload 15, 2) := by decide +kernel
theorem dL_law_903 : decode cL_law 903 = .ok (.iload 16, 2) := by decide +kernel
theorem dL_law_905 : decode cL_law 905 = .ok (.invokestatic 241, 3) := by decide +kernel
theorem dL_law_908 : decode cL_law 908 = .ok (.istore 17, 2) := by decide +kernel
theorem dL_law_910 : decode cL_law 910 = .ok (.iload 17, 2) := by decide +kernel
theorem dL_law_912 : decode cL_law 912 = .ok (.sipush (-1263), 3) := by decide +kernel
theorem dL_law_915 : decode cL_law 915 = .ok (.if_icmp .eq 53, 3) := by decide +kernel
theorem dL_law_918 : decode cL_law 918 = .ok (.aload_n 1, 1) := by decide +kernel
theorem dL_law_919 : decode cL_law 919 = .ok (.iload 8, 2) := by decide +kernel
theorem dL_law_921 : decode cL_law 921 = .ok (.iconst 3, 1) := by decide +kernel
theorem dL_law_922 : decode cL_law 922 = .ok (.idiv, 1) := by decide +kernel
theorem dL_law_923 : decode cL_law 923 = .ok (.bipush 6, 2) := by decide +kernel
theorem dL_law_925 : decode cL_law 925 = .ok (.irem, 1) := by decide +kernel
theorem dL_law_926 : decode cL_law 926 = .ok (.iload 11, 2) := by decide +kernel
theorem dL_law_928 : decode cL_law 928 = .ok (.iload 12, 2) := by decide +kernel
theorem dL_law_930 : decode cL_law 930 = .ok (.iload 15, 2) := by decide +kernel
theorem dL_law_932 : decode cL_law 932 = .ok (.invokevirtual 142, 3) := by decide +kernel
theorem dL_law_935 : decode cL_law 935 = .ok (.iload 16, 2) := by decide +kernel
theorem dL_law_937 : decode cL_law 937 = .ok (.if_icmp .ne 35, 3) := by decide +kernel
theorem dL_law_940 : decode cL_law 940 = .ok (.iload 17, 2) := by decide +kernel
theorem dL_law_942 : decode cL_law 942 = .ok (.aload_n 1, 1) := by decide +kernel
theorem dL_law_943 : decode cL_law 943 = .ok (.iload 8, 2) := by decide +kernel
theorem dL_law_945 : decode cL_law 945 = .ok (.iconst 3, 1) := by decide +kernel
theorem dL_law_946 : decode cL_law 946 = .ok (.idiv, 1) := by decide +kernel
theorem dL_law_947 : decode cL_law 947 = .ok (.bipush 6, 2) := by decide +kernel
theorem dL_law_949 : decode cL_law 949 = .ok (.irem, 1) := by decide +kernel
theorem dL_law_950 : decode cL_law 950 = .ok (.iload 11, 2) := by decide +kernel
theorem dL_law_952 : decode cL_law 952 = .ok (.aload_n 1, 1) := by decide +kernel
theorem dL_law_953 : decode cL_law 953 = .ok (.iload 11, 2) := by decide +kernel
theorem dL_law_955 : decode cL_law 955 = .ok (.invokevirtual 127, 3) := by decide +kernel
theorem dL_law_958 : decode cL_law 958 = .ok (.iconst 1, 1) := by decide +kernel
theorem dL_law_959 : decode cL_law 959 = .ok (.isub, 1) := by decide +kernel
theorem dL_law_960 : decode cL_law 960 = .ok (.iload 15, 2) := by decide +kernel
theorem dL_law_962 : decode cL_law 962 = .ok (.invokevirtual 142, 3) := by decide +kernel
theorem dL_law_965 : decode cL_law 965 = .ok (.if_icmp .ne 7, 3) := by decide +kernel
theorem dL_law_968 : decode cL_law 968 = .ok (.iconst 1, 1) := by decide +kernel
theorem dL_law_969 : decode cL_law 969 = .ok (.goto 4, 3) := by decide +kernel
theorem dL_law_972 : decode cL_law 972 = .ok (.iconst 0, 1) := by decide +kernel
theorem dL_law_973 : decode cL_law 973 = .ok (.istore 5, 2) := by decide +kernel
theorem dL_law_975 : decode cL_law 975 = .ok (.goto 798, 3) := by decide +kernel
theorem dL_law_978 : decode cL_law 978 = .ok (.iload 9, 2) := by decide +kernel
theorem dL_law_980 : decode cL_law 980 = .ok (.bipush 24, 2) := by decide +kernel
theorem dL_law_982 : decode cL_law 982 = .ok (.if_icmp .ge 198, 3) := by decide +kernel
theorem dL_law_985 : decode cL_law 985 = .ok (.aload_n 1, 1) := by decide +kernel
theorem dL_law_986 : decode cL_law 986 = .ok (.aload_n 1, 1) := by decide +kernel
theorem dL_law_987 : decode cL_law 987 = .ok (.iload 11, 2) := by decide +kernel
theorem dL_law_989 : decode cL_law 989 = .ok (.iload 12, 2) := by decide +kernel
theorem dL_law_991 : decode cL_law 991 = .ok (.invokevirtual 130, 3) := by decide +kernel
theorem dL_law_994 : decode cL_law 994 = .ok (.iload 13, 2) := by decide +kernel
theorem dL_law_996 : decode cL_law 996 = .ok (.invokestatic 203, 3) := by decide +kernel
theorem dL_law_999 : decode cL_law 999 = .ok (.istore 15, 2) := by decide +kernel
theorem dL_law_1001 : decode cL_law 1001 = .ok (.iload 15, 2) := by decide +kernel
theorem dL_law_1003 : decode cL_law 1003 = .ok (.ifCond .ne 7, 3) := by decide +kernel
theorem dL_law_1006 : decode cL_law 1006 = .ok (.iconst 0, 1) := by decide +kernel
theorem dL_law_1007 : decode cL_law 1007 = .ok (.goto 11, 3) := by decide +kernel
theorem dL_law_1010 : decode cL_law 1010 = .ok (.iload 8, 2) := by decide +kernel
theorem dL_law_1012 : decode cL_law 1012 = .ok (.bipush 80, 2) := by decide +kernel
theorem dL_law_1014 : decode cL_law 1014 = .ok (.idiv, 1) := by decide +kernel
theorem dL_law_1015 : decode cL_law 1015 = .ok (.iload 15, 2) := by decide +kernel
theorem dL_law_1017 : decode cL_law 1017 = .ok (.irem, 1) := by decide +kernel
theorem dL_law_1018 : decode cL_law 1018 = .ok (.istore 16, 2) := by decide +kernel
theorem dL_law_1020 : decode cL_law 1020 = .ok (.iload 15, 2) := by decide +kernel
theorem dL_law_1022 : decode cL_law 1022 = .ok (.ifCond .ne 7, 3) := by decide +kernel
theorem dL_law_1025 : decode cL_law 1025 = .ok (.iconst 1, 1) := by decide +kernel
theorem dL_law_1026 : decode cL_law 1026 = .ok (.goto 17, 3) := by decide +kernel
theorem dL_law_1029 : decode cL_law 1029 = .ok (.iconst 1, 1) := by decide +kernel
theorem dL_law_1030 : decode cL_law 1030 = .ok (.iload 8, 2) := by decide +kernel
theorem dL_law_1032 : decode cL_law 1032 = .ok (.sipush 800, 3) := by decide +kernel
theorem dL_law_1035 : decode cL_law 1035 = .ok (.idiv, 1) := by decide +kernel
theorem dL_law_1036 : decode cL_law 1036 = .ok (.iload 15, 2) := by decide +kernel
theorem dL_law_1038 : decode cL_law 1038 = .ok (.iload 16, 2) := by decide +kernel
theorem dL_law_1040 : decode cL_law 1040 = .ok (.isub, 1) := by decide +kernel
theorem dL_law_1041 : decode cL_law 1041 = .ok (.irem, 1) := by decide +kernel
theorem dL_law_1042 : decode cL_law 1042 = .ok (.iadd, 1) := by decide +kernel
theorem dL_law_1043 : decode cL_law 1043 = .ok (.istore 17, 2) := by decide +kernel
theorem dL_law_1045 : decode cL_law 1045 = .ok (.aload 4, 2) := by decide +kernel
theorem dL_law_1047 : decode cL_law 1047 = .ok (.iconst 0, 1) := by decide +kernel
theorem dL_law_1048 : decode cL_law 1048 = .ok (.iaload, 1) := by decide +kernel
theorem dL_law_1049 : decode cL_law 1049 = .ok (.bipush 60, 2) := by decide +kernel
theorem dL_law_1051 : decode cL_law 1051 = .ok (.if_icmp .ge 22, 3) := by decide +kernel
theorem dL_law_1054 : decode cL_law 1054 = .ok (.aload_n 1, 1) := by decide +kernel
theorem dL_law_1055 : decode cL_law 1055 = .ok (.iload 10, 2) := by decide +kernel
theorem dL_law_1057 : decode cL_law 1057 = .ok (.iload 11, 2) := by decide +kernel
theorem dL_law_1059 : decode cL_law 1059 = .ok (.iload 12, 2) := by decide +kernel
theorem dL_law_1061 : decode cL_law 1061 = .ok (.iload 13, 2) := by decide +kernel
theorem dL_law_1063 : decode cL_law 1063 = .ok (.iload 16, 2) := by decide +kernel
theorem dL_law_1065 : decode cL_law 1065 = .ok (.iload 17, 2) := by decide +kernel
theorem dL_law_1067 : decode cL_law 1067 = .ok (.invokestatic 246, 3) := by decide +kernel
theorem dL_law_1070 : decode cL_law 1070 = .ok (.goto 6, 3) := by decide +kernel
theorem dL_law_1073 : decode cL_law 1073 = .ok (.sipush (-1263), 3) := by decide +kernel
theorem dL_law_1076 : decode cL_law 1076 = .ok (.istore 18, 2) := by decide +kernel
theorem dL_law_1078 : decode cL_law 1078 = .ok (.iload 18, 2) := by decide +kernel
theorem dL_law_1080 : decode cL_law 1080 = .ok (.ifCond .lt 42, 3) := by decide +kernel
theorem dL_law_1083 : decode cL_law 1083 = .ok (.aload_n 3, 1) := by decide +kernel
theorem dL_law_1084 : decode cL_law 1084 = .ok (.aload 4, 2) := by decide +kernel
theorem dL_law_1086 : decode cL_law 1086 = .ok (.iconst 0, 1) := by decide +kernel
theorem dL_law_1087 : decode cL_law 1087 = .ok (.iaload, 1) := by decide +kernel
theorem dL_law_1088 : decode cL_law 1088 = .ok (.iload 11, 2) := by decide +kernel
theorem dL_law_1090 : decode cL_law 1090 = .ok (.iload 12, 2) := by decide +kernel
theorem dL_law_1092 : decode cL_law 1092 = .ok (.iconst 5, 1) := by decide +kernel
theorem dL_law_1093 : decode cL_law 1093 = .ok (.ishl, 1) := by decide +kernel
theorem dL_law_1094 : decode cL_law 1094 = .ok (.ior, 1) := by decide +kernel
theorem dL_law_1095 : decode cL_law 1095 = .ok (.iload 13, 2) := by decide +kernel
theorem dL_law_1097 : decode cL_law 1097 = .ok (.bipush 12, 2) := by decide +kernel
theorem dL_law_1099 : decode cL_law 1099 = .ok (.ishl, 1) := by decide +kernel
theorem dL_law_1100 : decode cL_law 1100 = .ok (.ior, 1) := by decide +kernel
theorem dL_law_1101 : decode cL_law 1101 = .ok (.iload 16, 2) := by decide +kernel
theorem dL_law_1103 : decode cL_law 1103 = .ok (.bipush 14, 2) := by decide +kernel
theorem dL_law_1105 : decode cL_law 1105 = .ok (.ishl, 1) := by decide +kernel
theorem dL_law_1106 : decode cL_law 1106 = .ok (.ior, 1) := by decide +kernel
theorem dL_law_1107 : decode cL_law 1107 = .ok (.iload 17, 2) := by decide +kernel
theorem dL_law_1109 : decode cL_law 1109 = .ok (.bipush 18, 2) := by decide +kernel
theorem dL_law_1111 : decode cL_law 1111 = .ok (.ishl, 1) := by decide +kernel
theorem dL_law_1112 : decode cL_law 1112 = .ok (.ior, 1) := by decide +kernel
theorem dL_law_1113 : decode cL_law 1113 = .ok (.iastore, 1) := by decide +kernel
theorem dL_law_1114 : decode cL_law 1114 = .ok (.aload 4, 2) := by decide +kernel
theorem dL_law_1116 : decode cL_law 1116 = .ok (.iconst 0, 1) := by decide +kernel
theorem dL_law_1117 : decode cL_law 1117 = .ok (.dup2, 1) := by decide +kernel
theorem dL_law_1118 : decode cL_law 1118 = .ok (.iaload, 1) := by decide +kernel
theorem dL_law_1119 : decode cL_law 1119 = .ok (.iconst 1, 1) := by decide +kernel
theorem dL_law_1120 : decode cL_law 1120 = .ok (.iadd, 1) := by decide +kernel
theorem dL_law_1121 : decode cL_law 1121 = .ok (.iastore, 1) := by decide +kernel
theorem dL_law_1122 : decode cL_law 1122 = .ok (.iload 18, 2) := by decide +kernel
theorem dL_law_1124 : decode cL_law 1124 = .ok (.iload 15, 2) := by decide +kernel
theorem dL_law_1126 : decode cL_law 1126 = .ok (.ifCond .ne 24, 3) := by decide +kernel
theorem dL_law_1129 : decode cL_law 1129 = .ok (.aload 4, 2) := by decide +kernel
theorem dL_law_1131 : decode cL_law 1131 = .ok (.iconst 0, 1) := by decide +kernel
theorem dL_law_1132 : decode cL_law 1132 = .ok (.iaload, 1) := by decide +kernel
theorem dL_law_1133 : decode cL_law 1133 = .ok (.bipush 60, 2) := by decide +kernel
theorem dL_law_1135 : decode cL_law 1135 = .ok (.if_icmp .ge 9, 3) := by decide +kernel
theorem dL_law_1138 : decode cL_law 1138 = .ok (.sipush (-1262), 3) := by decide +kernel
theorem dL_law_1141 : decode cL_law 1141 = .ok (.goto 26, 3) := by decide +kernel
theorem dL_law_1144 : decode cL_law 1144 = .ok (.sipush (-1263), 3) := by decide +kernel
theorem dL_law_1147 : decode cL_law 1147 = .ok (.goto 20, 3) := by decide +kernel
theorem dL_law_1150 : decode cL_law 1150 = .ok (.iload 18, 2) := by decide +kernel
theorem dL_law_1152 : decode cL_law 1152 = .ok (.ifCond .ge 9, 3) := by decide +kernel
theorem dL_law_1155 : decode cL_law 1155 = .ok (.sipush (-1263), 3) := by decide +kernel
theorem dL_law_1158 : decode cL_law 1158 = .ok (.goto 9, 3) := by decide +kernel
theorem dL_law_1161 : decode cL_law 1161 = .ok (.aload 4, 2) := by decide +kernel
theorem dL_law_1163 : decode cL_law 1163 = .ok (.iconst 0, 1) := by decide +kernel
theorem dL_law_1164 : decode cL_law 1164 = .ok (.iaload, 1) := by decide +kernel
theorem dL_law_1165 : decode cL_law 1165 = .ok (.iconst 1, 1) := by decide +kernel
theorem dL_law_1166 : decode cL_law 1166 = .ok (.isub, 1) := by decide +kernel
theorem dL_law_1167 : decode cL_law 1167 = .ok (.if_icmp .ne 7, 3) := by decide +kernel
theorem dL_law_1170 : decode cL_law 1170 = .ok (.iconst 1, 1) := by decide +kernel
theorem dL_law_1171 : decode cL_law 1171 = .ok (.goto 4, 3) := by decide +kernel
theorem dL_law_1174 : decode cL_law 1174 = .ok (.iconst 0, 1) := by decide +kernel
theorem dL_law_1175 : decode cL_law 1175 = .ok (.istore 5, 2) := by decide +kernel
theorem dL_law_1177 : decode cL_law 1177 = .ok (.goto 596, 3) := by decide +kernel
theorem dL_law_1180 : decode cL_law 1180 = .ok (.iload 9, 2) := by decide +kernel
theorem dL_law_1182 : decode cL_law 1182 = .ok (.bipush 24, 2) := by decide +kernel
theorem dL_law_1184 : decode cL_law 1184 = .ok (.if_icmp .ne 86, 3) := by decide +kernel
theorem dL_law_1187 : decode cL_law 1187 = .ok (.aload_n 1, 1) := by decide +kernel
theorem dL_law_1188 : decode cL_law 1188 = .ok (.bipush 12, 2) := by decide +kernel
theorem dL_law_1190 : decode cL_law 1190 = .ok (.iload 10, 2) := by decide +kernel
theorem dL_law_1192 : decode cL_law 1192 = .ok (.iload 11, 2) := by decide +kernel
theorem dL_law_1194 : decode cL_law 1194 = .ok (.iconst 0, 1) := by decide +kernel
theorem dL_law_1195 : decode cL_law 1195 = .ok (.iconst 0, 1) := by decide +kernel
theorem dL_law_1196 : decode cL_law 1196 = .ok (.iconst 0, 1) := by decide +kernel
theorem dL_law_1197 : decode cL_law 1197 = .ok (.invokestatic 241, 3) := by decide +kernel
theorem dL_law_1200 : decode cL_law 1200 = .ok (.istore 15, 2) := by decide +kernel
theorem dL_law_1202 : decode cL_law 1202 = .ok (.iload 15, 2) := by decide +kernel
theorem dL_law_1204 : decode cL_law 1204 = .ok (.sipush (-1263), 3) := by decide +kernel
theorem dL_law_1207 : decode cL_law 1207 = .ok (.if_icmp .eq 53, 3) := by decide +kernel
theorem dL_law_1210 : decode cL_law 1210 = .ok (.iload 15, 2) := by decide +kernel
theorem dL_law_1212 : decode cL_law 1212 = .ok (.ifCond .le 52, 3) := by decide +kernel
theorem dL_law_1215 : decode cL_law 1215 = .ok (.iload 10, 2) := by decide +kernel
theorem dL_law_1217 : decode cL_law 1217 = .ok (.aload_n 2, 1) := by decide +kernel
theorem dL_law_1218 : decode cL_law 1218 = .ok (.iconst 4, 1) := by decide +kernel
theorem dL_law_1219 : decode cL_law 1219 = .ok (.iload 11, 2) := by decide +kernel
theorem dL_law_1221 : decode cL_law 1221 = .ok (.imul, 1) := by decide +kernel
theorem dL_law_1222 : decode cL_law 1222 = .ok (.iaload, 1) := by decide +kernel
theorem dL_law_1223 : decode cL_law 1223 = .ok (.if_icmp .eq 18, 3) := by decide +kernel
theorem dL_law_1226 : decode cL_law 1226 = .ok (.aload_n 1, 1) := by decide +kernel
theorem dL_law_1227 : decode cL_law 1227 = .ok (.iload 11, 2) := by decide +kernel
theorem dL_law_1229 : decode cL_law 1229 = .ok (.invokevirtual 152, 3) := by decide +kernel
theorem dL_law_1232 : decode cL_law 1232 = .ok (.iload 10, 2) := by decide +kernel
theorem dL_law_1234 : decode cL_law 1234 = .ok (.ishr, 1) := by decide +kernel
theorem dL_law_1235 : decode cL_law 1235 = .ok (.iconst 1, 1) := by decide +kernel
theorem dL_law_1236 : decode cL_law 1236 = .ok (.iand, 1) := by decide +kernel
theorem dL_law_1237 : decode cL_law 1237 = .ok (.iconst 1, 1) := by decide +kernel
theorem dL_law_1238 : decode cL_law 1238 = .ok (.if_icmp .ne 26, 3) := by decide +kernel
theorem dL_law_1241 : decode cL_law 1241 = .ok (.aload_n 1, 1) := by decide +kernel
theorem dL_law_1242 : decode cL_law 1242 = .ok (.bipush 12, 2) := by decide +kernel
theorem dL_law_1244 : decode cL_law 1244 = .ok (.iload 10, 2) := by decide +kernel
theorem dL_law_1246 : decode cL_law 1246 = .ok (.iload 11, 2) := by decide +kernel
theorem dL_law_1248 : decode cL_law 1248 = .ok (.iconst 0, 1) := by decide +kernel
theorem dL_law_1249 : decode cL_law 1249 = .ok (.iconst 0, 1) := by decide +kernel
theorem dL_law_1250 : decode cL_law 1250 = .ok (.iconst 0, 1) := by decide +kernel
theorem dL_law_1251 : decode cL_law 1251 = .ok (.invokestatic 241, 3) := by decide +kernel
theorem dL_law_1254 : decode cL_law 1254 = .ok (.sipush (-1263), 3) := by decide +kernel
theorem dL_law_1257 : decode cL_law 1257 = .ok (.if_icmp .ne 7, 3) := by decide +kernel
theorem dL_law_1260 : decode cL_law 1260 = .ok (.iconst 1, 1) := by decide +kernel
theorem dL_law_1261 : decode cL_law 1261 = .ok (.goto 4, 3) := by decide +kernel
theorem dL_law_1264 : decode cL_law 1264 = .ok (.iconst 0, 1) := by decide +kernel
theorem dL_law_1265 : decode cL_law 1265 = .ok (.istore 5, 2) := by decide +kernel
theorem dL_law_1267 : decode cL_law 1267 = .ok (.goto 506, 3) := by decide +kernel
theorem dL_law_1270 : decode cL_law 1270 = .ok (.iload 9, 2) := by decide +kernel
theorem dL_law_1272 : decode cL_law 1272 = .ok (.bipush 27, 2) := by decide +kernel
theorem dL_law_1274 : decode cL_law 1274 = .ok (.if_icmp .ge 16, 3) := by decide +kernel
theorem dL_law_1277 : decode cL_law 1277 = .ok (.aload_n 1, 1) := by decide +kernel
theorem dL_law_1278 : decode cL_law 1278 = .ok (.iload 10, 2) := by decide +kernel
theorem dL_law_1280 : decode cL_law 1280 = .ok (.iload 11, 2) := by decide +kernel
theorem dL_law_1282 : decode cL_law 1282 = .ok (.invokestatic 261, 3) := by decide +kernel
theorem dL_law_1285 : decode cL_law 1285 = .ok (.istore 5, 2) := by decide +kernel
theorem dL_law_1287 : decode cL_law 1287 = .ok (.goto 486, 3) := by decide +kernel
theorem dL_law_1290 : decode cL_law 1290 = .ok (.iload 9, 2) := by decide +kernel
theorem dL_law_1292 : decode cL_law 1292 = .ok (.bipush 27, 2) := by decide +kernel
theorem dL_law_1294 : decode cL_law 1294 = .ok (.if_icmp .ne 91, 3) := by decide +kernel
theorem dL_law_1297 : decode cL_law 1297 = .ok (.iload 8, 2) := by decide +kernel
theorem dL_law_1299 : decode cL_law 1299 = .ok (.iconst 2, 1) := by decide +kernel
theorem dL_law_1300 : decode cL_law 1300 = .ok (.irem, 1) := by decide +kernel
theorem dL_law_1301 : decode cL_law 1301 = .ok (.ifCond .ne 35, 3) := by decide +kernel
theorem dL_law_1304 : decode cL_law 1304 = .ok (.aload_n 1, 1) := by decide +kernel
theorem dL_law_1305 : decode cL_law 1305 = .ok (.bipush 19, 2) := by decide +kernel
theorem dL_law_1307 : decode cL_law 1307 = .ok (.iload 8, 2) := by decide +kernel
theorem dL_law_1309 : decode cL_law 1309 = .ok (.iconst 2, 1) := by decide +kernel
