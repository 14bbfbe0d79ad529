/-! the law: its instructions -/
theorem dL_786 : decode code 786 = .ok (.invokevirtual 99, 3) := by decide +kernel
theorem dL_789 : decode code 789 = .ok (.aload_n 2, 1) := by decide +kernel
theorem dL_790 : decode code 790 = .ok (.aload_n 0, 1) := by decide +kernel
theorem dL_791 : decode code 791 = .ok (.iload_n 3, 1) := by decide +kernel
theorem dL_792 : decode code 792 = .ok (.iconst 1, 1) := by decide +kernel
theorem dL_793 : decode code 793 = .ok (.iadd, 1) := by decide +kernel
theorem dL_794 : decode code 794 = .ok (.iaload, 1) := by decide +kernel
theorem dL_795 : decode code 795 = .ok (.aload_n 0, 1) := by decide +kernel
theorem dL_796 : decode code 796 = .ok (.iload_n 3, 1) := by decide +kernel
theorem dL_797 : decode code 797 = .ok (.iconst 2, 1) := by decide +kernel
theorem dL_798 : decode code 798 = .ok (.iadd, 1) := by decide +kernel
theorem dL_799 : decode code 799 = .ok (.iaload, 1) := by decide +kernel
theorem dL_800 : decode code 800 = .ok (.aload_n 0, 1) := by decide +kernel
theorem dL_801 : decode code 801 = .ok (.iload_n 3, 1) := by decide +kernel
theorem dL_802 : decode code 802 = .ok (.iconst 3, 1) := by decide +kernel
theorem dL_803 : decode code 803 = .ok (.iadd, 1) := by decide +kernel
theorem dL_804 : decode code 804 = .ok (.iaload, 1) := by decide +kernel
theorem dL_805 : decode code 805 = .ok (.invokevirtual 102, 3) := by decide +kernel
theorem dL_808 : decode code 808 = .ok (.if_icmp .eq 523, 3) := by decide +kernel
theorem dL_811 : decode code 811 = .ok (.iconst 0, 1) := by decide +kernel
theorem dL_812 : decode code 812 = .ok (.ireturn, 1) := by decide +kernel
theorem dL_813 : decode code 813 = .ok (.aload_n 1, 1) := by decide +kernel
theorem dL_814 : decode code 814 = .ok (.aload_n 0, 1) := by decide +kernel
theorem dL_815 : decode code 815 = .ok (.iload_n 3, 1) := by decide +kernel
theorem dL_816 : decode code 816 = .ok (.iconst 1, 1) := by decide +kernel
theorem dL_817 : decode code 817 = .ok (.iadd, 1) := by decide +kernel
theorem dL_818 : decode code 818 = .ok (.iaload, 1) := by decide +kernel
theorem dL_819 : decode code 819 = .ok (.aload_n 0, 1) := by decide +kernel
theorem dL_820 : decode code 820 = .ok (.iload_n 3, 1) := by decide +kernel
theorem dL_821 : decode code 821 = .ok (.iconst 2, 1) := by decide +kernel
theorem dL_822 : decode code 822 = .ok (.iadd, 1) := by decide +kernel
theorem dL_823 : decode code 823 = .ok (.iaload, 1) := by decide +kernel
theorem dL_824 : decode code 824 = .ok (.invokevirtual 103, 3) := by decide +kernel
theorem dL_827 : decode code 827 = .ok (.aload_n 2, 1) := by decide +kernel
theorem dL_828 : decode code 828 = .ok (.aload_n 0, 1) := by decide +kernel
theorem dL_829 : decode code 829 = .ok (.iload_n 3, 1) := by decide +kernel
theorem dL_830 : decode code 830 = .ok (.iconst 1, 1) := by decide +kernel
theorem dL_831 : decode code 831 = .ok (.iadd, 1) := by decide +kernel
theorem dL_832 : decode code 832 = .ok (.iaload, 1) := by decide +kernel
theorem dL_833 : decode code 833 = .ok (.aload_n 0, 1) := by decide +kernel
theorem dL_834 : decode code 834 = .ok (.iload_n 3, 1) := by decide +kernel
theorem dL_835 : decode code 835 = .ok (.iconst 2, 1) := by decide +kernel
theorem dL_836 : decode code 836 = .ok (.iadd, 1) := by decide +kernel
theorem dL_837 : decode code 837 = .ok (.iaload, 1) := by decide +kernel
theorem dL_838 : decode code 838 = .ok (.invokevirtual 106, 3) := by decide +kernel
theorem dL_841 : decode code 841 = .ok (.if_icmp .eq 490, 3) := by decide +kernel
theorem dL_844 : decode code 844 = .ok (.iconst 0, 1) := by decide +kernel
theorem dL_845 : decode code 845 = .ok (.ireturn, 1) := by decide +kernel
theorem dL_846 : decode code 846 = .ok (.aload_n 1, 1) := by decide +kernel
theorem dL_847 : decode code 847 = .ok (.aload_n 0, 1) := by decide +kernel
theorem dL_848 : decode code 848 = .ok (.iload_n 3, 1) := by decide +kernel
theorem dL_849 : decode code 849 = .ok (.iconst 1, 1) := by decide +kernel
theorem dL_850 : decode code 850 = .ok (.iadd, 1) := by decide +kernel
theorem dL_851 : decode code 851 = .ok (.iaload, 1) := by decide +kernel
theorem dL_852 : decode code 852 = .ok (.aload_n 0, 1) := by decide +kernel
theorem dL_853 : decode code 853 = .ok (.iload_n 3, 1) := by decide +kernel
theorem dL_854 : decode code 854 = .ok (.iconst 2, 1) := by decide +kernel
theorem dL_855 : decode code 855 = .ok (.iadd, 1) := by decide +kernel
theorem dL_856 : decode code 856 = .ok (.iaload, 1) := by decide +kernel
theorem dL_857 : decode code 857 = .ok (.aload_n 0, 1) := by decide +kernel
theorem dL_858 : decode code 858 = .ok (.iload_n 3, 1) := by decide +kernel
theorem dL_859 : decode code 859 = .ok (.iconst 3, 1) := by decide +kernel
theorem dL_860 : decode code 860 = .ok (.iadd, 1) := by decide +kernel
theorem dL_861 : decode code 861 = .ok (.iaload, 1) := by decide +kernel
theorem dL_862 : decode code 862 = .ok (.invokevirtual 107, 3) := by decide +kernel
theorem dL_865 : decode code 865 = .ok (.aload_n 2, 1) := by decide +kernel
theorem dL_866 : decode code 866 = .ok (.aload_n 0, 1) := by decide +kernel
theorem dL_867 : decode code 867 = .ok (.iload_n 3, 1) := by decide +kernel
theorem dL_868 : decode code 868 = .ok (.iconst 1, 1) := by decide +kernel
theorem dL_869 : decode code 869 = .ok (.iadd, 1) := by decide +kernel
theorem dL_870 : decode code 870 = .ok (.iaload, 1) := by decide +kernel
theorem dL_871 : decode code 871 = .ok (.aload_n 0, 1) := by decide +kernel
theorem dL_872 : decode code 872 = .ok (.iload_n 3, 1) := by decide +kernel
theorem dL_873 : decode code 873 = .ok (.iconst 2, 1) := by decide +kernel
theorem dL_874 : decode code 874 = .ok (.iadd, 1) := by decide +kernel
theorem dL_875 : decode code 875 = .ok (.iaload, 1) := by decide +kernel
theorem dL_876 : decode code 876 = .ok (.aload_n 0, 1) := by decide +kernel
theorem dL_877 : decode code 877 = .ok (.iload_n 3, 1) := by decide +kernel
theorem dL_878 : decode code 878 = .ok (.iconst 3, 1) := by decide +kernel
theorem dL_879 : decode code 879 = .ok (.iadd, 1) := by decide +kernel
theorem dL_880 : decode code 880 = .ok (.iaload, 1) := by decide +kernel
theorem dL_881 : decode code 881 = .ok (.invokevirtual 110, 3) := by decide +kernel
theorem dL_884 : decode code 884 = .ok (.if_icmp .eq 447, 3) := by decide +kernel
theorem dL_887 : decode code 887 = .ok (.iconst 0, 1) := by decide +kernel
theorem dL_888 : decode code 888 = .ok (.ireturn, 1) := by decide +kernel
theorem dL_889 : decode code 889 = .ok (.aload_n 1, 1) := by decide +kernel
theorem dL_890 : decode code 890 = .ok (.aload_n 0, 1) := by decide +kernel
theorem dL_891 : decode code 891 = .ok (.iload_n 3, 1) := by decide +kernel
theorem dL_892 : decode code 892 = .ok (.iconst 1, 1) := by decide +kernel
theorem dL_893 : decode code 893 = .ok (.iadd, 1) := by decide +kernel
theorem dL_894 : decode code 894 = .ok (.iaload, 1) := by decide +kernel
theorem dL_895 : decode code 895 = .ok (.aload_n 0, 1) := by decide +kernel
theorem dL_896 : decode code 896 = .ok (.iload_n 3, 1) := by decide +kernel
theorem dL_897 : decode code 897 = .ok (.iconst 2, 1) := by decide +kernel
theorem dL_898 : decode code 898 = .ok (.iadd, 1) := by decide +kernel
theorem dL_899 : decode code 899 = .ok (.iaload, 1) := by decide +kernel
theorem dL_900 : decode code 900 = .ok (.aload_n 0, 1) := by decide +kernel
theorem dL_901 : decode code 901 = .ok (.iload_n 3, 1) := by decide +kernel
theorem dL_902 : decode code 902 = .ok (.iconst 3, 1) := by decide +kernel
theorem dL_903 : decode code 903 = .ok (.iadd, 1) := by decide +kernel
theorem dL_904 : decode code 904 = .ok (.iaload, 1) := by decide +kernel
theorem dL_905 : decode code 905 = .ok (.ifCond .eq 7, 3) := by decide +kernel
theorem dL_908 : decode code 908 = .ok (.iconst 1, 1) := by decide +kernel
theorem dL_909 : decode code 909 = .ok (.goto 4, 3) := by decide +kernel
theorem dL_912 : decode code 912 = .ok (.iconst 0, 1) := by decide +kernel
theorem dL_913 : decode code 913 = .ok (.invokevirtual 111, 3) := by decide +kernel
theorem dL_916 : decode code 916 = .ok (.aload_n 2, 1) := by decide +kernel
theorem dL_917 : decode code 917 = .ok (.aload_n 0, 1) := by decide +kernel
theorem dL_918 : decode code 918 = .ok (.iload_n 3, 1) := by decide +kernel
theorem dL_919 : decode code 919 = .ok (.iconst 1, 1) := by decide +kernel
theorem dL_920 : decode code 920 = .ok (.iadd, 1) := by decide +kernel
theorem dL_921 : decode code 921 = .ok (.iaload, 1) := by decide +kernel
theorem dL_922 : decode code 922 = .ok (.aload_n 0, 1) := by decide +kernel
theorem dL_923 : decode code 923 = .ok (.iload_n 3, 1) := by decide +kernel
theorem dL_924 : decode code 924 = .ok (.iconst 2, 1) := by decide +kernel
theorem dL_925 : decode code 925 = .ok (.iadd, 1) := by decide +kernel
theorem dL_926 : decode code 926 = .ok (.iaload, 1) := by decide +kernel
theorem dL_927 : decode code 927 = .ok (.aload_n 0, 1) := by decide +kernel
theorem dL_928 : decode code 928 = .ok (.iload_n 3, 1) := by decide +kernel
theorem dL_929 : decode code 929 = .ok (.iconst 3, 1) := by decide +kernel
theorem dL_930 : decode code 930 = .ok (.iadd, 1) := by decide +kernel
theorem dL_931 : decode code 931 = .ok (.iaload, 1) := by decide +kernel
theorem dL_932 : decode code 932 = .ok (.ifCond .eq 7, 3) := by decide +kernel
theorem dL_935 : decode code 935 = .ok (.iconst 1, 1) := by decide +kernel
theorem dL_936 : decode code 936 = .ok (.goto 4, 3) := by decide +kernel
theorem dL_939 : decode code 939 = .ok (.iconst 0, 1) := by decide +kernel
theorem dL_940 : decode code 940 = .ok (.invokevirtual 115, 3) := by decide +kernel
theorem dL_943 : decode code 943 = .ok (.if_icmp .eq 388, 3) := by decide +kernel
theorem dL_946 : decode code 946 = .ok (.iconst 0, 1) := by decide +kernel
theorem dL_947 : decode code 947 = .ok (.ireturn, 1) := by decide +kernel
theorem dL_948 : decode code 948 = .ok (.aload_n 1, 1) := by decide +kernel
theorem dL_949 : decode code 949 = .ok (.aload_n 0, 1) := by decide +kernel
theorem dL_950 : decode code 950 = .ok (.iload_n 3, 1) := by decide +kernel
theorem dL_951 : decode code 951 = .ok (.iconst 1, 1) := by decide +kernel
theorem dL_952 : decode code 952 = .ok (.iadd, 1) := by decide +kernel
theorem dL_953 : decode code 953 = .ok (.iaload, 1) := by decide +kernel
theorem dL_954 : decode code 954 = .ok (.aload_n 0, 1) := by decide +kernel
theorem dL_955 : decode code 955 = .ok (.iload_n 3, 1) := by decide +kernel
theorem dL_956 : decode code 956 = .ok (.iconst 2, 1) := by decide +kernel
theorem dL_957 : decode code 957 = .ok (.iadd, 1) := by decide +kernel
theorem dL_958 : decode code 958 = .ok (.iaload, 1) := by decide +kernel
theorem dL_959 : decode code 959 = .ok (.invokevirtual 116, 3) := by decide +kernel
theorem dL_962 : decode code 962 = .ok (.aload_n 2, 1) := by decide +kernel
theorem dL_963 : decode code 963 = .ok (.aload_n 0, 1) := by decide +kernel
theorem dL_964 : decode code 964 = .ok (.iload_n 3, 1) := by decide +kernel
theorem dL_965 : decode code 965 = .ok (.iconst 1, 1) := by decide +kernel
theorem dL_966 : decode code 966 = .ok (.iadd, 1) := by decide +kernel
theorem dL_967 : decode code 967 = .ok (.iaload, 1) := by decide +kernel
theorem dL_968 : decode code 968 = .ok (.aload_n 0, 1) := by decide +kernel
theorem dL_969 : decode code 969 = .ok (.iload_n 3, 1) := by decide +kernel
theorem dL_970 : decode code 970 = .ok (.iconst 2, 1) := by decide +kernel
theorem dL_971 : decode code 971 = .ok (.iadd, 1) := by decide +kernel
theorem dL_972 : decode code 972 = .ok (.iaload, 1) := by decide +kernel
theorem dL_973 : decode code 973 = .ok (.invokevirtual 119, 3) := by decide +kernel
theorem dL_976 : decode code 976 = .ok (.if_icmp .eq 355, 3) := by decide +kernel
theorem dL_979 : decode code 979 = .ok (.iconst 0, 1) := by decide +kernel
theorem dL_980 : decode code 980 = .ok (.ireturn, 1) := by decide +kernel
theorem dL_981 : decode code 981 = .ok (.aload_n 1, 1) := by decide +kernel
theorem dL_982 : decode code 982 = .ok (.aload_n 0, 1) := by decide +kernel
theorem dL_983 : decode code 983 = .ok (.iload_n 3, 1) := by decide +kernel
theorem dL_984 : decode code 984 = .ok (.iconst 1, 1) := by decide +kernel
theorem dL_985 : decode code 985 = .ok (.iadd, 1) := by decide +kernel
theorem dL_986 : decode code 986 = .ok (.iaload, 1) := by decide +kernel
theorem dL_987 : decode code 987 = .ok (.invokevirtual 120, 3) := by decide +kernel
theorem dL_990 : decode code 990 = .ok (.aload_n 2, 1) := by decide +kernel
theorem dL_991 : decode code 991 = .ok (.aload_n 0, 1) := by decide +kernel
theorem dL_992 : decode code 992 = .ok (.iload_n 3, 1) := by decide +kernel
theorem dL_993 : decode code 993 = .ok (.iconst 1, 1) := by decide +kernel
theorem dL_994 : decode code 994 = .ok (.iadd, 1) := by decide +kernel
theorem dL_995 : decode code 995 = .ok (.iaload, 1) := by decide +kernel
theorem dL_996 : decode code 996 = .ok (.invokevirtual 123, 3) := by decide +kernel
theorem dL_999 : decode code 999 = .ok (.if_icmp .eq 332, 3) := by decide +kernel
theorem dL_1002 : decode code 1002 = .ok (.iconst 0, 1) := by decide +kernel
theorem dL_1003 : decode code 1003 = .ok (.ireturn, 1) := by decide +kernel
theorem dL_1004 : decode code 1004 = .ok (.aload_n 1, 1) := by decide +kernel
theorem dL_1005 : decode code 1005 = .ok (.aload_n 0, 1) := by decide +kernel
theorem dL_1006 : decode code 1006 = .ok (.iload_n 3, 1) := by decide +kernel
theorem dL_1007 : decode code 1007 = .ok (.iconst 1, 1) := by decide +kernel
theorem dL_1008 : decode code 1008 = .ok (.iadd, 1) := by decide +kernel
theorem dL_1009 : decode code 1009 = .ok (.iaload, 1) := by decide +kernel
theorem dL_1010 : decode code 1010 = .ok (.aload_n 0, 1) := by decide +kernel
theorem dL_1011 : decode code 1011 = .ok (.iload_n 3, 1) := by decide +kernel
theorem dL_1012 : decode code 1012 = .ok (.iconst 2, 1) := by decide +kernel
theorem dL_1013 : decode code 1013 = .ok (.iadd, 1) := by decide +kernel
theorem dL_1014 : decode code 1014 = .ok (.iaload, 1) := by decide +kernel
theorem dL_1015 : decode code 1015 = .ok (.aload_n 0, 1) := by decide +kernel
theorem dL_1016 : decode code 1016 = .ok (.iload_n 3, 1) := by decide +kernel
theorem dL_1017 : decode code 1017 = .ok (.iconst 3, 1) := by decide +kernel
theorem dL_1018 : decode code 1018 = .ok (.iadd, 1) := by decide +kernel
theorem dL_1019 : decode code 1019 = .ok (.iaload, 1) := by decide +kernel
theorem dL_1020 : decode code 1020 = .ok (.invokevirtual 124, 3) := by decide +kernel
theorem dL_1023 : decode code 1023 = .ok (.aload_n 2, 1) := by decide +kernel
theorem dL_1024 : decode code 1024 = .ok (.aload_n 0, 1) := by decide +kernel
theorem dL_1025 : decode code 1025 = .ok (.iload_n 3, 1) := by decide +kernel
theorem dL_1026 : decode code 1026 = .ok (.iconst 1, 1) := by decide +kernel
theorem dL_1027 : decode code 1027 = .ok (.iadd, 1) := by decide +kernel
theorem dL_1028 : decode code 1028 = .ok (.iaload, 1) := by decide +kernel
theorem dL_1029 : decode code 1029 = .ok (.aload_n 0, 1) := by decide +kernel
theorem dL_1030 : decode code 1030 = .ok (.iload_n 3, 1) := by decide +kernel
theorem dL_1031 : decode code 1031 = .ok (.iconst 2, 1) := by decide +kernel
theorem dL_1032 : decode code 1032 = .ok (.iadd, 1) := by decide +kernel
theorem dL_1033 : decode code 1033 = .ok (.iaload, 1) := by decide +kernel
theorem dL_1034 : decode code 1034 = .ok (.aload_n 0, 1) := by decide +kernel
theorem dL_1035 : decode code 1035 = .ok (.iload_n 3, 1) := by decide +kernel
theorem dL_1036 : decode code 1036 = .ok (.iconst 3, 1) := by decide +kernel
theorem dL_1037 : decode code 1037 = .ok (.iadd, 1) := by decide +kernel
theorem dL_1038 : decode code 1038 = .ok (.iaload, 1) := by decide +kernel
theorem dL_1039 : decode code 1039 = .ok (.invokevirtual 127, 3) := by decide +kernel
theorem dL_1042 : decode code 1042 = .ok (.if_icmp .eq 289, 3) := by decide +kernel
theorem dL_1045 : decode code 1045 = .ok (.iconst 0, 1) := by decide +kernel
theorem dL_1046 : decode code 1046 = .ok (.ireturn, 1) := by decide +kernel
theorem dL_1047 : decode code 1047 = .ok (.aload_n 1, 1) := by decide +kernel
theorem dL_1048 : decode code 1048 = .ok (.aload_n 0, 1) := by decide +kernel
theorem dL_1049 : decode code 1049 = .ok (.iload_n 3, 1) := by decide +kernel
theorem dL_1050 : decode code 1050 = .ok (.iconst 1, 1) := by decide +kernel
theorem dL_1051 : decode code 1051 = .ok (.iadd, 1) := by decide +kernel
theorem dL_1052 : decode code 1052 = .ok (.iaload, 1) := by decide +kernel
theorem dL_1053 : decode code 1053 = .ok (.aload_n 0, 1) := by decide +kernel
theorem dL_1054 : decode code 1054 = .ok (.iload_n 3, 1) := by decide +kernel
theorem dL_1055 : decode code 1055 = .ok (.iconst 2, 1) := by decide +kernel
theorem dL_1056 : decode code 1056 = .ok (.iadd, 1) := by decide +kernel
theorem dL_1057 : decode code 1057 = .ok (.iaload, 1) := by decide +kernel
theorem dL_1058 : decode code 1058 = .ok (.aload_n 0, 1) := by decide +kernel
theorem dL_1059 : decode code 1059 = .ok (.iload_n 3, 1) := by decide +kernel
theorem dL_1060 : decode code 1060 = .ok (.iconst 3, 1) := by decide +kernel
theorem dL_1061 : decode code 1061 = .ok (.iadd, 1) := by decide +kernel
theorem dL_1062 : decode code 1062 = .ok (.iaload, 1) := by decide +kernel
theorem dL_1063 : decode code 1063 = .ok (.aload_n 0, 1) := by decide +kernel
theorem dL_1064 : decode code 1064 = .ok (.iload_n 3, 1) := by decide +kernel
theorem dL_1065 : decode code 1065 = .ok (.iconst 4, 1) := by decide +kernel
theorem dL_1066 : decode code 1066 = .ok (.iadd, 1) := by decide +kernel
theorem dL_1067 : decode code 1067 = .ok (.iaload, 1) := by decide +kernel
theorem dL_1068 : decode code 1068 = .ok (.invokevirtual 128, 3) := by decide +kernel
theorem dL_1071 : decode code 1071 = .ok (.aload_n 2, 1) := by decide +kernel
theorem dL_1072 : decode code 1072 = .ok (.aload_n 0, 1) := by decide +kernel
theorem dL_1073 : decode code 1073 = .ok (.iload_n 3, 1) := by decide +kernel
theorem dL_1074 : decode code 1074 = .ok (.iconst 1, 1) := by decide +kernel
theorem dL_1075 : decode code 1075 = .ok (.iadd, 1) := by decide +kernel
theorem dL_1076 : decode code 1076 = .ok (.iaload, 1) := by decide +kernel
theorem dL_1077 : decode code 1077 = .ok (.aload_n 0, 1) := by decide +kernel
