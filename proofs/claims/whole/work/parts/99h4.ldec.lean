theorem dL_law_880 : decode code 880 = .ok (.iload_n 3, 1) := by decide +kernel
theorem dL_law_881 : decode code 881 = .ok (.iconst 2, 1) := by decide +kernel
theorem dL_law_882 : decode code 882 = .ok (.iadd, 1) := by decide +kernel
theorem dL_law_883 : decode code 883 = .ok (.iaload, 1) := by decide +kernel
theorem dL_law_884 : decode code 884 = .ok (.invokevirtual 111, 3) := by decide +kernel
theorem dL_law_887 : decode code 887 = .ok (.aload_n 2, 1) := by decide +kernel
theorem dL_law_888 : decode code 888 = .ok (.aload_n 0, 1) := by decide +kernel
theorem dL_law_889 : decode code 889 = .ok (.iload_n 3, 1) := by decide +kernel
theorem dL_law_890 : decode code 890 = .ok (.iconst 1, 1) := by decide +kernel
theorem dL_law_891 : decode code 891 = .ok (.iadd, 1) := by decide +kernel
theorem dL_law_892 : decode code 892 = .ok (.iaload, 1) := by decide +kernel
theorem dL_law_893 : decode code 893 = .ok (.aload_n 0, 1) := by decide +kernel
theorem dL_law_894 : decode code 894 = .ok (.iload_n 3, 1) := by decide +kernel
theorem dL_law_895 : decode code 895 = .ok (.iconst 2, 1) := by decide +kernel
theorem dL_law_896 : decode code 896 = .ok (.iadd, 1) := by decide +kernel
theorem dL_law_897 : decode code 897 = .ok (.iaload, 1) := by decide +kernel
theorem dL_law_898 : decode code 898 = .ok (.invokevirtual 114, 3) := by decide +kernel
theorem dL_law_901 : decode code 901 = .ok (.if_icmp .eq 636, 3) := by decide +kernel
theorem dL_law_904 : decode code 904 = .ok (.iconst 0, 1) := by decide +kernel
theorem dL_law_905 : decode code 905 = .ok (.ireturn, 1) := by decide +kernel
theorem dL_law_906 : decode code 906 = .ok (.aload_n 1, 1) := by decide +kernel
theorem dL_law_907 : decode code 907 = .ok (.aload_n 0, 1) := by decide +kernel
theorem dL_law_908 : decode code 908 = .ok (.iload_n 3, 1) := by decide +kernel
theorem dL_law_909 : decode code 909 = .ok (.iconst 1, 1) := by decide +kernel
theorem dL_law_910 : decode code 910 = .ok (.iadd, 1) := by decide +kernel
theorem dL_law_911 : decode code 911 = .ok (.iaload, 1) := by decide +kernel
theorem dL_law_912 : decode code 912 = .ok (.aload_n 0, 1) := by decide +kernel
theorem dL_law_913 : decode code 913 = .ok (.iload_n 3, 1) := by decide +kernel
theorem dL_law_914 : decode code 914 = .ok (.iconst 2, 1) := by decide +kernel
theorem dL_law_915 : decode code 915 = .ok (.iadd, 1) := by decide +kernel
theorem dL_law_916 : decode code 916 = .ok (.iaload, 1) := by decide +kernel
theorem dL_law_917 : decode code 917 = .ok (.invokevirtual 115, 3) := by decide +kernel
theorem dL_law_920 : decode code 920 = .ok (.aload_n 2, 1) := by decide +kernel
theorem dL_law_921 : decode code 921 = .ok (.aload_n 0, 1) := by decide +kernel
theorem dL_law_922 : decode code 922 = .ok (.iload_n 3, 1) := by decide +kernel
theorem dL_law_923 : decode code 923 = .ok (.iconst 1, 1) := by decide +kernel
theorem dL_law_924 : decode code 924 = .ok (.iadd, 1) := by decide +kernel
theorem dL_law_925 : decode code 925 = .ok (.iaload, 1) := by decide +kernel
theorem dL_law_926 : decode code 926 = .ok (.aload_n 0, 1) := by decide +kernel
theorem dL_law_927 : decode code 927 = .ok (.iload_n 3, 1) := by decide +kernel
theorem dL_law_928 : decode code 928 = .ok (.iconst 2, 1) := by decide +kernel
theorem dL_law_929 : decode code 929 = .ok (.iadd, 1) := by decide +kernel
theorem dL_law_930 : decode code 930 = .ok (.iaload, 1) := by decide +kernel
theorem dL_law_931 : decode code 931 = .ok (.invokevirtual 118, 3) := by decide +kernel
theorem dL_law_934 : decode code 934 = .ok (.if_icmp .eq 603, 3) := by decide +kernel
theorem dL_law_937 : decode code 937 = .ok (.iconst 0, 1) := by decide +kernel
theorem dL_law_938 : decode code 938 = .ok (.ireturn, 1) := by decide +kernel
theorem dL_law_939 : decode code 939 = .ok (.aload_n 1, 1) := by decide +kernel
theorem dL_law_940 : decode code 940 = .ok (.invokevirtual 119, 3) := by decide +kernel
theorem dL_law_943 : decode code 943 = .ok (.aload_n 2, 1) := by decide +kernel
theorem dL_law_944 : decode code 944 = .ok (.invokevirtual 122, 3) := by decide +kernel
theorem dL_law_947 : decode code 947 = .ok (.if_icmp .eq 590, 3) := by decide +kernel
theorem dL_law_950 : decode code 950 = .ok (.iconst 0, 1) := by decide +kernel
theorem dL_law_951 : decode code 951 = .ok (.ireturn, 1) := by decide +kernel
theorem dL_law_952 : decode code 952 = .ok (.aload_n 1, 1) := by decide +kernel
theorem dL_law_953 : decode code 953 = .ok (.aload_n 0, 1) := by decide +kernel
theorem dL_law_954 : decode code 954 = .ok (.iload_n 3, 1) := by decide +kernel
theorem dL_law_955 : decode code 955 = .ok (.iconst 1, 1) := by decide +kernel
theorem dL_law_956 : decode code 956 = .ok (.iadd, 1) := by decide +kernel
theorem dL_law_957 : decode code 957 = .ok (.iaload, 1) := by decide +kernel
theorem dL_law_958 : decode code 958 = .ok (.aload_n 0, 1) := by decide +kernel
theorem dL_law_959 : decode code 959 = .ok (.iload_n 3, 1) := by decide +kernel
theorem dL_law_960 : decode code 960 = .ok (.iconst 2, 1) := by decide +kernel
theorem dL_law_961 : decode code 961 = .ok (.iadd, 1) := by decide +kernel
theorem dL_law_962 : decode code 962 = .ok (.iaload, 1) := by decide +kernel
theorem dL_law_963 : decode code 963 = .ok (.invokevirtual 123, 3) := by decide +kernel
theorem dL_law_966 : decode code 966 = .ok (.aload_n 2, 1) := by decide +kernel
theorem dL_law_967 : decode code 967 = .ok (.aload_n 0, 1) := by decide +kernel
theorem dL_law_968 : decode code 968 = .ok (.iload_n 3, 1) := by decide +kernel
theorem dL_law_969 : decode code 969 = .ok (.iconst 1, 1) := by decide +kernel
theorem dL_law_970 : decode code 970 = .ok (.iadd, 1) := by decide +kernel
theorem dL_law_971 : decode code 971 = .ok (.iaload, 1) := by decide +kernel
theorem dL_law_972 : decode code 972 = .ok (.aload_n 0, 1) := by decide +kernel
theorem dL_law_973 : decode code 973 = .ok (.iload_n 3, 1) := by decide +kernel
theorem dL_law_974 : decode code 974 = .ok (.iconst 2, 1) := by decide +kernel
theorem dL_law_975 : decode code 975 = .ok (.iadd, 1) := by decide +kernel
theorem dL_law_976 : decode code 976 = .ok (.iaload, 1) := by decide +kernel
theorem dL_law_977 : decode code 977 = .ok (.invokevirtual 126, 3) := by decide +kernel
theorem dL_law_980 : decode code 980 = .ok (.if_icmp .eq 557, 3) := by decide +kernel
theorem dL_law_983 : decode code 983 = .ok (.iconst 0, 1) := by decide +kernel
theorem dL_law_984 : decode code 984 = .ok (.ireturn, 1) := by decide +kernel
theorem dL_law_985 : decode code 985 = .ok (.aload_n 1, 1) := by decide +kernel
theorem dL_law_986 : decode code 986 = .ok (.invokevirtual 127, 3) := by decide +kernel
theorem dL_law_989 : decode code 989 = .ok (.aload_n 2, 1) := by decide +kernel
theorem dL_law_990 : decode code 990 = .ok (.invokevirtual 130, 3) := by decide +kernel
theorem dL_law_993 : decode code 993 = .ok (.if_icmp .eq 544, 3) := by decide +kernel
theorem dL_law_996 : decode code 996 = .ok (.iconst 0, 1) := by decide +kernel
theorem dL_law_997 : decode code 997 = .ok (.ireturn, 1) := by decide +kernel
theorem dL_law_998 : decode code 998 = .ok (.aload_n 1, 1) := by decide +kernel
theorem dL_law_999 : decode code 999 = .ok (.aload_n 0, 1) := by decide +kernel
theorem dL_law_1000 : decode code 1000 = .ok (.iload_n 3, 1) := by decide +kernel
theorem dL_law_1001 : decode code 1001 = .ok (.iconst 1, 1) := by decide +kernel
theorem dL_law_1002 : decode code 1002 = .ok (.iadd, 1) := by decide +kernel
theorem dL_law_1003 : decode code 1003 = .ok (.iaload, 1) := by decide +kernel
theorem dL_law_1004 : decode code 1004 = .ok (.invokevirtual 131, 3) := by decide +kernel
theorem dL_law_1007 : decode code 1007 = .ok (.aload_n 2, 1) := by decide +kernel
theorem dL_law_1008 : decode code 1008 = .ok (.aload_n 0, 1) := by decide +kernel
theorem dL_law_1009 : decode code 1009 = .ok (.iload_n 3, 1) := by decide +kernel
theorem dL_law_1010 : decode code 1010 = .ok (.iconst 1, 1) := by decide +kernel
theorem dL_law_1011 : decode code 1011 = .ok (.iadd, 1) := by decide +kernel
theorem dL_law_1012 : decode code 1012 = .ok (.iaload, 1) := by decide +kernel
theorem dL_law_1013 : decode code 1013 = .ok (.invokevirtual 134, 3) := by decide +kernel
theorem dL_law_1016 : decode code 1016 = .ok (.if_icmp .eq 521, 3) := by decide +kernel
theorem dL_law_1019 : decode code 1019 = .ok (.iconst 0, 1) := by decide +kernel
theorem dL_law_1020 : decode code 1020 = .ok (.ireturn, 1) := by decide +kernel
theorem dL_law_1021 : decode code 1021 = .ok (.aload_n 1, 1) := by decide +kernel
theorem dL_law_1022 : decode code 1022 = .ok (.aload_n 0, 1) := by decide +kernel
theorem dL_law_1023 : decode code 1023 = .ok (.iload_n 3, 1) := by decide +kernel
theorem dL_law_1024 : decode code 1024 = .ok (.iconst 1, 1) := by decide +kernel
theorem dL_law_1025 : decode code 1025 = .ok (.iadd, 1) := by decide +kernel
theorem dL_law_1026 : decode code 1026 = .ok (.iaload, 1) := by decide +kernel
theorem dL_law_1027 : decode code 1027 = .ok (.invokevirtual 135, 3) := by decide +kernel
theorem dL_law_1030 : decode code 1030 = .ok (.aload_n 2, 1) := by decide +kernel
theorem dL_law_1031 : decode code 1031 = .ok (.aload_n 0, 1) := by decide +kernel
theorem dL_law_1032 : decode code 1032 = .ok (.iload_n 3, 1) := by decide +kernel
theorem dL_law_1033 : decode code 1033 = .ok (.iconst 1, 1) := by decide +kernel
theorem dL_law_1034 : decode code 1034 = .ok (.iadd, 1) := by decide +kernel
theorem dL_law_1035 : decode code 1035 = .ok (.iaload, 1) := by decide +kernel
theorem dL_law_1036 : decode code 1036 = .ok (.invokevirtual 138, 3) := by decide +kernel
theorem dL_law_1039 : decode code 1039 = .ok (.if_icmp .eq 498, 3) := by decide +kernel
theorem dL_law_1042 : decode code 1042 = .ok (.iconst 0, 1) := by decide +kernel
theorem dL_law_1043 : decode code 1043 = .ok (.ireturn, 1) := by decide +kernel
theorem dL_law_1044 : decode code 1044 = .ok (.aload_n 1, 1) := by decide +kernel
theorem dL_law_1045 : decode code 1045 = .ok (.aload_n 0, 1) := by decide +kernel
theorem dL_law_1046 : decode code 1046 = .ok (.iload_n 3, 1) := by decide +kernel
theorem dL_law_1047 : decode code 1047 = .ok (.iconst 1, 1) := by decide +kernel
theorem dL_law_1048 : decode code 1048 = .ok (.iadd, 1) := by decide +kernel
theorem dL_law_1049 : decode code 1049 = .ok (.iaload, 1) := by decide +kernel
theorem dL_law_1050 : decode code 1050 = .ok (.aload_n 0, 1) := by decide +kernel
theorem dL_law_1051 : decode code 1051 = .ok (.iload_n 3, 1) := by decide +kernel
