theorem d_Law_law_872 : decode code 872 = .ok (.iload 6, 2) := by decide +kernel
theorem d_Law_law_874 : decode code 874 = .ok (.i2l, 1) := by decide +kernel
theorem d_Law_law_875 : decode code 875 = .ok (.lcmp, 1) := by decide +kernel
theorem d_Law_law_876 : decode code 876 = .ok (.ifCond .eq 5, 3) := by decide +kernel
theorem d_Law_law_879 : decode code 879 = .ok (.iconst 0, 1) := by decide +kernel
theorem d_Law_law_880 : decode code 880 = .ok (.ireturn, 1) := by decide +kernel
theorem d_Law_law_881 : decode code 881 = .ok (.goto 500, 3) := by decide +kernel
theorem d_Law_law_884 : decode code 884 = .ok (.aload_n 1, 1) := by decide +kernel
theorem d_Law_law_885 : decode code 885 = .ok (.aload_n 0, 1) := by decide +kernel
theorem d_Law_law_886 : decode code 886 = .ok (.iload 4, 2) := by decide +kernel
theorem d_Law_law_888 : decode code 888 = .ok (.iconst 1, 1) := by decide +kernel
theorem d_Law_law_889 : decode code 889 = .ok (.iadd, 1) := by decide +kernel
theorem d_Law_law_890 : decode code 890 = .ok (.iaload, 1) := by decide +kernel
theorem d_Law_law_891 : decode code 891 = .ok (.aload_n 0, 1) := by decide +kernel
theorem d_Law_law_892 : decode code 892 = .ok (.iload 4, 2) := by decide +kernel
theorem d_Law_law_894 : decode code 894 = .ok (.iconst 2, 1) := by decide +kernel
theorem d_Law_law_895 : decode code 895 = .ok (.iadd, 1) := by decide +kernel
theorem d_Law_law_896 : decode code 896 = .ok (.iaload, 1) := by decide +kernel
theorem d_Law_law_897 : decode code 897 = .ok (.aload_n 0, 1) := by decide +kernel
theorem d_Law_law_898 : decode code 898 = .ok (.iload 4, 2) := by decide +kernel
theorem d_Law_law_900 : decode code 900 = .ok (.iconst 3, 1) := by decide +kernel
theorem d_Law_law_901 : decode code 901 = .ok (.iadd, 1) := by decide +kernel
theorem d_Law_law_902 : decode code 902 = .ok (.iaload, 1) := by decide +kernel
theorem d_Law_law_903 : decode code 903 = .ok (.aload_n 0, 1) := by decide +kernel
theorem d_Law_law_904 : decode code 904 = .ok (.iload 4, 2) := by decide +kernel
theorem d_Law_law_906 : decode code 906 = .ok (.iconst 4, 1) := by decide +kernel
theorem d_Law_law_907 : decode code 907 = .ok (.iadd, 1) := by decide +kernel
theorem d_Law_law_908 : decode code 908 = .ok (.iaload, 1) := by decide +kernel
theorem d_Law_law_909 : decode code 909 = .ok (.aload_n 3, 1) := by decide +kernel
theorem d_Law_law_910 : decode code 910 = .ok (.invokestatic 123, 3) := by decide +kernel
theorem d_Law_law_913 : decode code 913 = .ok (.istore 5, 2) := by decide +kernel
theorem d_Law_law_915 : decode code 915 = .ok (.aload_n 2, 1) := by decide +kernel
theorem d_Law_law_916 : decode code 916 = .ok (.aload_n 0, 1) := by decide +kernel
theorem d_Law_law_917 : decode code 917 = .ok (.iload 4, 2) := by decide +kernel
theorem d_Law_law_919 : decode code 919 = .ok (.iconst 1, 1) := by decide +kernel
theorem d_Law_law_920 : decode code 920 = .ok (.iadd, 1) := by decide +kernel
theorem d_Law_law_921 : decode code 921 = .ok (.iaload, 1) := by decide +kernel
theorem d_Law_law_922 : decode code 922 = .ok (.aload_n 0, 1) := by decide +kernel
theorem d_Law_law_923 : decode code 923 = .ok (.iload 4, 2) := by decide +kernel
theorem d_Law_law_925 : decode code 925 = .ok (.iconst 2, 1) := by decide +kernel
theorem d_Law_law_926 : decode code 926 = .ok (.iadd, 1) := by decide +kernel
theorem d_Law_law_927 : decode code 927 = .ok (.iaload, 1) := by decide +kernel
theorem d_Law_law_928 : decode code 928 = .ok (.aload_n 0, 1) := by decide +kernel
theorem d_Law_law_929 : decode code 929 = .ok (.iload 4, 2) := by decide +kernel
theorem d_Law_law_931 : decode code 931 = .ok (.iconst 3, 1) := by decide +kernel
theorem d_Law_law_932 : decode code 932 = .ok (.iadd, 1) := by decide +kernel
theorem d_Law_law_933 : decode code 933 = .ok (.iaload, 1) := by decide +kernel
theorem d_Law_law_934 : decode code 934 = .ok (.aload_n 0, 1) := by decide +kernel
theorem d_Law_law_935 : decode code 935 = .ok (.iload 4, 2) := by decide +kernel
theorem d_Law_law_937 : decode code 937 = .ok (.iconst 4, 1) := by decide +kernel
theorem d_Law_law_938 : decode code 938 = .ok (.iadd, 1) := by decide +kernel
theorem d_Law_law_939 : decode code 939 = .ok (.iaload, 1) := by decide +kernel
theorem d_Law_law_940 : decode code 940 = .ok (.invokevirtual 126, 3) := by decide +kernel
theorem d_Law_law_943 : decode code 943 = .ok (.istore 6, 2) := by decide +kernel
theorem d_Law_law_945 : decode code 945 = .ok (.aload_n 2, 1) := by decide +kernel
theorem d_Law_law_946 : decode code 946 = .ok (.invokevirtual 61, 3) := by decide +kernel
theorem d_Law_law_949 : decode code 949 = .ok (.iload 5, 2) := by decide +kernel
theorem d_Law_law_951 : decode code 951 = .ok (.if_icmp .eq 5, 3) := by decide +kernel
theorem d_Law_law_954 : decode code 954 = .ok (.iconst 0, 1) := by decide +kernel
theorem d_Law_law_955 : decode code 955 = .ok (.ireturn, 1) := by decide +kernel
theorem d_Law_law_956 : decode code 956 = .ok (.iload 5, 2) := by decide +kernel
theorem d_Law_law_958 : decode code 958 = .ok (.ifCond .ne 15, 3) := by decide +kernel
theorem d_Law_law_961 : decode code 961 = .ok (.aload_n 3, 1) := by decide +kernel
theorem d_Law_law_962 : decode code 962 = .ok (.iconst 0, 1) := by decide +kernel
theorem d_Law_law_963 : decode code 963 = .ok (.laload, 1) := by decide +kernel
theorem d_Law_law_964 : decode code 964 = .ok (.iload 6, 2) := by decide +kernel
theorem d_Law_law_966 : decode code 966 = .ok (.i2l, 1) := by decide +kernel
theorem d_Law_law_967 : decode code 967 = .ok (.lcmp, 1) := by decide +kernel
theorem d_Law_law_968 : decode code 968 = .ok (.ifCond .eq 5, 3) := by decide +kernel
theorem d_Law_law_971 : decode code 971 = .ok (.iconst 0, 1) := by decide +kernel
theorem d_Law_law_972 : decode code 972 = .ok (.ireturn, 1) := by decide +kernel
theorem d_Law_law_973 : decode code 973 = .ok (.goto 408, 3) := by decide +kernel
theorem d_Law_law_976 : decode code 976 = .ok (.aload_n 1, 1) := by decide +kernel
theorem d_Law_law_977 : decode code 977 = .ok (.invokevirtual 127, 3) := by decide +kernel
theorem d_Law_law_980 : decode code 980 = .ok (.aload_n 2, 1) := by decide +kernel
theorem d_Law_law_981 : decode code 981 = .ok (.invokevirtual 130, 3) := by decide +kernel
theorem d_Law_law_984 : decode code 984 = .ok (.if_icmp .eq 397, 3) := by decide +kernel
theorem d_Law_law_987 : decode code 987 = .ok (.iconst 0, 1) := by decide +kernel
theorem d_Law_law_988 : decode code 988 = .ok (.ireturn, 1) := by decide +kernel
theorem d_Law_law_989 : decode code 989 = .ok (.aload_n 1, 1) := by decide +kernel
theorem d_Law_law_990 : decode code 990 = .ok (.invokevirtual 131, 3) := by decide +kernel
theorem d_Law_law_993 : decode code 993 = .ok (.aload_n 2, 1) := by decide +kernel
theorem d_Law_law_994 : decode code 994 = .ok (.invokevirtual 134, 3) := by decide +kernel
theorem d_Law_law_997 : decode code 997 = .ok (.if_icmp .eq 384, 3) := by decide +kernel
theorem d_Law_law_1000 : decode code 1000 = .ok (.iconst 0, 1) := by decide +kernel
theorem d_Law_law_1001 : decode code 1001 = .ok (.ireturn, 1) := by decide +kernel
theorem d_Law_law_1002 : decode code 1002 = .ok (.aload_n 1, 1) := by decide +kernel
theorem d_Law_law_1003 : decode code 1003 = .ok (.aload_n 0, 1) := by decide +kernel
theorem d_Law_law_1004 : decode code 1004 = .ok (.iload 4, 2) := by decide +kernel
theorem d_Law_law_1006 : decode code 1006 = .ok (.iconst 1, 1) := by decide +kernel
theorem d_Law_law_1007 : decode code 1007 = .ok (.iadd, 1) := by decide +kernel
theorem d_Law_law_1008 : decode code 1008 = .ok (.iaload, 1) := by decide +kernel
theorem d_Law_law_1009 : decode code 1009 = .ok (.invokevirtual 135, 3) := by decide +kernel
theorem d_Law_law_1012 : decode code 1012 = .ok (.aload_n 2, 1) := by decide +kernel
theorem d_Law_law_1013 : decode code 1013 = .ok (.aload_n 0, 1) := by decide +kernel
theorem d_Law_law_1014 : decode code 1014 = .ok (.iload 4, 2) := by decide +kernel
theorem d_Law_law_1016 : decode code 1016 = .ok (.iconst 1, 1) := by decide +kernel
theorem d_Law_law_1017 : decode code 1017 = .ok (.iadd, 1) := by decide +kernel
theorem d_Law_law_1018 : decode code 1018 = .ok (.iaload, 1) := by decide +kernel
theorem d_Law_law_1019 : decode code 1019 = .ok (.invokevirtual 138, 3) := by decide +kernel
theorem d_Law_law_1022 : decode code 1022 = .ok (.if_icmp .eq 359, 3) := by decide +kernel
theorem d_Law_law_1025 : decode code 1025 = .ok (.iconst 0, 1) := by decide +kernel
theorem d_Law_law_1026 : decode code 1026 = .ok (.ireturn, 1) := by decide +kernel
theorem d_Law_law_1027 : decode code 1027 = .ok (.aload_n 1, 1) := by decide +kernel
theorem d_Law_law_1028 : decode code 1028 = .ok (.invokevirtual 139, 3) := by decide +kernel
theorem d_Law_law_1031 : decode code 1031 = .ok (.aload_n 2, 1) := by decide +kernel
theorem d_Law_law_1032 : decode code 1032 = .ok (.invokevirtual 143, 3) := by decide +kernel
theorem d_Law_law_1035 : decode code 1035 = .ok (.if_icmp .eq 346, 3) := by decide +kernel
theorem d_Law_law_1038 : decode code 1038 = .ok (.iconst 0, 1) := by decide +kernel
theorem d_Law_law_1039 : decode code 1039 = .ok (.ireturn, 1) := by decide +kernel
theorem d_Law_law_1040 : decode code 1040 = .ok (.aload_n 1, 1) := by decide +kernel
theorem d_Law_law_1041 : decode code 1041 = .ok (.invokevirtual 144, 3) := by decide +kernel
theorem d_Law_law_1044 : decode code 1044 = .ok (.aload_n 2, 1) := by decide +kernel
theorem d_Law_law_1045 : decode code 1045 = .ok (.invokevirtual 147, 3) := by decide +kernel
theorem d_Law_law_1048 : decode code 1048 = .ok (.if_icmp .eq 333, 3) := by decide +kernel
theorem d_Law_law_1051 : decode code 1051 = .ok (.iconst 0, 1) := by decide +kernel
theorem d_Law_law_1052 : decode code 1052 = .ok (.ireturn, 1) := by decide +kernel
theorem d_Law_law_1053 : decode code 1053 = .ok (.aload_n 1, 1) := by decide +kernel
theorem d_Law_law_1054 : decode code 1054 = .ok (.invokevirtual 148, 3) := by decide +kernel
theorem d_Law_law_1057 : decode code 1057 = .ok (.aload_n 2, 1) := by decide +kernel
