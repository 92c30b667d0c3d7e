theorem d_L_law_837 : decode c_L_law 837 = .ok (.dload 7, 2) := by decide +kernel
theorem d_L_law_839 : decode c_L_law 839 = .ok (.dload 7, 2) := by decide +kernel
theorem d_L_law_841 : decode c_L_law 841 = .ok (.dcmp .l, 1) := by decide +kernel
theorem d_L_law_842 : decode c_L_law 842 = .ok (.ifCond .ne 5, 3) := by decide +kernel
theorem d_L_law_845 : decode c_L_law 845 = .ok (.iconst 0, 1) := by decide +kernel
theorem d_L_law_846 : decode c_L_law 846 = .ok (.ireturn, 1) := by decide +kernel
theorem d_L_law_847 : decode c_L_law 847 = .ok (.goto 325, 3) := by decide +kernel
theorem d_L_law_850 : decode c_L_law 850 = .ok (.aload_n 1, 1) := by decide +kernel
theorem d_L_law_851 : decode c_L_law 851 = .ok (.aload_n 3, 1) := by decide +kernel
theorem d_L_law_852 : decode c_L_law 852 = .ok (.invokestatic 124, 3) := by decide +kernel
theorem d_L_law_855 : decode c_L_law 855 = .ok (.istore 6, 2) := by decide +kernel
theorem d_L_law_857 : decode c_L_law 857 = .ok (.aload_n 2, 1) := by decide +kernel
theorem d_L_law_858 : decode c_L_law 858 = .ok (.invokevirtual 127, 3) := by decide +kernel
theorem d_L_law_861 : decode c_L_law 861 = .ok (.istore 7, 2) := by decide +kernel
theorem d_L_law_863 : decode c_L_law 863 = .ok (.aload_n 2, 1) := by decide +kernel
theorem d_L_law_864 : decode c_L_law 864 = .ok (.invokevirtual 80, 3) := by decide +kernel
theorem d_L_law_867 : decode c_L_law 867 = .ok (.iload 6, 2) := by decide +kernel
theorem d_L_law_869 : decode c_L_law 869 = .ok (.if_icmp .eq 5, 3) := by decide +kernel
theorem d_L_law_872 : decode c_L_law 872 = .ok (.iconst 0, 1) := by decide +kernel
theorem d_L_law_873 : decode c_L_law 873 = .ok (.ireturn, 1) := by decide +kernel
theorem d_L_law_874 : decode c_L_law 874 = .ok (.iload 6, 2) := by decide +kernel
theorem d_L_law_876 : decode c_L_law 876 = .ok (.ifCond .ne 15, 3) := by decide +kernel
theorem d_L_law_879 : decode c_L_law 879 = .ok (.aload_n 3, 1) := by decide +kernel
theorem d_L_law_880 : decode c_L_law 880 = .ok (.iconst 0, 1) := by decide +kernel
theorem d_L_law_881 : decode c_L_law 881 = .ok (.laload, 1) := by decide +kernel
theorem d_L_law_882 : decode c_L_law 882 = .ok (.iload 7, 2) := by decide +kernel
theorem d_L_law_884 : decode c_L_law 884 = .ok (.i2l, 1) := by decide +kernel
theorem d_L_law_885 : decode c_L_law 885 = .ok (.lcmp, 1) := by decide +kernel
theorem d_L_law_886 : decode c_L_law 886 = .ok (.ifCond .eq 5, 3) := by decide +kernel
theorem d_L_law_889 : decode c_L_law 889 = .ok (.iconst 0, 1) := by decide +kernel
theorem d_L_law_890 : decode c_L_law 890 = .ok (.ireturn, 1) := by decide +kernel
theorem d_L_law_891 : decode c_L_law 891 = .ok (.goto 281, 3) := by decide +kernel
theorem d_L_law_894 : decode c_L_law 894 = .ok (.aload_n 1, 1) := by decide +kernel
theorem d_L_law_895 : decode c_L_law 895 = .ok (.aload_n 0, 1) := by decide +kernel
theorem d_L_law_896 : decode c_L_law 896 = .ok (.iload 5, 2) := by decide +kernel
theorem d_L_law_898 : decode c_L_law 898 = .ok (.iconst 1, 1) := by decide +kernel
theorem d_L_law_899 : decode c_L_law 899 = .ok (.iadd, 1) := by decide +kernel
theorem d_L_law_900 : decode c_L_law 900 = .ok (.iaload, 1) := by decide +kernel
theorem d_L_law_901 : decode c_L_law 901 = .ok (.ifCond .eq 7, 3) := by decide +kernel
theorem d_L_law_904 : decode c_L_law 904 = .ok (.iconst 1, 1) := by decide +kernel
theorem d_L_law_905 : decode c_L_law 905 = .ok (.goto 4, 3) := by decide +kernel
theorem d_L_law_908 : decode c_L_law 908 = .ok (.iconst 0, 1) := by decide +kernel
theorem d_L_law_909 : decode c_L_law 909 = .ok (.aload_n 3, 1) := by decide +kernel
theorem d_L_law_910 : decode c_L_law 910 = .ok (.invokestatic 128, 3) := by decide +kernel
theorem d_L_law_913 : decode c_L_law 913 = .ok (.istore 6, 2) := by decide +kernel
theorem d_L_law_915 : decode c_L_law 915 = .ok (.aload_n 2, 1) := by decide +kernel
theorem d_L_law_916 : decode c_L_law 916 = .ok (.aload_n 0, 1) := by decide +kernel
theorem d_L_law_917 : decode c_L_law 917 = .ok (.iload 5, 2) := by decide +kernel
theorem d_L_law_919 : decode c_L_law 919 = .ok (.iconst 1, 1) := by decide +kernel
theorem d_L_law_920 : decode c_L_law 920 = .ok (.iadd, 1) := by decide +kernel
theorem d_L_law_921 : decode c_L_law 921 = .ok (.iaload, 1) := by decide +kernel
theorem d_L_law_922 : decode c_L_law 922 = .ok (.ifCond .eq 7, 3) := by decide +kernel
theorem d_L_law_925 : decode c_L_law 925 = .ok (.iconst 1, 1) := by decide +kernel
theorem d_L_law_926 : decode c_L_law 926 = .ok (.goto 4, 3) := by decide +kernel
theorem d_L_law_929 : decode c_L_law 929 = .ok (.iconst 0, 1) := by decide +kernel
theorem d_L_law_930 : decode c_L_law 930 = .ok (.invokevirtual 131, 3) := by decide +kernel
theorem d_L_law_933 : decode c_L_law 933 = .ok (.istore 7, 2) := by decide +kernel
theorem d_L_law_935 : decode c_L_law 935 = .ok (.aload_n 2, 1) := by decide +kernel
theorem d_L_law_936 : decode c_L_law 936 = .ok (.invokevirtual 80, 3) := by decide +kernel
theorem d_L_law_939 : decode c_L_law 939 = .ok (.iload 6, 2) := by decide +kernel
theorem d_L_law_941 : decode c_L_law 941 = .ok (.if_icmp .eq 5, 3) := by decide +kernel
theorem d_L_law_944 : decode c_L_law 944 = .ok (.iconst 0, 1) := by decide +kernel
theorem d_L_law_945 : decode c_L_law 945 = .ok (.ireturn, 1) := by decide +kernel
theorem d_L_law_946 : decode c_L_law 946 = .ok (.iload 6, 2) := by decide +kernel
theorem d_L_law_948 : decode c_L_law 948 = .ok (.ifCond .ne 15, 3) := by decide +kernel
theorem d_L_law_951 : decode c_L_law 951 = .ok (.aload_n 3, 1) := by decide +kernel
theorem d_L_law_952 : decode c_L_law 952 = .ok (.iconst 0, 1) := by decide +kernel
theorem d_L_law_953 : decode c_L_law 953 = .ok (.laload, 1) := by decide +kernel
theorem d_L_law_954 : decode c_L_law 954 = .ok (.iload 7, 2) := by decide +kernel
theorem d_L_law_956 : decode c_L_law 956 = .ok (.i2l, 1) := by decide +kernel
theorem d_L_law_957 : decode c_L_law 957 = .ok (.lcmp, 1) := by decide +kernel
theorem d_L_law_958 : decode c_L_law 958 = .ok (.ifCond .eq 5, 3) := by decide +kernel
theorem d_L_law_961 : decode c_L_law 961 = .ok (.iconst 0, 1) := by decide +kernel
theorem d_L_law_962 : decode c_L_law 962 = .ok (.ireturn, 1) := by decide +kernel
theorem d_L_law_963 : decode c_L_law 963 = .ok (.goto 209, 3) := by decide +kernel
theorem d_L_law_966 : decode c_L_law 966 = .ok (.aload_n 1, 1) := by decide +kernel
theorem d_L_law_967 : decode c_L_law 967 = .ok (.aload_n 0, 1) := by decide +kernel
theorem d_L_law_968 : decode c_L_law 968 = .ok (.iload 5, 2) := by decide +kernel
theorem d_L_law_970 : decode c_L_law 970 = .ok (.iconst 1, 1) := by decide +kernel
theorem d_L_law_971 : decode c_L_law 971 = .ok (.iadd, 1) := by decide +kernel
theorem d_L_law_972 : decode c_L_law 972 = .ok (.iaload, 1) := by decide +kernel
theorem d_L_law_973 : decode c_L_law 973 = .ok (.aload_n 3, 1) := by decide +kernel
theorem d_L_law_974 : decode c_L_law 974 = .ok (.invokestatic 132, 3) := by decide +kernel
theorem d_L_law_977 : decode c_L_law 977 = .ok (.istore 6, 2) := by decide +kernel
theorem d_L_law_979 : decode c_L_law 979 = .ok (.aload_n 2, 1) := by decide +kernel
theorem d_L_law_980 : decode c_L_law 980 = .ok (.aload_n 0, 1) := by decide +kernel
theorem d_L_law_981 : decode c_L_law 981 = .ok (.iload 5, 2) := by decide +kernel
theorem d_L_law_983 : decode c_L_law 983 = .ok (.iconst 1, 1) := by decide +kernel
theorem d_L_law_984 : decode c_L_law 984 = .ok (.iadd, 1) := by decide +kernel
theorem d_L_law_985 : decode c_L_law 985 = .ok (.iaload, 1) := by decide +kernel
theorem d_L_law_986 : decode c_L_law 986 = .ok (.invokevirtual 134, 3) := by decide +kernel
theorem d_L_law_989 : decode c_L_law 989 = .ok (.istore 7, 2) := by decide +kernel
theorem d_L_law_991 : decode c_L_law 991 = .ok (.aload_n 2, 1) := by decide +kernel
theorem d_L_law_992 : decode c_L_law 992 = .ok (.invokevirtual 80, 3) := by decide +kernel
theorem d_L_law_995 : decode c_L_law 995 = .ok (.iload 6, 2) := by decide +kernel
theorem d_L_law_997 : decode c_L_law 997 = .ok (.if_icmp .eq 5, 3) := by decide +kernel
theorem d_L_law_1000 : decode c_L_law 1000 = .ok (.iconst 0, 1) := by decide +kernel
theorem d_L_law_1001 : decode c_L_law 1001 = .ok (.ireturn, 1) := by decide +kernel
theorem d_L_law_1002 : decode c_L_law 1002 = .ok (.iload 6, 2) := by decide +kernel
theorem d_L_law_1004 : decode c_L_law 1004 = .ok (.ifCond .ne 15, 3) := by decide +kernel
theorem d_L_law_1007 : decode c_L_law 1007 = .ok (.aload_n 3, 1) := by decide +kernel
theorem d_L_law_1008 : decode c_L_law 1008 = .ok (.iconst 0, 1) := by decide +kernel
theorem d_L_law_1009 : decode c_L_law 1009 = .ok (.laload, 1) := by decide +kernel
theorem d_L_law_1010 : decode c_L_law 1010 = .ok (.iload 7, 2) := by decide +kernel
theorem d_L_law_1012 : decode c_L_law 1012 = .ok (.i2l, 1) := by decide +kernel
theorem d_L_law_1013 : decode c_L_law 1013 = .ok (.lcmp, 1) := by decide +kernel
theorem d_L_law_1014 : decode c_L_law 1014 = .ok (.ifCond .eq 5, 3) := by decide +kernel
theorem d_L_law_1017 : decode c_L_law 1017 = .ok (.iconst 0, 1) := by decide +kernel
theorem d_L_law_1018 : decode c_L_law 1018 = .ok (.ireturn, 1) := by decide +kernel
theorem d_L_law_1019 : decode c_L_law 1019 = .ok (.goto 153, 3) := by decide +kernel
theorem d_L_law_1022 : decode c_L_law 1022 = .ok (.aload_n 1, 1) := by decide +kernel
theorem d_L_law_1023 : decode c_L_law 1023 = .ok (.invokevirtual 135, 3) := by decide +kernel
theorem d_L_law_1026 : decode c_L_law 1026 = .ok (.aload_n 2, 1) := by decide +kernel
theorem d_L_law_1027 : decode c_L_law 1027 = .ok (.invokevirtual 138, 3) := by decide +kernel
theorem d_L_law_1030 : decode c_L_law 1030 = .ok (.if_icmp .eq 142, 3) := by decide +kernel
theorem d_L_law_1033 : decode c_L_law 1033 = .ok (.iconst 0, 1) := by decide +kernel
theorem d_L_law_1034 : decode c_L_law 1034 = .ok (.ireturn, 1) := by decide +kernel
theorem d_L_law_1035 : decode c_L_law 1035 = .ok (.aload_n 1, 1) := by decide +kernel
theorem d_L_law_1036 : decode c_L_law 1036 = .ok (.aload_n 0, 1) := by decide +kernel
theorem d_L_law_1037 : decode c_L_law 1037 = .ok (.iload 5, 2) := by decide +kernel
