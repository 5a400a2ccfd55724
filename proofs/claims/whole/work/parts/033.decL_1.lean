theorem dL_law_784 : decode cL_law 784 = .ok (.aload_n 1, 1) := by decide +kernel
theorem dL_law_785 : decode cL_law 785 = .ok (.aload_n 0, 1) := by decide +kernel
theorem dL_law_786 : decode cL_law 786 = .ok (.iload_n 3, 1) := by decide +kernel
theorem dL_law_787 : decode cL_law 787 = .ok (.iconst 1, 1) := by decide +kernel
theorem dL_law_788 : decode cL_law 788 = .ok (.iadd, 1) := by decide +kernel
theorem dL_law_789 : decode cL_law 789 = .ok (.iaload, 1) := by decide +kernel
theorem dL_law_790 : decode cL_law 790 = .ok (.invokevirtual 94, 3) := by decide +kernel
theorem dL_law_793 : decode cL_law 793 = .ok (.aload_n 2, 1) := by decide +kernel
theorem dL_law_794 : decode cL_law 794 = .ok (.aload_n 0, 1) := by decide +kernel
theorem dL_law_795 : decode cL_law 795 = .ok (.iload_n 3, 1) := by decide +kernel
theorem dL_law_796 : decode cL_law 796 = .ok (.iconst 1, 1) := by decide +kernel
theorem dL_law_797 : decode cL_law 797 = .ok (.iadd, 1) := by decide +kernel
theorem dL_law_798 : decode cL_law 798 = .ok (.iaload, 1) := by decide +kernel
theorem dL_law_799 : decode cL_law 799 = .ok (.invokevirtual 97, 3) := by decide +kernel
theorem dL_law_802 : decode cL_law 802 = .ok (.if_icmp .eq 512, 3) := by decide +kernel
theorem dL_law_805 : decode cL_law 805 = .ok (.iconst 0, 1) := by decide +kernel
theorem dL_law_806 : decode cL_law 806 = .ok (.ireturn, 1) := by decide +kernel
theorem dL_law_807 : decode cL_law 807 = .ok (.aload_n 1, 1) := by decide +kernel
theorem dL_law_808 : decode cL_law 808 = .ok (.aload_n 0, 1) := by decide +kernel
theorem dL_law_809 : decode cL_law 809 = .ok (.iload_n 3, 1) := by decide +kernel
theorem dL_law_810 : decode cL_law 810 = .ok (.iconst 1, 1) := by decide +kernel
theorem dL_law_811 : decode cL_law 811 = .ok (.iadd, 1) := by decide +kernel
theorem dL_law_812 : decode cL_law 812 = .ok (.iaload, 1) := by decide +kernel
theorem dL_law_813 : decode cL_law 813 = .ok (.aload_n 0, 1) := by decide +kernel
theorem dL_law_814 : decode cL_law 814 = .ok (.iload_n 3, 1) := by decide +kernel
theorem dL_law_815 : decode cL_law 815 = .ok (.iconst 2, 1) := by decide +kernel
theorem dL_law_816 : decode cL_law 816 = .ok (.iadd, 1) := by decide +kernel
theorem dL_law_817 : decode cL_law 817 = .ok (.iaload, 1) := by decide +kernel
theorem dL_law_818 : decode cL_law 818 = .ok (.ifCond .eq 7, 3) := by decide +kernel
theorem dL_law_821 : decode cL_law 821 = .ok (.iconst 1, 1) := by decide +kernel
theorem dL_law_822 : decode cL_law 822 = .ok (.goto 4, 3) := by decide +kernel
theorem dL_law_825 : decode cL_law 825 = .ok (.iconst 0, 1) := by decide +kernel
theorem dL_law_826 : decode cL_law 826 = .ok (.invokevirtual 98, 3) := by decide +kernel
theorem dL_law_829 : decode cL_law 829 = .ok (.aload_n 2, 1) := by decide +kernel
theorem dL_law_830 : decode cL_law 830 = .ok (.aload_n 0, 1) := by decide +kernel
theorem dL_law_831 : decode cL_law 831 = .ok (.iload_n 3, 1) := by decide +kernel
theorem dL_law_832 : decode cL_law 832 = .ok (.iconst 1, 1) := by decide +kernel
theorem dL_law_833 : decode cL_law 833 = .ok (.iadd, 1) := by decide +kernel
theorem dL_law_834 : decode cL_law 834 = .ok (.iaload, 1) := by decide +kernel
theorem dL_law_835 : decode cL_law 835 = .ok (.aload_n 0, 1) := by decide +kernel
theorem dL_law_836 : decode cL_law 836 = .ok (.iload_n 3, 1) := by decide +kernel
theorem dL_law_837 : decode cL_law 837 = .ok (.iconst 2, 1) := by decide +kernel
theorem dL_law_838 : decode cL_law 838 = .ok (.iadd, 1) := by decide +kernel
theorem dL_law_839 : decode cL_law 839 = .ok (.iaload, 1) := by decide +kernel
theorem dL_law_840 : decode cL_law 840 = .ok (.ifCond .eq 7, 3) := by decide +kernel
theorem dL_law_843 : decode cL_law 843 = .ok (.iconst 1, 1) := by decide +kernel
theorem dL_law_844 : decode cL_law 844 = .ok (.goto 4, 3) := by decide +kernel
theorem dL_law_847 : decode cL_law 847 = .ok (.iconst 0, 1) := by decide +kernel
theorem dL_law_848 : decode cL_law 848 = .ok (.invokevirtual 102, 3) := by decide +kernel
theorem dL_law_851 : decode cL_law 851 = .ok (.if_icmp .eq 463, 3) := by decide +kernel
theorem dL_law_854 : decode cL_law 854 = .ok (.iconst 0, 1) := by decide +kernel
theorem dL_law_855 : decode cL_law 855 = .ok (.ireturn, 1) := by decide +kernel
theorem dL_law_856 : decode cL_law 856 = .ok (.aload_n 1, 1) := by decide +kernel
theorem dL_law_857 : decode cL_law 857 = .ok (.invokevirtual 103, 3) := by decide +kernel
theorem dL_law_860 : decode cL_law 860 = .ok (.aload_n 2, 1) := by decide +kernel
theorem dL_law_861 : decode cL_law 861 = .ok (.invokevirtual 106, 3) := by decide +kernel
theorem dL_law_864 : decode cL_law 864 = .ok (.if_icmp .eq 450, 3) := by decide +kernel
theorem dL_law_867 : decode cL_law 867 = .ok (.iconst 0, 1) := by decide +kernel
theorem dL_law_868 : decode cL_law 868 = .ok (.ireturn, 1) := by decide +kernel
theorem dL_law_869 : decode cL_law 869 = .ok (.aload_n 1, 1) := by decide +kernel
theorem dL_law_870 : decode cL_law 870 = .ok (.aload_n 0, 1) := by decide +kernel
theorem dL_law_871 : decode cL_law 871 = .ok (.iload_n 3, 1) := by decide +kernel
theorem dL_law_872 : decode cL_law 872 = .ok (.iconst 1, 1) := by decide +kernel
theorem dL_law_873 : decode cL_law 873 = .ok (.iadd, 1) := by decide +kernel
theorem dL_law_874 : decode cL_law 874 = .ok (.iaload, 1) := by decide +kernel
theorem dL_law_875 : decode cL_law 875 = .ok (.aload_n 0, 1) := by decide +kernel
theorem dL_law_876 : decode cL_law 876 = .ok (.iload_n 3, 1) := by decide +kernel
theorem dL_law_877 : decode cL_law 877 = .ok (.iconst 2, 1) := by decide +kernel
theorem dL_law_878 : decode cL_law 878 = .ok (.iadd, 1) := by decide +kernel
theorem dL_law_879 : decode cL_law 879 = .ok (.iaload, 1) := by decide +kernel
theorem dL_law_880 : decode cL_law 880 = .ok (.aload_n 0, 1) := by decide +kernel
theorem dL_law_881 : decode cL_law 881 = .ok (.iload_n 3, 1) := by decide +kernel
theorem dL_law_882 : decode cL_law 882 = .ok (.iconst 3, 1) := by decide +kernel
theorem dL_law_883 : decode cL_law 883 = .ok (.iadd, 1) := by decide +kernel
theorem dL_law_884 : decode cL_law 884 = .ok (.iaload, 1) := by decide +kernel
theorem dL_law_885 : decode cL_law 885 = .ok (.aload_n 0, 1) := by decide +kernel
theorem dL_law_886 : decode cL_law 886 = .ok (.iload_n 3, 1) := by decide +kernel
theorem dL_law_887 : decode cL_law 887 = .ok (.iconst 4, 1) := by decide +kernel
theorem dL_law_888 : decode cL_law 888 = .ok (.iadd, 1) := by decide +kernel
theorem dL_law_889 : decode cL_law 889 = .ok (.iaload, 1) := by decide +kernel
theorem dL_law_890 : decode cL_law 890 = .ok (.ifCond .eq 7, 3) := by decide +kernel
theorem dL_law_893 : decode cL_law 893 = .ok (.iconst 1, 1) := by decide +kernel
theorem dL_law_894 : decode cL_law 894 = .ok (.goto 4, 3) := by decide +kernel
theorem dL_law_897 : decode cL_law 897 = .ok (.iconst 0, 1) := by decide +kernel
theorem dL_law_898 : decode cL_law 898 = .ok (.invokevirtual 107, 3) := by decide +kernel
theorem dL_law_901 : decode cL_law 901 = .ok (.aload_n 2, 1) := by decide +kernel
theorem dL_law_902 : decode cL_law 902 = .ok (.aload_n 0, 1) := by decide +kernel
theorem dL_law_903 : decode cL_law 903 = .ok (.iload_n 3, 1) := by decide +kernel
theorem dL_law_904 : decode cL_law 904 = .ok (.iconst 1, 1) := by decide +kernel
theorem dL_law_905 : decode cL_law 905 = .ok (.iadd, 1) := by decide +kernel
theorem dL_law_906 : decode cL_law 906 = .ok (.iaload, 1) := by decide +kernel
theorem dL_law_907 : decode cL_law 907 = .ok (.aload_n 0, 1) := by decide +kernel
theorem dL_law_908 : decode cL_law 908 = .ok (.iload_n 3, 1) := by decide +kernel
theorem dL_law_909 : decode cL_law 909 = .ok (.iconst 2, 1) := by decide +kernel
theorem dL_law_910 : decode cL_law 910 = .ok (.iadd, 1) := by decide +kernel
theorem dL_law_911 : decode cL_law 911 = .ok (.iaload, 1) := by decide +kernel
theorem dL_law_912 : decode cL_law 912 = .ok (.aload_n 0, 1) := by decide +kernel
theorem dL_law_913 : decode cL_law 913 = .ok (.iload_n 3, 1) := by decide +kernel
theorem dL_law_914 : decode cL_law 914 = .ok (.iconst 3, 1) := by decide +kernel
theorem dL_law_915 : decode cL_law 915 = .ok (.iadd, 1) := by decide +kernel
theorem dL_law_916 : decode cL_law 916 = .ok (.iaload, 1) := by decide +kernel
theorem dL_law_917 : decode cL_law 917 = .ok (.aload_n 0, 1) := by decide +kernel
theorem dL_law_918 : decode cL_law 918 = .ok (.iload_n 3, 1) := by decide +kernel
theorem dL_law_919 : decode cL_law 919 = .ok (.iconst 4, 1) := by decide +kernel
theorem dL_law_920 : decode cL_law 920 = .ok (.iadd, 1) := by decide +kernel
theorem dL_law_921 : decode cL_law 921 = .ok (.iaload, 1) := by decide +kernel
theorem dL_law_922 : decode cL_law 922 = .ok (.ifCond .eq 7, 3) := by decide +kernel
theorem dL_law_925 : decode cL_law 925 = .ok (.iconst 1, 1) := by decide +kernel
theorem dL_law_926 : decode cL_law 926 = .ok (.goto 4, 3) := by decide +kernel
theorem dL_law_929 : decode cL_law 929 = .ok (.iconst 0, 1) := by decide +kernel
theorem dL_law_930 : decode cL_law 930 = .ok (.invokevirtual 111, 3) := by decide +kernel
theorem dL_law_933 : decode cL_law 933 = .ok (.if_icmp .eq 381, 3) := by decide +kernel
theorem dL_law_936 : decode cL_law 936 = .ok (.iconst 0, 1) := by decide +kernel
theorem dL_law_937 : decode cL_law 937 = .ok (.ireturn, 1) := by decide +kernel
theorem dL_law_938 : decode cL_law 938 = .ok (.aload_n 1, 1) := by decide +kernel
theorem dL_law_939 : decode cL_law 939 = .ok (.aload_n 0, 1) := by decide +kernel
theorem dL_law_940 : decode cL_law 940 = .ok (.iload_n 3, 1) := by decide +kernel
theorem dL_law_941 : decode cL_law 941 = .ok (.iconst 1, 1) := by decide +kernel
theorem dL_law_942 : decode cL_law 942 = .ok (.iadd, 1) := by decide +kernel
theorem dL_law_943 : decode cL_law 943 = .ok (.iaload, 1) := by decide +kernel
theorem dL_law_944 : decode cL_law 944 = .ok (.aload_n 0, 1) := by decide +kernel
theorem dL_law_945 : decode cL_law 945 = .ok (.iload_n 3, 1) := by decide +kernel
theorem dL_law_946 : decode cL_law 946 = .ok (.iconst 2, 1) := by decide +kernel
theorem dL_law_947 : decode cL_law 947 = .ok (.iadd, 1) := by decide +kernel
theorem dL_law_948 : decode cL_law 948 = .ok (.iaload, 1) := by decide +kernel
theorem dL_law_949 : decode cL_law 949 = .ok (.aload_n 0, 1) := by decide +kernel
theorem dL_law_950 : decode cL_law 950 = .ok (.iload_n 3, 1) := by decide +kernel
theorem dL_law_951 : decode cL_law 951 = .ok (.iconst 3, 1) := by decide +kernel
theorem dL_law_952 : decode cL_law 952 = .ok (.iadd, 1) := by decide +kernel
theorem dL_law_953 : decode cL_law 953 = .ok (.iaload, 1) := by decide +kernel
theorem dL_law_954 : decode cL_law 954 = .ok (.invokevirtual 112, 3) := by decide +kernel
theorem dL_law_957 : decode cL_law 957 = .ok (.aload_n 2, 1) := by decide +kernel
theorem dL_law_958 : decode cL_law 958 = .ok (.aload_n 0, 1) := by decide +kernel
theorem dL_law_959 : decode cL_law 959 = .ok (.iload_n 3, 1) := by decide +kernel
theorem dL_law_960 : decode cL_law 960 = .ok (.iconst 1, 1) := by decide +kernel
theorem dL_law_961 : decode cL_law 961 = .ok (.iadd, 1) := by decide +kernel
theorem dL_law_962 : decode cL_law 962 = .ok (.iaload, 1) := by decide +kernel
theorem dL_law_963 : decode cL_law 963 = .ok (.aload_n 0, 1) := by decide +kernel
theorem dL_law_964 : decode cL_law 964 = .ok (.iload_n 3, 1) := by decide +kernel
theorem dL_law_965 : decode cL_law 965 = .ok (.iconst 2, 1) := by decide +kernel
theorem dL_law_966 : decode cL_law 966 = .ok (.iadd, 1) := by decide +kernel
theorem dL_law_967 : decode cL_law 967 = .ok (.iaload, 1) := by decide +kernel
theorem dL_law_968 : decode cL_law 968 = .ok (.aload_n 0, 1) := by decide +kernel
theorem dL_law_969 : decode cL_law 969 = .ok (.iload_n 3, 1) := by decide +kernel
theorem dL_law_970 : decode cL_law 970 = .ok (.iconst 3, 1) := by decide +kernel
theorem dL_law_971 : decode cL_law 971 = .ok (.iadd, 1) := by decide +kernel
theorem dL_law_972 : decode cL_law 972 = .ok (.iaload, 1) := by decide +kernel
theorem dL_law_973 : decode cL_law 973 = .ok (.invokevirtual 115, 3) := by decide +kernel
theorem dL_law_976 : decode cL_law 976 = .ok (.if_icmp .eq 338, 3) := by decide +kernel
theorem dL_law_979 : decode cL_law 979 = .ok (.iconst 0, 1) := by decide +kernel
theorem dL_law_980 : decode cL_law 980 = .ok (.ireturn, 1) := by decide +kernel
theorem dL_law_981 : decode cL_law 981 = .ok (.aload_n 1, 1) := by decide +kernel
theorem dL_law_982 : decode cL_law 982 = .ok (.aload_n 0, 1) := by decide +kernel
theorem dL_law_983 : decode cL_law 983 = .ok (.iload_n 3, 1) := by decide +kernel
theorem dL_law_984 : decode cL_law 984 = .ok (.iconst 1, 1) := by decide +kernel
theorem dL_law_985 : decode cL_law 985 = .ok (.iadd, 1) := by decide +kernel
theorem dL_law_986 : decode cL_law 986 = .ok (.iaload, 1) := by decide +kernel
theorem dL_law_987 : decode cL_law 987 = .ok (.aload_n 0, 1) := by decide +kernel
theorem dL_law_988 : decode cL_law 988 = .ok (.iload_n 3, 1) := by decide +kernel
theorem dL_law_989 : decode cL_law 989 = .ok (.iconst 2, 1) := by decide +kernel
theorem dL_law_990 : decode cL_law 990 = .ok (.iadd, 1) := by decide +kernel
theorem dL_law_991 : decode cL_law 991 = .ok (.iaload, 1) := by decide +kernel
theorem dL_law_992 : decode cL_law 992 = .ok (.invokevirtual 116, 3) := by decide +kernel
theorem dL_law_995 : decode cL_law 995 = .ok (.aload_n 2, 1) := by decide +kernel
theorem dL_law_996 : decode cL_law 996 = .ok (.aload_n 0, 1) := by decide +kernel
theorem dL_law_997 : decode cL_law 997 = .ok (.iload_n 3, 1) := by decide +kernel
theorem dL_law_998 : decode cL_law 998 = .ok (.iconst 1, 1) := by decide +kernel
theorem dL_law_999 : decode cL_law 999 = .ok (.iadd, 1) := by decide +kernel
theorem dL_law_1000 : decode cL_law 1000 = .ok (.iaload, 1) := by decide +kernel
theorem dL_law_1001 : decode cL_law 1001 = .ok (.aload_n 0, 1) := by decide +kernel
theorem dL_law_1002 : decode cL_law 1002 = .ok (.iload_n 3, 1) := by decide +kernel
theorem dL_law_1003 : decode cL_law 1003 = .ok (.iconst 2, 1) := by decide +kernel
theorem dL_law_1004 : decode cL_law 1004 = .ok (.iadd, 1) := by decide +kernel
theorem dL_law_1005 : decode cL_law 1005 = .ok (.iaload, 1) := by decide +kernel
theorem dL_law_1006 : decode cL_law 1006 = .ok (.invokevirtual 119, 3) := by decide +kernel
theorem dL_law_1009 : decode cL_law 1009 = .ok (.if_icmp .eq 305, 3) := by decide +kernel
theorem dL_law_1012 : decode cL_law 1012 = .ok (.iconst 0, 1) := by decide +kernel
theorem dL_law_1013 : decode cL_law 1013 = .ok (.ireturn, 1) := by decide +kernel
theorem dL_law_1014 : decode cL_law 1014 = .ok (.aload_n 1, 1) := by decide +kernel
theorem dL_law_1015 : decode cL_law 1015 = .ok (.aload_n 0, 1) := by decide +kernel
theorem dL_law_1016 : decode cL_law 1016 = .ok (.iload_n 3, 1) := by decide +kernel
theorem dL_law_1017 : decode cL_law 1017 = .ok (.iconst 1, 1) := by decide +kernel
theorem dL_law_1018 : decode cL_law 1018 = .ok (.iadd, 1) := by decide +kernel
theorem dL_law_1019 : decode cL_law 1019 = .ok (.iaload, 1) := by decide +kernel
theorem dL_law_1020 : decode cL_law 1020 = .ok (.aload_n 0, 1) := by decide +kernel
theorem dL_law_1021 : decode cL_law 1021 = .ok (.iload_n 3, 1) := by decide +kernel
theorem dL_law_1022 : decode cL_law 1022 = .ok (.iconst 2, 1) := by decide +kernel
theorem dL_law_1023 : decode cL_law 1023 = .ok (.iadd, 1) := by decide +kernel
theorem dL_law_1024 : decode cL_law 1024 = .ok (.iaload, 1) := by decide +kernel
theorem dL_law_1025 : decode cL_law 1025 = .ok (.invokevirtual 120, 3) := by decide +kernel
theorem dL_law_1028 : decode cL_law 1028 = .ok (.aload_n 2, 1) := by decide +kernel
theorem dL_law_1029 : decode cL_law 1029 = .ok (.aload_n 0, 1) := by decide +kernel
theorem dL_law_1030 : decode cL_law 1030 = .ok (.iload_n 3, 1) := by decide +kernel
theorem dL_law_1031 : decode cL_law 1031 = .ok (.iconst 1, 1) := by decide +kernel
theorem dL_law_1032 : decode cL_law 1032 = .ok (.iadd, 1) := by decide +kernel
theorem dL_law_1033 : decode cL_law 1033 = .ok (.iaload, 1) := by decide +kernel
theorem dL_law_1034 : decode cL_law 1034 = .ok (.aload_n 0, 1) := by decide +kernel
theorem dL_law_1035 : decode cL_law 1035 = .ok (.iload_n 3, 1) := by decide +kernel
theorem dL_law_1036 : decode cL_law 1036 = .ok (.iconst 2, 1) := by decide +kernel
theorem dL_law_1037 : decode cL_law 1037 = .ok (.iadd, 1) := by decide +kernel
theorem dL_law_1038 : decode cL_law 1038 = .ok (.iaload, 1) := by decide +kernel
theorem dL_law_1039 : decode cL_law 1039 = .ok (.invokevirtual 123, 3) := by decide +kernel
theorem dL_law_1042 : decode cL_law 1042 = .ok (.if_icmp .eq 272, 3) := by decide +kernel
theorem dL_law_1045 : decode cL_law 1045 = .ok (.iconst 0, 1) := by decide +kernel
theorem dL_law_1046 : decode cL_law 1046 = .ok (.ireturn, 1) := by decide +kernel
theorem dL_law_1047 : decode cL_law 1047 = .ok (.aload_n 1, 1) := by decide +kernel
theorem dL_law_1048 : decode cL_law 1048 = .ok (.aload_n 0, 1) := by decide +kernel
theorem dL_law_1049 : decode cL_law 1049 = .ok (.iload_n 3, 1) := by decide +kernel
theorem dL_law_1050 : decode cL_law 1050 = .ok (.iconst 1, 1) := by decide +kernel
theorem dL_law_1051 : decode cL_law 1051 = .ok (.iadd, 1) := by decide +kernel
theorem dL_law_1052 : decode cL_law 1052 = .ok (.iaload, 1) := by decide +kernel
theorem dL_law_1053 : decode cL_law 1053 = .ok (.invokevirtual 124, 3) := by decide +kernel
theorem dL_law_1056 : decode cL_law 1056 = .ok (.aload_n 2, 1) := by decide +kernel
theorem dL_law_1057 : decode cL_law 1057 = .ok (.aload_n 0, 1) := by decide +kernel
theorem dL_law_1058 : decode cL_law 1058 = .ok (.iload_n 3, 1) := by decide +kernel
theorem dL_law_1059 : decode cL_law 1059 = .ok (.iconst 1, 1) := by decide +kernel
theorem dL_law_1060 : decode cL_law 1060 = .ok (.iadd, 1) := by decide +kernel
theorem dL_law_1061 : decode cL_law 1061 = .ok (.iaload, 1) := by decide +kernel
theorem dL_law_1062 : decode cL_law 1062 = .ok (.invokevirtual 127, 3) := by decide +kernel
theorem dL_law_1065 : decode cL_law 1065 = .ok (.if_icmp .eq 249, 3) := by decide +kernel
theorem dL_law_1068 : decode cL_law 1068 = .ok (.iconst 0, 1) := by decide +kernel
theorem dL_law_1069 : decode cL_law 1069 = .ok (.ireturn, 1) := by decide +kernel
theorem dL_law_1070 : decode cL_law 1070 = .ok (.aload_n 1, 1) := by decide +kernel
theorem dL_law_1071 : decode cL_law 1071 = .ok (.invokevirtual 128, 3) := by decide +kernel
theorem dL_law_1074 : decode cL_law 1074 = .ok (.aload_n 2, 1) := by decide +kernel
theorem dL_law_1075 : decode cL_law 1075 = .ok (.invokevirtual 131, 3) := by decide +kernel
theorem dL_law_1078 : decode cL_law 1078 = .ok (.if_icmp .eq 236, 3) := by decide +kernel
theorem dL_law_1081 : decode cL_law 1081 = .ok (.iconst 0, 1) := by decide +kernel
theorem dL_law_1082 : decode cL_law 1082 = .ok (.ireturn, 1) := by decide +kernel
theorem dL_law_1083 : decode cL_law 1083 = .ok (.aload_n 1, 1) := by decide +kernel
theorem dL_law_1084 : decode cL_law 1084 = .ok (.aload_n 0, 1) := by decide +kernel
theorem dL_law_1085 : decode cL_law 1085 = .ok (.iload_n 3, 1) := by decide +kernel
theorem dL_law_1086 : decode cL_law 1086 = .ok (.iconst 1, 1) := by decide +kernel
theorem dL_law_1087 : decode cL_law 1087 = .ok (.iadd, 1) := by decide +kernel
theorem dL_law_1088 : decode cL_law 1088 = .ok (.iaload, 1) := by decide +kernel
theorem dL_law_1089 : decode cL_law 1089 = .ok (.invokevirtual 132, 3) := by decide +kernel
theorem dL_law_1092 : decode cL_law 1092 = .ok (.aload_n 2, 1) := by decide +kernel
theorem dL_law_1093 : decode cL_law 1093 = .ok (.aload_n 0, 1) := by decide +kernel
theorem dL_law_1094 : decode cL_law 1094 = .ok (.iload_n 3, 1) := by decide +kernel
theorem dL_law_1095 : decode cL_law 1095 = .ok (.iconst 1, 1) := by decide +kernel
theorem dL_law_1096 : decode cL_law 1096 = .ok (.iadd, 1) := by decide +kernel
theorem dL_law_1097 : decode cL_law 1097 = .ok (.iaload, 1) := by decide +kernel
theorem dL_law_1098 : decode cL_law 1098 = .ok (.invokevirtual 135, 3) := by decide +kernel
theorem dL_law_1101 : decode cL_law 1101 = .ok (.if_icmp .eq 213, 3) := by decide +kernel
theorem dL_law_1104 : decode cL_law 1104 = .ok (.iconst 0, 1) := by decide +kernel
theorem dL_law_1105 : decode cL_law 1105 = .ok (.ireturn, 1) := by decide +kernel
theorem dL_law_1106 : decode cL_law 1106 = .ok (.aload_n 1, 1) := by decide +kernel
theorem dL_law_1107 : decode cL_law 1107 = .ok (.aload_n 0, 1) := by decide +kernel
theorem dL_law_1108 : decode cL_law 1108 = .ok (.iload_n 3, 1) := by decide +kernel
theorem dL_law_1109 : decode cL_law 1109 = .ok (.iconst 1, 1) := by decide +kernel
theorem dL_law_1110 : decode cL_law 1110 = .ok (.iadd, 1) := by decide +kernel
theorem dL_law_1111 : decode cL_law 1111 = .ok (.iaload, 1) := by decide +kernel
theorem dL_law_1112 : decode cL_law 1112 = .ok (.invokevirtual 136, 3) := by decide +kernel
theorem dL_law_1115 : decode cL_law 1115 = .ok (.aload_n 2, 1) := by decide +kernel
theorem dL_law_1116 : decode cL_law 1116 = .ok (.aload_n 0, 1) := by decide +kernel
theorem dL_law_1117 : decode cL_law 1117 = .ok (.iload_n 3, 1) := by decide +kernel
theorem dL_law_1118 : decode cL_law 1118 = .ok (.iconst 1, 1) := by decide +kernel
theorem dL_law_1119 : decode cL_law 1119 = .ok (.iadd, 1) := by decide +kernel
theorem dL_law_1120 : decode cL_law 1120 = .ok (.iaload, 1) := by decide +kernel
theorem dL_law_1121 : decode cL_law 1121 = .ok (.invokevirtual 139, 3) := by decide +kernel
theorem dL_law_1124 : decode cL_law 1124 = .ok (.if_icmp .eq 190, 3) := by decide +kernel
theorem dL_law_1127 : decode cL_law 1127 = .ok (.iconst 0, 1) := by decide +kernel
theorem dL_law_1128 : decode cL_law 1128 = .ok (.ireturn, 1) := by decide +kernel
theorem dL_law_1129 : decode cL_law 1129 = .ok (.aload_n 1, 1) := by decide +kernel
theorem dL_law_1130 : decode cL_law 1130 = .ok (.aload_n 0, 1) := by decide +kernel
theorem dL_law_1131 : decode cL_law 1131 = .ok (.iload_n 3, 1) := by decide +kernel
theorem dL_law_1132 : decode cL_law 1132 = .ok (.iconst 1, 1) := by decide +kernel
theorem dL_law_1133 : decode cL_law 1133 = .ok (.iadd, 1) := by decide +kernel
theorem dL_law_1134 : decode cL_law 1134 = .ok (.iaload, 1) := by decide +kernel
theorem dL_law_1135 : decode cL_law 1135 = .ok (.aload_n 0, 1) := by decide +kernel
theorem dL_law_1136 : decode cL_law 1136 = .ok (.iload_n 3, 1) := by decide +kernel
theorem dL_law_1137 : decode cL_law 1137 = .ok (.iconst 2, 1) := by decide +kernel
theorem dL_law_1138 : decode cL_law 1138 = .ok (.iadd, 1) := by decide +kernel
theorem dL_law_1139 : decode cL_law 1139 = .ok (.iaload, 1) := by decide +kernel
theorem dL_law_1140 : decode cL_law 1140 = .ok (.aload_n 0, 1) := by decide +kernel
theorem dL_law_1141 : decode cL_law 1141 = .ok (.iload_n 3, 1) := by decide +kernel
theorem dL_law_1142 : decode cL_law 1142 = .ok (.iconst 3, 1) := by decide +kernel
theorem dL_law_1143 : decode cL_law 1143 = .ok (.iadd, 1) := by decide +kernel
theorem dL_law_1144 : decode cL_law 1144 = .ok (.iaload, 1) := by decide +kernel
theorem dL_law_1145 : decode cL_law 1145 = .ok (.invokevirtual 140, 3) := by decide +kernel
theorem dL_law_1148 : decode cL_law 1148 = .ok (.aload_n 2, 1) := by decide +kernel
theorem dL_law_1149 : decode cL_law 1149 = .ok (.aload_n 0, 1) := by decide +kernel
theorem dL_law_1150 : decode cL_law 1150 = .ok (.iload_n 3, 1) := by decide +kernel
theorem dL_law_1151 : decode cL_law 1151 = .ok (.iconst 1, 1) := by decide +kernel
theorem dL_law_1152 : decode cL_law 1152 = .ok (.iadd, 1) := by decide +kernel
theorem dL_law_1153 : decode cL_law 1153 = .ok (.iaload, 1) := by decide +kernel
theorem dL_law_1154 : decode cL_law 1154 = .ok (.aload_n 0, 1) := by decide +kernel
theorem dL_law_1155 : decode cL_law 1155 = .ok (.iload_n 3, 1) := by decide +kernel
theorem dL_law_1156 : decode cL_law 1156 = .ok (.iconst 2, 1) := by decide +kernel
theorem dL_law_1157 : decode cL_law 1157 = .ok (.iadd, 1) := by decide +kernel
theorem dL_law_1158 : decode cL_law 1158 = .ok (.iaload, 1) := by decide +kernel
theorem dL_law_1159 : decode cL_law 1159 = .ok (.aload_n 0, 1) := by decide +kernel
theorem dL_law_1160 : decode cL_law 1160 = .ok (.iload_n 3, 1) := by decide +kernel
theorem dL_law_1161 : decode cL_law 1161 = .ok (.iconst 3, 1) := by decide +kernel
theorem dL_law_1162 : decode cL_law 1162 = .ok (.iadd, 1) := by decide +kernel
theorem dL_law_1163 : decode cL_law 1163 = .ok (.iaload, 1) := by decide +kernel
theorem dL_law_1164 : decode cL_law 1164 = .ok (.invokevirtual 143, 3) := by decide +kernel
theorem dL_law_1167 : decode cL_law 1167 = .ok (.if_icmp .eq 147, 3) := by decide +kernel
theorem dL_law_1170 : decode cL_law 1170 = .ok (.iconst 0, 1) := by decide +kernel
theorem dL_law_1171 : decode cL_law 1171 = .ok (.ireturn, 1) := by decide +kernel
theorem dL_law_1172 : decode cL_law 1172 = .ok (.aload_n 1, 1) := by decide +kernel
theorem dL_law_1173 : decode cL_law 1173 = .ok (.aload_n 0, 1) := by decide +kernel
theorem dL_law_1174 : decode cL_law 1174 = .ok (.iload_n 3, 1) := by decide +kernel
theorem dL_law_1175 : decode cL_law 1175 = .ok (.iconst 1, 1) := by decide +kernel
theorem dL_law_1176 : decode cL_law 1176 = .ok (.iadd, 1) := by decide +kernel
theorem dL_law_1177 : decode cL_law 1177 = .ok (.iaload, 1) := by decide +kernel
theorem dL_law_1178 : decode cL_law 1178 = .ok (.aload_n 0, 1) := by decide +kernel
theorem dL_law_1179 : decode cL_law 1179 = .ok (.iload_n 3, 1) := by decide +kernel
theorem dL_law_1180 : decode cL_law 1180 = .ok (.iconst 2, 1) := by decide +kernel
theorem dL_law_1181 : decode cL_law 1181 = .ok (.iadd, 1) := by decide +kernel
theorem dL_law_1182 : decode cL_law 1182 = .ok (.iaload, 1) := by decide +kernel
theorem dL_law_1183 : decode cL_law 1183 = .ok (.aload_n 0, 1) := by decide +kernel
theorem dL_law_1184 : decode cL_law 1184 = .ok (.iload_n 3, 1) := by decide +kernel
theorem dL_law_1185 : decode cL_law 1185 = .ok (.iconst 3, 1) := by decide +kernel
theorem dL_law_1186 : decode cL_law 1186 = .ok (.iadd, 1) := by decide +kernel
theorem dL_law_1187 : decode cL_law 1187 = .ok (.iaload, 1) := by decide +kernel
theorem dL_law_1188 : decode cL_law 1188 = .ok (.invokevirtual 144, 3) := by decide +kernel
theorem dL_law_1191 : decode cL_law 1191 = .ok (.aload_n 2, 1) := by decide +kernel
theorem dL_law_1192 : decode cL_law 1192 = .ok (.aload_n 0, 1) := by decide +kernel
theorem dL_law_1193 : decode cL_law 1193 = .ok (.iload_n 3, 1) := by decide +kernel
theorem dL_law_1194 : decode cL_law 1194 = .ok (.iconst 1, 1) := by decide +kernel
theorem dL_law_1195 : decode cL_law 1195 = .ok (.iadd, 1) := by decide +kernel
theorem dL_law_1196 : decode cL_law 1196 = .ok (.iaload, 1) := by decide +kernel
theorem dL_law_1197 : decode cL_law 1197 = .ok (.aload_n 0, 1) := by decide +kernel
theorem dL_law_1198 : decode cL_law 1198 = .ok (.iload_n 3, 1) := by decide +kernel
theorem dL_law_1199 : decode cL_law 1199 = .ok (.iconst 2, 1) := by decide +kernel
theorem dL_law_1200 : decode cL_law 1200 = .ok (.iadd, 1) := by decide +kernel
theorem dL_law_1201 : decode cL_law 1201 = .ok (.iaload, 1) := by decide +kernel
theorem dL_law_1202 : decode cL_law 1202 = .ok (.aload_n 0, 1) := by decide +kernel
theorem dL_law_1203 : decode cL_law 1203 = .ok (.iload_n 3, 1) := by decide +kernel
theorem dL_law_1204 : decode cL_law 1204 = .ok (.iconst 3, 1) := by decide +kernel
theorem dL_law_1205 : decode cL_law 1205 = .ok (.iadd, 1) := by decide +kernel
theorem dL_law_1206 : decode cL_law 1206 = .ok (.iaload, 1) := by decide +kernel
theorem dL_law_1207 : decode cL_law 1207 = .ok (.invokevirtual 147, 3) := by decide +kernel
theorem dL_law_1210 : decode cL_law 1210 = .ok (.if_icmp .eq 104, 3) := by decide +kernel
theorem dL_law_1213 : decode cL_law 1213 = .ok (.iconst 0, 1) := by decide +kernel
theorem dL_law_1214 : decode cL_law 1214 = .ok (.ireturn, 1) := by decide +kernel
theorem dL_law_1215 : decode cL_law 1215 = .ok (.aload_n 1, 1) := by decide +kernel
theorem dL_law_1216 : decode cL_law 1216 = .ok (.aload_n 0, 1) := by decide +kernel
theorem dL_law_1217 : decode cL_law 1217 = .ok (.iload_n 3, 1) := by decide +kernel
theorem dL_law_1218 : decode cL_law 1218 = .ok (.iconst 1, 1) := by decide +kernel
theorem dL_law_1219 : decode cL_law 1219 = .ok (.iadd, 1) := by decide +kernel
theorem dL_law_1220 : decode cL_law 1220 = .ok (.iaload, 1) := by decide +kernel
theorem dL_law_1221 : decode cL_law 1221 = .ok (.aload_n 0, 1) := by decide +kernel
theorem dL_law_1222 : decode cL_law 1222 = .ok (.iload_n 3, 1) := by decide +kernel
theorem dL_law_1223 : decode cL_law 1223 = .ok (.iconst 2, 1) := by decide +kernel
theorem dL_law_1224 : decode cL_law 1224 = .ok (.iadd, 1) := by decide +kernel
theorem dL_law_1225 : decode cL_law 1225 = .ok (.iaload, 1) := by decide +kernel
theorem dL_law_1226 : decode cL_law 1226 = .ok (.aload_n 0, 1) := by decide +kernel
theorem dL_law_1227 : decode cL_law 1227 = .ok (.iload_n 3, 1) := by decide +kernel
theorem dL_law_1228 : decode cL_law 1228 = .ok (.iconst 3, 1) := by decide +kernel
theorem dL_law_1229 : decode cL_law 1229 = .ok (.iadd, 1) := by decide +kernel
theorem dL_law_1230 : decode cL_law 1230 = .ok (.iaload, 1) := by decide +kernel
theorem dL_law_1231 : decode cL_law 1231 = .ok (.aload_n 0, 1) := by decide +kernel
theorem dL_law_1232 : decode cL_law 1232 = .ok (.iload_n 3, 1) := by decide +kernel
theorem dL_law_1233 : decode cL_law 1233 = .ok (.iconst 4, 1) := by decide +kernel
theorem dL_law_1234 : decode cL_law 1234 = .ok (.iadd, 1) := by decide +kernel
theorem dL_law_1235 : decode cL_law 1235 = .ok (.iaload, 1) := by decide +kernel
theorem dL_law_1236 : decode cL_law 1236 = .ok (.aload_n 0, 1) := by decide +kernel
theorem dL_law_1237 : decode cL_law 1237 = .ok (.iload_n 3, 1) := by decide +kernel
theorem dL_law_1238 : decode cL_law 1238 = .ok (.iconst 5, 1) := by decide +kernel
theorem dL_law_1239 : decode cL_law 1239 = .ok (.iadd, 1) := by decide +kernel
theorem dL_law_1240 : decode cL_law 1240 = .ok (.iaload, 1) := by decide +kernel
theorem dL_law_1241 : decode cL_law 1241 = .ok (.invokevirtual 148, 3) := by decide +kernel
theorem dL_law_1244 : decode cL_law 1244 = .ok (.aload_n 2, 1) := by decide +kernel
theorem dL_law_1245 : decode cL_law 1245 = .ok (.aload_n 0, 1) := by decide +kernel
theorem dL_law_1246 : decode cL_law 1246 = .ok (.iload_n 3, 1) := by decide +kernel
theorem dL_law_1247 : decode cL_law 1247 = .ok (.iconst 1, 1) := by decide +kernel
theorem dL_law_1248 : decode cL_law 1248 = .ok (.iadd, 1) := by decide +kernel
theorem dL_law_1249 : decode cL_law 1249 = .ok (.iaload, 1) := by decide +kernel
theorem dL_law_1250 : decode cL_law 1250 = .ok (.aload_n 0, 1) := by decide +kernel
theorem dL_law_1251 : decode cL_law 1251 = .ok (.iload_n 3, 1) := by decide +kernel
theorem dL_law_1252 : decode cL_law 1252 = .ok (.iconst 2, 1) := by decide +kernel
theorem dL_law_1253 : decode cL_law 1253 = .ok (.iadd, 1) := by decide +kernel
theorem dL_law_1254 : decode cL_law 1254 = .ok (.iaload, 1) := by decide +kernel
theorem dL_law_1255 : decode cL_law 1255 = .ok (.aload_n 0, 1) := by decide +kernel
theorem dL_law_1256 : decode cL_law 1256 = .ok (.iload_n 3, 1) := by decide +kernel
theorem dL_law_1257 : decode cL_law 1257 = .ok (.iconst 3, 1) := by decide +kernel
theorem dL_law_1258 : decode cL_law 1258 = .ok (.iadd, 1) := by decide +kernel
theorem dL_law_1259 : decode cL_law 1259 = .ok (.iaload, 1) := by decide +kernel
theorem dL_law_1260 : decode cL_law 1260 = .ok (.aload_n 0, 1) := by decide +kernel
theorem dL_law_1261 : decode cL_law 1261 = .ok (.iload_n 3, 1) := by decide +kernel
theorem dL_law_1262 : decode cL_law 1262 = .ok (.iconst 4, 1) := by decide +kernel
theorem dL_law_1263 : decode cL_law 1263 = .ok (.iadd, 1) := by decide +kernel
theorem dL_law_1264 : decode cL_law 1264 = .ok (.iaload, 1) := by decide +kernel
theorem dL_law_1265 : decode cL_law 1265 = .ok (.aload_n 0, 1) := by decide +kernel
theorem dL_law_1266 : decode cL_law 1266 = .ok (.iload_n 3, 1) := by decide +kernel
theorem dL_law_1267 : decode cL_law 1267 = .ok (.iconst 5, 1) := by decide +kernel
theorem dL_law_1268 : decode cL_law 1268 = .ok (.iadd, 1) := by decide +kernel
theorem dL_law_1269 : decode cL_law 1269 = .ok (.iaload, 1) := by decide +kernel
theorem dL_law_1270 : decode cL_law 1270 = .ok (.invokevirtual 152, 3) := by decide +kernel
theorem dL_law_1273 : decode cL_law 1273 = .ok (.if_icmp .eq 41, 3) := by decide +kernel
theorem dL_law_1276 : decode cL_law 1276 = .ok (.iconst 0, 1) := by decide +kernel
theorem dL_law_1277 : decode cL_law 1277 = .ok (.ireturn, 1) := by decide +kernel
theorem dL_law_1278 : decode cL_law 1278 = .ok (.aload_n 1, 1) := by decide +kernel
theorem dL_law_1279 : decode cL_law 1279 = .ok (.invokevirtual 153, 3) := by decide +kernel
theorem dL_law_1282 : decode cL_law 1282 = .ok (.aload_n 2, 1) := by decide +kernel
theorem dL_law_1283 : decode cL_law 1283 = .ok (.invokevirtual 156, 3) := by decide +kernel
theorem dL_law_1286 : decode cL_law 1286 = .ok (.if_icmp .eq 28, 3) := by decide +kernel
theorem dL_law_1289 : decode cL_law 1289 = .ok (.iconst 0, 1) := by decide +kernel
theorem dL_law_1290 : decode cL_law 1290 = .ok (.ireturn, 1) := by decide +kernel
theorem dL_law_1291 : decode cL_law 1291 = .ok (.aload_n 1, 1) := by decide +kernel
theorem dL_law_1292 : decode cL_law 1292 = .ok (.aload_n 0, 1) := by decide +kernel
theorem dL_law_1293 : decode cL_law 1293 = .ok (.iload_n 3, 1) := by decide +kernel
theorem dL_law_1294 : decode cL_law 1294 = .ok (.iconst 1, 1) := by decide +kernel
theorem dL_law_1295 : decode cL_law 1295 = .ok (.iadd, 1) := by decide +kernel
theorem dL_law_1296 : decode cL_law 1296 = .ok (.iaload, 1) := by decide +kernel
theorem dL_law_1297 : decode cL_law 1297 = .ok (.invokevirtual 157, 3) := by decide +kernel
theorem dL_law_1300 : decode cL_law 1300 = .ok (.aload_n 2, 1) := by decide +kernel
theorem dL_law_1301 : decode cL_law 1301 = .ok (.aload_n 0, 1) := by decide +kernel
theorem dL_law_1302 : decode cL_law 1302 = .ok (.iload_n 3, 1) := by decide +kernel
theorem dL_law_1303 : decode cL_law 1303 = .ok (.iconst 1, 1) := by decide +kernel
theorem dL_law_1304 : decode cL_law 1304 = .ok (.iadd, 1) := by decide +kernel
theorem dL_law_1305 : decode cL_law 1305 = .ok (.iaload, 1) := by decide +kernel
theorem dL_law_1306 : decode cL_law 1306 = .ok (.invokevirtual 160, 3) := by decide +kernel
theorem dL_law_1309 : decode cL_law 1309 = .ok (.if_icmp .eq 5, 3) := by decide +kernel
theorem dL_law_1312 : decode cL_law 1312 = .ok (.iconst 0, 1) := by decide +kernel
theorem dL_law_1313 : decode cL_law 1313 = .ok (.ireturn, 1) := by decide +kernel
theorem dL_law_1314 : decode cL_law 1314 = .ok (.iinc 3 6, 3) := by decide +kernel
theorem dL_law_1317 : decode cL_law 1317 = .ok (.goto (-1299), 3) := by decide +kernel
theorem dL_law_1320 : decode cL_law 1320 = .ok (.iconst 1, 1) := by decide +kernel
theorem dL_law_1321 : decode cL_law 1321 = .ok (.ireturn, 1) := by decide +kernel
