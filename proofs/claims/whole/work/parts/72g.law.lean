theorem dl_866 : decode code 866 = .ok (.invokevirtual 117, 3) := by decide +kernel
theorem dl_869 : decode code 869 = .ok (.aload_n 2, 1) := by decide +kernel
theorem dl_870 : decode code 870 = .ok (.aload_n 0, 1) := by decide +kernel
theorem dl_871 : decode code 871 = .ok (.iload_n 3, 1) := by decide +kernel
theorem dl_872 : decode code 872 = .ok (.iconst 1, 1) := by decide +kernel
theorem dl_873 : decode code 873 = .ok (.iadd, 1) := by decide +kernel
theorem dl_874 : decode code 874 = .ok (.iaload, 1) := by decide +kernel
theorem dl_875 : decode code 875 = .ok (.invokevirtual 121, 3) := by decide +kernel
theorem dl_878 : decode code 878 = .ok (.lcmp, 1) := by decide +kernel
theorem dl_879 : decode code 879 = .ok (.ifCond .eq 111, 3) := by decide +kernel
theorem dl_882 : decode code 882 = .ok (.iconst 0, 1) := by decide +kernel
theorem dl_883 : decode code 883 = .ok (.ireturn, 1) := by decide +kernel
theorem dl_884 : decode code 884 = .ok (.aload_n 1, 1) := by decide +kernel
theorem dl_885 : decode code 885 = .ok (.aload_n 0, 1) := by decide +kernel
theorem dl_886 : decode code 886 = .ok (.iload_n 3, 1) := by decide +kernel
theorem dl_887 : decode code 887 = .ok (.iconst 1, 1) := by decide +kernel
theorem dl_888 : decode code 888 = .ok (.iadd, 1) := by decide +kernel
theorem dl_889 : decode code 889 = .ok (.iaload, 1) := by decide +kernel
theorem dl_890 : decode code 890 = .ok (.invokevirtual 122, 3) := by decide +kernel
theorem dl_893 : decode code 893 = .ok (.aload_n 2, 1) := by decide +kernel
theorem dl_894 : decode code 894 = .ok (.aload_n 0, 1) := by decide +kernel
theorem dl_895 : decode code 895 = .ok (.iload_n 3, 1) := by decide +kernel
theorem dl_896 : decode code 896 = .ok (.iconst 1, 1) := by decide +kernel
theorem dl_897 : decode code 897 = .ok (.iadd, 1) := by decide +kernel
theorem dl_898 : decode code 898 = .ok (.iaload, 1) := by decide +kernel
theorem dl_899 : decode code 899 = .ok (.invokevirtual 125, 3) := by decide +kernel
theorem dl_902 : decode code 902 = .ok (.if_icmp .eq 88, 3) := by decide +kernel
theorem dl_905 : decode code 905 = .ok (.iconst 0, 1) := by decide +kernel
theorem dl_906 : decode code 906 = .ok (.ireturn, 1) := by decide +kernel
theorem dl_907 : decode code 907 = .ok (.aload_n 1, 1) := by decide +kernel
theorem dl_908 : decode code 908 = .ok (.aload_n 0, 1) := by decide +kernel
theorem dl_909 : decode code 909 = .ok (.iload_n 3, 1) := by decide +kernel
theorem dl_910 : decode code 910 = .ok (.iconst 1, 1) := by decide +kernel
theorem dl_911 : decode code 911 = .ok (.iadd, 1) := by decide +kernel
theorem dl_912 : decode code 912 = .ok (.iaload, 1) := by decide +kernel
theorem dl_913 : decode code 913 = .ok (.invokevirtual 126, 3) := by decide +kernel
theorem dl_916 : decode code 916 = .ok (.aload_n 2, 1) := by decide +kernel
theorem dl_917 : decode code 917 = .ok (.aload_n 0, 1) := by decide +kernel
theorem dl_918 : decode code 918 = .ok (.iload_n 3, 1) := by decide +kernel
theorem dl_919 : decode code 919 = .ok (.iconst 1, 1) := by decide +kernel
theorem dl_920 : decode code 920 = .ok (.iadd, 1) := by decide +kernel
theorem dl_921 : decode code 921 = .ok (.iaload, 1) := by decide +kernel
theorem dl_922 : decode code 922 = .ok (.invokevirtual 129, 3) := by decide +kernel
theorem dl_925 : decode code 925 = .ok (.if_icmp .eq 65, 3) := by decide +kernel
theorem dl_928 : decode code 928 = .ok (.iconst 0, 1) := by decide +kernel
theorem dl_929 : decode code 929 = .ok (.ireturn, 1) := by decide +kernel
theorem dl_930 : decode code 930 = .ok (.aload_n 1, 1) := by decide +kernel
theorem dl_931 : decode code 931 = .ok (.aload_n 0, 1) := by decide +kernel
theorem dl_932 : decode code 932 = .ok (.iload_n 3, 1) := by decide +kernel
theorem dl_933 : decode code 933 = .ok (.iconst 1, 1) := by decide +kernel
theorem dl_934 : decode code 934 = .ok (.iadd, 1) := by decide +kernel
theorem dl_935 : decode code 935 = .ok (.iaload, 1) := by decide +kernel
theorem dl_936 : decode code 936 = .ok (.invokevirtual 130, 3) := by decide +kernel
theorem dl_939 : decode code 939 = .ok (.aload_n 2, 1) := by decide +kernel
theorem dl_940 : decode code 940 = .ok (.aload_n 0, 1) := by decide +kernel
theorem dl_941 : decode code 941 = .ok (.iload_n 3, 1) := by decide +kernel
theorem dl_942 : decode code 942 = .ok (.iconst 1, 1) := by decide +kernel
theorem dl_943 : decode code 943 = .ok (.iadd, 1) := by decide +kernel
theorem dl_944 : decode code 944 = .ok (.iaload, 1) := by decide +kernel
theorem dl_945 : decode code 945 = .ok (.invokevirtual 133, 3) := by decide +kernel
theorem dl_948 : decode code 948 = .ok (.if_icmp .eq 42, 3) := by decide +kernel
theorem dl_951 : decode code 951 = .ok (.iconst 0, 1) := by decide +kernel
theorem dl_952 : decode code 952 = .ok (.ireturn, 1) := by decide +kernel
theorem dl_953 : decode code 953 = .ok (.aload_n 1, 1) := by decide +kernel
theorem dl_954 : decode code 954 = .ok (.aload_n 0, 1) := by decide +kernel
theorem dl_955 : decode code 955 = .ok (.iload_n 3, 1) := by decide +kernel
theorem dl_956 : decode code 956 = .ok (.iconst 1, 1) := by decide +kernel
theorem dl_957 : decode code 957 = .ok (.iadd, 1) := by decide +kernel
theorem dl_958 : decode code 958 = .ok (.iaload, 1) := by decide +kernel
theorem dl_959 : decode code 959 = .ok (.invokevirtual 134, 3) := by decide +kernel
theorem dl_962 : decode code 962 = .ok (.aload_n 2, 1) := by decide +kernel
theorem dl_963 : decode code 963 = .ok (.aload_n 0, 1) := by decide +kernel
theorem dl_964 : decode code 964 = .ok (.iload_n 3, 1) := by decide +kernel
theorem dl_965 : decode code 965 = .ok (.iconst 1, 1) := by decide +kernel
theorem dl_966 : decode code 966 = .ok (.iadd, 1) := by decide +kernel
theorem dl_967 : decode code 967 = .ok (.iaload, 1) := by decide +kernel
theorem dl_968 : decode code 968 = .ok (.invokevirtual 137, 3) := by decide +kernel
theorem dl_971 : decode code 971 = .ok (.if_icmp .eq 19, 3) := by decide +kernel
theorem dl_974 : decode code 974 = .ok (.iconst 0, 1) := by decide +kernel
theorem dl_975 : decode code 975 = .ok (.ireturn, 1) := by decide +kernel
theorem dl_976 : decode code 976 = .ok (.aload_n 1, 1) := by decide +kernel
theorem dl_977 : decode code 977 = .ok (.invokevirtual 138, 3) := by decide +kernel
theorem dl_980 : decode code 980 = .ok (.aload_n 2, 1) := by decide +kernel
theorem dl_981 : decode code 981 = .ok (.invokevirtual 142, 3) := by decide +kernel
theorem dl_984 : decode code 984 = .ok (.lcmp, 1) := by decide +kernel
theorem dl_985 : decode code 985 = .ok (.ifCond .eq 5, 3) := by decide +kernel
theorem dl_988 : decode code 988 = .ok (.iconst 0, 1) := by decide +kernel
theorem dl_989 : decode code 989 = .ok (.ireturn, 1) := by decide +kernel
theorem dl_990 : decode code 990 = .ok (.iinc 3 5, 3) := by decide +kernel
theorem dl_993 : decode code 993 = .ok (.goto (-975), 3) := by decide +kernel
theorem dl_996 : decode code 996 = .ok (.iconst 1, 1) := by decide +kernel
theorem dl_997 : decode code 997 = .ok (.ireturn, 1) := by decide +kernel
