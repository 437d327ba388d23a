/-! THE LAW: its instructions, 11 -/
theorem dL_916 : decode code 916 = .ok (.invokevirtual 110, 3) := by decide +kernel
theorem dL_919 : decode code 919 = .ok (.if_icmp .eq 382, 3) := by decide +kernel
theorem dL_922 : decode code 922 = .ok (.iconst 0, 1) := by decide +kernel
theorem dL_923 : decode code 923 = .ok (.ireturn, 1) := by decide +kernel
theorem dL_924 : decode code 924 = .ok (.aload_n 1, 1) := by decide +kernel
theorem dL_925 : decode code 925 = .ok (.aload_n 0, 1) := by decide +kernel
theorem dL_926 : decode code 926 = .ok (.iload 4, 2) := by decide +kernel
theorem dL_928 : decode code 928 = .ok (.iconst 1, 1) := by decide +kernel
theorem dL_929 : decode code 929 = .ok (.iadd, 1) := by decide +kernel
theorem dL_930 : decode code 930 = .ok (.iaload, 1) := by decide +kernel
theorem dL_931 : decode code 931 = .ok (.aload_n 0, 1) := by decide +kernel
theorem dL_932 : decode code 932 = .ok (.iload 4, 2) := by decide +kernel
theorem dL_934 : decode code 934 = .ok (.iconst 2, 1) := by decide +kernel
theorem dL_935 : decode code 935 = .ok (.iadd, 1) := by decide +kernel
theorem dL_936 : decode code 936 = .ok (.iaload, 1) := by decide +kernel
theorem dL_937 : decode code 937 = .ok (.invokevirtual 111, 3) := by decide +kernel
theorem dL_940 : decode code 940 = .ok (.aload_n 2, 1) := by decide +kernel
theorem dL_941 : decode code 941 = .ok (.aload_n 0, 1) := by decide +kernel
theorem dL_942 : decode code 942 = .ok (.iload 4, 2) := by decide +kernel
theorem dL_944 : decode code 944 = .ok (.iconst 1, 1) := by decide +kernel
theorem dL_945 : decode code 945 = .ok (.iadd, 1) := by decide +kernel
theorem dL_946 : decode code 946 = .ok (.iaload, 1) := by decide +kernel
theorem dL_947 : decode code 947 = .ok (.aload_n 0, 1) := by decide +kernel
theorem dL_948 : decode code 948 = .ok (.iload 4, 2) := by decide +kernel
theorem dL_950 : decode code 950 = .ok (.iconst 2, 1) := by decide +kernel
theorem dL_951 : decode code 951 = .ok (.iadd, 1) := by decide +kernel
theorem dL_952 : decode code 952 = .ok (.iaload, 1) := by decide +kernel
theorem dL_953 : decode code 953 = .ok (.invokevirtual 114, 3) := by decide +kernel
theorem dL_956 : decode code 956 = .ok (.if_icmp .eq 345, 3) := by decide +kernel
theorem dL_959 : decode code 959 = .ok (.iconst 0, 1) := by decide +kernel
theorem dL_960 : decode code 960 = .ok (.ireturn, 1) := by decide +kernel
theorem dL_961 : decode code 961 = .ok (.aload_n 1, 1) := by decide +kernel
theorem dL_962 : decode code 962 = .ok (.aload_n 0, 1) := by decide +kernel
theorem dL_963 : decode code 963 = .ok (.iload 4, 2) := by decide +kernel
theorem dL_965 : decode code 965 = .ok (.iconst 1, 1) := by decide +kernel
theorem dL_966 : decode code 966 = .ok (.iadd, 1) := by decide +kernel
theorem dL_967 : decode code 967 = .ok (.iaload, 1) := by decide +kernel
theorem dL_968 : decode code 968 = .ok (.aload_n 0, 1) := by decide +kernel
theorem dL_969 : decode code 969 = .ok (.iload 4, 2) := by decide +kernel
theorem dL_971 : decode code 971 = .ok (.iconst 2, 1) := by decide +kernel
theorem dL_972 : decode code 972 = .ok (.iadd, 1) := by decide +kernel
theorem dL_973 : decode code 973 = .ok (.iaload, 1) := by decide +kernel
theorem dL_974 : decode code 974 = .ok (.aload_n 0, 1) := by decide +kernel
theorem dL_975 : decode code 975 = .ok (.iload 4, 2) := by decide +kernel
theorem dL_977 : decode code 977 = .ok (.iconst 3, 1) := by decide +kernel
theorem dL_978 : decode code 978 = .ok (.iadd, 1) := by decide +kernel
theorem dL_979 : decode code 979 = .ok (.iaload, 1) := by decide +kernel
theorem dL_980 : decode code 980 = .ok (.ifCond .eq 7, 3) := by decide +kernel
theorem dL_983 : decode code 983 = .ok (.iconst 1, 1) := by decide +kernel
theorem dL_984 : decode code 984 = .ok (.goto 4, 3) := by decide +kernel
