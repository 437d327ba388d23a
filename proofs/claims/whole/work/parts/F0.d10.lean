/-! THE LAW: its instructions, 10 -/
theorem dL_841 : decode code 841 = .ok (.iadd, 1) := by decide +kernel
theorem dL_842 : decode code 842 = .ok (.iaload, 1) := by decide +kernel
theorem dL_843 : decode code 843 = .ok (.invokevirtual 95, 3) := by decide +kernel
theorem dL_846 : decode code 846 = .ok (.aload_n 2, 1) := by decide +kernel
theorem dL_847 : decode code 847 = .ok (.aload_n 0, 1) := by decide +kernel
theorem dL_848 : decode code 848 = .ok (.iload 4, 2) := by decide +kernel
theorem dL_850 : decode code 850 = .ok (.iconst 1, 1) := by decide +kernel
theorem dL_851 : decode code 851 = .ok (.iadd, 1) := by decide +kernel
theorem dL_852 : decode code 852 = .ok (.iaload, 1) := by decide +kernel
theorem dL_853 : decode code 853 = .ok (.aload_n 0, 1) := by decide +kernel
theorem dL_854 : decode code 854 = .ok (.iload 4, 2) := by decide +kernel
theorem dL_856 : decode code 856 = .ok (.iconst 2, 1) := by decide +kernel
theorem dL_857 : decode code 857 = .ok (.iadd, 1) := by decide +kernel
theorem dL_858 : decode code 858 = .ok (.iaload, 1) := by decide +kernel
theorem dL_859 : decode code 859 = .ok (.aload_n 0, 1) := by decide +kernel
theorem dL_860 : decode code 860 = .ok (.iload 4, 2) := by decide +kernel
theorem dL_862 : decode code 862 = .ok (.iconst 3, 1) := by decide +kernel
theorem dL_863 : decode code 863 = .ok (.iadd, 1) := by decide +kernel
theorem dL_864 : decode code 864 = .ok (.iaload, 1) := by decide +kernel
theorem dL_865 : decode code 865 = .ok (.invokevirtual 98, 3) := by decide +kernel
theorem dL_868 : decode code 868 = .ok (.if_icmp .eq 433, 3) := by decide +kernel
theorem dL_871 : decode code 871 = .ok (.iconst 0, 1) := by decide +kernel
theorem dL_872 : decode code 872 = .ok (.ireturn, 1) := by decide +kernel
theorem dL_873 : decode code 873 = .ok (.aload_n 1, 1) := by decide +kernel
theorem dL_874 : decode code 874 = .ok (.invokevirtual 99, 3) := by decide +kernel
theorem dL_877 : decode code 877 = .ok (.aload_n 2, 1) := by decide +kernel
theorem dL_878 : decode code 878 = .ok (.invokevirtual 102, 3) := by decide +kernel
theorem dL_881 : decode code 881 = .ok (.if_icmp .eq 420, 3) := by decide +kernel
theorem dL_884 : decode code 884 = .ok (.iconst 0, 1) := by decide +kernel
theorem dL_885 : decode code 885 = .ok (.ireturn, 1) := by decide +kernel
theorem dL_886 : decode code 886 = .ok (.aload_n 1, 1) := by decide +kernel
theorem dL_887 : decode code 887 = .ok (.invokevirtual 103, 3) := by decide +kernel
theorem dL_890 : decode code 890 = .ok (.aload_n 2, 1) := by decide +kernel
theorem dL_891 : decode code 891 = .ok (.invokevirtual 106, 3) := by decide +kernel
theorem dL_894 : decode code 894 = .ok (.if_icmp .eq 407, 3) := by decide +kernel
theorem dL_897 : decode code 897 = .ok (.iconst 0, 1) := by decide +kernel
theorem dL_898 : decode code 898 = .ok (.ireturn, 1) := by decide +kernel
theorem dL_899 : decode code 899 = .ok (.aload_n 1, 1) := by decide +kernel
theorem dL_900 : decode code 900 = .ok (.aload_n 0, 1) := by decide +kernel
theorem dL_901 : decode code 901 = .ok (.iload 4, 2) := by decide +kernel
theorem dL_903 : decode code 903 = .ok (.iconst 1, 1) := by decide +kernel
theorem dL_904 : decode code 904 = .ok (.iadd, 1) := by decide +kernel
theorem dL_905 : decode code 905 = .ok (.iaload, 1) := by decide +kernel
theorem dL_906 : decode code 906 = .ok (.invokevirtual 107, 3) := by decide +kernel
theorem dL_909 : decode code 909 = .ok (.aload_n 2, 1) := by decide +kernel
theorem dL_910 : decode code 910 = .ok (.aload_n 0, 1) := by decide +kernel
theorem dL_911 : decode code 911 = .ok (.iload 4, 2) := by decide +kernel
theorem dL_913 : decode code 913 = .ok (.iconst 1, 1) := by decide +kernel
theorem dL_914 : decode code 914 = .ok (.iadd, 1) := by decide +kernel
theorem dL_915 : decode code 915 = .ok (.iaload, 1) := by decide +kernel
