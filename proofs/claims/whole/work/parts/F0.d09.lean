/-! THE LAW: its instructions, 9 -/
theorem dL_776 : decode code 776 = .ok (.aload_n 0, 1) := by decide +kernel
theorem dL_777 : decode code 777 = .ok (.iload 4, 2) := by decide +kernel
theorem dL_779 : decode code 779 = .ok (.iconst 1, 1) := by decide +kernel
theorem dL_780 : decode code 780 = .ok (.iadd, 1) := by decide +kernel
theorem dL_781 : decode code 781 = .ok (.iaload, 1) := by decide +kernel
theorem dL_782 : decode code 782 = .ok (.aload_n 0, 1) := by decide +kernel
theorem dL_783 : decode code 783 = .ok (.iload 4, 2) := by decide +kernel
theorem dL_785 : decode code 785 = .ok (.iconst 2, 1) := by decide +kernel
theorem dL_786 : decode code 786 = .ok (.iadd, 1) := by decide +kernel
theorem dL_787 : decode code 787 = .ok (.iaload, 1) := by decide +kernel
theorem dL_788 : decode code 788 = .ok (.aload_n 0, 1) := by decide +kernel
theorem dL_789 : decode code 789 = .ok (.iload 4, 2) := by decide +kernel
theorem dL_791 : decode code 791 = .ok (.iconst 3, 1) := by decide +kernel
theorem dL_792 : decode code 792 = .ok (.iadd, 1) := by decide +kernel
theorem dL_793 : decode code 793 = .ok (.iaload, 1) := by decide +kernel
theorem dL_794 : decode code 794 = .ok (.invokevirtual 91, 3) := by decide +kernel
theorem dL_797 : decode code 797 = .ok (.aload_n 2, 1) := by decide +kernel
theorem dL_798 : decode code 798 = .ok (.aload_n 0, 1) := by decide +kernel
theorem dL_799 : decode code 799 = .ok (.iload 4, 2) := by decide +kernel
theorem dL_801 : decode code 801 = .ok (.iconst 1, 1) := by decide +kernel
theorem dL_802 : decode code 802 = .ok (.iadd, 1) := by decide +kernel
theorem dL_803 : decode code 803 = .ok (.iaload, 1) := by decide +kernel
theorem dL_804 : decode code 804 = .ok (.aload_n 0, 1) := by decide +kernel
theorem dL_805 : decode code 805 = .ok (.iload 4, 2) := by decide +kernel
theorem dL_807 : decode code 807 = .ok (.iconst 2, 1) := by decide +kernel
theorem dL_808 : decode code 808 = .ok (.iadd, 1) := by decide +kernel
theorem dL_809 : decode code 809 = .ok (.iaload, 1) := by decide +kernel
theorem dL_810 : decode code 810 = .ok (.aload_n 0, 1) := by decide +kernel
theorem dL_811 : decode code 811 = .ok (.iload 4, 2) := by decide +kernel
theorem dL_813 : decode code 813 = .ok (.iconst 3, 1) := by decide +kernel
theorem dL_814 : decode code 814 = .ok (.iadd, 1) := by decide +kernel
theorem dL_815 : decode code 815 = .ok (.iaload, 1) := by decide +kernel
theorem dL_816 : decode code 816 = .ok (.invokevirtual 94, 3) := by decide +kernel
theorem dL_819 : decode code 819 = .ok (.if_icmp .eq 482, 3) := by decide +kernel
theorem dL_822 : decode code 822 = .ok (.iconst 0, 1) := by decide +kernel
theorem dL_823 : decode code 823 = .ok (.ireturn, 1) := by decide +kernel
theorem dL_824 : decode code 824 = .ok (.aload_n 1, 1) := by decide +kernel
theorem dL_825 : decode code 825 = .ok (.aload_n 0, 1) := by decide +kernel
theorem dL_826 : decode code 826 = .ok (.iload 4, 2) := by decide +kernel
theorem dL_828 : decode code 828 = .ok (.iconst 1, 1) := by decide +kernel
theorem dL_829 : decode code 829 = .ok (.iadd, 1) := by decide +kernel
theorem dL_830 : decode code 830 = .ok (.iaload, 1) := by decide +kernel
theorem dL_831 : decode code 831 = .ok (.aload_n 0, 1) := by decide +kernel
theorem dL_832 : decode code 832 = .ok (.iload 4, 2) := by decide +kernel
theorem dL_834 : decode code 834 = .ok (.iconst 2, 1) := by decide +kernel
theorem dL_835 : decode code 835 = .ok (.iadd, 1) := by decide +kernel
theorem dL_836 : decode code 836 = .ok (.iaload, 1) := by decide +kernel
theorem dL_837 : decode code 837 = .ok (.aload_n 0, 1) := by decide +kernel
theorem dL_838 : decode code 838 = .ok (.iload 4, 2) := by decide +kernel
theorem dL_840 : decode code 840 = .ok (.iconst 3, 1) := by decide +kernel
