theorem d_law_824 : decode code 824 = .ok (.ireturn, 1) := by decide +kernel
theorem d_law_825 : decode code 825 = .ok (.aload_n 1, 1) := by decide +kernel
theorem d_law_826 : decode code 826 = .ok (.aload_n 0, 1) := by decide +kernel
theorem d_law_827 : decode code 827 = .ok (.iload_n 3, 1) := by decide +kernel
theorem d_law_828 : decode code 828 = .ok (.iconst 1, 1) := by decide +kernel
theorem d_law_829 : decode code 829 = .ok (.iadd, 1) := by decide +kernel
theorem d_law_830 : decode code 830 = .ok (.iaload, 1) := by decide +kernel
theorem d_law_831 : decode code 831 = .ok (.aload_n 0, 1) := by decide +kernel
theorem d_law_832 : decode code 832 = .ok (.iload_n 3, 1) := by decide +kernel
theorem d_law_833 : decode code 833 = .ok (.iconst 2, 1) := by decide +kernel
theorem d_law_834 : decode code 834 = .ok (.iadd, 1) := by decide +kernel
theorem d_law_835 : decode code 835 = .ok (.iaload, 1) := by decide +kernel
theorem d_law_836 : decode code 836 = .ok (.invokevirtual 105, 3) := by decide +kernel
theorem d_law_839 : decode code 839 = .ok (.aload_n 2, 1) := by decide +kernel
theorem d_law_840 : decode code 840 = .ok (.aload_n 0, 1) := by decide +kernel
theorem d_law_841 : decode code 841 = .ok (.iload_n 3, 1) := by decide +kernel
theorem d_law_842 : decode code 842 = .ok (.iconst 1, 1) := by decide +kernel
theorem d_law_843 : decode code 843 = .ok (.iadd, 1) := by decide +kernel
theorem d_law_844 : decode code 844 = .ok (.iaload, 1) := by decide +kernel
theorem d_law_845 : decode code 845 = .ok (.aload_n 0, 1) := by decide +kernel
theorem d_law_846 : decode code 846 = .ok (.iload_n 3, 1) := by decide +kernel
theorem d_law_847 : decode code 847 = .ok (.iconst 2, 1) := by decide +kernel
theorem d_law_848 : decode code 848 = .ok (.iadd, 1) := by decide +kernel
theorem d_law_849 : decode code 849 = .ok (.iaload, 1) := by decide +kernel
theorem d_law_850 : decode code 850 = .ok (.invokevirtual 108, 3) := by decide +kernel
theorem d_law_853 : decode code 853 = .ok (.if_icmp .eq 536, 3) := by decide +kernel
theorem d_law_856 : decode code 856 = .ok (.iconst 0, 1) := by decide +kernel
theorem d_law_857 : decode code 857 = .ok (.ireturn, 1) := by decide +kernel
theorem d_law_858 : decode code 858 = .ok (.aload_n 1, 1) := by decide +kernel
theorem d_law_859 : decode code 859 = .ok (.aload_n 0, 1) := by decide +kernel
theorem d_law_860 : decode code 860 = .ok (.iload_n 3, 1) := by decide +kernel
theorem d_law_861 : decode code 861 = .ok (.iconst 1, 1) := by decide +kernel
theorem d_law_862 : decode code 862 = .ok (.iadd, 1) := by decide +kernel
theorem d_law_863 : decode code 863 = .ok (.iaload, 1) := by decide +kernel
theorem d_law_864 : decode code 864 = .ok (.aload_n 0, 1) := by decide +kernel
theorem d_law_865 : decode code 865 = .ok (.iload_n 3, 1) := by decide +kernel
theorem d_law_866 : decode code 866 = .ok (.iconst 2, 1) := by decide +kernel
theorem d_law_867 : decode code 867 = .ok (.iadd, 1) := by decide +kernel
theorem d_law_868 : decode code 868 = .ok (.iaload, 1) := by decide +kernel
theorem d_law_869 : decode code 869 = .ok (.aload_n 0, 1) := by decide +kernel
theorem d_law_870 : decode code 870 = .ok (.iload_n 3, 1) := by decide +kernel
theorem d_law_871 : decode code 871 = .ok (.iconst 3, 1) := by decide +kernel
theorem d_law_872 : decode code 872 = .ok (.iadd, 1) := by decide +kernel
theorem d_law_873 : decode code 873 = .ok (.iaload, 1) := by decide +kernel
theorem d_law_874 : decode code 874 = .ok (.aload_n 0, 1) := by decide +kernel
theorem d_law_875 : decode code 875 = .ok (.iload_n 3, 1) := by decide +kernel
theorem d_law_876 : decode code 876 = .ok (.iconst 4, 1) := by decide +kernel
theorem d_law_877 : decode code 877 = .ok (.iadd, 1) := by decide +kernel
theorem d_law_878 : decode code 878 = .ok (.iaload, 1) := by decide +kernel
theorem d_law_879 : decode code 879 = .ok (.aload_n 0, 1) := by decide +kernel
theorem d_law_880 : decode code 880 = .ok (.iload_n 3, 1) := by decide +kernel
theorem d_law_881 : decode code 881 = .ok (.iconst 5, 1) := by decide +kernel
theorem d_law_882 : decode code 882 = .ok (.iadd, 1) := by decide +kernel
theorem d_law_883 : decode code 883 = .ok (.iaload, 1) := by decide +kernel
theorem d_law_884 : decode code 884 = .ok (.aload_n 0, 1) := by decide +kernel
theorem d_law_885 : decode code 885 = .ok (.iload_n 3, 1) := by decide +kernel
theorem d_law_886 : decode code 886 = .ok (.bipush 6, 2) := by decide +kernel
theorem d_law_888 : decode code 888 = .ok (.iadd, 1) := by decide +kernel
theorem d_law_889 : decode code 889 = .ok (.iaload, 1) := by decide +kernel
theorem d_law_890 : decode code 890 = .ok (.invokevirtual 109, 3) := by decide +kernel
