theorem d_law_893 : decode code 893 = .ok (.aload_n 2, 1) := by decide +kernel
theorem d_law_894 : decode code 894 = .ok (.aload_n 0, 1) := by decide +kernel
theorem d_law_895 : decode code 895 = .ok (.iload_n 3, 1) := by decide +kernel
theorem d_law_896 : decode code 896 = .ok (.iconst 1, 1) := by decide +kernel
theorem d_law_897 : decode code 897 = .ok (.iadd, 1) := by decide +kernel
theorem d_law_898 : decode code 898 = .ok (.iaload, 1) := by decide +kernel
theorem d_law_899 : decode code 899 = .ok (.aload_n 0, 1) := by decide +kernel
theorem d_law_900 : decode code 900 = .ok (.iload_n 3, 1) := by decide +kernel
theorem d_law_901 : decode code 901 = .ok (.iconst 2, 1) := by decide +kernel
theorem d_law_902 : decode code 902 = .ok (.iadd, 1) := by decide +kernel
theorem d_law_903 : decode code 903 = .ok (.iaload, 1) := by decide +kernel
theorem d_law_904 : decode code 904 = .ok (.aload_n 0, 1) := by decide +kernel
theorem d_law_905 : decode code 905 = .ok (.iload_n 3, 1) := by decide +kernel
theorem d_law_906 : decode code 906 = .ok (.iconst 3, 1) := by decide +kernel
theorem d_law_907 : decode code 907 = .ok (.iadd, 1) := by decide +kernel
theorem d_law_908 : decode code 908 = .ok (.iaload, 1) := by decide +kernel
theorem d_law_909 : decode code 909 = .ok (.aload_n 0, 1) := by decide +kernel
theorem d_law_910 : decode code 910 = .ok (.iload_n 3, 1) := by decide +kernel
theorem d_law_911 : decode code 911 = .ok (.iconst 4, 1) := by decide +kernel
theorem d_law_912 : decode code 912 = .ok (.iadd, 1) := by decide +kernel
theorem d_law_913 : decode code 913 = .ok (.iaload, 1) := by decide +kernel
theorem d_law_914 : decode code 914 = .ok (.aload_n 0, 1) := by decide +kernel
theorem d_law_915 : decode code 915 = .ok (.iload_n 3, 1) := by decide +kernel
theorem d_law_916 : decode code 916 = .ok (.iconst 5, 1) := by decide +kernel
theorem d_law_917 : decode code 917 = .ok (.iadd, 1) := by decide +kernel
theorem d_law_918 : decode code 918 = .ok (.iaload, 1) := by decide +kernel
theorem d_law_919 : decode code 919 = .ok (.aload_n 0, 1) := by decide +kernel
theorem d_law_920 : decode code 920 = .ok (.iload_n 3, 1) := by decide +kernel
theorem d_law_921 : decode code 921 = .ok (.bipush 6, 2) := by decide +kernel
theorem d_law_923 : decode code 923 = .ok (.iadd, 1) := by decide +kernel
theorem d_law_924 : decode code 924 = .ok (.iaload, 1) := by decide +kernel
theorem d_law_925 : decode code 925 = .ok (.invokevirtual 113, 3) := by decide +kernel
theorem d_law_928 : decode code 928 = .ok (.if_icmp .eq 461, 3) := by decide +kernel
theorem d_law_931 : decode code 931 = .ok (.iconst 0, 1) := by decide +kernel
theorem d_law_932 : decode code 932 = .ok (.ireturn, 1) := by decide +kernel
theorem d_law_933 : decode code 933 = .ok (.aload_n 1, 1) := by decide +kernel
theorem d_law_934 : decode code 934 = .ok (.aload_n 0, 1) := by decide +kernel
theorem d_law_935 : decode code 935 = .ok (.iload_n 3, 1) := by decide +kernel
theorem d_law_936 : decode code 936 = .ok (.iconst 1, 1) := by decide +kernel
theorem d_law_937 : decode code 937 = .ok (.iadd, 1) := by decide +kernel
theorem d_law_938 : decode code 938 = .ok (.iaload, 1) := by decide +kernel
theorem d_law_939 : decode code 939 = .ok (.aload_n 0, 1) := by decide +kernel
theorem d_law_940 : decode code 940 = .ok (.iload_n 3, 1) := by decide +kernel
theorem d_law_941 : decode code 941 = .ok (.iconst 2, 1) := by decide +kernel
theorem d_law_942 : decode code 942 = .ok (.iadd, 1) := by decide +kernel
theorem d_law_943 : decode code 943 = .ok (.iaload, 1) := by decide +kernel
theorem d_law_944 : decode code 944 = .ok (.aload_n 0, 1) := by decide +kernel
theorem d_law_945 : decode code 945 = .ok (.iload_n 3, 1) := by decide +kernel
theorem d_law_946 : decode code 946 = .ok (.iconst 3, 1) := by decide +kernel
theorem d_law_947 : decode code 947 = .ok (.iadd, 1) := by decide +kernel
theorem d_law_948 : decode code 948 = .ok (.iaload, 1) := by decide +kernel
theorem d_law_949 : decode code 949 = .ok (.aload_n 0, 1) := by decide +kernel
theorem d_law_950 : decode code 950 = .ok (.iload_n 3, 1) := by decide +kernel
theorem d_law_951 : decode code 951 = .ok (.iconst 4, 1) := by decide +kernel
theorem d_law_952 : decode code 952 = .ok (.iadd, 1) := by decide +kernel
theorem d_law_953 : decode code 953 = .ok (.iaload, 1) := by decide +kernel
theorem d_law_954 : decode code 954 = .ok (.aload_n 0, 1) := by decide +kernel
theorem d_law_955 : decode code 955 = .ok (.iload_n 3, 1) := by decide +kernel
theorem d_law_956 : decode code 956 = .ok (.iconst 5, 1) := by decide +kernel
theorem d_law_957 : decode code 957 = .ok (.iadd, 1) := by decide +kernel
