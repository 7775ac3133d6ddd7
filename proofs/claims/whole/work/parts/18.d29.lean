theorem dL_law_2894 : decode cL_law 2894 = .ok (.laload, 1) := by decide +kernel
theorem dL_law_2895 : decode cL_law 2895 = .ok (.iload 7, 2) := by decide +kernel
theorem dL_law_2897 : decode cL_law 2897 = .ok (.i2l, 1) := by decide +kernel
theorem dL_law_2898 : decode cL_law 2898 = .ok (.lcmp, 1) := by decide +kernel
theorem dL_law_2899 : decode cL_law 2899 = .ok (.ifCond .eq 5, 3) := by decide +kernel
theorem dL_law_2902 : decode cL_law 2902 = .ok (.iconst 0, 1) := by decide +kernel
theorem dL_law_2903 : decode cL_law 2903 = .ok (.ireturn, 1) := by decide +kernel
theorem dL_law_2904 : decode cL_law 2904 = .ok (.goto 127, 3) := by decide +kernel
theorem dL_law_2907 : decode cL_law 2907 = .ok (.aload_n 1, 1) := by decide +kernel
theorem dL_law_2908 : decode cL_law 2908 = .ok (.aload_n 0, 1) := by decide +kernel
theorem dL_law_2909 : decode cL_law 2909 = .ok (.iload 5, 2) := by decide +kernel
theorem dL_law_2911 : decode cL_law 2911 = .ok (.iconst 1, 1) := by decide +kernel
theorem dL_law_2912 : decode cL_law 2912 = .ok (.iadd, 1) := by decide +kernel
theorem dL_law_2913 : decode cL_law 2913 = .ok (.iaload, 1) := by decide +kernel
theorem dL_law_2914 : decode cL_law 2914 = .ok (.aload_n 3, 1) := by decide +kernel
theorem dL_law_2915 : decode cL_law 2915 = .ok (.invokestatic 297, 3) := by decide +kernel
theorem dL_law_2918 : decode cL_law 2918 = .ok (.istore 6, 2) := by decide +kernel
theorem dL_law_2920 : decode cL_law 2920 = .ok (.aload_n 2, 1) := by decide +kernel
theorem dL_law_2921 : decode cL_law 2921 = .ok (.aload_n 0, 1) := by decide +kernel
theorem dL_law_2922 : decode cL_law 2922 = .ok (.iload 5, 2) := by decide +kernel
theorem dL_law_2924 : decode cL_law 2924 = .ok (.iconst 1, 1) := by decide +kernel
theorem dL_law_2925 : decode cL_law 2925 = .ok (.iadd, 1) := by decide +kernel
theorem dL_law_2926 : decode cL_law 2926 = .ok (.iaload, 1) := by decide +kernel
theorem dL_law_2927 : decode cL_law 2927 = .ok (.invokevirtual 299, 3) := by decide +kernel
theorem dL_law_2930 : decode cL_law 2930 = .ok (.istore 7, 2) := by decide +kernel
theorem dL_law_2932 : decode cL_law 2932 = .ok (.aload_n 2, 1) := by decide +kernel
theorem dL_law_2933 : decode cL_law 2933 = .ok (.invokevirtual 156, 3) := by decide +kernel
theorem dL_law_2936 : decode cL_law 2936 = .ok (.iload 6, 2) := by decide +kernel
theorem dL_law_2938 : decode cL_law 2938 = .ok (.if_icmp .eq 5, 3) := by decide +kernel
theorem dL_law_2941 : decode cL_law 2941 = .ok (.iconst 0, 1) := by decide +kernel
theorem dL_law_2942 : decode cL_law 2942 = .ok (.ireturn, 1) := by decide +kernel
theorem dL_law_2943 : decode cL_law 2943 = .ok (.iload 6, 2) := by decide +kernel
theorem dL_law_2945 : decode cL_law 2945 = .ok (.ifCond .ne 15, 3) := by decide +kernel
theorem dL_law_2948 : decode cL_law 2948 = .ok (.aload_n 3, 1) := by decide +kernel
theorem dL_law_2949 : decode cL_law 2949 = .ok (.iconst 0, 1) := by decide +kernel
theorem dL_law_2950 : decode cL_law 2950 = .ok (.laload, 1) := by decide +kernel
theorem dL_law_2951 : decode cL_law 2951 = .ok (.iload 7, 2) := by decide +kernel
theorem dL_law_2953 : decode cL_law 2953 = .ok (.i2l, 1) := by decide +kernel
theorem dL_law_2954 : decode cL_law 2954 = .ok (.lcmp, 1) := by decide +kernel
theorem dL_law_2955 : decode cL_law 2955 = .ok (.ifCond .eq 5, 3) := by decide +kernel
theorem dL_law_2958 : decode cL_law 2958 = .ok (.iconst 0, 1) := by decide +kernel
theorem dL_law_2959 : decode cL_law 2959 = .ok (.ireturn, 1) := by decide +kernel
theorem dL_law_2960 : decode cL_law 2960 = .ok (.goto 71, 3) := by decide +kernel
theorem dL_law_2963 : decode cL_law 2963 = .ok (.aload_n 1, 1) := by decide +kernel
theorem dL_law_2964 : decode cL_law 2964 = .ok (.invokevirtual 300, 3) := by decide +kernel
theorem dL_law_2967 : decode cL_law 2967 = .ok (.aload_n 2, 1) := by decide +kernel
theorem dL_law_2968 : decode cL_law 2968 = .ok (.invokevirtual 303, 3) := by decide +kernel
theorem dL_law_2971 : decode cL_law 2971 = .ok (.if_icmp .eq 60, 3) := by decide +kernel
theorem dL_law_2974 : decode cL_law 2974 = .ok (.iconst 0, 1) := by decide +kernel
theorem dL_law_2975 : decode cL_law 2975 = .ok (.ireturn, 1) := by decide +kernel
theorem dL_law_2976 : decode cL_law 2976 = .ok (.aload_n 1, 1) := by decide +kernel
theorem dL_law_2977 : decode cL_law 2977 = .ok (.aload_n 0, 1) := by decide +kernel
theorem dL_law_2978 : decode cL_law 2978 = .ok (.iload 5, 2) := by decide +kernel
theorem dL_law_2980 : decode cL_law 2980 = .ok (.iconst 1, 1) := by decide +kernel
theorem dL_law_2981 : decode cL_law 2981 = .ok (.iadd, 1) := by decide +kernel
theorem dL_law_2982 : decode cL_law 2982 = .ok (.iaload, 1) := by decide +kernel
theorem dL_law_2983 : decode cL_law 2983 = .ok (.aload_n 3, 1) := by decide +kernel
theorem dL_law_2984 : decode cL_law 2984 = .ok (.invokestatic 304, 3) := by decide +kernel
theorem dL_law_2987 : decode cL_law 2987 = .ok (.istore 6, 2) := by decide +kernel
theorem dL_law_2989 : decode cL_law 2989 = .ok (.aload_n 2, 1) := by decide +kernel
