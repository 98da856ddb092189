theorem dlw_2784 : decode code 2784 = .ok (.iload 5, 2) := by decide +kernel
theorem dlw_2786 : decode code 2786 = .ok (.if_icmp .eq 5, 3) := by decide +kernel
theorem dlw_2789 : decode code 2789 = .ok (.iconst 0, 1) := by decide +kernel
theorem dlw_2790 : decode code 2790 = .ok (.ireturn, 1) := by decide +kernel
theorem dlw_2791 : decode code 2791 = .ok (.iload 5, 2) := by decide +kernel
theorem dlw_2793 : decode code 2793 = .ok (.ifCond .ne 15, 3) := by decide +kernel
theorem dlw_2796 : decode code 2796 = .ok (.aload_n 3, 1) := by decide +kernel
theorem dlw_2797 : decode code 2797 = .ok (.iconst 0, 1) := by decide +kernel
theorem dlw_2798 : decode code 2798 = .ok (.laload, 1) := by decide +kernel
theorem dlw_2799 : decode code 2799 = .ok (.iload 6, 2) := by decide +kernel
theorem dlw_2801 : decode code 2801 = .ok (.i2l, 1) := by decide +kernel
theorem dlw_2802 : decode code 2802 = .ok (.lcmp, 1) := by decide +kernel
theorem dlw_2803 : decode code 2803 = .ok (.ifCond .eq 5, 3) := by decide +kernel
theorem dlw_2806 : decode code 2806 = .ok (.iconst 0, 1) := by decide +kernel
theorem dlw_2807 : decode code 2807 = .ok (.ireturn, 1) := by decide +kernel
theorem dlw_2808 : decode code 2808 = .ok (.goto 379, 3) := by decide +kernel
theorem dlw_2811 : decode code 2811 = .ok (.aload_n 1, 1) := by decide +kernel
theorem dlw_2812 : decode code 2812 = .ok (.aload_n 0, 1) := by decide +kernel
theorem dlw_2813 : decode code 2813 = .ok (.iload 4, 2) := by decide +kernel
theorem dlw_2815 : decode code 2815 = .ok (.iconst 1, 1) := by decide +kernel
theorem dlw_2816 : decode code 2816 = .ok (.iadd, 1) := by decide +kernel
theorem dlw_2817 : decode code 2817 = .ok (.iaload, 1) := by decide +kernel
theorem dlw_2818 : decode code 2818 = .ok (.aload_n 3, 1) := by decide +kernel
theorem dlw_2819 : decode code 2819 = .ok (.invokestatic 306, 3) := by decide +kernel
theorem dlw_2822 : decode code 2822 = .ok (.istore 5, 2) := by decide +kernel
theorem dlw_2824 : decode code 2824 = .ok (.aload_n 2, 1) := by decide +kernel
theorem dlw_2825 : decode code 2825 = .ok (.aload_n 0, 1) := by decide +kernel
theorem dlw_2826 : decode code 2826 = .ok (.iload 4, 2) := by decide +kernel
theorem dlw_2828 : decode code 2828 = .ok (.iconst 1, 1) := by decide +kernel
theorem dlw_2829 : decode code 2829 = .ok (.iadd, 1) := by decide +kernel
theorem dlw_2830 : decode code 2830 = .ok (.iaload, 1) := by decide +kernel
theorem dlw_2831 : decode code 2831 = .ok (.invokevirtual 308, 3) := by decide +kernel
theorem dlw_2834 : decode code 2834 = .ok (.istore 6, 2) := by decide +kernel
theorem dlw_2836 : decode code 2836 = .ok (.aload_n 2, 1) := by decide +kernel
theorem dlw_2837 : decode code 2837 = .ok (.invokevirtual 170, 3) := by decide +kernel
theorem dlw_2840 : decode code 2840 = .ok (.iload 5, 2) := by decide +kernel
theorem dlw_2842 : decode code 2842 = .ok (.if_icmp .eq 5, 3) := by decide +kernel
theorem dlw_2845 : decode code 2845 = .ok (.iconst 0, 1) := by decide +kernel
theorem dlw_2846 : decode code 2846 = .ok (.ireturn, 1) := by decide +kernel
theorem dlw_2847 : decode code 2847 = .ok (.iload 5, 2) := by decide +kernel
theorem dlw_2849 : decode code 2849 = .ok (.ifCond .ne 15, 3) := by decide +kernel
theorem dlw_2852 : decode code 2852 = .ok (.aload_n 3, 1) := by decide +kernel
theorem dlw_2853 : decode code 2853 = .ok (.iconst 0, 1) := by decide +kernel
theorem dlw_2854 : decode code 2854 = .ok (.laload, 1) := by decide +kernel
theorem dlw_2855 : decode code 2855 = .ok (.iload 6, 2) := by decide +kernel
theorem dlw_2857 : decode code 2857 = .ok (.i2l, 1) := by decide +kernel
theorem dlw_2858 : decode code 2858 = .ok (.lcmp, 1) := by decide +kernel
theorem dlw_2859 : decode code 2859 = .ok (.ifCond .eq 5, 3) := by decide +kernel
theorem dlw_2862 : decode code 2862 = .ok (.iconst 0, 1) := by decide +kernel
theorem dlw_2863 : decode code 2863 = .ok (.ireturn, 1) := by decide +kernel
theorem dlw_2864 : decode code 2864 = .ok (.goto 323, 3) := by decide +kernel
theorem dlw_2867 : decode code 2867 = .ok (.aload_n 1, 1) := by decide +kernel
theorem dlw_2868 : decode code 2868 = .ok (.aload_n 0, 1) := by decide +kernel
theorem dlw_2869 : decode code 2869 = .ok (.iload 4, 2) := by decide +kernel
theorem dlw_2871 : decode code 2871 = .ok (.iconst 1, 1) := by decide +kernel
theorem dlw_2872 : decode code 2872 = .ok (.iadd, 1) := by decide +kernel
theorem dlw_2873 : decode code 2873 = .ok (.iaload, 1) := by decide +kernel
theorem dlw_2874 : decode code 2874 = .ok (.aload_n 3, 1) := by decide +kernel
theorem dlw_2875 : decode code 2875 = .ok (.invokestatic 309, 3) := by decide +kernel
theorem dlw_2878 : decode code 2878 = .ok (.istore 5, 2) := by decide +kernel
theorem dlw_2880 : decode code 2880 = .ok (.aload_n 2, 1) := by decide +kernel
theorem dlw_2881 : decode code 2881 = .ok (.aload_n 0, 1) := by decide +kernel
theorem dlw_2882 : decode code 2882 = .ok (.iload 4, 2) := by decide +kernel
theorem dlw_2884 : decode code 2884 = .ok (.iconst 1, 1) := by decide +kernel
theorem dlw_2885 : decode code 2885 = .ok (.iadd, 1) := by decide +kernel
theorem dlw_2886 : decode code 2886 = .ok (.iaload, 1) := by decide +kernel
theorem dlw_2887 : decode code 2887 = .ok (.invokevirtual 311, 3) := by decide +kernel
theorem dlw_2890 : decode code 2890 = .ok (.istore 6, 2) := by decide +kernel
theorem dlw_2892 : decode code 2892 = .ok (.aload_n 2, 1) := by decide +kernel
theorem dlw_2893 : decode code 2893 = .ok (.invokevirtual 170, 3) := by decide +kernel
theorem dlw_2896 : decode code 2896 = .ok (.iload 5, 2) := by decide +kernel
theorem dlw_2898 : decode code 2898 = .ok (.if_icmp .eq 5, 3) := by decide +kernel
theorem dlw_2901 : decode code 2901 = .ok (.iconst 0, 1) := by decide +kernel
theorem dlw_2902 : decode code 2902 = .ok (.ireturn, 1) := by decide +kernel
theorem dlw_2903 : decode code 2903 = .ok (.iload 5, 2) := by decide +kernel
theorem dlw_2905 : decode code 2905 = .ok (.ifCond .ne 15, 3) := by decide +kernel
theorem dlw_2908 : decode code 2908 = .ok (.aload_n 3, 1) := by decide +kernel
theorem dlw_2909 : decode code 2909 = .ok (.iconst 0, 1) := by decide +kernel
theorem dlw_2910 : decode code 2910 = .ok (.laload, 1) := by decide +kernel
theorem dlw_2911 : decode code 2911 = .ok (.iload 6, 2) := by decide +kernel
theorem dlw_2913 : decode code 2913 = .ok (.i2l, 1) := by decide +kernel
theorem dlw_2914 : decode code 2914 = .ok (.lcmp, 1) := by decide +kernel
theorem dlw_2915 : decode code 2915 = .ok (.ifCond .eq 5, 3) := by decide +kernel
theorem dlw_2918 : decode code 2918 = .ok (.iconst 0, 1) := by decide +kernel
theorem dlw_2919 : decode code 2919 = .ok (.ireturn, 1) := by decide +kernel
theorem dlw_2920 : decode code 2920 = .ok (.goto 267, 3) := by decide +kernel
theorem dlw_2923 : decode code 2923 = .ok (.aload_n 1, 1) := by decide +kernel
theorem dlw_2924 : decode code 2924 = .ok (.invokevirtual 312, 3) := by decide +kernel
theorem dlw_2927 : decode code 2927 = .ok (.aload_n 2, 1) := by decide +kernel
theorem dlw_2928 : decode code 2928 = .ok (.invokevirtual 315, 3) := by decide +kernel
theorem dlw_2931 : decode code 2931 = .ok (.if_icmp .eq 256, 3) := by decide +kernel
theorem dlw_2934 : decode code 2934 = .ok (.iconst 0, 1) := by decide +kernel
theorem dlw_2935 : decode code 2935 = .ok (.ireturn, 1) := by decide +kernel
theorem dlw_2936 : decode code 2936 = .ok (.aload_n 1, 1) := by decide +kernel
theorem dlw_2937 : decode code 2937 = .ok (.aload_n 0, 1) := by decide +kernel
theorem dlw_2938 : decode code 2938 = .ok (.iload 4, 2) := by decide +kernel
theorem dlw_2940 : decode code 2940 = .ok (.iconst 1, 1) := by decide +kernel
theorem dlw_2941 : decode code 2941 = .ok (.iadd, 1) := by decide +kernel
theorem dlw_2942 : decode code 2942 = .ok (.iaload, 1) := by decide +kernel
theorem dlw_2943 : decode code 2943 = .ok (.aload_n 3, 1) := by decide +kernel
theorem dlw_2944 : decode code 2944 = .ok (.invokestatic 316, 3) := by decide +kernel
theorem dlw_2947 : decode code 2947 = .ok (.istore 5, 2) := by decide +kernel
theorem dlw_2949 : decode code 2949 = .ok (.aload_n 2, 1) := by decide +kernel
theorem dlw_2950 : decode code 2950 = .ok (.aload_n 0, 1) := by decide +kernel
theorem dlw_2951 : decode code 2951 = .ok (.iload 4, 2) := by decide +kernel
theorem dlw_2953 : decode code 2953 = .ok (.iconst 1, 1) := by decide +kernel
theorem dlw_2954 : decode code 2954 = .ok (.iadd, 1) := by decide +kernel
theorem dlw_2955 : decode code 2955 = .ok (.iaload, 1) := by decide +kernel
theorem dlw_2956 : decode code 2956 = .ok (.invokevirtual 318, 3) := by decide +kernel
theorem dlw_2959 : decode code 2959 = .ok (.istore 6, 2) := by decide +kernel
theorem dlw_2961 : decode code 2961 = .ok (.aload_n 2, 1) := by decide +kernel
theorem dlw_2962 : decode code 2962 = .ok (.invokevirtual 170, 3) := by decide +kernel
theorem dlw_2965 : decode code 2965 = .ok (.iload 5, 2) := by decide +kernel
theorem dlw_2967 : decode code 2967 = .ok (.if_icmp .eq 5, 3) := by decide +kernel
theorem dlw_2970 : decode code 2970 = .ok (.iconst 0, 1) := by decide +kernel
theorem dlw_2971 : decode code 2971 = .ok (.ireturn, 1) := by decide +kernel
theorem dlw_2972 : decode code 2972 = .ok (.iload 5, 2) := by decide +kernel
theorem dlw_2974 : decode code 2974 = .ok (.ifCond .ne 15, 3) := by decide +kernel
theorem dlw_2977 : decode code 2977 = .ok (.aload_n 3, 1) := by decide +kernel
theorem dlw_2978 : decode code 2978 = .ok (.iconst 0, 1) := by decide +kernel
theorem dlw_2979 : decode code 2979 = .ok (.laload, 1) := by decide +kernel
theorem dlw_2980 : decode code 2980 = .ok (.iload 6, 2) := by decide +kernel
theorem dlw_2982 : decode code 2982 = .ok (.i2l, 1) := by decide +kernel
theorem dlw_2983 : decode code 2983 = .ok (.lcmp, 1) := by decide +kernel
theorem dlw_2984 : decode code 2984 = .ok (.ifCond .eq 5, 3) := by decide +kernel
theorem dlw_2987 : decode code 2987 = .ok (.iconst 0, 1) := by decide +kernel
theorem dlw_2988 : decode code 2988 = .ok (.ireturn, 1) := by decide +kernel
theorem dlw_2989 : decode code 2989 = .ok (.goto 198, 3) := by decide +kernel
theorem dlw_2992 : decode code 2992 = .ok (.aload_n 1, 1) := by decide +kernel
theorem dlw_2993 : decode code 2993 = .ok (.invokevirtual 319, 3) := by decide +kernel
theorem dlw_2996 : decode code 2996 = .ok (.aload_n 2, 1) := by decide +kernel
theorem dlw_2997 : decode code 2997 = .ok (.invokevirtual 322, 3) := by decide +kernel
theorem dlw_3000 : decode code 3000 = .ok (.if_icmp .eq 187, 3) := by decide +kernel
theorem dlw_3003 : decode code 3003 = .ok (.iconst 0, 1) := by decide +kernel
theorem dlw_3004 : decode code 3004 = .ok (.ireturn, 1) := by decide +kernel
theorem dlw_3005 : decode code 3005 = .ok (.aload_n 1, 1) := by decide +kernel
theorem dlw_3006 : decode code 3006 = .ok (.aload_n 0, 1) := by decide +kernel
theorem dlw_3007 : decode code 3007 = .ok (.iload 4, 2) := by decide +kernel
theorem dlw_3009 : decode code 3009 = .ok (.iconst 1, 1) := by decide +kernel
theorem dlw_3010 : decode code 3010 = .ok (.iadd, 1) := by decide +kernel
theorem dlw_3011 : decode code 3011 = .ok (.iaload, 1) := by decide +kernel
theorem dlw_3012 : decode code 3012 = .ok (.aload_n 0, 1) := by decide +kernel
theorem dlw_3013 : decode code 3013 = .ok (.iload 4, 2) := by decide +kernel
theorem dlw_3015 : decode code 3015 = .ok (.iconst 2, 1) := by decide +kernel
theorem dlw_3016 : decode code 3016 = .ok (.iadd, 1) := by decide +kernel
theorem dlw_3017 : decode code 3017 = .ok (.iaload, 1) := by decide +kernel
theorem dlw_3018 : decode code 3018 = .ok (.aload_n 3, 1) := by decide +kernel
theorem dlw_3019 : decode code 3019 = .ok (.invokestatic 323, 3) := by decide +kernel
theorem dlw_3022 : decode code 3022 = .ok (.istore 5, 2) := by decide +kernel
theorem dlw_3024 : decode code 3024 = .ok (.aload_n 2, 1) := by decide +kernel
