theorem dlw_3025 : decode code 3025 = .ok (.aload_n 0, 1) := by decide +kernel
theorem dlw_3026 : decode code 3026 = .ok (.iload 4, 2) := by decide +kernel
theorem dlw_3028 : decode code 3028 = .ok (.iconst 1, 1) := by decide +kernel
theorem dlw_3029 : decode code 3029 = .ok (.iadd, 1) := by decide +kernel
theorem dlw_3030 : decode code 3030 = .ok (.iaload, 1) := by decide +kernel
theorem dlw_3031 : decode code 3031 = .ok (.aload_n 0, 1) := by decide +kernel
theorem dlw_3032 : decode code 3032 = .ok (.iload 4, 2) := by decide +kernel
theorem dlw_3034 : decode code 3034 = .ok (.iconst 2, 1) := by decide +kernel
theorem dlw_3035 : decode code 3035 = .ok (.iadd, 1) := by decide +kernel
theorem dlw_3036 : decode code 3036 = .ok (.iaload, 1) := by decide +kernel
theorem dlw_3037 : decode code 3037 = .ok (.invokevirtual 325, 3) := by decide +kernel
theorem dlw_3040 : decode code 3040 = .ok (.istore 6, 2) := by decide +kernel
theorem dlw_3042 : decode code 3042 = .ok (.aload_n 2, 1) := by decide +kernel
theorem dlw_3043 : decode code 3043 = .ok (.invokevirtual 170, 3) := by decide +kernel
theorem dlw_3046 : decode code 3046 = .ok (.iload 5, 2) := by decide +kernel
theorem dlw_3048 : decode code 3048 = .ok (.if_icmp .eq 5, 3) := by decide +kernel
theorem dlw_3051 : decode code 3051 = .ok (.iconst 0, 1) := by decide +kernel
theorem dlw_3052 : decode code 3052 = .ok (.ireturn, 1) := by decide +kernel
theorem dlw_3053 : decode code 3053 = .ok (.iload 5, 2) := by decide +kernel
theorem dlw_3055 : decode code 3055 = .ok (.ifCond .ne 15, 3) := by decide +kernel
theorem dlw_3058 : decode code 3058 = .ok (.aload_n 3, 1) := by decide +kernel
theorem dlw_3059 : decode code 3059 = .ok (.iconst 0, 1) := by decide +kernel
theorem dlw_3060 : decode code 3060 = .ok (.laload, 1) := by decide +kernel
theorem dlw_3061 : decode code 3061 = .ok (.iload 6, 2) := by decide +kernel
theorem dlw_3063 : decode code 3063 = .ok (.i2l, 1) := by decide +kernel
theorem dlw_3064 : decode code 3064 = .ok (.lcmp, 1) := by decide +kernel
theorem dlw_3065 : decode code 3065 = .ok (.ifCond .eq 5, 3) := by decide +kernel
theorem dlw_3068 : decode code 3068 = .ok (.iconst 0, 1) := by decide +kernel
theorem dlw_3069 : decode code 3069 = .ok (.ireturn, 1) := by decide +kernel
theorem dlw_3070 : decode code 3070 = .ok (.goto 117, 3) := by decide +kernel
theorem dlw_3073 : decode code 3073 = .ok (.aload_n 1, 1) := by decide +kernel
theorem dlw_3074 : decode code 3074 = .ok (.aload_n 3, 1) := by decide +kernel
theorem dlw_3075 : decode code 3075 = .ok (.invokestatic 326, 3) := by decide +kernel
theorem dlw_3078 : decode code 3078 = .ok (.istore 5, 2) := by decide +kernel
theorem dlw_3080 : decode code 3080 = .ok (.aload_n 2, 1) := by decide +kernel
theorem dlw_3081 : decode code 3081 = .ok (.invokevirtual 328, 3) := by decide +kernel
theorem dlw_3084 : decode code 3084 = .ok (.istore 6, 2) := by decide +kernel
theorem dlw_3086 : decode code 3086 = .ok (.aload_n 2, 1) := by decide +kernel
theorem dlw_3087 : decode code 3087 = .ok (.invokevirtual 170, 3) := by decide +kernel
theorem dlw_3090 : decode code 3090 = .ok (.iload 5, 2) := by decide +kernel
theorem dlw_3092 : decode code 3092 = .ok (.if_icmp .eq 5, 3) := by decide +kernel
theorem dlw_3095 : decode code 3095 = .ok (.iconst 0, 1) := by decide +kernel
theorem dlw_3096 : decode code 3096 = .ok (.ireturn, 1) := by decide +kernel
theorem dlw_3097 : decode code 3097 = .ok (.iload 5, 2) := by decide +kernel
theorem dlw_3099 : decode code 3099 = .ok (.ifCond .ne 15, 3) := by decide +kernel
theorem dlw_3102 : decode code 3102 = .ok (.aload_n 3, 1) := by decide +kernel
theorem dlw_3103 : decode code 3103 = .ok (.iconst 0, 1) := by decide +kernel
theorem dlw_3104 : decode code 3104 = .ok (.laload, 1) := by decide +kernel
theorem dlw_3105 : decode code 3105 = .ok (.iload 6, 2) := by decide +kernel
theorem dlw_3107 : decode code 3107 = .ok (.i2l, 1) := by decide +kernel
theorem dlw_3108 : decode code 3108 = .ok (.lcmp, 1) := by decide +kernel
theorem dlw_3109 : decode code 3109 = .ok (.ifCond .eq 5, 3) := by decide +kernel
theorem dlw_3112 : decode code 3112 = .ok (.iconst 0, 1) := by decide +kernel
theorem dlw_3113 : decode code 3113 = .ok (.ireturn, 1) := by decide +kernel
theorem dlw_3114 : decode code 3114 = .ok (.goto 73, 3) := by decide +kernel
theorem dlw_3117 : decode code 3117 = .ok (.aload_n 1, 1) := by decide +kernel
theorem dlw_3118 : decode code 3118 = .ok (.invokevirtual 329, 3) := by decide +kernel
theorem dlw_3121 : decode code 3121 = .ok (.aload_n 2, 1) := by decide +kernel
theorem dlw_3122 : decode code 3122 = .ok (.invokevirtual 332, 3) := by decide +kernel
theorem dlw_3125 : decode code 3125 = .ok (.if_icmp .eq 62, 3) := by decide +kernel
theorem dlw_3128 : decode code 3128 = .ok (.iconst 0, 1) := by decide +kernel
theorem dlw_3129 : decode code 3129 = .ok (.ireturn, 1) := by decide +kernel
theorem dlw_3130 : decode code 3130 = .ok (.aload_n 1, 1) := by decide +kernel
theorem dlw_3131 : decode code 3131 = .ok (.invokevirtual 333, 3) := by decide +kernel
theorem dlw_3134 : decode code 3134 = .ok (.aload_n 2, 1) := by decide +kernel
theorem dlw_3135 : decode code 3135 = .ok (.invokevirtual 336, 3) := by decide +kernel
theorem dlw_3138 : decode code 3138 = .ok (.if_icmp .eq 49, 3) := by decide +kernel
theorem dlw_3141 : decode code 3141 = .ok (.iconst 0, 1) := by decide +kernel
theorem dlw_3142 : decode code 3142 = .ok (.ireturn, 1) := by decide +kernel
theorem dlw_3143 : decode code 3143 = .ok (.aload_n 1, 1) := by decide +kernel
theorem dlw_3144 : decode code 3144 = .ok (.aload_n 3, 1) := by decide +kernel
theorem dlw_3145 : decode code 3145 = .ok (.invokestatic 337, 3) := by decide +kernel
theorem dlw_3148 : decode code 3148 = .ok (.istore 5, 2) := by decide +kernel
theorem dlw_3150 : decode code 3150 = .ok (.aload_n 2, 1) := by decide +kernel
theorem dlw_3151 : decode code 3151 = .ok (.invokevirtual 339, 3) := by decide +kernel
theorem dlw_3154 : decode code 3154 = .ok (.istore 6, 2) := by decide +kernel
theorem dlw_3156 : decode code 3156 = .ok (.aload_n 2, 1) := by decide +kernel
theorem dlw_3157 : decode code 3157 = .ok (.invokevirtual 170, 3) := by decide +kernel
theorem dlw_3160 : decode code 3160 = .ok (.iload 5, 2) := by decide +kernel
theorem dlw_3162 : decode code 3162 = .ok (.if_icmp .eq 5, 3) := by decide +kernel
theorem dlw_3165 : decode code 3165 = .ok (.iconst 0, 1) := by decide +kernel
theorem dlw_3166 : decode code 3166 = .ok (.ireturn, 1) := by decide +kernel
theorem dlw_3167 : decode code 3167 = .ok (.iload 5, 2) := by decide +kernel
theorem dlw_3169 : decode code 3169 = .ok (.ifCond .ne 15, 3) := by decide +kernel
theorem dlw_3172 : decode code 3172 = .ok (.aload_n 3, 1) := by decide +kernel
theorem dlw_3173 : decode code 3173 = .ok (.iconst 0, 1) := by decide +kernel
theorem dlw_3174 : decode code 3174 = .ok (.laload, 1) := by decide +kernel
theorem dlw_3175 : decode code 3175 = .ok (.iload 6, 2) := by decide +kernel
theorem dlw_3177 : decode code 3177 = .ok (.i2l, 1) := by decide +kernel
theorem dlw_3178 : decode code 3178 = .ok (.lcmp, 1) := by decide +kernel
theorem dlw_3179 : decode code 3179 = .ok (.ifCond .eq 5, 3) := by decide +kernel
theorem dlw_3182 : decode code 3182 = .ok (.iconst 0, 1) := by decide +kernel
theorem dlw_3183 : decode code 3183 = .ok (.ireturn, 1) := by decide +kernel
theorem dlw_3184 : decode code 3184 = .ok (.goto 3, 3) := by decide +kernel
theorem dlw_3187 : decode code 3187 = .ok (.iinc 4 6, 3) := by decide +kernel
theorem dlw_3190 : decode code 3190 = .ok (.goto (-3167), 3) := by decide +kernel
theorem dlw_3193 : decode code 3193 = .ok (.iconst 1, 1) := by decide +kernel
theorem dlw_3194 : decode code 3194 = .ok (.ireturn, 1) := by decide +kernel
