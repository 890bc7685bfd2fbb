theorem dL_law_3047 : decode cL_law 3047 = .ok (.invokevirtual 189, 3) := by decide +kernel
theorem dL_law_3050 : decode cL_law 3050 = .ok (.iload 5, 2) := by decide +kernel
theorem dL_law_3052 : decode cL_law 3052 = .ok (.if_icmp .eq 5, 3) := by decide +kernel
theorem dL_law_3055 : decode cL_law 3055 = .ok (.iconst 0, 1) := by decide +kernel
theorem dL_law_3056 : decode cL_law 3056 = .ok (.ireturn, 1) := by decide +kernel
theorem dL_law_3057 : decode cL_law 3057 = .ok (.iload 5, 2) := by decide +kernel
theorem dL_law_3059 : decode cL_law 3059 = .ok (.ifCond .ne 15, 3) := by decide +kernel
theorem dL_law_3062 : decode cL_law 3062 = .ok (.aload_n 3, 1) := by decide +kernel
theorem dL_law_3063 : decode cL_law 3063 = .ok (.iconst 0, 1) := by decide +kernel
theorem dL_law_3064 : decode cL_law 3064 = .ok (.laload, 1) := by decide +kernel
theorem dL_law_3065 : decode cL_law 3065 = .ok (.iload 6, 2) := by decide +kernel
theorem dL_law_3067 : decode cL_law 3067 = .ok (.i2l, 1) := by decide +kernel
theorem dL_law_3068 : decode cL_law 3068 = .ok (.lcmp, 1) := by decide +kernel
theorem dL_law_3069 : decode cL_law 3069 = .ok (.ifCond .eq 5, 3) := by decide +kernel
theorem dL_law_3072 : decode cL_law 3072 = .ok (.iconst 0, 1) := by decide +kernel
theorem dL_law_3073 : decode cL_law 3073 = .ok (.ireturn, 1) := by decide +kernel
theorem dL_law_3074 : decode cL_law 3074 = .ok (.goto 938, 3) := by decide +kernel
theorem dL_law_3077 : decode cL_law 3077 = .ok (.aload_n 1, 1) := by decide +kernel
theorem dL_law_3078 : decode cL_law 3078 = .ok (.aload_n 0, 1) := by decide +kernel
theorem dL_law_3079 : decode cL_law 3079 = .ok (.iload 4, 2) := by decide +kernel
theorem dL_law_3081 : decode cL_law 3081 = .ok (.iconst 1, 1) := by decide +kernel
theorem dL_law_3082 : decode cL_law 3082 = .ok (.iadd, 1) := by decide +kernel
theorem dL_law_3083 : decode cL_law 3083 = .ok (.iaload, 1) := by decide +kernel
theorem dL_law_3084 : decode cL_law 3084 = .ok (.aload_n 0, 1) := by decide +kernel
theorem dL_law_3085 : decode cL_law 3085 = .ok (.iload 4, 2) := by decide +kernel
theorem dL_law_3087 : decode cL_law 3087 = .ok (.iconst 2, 1) := by decide +kernel
theorem dL_law_3088 : decode cL_law 3088 = .ok (.iadd, 1) := by decide +kernel
theorem dL_law_3089 : decode cL_law 3089 = .ok (.iaload, 1) := by decide +kernel
theorem dL_law_3090 : decode cL_law 3090 = .ok (.aload_n 0, 1) := by decide +kernel
theorem dL_law_3091 : decode cL_law 3091 = .ok (.iload 4, 2) := by decide +kernel
theorem dL_law_3093 : decode cL_law 3093 = .ok (.iconst 3, 1) := by decide +kernel
theorem dL_law_3094 : decode cL_law 3094 = .ok (.iadd, 1) := by decide +kernel
theorem dL_law_3095 : decode cL_law 3095 = .ok (.iaload, 1) := by decide +kernel
theorem dL_law_3096 : decode cL_law 3096 = .ok (.aload_n 3, 1) := by decide +kernel
theorem dL_law_3097 : decode cL_law 3097 = .ok (.invokestatic 317, 3) := by decide +kernel
theorem dL_law_3100 : decode cL_law 3100 = .ok (.istore 5, 2) := by decide +kernel
theorem dL_law_3102 : decode cL_law 3102 = .ok (.aload_n 2, 1) := by decide +kernel
theorem dL_law_3103 : decode cL_law 3103 = .ok (.aload_n 0, 1) := by decide +kernel
theorem dL_law_3104 : decode cL_law 3104 = .ok (.iload 4, 2) := by decide +kernel
theorem dL_law_3106 : decode cL_law 3106 = .ok (.iconst 1, 1) := by decide +kernel
theorem dL_law_3107 : decode cL_law 3107 = .ok (.iadd, 1) := by decide +kernel
theorem dL_law_3108 : decode cL_law 3108 = .ok (.iaload, 1) := by decide +kernel
theorem dL_law_3109 : decode cL_law 3109 = .ok (.aload_n 0, 1) := by decide +kernel
theorem dL_law_3110 : decode cL_law 3110 = .ok (.iload 4, 2) := by decide +kernel
theorem dL_law_3112 : decode cL_law 3112 = .ok (.iconst 2, 1) := by decide +kernel
theorem dL_law_3113 : decode cL_law 3113 = .ok (.iadd, 1) := by decide +kernel
theorem dL_law_3114 : decode cL_law 3114 = .ok (.iaload, 1) := by decide +kernel
theorem dL_law_3115 : decode cL_law 3115 = .ok (.aload_n 0, 1) := by decide +kernel
theorem dL_law_3116 : decode cL_law 3116 = .ok (.iload 4, 2) := by decide +kernel
theorem dL_law_3118 : decode cL_law 3118 = .ok (.iconst 3, 1) := by decide +kernel
theorem dL_law_3119 : decode cL_law 3119 = .ok (.iadd, 1) := by decide +kernel
theorem dL_law_3120 : decode cL_law 3120 = .ok (.iaload, 1) := by decide +kernel
theorem dL_law_3121 : decode cL_law 3121 = .ok (.invokevirtual 319, 3) := by decide +kernel
theorem dL_law_3124 : decode cL_law 3124 = .ok (.istore 6, 2) := by decide +kernel
theorem dL_law_3126 : decode cL_law 3126 = .ok (.aload_n 2, 1) := by decide +kernel
theorem dL_law_3127 : decode cL_law 3127 = .ok (.invokevirtual 189, 3) := by decide +kernel
theorem dL_law_3130 : decode cL_law 3130 = .ok (.iload 5, 2) := by decide +kernel
theorem dL_law_3132 : decode cL_law 3132 = .ok (.if_icmp .eq 5, 3) := by decide +kernel
theorem dL_law_3135 : decode cL_law 3135 = .ok (.iconst 0, 1) := by decide +kernel
theorem dL_law_3136 : decode cL_law 3136 = .ok (.ireturn, 1) := by decide +kernel
theorem dL_law_3137 : decode cL_law 3137 = .ok (.iload 5, 2) := by decide +kernel
theorem dL_law_3139 : decode cL_law 3139 = .ok (.ifCond .ne 15, 3) := by decide +kernel
theorem dL_law_3142 : decode cL_law 3142 = .ok (.aload_n 3, 1) := by decide +kernel
theorem dL_law_3143 : decode cL_law 3143 = .ok (.iconst 0, 1) := by decide +kernel
theorem dL_law_3144 : decode cL_law 3144 = .ok (.laload, 1) := by decide +kernel
theorem dL_law_3145 : decode cL_law 3145 = .ok (.iload 6, 2) := by decide +kernel
theorem dL_law_3147 : decode cL_law 3147 = .ok (.i2l, 1) := by decide +kernel
theorem dL_law_3148 : decode cL_law 3148 = .ok (.lcmp, 1) := by decide +kernel
theorem dL_law_3149 : decode cL_law 3149 = .ok (.ifCond .eq 5, 3) := by decide +kernel
theorem dL_law_3152 : decode cL_law 3152 = .ok (.iconst 0, 1) := by decide +kernel
theorem dL_law_3153 : decode cL_law 3153 = .ok (.ireturn, 1) := by decide +kernel
theorem dL_law_3154 : decode cL_law 3154 = .ok (.goto 858, 3) := by decide +kernel
theorem dL_law_3157 : decode cL_law 3157 = .ok (.aload_n 1, 1) := by decide +kernel
theorem dL_law_3158 : decode cL_law 3158 = .ok (.aload_n 0, 1) := by decide +kernel
theorem dL_law_3159 : decode cL_law 3159 = .ok (.iload 4, 2) := by decide +kernel
theorem dL_law_3161 : decode cL_law 3161 = .ok (.iconst 1, 1) := by decide +kernel
theorem dL_law_3162 : decode cL_law 3162 = .ok (.iadd, 1) := by decide +kernel
theorem dL_law_3163 : decode cL_law 3163 = .ok (.iaload, 1) := by decide +kernel
theorem dL_law_3164 : decode cL_law 3164 = .ok (.aload_n 0, 1) := by decide +kernel
theorem dL_law_3165 : decode cL_law 3165 = .ok (.iload 4, 2) := by decide +kernel
theorem dL_law_3167 : decode cL_law 3167 = .ok (.iconst 2, 1) := by decide +kernel
theorem dL_law_3168 : decode cL_law 3168 = .ok (.iadd, 1) := by decide +kernel
theorem dL_law_3169 : decode cL_law 3169 = .ok (.iaload, 1) := by decide +kernel
theorem dL_law_3170 : decode cL_law 3170 = .ok (.aload_n 0, 1) := by decide +kernel
theorem dL_law_3171 : decode cL_law 3171 = .ok (.iload 4, 2) := by decide +kernel
theorem dL_law_3173 : decode cL_law 3173 = .ok (.iconst 3, 1) := by decide +kernel
theorem dL_law_3174 : decode cL_law 3174 = .ok (.iadd, 1) := by decide +kernel
theorem dL_law_3175 : decode cL_law 3175 = .ok (.iaload, 1) := by decide +kernel
theorem dL_law_3176 : decode cL_law 3176 = .ok (.aload_n 3, 1) := by decide +kernel
theorem dL_law_3177 : decode cL_law 3177 = .ok (.invokestatic 320, 3) := by decide +kernel
theorem dL_law_3180 : decode cL_law 3180 = .ok (.istore 5, 2) := by decide +kernel
theorem dL_law_3182 : decode cL_law 3182 = .ok (.aload_n 2, 1) := by decide +kernel
theorem dL_law_3183 : decode cL_law 3183 = .ok (.aload_n 0, 1) := by decide +kernel
theorem dL_law_3184 : decode cL_law 3184 = .ok (.iload 4, 2) := by decide +kernel
theorem dL_law_3186 : decode cL_law 3186 = .ok (.iconst 1, 1) := by decide +kernel
theorem dL_law_3187 : decode cL_law 3187 = .ok (.iadd, 1) := by decide +kernel
theorem dL_law_3188 : decode cL_law 3188 = .ok (.iaload, 1) := by decide +kernel
theorem dL_law_3189 : decode cL_law 3189 = .ok (.aload_n 0, 1) := by decide +kernel
theorem dL_law_3190 : decode cL_law 3190 = .ok (.iload 4, 2) := by decide +kernel
theorem dL_law_3192 : decode cL_law 3192 = .ok (.iconst 2, 1) := by decide +kernel
theorem dL_law_3193 : decode cL_law 3193 = .ok (.iadd, 1) := by decide +kernel
theorem dL_law_3194 : decode cL_law 3194 = .ok (.iaload, 1) := by decide +kernel
theorem dL_law_3195 : decode cL_law 3195 = .ok (.aload_n 0, 1) := by decide +kernel
theorem dL_law_3196 : decode cL_law 3196 = .ok (.iload 4, 2) := by decide +kernel
theorem dL_law_3198 : decode cL_law 3198 = .ok (.iconst 3, 1) := by decide +kernel
theorem dL_law_3199 : decode cL_law 3199 = .ok (.iadd, 1) := by decide +kernel
theorem dL_law_3200 : decode cL_law 3200 = .ok (.iaload, 1) := by decide +kernel
theorem dL_law_3201 : decode cL_law 3201 = .ok (.invokevirtual 322, 3) := by decide +kernel
theorem dL_law_3204 : decode cL_law 3204 = .ok (.istore 6, 2) := by decide +kernel
theorem dL_law_3206 : decode cL_law 3206 = .ok (.aload_n 2, 1) := by decide +kernel
theorem dL_law_3207 : decode cL_law 3207 = .ok (.invokevirtual 189, 3) := by decide +kernel
theorem dL_law_3210 : decode cL_law 3210 = .ok (.iload 5, 2) := by decide +kernel
theorem dL_law_3212 : decode cL_law 3212 = .ok (.if_icmp .eq 5, 3) := by decide +kernel
theorem dL_law_3215 : decode cL_law 3215 = .ok (.iconst 0, 1) := by decide +kernel
theorem dL_law_3216 : decode cL_law 3216 = .ok (.ireturn, 1) := by decide +kernel
theorem dL_law_3217 : decode cL_law 3217 = .ok (.iload 5, 2) := by decide +kernel
theorem dL_law_3219 : decode cL_law 3219 = .ok (.ifCond .ne 15, 3) := by decide +kernel
theorem dL_law_3222 : decode cL_law 3222 = .ok (.aload_n 3, 1) := by decide +kernel
theorem dL_law_3223 : decode cL_law 3223 = .ok (.iconst 0, 1) := by decide +kernel
theorem dL_law_3224 : decode cL_law 3224 = .ok (.laload, 1) := by decide +kernel
theorem dL_law_3225 : decode cL_law 3225 = .ok (.iload 6, 2) := by decide +kernel
theorem dL_law_3227 : decode cL_law 3227 = .ok (.i2l, 1) := by decide +kernel
theorem dL_law_3228 : decode cL_law 3228 = .ok (.lcmp, 1) := by decide +kernel
theorem dL_law_3229 : decode cL_law 3229 = .ok (.ifCond .eq 5, 3) := by decide +kernel
theorem dL_law_3232 : decode cL_law 3232 = .ok (.iconst 0, 1) := by decide +kernel
theorem dL_law_3233 : decode cL_law 3233 = .ok (.ireturn, 1) := by decide +kernel
theorem dL_law_3234 : decode cL_law 3234 = .ok (.goto 778, 3) := by decide +kernel
theorem dL_law_3237 : decode cL_law 3237 = .ok (.aload_n 1, 1) := by decide +kernel
theorem dL_law_3238 : decode cL_law 3238 = .ok (.aload_n 0, 1) := by decide +kernel
theorem dL_law_3239 : decode cL_law 3239 = .ok (.iload 4, 2) := by decide +kernel
theorem dL_law_3241 : decode cL_law 3241 = .ok (.iconst 1, 1) := by decide +kernel
theorem dL_law_3242 : decode cL_law 3242 = .ok (.iadd, 1) := by decide +kernel
theorem dL_law_3243 : decode cL_law 3243 = .ok (.iaload, 1) := by decide +kernel
theorem dL_law_3244 : decode cL_law 3244 = .ok (.aload_n 3, 1) := by decide +kernel
theorem dL_law_3245 : decode cL_law 3245 = .ok (.invokestatic 323, 3) := by decide +kernel
theorem dL_law_3248 : decode cL_law 3248 = .ok (.istore 5, 2) := by decide +kernel
theorem dL_law_3250 : decode cL_law 3250 = .ok (.aload_n 2, 1) := by decide +kernel
theorem dL_law_3251 : decode cL_law 3251 = .ok (.aload_n 0, 1) := by decide +kernel
theorem dL_law_3252 : decode cL_law 3252 = .ok (.iload 4, 2) := by decide +kernel
theorem dL_law_3254 : decode cL_law 3254 = .ok (.iconst 1, 1) := by decide +kernel
theorem dL_law_3255 : decode cL_law 3255 = .ok (.iadd, 1) := by decide +kernel
theorem dL_law_3256 : decode cL_law 3256 = .ok (.iaload, 1) := by decide +kernel
theorem dL_law_3257 : decode cL_law 3257 = .ok (.invokevirtual 325, 3) := by decide +kernel
theorem dL_law_3260 : decode cL_law 3260 = .ok (.istore 6, 2) := by decide +kernel
theorem dL_law_3262 : decode cL_law 3262 = .ok (.aload_n 2, 1) := by decide +kernel
theorem dL_law_3263 : decode cL_law 3263 = .ok (.invokevirtual 189, 3) := by decide +kernel
theorem dL_law_3266 : decode cL_law 3266 = .ok (.iload 5, 2) := by decide +kernel
theorem dL_law_3268 : decode cL_law 3268 = .ok (.if_icmp .eq 5, 3) := by decide +kernel
theorem dL_law_3271 : decode cL_law 3271 = .ok (.iconst 0, 1) := by decide +kernel
theorem dL_law_3272 : decode cL_law 3272 = .ok (.ireturn, 1) := by decide +kernel
theorem dL_law_3273 : decode cL_law 3273 = .ok (.iload 5, 2) := by decide +kernel
theorem dL_law_3275 : decode cL_law 3275 = .ok (.ifCond .ne 15, 3) := by decide +kernel
theorem dL_law_3278 : decode cL_law 3278 = .ok (.aload_n 3, 1) := by decide +kernel
theorem dL_law_3279 : decode cL_law 3279 = .ok (.iconst 0, 1) := by decide +kernel
theorem dL_law_3280 : decode cL_law 3280 = .ok (.laload, 1) := by decide +kernel
theorem dL_law_3281 : decode cL_law 3281 = .ok (.iload 6, 2) := by decide +kernel
theorem dL_law_3283 : decode cL_law 3283 = .ok (.i2l, 1) := by decide +kernel
theorem dL_law_3284 : decode cL_law 3284 = .ok (.lcmp, 1) := by decide +kernel
theorem dL_law_3285 : decode cL_law 3285 = .ok (.ifCond .eq 5, 3) := by decide +kernel
theorem dL_law_3288 : decode cL_law 3288 = .ok (.iconst 0, 1) := by decide +kernel
theorem dL_law_3289 : decode cL_law 3289 = .ok (.ireturn, 1) := by decide +kernel
theorem dL_law_3290 : decode cL_law 3290 = .ok (.goto 722, 3) := by decide +kernel
theorem dL_law_3293 : decode cL_law 3293 = .ok (.aload_n 1, 1) := by decide +kernel
theorem dL_law_3294 : decode cL_law 3294 = .ok (.aload_n 0, 1) := by decide +kernel
theorem dL_law_3295 : decode cL_law 3295 = .ok (.iload 4, 2) := by decide +kernel
theorem dL_law_3297 : decode cL_law 3297 = .ok (.iconst 1, 1) := by decide +kernel
theorem dL_law_3298 : decode cL_law 3298 = .ok (.iadd, 1) := by decide +kernel
theorem dL_law_3299 : decode cL_law 3299 = .ok (.iaload, 1) := by decide +kernel
theorem dL_law_3300 : decode cL_law 3300 = .ok (.aload_n 3, 1) := by decide +kernel
theorem dL_law_3301 : decode cL_law 3301 = .ok (.invokestatic 326, 3) := by decide +kernel
theorem dL_law_3304 : decode cL_law 3304 = .ok (.istore 5, 2) := by decide +kernel
theorem dL_law_3306 : decode cL_law 3306 = .ok (.aload_n 2, 1) := by decide +kernel
theorem dL_law_3307 : decode cL_law 3307 = .ok (.aload_n 0, 1) := by decide +kernel
theorem dL_law_3308 : decode cL_law 3308 = .ok (.iload 4, 2) := by decide +kernel
theorem dL_law_3310 : decode cL_law 3310 = .ok (.iconst 1, 1) := by decide +kernel
theorem dL_law_3311 : decode cL_law 3311 = .ok (.iadd, 1) := by decide +kernel
theorem dL_law_3312 : decode cL_law 3312 = .ok (.iaload, 1) := by decide +kernel
theorem dL_law_3313 : decode cL_law 3313 = .ok (.invokevirtual 328, 3) := by decide +kernel
theorem dL_law_3316 : decode cL_law 3316 = .ok (.istore 6, 2) := by decide +kernel
theorem dL_law_3318 : decode cL_law 3318 = .ok (.aload_n 2, 1) := by decide +kernel
theorem dL_law_3319 : decode cL_law 3319 = .ok (.invokevirtual 189, 3) := by decide +kernel
theorem dL_law_3322 : decode cL_law 3322 = .ok (.iload 5, 2) := by decide +kernel
theorem dL_law_3324 : decode cL_law 3324 = .ok (.if_icmp .eq 5, 3) := by decide +kernel
theorem dL_law_3327 : decode cL_law 3327 = .ok (.iconst 0, 1) := by decide +kernel
theorem dL_law_3328 : decode cL_law 3328 = .ok (.ireturn, 1) := by decide +kernel
theorem dL_law_3329 : decode cL_law 3329 = .ok (.iload 5, 2) := by decide +kernel
theorem dL_law_3331 : decode cL_law 3331 = .ok (.ifCond .ne 15, 3) := by decide +kernel
theorem dL_law_3334 : decode cL_law 3334 = .ok (.aload_n 3, 1) := by decide +kernel
theorem dL_law_3335 : decode cL_law 3335 = .ok (.iconst 0, 1) := by decide +kernel
theorem dL_law_3336 : decode cL_law 3336 = .ok (.laload, 1) := by decide +kernel
theorem dL_law_3337 : decode cL_law 3337 = .ok (.iload 6, 2) := by decide +kernel
theorem dL_law_3339 : decode cL_law 3339 = .ok (.i2l, 1) := by decide +kernel
theorem dL_law_3340 : decode cL_law 3340 = .ok (.lcmp, 1) := by decide +kernel
theorem dL_law_3341 : decode cL_law 3341 = .ok (.ifCond .eq 5, 3) := by decide +kernel
theorem dL_law_3344 : decode cL_law 3344 = .ok (.iconst 0, 1) := by decide +kernel
theorem dL_law_3345 : decode cL_law 3345 = .ok (.ireturn, 1) := by decide +kernel
theorem dL_law_3346 : decode cL_law 3346 = .ok (.goto 666, 3) := by decide +kernel
theorem dL_law_3349 : decode cL_law 3349 = .ok (.aload_n 1, 1) := by decide +kernel
theorem dL_law_3350 : decode cL_law 3350 = .ok (.aload_n 0, 1) := by decide +kernel
theorem dL_law_3351 : decode cL_law 3351 = .ok (.iload 4, 2) := by decide +kernel
theorem dL_law_3353 : decode cL_law 3353 = .ok (.iconst 1, 1) := by decide +kernel
theorem dL_law_3354 : decode cL_law 3354 = .ok (.iadd, 1) := by decide +kernel
theorem dL_law_3355 : decode cL_law 3355 = .ok (.iaload, 1) := by decide +kernel
theorem dL_law_3356 : decode cL_law 3356 = .ok (.aload_n 3, 1) := by decide +kernel
theorem dL_law_3357 : decode cL_law 3357 = .ok (.invokestatic 329, 3) := by decide +kernel
theorem dL_law_3360 : decode cL_law 3360 = .ok (.istore 5, 2) := by decide +kernel
theorem dL_law_3362 : decode cL_law 3362 = .ok (.aload_n 2, 1) := by decide +kernel
theorem dL_law_3363 : decode cL_law 3363 = .ok (.aload_n 0, 1) := by decide +kernel
theorem dL_law_3364 : decode cL_law 3364 = .ok (.iload 4, 2) := by decide +kernel
theorem dL_law_3366 : decode cL_law 3366 = .ok (.iconst 1, 1) := by decide +kernel
theorem dL_law_3367 : decode cL_law 3367 = .ok (.iadd, 1) := by decide +kernel
theorem dL_law_3368 : decode cL_law 3368 = .ok (.iaload, 1) := by decide +kernel
theorem dL_law_3369 : decode cL_law 3369 = .ok (.invokevirtual 331, 3) := by decide +kernel
theorem dL_law_3372 : decode cL_law 3372 = .ok (.istore 6, 2) := by decide +kernel
theorem dL_law_3374 : decode cL_law 3374 = .ok (.aload_n 2, 1) := by decide +kernel
theorem dL_law_3375 : decode cL_law 3375 = .ok (.invokevirtual 189, 3) := by decide +kernel
theorem dL_law_3378 : decode cL_law 3378 = .ok (.iload 5, 2) := by decide +kernel
theorem dL_law_3380 : decode cL_law 3380 = .ok (.if_icmp .eq 5, 3) := by decide +kernel
theorem dL_law_3383 : decode cL_law 3383 = .ok (.iconst 0, 1) := by decide +kernel
theorem dL_law_3384 : decode cL_law 3384 = .ok (.ireturn, 1) := by decide +kernel
theorem dL_law_3385 : decode cL_law 3385 = .ok (.iload 5, 2) := by decide +kernel
theorem dL_law_3387 : decode cL_law 3387 = .ok (.ifCond .ne 15, 3) := by decide +kernel
theorem dL_law_3390 : decode cL_law 3390 = .ok (.aload_n 3, 1) := by decide +kernel
theorem dL_law_3391 : decode cL_law 3391 = .ok (.iconst 0, 1) := by decide +kernel
theorem dL_law_3392 : decode cL_law 3392 = .ok (.laload, 1) := by decide +kernel
theorem dL_law_3393 : decode cL_law 3393 = .ok (.iload 6, 2) := by decide +kernel
theorem dL_law_3395 : decode cL_law 3395 = .ok (.i2l, 1) := by decide +kernel
theorem dL_law_3396 : decode cL_law 3396 = .ok (.lcmp, 1) := by decide +kernel
theorem dL_law_3397 : decode cL_law 3397 = .ok (.ifCond .eq 5, 3) := by decide +kernel
theorem dL_law_3400 : decode cL_law 3400 = .ok (.iconst 0, 1) := by decide +kernel
theorem dL_law_3401 : decode cL_law 3401 = .ok (.ireturn, 1) := by decide +kernel
theorem dL_law_3402 : decode cL_law 3402 = .ok (.goto 610, 3) := by decide +kernel
theorem dL_law_3405 : decode cL_law 3405 = .ok (.aload_n 1, 1) := by decide +kernel
theorem dL_law_3406 : decode cL_law 3406 = .ok (.aload_n 0, 1) := by decide +kernel
theorem dL_law_3407 : decode cL_law 3407 = .ok (.iload 4, 2) := by decide +kernel
theorem dL_law_3409 : decode cL_law 3409 = .ok (.iconst 1, 1) := by decide +kernel
theorem dL_law_3410 : decode cL_law 3410 = .ok (.iadd, 1) := by decide +kernel
theorem dL_law_3411 : decode cL_law 3411 = .ok (.iaload, 1) := by decide +kernel
theorem dL_law_3412 : decode cL_law 3412 = .ok (.aload_n 0, 1) := by decide +kernel
theorem dL_law_3413 : decode cL_law 3413 = .ok (.iload 4, 2) := by decide +kernel
theorem dL_law_3415 : decode cL_law 3415 = .ok (.iconst 2, 1) := by decide +kernel
theorem dL_law_3416 : decode cL_law 3416 = .ok (.iadd, 1) := by decide +kernel
theorem dL_law_3417 : decode cL_law 3417 = .ok (.iaload, 1) := by decide +kernel
theorem dL_law_3418 : decode cL_law 3418 = .ok (.aload_n 3, 1) := by decide +kernel
theorem dL_law_3419 : decode cL_law 3419 = .ok (.invokestatic 332, 3) := by decide +kernel
theorem dL_law_3422 : decode cL_law 3422 = .ok (.istore 5, 2) := by decide +kernel
theorem dL_law_3424 : decode cL_law 3424 = .ok (.aload_n 2, 1) := by decide +kernel
theorem dL_law_3425 : decode cL_law 3425 = .ok (.aload_n 0, 1) := by decide +kernel
theorem dL_law_3426 : decode cL_law 3426 = .ok (.iload 4, 2) := by decide +kernel
theorem dL_law_3428 : decode cL_law 3428 = .ok (.iconst 1, 1) := by decide +kernel
theorem dL_law_3429 : decode cL_law 3429 = .ok (.iadd, 1) := by decide +kernel
theorem dL_law_3430 : decode cL_law 3430 = .ok (.iaload, 1) := by decide +kernel
theorem dL_law_3431 : decode cL_law 3431 = .ok (.aload_n 0, 1) := by decide +kernel
theorem dL_law_3432 : decode cL_law 3432 = .ok (.iload 4, 2) := by decide +kernel
theorem dL_law_3434 : decode cL_law 3434 = .ok (.iconst 2, 1) := by decide +kernel
theorem dL_law_3435 : decode cL_law 3435 = .ok (.iadd, 1) := by decide +kernel
theorem dL_law_3436 : decode cL_law 3436 = .ok (.iaload, 1) := by decide +kernel
theorem dL_law_3437 : decode cL_law 3437 = .ok (.invokevirtual 334, 3) := by decide +kernel
theorem dL_law_3440 : decode cL_law 3440 = .ok (.istore 6, 2) := by decide +kernel
theorem dL_law_3442 : decode cL_law 3442 = .ok (.aload_n 2, 1) := by decide +kernel
theorem dL_law_3443 : decode cL_law 3443 = .ok (.invokevirtual 189, 3) := by decide +kernel
theorem dL_law_3446 : decode cL_law 3446 = .ok (.iload 5, 2) := by decide +kernel
theorem dL_law_3448 : decode cL_law 3448 = .ok (.if_icmp .eq 5, 3) := by decide +kernel
theorem dL_law_3451 : decode cL_law 3451 = .ok (.iconst 0, 1) := by decide +kernel
theorem dL_law_3452 : decode cL_law 3452 = .ok (.ireturn, 1) := by decide +kernel
theorem dL_law_3453 : decode cL_law 3453 = .ok (.iload 5, 2) := by decide +kernel
theorem dL_law_3455 : decode cL_law 3455 = .ok (.ifCond .ne 15, 3) := by decide +kernel
theorem dL_law_3458 : decode cL_law 3458 = .ok (.aload_n 3, 1) := by decide +kernel
theorem dL_law_3459 : decode cL_law 3459 = .ok (.iconst 0, 1) := by decide +kernel
theorem dL_law_3460 : decode cL_law 3460 = .ok (.laload, 1) := by decide +kernel
theorem dL_law_3461 : decode cL_law 3461 = .ok (.iload 6, 2) := by decide +kernel
theorem dL_law_3463 : decode cL_law 3463 = .ok (.i2l, 1) := by decide +kernel
theorem dL_law_3464 : decode cL_law 3464 = .ok (.lcmp, 1) := by decide +kernel
theorem dL_law_3465 : decode cL_law 3465 = .ok (.ifCond .eq 5, 3) := by decide +kernel
theorem dL_law_3468 : decode cL_law 3468 = .ok (.iconst 0, 1) := by decide +kernel
theorem dL_law_3469 : decode cL_law 3469 = .ok (.ireturn, 1) := by decide +kernel
theorem dL_law_3470 : decode cL_law 3470 = .ok (.goto 542, 3) := by decide +kernel
theorem dL_law_3473 : decode cL_law 3473 = .ok (.aload_n 1, 1) := by decide +kernel
theorem dL_law_3474 : decode cL_law 3474 = .ok (.aload_n 0, 1) := by decide +kernel
theorem dL_law_3475 : decode cL_law 3475 = .ok (.iload 4, 2) := by decide +kernel
theorem dL_law_3477 : decode cL_law 3477 = .ok (.iconst 1, 1) := by decide +kernel
theorem dL_law_3478 : decode cL_law 3478 = .ok (.iadd, 1) := by decide +kernel
theorem dL_law_3479 : decode cL_law 3479 = .ok (.iaload, 1) := by decide +kernel
theorem dL_law_3480 : decode cL_law 3480 = .ok (.aload_n 3, 1) := by decide +kernel
theorem dL_law_3481 : decode cL_law 3481 = .ok (.invokestatic 335, 3) := by decide +kernel
theorem dL_law_3484 : decode cL_law 3484 = .ok (.istore 5, 2) := by decide +kernel
theorem dL_law_3486 : decode cL_law 3486 = .ok (.aload_n 2, 1) := by decide +kernel
theorem dL_law_3487 : decode cL_law 3487 = .ok (.aload_n 0, 1) := by decide +kernel
theorem dL_law_3488 : decode cL_law 3488 = .ok (.iload 4, 2) := by decide +kernel
theorem dL_law_3490 : decode cL_law 3490 = .ok (.iconst 1, 1) := by decide +kernel
theorem dL_law_3491 : decode cL_law 3491 = .ok (.iadd, 1) := by decide +kernel
theorem dL_law_3492 : decode cL_law 3492 = .ok (.iaload, 1) := by decide +kernel
theorem dL_law_3493 : decode cL_law 3493 = .ok (.invokevirtual 337, 3) := by decide +kernel
theorem dL_law_3496 : decode cL_law 3496 = .ok (.istore 6, 2) := by decide +kernel
theorem dL_law_3498 : decode cL_law 3498 = .ok (.aload_n 2, 1) := by decide +kernel
theorem dL_law_3499 : decode cL_law 3499 = .ok (.invokevirtual 189, 3) := by decide +kernel
theorem dL_law_3502 : decode cL_law 3502 = .ok (.iload 5, 2) := by decide +kernel
theorem dL_law_3504 : decode cL_law 3504 = .ok (.if_icmp .eq 5, 3) := by decide +kernel
theorem dL_law_3507 : decode cL_law 3507 = .ok (.iconst 0, 1) := by decide +kernel
theorem dL_law_3508 : decode cL_law 3508 = .ok (.ireturn, 1) := by decide +kernel
theorem dL_law_3509 : decode cL_law 3509 = .ok (.iload 5, 2) := by decide +kernel
theorem dL_law_3511 : decode cL_law 3511 = .ok (.ifCond .ne 15, 3) := by decide +kernel
theorem dL_law_3514 : decode cL_law 3514 = .ok (.aload_n 3, 1) := by decide +kernel
theorem dL_law_3515 : decode cL_law 3515 = .ok (.iconst 0, 1) := by decide +kernel
theorem dL_law_3516 : decode cL_law 3516 = .ok (.laload, 1) := by decide +kernel
theorem dL_law_3517 : decode cL_law 3517 = .ok (.iload 6, 2) := by decide +kernel
theorem dL_law_3519 : decode cL_law 3519 = .ok (.i2l, 1) := by decide +kernel
theorem dL_law_3520 : decode cL_law 3520 = .ok (.lcmp, 1) := by decide +kernel
theorem dL_law_3521 : decode cL_law 3521 = .ok (.ifCond .eq 5, 3) := by decide +kernel
theorem dL_law_3524 : decode cL_law 3524 = .ok (.iconst 0, 1) := by decide +kernel
theorem dL_law_3525 : decode cL_law 3525 = .ok (.ireturn, 1) := by decide +kernel
theorem dL_law_3526 : decode cL_law 3526 = .ok (.goto 486, 3) := by decide +kernel
theorem dL_law_3529 : decode cL_law 3529 = .ok (.aload_n 1, 1) := by decide +kernel
theorem dL_law_3530 : decode cL_law 3530 = .ok (.aload_n 0, 1) := by decide +kernel
theorem dL_law_3531 : decode cL_law 3531 = .ok (.iload 4, 2) := by decide +kernel
theorem dL_law_3533 : decode cL_law 3533 = .ok (.iconst 1, 1) := by decide +kernel
theorem dL_law_3534 : decode cL_law 3534 = .ok (.iadd, 1) := by decide +kernel
theorem dL_law_3535 : decode cL_law 3535 = .ok (.iaload, 1) := by decide +kernel
theorem dL_law_3536 : decode cL_law 3536 = .ok (.aload_n 0, 1) := by decide +kernel
theorem dL_law_3537 : decode cL_law 3537 = .ok (.iload 4, 2) := by decide +kernel
theorem dL_law_3539 : decode cL_law 3539 = .ok (.iconst 2, 1) := by decide +kernel
theorem dL_law_3540 : decode cL_law 3540 = .ok (.iadd, 1) := by decide +kernel
theorem dL_law_3541 : decode cL_law 3541 = .ok (.iaload, 1) := by decide +kernel
theorem dL_law_3542 : decode cL_law 3542 = .ok (.aload_n 3, 1) := by decide +kernel
theorem dL_law_3543 : decode cL_law 3543 = .ok (.invokestatic 338, 3) := by decide +kernel
theorem dL_law_3546 : decode cL_law 3546 = .ok (.istore 5, 2) := by decide +kernel
theorem dL_law_3548 : decode cL_law 3548 = .ok (.aload_n 2, 1) := by decide +kernel
theorem dL_law_3549 : decode cL_law 3549 = .ok (.aload_n 0, 1) := by decide +kernel
theorem dL_law_3550 : decode cL_law 3550 = .ok (.iload 4, 2) := by decide +kernel
theorem dL_law_3552 : decode cL_law 3552 = .ok (.iconst 1, 1) := by decide +kernel
theorem dL_law_3553 : decode cL_law 3553 = .ok (.iadd, 1) := by decide +kernel
theorem dL_law_3554 : decode cL_law 3554 = .ok (.iaload, 1) := by decide +kernel
theorem dL_law_3555 : decode cL_law 3555 = .ok (.aload_n 0, 1) := by decide +kernel
theorem dL_law_3556 : decode cL_law 3556 = .ok (.iload 4, 2) := by decide +kernel
theorem dL_law_3558 : decode cL_law 3558 = .ok (.iconst 2, 1) := by decide +kernel
theorem dL_law_3559 : decode cL_law 3559 = .ok (.iadd, 1) := by decide +kernel
theorem dL_law_3560 : decode cL_law 3560 = .ok (.iaload, 1) := by decide +kernel
theorem dL_law_3561 : decode cL_law 3561 = .ok (.invokevirtual 340, 3) := by decide +kernel
theorem dL_law_3564 : decode cL_law 3564 = .ok (.istore 6, 2) := by decide +kernel
theorem dL_law_3566 : decode cL_law 3566 = .ok (.aload_n 2, 1) := by decide +kernel
theorem dL_law_3567 : decode cL_law 3567 = .ok (.invokevirtual 189, 3) := by decide +kernel
theorem dL_law_3570 : decode cL_law 3570 = .ok (.iload 5, 2) := by decide +kernel
theorem dL_law_3572 : decode cL_law 3572 = .ok (.if_icmp .eq 5, 3) := by decide +kernel
theorem dL_law_3575 : decode cL_law 3575 = .ok (.iconst 0, 1) := by decide +kernel
theorem dL_law_3576 : decode cL_law 3576 = .ok (.ireturn, 1) := by decide +kernel
theorem dL_law_3577 : decode cL_law 3577 = .ok (.iload 5, 2) := by decide +kernel
theorem dL_law_3579 : decode cL_law 3579 = .ok (.ifCond .ne 15, 3) := by decide +kernel
theorem dL_law_3582 : decode cL_law 3582 = .ok (.aload_n 3, 1) := by decide +kernel
theorem dL_law_3583 : decode cL_law 3583 = .ok (.iconst 0, 1) := by decide +kernel
theorem dL_law_3584 : decode cL_law 3584 = .ok (.laload, 1) := by decide +kernel
theorem dL_law_3585 : decode cL_law 3585 = .ok (.iload 6, 2) := by decide +kernel
theorem dL_law_3587 : decode cL_law 3587 = .ok (.i2l, 1) := by decide +kernel
theorem dL_law_3588 : decode cL_law 3588 = .ok (.lcmp, 1) := by decide +kernel
theorem dL_law_3589 : decode cL_law 3589 = .ok (.ifCond .eq 5, 3) := by decide +kernel
theorem dL_law_3592 : decode cL_law 3592 = .ok (.iconst 0, 1) := by decide +kernel
theorem dL_law_3593 : decode cL_law 3593 = .ok (.ireturn, 1) := by decide +kernel
theorem dL_law_3594 : decode cL_law 3594 = .ok (.goto 418, 3) := by decide +kernel
theorem dL_law_3597 : decode cL_law 3597 = .ok (.aload_n 1, 1) := by decide +kernel
theorem dL_law_3598 : decode cL_law 3598 = .ok (.aload_n 0, 1) := by decide +kernel
theorem dL_law_3599 : decode cL_law 3599 = .ok (.iload 4, 2) := by decide +kernel
theorem dL_law_3601 : decode cL_law 3601 = .ok (.iconst 1, 1) := by decide +kernel
theorem dL_law_3602 : decode cL_law 3602 = .ok (.iadd, 1) := by decide +kernel
theorem dL_law_3603 : decode cL_law 3603 = .ok (.iaload, 1) := by decide +kernel
theorem dL_law_3604 : decode cL_law 3604 = .ok (.aload_n 0, 1) := by decide +kernel
theorem dL_law_3605 : decode cL_law 3605 = .ok (.iload 4, 2) := by decide +kernel
theorem dL_law_3607 : decode cL_law 3607 = .ok (.iconst 2, 1) := by decide +kernel
theorem dL_law_3608 : decode cL_law 3608 = .ok (.iadd, 1) := by decide +kernel
theorem dL_law_3609 : decode cL_law 3609 = .ok (.iaload, 1) := by decide +kernel
theorem dL_law_3610 : decode cL_law 3610 = .ok (.aload_n 3, 1) := by decide +kernel
theorem dL_law_3611 : decode cL_law 3611 = .ok (.invokestatic 341, 3) := by decide +kernel
theorem dL_law_3614 : decode cL_law 3614 = .ok (.istore 5, 2) := by decide +kernel
theorem dL_law_3616 : decode cL_law 3616 = .ok (.aload_n 2, 1) := by decide +kernel
theorem dL_law_3617 : decode cL_law 3617 = .ok (.aload_n 0, 1) := by decide +kernel
theorem dL_law_3618 : decode cL_law 3618 = .ok (.iload 4, 2) := by decide +kernel
theorem dL_law_3620 : decode cL_law 3620 = .ok (.iconst 1, 1) := by decide +kernel
theorem dL_law_3621 : decode cL_law 3621 = .ok (.iadd, 1) := by decide +kernel
theorem dL_law_3622 : decode cL_law 3622 = .ok (.iaload, 1) := by decide +kernel
theorem dL_law_3623 : decode cL_law 3623 = .ok (.aload_n 0, 1) := by decide +kernel
theorem dL_law_3624 : decode cL_law 3624 = .ok (.iload 4, 2) := by decide +kernel
theorem dL_law_3626 : decode cL_law 3626 = .ok (.iconst 2, 1) := by decide +kernel
theorem dL_law_3627 : decode cL_law 3627 = .ok (.iadd, 1) := by decide +kernel
theorem dL_law_3628 : decode cL_law 3628 = .ok (.iaload, 1) := by decide +kernel
theorem dL_law_3629 : decode cL_law 3629 = .ok (.invokevirtual 343, 3) := by decide +kernel
theorem dL_law_3632 : decode cL_law 3632 = .ok (.istore 6, 2) := by decide +kernel
theorem dL_law_3634 : decode cL_law 3634 = .ok (.aload_n 2, 1) := by decide +kernel
theorem dL_law_3635 : decode cL_law 3635 = .ok (.invokevirtual 189, 3) := by decide +kernel
theorem dL_law_3638 : decode cL_law 3638 = .ok (.iload 5, 2) := by decide +kernel
theorem dL_law_3640 : decode cL_law 3640 = .ok (.if_icmp .eq 5, 3) := by decide +kernel
theorem dL_law_3643 : decode cL_law 3643 = .ok (.iconst 0, 1) := by decide +kernel
theorem dL_law_3644 : decode cL_law 3644 = .ok (.ireturn, 1) := by decide +kernel
theorem dL_law_3645 : decode cL_law 3645 = .ok (.iload 5, 2) := by decide +kernel
theorem dL_law_3647 : decode cL_law 3647 = .ok (.ifCond .ne 22, 3) := by decide +kernel
theorem dL_law_3650 : decode cL_law 3650 = .ok (.aload_n 3, 1) := by decide +kernel
theorem dL_law_3651 : decode cL_law 3651 = .ok (.iconst 0, 1) := by decide +kernel
theorem dL_law_3652 : decode cL_law 3652 = .ok (.laload, 1) := by decide +kernel
theorem dL_law_3653 : decode cL_law 3653 = .ok (.iload 6, 2) := by decide +kernel
theorem dL_law_3655 : decode cL_law 3655 = .ok (.ifCond .eq 7, 3) := by decide +kernel
theorem dL_law_3658 : decode cL_law 3658 = .ok (.lconst 1, 1) := by decide +kernel
theorem dL_law_3659 : decode cL_law 3659 = .ok (.goto 4, 3) := by decide +kernel
theorem dL_law_3662 : decode cL_law 3662 = .ok (.lconst 0, 1) := by decide +kernel
theorem dL_law_3663 : decode cL_law 3663 = .ok (.lcmp, 1) := by decide +kernel
theorem dL_law_3664 : decode cL_law 3664 = .ok (.ifCond .eq 5, 3) := by decide +kernel
theorem dL_law_3667 : decode cL_law 3667 = .ok (.iconst 0, 1) := by decide +kernel
theorem dL_law_3668 : decode cL_law 3668 = .ok (.ireturn, 1) := by decide +kernel
theorem dL_law_3669 : decode cL_law 3669 = .ok (.goto 343, 3) := by decide +kernel
theorem dL_law_3672 : decode cL_law 3672 = .ok (.aload_n 1, 1) := by decide +kernel
theorem dL_law_3673 : decode cL_law 3673 = .ok (.aload_n 0, 1) := by decide +kernel
theorem dL_law_3674 : decode cL_law 3674 = .ok (.iload 4, 2) := by decide +kernel
theorem dL_law_3676 : decode cL_law 3676 = .ok (.iconst 1, 1) := by decide +kernel
theorem dL_law_3677 : decode cL_law 3677 = .ok (.iadd, 1) := by decide +kernel
theorem dL_law_3678 : decode cL_law 3678 = .ok (.iaload, 1) := by decide +kernel
theorem dL_law_3679 : decode cL_law 3679 = .ok (.aload_n 3, 1) := by decide +kernel
theorem dL_law_3680 : decode cL_law 3680 = .ok (.invokestatic 344, 3) := by decide +kernel
theorem dL_law_3683 : decode cL_law 3683 = .ok (.istore 5, 2) := by decide +kernel
theorem dL_law_3685 : decode cL_law 3685 = .ok (.aload_n 2, 1) := by decide +kernel
theorem dL_law_3686 : decode cL_law 3686 = .ok (.aload_n 0, 1) := by decide +kernel
theorem dL_law_3687 : decode cL_law 3687 = .ok (.iload 4, 2) := by decide +kernel
theorem dL_law_3689 : decode cL_law 3689 = .ok (.iconst 1, 1) := by decide +kernel
theorem dL_law_3690 : decode cL_law 3690 = .ok (.iadd, 1) := by decide +kernel
theorem dL_law_3691 : decode cL_law 3691 = .ok (.iaload, 1) := by decide +kernel
theorem dL_law_3692 : decode cL_law 3692 = .ok (.invokevirtual 346, 3) := by decide +kernel
theorem dL_law_3695 : decode cL_law 3695 = .ok (.istore 6, 2) := by decide +kernel
theorem dL_law_3697 : decode cL_law 3697 = .ok (.aload_n 2, 1) := by decide +kernel
theorem dL_law_3698 : decode cL_law 3698 = .ok (.invokevirtual 189, 3) := by decide +kernel
theorem dL_law_3701 : decode cL_law 3701 = .ok (.iload 5, 2) := by decide +kernel
theorem dL_law_3703 : decode cL_law 3703 = .ok (.if_icmp .eq 5, 3) := by decide +kernel
theorem dL_law_3706 : decode cL_law 3706 = .ok (.iconst 0, 1) := by decide +kernel
theorem dL_law_3707 : decode cL_law 3707 = .ok (.ireturn, 1) := by decide +kernel
theorem dL_law_3708 : decode cL_law 3708 = .ok (.iload 5, 2) := by decide +kernel
theorem dL_law_3710 : decode cL_law 3710 = .ok (.ifCond .ne 15, 3) := by decide +kernel
theorem dL_law_3713 : decode cL_law 3713 = .ok (.aload_n 3, 1) := by decide +kernel
theorem dL_law_3714 : decode cL_law 3714 = .ok (.iconst 0, 1) := by decide +kernel
theorem dL_law_3715 : decode cL_law 3715 = .ok (.laload, 1) := by decide +kernel
theorem dL_law_3716 : decode cL_law 3716 = .ok (.iload 6, 2) := by decide +kernel
theorem dL_law_3718 : decode cL_law 3718 = .ok (.i2l, 1) := by decide +kernel
theorem dL_law_3719 : decode cL_law 3719 = .ok (.lcmp, 1) := by decide +kernel
theorem dL_law_3720 : decode cL_law 3720 = .ok (.ifCond .eq 5, 3) := by decide +kernel
theorem dL_law_3723 : decode cL_law 3723 = .ok (.iconst 0, 1) := by decide +kernel
theorem dL_law_3724 : decode cL_law 3724 = .ok (.ireturn, 1) := by decide +kernel
theorem dL_law_3725 : decode cL_law 3725 = .ok (.goto 287, 3) := by decide +kernel
theorem dL_law_3728 : decode cL_law 3728 = .ok (.aload_n 1, 1) := by decide +kernel
theorem dL_law_3729 : decode cL_law 3729 = .ok (.aload_n 0, 1) := by decide +kernel
theorem dL_law_3730 : decode cL_law 3730 = .ok (.iload 4, 2) := by decide +kernel
theorem dL_law_3732 : decode cL_law 3732 = .ok (.iconst 1, 1) := by decide +kernel
theorem dL_law_3733 : decode cL_law 3733 = .ok (.iadd, 1) := by decide +kernel
theorem dL_law_3734 : decode cL_law 3734 = .ok (.iaload, 1) := by decide +kernel
theorem dL_law_3735 : decode cL_law 3735 = .ok (.aload_n 3, 1) := by decide +kernel
theorem dL_law_3736 : decode cL_law 3736 = .ok (.invokestatic 347, 3) := by decide +kernel
theorem dL_law_3739 : decode cL_law 3739 = .ok (.istore 5, 2) := by decide +kernel
theorem dL_law_3741 : decode cL_law 3741 = .ok (.aload_n 2, 1) := by decide +kernel
theorem dL_law_3742 : decode cL_law 3742 = .ok (.aload_n 0, 1) := by decide +kernel
theorem dL_law_3743 : decode cL_law 3743 = .ok (.iload 4, 2) := by decide +kernel
theorem dL_law_3745 : decode cL_law 3745 = .ok (.iconst 1, 1) := by decide +kernel
theorem dL_law_3746 : decode cL_law 3746 = .ok (.iadd, 1) := by decide +kernel
theorem dL_law_3747 : decode cL_law 3747 = .ok (.iaload, 1) := by decide +kernel
theorem dL_law_3748 : decode cL_law 3748 = .ok (.invokevirtual 349, 3) := by decide +kernel
theorem dL_law_3751 : decode cL_law 3751 = .ok (.istore 6, 2) := by decide +kernel
theorem dL_law_3753 : decode cL_law 3753 = .ok (.aload_n 2, 1) := by decide +kernel
theorem dL_law_3754 : decode cL_law 3754 = .ok (.invokevirtual 189, 3) := by decide +kernel
theorem dL_law_3757 : decode cL_law 3757 = .ok (.iload 5, 2) := by decide +kernel
theorem dL_law_3759 : decode cL_law 3759 = .ok (.if_icmp .eq 5, 3) := by decide +kernel
theorem dL_law_3762 : decode cL_law 3762 = .ok (.iconst 0, 1) := by decide +kernel
theorem dL_law_3763 : decode cL_law 3763 = .ok (.ireturn, 1) := by decide +kernel
theorem dL_law_3764 : decode cL_law 3764 = .ok (.iload 5, 2) := by decide +kernel
theorem dL_law_3766 : decode cL_law 3766 = .ok (.ifCond .ne 15, 3) := by decide +kernel
theorem dL_law_3769 : decode cL_law 3769 = .ok (.aload_n 3, 1) := by decide +kernel
theorem dL_law_3770 : decode cL_law 3770 = .ok (.iconst 0, 1) := by decide +kernel
theorem dL_law_3771 : decode cL_law 3771 = .ok (.laload, 1) := by decide +kernel
theorem dL_law_3772 : decode cL_law 3772 = .ok (.iload 6, 2) := by decide +kernel
theorem dL_law_3774 : decode cL_law 3774 = .ok (.i2l, 1) := by decide +kernel
theorem dL_law_3775 : decode cL_law 3775 = .ok (.lcmp, 1) := by decide +kernel
theorem dL_law_3776 : decode cL_law 3776 = .ok (.ifCond .eq 5, 3) := by decide +kernel
theorem dL_law_3779 : decode cL_law 3779 = .ok (.iconst 0, 1) := by decide +kernel
theorem dL_law_3780 : decode cL_law 3780 = .ok (.ireturn, 1) := by decide +kernel
theorem dL_law_3781 : decode cL_law 3781 = .ok (.goto 231, 3) := by decide +kernel
theorem dL_law_3784 : decode cL_law 3784 = .ok (.aload_n 1, 1) := by decide +kernel
theorem dL_law_3785 : decode cL_law 3785 = .ok (.aload_n 0, 1) := by decide +kernel
theorem dL_law_3786 : decode cL_law 3786 = .ok (.iload 4, 2) := by decide +kernel
theorem dL_law_3788 : decode cL_law 3788 = .ok (.iconst 1, 1) := by decide +kernel
theorem dL_law_3789 : decode cL_law 3789 = .ok (.iadd, 1) := by decide +kernel
theorem dL_law_3790 : decode cL_law 3790 = .ok (.iaload, 1) := by decide +kernel
theorem dL_law_3791 : decode cL_law 3791 = .ok (.aload_n 0, 1) := by decide +kernel
theorem dL_law_3792 : decode cL_law 3792 = .ok (.iload 4, 2) := by decide +kernel
theorem dL_law_3794 : decode cL_law 3794 = .ok (.iconst 2, 1) := by decide +kernel
theorem dL_law_3795 : decode cL_law 3795 = .ok (.iadd, 1) := by decide +kernel
theorem dL_law_3796 : decode cL_law 3796 = .ok (.iaload, 1) := by decide +kernel
theorem dL_law_3797 : decode cL_law 3797 = .ok (.aload_n 0, 1) := by decide +kernel
theorem dL_law_3798 : decode cL_law 3798 = .ok (.iload 4, 2) := by decide +kernel
theorem dL_law_3800 : decode cL_law 3800 = .ok (.iconst 3, 1) := by decide +kernel
theorem dL_law_3801 : decode cL_law 3801 = .ok (.iadd, 1) := by decide +kernel
theorem dL_law_3802 : decode cL_law 3802 = .ok (.iaload, 1) := by decide +kernel
theorem dL_law_3803 : decode cL_law 3803 = .ok (.ifCond .eq 7, 3) := by decide +kernel
theorem dL_law_3806 : decode cL_law 3806 = .ok (.iconst 1, 1) := by decide +kernel
theorem dL_law_3807 : decode cL_law 3807 = .ok (.goto 4, 3) := by decide +kernel
theorem dL_law_3810 : decode cL_law 3810 = .ok (.iconst 0, 1) := by decide +kernel
theorem dL_law_3811 : decode cL_law 3811 = .ok (.aload_n 3, 1) := by decide +kernel
theorem dL_law_3812 : decode cL_law 3812 = .ok (.invokestatic 350, 3) := by decide +kernel
theorem dL_law_3815 : decode cL_law 3815 = .ok (.istore 5, 2) := by decide +kernel
theorem dL_law_3817 : decode cL_law 3817 = .ok (.aload_n 2, 1) := by decide +kernel
theorem dL_law_3818 : decode cL_law 3818 = .ok (.aload_n 0, 1) := by decide +kernel
theorem dL_law_3819 : decode cL_law 3819 = .ok (.iload 4, 2) := by decide +kernel
theorem dL_law_3821 : decode cL_law 3821 = .ok (.iconst 1, 1) := by decide +kernel
theorem dL_law_3822 : decode cL_law 3822 = .ok (.iadd, 1) := by decide +kernel
theorem dL_law_3823 : decode cL_law 3823 = .ok (.iaload, 1) := by decide +kernel
theorem dL_law_3824 : decode cL_law 3824 = .ok (.aload_n 0, 1) := by decide +kernel
theorem dL_law_3825 : decode cL_law 3825 = .ok (.iload 4, 2) := by decide +kernel
theorem dL_law_3827 : decode cL_law 3827 = .ok (.iconst 2, 1) := by decide +kernel
theorem dL_law_3828 : decode cL_law 3828 = .ok (.iadd, 1) := by decide +kernel
theorem dL_law_3829 : decode cL_law 3829 = .ok (.iaload, 1) := by decide +kernel
theorem dL_law_3830 : decode cL_law 3830 = .ok (.aload_n 0, 1) := by decide +kernel
theorem dL_law_3831 : decode cL_law 3831 = .ok (.iload 4, 2) := by decide +kernel
theorem dL_law_3833 : decode cL_law 3833 = .ok (.iconst 3, 1) := by decide +kernel
theorem dL_law_3834 : decode cL_law 3834 = .ok (.iadd, 1) := by decide +kernel
theorem dL_law_3835 : decode cL_law 3835 = .ok (.iaload, 1) := by decide +kernel
theorem dL_law_3836 : decode cL_law 3836 = .ok (.ifCond .eq 7, 3) := by decide +kernel
theorem dL_law_3839 : decode cL_law 3839 = .ok (.iconst 1, 1) := by decide +kernel
theorem dL_law_3840 : decode cL_law 3840 = .ok (.goto 4, 3) := by decide +kernel
theorem dL_law_3843 : decode cL_law 3843 = .ok (.iconst 0, 1) := by decide +kernel
theorem dL_law_3844 : decode cL_law 3844 = .ok (.invokevirtual 352, 3) := by decide +kernel
theorem dL_law_3847 : decode cL_law 3847 = .ok (.istore 6, 2) := by decide +kernel
theorem dL_law_3849 : decode cL_law 3849 = .ok (.aload_n 2, 1) := by decide +kernel
theorem dL_law_3850 : decode cL_law 3850 = .ok (.invokevirtual 189, 3) := by decide +kernel
theorem dL_law_3853 : decode cL_law 3853 = .ok (.iload 5, 2) := by decide +kernel
theorem dL_law_3855 : decode cL_law 3855 = .ok (.if_icmp .eq 5, 3) := by decide +kernel
theorem dL_law_3858 : decode cL_law 3858 = .ok (.iconst 0, 1) := by decide +kernel
theorem dL_law_3859 : decode cL_law 3859 = .ok (.ireturn, 1) := by decide +kernel
theorem dL_law_3860 : decode cL_law 3860 = .ok (.iload 5, 2) := by decide +kernel
theorem dL_law_3862 : decode cL_law 3862 = .ok (.ifCond .ne 22, 3) := by decide +kernel
theorem dL_law_3865 : decode cL_law 3865 = .ok (.aload_n 3, 1) := by decide +kernel
theorem dL_law_3866 : decode cL_law 3866 = .ok (.iconst 0, 1) := by decide +kernel
theorem dL_law_3867 : decode cL_law 3867 = .ok (.laload, 1) := by decide +kernel
theorem dL_law_3868 : decode cL_law 3868 = .ok (.iload 6, 2) := by decide +kernel
theorem dL_law_3870 : decode cL_law 3870 = .ok (.ifCond .eq 7, 3) := by decide +kernel
theorem dL_law_3873 : decode cL_law 3873 = .ok (.lconst 1, 1) := by decide +kernel
theorem dL_law_3874 : decode cL_law 3874 = .ok (.goto 4, 3) := by decide +kernel
theorem dL_law_3877 : decode cL_law 3877 = .ok (.lconst 0, 1) := by decide +kernel
theorem dL_law_3878 : decode cL_law 3878 = .ok (.lcmp, 1) := by decide +kernel
theorem dL_law_3879 : decode cL_law 3879 = .ok (.ifCond .eq 5, 3) := by decide +kernel
theorem dL_law_3882 : decode cL_law 3882 = .ok (.iconst 0, 1) := by decide +kernel
theorem dL_law_3883 : decode cL_law 3883 = .ok (.ireturn, 1) := by decide +kernel
theorem dL_law_3884 : decode cL_law 3884 = .ok (.goto 128, 3) := by decide +kernel
theorem dL_law_3887 : decode cL_law 3887 = .ok (.aload_n 1, 1) := by decide +kernel
theorem dL_law_3888 : decode cL_law 3888 = .ok (.aload_n 0, 1) := by decide +kernel
theorem dL_law_3889 : decode cL_law 3889 = .ok (.iload 4, 2) := by decide +kernel
theorem dL_law_3891 : decode cL_law 3891 = .ok (.iconst 1, 1) := by decide +kernel
theorem dL_law_3892 : decode cL_law 3892 = .ok (.iadd, 1) := by decide +kernel
theorem dL_law_3893 : decode cL_law 3893 = .ok (.iaload, 1) := by decide +kernel
theorem dL_law_3894 : decode cL_law 3894 = .ok (.aload_n 3, 1) := by decide +kernel
theorem dL_law_3895 : decode cL_law 3895 = .ok (.invokestatic 353, 3) := by decide +kernel
theorem dL_law_3898 : decode cL_law 3898 = .ok (.istore 5, 2) := by decide +kernel
theorem dL_law_3900 : decode cL_law 3900 = .ok (.aload_n 2, 1) := by decide +kernel
theorem dL_law_3901 : decode cL_law 3901 = .ok (.aload_n 0, 1) := by decide +kernel
theorem dL_law_3902 : decode cL_law 3902 = .ok (.iload 4, 2) := by decide +kernel
theorem dL_law_3904 : decode cL_law 3904 = .ok (.iconst 1, 1) := by decide +kernel
theorem dL_law_3905 : decode cL_law 3905 = .ok (.iadd, 1) := by decide +kernel
theorem dL_law_3906 : decode cL_law 3906 = .ok (.iaload, 1) := by decide +kernel
theorem dL_law_3907 : decode cL_law 3907 = .ok (.invokevirtual 355, 3) := by decide +kernel
theorem dL_law_3910 : decode cL_law 3910 = .ok (.istore 6, 2) := by decide +kernel
theorem dL_law_3912 : decode cL_law 3912 = .ok (.aload_n 2, 1) := by decide +kernel
theorem dL_law_3913 : decode cL_law 3913 = .ok (.invokevirtual 189, 3) := by decide +kernel
theorem dL_law_3916 : decode cL_law 3916 = .ok (.iload 5, 2) := by decide +kernel
theorem dL_law_3918 : decode cL_law 3918 = .ok (.if_icmp .eq 5, 3) := by decide +kernel
theorem dL_law_3921 : decode cL_law 3921 = .ok (.iconst 0, 1) := by decide +kernel
theorem dL_law_3922 : decode cL_law 3922 = .ok (.ireturn, 1) := by decide +kernel
theorem dL_law_3923 : decode cL_law 3923 = .ok (.iload 5, 2) := by decide +kernel
theorem dL_law_3925 : decode cL_law 3925 = .ok (.ifCond .ne 15, 3) := by decide +kernel
theorem dL_law_3928 : decode cL_law 3928 = .ok (.aload_n 3, 1) := by decide +kernel
theorem dL_law_3929 : decode cL_law 3929 = .ok (.iconst 0, 1) := by decide +kernel
theorem dL_law_3930 : decode cL_law 3930 = .ok (.laload, 1) := by decide +kernel
theorem dL_law_3931 : decode cL_law 3931 = .ok (.iload 6, 2) := by decide +kernel
theorem dL_law_3933 : decode cL_law 3933 = .ok (.i2l, 1) := by decide +kernel
theorem dL_law_3934 : decode cL_law 3934 = .ok (.lcmp, 1) := by decide +kernel
theorem dL_law_3935 : decode cL_law 3935 = .ok (.ifCond .eq 5, 3) := by decide +kernel
theorem dL_law_3938 : decode cL_law 3938 = .ok (.iconst 0, 1) := by decide +kernel
theorem dL_law_3939 : decode cL_law 3939 = .ok (.ireturn, 1) := by decide +kernel
theorem dL_law_3940 : decode cL_law 3940 = .ok (.goto 72, 3) := by decide +kernel
theorem dL_law_3943 : decode cL_law 3943 = .ok (.aload_n 1, 1) := by decide +kernel
theorem dL_law_3944 : decode cL_law 3944 = .ok (.aload_n 0, 1) := by decide +kernel
theorem dL_law_3945 : decode cL_law 3945 = .ok (.iload 4, 2) := by decide +kernel
theorem dL_law_3947 : decode cL_law 3947 = .ok (.iconst 1, 1) := by decide +kernel
theorem dL_law_3948 : decode cL_law 3948 = .ok (.iadd, 1) := by decide +kernel
theorem dL_law_3949 : decode cL_law 3949 = .ok (.iaload, 1) := by decide +kernel
theorem dL_law_3950 : decode cL_law 3950 = .ok (.aload_n 3, 1) := by decide +kernel
theorem dL_law_3951 : decode cL_law 3951 = .ok (.invokestatic 356, 3) := by decide +kernel
theorem dL_law_3954 : decode cL_law 3954 = .ok (.istore 5, 2) := by decide +kernel
theorem dL_law_3956 : decode cL_law 3956 = .ok (.aload_n 2, 1) := by decide +kernel
theorem dL_law_3957 : decode cL_law 3957 = .ok (.aload_n 0, 1) := by decide +kernel
theorem dL_law_3958 : decode cL_law 3958 = .ok (.iload 4, 2) := by decide +kernel
theorem dL_law_3960 : decode cL_law 3960 = .ok (.iconst 1, 1) := by decide +kernel
theorem dL_law_3961 : decode cL_law 3961 = .ok (.iadd, 1) := by decide +kernel
theorem dL_law_3962 : decode cL_law 3962 = .ok (.iaload, 1) := by decide +kernel
theorem dL_law_3963 : decode cL_law 3963 = .ok (.invokevirtual 358, 3) := by decide +kernel
theorem dL_law_3966 : decode cL_law 3966 = .ok (.istore 6, 2) := by decide +kernel
theorem dL_law_3968 : decode cL_law 3968 = .ok (.aload_n 2, 1) := by decide +kernel
theorem dL_law_3969 : decode cL_law 3969 = .ok (.invokevirtual 189, 3) := by decide +kernel
theorem dL_law_3972 : decode cL_law 3972 = .ok (.iload 5, 2) := by decide +kernel
theorem dL_law_3974 : decode cL_law 3974 = .ok (.if_icmp .eq 5, 3) := by decide +kernel
theorem dL_law_3977 : decode cL_law 3977 = .ok (.iconst 0, 1) := by decide +kernel
theorem dL_law_3978 : decode cL_law 3978 = .ok (.ireturn, 1) := by decide +kernel
theorem dL_law_3979 : decode cL_law 3979 = .ok (.iload 5, 2) := by decide +kernel
theorem dL_law_3981 : decode cL_law 3981 = .ok (.ifCond .ne 15, 3) := by decide +kernel
theorem dL_law_3984 : decode cL_law 3984 = .ok (.aload_n 3, 1) := by decide +kernel
theorem dL_law_3985 : decode cL_law 3985 = .ok (.iconst 0, 1) := by decide +kernel
theorem dL_law_3986 : decode cL_law 3986 = .ok (.laload, 1) := by decide +kernel
theorem dL_law_3987 : decode cL_law 3987 = .ok (.iload 6, 2) := by decide +kernel
theorem dL_law_3989 : decode cL_law 3989 = .ok (.i2l, 1) := by decide +kernel
theorem dL_law_3990 : decode cL_law 3990 = .ok (.lcmp, 1) := by decide +kernel
theorem dL_law_3991 : decode cL_law 3991 = .ok (.ifCond .eq 5, 3) := by decide +kernel
theorem dL_law_3994 : decode cL_law 3994 = .ok (.iconst 0, 1) := by decide +kernel
theorem dL_law_3995 : decode cL_law 3995 = .ok (.ireturn, 1) := by decide +kernel
theorem dL_law_3996 : decode cL_law 3996 = .ok (.goto 16, 3) := by decide +kernel
theorem dL_law_3999 : decode cL_law 3999 = .ok (.aload_n 1, 1) := by decide +kernel
theorem dL_law_4000 : decode cL_law 4000 = .ok (.invokevirtual 359, 3) := by decide +kernel
theorem dL_law_4003 : decode cL_law 4003 = .ok (.aload_n 2, 1) := by decide +kernel
theorem dL_law_4004 : decode cL_law 4004 = .ok (.invokevirtual 362, 3) := by decide +kernel
theorem dL_law_4007 : decode cL_law 4007 = .ok (.if_icmp .eq 5, 3) := by decide +kernel
theorem dL_law_4010 : decode cL_law 4010 = .ok (.iconst 0, 1) := by decide +kernel
theorem dL_law_4011 : decode cL_law 4011 = .ok (.ireturn, 1) := by decide +kernel
theorem dL_law_4012 : decode cL_law 4012 = .ok (.iinc 4 8, 3) := by decide +kernel
theorem dL_law_4015 : decode cL_law 4015 = .ok (.goto (-3992), 3) := by decide +kernel
theorem dL_law_4018 : decode cL_law 4018 = .ok (.iconst 1, 1) := by decide +kernel
theorem dL_law_4019 : decode cL_law 4019 = .ok (.ireturn, 1) := by decide +kernel
