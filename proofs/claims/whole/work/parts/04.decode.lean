theorem dL_setChannels_0 : decode cL_setChannels 0 = .ok (.aload_n 2, 1) := by decide +kernel
theorem dL_setChannels_1 : decode cL_setChannels 1 = .ok (.iconst 0, 1) := by decide +kernel
theorem dL_setChannels_2 : decode cL_setChannels 2 = .ok (.aload_n 0, 1) := by decide +kernel
theorem dL_setChannels_3 : decode cL_setChannels 3 = .ok (.iload_n 1, 1) := by decide +kernel
theorem dL_setChannels_4 : decode cL_setChannels 4 = .ok (.invokevirtual 7, 3) := by decide +kernel
theorem dL_setChannels_7 : decode cL_setChannels 7 = .ok (.i2l, 1) := by decide +kernel
theorem dL_setChannels_8 : decode cL_setChannels 8 = .ok (.lastore, 1) := by decide +kernel
theorem dL_setChannels_9 : decode cL_setChannels 9 = .ok (.goto 6, 3) := by decide +kernel
theorem dL_setChannels_12 : decode cL_setChannels 12 = .ok (.astore_n 3, 1) := by decide +kernel
theorem dL_setChannels_13 : decode cL_setChannels 13 = .ok (.iconst 1, 1) := by decide +kernel
theorem dL_setChannels_14 : decode cL_setChannels 14 = .ok (.ireturn, 1) := by decide +kernel
theorem dL_setChannels_15 : decode cL_setChannels 15 = .ok (.iconst 0, 1) := by decide +kernel
theorem dL_setChannels_16 : decode cL_setChannels 16 = .ok (.ireturn, 1) := by decide +kernel
theorem dL_setPending_0 : decode cL_setPending 0 = .ok (.aload_n 3, 1) := by decide +kernel
theorem dL_setPending_1 : decode cL_setPending 1 = .ok (.iconst 0, 1) := by decide +kernel
theorem dL_setPending_2 : decode cL_setPending 2 = .ok (.aload_n 0, 1) := by decide +kernel
theorem dL_setPending_3 : decode cL_setPending 3 = .ok (.iload_n 1, 1) := by decide +kernel
theorem dL_setPending_4 : decode cL_setPending 4 = .ok (.iload_n 2, 1) := by decide +kernel
theorem dL_setPending_5 : decode cL_setPending 5 = .ok (.invokevirtual 15, 3) := by decide +kernel
theorem dL_setPending_8 : decode cL_setPending 8 = .ok (.i2l, 1) := by decide +kernel
theorem dL_setPending_9 : decode cL_setPending 9 = .ok (.lastore, 1) := by decide +kernel
theorem dL_setPending_10 : decode cL_setPending 10 = .ok (.goto 11, 3) := by decide +kernel
theorem dL_setPending_13 : decode cL_setPending 13 = .ok (.astore 4, 2) := by decide +kernel
theorem dL_setPending_15 : decode cL_setPending 15 = .ok (.iconst 1, 1) := by decide +kernel
theorem dL_setPending_16 : decode cL_setPending 16 = .ok (.ireturn, 1) := by decide +kernel
theorem dL_setPending_17 : decode cL_setPending 17 = .ok (.astore 4, 2) := by decide +kernel
theorem dL_setPending_19 : decode cL_setPending 19 = .ok (.iconst 2, 1) := by decide +kernel
theorem dL_setPending_20 : decode cL_setPending 20 = .ok (.ireturn, 1) := by decide +kernel
theorem dL_setPending_21 : decode cL_setPending 21 = .ok (.iconst 0, 1) := by decide +kernel
theorem dL_setPending_22 : decode cL_setPending 22 = .ok (.ireturn, 1) := by decide +kernel
theorem dL_append_0 : decode cL_append 0 = .ok (.aload_n 2, 1) := by decide +kernel
theorem dL_append_1 : decode cL_append 1 = .ok (.iconst 0, 1) := by decide +kernel
theorem dL_append_2 : decode cL_append 2 = .ok (.aload_n 0, 1) := by decide +kernel
theorem dL_append_3 : decode cL_append 3 = .ok (.iload_n 1, 1) := by decide +kernel
theorem dL_append_4 : decode cL_append 4 = .ok (.invokevirtual 21, 3) := by decide +kernel
theorem dL_append_7 : decode cL_append 7 = .ok (.i2l, 1) := by decide +kernel
theorem dL_append_8 : decode cL_append 8 = .ok (.lastore, 1) := by decide +kernel
theorem dL_append_9 : decode cL_append 9 = .ok (.goto 9, 3) := by decide +kernel
theorem dL_append_12 : decode cL_append 12 = .ok (.astore_n 3, 1) := by decide +kernel
theorem dL_append_13 : decode cL_append 13 = .ok (.iconst 1, 1) := by decide +kernel
theorem dL_append_14 : decode cL_append 14 = .ok (.ireturn, 1) := by decide +kernel
theorem dL_append_15 : decode cL_append 15 = .ok (.astore_n 3, 1) := by decide +kernel
theorem dL_append_16 : decode cL_append 16 = .ok (.iconst 2, 1) := by decide +kernel
theorem dL_append_17 : decode cL_append 17 = .ok (.ireturn, 1) := by decide +kernel
theorem dL_append_18 : decode cL_append 18 = .ok (.iconst 0, 1) := by decide +kernel
theorem dL_append_19 : decode cL_append 19 = .ok (.ireturn, 1) := by decide +kernel
theorem dL_load_0 : decode cL_load 0 = .ok (.aload_n 1, 1) := by decide +kernel
theorem dL_load_1 : decode cL_load 1 = .ok (.iconst 0, 1) := by decide +kernel
theorem dL_load_2 : decode cL_load 2 = .ok (.aload_n 0, 1) := by decide +kernel
theorem dL_load_3 : decode cL_load 3 = .ok (.invokevirtual 26, 3) := by decide +kernel
theorem dL_load_6 : decode cL_load 6 = .ok (.i2l, 1) := by decide +kernel
theorem dL_load_7 : decode cL_load 7 = .ok (.lastore, 1) := by decide +kernel
theorem dL_load_8 : decode cL_load 8 = .ok (.goto 6, 3) := by decide +kernel
theorem dL_load_11 : decode cL_load 11 = .ok (.astore_n 2, 1) := by decide +kernel
theorem dL_load_12 : decode cL_load 12 = .ok (.iconst 1, 1) := by decide +kernel
theorem dL_load_13 : decode cL_load 13 = .ok (.ireturn, 1) := by decide +kernel
theorem dL_load_14 : decode cL_load 14 = .ok (.iconst 0, 1) := by decide +kernel
theorem dL_load_15 : decode cL_load 15 = .ok (.ireturn, 1) := by decide +kernel
theorem dL_inject_0 : decode cL_inject 0 = .ok (.aload 4, 2) := by decide +kernel
theorem dL_inject_2 : decode cL_inject 2 = .ok (.iconst 0, 1) := by decide +kernel
theorem dL_inject_3 : decode cL_inject 3 = .ok (.aload_n 0, 1) := by decide +kernel
theorem dL_inject_4 : decode cL_inject 4 = .ok (.iload_n 1, 1) := by decide +kernel
theorem dL_inject_5 : decode cL_inject 5 = .ok (.iload_n 2, 1) := by decide +kernel
theorem dL_inject_6 : decode cL_inject 6 = .ok (.iload_n 3, 1) := by decide +kernel
theorem dL_inject_7 : decode cL_inject 7 = .ok (.invokevirtual 30, 3) := by decide +kernel
theorem dL_inject_10 : decode cL_inject 10 = .ok (.i2l, 1) := by decide +kernel
theorem dL_inject_11 : decode cL_inject 11 = .ok (.lastore, 1) := by decide +kernel
theorem dL_inject_12 : decode cL_inject 12 = .ok (.goto 11, 3) := by decide +kernel
theorem dL_inject_15 : decode cL_inject 15 = .ok (.astore 5, 2) := by decide +kernel
theorem dL_inject_17 : decode cL_inject 17 = .ok (.iconst 1, 1) := by decide +kernel
theorem dL_inject_18 : decode cL_inject 18 = .ok (.ireturn, 1) := by decide +kernel
theorem dL_inject_19 : decode cL_inject 19 = .ok (.astore 5, 2) := by decide +kernel
theorem dL_inject_21 : decode cL_inject 21 = .ok (.iconst 2, 1) := by decide +kernel
theorem dL_inject_22 : decode cL_inject 22 = .ok (.ireturn, 1) := by decide +kernel
theorem dL_inject_23 : decode cL_inject 23 = .ok (.iconst 0, 1) := by decide +kernel
theorem dL_inject_24 : decode cL_inject 24 = .ok (.ireturn, 1) := by decide +kernel
theorem dL_power_0 : decode cL_power 0 = .ok (.aload_n 3, 1) := by decide +kernel
theorem dL_power_1 : decode cL_power 1 = .ok (.iconst 0, 1) := by decide +kernel
theorem dL_power_2 : decode cL_power 2 = .ok (.aload_n 0, 1) := by decide +kernel
theorem dL_power_3 : decode cL_power 3 = .ok (.iload_n 1, 1) := by decide +kernel
theorem dL_power_4 : decode cL_power 4 = .ok (.iload_n 2, 1) := by decide +kernel
theorem dL_power_5 : decode cL_power 5 = .ok (.invokevirtual 34, 3) := by decide +kernel
theorem dL_power_8 : decode cL_power 8 = .ok (.i2l, 1) := by decide +kernel
theorem dL_power_9 : decode cL_power 9 = .ok (.lastore, 1) := by decide +kernel
theorem dL_power_10 : decode cL_power 10 = .ok (.goto 7, 3) := by decide +kernel
theorem dL_power_13 : decode cL_power 13 = .ok (.astore 4, 2) := by decide +kernel
theorem dL_power_15 : decode cL_power 15 = .ok (.iconst 1, 1) := by decide +kernel
theorem dL_power_16 : decode cL_power 16 = .ok (.ireturn, 1) := by decide +kernel
theorem dL_power_17 : decode cL_power 17 = .ok (.iconst 0, 1) := by decide +kernel
theorem dL_power_18 : decode cL_power 18 = .ok (.ireturn, 1) := by decide +kernel
theorem dL_count_0 : decode cL_count 0 = .ok (.aload_n 2, 1) := by decide +kernel
theorem dL_count_1 : decode cL_count 1 = .ok (.iconst 0, 1) := by decide +kernel
theorem dL_count_2 : decode cL_count 2 = .ok (.aload_n 0, 1) := by decide +kernel
theorem dL_count_3 : decode cL_count 3 = .ok (.iload_n 1, 1) := by decide +kernel
theorem dL_count_4 : decode cL_count 4 = .ok (.invokevirtual 37, 3) := by decide +kernel
theorem dL_count_7 : decode cL_count 7 = .ok (.i2l, 1) := by decide +kernel
theorem dL_count_8 : decode cL_count 8 = .ok (.lastore, 1) := by decide +kernel
theorem dL_count_9 : decode cL_count 9 = .ok (.goto 6, 3) := by decide +kernel
theorem dL_count_12 : decode cL_count 12 = .ok (.astore_n 3, 1) := by decide +kernel
theorem dL_count_13 : decode cL_count 13 = .ok (.iconst 1, 1) := by decide +kernel
theorem dL_count_14 : decode cL_count 14 = .ok (.ireturn, 1) := by decide +kernel
theorem dL_count_15 : decode cL_count 15 = .ok (.iconst 0, 1) := by decide +kernel
theorem dL_count_16 : decode cL_count 16 = .ok (.ireturn, 1) := by decide +kernel
theorem dL_setMasked_0 : decode cL_setMasked 0 = .ok (.aload_n 3, 1) := by decide +kernel
theorem dL_setMasked_1 : decode cL_setMasked 1 = .ok (.iconst 0, 1) := by decide +kernel
theorem dL_setMasked_2 : decode cL_setMasked 2 = .ok (.aload_n 0, 1) := by decide +kernel
theorem dL_setMasked_3 : decode cL_setMasked 3 = .ok (.iload_n 1, 1) := by decide +kernel
theorem dL_setMasked_4 : decode cL_setMasked 4 = .ok (.iload_n 2, 1) := by decide +kernel
theorem dL_setMasked_5 : decode cL_setMasked 5 = .ok (.invokevirtual 40, 3) := by decide +kernel
theorem dL_setMasked_8 : decode cL_setMasked 8 = .ok (.ifCond .eq 7, 3) := by decide +kernel
theorem dL_setMasked_11 : decode cL_setMasked 11 = .ok (.lconst 1, 1) := by decide +kernel
theorem dL_setMasked_12 : decode cL_setMasked 12 = .ok (.goto 4, 3) := by decide +kernel
theorem dL_setMasked_15 : decode cL_setMasked 15 = .ok (.lconst 0, 1) := by decide +kernel
theorem dL_setMasked_16 : decode cL_setMasked 16 = .ok (.lastore, 1) := by decide +kernel
theorem dL_setMasked_17 : decode cL_setMasked 17 = .ok (.goto 7, 3) := by decide +kernel
theorem dL_setMasked_20 : decode cL_setMasked 20 = .ok (.astore 4, 2) := by decide +kernel
theorem dL_setMasked_22 : decode cL_setMasked 22 = .ok (.iconst 1, 1) := by decide +kernel
theorem dL_setMasked_23 : decode cL_setMasked 23 = .ok (.ireturn, 1) := by decide +kernel
theorem dL_setMasked_24 : decode cL_setMasked 24 = .ok (.iconst 0, 1) := by decide +kernel
theorem dL_setMasked_25 : decode cL_setMasked 25 = .ok (.ireturn, 1) := by decide +kernel
theorem dL_channelSum_0 : decode cL_channelSum 0 = .ok (.aload_n 2, 1) := by decide +kernel
theorem dL_channelSum_1 : decode cL_channelSum 1 = .ok (.iconst 0, 1) := by decide +kernel
theorem dL_channelSum_2 : decode cL_channelSum 2 = .ok (.aload_n 0, 1) := by decide +kernel
theorem dL_channelSum_3 : decode cL_channelSum 3 = .ok (.iload_n 1, 1) := by decide +kernel
theorem dL_channelSum_4 : decode cL_channelSum 4 = .ok (.invokevirtual 44, 3) := by decide +kernel
theorem dL_channelSum_7 : decode cL_channelSum 7 = .ok (.i2l, 1) := by decide +kernel
theorem dL_channelSum_8 : decode cL_channelSum 8 = .ok (.lastore, 1) := by decide +kernel
theorem dL_channelSum_9 : decode cL_channelSum 9 = .ok (.goto 6, 3) := by decide +kernel
theorem dL_channelSum_12 : decode cL_channelSum 12 = .ok (.astore_n 3, 1) := by decide +kernel
theorem dL_channelSum_13 : decode cL_channelSum 13 = .ok (.iconst 1, 1) := by decide +kernel
theorem dL_channelSum_14 : decode cL_channelSum 14 = .ok (.ireturn, 1) := by decide +kernel
theorem dL_channelSum_15 : decode cL_channelSum 15 = .ok (.iconst 0, 1) := by decide +kernel
theorem dL_channelSum_16 : decode cL_channelSum 16 = .ok (.ireturn, 1) := by decide +kernel
theorem dL_strike_0 : decode cL_strike 0 = .ok (.aload_n 2, 1) := by decide +kernel
theorem dL_strike_1 : decode cL_strike 1 = .ok (.iconst 0, 1) := by decide +kernel
theorem dL_strike_2 : decode cL_strike 2 = .ok (.aload_n 0, 1) := by decide +kernel
theorem dL_strike_3 : decode cL_strike 3 = .ok (.iload_n 1, 1) := by decide +kernel
theorem dL_strike_4 : decode cL_strike 4 = .ok (.invokevirtual 47, 3) := by decide +kernel
theorem dL_strike_7 : decode cL_strike 7 = .ok (.i2l, 1) := by decide +kernel
theorem dL_strike_8 : decode cL_strike 8 = .ok (.lastore, 1) := by decide +kernel
theorem dL_strike_9 : decode cL_strike 9 = .ok (.goto 6, 3) := by decide +kernel
theorem dL_strike_12 : decode cL_strike 12 = .ok (.astore_n 3, 1) := by decide +kernel
theorem dL_strike_13 : decode cL_strike 13 = .ok (.iconst 1, 1) := by decide +kernel
theorem dL_strike_14 : decode cL_strike 14 = .ok (.ireturn, 1) := by decide +kernel
theorem dL_strike_15 : decode cL_strike 15 = .ok (.iconst 0, 1) := by decide +kernel
theorem dL_strike_16 : decode cL_strike 16 = .ok (.ireturn, 1) := by decide +kernel
theorem dL_offset_0 : decode cL_offset 0 = .ok (.aload 4, 2) := by decide +kernel
theorem dL_offset_2 : decode cL_offset 2 = .ok (.iconst 0, 1) := by decide +kernel
theorem dL_offset_3 : decode cL_offset 3 = .ok (.aload_n 0, 1) := by decide +kernel
theorem dL_offset_4 : decode cL_offset 4 = .ok (.iload_n 1, 1) := by decide +kernel
theorem dL_offset_5 : decode cL_offset 5 = .ok (.iload_n 2, 1) := by decide +kernel
theorem dL_offset_6 : decode cL_offset 6 = .ok (.iload_n 3, 1) := by decide +kernel
theorem dL_offset_7 : decode cL_offset 7 = .ok (.invokevirtual 50, 3) := by decide +kernel
theorem dL_offset_10 : decode cL_offset 10 = .ok (.i2l, 1) := by decide +kernel
theorem dL_offset_11 : decode cL_offset 11 = .ok (.lastore, 1) := by decide +kernel
theorem dL_offset_12 : decode cL_offset 12 = .ok (.goto 7, 3) := by decide +kernel
theorem dL_offset_15 : decode cL_offset 15 = .ok (.astore 5, 2) := by decide +kernel
theorem dL_offset_17 : decode cL_offset 17 = .ok (.iconst 1, 1) := by decide +kernel
theorem dL_offset_18 : decode cL_offset 18 = .ok (.ireturn, 1) := by decide +kernel
theorem dL_offset_19 : decode cL_offset 19 = .ok (.iconst 0, 1) := by decide +kernel
theorem dL_offset_20 : decode cL_offset 20 = .ok (.ireturn, 1) := by decide +kernel
theorem dL_bend_0 : decode cL_bend 0 = .ok (.aload_n 2, 1) := by decide +kernel
theorem dL_bend_1 : decode cL_bend 1 = .ok (.iconst 0, 1) := by decide +kernel
theorem dL_bend_2 : decode cL_bend 2 = .ok (.aload_n 0, 1) := by decide +kernel
theorem dL_bend_3 : decode cL_bend 3 = .ok (.iload_n 1, 1) := by decide +kernel
theorem dL_bend_4 : decode cL_bend 4 = .ok (.invokevirtual 54, 3) := by decide +kernel
theorem dL_bend_7 : decode cL_bend 7 = .ok (.i2l, 1) := by decide +kernel
theorem dL_bend_8 : decode cL_bend 8 = .ok (.lastore, 1) := by decide +kernel
theorem dL_bend_9 : decode cL_bend 9 = .ok (.goto 6, 3) := by decide +kernel
theorem dL_bend_12 : decode cL_bend 12 = .ok (.astore_n 3, 1) := by decide +kernel
theorem dL_bend_13 : decode cL_bend 13 = .ok (.iconst 1, 1) := by decide +kernel
theorem dL_bend_14 : decode cL_bend 14 = .ok (.ireturn, 1) := by decide +kernel
theorem dL_bend_15 : decode cL_bend 15 = .ok (.iconst 0, 1) := by decide +kernel
theorem dL_bend_16 : decode cL_bend 16 = .ok (.ireturn, 1) := by decide +kernel
theorem dL_lineSum_0 : decode cL_lineSum 0 = .ok (.aload 4, 2) := by decide +kernel
theorem dL_lineSum_2 : decode cL_lineSum 2 = .ok (.iconst 0, 1) := by decide +kernel
theorem dL_lineSum_3 : decode cL_lineSum 3 = .ok (.aload_n 0, 1) := by decide +kernel
theorem dL_lineSum_4 : decode cL_lineSum 4 = .ok (.iload_n 1, 1) := by decide +kernel
theorem dL_lineSum_5 : decode cL_lineSum 5 = .ok (.iload_n 2, 1) := by decide +kernel
theorem dL_lineSum_6 : decode cL_lineSum 6 = .ok (.iload_n 3, 1) := by decide +kernel
theorem dL_lineSum_7 : decode cL_lineSum 7 = .ok (.invokevirtual 57, 3) := by decide +kernel
theorem dL_lineSum_10 : decode cL_lineSum 10 = .ok (.i2l, 1) := by decide +kernel
theorem dL_lineSum_11 : decode cL_lineSum 11 = .ok (.lastore, 1) := by decide +kernel
theorem dL_lineSum_12 : decode cL_lineSum 12 = .ok (.goto 7, 3) := by decide +kernel
theorem dL_lineSum_15 : decode cL_lineSum 15 = .ok (.astore 5, 2) := by decide +kernel
theorem dL_lineSum_17 : decode cL_lineSum 17 = .ok (.iconst 1, 1) := by decide +kernel
theorem dL_lineSum_18 : decode cL_lineSum 18 = .ok (.ireturn, 1) := by decide +kernel
theorem dL_lineSum_19 : decode cL_lineSum 19 = .ok (.iconst 0, 1) := by decide +kernel
theorem dL_lineSum_20 : decode cL_lineSum 20 = .ok (.ireturn, 1) := by decide +kernel
theorem dL_mean_0 : decode cL_mean 0 = .ok (.aload_n 2, 1) := by decide +kernel
theorem dL_mean_1 : decode cL_mean 1 = .ok (.iconst 0, 1) := by decide +kernel
theorem dL_mean_2 : decode cL_mean 2 = .ok (.aload_n 0, 1) := by decide +kernel
theorem dL_mean_3 : decode cL_mean 3 = .ok (.iload_n 1, 1) := by decide +kernel
theorem dL_mean_4 : decode cL_mean 4 = .ok (.invokevirtual 60, 3) := by decide +kernel
theorem dL_mean_7 : decode cL_mean 7 = .ok (.dastore, 1) := by decide +kernel
theorem dL_mean_8 : decode cL_mean 8 = .ok (.goto 6, 3) := by decide +kernel
theorem dL_mean_11 : decode cL_mean 11 = .ok (.astore_n 3, 1) := by decide +kernel
theorem dL_mean_12 : decode cL_mean 12 = .ok (.iconst 1, 1) := by decide +kernel
theorem dL_mean_13 : decode cL_mean 13 = .ok (.ireturn, 1) := by decide +kernel
theorem dL_mean_14 : decode cL_mean 14 = .ok (.iconst 0, 1) := by decide +kernel
theorem dL_mean_15 : decode cL_mean 15 = .ok (.ireturn, 1) := by decide +kernel
theorem dL_boxSum_0 : decode cL_boxSum 0 = .ok (.aload 4, 2) := by decide +kernel
theorem dL_boxSum_2 : decode cL_boxSum 2 = .ok (.iconst 0, 1) := by decide +kernel
theorem dL_boxSum_3 : decode cL_boxSum 3 = .ok (.aload_n 0, 1) := by decide +kernel
theorem dL_boxSum_4 : decode cL_boxSum 4 = .ok (.iload_n 1, 1) := by decide +kernel
theorem dL_boxSum_5 : decode cL_boxSum 5 = .ok (.iload_n 2, 1) := by decide +kernel
theorem dL_boxSum_6 : decode cL_boxSum 6 = .ok (.iload_n 3, 1) := by decide +kernel
theorem dL_boxSum_7 : decode cL_boxSum 7 = .ok (.invokevirtual 64, 3) := by decide +kernel
theorem dL_boxSum_10 : decode cL_boxSum 10 = .ok (.i2l, 1) := by decide +kernel
theorem dL_boxSum_11 : decode cL_boxSum 11 = .ok (.lastore, 1) := by decide +kernel
theorem dL_boxSum_12 : decode cL_boxSum 12 = .ok (.goto 11, 3) := by decide +kernel
theorem dL_boxSum_15 : decode cL_boxSum 15 = .ok (.astore 5, 2) := by decide +kernel
theorem dL_boxSum_17 : decode cL_boxSum 17 = .ok (.iconst 1, 1) := by decide +kernel
theorem dL_boxSum_18 : decode cL_boxSum 18 = .ok (.ireturn, 1) := by decide +kernel
theorem dL_boxSum_19 : decode cL_boxSum 19 = .ok (.astore 5, 2) := by decide +kernel
theorem dL_boxSum_21 : decode cL_boxSum 21 = .ok (.iconst 2, 1) := by decide +kernel
theorem dL_boxSum_22 : decode cL_boxSum 22 = .ok (.ireturn, 1) := by decide +kernel
theorem dL_boxSum_23 : decode cL_boxSum 23 = .ok (.iconst 0, 1) := by decide +kernel
theorem dL_boxSum_24 : decode cL_boxSum 24 = .ok (.ireturn, 1) := by decide +kernel
theorem dL_score_0 : decode cL_score 0 = .ok (.aload 4, 2) := by decide +kernel
theorem dL_score_2 : decode cL_score 2 = .ok (.iconst 0, 1) := by decide +kernel
theorem dL_score_3 : decode cL_score 3 = .ok (.aload_n 0, 1) := by decide +kernel
theorem dL_score_4 : decode cL_score 4 = .ok (.iload_n 1, 1) := by decide +kernel
theorem dL_score_5 : decode cL_score 5 = .ok (.iload_n 2, 1) := by decide +kernel
theorem dL_score_6 : decode cL_score 6 = .ok (.iload_n 3, 1) := by decide +kernel
theorem dL_score_7 : decode cL_score 7 = .ok (.invokevirtual 67, 3) := by decide +kernel
theorem dL_score_10 : decode cL_score 10 = .ok (.lastore, 1) := by decide +kernel
theorem dL_score_11 : decode cL_score 11 = .ok (.goto 11, 3) := by decide +kernel
theorem dL_score_14 : decode cL_score 14 = .ok (.astore 5, 2) := by decide +kernel
theorem dL_score_16 : decode cL_score 16 = .ok (.iconst 1, 1) := by decide +kernel
theorem dL_score_17 : decode cL_score 17 = .ok (.ireturn, 1) := by decide +kernel
theorem dL_score_18 : decode cL_score 18 = .ok (.astore 5, 2) := by decide +kernel
theorem dL_score_20 : decode cL_score 20 = .ok (.iconst 2, 1) := by decide +kernel
theorem dL_score_21 : decode cL_score 21 = .ok (.ireturn, 1) := by decide +kernel
theorem dL_score_22 : decode cL_score 22 = .ok (.iconst 0, 1) := by decide +kernel
theorem dL_score_23 : decode cL_score 23 = .ok (.ireturn, 1) := by decide +kernel
theorem dL_find_0 : decode cL_find 0 = .ok (.aload 4, 2) := by decide +kernel
theorem dL_find_2 : decode cL_find 2 = .ok (.iconst 0, 1) := by decide +kernel
theorem dL_find_3 : decode cL_find 3 = .ok (.aload_n 0, 1) := by decide +kernel
theorem dL_find_4 : decode cL_find 4 = .ok (.lload_n 1, 1) := by decide +kernel
theorem dL_find_5 : decode cL_find 5 = .ok (.iload_n 3, 1) := by decide +kernel
theorem dL_find_6 : decode cL_find 6 = .ok (.invokevirtual 71, 3) := by decide +kernel
theorem dL_find_9 : decode cL_find 9 = .ok (.i2l, 1) := by decide +kernel
theorem dL_find_10 : decode cL_find 10 = .ok (.lastore, 1) := by decide +kernel
theorem dL_find_11 : decode cL_find 11 = .ok (.goto 7, 3) := by decide +kernel
theorem dL_find_14 : decode cL_find 14 = .ok (.astore 5, 2) := by decide +kernel
theorem dL_find_16 : decode cL_find 16 = .ok (.iconst 1, 1) := by decide +kernel
theorem dL_find_17 : decode cL_find 17 = .ok (.ireturn, 1) := by decide +kernel
theorem dL_find_18 : decode cL_find 18 = .ok (.iconst 0, 1) := by decide +kernel
theorem dL_find_19 : decode cL_find 19 = .ok (.ireturn, 1) := by decide +kernel
theorem dL_candidate_0 : decode cL_candidate 0 = .ok (.aload_n 3, 1) := by decide +kernel
theorem dL_candidate_1 : decode cL_candidate 1 = .ok (.iconst 0, 1) := by decide +kernel
theorem dL_candidate_2 : decode cL_candidate 2 = .ok (.aload_n 0, 1) := by decide +kernel
theorem dL_candidate_3 : decode cL_candidate 3 = .ok (.iload_n 1, 1) := by decide +kernel
theorem dL_candidate_4 : decode cL_candidate 4 = .ok (.iload_n 2, 1) := by decide +kernel
theorem dL_candidate_5 : decode cL_candidate 5 = .ok (.invokevirtual 75, 3) := by decide +kernel
theorem dL_candidate_8 : decode cL_candidate 8 = .ok (.lastore, 1) := by decide +kernel
theorem dL_candidate_9 : decode cL_candidate 9 = .ok (.goto 11, 3) := by decide +kernel
theorem dL_candidate_12 : decode cL_candidate 12 = .ok (.astore 4, 2) := by decide +kernel
theorem dL_candidate_14 : decode cL_candidate 14 = .ok (.iconst 1, 1) := by decide +kernel
theorem dL_candidate_15 : decode cL_candidate 15 = .ok (.ireturn, 1) := by decide +kernel
theorem dL_candidate_16 : decode cL_candidate 16 = .ok (.astore 4, 2) := by decide +kernel
theorem dL_candidate_18 : decode cL_candidate 18 = .ok (.iconst 2, 1) := by decide +kernel
theorem dL_candidate_19 : decode cL_candidate 19 = .ok (.ireturn, 1) := by decide +kernel
theorem dL_candidate_20 : decode cL_candidate 20 = .ok (.iconst 0, 1) := by decide +kernel
theorem dL_candidate_21 : decode cL_candidate 21 = .ok (.ireturn, 1) := by decide +kernel
theorem dL_candidateAt_0 : decode cL_candidateAt 0 = .ok (.aload_n 2, 1) := by decide +kernel
theorem dL_candidateAt_1 : decode cL_candidateAt 1 = .ok (.iconst 0, 1) := by decide +kernel
theorem dL_candidateAt_2 : decode cL_candidateAt 2 = .ok (.aload_n 0, 1) := by decide +kernel
theorem dL_candidateAt_3 : decode cL_candidateAt 3 = .ok (.iload_n 1, 1) := by decide +kernel
theorem dL_candidateAt_4 : decode cL_candidateAt 4 = .ok (.invokevirtual 79, 3) := by decide +kernel
theorem dL_candidateAt_7 : decode cL_candidateAt 7 = .ok (.i2l, 1) := by decide +kernel
theorem dL_candidateAt_8 : decode cL_candidateAt 8 = .ok (.lastore, 1) := by decide +kernel
theorem dL_candidateAt_9 : decode cL_candidateAt 9 = .ok (.goto 6, 3) := by decide +kernel
theorem dL_candidateAt_12 : decode cL_candidateAt 12 = .ok (.astore_n 3, 1) := by decide +kernel
theorem dL_candidateAt_13 : decode cL_candidateAt 13 = .ok (.iconst 1, 1) := by decide +kernel
theorem dL_candidateAt_14 : decode cL_candidateAt 14 = .ok (.ireturn, 1) := by decide +kernel
theorem dL_candidateAt_15 : decode cL_candidateAt 15 = .ok (.iconst 0, 1) := by decide +kernel
theorem dL_candidateAt_16 : decode cL_candidateAt 16 = .ok (.ireturn, 1) := by decide +kernel
theorem dX0_init_0 : decode cX0_init 0 = .ok (.aload_n 0, 1) := by decide +kernel
theorem dX0_init_1 : decode cX0_init 1 = .ok (.invokespecial 3, 3) := by decide +kernel
theorem dX0_init_4 : decode cX0_init 4 = .ok (.aload_n 0, 1) := by decide +kernel
theorem dX0_init_5 : decode cX0_init 5 = .ok (.iconst 0, 1) := by decide +kernel
theorem dX0_init_6 : decode cX0_init 6 = .ok (.putfield 9, 3) := by decide +kernel
theorem dX0_init_9 : decode cX0_init 9 = .ok (.aload_n 0, 1) := by decide +kernel
theorem dX0_init_10 : decode cX0_init 10 = .ok (.bipush 8, 2) := by decide +kernel
theorem dX0_init_12 : decode cX0_init 12 = .ok (.newarray .int, 2) := by decide +kernel
theorem dX0_init_14 : decode cX0_init 14 = .ok (.putfield 15, 3) := by decide +kernel
theorem dX0_init_17 : decode cX0_init 17 = .ok (.aload_n 0, 1) := by decide +kernel
theorem dX0_init_18 : decode cX0_init 18 = .ok (.bipush 8, 2) := by decide +kernel
theorem dX0_init_20 : decode cX0_init 20 = .ok (.newarray .int, 2) := by decide +kernel
theorem dX0_init_22 : decode cX0_init 22 = .ok (.putfield 19, 3) := by decide +kernel
theorem dX0_init_25 : decode cX0_init 25 = .ok (.aload_n 0, 1) := by decide +kernel
theorem dX0_init_26 : decode cX0_init 26 = .ok (.bipush 8, 2) := by decide +kernel
theorem dX0_init_28 : decode cX0_init 28 = .ok (.newarray .int, 2) := by decide +kernel
theorem dX0_init_30 : decode cX0_init 30 = .ok (.putfield 22, 3) := by decide +kernel
theorem dX0_init_33 : decode cX0_init 33 = .ok (.aload_n 0, 1) := by decide +kernel
theorem dX0_init_34 : decode cX0_init 34 = .ok (.bipush 8, 2) := by decide +kernel
theorem dX0_init_36 : decode cX0_init 36 = .ok (.newarray .long, 2) := by decide +kernel
theorem dX0_init_38 : decode cX0_init 38 = .ok (.putfield 25, 3) := by decide +kernel
theorem dX0_init_41 : decode cX0_init 41 = .ok (.aload_n 0, 1) := by decide +kernel
theorem dX0_init_42 : decode cX0_init 42 = .ok (.bipush 48, 2) := by decide +kernel
theorem dX0_init_44 : decode cX0_init 44 = .ok (.newarray .int, 2) := by decide +kernel
theorem dX0_init_46 : decode cX0_init 46 = .ok (.putfield 29, 3) := by decide +kernel
theorem dX0_init_49 : decode cX0_init 49 = .ok (.return_, 1) := by decide +kernel
theorem dX0_firstWith_0 : decode cX0_firstWith 0 = .ok (.iconst 0, 1) := by decide +kernel
theorem dX0_firstWith_1 : decode cX0_firstWith 1 = .ok (.istore_n 2, 1) := by decide +kernel
theorem dX0_firstWith_2 : decode cX0_firstWith 2 = .ok (.iload_n 2, 1) := by decide +kernel
theorem dX0_firstWith_3 : decode cX0_firstWith 3 = .ok (.aload_n 0, 1) := by decide +kernel
theorem dX0_firstWith_4 : decode cX0_firstWith 4 = .ok (.getfield 9, 3) := by decide +kernel
theorem dX0_firstWith_7 : decode cX0_firstWith 7 = .ok (.if_icmp .ge 49, 3) := by decide +kernel
theorem dX0_firstWith_10 : decode cX0_firstWith 10 = .ok (.aload_n 0, 1) := by decide +kernel
theorem dX0_firstWith_11 : decode cX0_firstWith 11 = .ok (.getfield 19, 3) := by decide +kernel
theorem dX0_firstWith_14 : decode cX0_firstWith 14 = .ok (.iload_n 2, 1) := by decide +kernel
theorem dX0_firstWith_15 : decode cX0_firstWith 15 = .ok (.iaload, 1) := by decide +kernel
theorem dX0_firstWith_16 : decode cX0_firstWith 16 = .ok (.aload_n 0, 1) := by decide +kernel
theorem dX0_firstWith_17 : decode cX0_firstWith 17 = .ok (.getfield 22, 3) := by decide +kernel
theorem dX0_firstWith_20 : decode cX0_firstWith 20 = .ok (.iload_n 2, 1) := by decide +kernel
theorem dX0_firstWith_21 : decode cX0_firstWith 21 = .ok (.iaload, 1) := by decide +kernel
theorem dX0_firstWith_22 : decode cX0_firstWith 22 = .ok (.iadd, 1) := by decide +kernel
theorem dX0_firstWith_23 : decode cX0_firstWith 23 = .ok (.iconst 1, 1) := by decide +kernel
theorem dX0_firstWith_24 : decode cX0_firstWith 24 = .ok (.isub, 1) := by decide +kernel
theorem dX0_firstWith_25 : decode cX0_firstWith 25 = .ok (.aload_n 0, 1) := by decide +kernel
theorem dX0_firstWith_26 : decode cX0_firstWith 26 = .ok (.getfield 15, 3) := by decide +kernel
theorem dX0_firstWith_29 : decode cX0_firstWith 29 = .ok (.iload_n 2, 1) := by decide +kernel
theorem dX0_firstWith_30 : decode cX0_firstWith 30 = .ok (.iaload, 1) := by decide +kernel
theorem dX0_firstWith_31 : decode cX0_firstWith 31 = .ok (.iadd, 1) := by decide +kernel
theorem dX0_firstWith_32 : decode cX0_firstWith 32 = .ok (.istore_n 3, 1) := by decide +kernel
theorem dX0_firstWith_33 : decode cX0_firstWith 33 = .ok (.iload_n 1, 1) := by decide +kernel
theorem dX0_firstWith_34 : decode cX0_firstWith 34 = .ok (.aload_n 0, 1) := by decide +kernel
theorem dX0_firstWith_35 : decode cX0_firstWith 35 = .ok (.getfield 19, 3) := by decide +kernel
theorem dX0_firstWith_38 : decode cX0_firstWith 38 = .ok (.iload_n 2, 1) := by decide +kernel
theorem dX0_firstWith_39 : decode cX0_firstWith 39 = .ok (.iaload, 1) := by decide +kernel
theorem dX0_firstWith_40 : decode cX0_firstWith 40 = .ok (.if_icmp .lt 10, 3) := by decide +kernel
theorem dX0_firstWith_43 : decode cX0_firstWith 43 = .ok (.iload_n 1, 1) := by decide +kernel
theorem dX0_firstWith_44 : decode cX0_firstWith 44 = .ok (.iload_n 3, 1) := by decide +kernel
theorem dX0_firstWith_45 : decode cX0_firstWith 45 = .ok (.if_icmp .gt 5, 3) := by decide +kernel
theorem dX0_firstWith_48 : decode cX0_firstWith 48 = .ok (.iload_n 2, 1) := by decide +kernel
theorem dX0_firstWith_49 : decode cX0_firstWith 49 = .ok (.ireturn, 1) := by decide +kernel
theorem dX0_firstWith_50 : decode cX0_firstWith 50 = .ok (.iinc 2 1, 3) := by decide +kernel
theorem dX0_firstWith_53 : decode cX0_firstWith 53 = .ok (.goto (-51), 3) := by decide +kernel
theorem dX0_firstWith_56 : decode cX0_firstWith 56 = .ok (.iconst (-1), 1) := by decide +kernel
theorem dX0_firstWith_57 : decode cX0_firstWith 57 = .ok (.ireturn, 1) := by decide +kernel
theorem dX0_addBest_0 : decode cX0_addBest 0 = .ok (.aload_n 0, 1) := by decide +kernel
theorem dX0_addBest_1 : decode cX0_addBest 1 = .ok (.getfield 9, 3) := by decide +kernel
theorem dX0_addBest_4 : decode cX0_addBest 4 = .ok (.bipush 8, 2) := by decide +kernel
theorem dX0_addBest_6 : decode cX0_addBest 6 = .ok (.if_icmp .lt 5, 3) := by decide +kernel
theorem dX0_addBest_9 : decode cX0_addBest 9 = .ok (.iconst 0, 1) := by decide +kernel
theorem dX0_addBest_10 : decode cX0_addBest 10 = .ok (.ireturn, 1) := by decide +kernel
theorem dX0_addBest_11 : decode cX0_addBest 11 = .ok (.aload_n 0, 1) := by decide +kernel
theorem dX0_addBest_12 : decode cX0_addBest 12 = .ok (.aload_n 1, 1) := by decide +kernel
theorem dX0_addBest_13 : decode cX0_addBest 13 = .ok (.getfield 32, 3) := by decide +kernel
theorem dX0_addBest_16 : decode cX0_addBest 16 = .ok (.invokevirtual 36, 3) := by decide +kernel
theorem dX0_addBest_19 : decode cX0_addBest 19 = .ok (.aload_n 0, 1) := by decide +kernel
theorem dX0_addBest_20 : decode cX0_addBest 20 = .ok (.getfield 25, 3) := by decide +kernel
theorem dX0_addBest_23 : decode cX0_addBest 23 = .ok (.aload_n 0, 1) := by decide +kernel
theorem dX0_addBest_24 : decode cX0_addBest 24 = .ok (.getfield 9, 3) := by decide +kernel
theorem dX0_addBest_27 : decode cX0_addBest 27 = .ok (.lload_n 2, 1) := by decide +kernel
theorem dX0_addBest_28 : decode cX0_addBest 28 = .ok (.lconst 1, 1) := by decide +kernel
theorem dX0_addBest_29 : decode cX0_addBest 29 = .ok (.lsub, 1) := by decide +kernel
theorem dX0_addBest_30 : decode cX0_addBest 30 = .ok (.lastore, 1) := by decide +kernel
theorem dX0_addBest_31 : decode cX0_addBest 31 = .ok (.iconst 0, 1) := by decide +kernel
theorem dX0_addBest_32 : decode cX0_addBest 32 = .ok (.istore 5, 2) := by decide +kernel
theorem dX0_addBest_34 : decode cX0_addBest 34 = .ok (.iload 5, 2) := by decide +kernel
theorem dX0_addBest_36 : decode cX0_addBest 36 = .ok (.aload_n 1, 1) := by decide +kernel
theorem dX0_addBest_37 : decode cX0_addBest 37 = .ok (.getfield 40, 3) := by decide +kernel
theorem dX0_addBest_40 : decode cX0_addBest 40 = .ok (.if_icmp .ge 44, 3) := by decide +kernel
theorem dX0_addBest_43 : decode cX0_addBest 43 = .ok (.aload_n 1, 1) := by decide +kernel
theorem dX0_addBest_44 : decode cX0_addBest 44 = .ok (.iload 5, 2) := by decide +kernel
theorem dX0_addBest_46 : decode cX0_addBest 46 = .ok (.invokevirtual 42, 3) := by decide +kernel
theorem dX0_addBest_49 : decode cX0_addBest 49 = .ok (.istore 6, 2) := by decide +kernel
theorem dX0_addBest_51 : decode cX0_addBest 51 = .ok (.iconst 0, 1) := by decide +kernel
theorem dX0_addBest_52 : decode cX0_addBest 52 = .ok (.istore 7, 2) := by decide +kernel
theorem dX0_addBest_54 : decode cX0_addBest 54 = .ok (.iload 7, 2) := by decide +kernel
theorem dX0_addBest_56 : decode cX0_addBest 56 = .ok (.iload 6, 2) := by decide +kernel
theorem dX0_addBest_58 : decode cX0_addBest 58 = .ok (.if_icmp .ge 20, 3) := by decide +kernel
theorem dX0_addBest_61 : decode cX0_addBest 61 = .ok (.aload_n 0, 1) := by decide +kernel
theorem dX0_addBest_62 : decode cX0_addBest 62 = .ok (.aload_n 1, 1) := by decide +kernel
theorem dX0_addBest_63 : decode cX0_addBest 63 = .ok (.iload 5, 2) := by decide +kernel
theorem dX0_addBest_65 : decode cX0_addBest 65 = .ok (.iload 7, 2) := by decide +kernel
theorem dX0_addBest_67 : decode cX0_addBest 67 = .ok (.iload 4, 2) := by decide +kernel
theorem dX0_addBest_69 : decode cX0_addBest 69 = .ok (.invokevirtual 46, 3) := by decide +kernel
theorem dX0_addBest_72 : decode cX0_addBest 72 = .ok (.iinc 7 1, 3) := by decide +kernel
theorem dX0_addBest_75 : decode cX0_addBest 75 = .ok (.goto (-21), 3) := by decide +kernel
theorem dX0_addBest_78 : decode cX0_addBest 78 = .ok (.iinc 5 1, 3) := by decide +kernel
theorem dX0_addBest_81 : decode cX0_addBest 81 = .ok (.goto (-47), 3) := by decide +kernel
theorem dX0_addBest_84 : decode cX0_addBest 84 = .ok (.aload_n 0, 1) := by decide +kernel
theorem dX0_addBest_85 : decode cX0_addBest 85 = .ok (.getfield 25, 3) := by decide +kernel
theorem dX0_addBest_88 : decode cX0_addBest 88 = .ok (.aload_n 0, 1) := by decide +kernel
theorem dX0_addBest_89 : decode cX0_addBest 89 = .ok (.getfield 9, 3) := by decide +kernel
theorem dX0_addBest_92 : decode cX0_addBest 92 = .ok (.laload, 1) := by decide +kernel
theorem dX0_addBest_93 : decode cX0_addBest 93 = .ok (.lload_n 2, 1) := by decide +kernel
theorem dX0_addBest_94 : decode cX0_addBest 94 = .ok (.lcmp, 1) := by decide +kernel
theorem dX0_addBest_95 : decode cX0_addBest 95 = .ok (.ifCond .ge 5, 3) := by decide +kernel
theorem dX0_addBest_98 : decode cX0_addBest 98 = .ok (.iconst 0, 1) := by decide +kernel
theorem dX0_addBest_99 : decode cX0_addBest 99 = .ok (.ireturn, 1) := by decide +kernel
theorem dX0_addBest_100 : decode cX0_addBest 100 = .ok (.aload_n 0, 1) := by decide +kernel
theorem dX0_addBest_101 : decode cX0_addBest 101 = .ok (.dup, 1) := by decide +kernel
theorem dX0_addBest_102 : decode cX0_addBest 102 = .ok (.getfield 9, 3) := by decide +kernel
theorem dX0_addBest_105 : decode cX0_addBest 105 = .ok (.iconst 1, 1) := by decide +kernel
theorem dX0_addBest_106 : decode cX0_addBest 106 = .ok (.iadd, 1) := by decide +kernel
theorem dX0_addBest_107 : decode cX0_addBest 107 = .ok (.putfield 9, 3) := by decide +kernel
theorem dX0_addBest_110 : decode cX0_addBest 110 = .ok (.iconst 1, 1) := by decide +kernel
theorem dX0_addBest_111 : decode cX0_addBest 111 = .ok (.ireturn, 1) := by decide +kernel
theorem dX0_markFreeEnds_0 : decode cX0_markFreeEnds 0 = .ok (.iload_n 1, 1) := by decide +kernel
theorem dX0_markFreeEnds_1 : decode cX0_markFreeEnds 1 = .ok (.istore_n 2, 1) := by decide +kernel
theorem dX0_markFreeEnds_2 : decode cX0_markFreeEnds 2 = .ok (.iload_n 1, 1) := by decide +kernel
theorem dX0_markFreeEnds_3 : decode cX0_markFreeEnds 3 = .ok (.iconst 1, 1) := by decide +kernel
theorem dX0_markFreeEnds_4 : decode cX0_markFreeEnds 4 = .ok (.isub, 1) := by decide +kernel
theorem dX0_markFreeEnds_5 : decode cX0_markFreeEnds 5 = .ok (.istore_n 3, 1) := by decide +kernel
theorem dX0_markFreeEnds_6 : decode cX0_markFreeEnds 6 = .ok (.iload_n 3, 1) := by decide +kernel
theorem dX0_markFreeEnds_7 : decode cX0_markFreeEnds 7 = .ok (.ifCond .lt 27, 3) := by decide +kernel
theorem dX0_markFreeEnds_10 : decode cX0_markFreeEnds 10 = .ok (.aload_n 0, 1) := by decide +kernel
theorem dX0_markFreeEnds_11 : decode cX0_markFreeEnds 11 = .ok (.iload_n 3, 1) := by decide +kernel
theorem dX0_markFreeEnds_12 : decode cX0_markFreeEnds 12 = .ok (.invokevirtual 50, 3) := by decide +kernel
theorem dX0_markFreeEnds_15 : decode cX0_markFreeEnds 15 = .ok (.iconst (-1), 1) := by decide +kernel
theorem dX0_markFreeEnds_16 : decode cX0_markFreeEnds 16 = .ok (.if_icmp .eq 5, 3) := by decide +kernel
theorem dX0_markFreeEnds_19 : decode cX0_markFreeEnds 19 = .ok (.iload_n 3, 1) := by decide +kernel
theorem dX0_markFreeEnds_20 : decode cX0_markFreeEnds 20 = .ok (.istore_n 2, 1) := by decide +kernel
theorem dX0_markFreeEnds_21 : decode cX0_markFreeEnds 21 = .ok (.aload_n 0, 1) := by decide +kernel
theorem dX0_markFreeEnds_22 : decode cX0_markFreeEnds 22 = .ok (.getfield 29, 3) := by decide +kernel
theorem dX0_markFreeEnds_25 : decode cX0_markFreeEnds 25 = .ok (.iload_n 3, 1) := by decide +kernel
theorem dX0_markFreeEnds_26 : decode cX0_markFreeEnds 26 = .ok (.iload_n 2, 1) := by decide +kernel
theorem dX0_markFreeEnds_27 : decode cX0_markFreeEnds 27 = .ok (.iastore, 1) := by decide +kernel
theorem dX0_markFreeEnds_28 : decode cX0_markFreeEnds 28 = .ok (.iinc 3 (-1), 3) := by decide +kernel
theorem dX0_markFreeEnds_31 : decode cX0_markFreeEnds 31 = .ok (.goto (-25), 3) := by decide +kernel
theorem dX0_markFreeEnds_34 : decode cX0_markFreeEnds 34 = .ok (.return_, 1) := by decide +kernel
theorem dX0_tryBoxes_0 : decode cX0_tryBoxes 0 = .ok (.iload 4, 2) := by decide +kernel
theorem dX0_tryBoxes_2 : decode cX0_tryBoxes 2 = .ok (.aload_n 0, 1) := by decide +kernel
theorem dX0_tryBoxes_3 : decode cX0_tryBoxes 3 = .ok (.getfield 29, 3) := by decide +kernel
theorem dX0_tryBoxes_6 : decode cX0_tryBoxes 6 = .ok (.iload_n 3, 1) := by decide +kernel
theorem dX0_tryBoxes_7 : decode cX0_tryBoxes 7 = .ok (.iaload, 1) := by decide +kernel
theorem dX0_tryBoxes_8 : decode cX0_tryBoxes 8 = .ok (.iload_n 2, 1) := by decide +kernel
theorem dX0_tryBoxes_9 : decode cX0_tryBoxes 9 = .ok (.isub, 1) := by decide +kernel
theorem dX0_tryBoxes_10 : decode cX0_tryBoxes 10 = .ok (.iload_n 3, 1) := by decide +kernel
theorem dX0_tryBoxes_11 : decode cX0_tryBoxes 11 = .ok (.isub, 1) := by decide +kernel
theorem dX0_tryBoxes_12 : decode cX0_tryBoxes 12 = .ok (.invokestatic 53, 3) := by decide +kernel
theorem dX0_tryBoxes_15 : decode cX0_tryBoxes 15 = .ok (.istore 5, 2) := by decide +kernel
theorem dX0_tryBoxes_17 : decode cX0_tryBoxes 17 = .ok (.lconst 0, 1) := by decide +kernel
theorem dX0_tryBoxes_18 : decode cX0_tryBoxes 18 = .ok (.lstore 6, 2) := by decide +kernel
theorem dX0_tryBoxes_20 : decode cX0_tryBoxes 20 = .ok (.iconst 1, 1) := by decide +kernel
theorem dX0_tryBoxes_21 : decode cX0_tryBoxes 21 = .ok (.istore 8, 2) := by decide +kernel
theorem dX0_tryBoxes_23 : decode cX0_tryBoxes 23 = .ok (.iload 8, 2) := by decide +kernel
theorem dX0_tryBoxes_25 : decode cX0_tryBoxes 25 = .ok (.iload 5, 2) := by decide +kernel
theorem dX0_tryBoxes_27 : decode cX0_tryBoxes 27 = .ok (.if_icmp .gt 94, 3) := by decide +kernel
theorem dX0_tryBoxes_30 : decode cX0_tryBoxes 30 = .ok (.lload 6, 2) := by decide +kernel
theorem dX0_tryBoxes_32 : decode cX0_tryBoxes 32 = .ok (.aload_n 1, 1) := by decide +kernel
theorem dX0_tryBoxes_33 : decode cX0_tryBoxes 33 = .ok (.iload_n 2, 1) := by decide +kernel
theorem dX0_tryBoxes_34 : decode cX0_tryBoxes 34 = .ok (.iload_n 3, 1) := by decide +kernel
theorem dX0_tryBoxes_35 : decode cX0_tryBoxes 35 = .ok (.iload 8, 2) := by decide +kernel
theorem dX0_tryBoxes_37 : decode cX0_tryBoxes 37 = .ok (.iadd, 1) := by decide +kernel
theorem dX0_tryBoxes_38 : decode cX0_tryBoxes 38 = .ok (.iconst 1, 1) := by decide +kernel
theorem dX0_tryBoxes_39 : decode cX0_tryBoxes 39 = .ok (.isub, 1) := by decide +kernel
theorem dX0_tryBoxes_40 : decode cX0_tryBoxes 40 = .ok (.invokevirtual 59, 3) := by decide +kernel
theorem dX0_tryBoxes_43 : decode cX0_tryBoxes 43 = .ok (.i2l, 1) := by decide +kernel
theorem dX0_tryBoxes_44 : decode cX0_tryBoxes 44 = .ok (.ladd, 1) := by decide +kernel
theorem dX0_tryBoxes_45 : decode cX0_tryBoxes 45 = .ok (.lstore 6, 2) := by decide +kernel
theorem dX0_tryBoxes_47 : decode cX0_tryBoxes 47 = .ok (.aload_n 1, 1) := by decide +kernel
theorem dX0_tryBoxes_48 : decode cX0_tryBoxes 48 = .ok (.iload_n 2, 1) := by decide +kernel
theorem dX0_tryBoxes_49 : decode cX0_tryBoxes 49 = .ok (.iload 8, 2) := by decide +kernel
theorem dX0_tryBoxes_51 : decode cX0_tryBoxes 51 = .ok (.lload 6, 2) := by decide +kernel
theorem dX0_tryBoxes_53 : decode cX0_tryBoxes 53 = .ok (.invokevirtual 62, 3) := by decide +kernel
theorem dX0_tryBoxes_56 : decode cX0_tryBoxes 56 = .ok (.lstore 9, 2) := by decide +kernel
theorem dX0_tryBoxes_58 : decode cX0_tryBoxes 58 = .ok (.lload 9, 2) := by decide +kernel
theorem dX0_tryBoxes_60 : decode cX0_tryBoxes 60 = .ok (.aload_n 0, 1) := by decide +kernel
theorem dX0_tryBoxes_61 : decode cX0_tryBoxes 61 = .ok (.getfield 25, 3) := by decide +kernel
theorem dX0_tryBoxes_64 : decode cX0_tryBoxes 64 = .ok (.aload_n 0, 1) := by decide +kernel
theorem dX0_tryBoxes_65 : decode cX0_tryBoxes 65 = .ok (.getfield 9, 3) := by decide +kernel
theorem dX0_tryBoxes_68 : decode cX0_tryBoxes 68 = .ok (.laload, 1) := by decide +kernel
theorem dX0_tryBoxes_69 : decode cX0_tryBoxes 69 = .ok (.lcmp, 1) := by decide +kernel
theorem dX0_tryBoxes_70 : decode cX0_tryBoxes 70 = .ok (.ifCond .le 45, 3) := by decide +kernel
theorem dX0_tryBoxes_73 : decode cX0_tryBoxes 73 = .ok (.aload_n 0, 1) := by decide +kernel
theorem dX0_tryBoxes_74 : decode cX0_tryBoxes 74 = .ok (.getfield 15, 3) := by decide +kernel
theorem dX0_tryBoxes_77 : decode cX0_tryBoxes 77 = .ok (.aload_n 0, 1) := by decide +kernel
theorem dX0_tryBoxes_78 : decode cX0_tryBoxes 78 = .ok (.getfield 9, 3) := by decide +kernel
theorem dX0_tryBoxes_81 : decode cX0_tryBoxes 81 = .ok (.iload_n 2, 1) := by decide +kernel
theorem dX0_tryBoxes_82 : decode cX0_tryBoxes 82 = .ok (.iastore, 1) := by decide +kernel
theorem dX0_tryBoxes_83 : decode cX0_tryBoxes 83 = .ok (.aload_n 0, 1) := by decide +kernel
theorem dX0_tryBoxes_84 : decode cX0_tryBoxes 84 = .ok (.getfield 19, 3) := by decide +kernel
theorem dX0_tryBoxes_87 : decode cX0_tryBoxes 87 = .ok (.aload_n 0, 1) := by decide +kernel
theorem dX0_tryBoxes_88 : decode cX0_tryBoxes 88 = .ok (.getfield 9, 3) := by decide +kernel
theorem dX0_tryBoxes_91 : decode cX0_tryBoxes 91 = .ok (.iload_n 3, 1) := by decide +kernel
theorem dX0_tryBoxes_92 : decode cX0_tryBoxes 92 = .ok (.iastore, 1) := by decide +kernel
theorem dX0_tryBoxes_93 : decode cX0_tryBoxes 93 = .ok (.aload_n 0, 1) := by decide +kernel
theorem dX0_tryBoxes_94 : decode cX0_tryBoxes 94 = .ok (.getfield 22, 3) := by decide +kernel
theorem dX0_tryBoxes_97 : decode cX0_tryBoxes 97 = .ok (.aload_n 0, 1) := by decide +kernel
theorem dX0_tryBoxes_98 : decode cX0_tryBoxes 98 = .ok (.getfield 9, 3) := by decide +kernel
theorem dX0_tryBoxes_101 : decode cX0_tryBoxes 101 = .ok (.iload 8, 2) := by decide +kernel
theorem dX0_tryBoxes_103 : decode cX0_tryBoxes 103 = .ok (.iastore, 1) := by decide +kernel
theorem dX0_tryBoxes_104 : decode cX0_tryBoxes 104 = .ok (.aload_n 0, 1) := by decide +kernel
theorem dX0_tryBoxes_105 : decode cX0_tryBoxes 105 = .ok (.getfield 25, 3) := by decide +kernel
theorem dX0_tryBoxes_108 : decode cX0_tryBoxes 108 = .ok (.aload_n 0, 1) := by decide +kernel
theorem dX0_tryBoxes_109 : decode cX0_tryBoxes 109 = .ok (.getfield 9, 3) := by decide +kernel
theorem dX0_tryBoxes_112 : decode cX0_tryBoxes 112 = .ok (.lload 9, 2) := by decide +kernel
theorem dX0_tryBoxes_114 : decode cX0_tryBoxes 114 = .ok (.lastore, 1) := by decide +kernel
theorem dX0_tryBoxes_115 : decode cX0_tryBoxes 115 = .ok (.iinc 8 1, 3) := by decide +kernel
theorem dX0_tryBoxes_118 : decode cX0_tryBoxes 118 = .ok (.goto (-95), 3) := by decide +kernel
theorem dX0_tryBoxes_121 : decode cX0_tryBoxes 121 = .ok (.return_, 1) := by decide +kernel
theorem dX1_init_0 : decode cX1_init 0 = .ok (.aload_n 0, 1) := by decide +kernel
theorem dX1_init_1 : decode cX1_init 1 = .ok (.invokespecial 3, 3) := by decide +kernel
theorem dX1_init_4 : decode cX1_init 4 = .ok (.aload_n 0, 1) := by decide +kernel
theorem dX1_init_5 : decode cX1_init 5 = .ok (.iconst 4, 1) := by decide +kernel
theorem dX1_init_6 : decode cX1_init 6 = .ok (.putfield 9, 3) := by decide +kernel
theorem dX1_init_9 : decode cX1_init 9 = .ok (.aload_n 0, 1) := by decide +kernel
theorem dX1_init_10 : decode cX1_init 10 = .ok (.iconst 0, 1) := by decide +kernel
theorem dX1_init_11 : decode cX1_init 11 = .ok (.putfield 15, 3) := by decide +kernel
theorem dX1_init_14 : decode cX1_init 14 = .ok (.aload_n 0, 1) := by decide +kernel
theorem dX1_init_15 : decode cX1_init 15 = .ok (.iconst 0, 1) := by decide +kernel
theorem dX1_init_16 : decode cX1_init 16 = .ok (.putfield 18, 3) := by decide +kernel
theorem dX1_init_19 : decode cX1_init 19 = .ok (.aload_n 0, 1) := by decide +kernel
theorem dX1_init_20 : decode cX1_init 20 = .ok (.sipush 768, 3) := by decide +kernel
theorem dX1_init_23 : decode cX1_init 23 = .ok (.newarray .int, 2) := by decide +kernel
theorem dX1_init_25 : decode cX1_init 25 = .ok (.putfield 21, 3) := by decide +kernel
theorem dX1_init_28 : decode cX1_init 28 = .ok (.aload_n 0, 1) := by decide +kernel
theorem dX1_init_29 : decode cX1_init 29 = .ok (.bipush 16, 2) := by decide +kernel
theorem dX1_init_31 : decode cX1_init 31 = .ok (.newarray .int, 2) := by decide +kernel
theorem dX1_init_33 : decode cX1_init 33 = .ok (.putfield 25, 3) := by decide +kernel
theorem dX1_init_36 : decode cX1_init 36 = .ok (.aload_n 0, 1) := by decide +kernel
theorem dX1_init_37 : decode cX1_init 37 = .ok (.bipush 16, 2) := by decide +kernel
theorem dX1_init_39 : decode cX1_init 39 = .ok (.newarray .boolean, 2) := by decide +kernel
theorem dX1_init_41 : decode cX1_init 41 = .ok (.putfield 28, 3) := by decide +kernel
theorem dX1_init_44 : decode cX1_init 44 = .ok (.return_, 1) := by decide +kernel
theorem dX1_beginAnew_0 : decode cX1_beginAnew 0 = .ok (.aload_n 0, 1) := by decide +kernel
theorem dX1_beginAnew_1 : decode cX1_beginAnew 1 = .ok (.iload_n 1, 1) := by decide +kernel
theorem dX1_beginAnew_2 : decode cX1_beginAnew 2 = .ok (.putfield 9, 3) := by decide +kernel
theorem dX1_beginAnew_5 : decode cX1_beginAnew 5 = .ok (.aload_n 0, 1) := by decide +kernel
theorem dX1_beginAnew_6 : decode cX1_beginAnew 6 = .ok (.iconst 0, 1) := by decide +kernel
theorem dX1_beginAnew_7 : decode cX1_beginAnew 7 = .ok (.putfield 15, 3) := by decide +kernel
theorem dX1_beginAnew_10 : decode cX1_beginAnew 10 = .ok (.aload_n 0, 1) := by decide +kernel
theorem dX1_beginAnew_11 : decode cX1_beginAnew 11 = .ok (.iconst 0, 1) := by decide +kernel
theorem dX1_beginAnew_12 : decode cX1_beginAnew 12 = .ok (.putfield 18, 3) := by decide +kernel
theorem dX1_beginAnew_15 : decode cX1_beginAnew 15 = .ok (.iconst 0, 1) := by decide +kernel
theorem dX1_beginAnew_16 : decode cX1_beginAnew 16 = .ok (.istore_n 2, 1) := by decide +kernel
theorem dX1_beginAnew_17 : decode cX1_beginAnew 17 = .ok (.iload_n 2, 1) := by decide +kernel
theorem dX1_beginAnew_18 : decode cX1_beginAnew 18 = .ok (.bipush 16, 2) := by decide +kernel
theorem dX1_beginAnew_20 : decode cX1_beginAnew 20 = .ok (.if_icmp .ge 23, 3) := by decide +kernel
theorem dX1_beginAnew_23 : decode cX1_beginAnew 23 = .ok (.aload_n 0, 1) := by decide +kernel
theorem dX1_beginAnew_24 : decode cX1_beginAnew 24 = .ok (.getfield 25, 3) := by decide +kernel
theorem dX1_beginAnew_27 : decode cX1_beginAnew 27 = .ok (.iload_n 2, 1) := by decide +kernel
theorem dX1_beginAnew_28 : decode cX1_beginAnew 28 = .ok (.iconst 0, 1) := by decide +kernel
theorem dX1_beginAnew_29 : decode cX1_beginAnew 29 = .ok (.iastore, 1) := by decide +kernel
theorem dX1_beginAnew_30 : decode cX1_beginAnew 30 = .ok (.aload_n 0, 1) := by decide +kernel
theorem dX1_beginAnew_31 : decode cX1_beginAnew 31 = .ok (.getfield 28, 3) := by decide +kernel
theorem dX1_beginAnew_34 : decode cX1_beginAnew 34 = .ok (.iload_n 2, 1) := by decide +kernel
theorem dX1_beginAnew_35 : decode cX1_beginAnew 35 = .ok (.iconst 0, 1) := by decide +kernel
theorem dX1_beginAnew_36 : decode cX1_beginAnew 36 = .ok (.bastore, 1) := by decide +kernel
theorem dX1_beginAnew_37 : decode cX1_beginAnew 37 = .ok (.iinc 2 1, 3) := by decide +kernel
theorem dX1_beginAnew_40 : decode cX1_beginAnew 40 = .ok (.goto (-23), 3) := by decide +kernel
theorem dX1_beginAnew_43 : decode cX1_beginAnew 43 = .ok (.return_, 1) := by decide +kernel
theorem dX1_powerAt_0 : decode cX1_powerAt 0 = .ok (.aload_n 0, 1) := by decide +kernel
theorem dX1_powerAt_1 : decode cX1_powerAt 1 = .ok (.getfield 21, 3) := by decide +kernel
theorem dX1_powerAt_4 : decode cX1_powerAt 4 = .ok (.iload_n 2, 1) := by decide +kernel
theorem dX1_powerAt_5 : decode cX1_powerAt 5 = .ok (.bipush 16, 2) := by decide +kernel
theorem dX1_powerAt_7 : decode cX1_powerAt 7 = .ok (.imul, 1) := by decide +kernel
theorem dX1_powerAt_8 : decode cX1_powerAt 8 = .ok (.iload_n 1, 1) := by decide +kernel
theorem dX1_powerAt_9 : decode cX1_powerAt 9 = .ok (.iadd, 1) := by decide +kernel
theorem dX1_powerAt_10 : decode cX1_powerAt 10 = .ok (.iaload, 1) := by decide +kernel
theorem dX1_powerAt_11 : decode cX1_powerAt 11 = .ok (.ireturn, 1) := by decide +kernel
theorem dX1_openColumn_0 : decode cX1_openColumn 0 = .ok (.aload_n 0, 1) := by decide +kernel
theorem dX1_openColumn_1 : decode cX1_openColumn 1 = .ok (.getfield 15, 3) := by decide +kernel
theorem dX1_openColumn_4 : decode cX1_openColumn 4 = .ok (.bipush 48, 2) := by decide +kernel
theorem dX1_openColumn_6 : decode cX1_openColumn 6 = .ok (.if_icmp .lt 33, 3) := by decide +kernel
theorem dX1_openColumn_9 : decode cX1_openColumn 9 = .ok (.aload_n 0, 1) := by decide +kernel
theorem dX1_openColumn_10 : decode cX1_openColumn 10 = .ok (.getfield 21, 3) := by decide +kernel
theorem dX1_openColumn_13 : decode cX1_openColumn 13 = .ok (.bipush 16, 2) := by decide +kernel
theorem dX1_openColumn_15 : decode cX1_openColumn 15 = .ok (.aload_n 0, 1) := by decide +kernel
theorem dX1_openColumn_16 : decode cX1_openColumn 16 = .ok (.getfield 21, 3) := by decide +kernel
theorem dX1_openColumn_19 : decode cX1_openColumn 19 = .ok (.iconst 0, 1) := by decide +kernel
theorem dX1_openColumn_20 : decode cX1_openColumn 20 = .ok (.sipush 752, 3) := by decide +kernel
theorem dX1_openColumn_23 : decode cX1_openColumn 23 = .ok (.invokestatic 32, 3) := by decide +kernel
theorem dX1_openColumn_26 : decode cX1_openColumn 26 = .ok (.aload_n 0, 1) := by decide +kernel
theorem dX1_openColumn_27 : decode cX1_openColumn 27 = .ok (.dup, 1) := by decide +kernel
theorem dX1_openColumn_28 : decode cX1_openColumn 28 = .ok (.getfield 18, 3) := by decide +kernel
theorem dX1_openColumn_31 : decode cX1_openColumn 31 = .ok (.iconst 1, 1) := by decide +kernel
theorem dX1_openColumn_32 : decode cX1_openColumn 32 = .ok (.iadd, 1) := by decide +kernel
theorem dX1_openColumn_33 : decode cX1_openColumn 33 = .ok (.putfield 18, 3) := by decide +kernel
theorem dX1_openColumn_36 : decode cX1_openColumn 36 = .ok (.goto 13, 3) := by decide +kernel
theorem dX1_openColumn_39 : decode cX1_openColumn 39 = .ok (.aload_n 0, 1) := by decide +kernel
theorem dX1_openColumn_40 : decode cX1_openColumn 40 = .ok (.dup, 1) := by decide +kernel
theorem dX1_openColumn_41 : decode cX1_openColumn 41 = .ok (.getfield 15, 3) := by decide +kernel
theorem dX1_openColumn_44 : decode cX1_openColumn 44 = .ok (.iconst 1, 1) := by decide +kernel
theorem dX1_openColumn_45 : decode cX1_openColumn 45 = .ok (.iadd, 1) := by decide +kernel
theorem dX1_openColumn_46 : decode cX1_openColumn 46 = .ok (.putfield 15, 3) := by decide +kernel
theorem dX1_openColumn_49 : decode cX1_openColumn 49 = .ok (.aload_n 0, 1) := by decide +kernel
theorem dX1_openColumn_50 : decode cX1_openColumn 50 = .ok (.getfield 15, 3) := by decide +kernel
theorem dX1_openColumn_53 : decode cX1_openColumn 53 = .ok (.iconst 1, 1) := by decide +kernel
theorem dX1_openColumn_54 : decode cX1_openColumn 54 = .ok (.isub, 1) := by decide +kernel
theorem dX1_openColumn_55 : decode cX1_openColumn 55 = .ok (.bipush 16, 2) := by decide +kernel
theorem dX1_openColumn_57 : decode cX1_openColumn 57 = .ok (.imul, 1) := by decide +kernel
theorem dX1_openColumn_58 : decode cX1_openColumn 58 = .ok (.ireturn, 1) := by decide +kernel
theorem dX1_takePending_0 : decode cX1_takePending 0 = .ok (.aload_n 0, 1) := by decide +kernel
theorem dX1_takePending_1 : decode cX1_takePending 1 = .ok (.invokevirtual 38, 3) := by decide +kernel
theorem dX1_takePending_4 : decode cX1_takePending 4 = .ok (.istore_n 1, 1) := by decide +kernel
theorem dX1_takePending_5 : decode cX1_takePending 5 = .ok (.iconst 0, 1) := by decide +kernel
theorem dX1_takePending_6 : decode cX1_takePending 6 = .ok (.istore_n 2, 1) := by decide +kernel
theorem dX1_takePending_7 : decode cX1_takePending 7 = .ok (.iload_n 2, 1) := by decide +kernel
theorem dX1_takePending_8 : decode cX1_takePending 8 = .ok (.aload_n 0, 1) := by decide +kernel
theorem dX1_takePending_9 : decode cX1_takePending 9 = .ok (.getfield 9, 3) := by decide +kernel
theorem dX1_takePending_12 : decode cX1_takePending 12 = .ok (.if_icmp .ge 30, 3) := by decide +kernel
theorem dX1_takePending_15 : decode cX1_takePending 15 = .ok (.aload_n 0, 1) := by decide +kernel
theorem dX1_takePending_16 : decode cX1_takePending 16 = .ok (.getfield 21, 3) := by decide +kernel
theorem dX1_takePending_19 : decode cX1_takePending 19 = .ok (.iload_n 1, 1) := by decide +kernel
theorem dX1_takePending_20 : decode cX1_takePending 20 = .ok (.iload_n 2, 1) := by decide +kernel
theorem dX1_takePending_21 : decode cX1_takePending 21 = .ok (.iadd, 1) := by decide +kernel
theorem dX1_takePending_22 : decode cX1_takePending 22 = .ok (.aload_n 0, 1) := by decide +kernel
theorem dX1_takePending_23 : decode cX1_takePending 23 = .ok (.getfield 25, 3) := by decide +kernel
theorem dX1_takePending_26 : decode cX1_takePending 26 = .ok (.iload_n 2, 1) := by decide +kernel
theorem dX1_takePending_27 : decode cX1_takePending 27 = .ok (.iaload, 1) := by decide +kernel
theorem dX1_takePending_28 : decode cX1_takePending 28 = .ok (.iastore, 1) := by decide +kernel
theorem dX1_takePending_29 : decode cX1_takePending 29 = .ok (.aload_n 0, 1) := by decide +kernel
theorem dX1_takePending_30 : decode cX1_takePending 30 = .ok (.getfield 25, 3) := by decide +kernel
theorem dX1_takePending_33 : decode cX1_takePending 33 = .ok (.iload_n 2, 1) := by decide +kernel
theorem dX1_takePending_34 : decode cX1_takePending 34 = .ok (.iconst 0, 1) := by decide +kernel
theorem dX1_takePending_35 : decode cX1_takePending 35 = .ok (.iastore, 1) := by decide +kernel
theorem dX1_takePending_36 : decode cX1_takePending 36 = .ok (.iinc 2 1, 3) := by decide +kernel
theorem dX1_takePending_39 : decode cX1_takePending 39 = .ok (.goto (-32), 3) := by decide +kernel
theorem dX1_takePending_42 : decode cX1_takePending 42 = .ok (.return_, 1) := by decide +kernel
theorem dX1_takeColumn_0 : decode cX1_takeColumn 0 = .ok (.aload_n 0, 1) := by decide +kernel
theorem dX1_takeColumn_1 : decode cX1_takeColumn 1 = .ok (.invokevirtual 38, 3) := by decide +kernel
theorem dX1_takeColumn_4 : decode cX1_takeColumn 4 = .ok (.istore_n 3, 1) := by decide +kernel
theorem dX1_takeColumn_5 : decode cX1_takeColumn 5 = .ok (.iconst 0, 1) := by decide +kernel
theorem dX1_takeColumn_6 : decode cX1_takeColumn 6 = .ok (.istore 4, 2) := by decide +kernel
theorem dX1_takeColumn_8 : decode cX1_takeColumn 8 = .ok (.iload 4, 2) := by decide +kernel
theorem dX1_takeColumn_10 : decode cX1_takeColumn 10 = .ok (.aload_n 0, 1) := by decide +kernel
theorem dX1_takeColumn_11 : decode cX1_takeColumn 11 = .ok (.getfield 9, 3) := by decide +kernel
theorem dX1_takeColumn_14 : decode cX1_takeColumn 14 = .ok (.if_icmp .ge 30, 3) := by decide +kernel
theorem dX1_takeColumn_17 : decode cX1_takeColumn 17 = .ok (.aload_n 0, 1) := by decide +kernel
theorem dX1_takeColumn_18 : decode cX1_takeColumn 18 = .ok (.getfield 21, 3) := by decide +kernel
theorem dX1_takeColumn_21 : decode cX1_takeColumn 21 = .ok (.iload_n 3, 1) := by decide +kernel
theorem dX1_takeColumn_22 : decode cX1_takeColumn 22 = .ok (.iload 4, 2) := by decide +kernel
theorem dX1_takeColumn_24 : decode cX1_takeColumn 24 = .ok (.iadd, 1) := by decide +kernel
theorem dX1_takeColumn_25 : decode cX1_takeColumn 25 = .ok (.aload_n 1, 1) := by decide +kernel
theorem dX1_takeColumn_26 : decode cX1_takeColumn 26 = .ok (.getfield 42, 3) := by decide +kernel
theorem dX1_takeColumn_29 : decode cX1_takeColumn 29 = .ok (.iload_n 2, 1) := by decide +kernel
theorem dX1_takeColumn_30 : decode cX1_takeColumn 30 = .ok (.iload 4, 2) := by decide +kernel
theorem dX1_takeColumn_32 : decode cX1_takeColumn 32 = .ok (.iadd, 1) := by decide +kernel
theorem dX1_takeColumn_33 : decode cX1_takeColumn 33 = .ok (.iaload, 1) := by decide +kernel
theorem dX1_takeColumn_34 : decode cX1_takeColumn 34 = .ok (.invokestatic 47, 3) := by decide +kernel
theorem dX1_takeColumn_37 : decode cX1_takeColumn 37 = .ok (.iastore, 1) := by decide +kernel
theorem dX1_takeColumn_38 : decode cX1_takeColumn 38 = .ok (.iinc 4 1, 3) := by decide +kernel
theorem dX1_takeColumn_41 : decode cX1_takeColumn 41 = .ok (.goto (-33), 3) := by decide +kernel
theorem dX1_takeColumn_44 : decode cX1_takeColumn 44 = .ok (.return_, 1) := by decide +kernel
theorem dX1_raise_0 : decode cX1_raise 0 = .ok (.iload_n 2, 1) := by decide +kernel
theorem dX1_raise_1 : decode cX1_raise 1 = .ok (.bipush 16, 2) := by decide +kernel
theorem dX1_raise_3 : decode cX1_raise 3 = .ok (.imul, 1) := by decide +kernel
theorem dX1_raise_4 : decode cX1_raise 4 = .ok (.iload_n 1, 1) := by decide +kernel
theorem dX1_raise_5 : decode cX1_raise 5 = .ok (.iadd, 1) := by decide +kernel
theorem dX1_raise_6 : decode cX1_raise 6 = .ok (.istore 4, 2) := by decide +kernel
theorem dX1_raise_8 : decode cX1_raise 8 = .ok (.iload_n 3, 1) := by decide +kernel
theorem dX1_raise_9 : decode cX1_raise 9 = .ok (.sipush 9999, 3) := by decide +kernel
theorem dX1_raise_12 : decode cX1_raise 12 = .ok (.aload_n 0, 1) := by decide +kernel
theorem dX1_raise_13 : decode cX1_raise 13 = .ok (.getfield 21, 3) := by decide +kernel
theorem dX1_raise_16 : decode cX1_raise 16 = .ok (.iload 4, 2) := by decide +kernel
theorem dX1_raise_18 : decode cX1_raise 18 = .ok (.iaload, 1) := by decide +kernel
theorem dX1_raise_19 : decode cX1_raise 19 = .ok (.isub, 1) := by decide +kernel
theorem dX1_raise_20 : decode cX1_raise 20 = .ok (.invokestatic 51, 3) := by decide +kernel
theorem dX1_raise_23 : decode cX1_raise 23 = .ok (.istore 5, 2) := by decide +kernel
theorem dX1_raise_25 : decode cX1_raise 25 = .ok (.aload_n 0, 1) := by decide +kernel
theorem dX1_raise_26 : decode cX1_raise 26 = .ok (.getfield 21, 3) := by decide +kernel
theorem dX1_raise_29 : decode cX1_raise 29 = .ok (.iload 4, 2) := by decide +kernel
theorem dX1_raise_31 : decode cX1_raise 31 = .ok (.dup2, 1) := by decide +kernel
theorem dX1_raise_32 : decode cX1_raise 32 = .ok (.iaload, 1) := by decide +kernel
theorem dX1_raise_33 : decode cX1_raise 33 = .ok (.iload 5, 2) := by decide +kernel
theorem dX1_raise_35 : decode cX1_raise 35 = .ok (.iadd, 1) := by decide +kernel
theorem dX1_raise_36 : decode cX1_raise 36 = .ok (.iastore, 1) := by decide +kernel
theorem dX1_raise_37 : decode cX1_raise 37 = .ok (.iload 5, 2) := by decide +kernel
theorem dX1_raise_39 : decode cX1_raise 39 = .ok (.ireturn, 1) := by decide +kernel
theorem dX1_countMasked_0 : decode cX1_countMasked 0 = .ok (.iconst 0, 1) := by decide +kernel
theorem dX1_countMasked_1 : decode cX1_countMasked 1 = .ok (.istore_n 1, 1) := by decide +kernel
theorem dX1_countMasked_2 : decode cX1_countMasked 2 = .ok (.iconst 0, 1) := by decide +kernel
theorem dX1_countMasked_3 : decode cX1_countMasked 3 = .ok (.istore_n 2, 1) := by decide +kernel
theorem dX1_countMasked_4 : decode cX1_countMasked 4 = .ok (.iload_n 2, 1) := by decide +kernel
theorem dX1_countMasked_5 : decode cX1_countMasked 5 = .ok (.aload_n 0, 1) := by decide +kernel
theorem dX1_countMasked_6 : decode cX1_countMasked 6 = .ok (.getfield 9, 3) := by decide +kernel
theorem dX1_countMasked_9 : decode cX1_countMasked 9 = .ok (.if_icmp .ge 21, 3) := by decide +kernel
theorem dX1_countMasked_12 : decode cX1_countMasked 12 = .ok (.aload_n 0, 1) := by decide +kernel
theorem dX1_countMasked_13 : decode cX1_countMasked 13 = .ok (.getfield 28, 3) := by decide +kernel
theorem dX1_countMasked_16 : decode cX1_countMasked 16 = .ok (.iload_n 2, 1) := by decide +kernel
theorem dX1_countMasked_17 : decode cX1_countMasked 17 = .ok (.baload, 1) := by decide +kernel
theorem dX1_countMasked_18 : decode cX1_countMasked 18 = .ok (.ifCond .eq 6, 3) := by decide +kernel
theorem dX1_countMasked_21 : decode cX1_countMasked 21 = .ok (.iinc 1 1, 3) := by decide +kernel
theorem dX1_countMasked_24 : decode cX1_countMasked 24 = .ok (.iinc 2 1, 3) := by decide +kernel
theorem dX1_countMasked_27 : decode cX1_countMasked 27 = .ok (.goto (-23), 3) := by decide +kernel
theorem dX1_countMasked_30 : decode cX1_countMasked 30 = .ok (.iload_n 1, 1) := by decide +kernel
theorem dX1_countMasked_31 : decode cX1_countMasked 31 = .ok (.ireturn, 1) := by decide +kernel
theorem dX1_sumOfChannel_0 : decode cX1_sumOfChannel 0 = .ok (.iconst 0, 1) := by decide +kernel
theorem dX1_sumOfChannel_1 : decode cX1_sumOfChannel 1 = .ok (.istore_n 2, 1) := by decide +kernel
theorem dX1_sumOfChannel_2 : decode cX1_sumOfChannel 2 = .ok (.iconst 0, 1) := by decide +kernel
theorem dX1_sumOfChannel_3 : decode cX1_sumOfChannel 3 = .ok (.istore_n 3, 1) := by decide +kernel
theorem dX1_sumOfChannel_4 : decode cX1_sumOfChannel 4 = .ok (.iload_n 3, 1) := by decide +kernel
theorem dX1_sumOfChannel_5 : decode cX1_sumOfChannel 5 = .ok (.aload_n 0, 1) := by decide +kernel
theorem dX1_sumOfChannel_6 : decode cX1_sumOfChannel 6 = .ok (.getfield 15, 3) := by decide +kernel
theorem dX1_sumOfChannel_9 : decode cX1_sumOfChannel 9 = .ok (.if_icmp .ge 18, 3) := by decide +kernel
theorem dX1_sumOfChannel_12 : decode cX1_sumOfChannel 12 = .ok (.iload_n 2, 1) := by decide +kernel
theorem dX1_sumOfChannel_13 : decode cX1_sumOfChannel 13 = .ok (.aload_n 0, 1) := by decide +kernel
theorem dX1_sumOfChannel_14 : decode cX1_sumOfChannel 14 = .ok (.iload_n 1, 1) := by decide +kernel
theorem dX1_sumOfChannel_15 : decode cX1_sumOfChannel 15 = .ok (.iload_n 3, 1) := by decide +kernel
theorem dX1_sumOfChannel_16 : decode cX1_sumOfChannel 16 = .ok (.invokevirtual 57, 3) := by decide +kernel
theorem dX1_sumOfChannel_19 : decode cX1_sumOfChannel 19 = .ok (.iadd, 1) := by decide +kernel
theorem dX1_sumOfChannel_20 : decode cX1_sumOfChannel 20 = .ok (.istore_n 2, 1) := by decide +kernel
theorem dX1_sumOfChannel_21 : decode cX1_sumOfChannel 21 = .ok (.iinc 3 1, 3) := by decide +kernel
theorem dX1_sumOfChannel_24 : decode cX1_sumOfChannel 24 = .ok (.goto (-20), 3) := by decide +kernel
theorem dX1_sumOfChannel_27 : decode cX1_sumOfChannel 27 = .ok (.iload_n 2, 1) := by decide +kernel
theorem dX1_sumOfChannel_28 : decode cX1_sumOfChannel 28 = .ok (.ireturn, 1) := by decide +kernel
theorem dX1_loudestUnmasked_0 : decode cX1_loudestUnmasked 0 = .ok (.iconst (-1), 1) := by decide +kernel
theorem dX1_loudestUnmasked_1 : decode cX1_loudestUnmasked 1 = .ok (.istore_n 1, 1) := by decide +kernel
theorem dX1_loudestUnmasked_2 : decode cX1_loudestUnmasked 2 = .ok (.iconst (-1), 1) := by decide +kernel
theorem dX1_loudestUnmasked_3 : decode cX1_loudestUnmasked 3 = .ok (.istore_n 2, 1) := by decide +kernel
theorem dX1_loudestUnmasked_4 : decode cX1_loudestUnmasked 4 = .ok (.iconst 0, 1) := by decide +kernel
theorem dX1_loudestUnmasked_5 : decode cX1_loudestUnmasked 5 = .ok (.istore_n 3, 1) := by decide +kernel
theorem dX1_loudestUnmasked_6 : decode cX1_loudestUnmasked 6 = .ok (.iload_n 3, 1) := by decide +kernel
theorem dX1_loudestUnmasked_7 : decode cX1_loudestUnmasked 7 = .ok (.aload_n 0, 1) := by decide +kernel
theorem dX1_loudestUnmasked_8 : decode cX1_loudestUnmasked 8 = .ok (.getfield 9, 3) := by decide +kernel
theorem dX1_loudestUnmasked_11 : decode cX1_loudestUnmasked 11 = .ok (.if_icmp .ge 36, 3) := by decide +kernel
theorem dX1_loudestUnmasked_14 : decode cX1_loudestUnmasked 14 = .ok (.aload_n 0, 1) := by decide +kernel
theorem dX1_loudestUnmasked_15 : decode cX1_loudestUnmasked 15 = .ok (.getfield 28, 3) := by decide +kernel
theorem dX1_loudestUnmasked_18 : decode cX1_loudestUnmasked 18 = .ok (.iload_n 3, 1) := by decide +kernel
theorem dX1_loudestUnmasked_19 : decode cX1_loudestUnmasked 19 = .ok (.baload, 1) := by decide +kernel
theorem dX1_loudestUnmasked_20 : decode cX1_loudestUnmasked 20 = .ok (.ifCond .ne 21, 3) := by decide +kernel
theorem dX1_loudestUnmasked_23 : decode cX1_loudestUnmasked 23 = .ok (.aload_n 0, 1) := by decide +kernel
theorem dX1_loudestUnmasked_24 : decode cX1_loudestUnmasked 24 = .ok (.iload_n 3, 1) := by decide +kernel
theorem dX1_loudestUnmasked_25 : decode cX1_loudestUnmasked 25 = .ok (.invokevirtual 60, 3) := by decide +kernel
theorem dX1_loudestUnmasked_28 : decode cX1_loudestUnmasked 28 = .ok (.istore 4, 2) := by decide +kernel
theorem dX1_loudestUnmasked_30 : decode cX1_loudestUnmasked 30 = .ok (.iload 4, 2) := by decide +kernel
theorem dX1_loudestUnmasked_32 : decode cX1_loudestUnmasked 32 = .ok (.iload_n 2, 1) := by decide +kernel
theorem dX1_loudestUnmasked_33 : decode cX1_loudestUnmasked 33 = .ok (.if_icmp .le 8, 3) := by decide +kernel
theorem dX1_loudestUnmasked_36 : decode cX1_loudestUnmasked 36 = .ok (.iload 4, 2) := by decide +kernel
theorem dX1_loudestUnmasked_38 : decode cX1_loudestUnmasked 38 = .ok (.istore_n 2, 1) := by decide +kernel
theorem dX1_loudestUnmasked_39 : decode cX1_loudestUnmasked 39 = .ok (.iload_n 3, 1) := by decide +kernel
theorem dX1_loudestUnmasked_40 : decode cX1_loudestUnmasked 40 = .ok (.istore_n 1, 1) := by decide +kernel
theorem dX1_loudestUnmasked_41 : decode cX1_loudestUnmasked 41 = .ok (.iinc 3 1, 3) := by decide +kernel
theorem dX1_loudestUnmasked_44 : decode cX1_loudestUnmasked 44 = .ok (.goto (-38), 3) := by decide +kernel
theorem dX1_loudestUnmasked_47 : decode cX1_loudestUnmasked 47 = .ok (.iload_n 1, 1) := by decide +kernel
theorem dX1_loudestUnmasked_48 : decode cX1_loudestUnmasked 48 = .ok (.ireturn, 1) := by decide +kernel
theorem dX2_init_0 : decode cX2_init 0 = .ok (.aload_n 0, 1) := by decide +kernel
theorem dX2_init_1 : decode cX2_init 1 = .ok (.invokespecial 3, 3) := by decide +kernel
theorem dX2_init_4 : decode cX2_init 4 = .ok (.aload_n 0, 1) := by decide +kernel
theorem dX2_init_5 : decode cX2_init 5 = .ok (.iconst 0, 1) := by decide +kernel
theorem dX2_init_6 : decode cX2_init 6 = .ok (.putfield 9, 3) := by decide +kernel
theorem dX2_init_9 : decode cX2_init 9 = .ok (.aload_n 0, 1) := by decide +kernel
theorem dX2_init_10 : decode cX2_init 10 = .ok (.iconst 0, 1) := by decide +kernel
theorem dX2_init_11 : decode cX2_init 11 = .ok (.putfield 15, 3) := by decide +kernel
theorem dX2_init_14 : decode cX2_init 14 = .ok (.aload_n 0, 1) := by decide +kernel
theorem dX2_init_15 : decode cX2_init 15 = .ok (.iconst 0, 1) := by decide +kernel
theorem dX2_init_16 : decode cX2_init 16 = .ok (.putfield 19, 3) := by decide +kernel
theorem dX2_init_19 : decode cX2_init 19 = .ok (.aload_n 0, 1) := by decide +kernel
theorem dX2_init_20 : decode cX2_init 20 = .ok (.sipush 768, 3) := by decide +kernel
theorem dX2_init_23 : decode cX2_init 23 = .ok (.newarray .int, 2) := by decide +kernel
theorem dX2_init_25 : decode cX2_init 25 = .ok (.putfield 22, 3) := by decide +kernel
theorem dX2_init_28 : decode cX2_init 28 = .ok (.aload_n 0, 1) := by decide +kernel
theorem dX2_init_29 : decode cX2_init 29 = .ok (.sipush 768, 3) := by decide +kernel
theorem dX2_init_32 : decode cX2_init 32 = .ok (.newarray .int, 2) := by decide +kernel
theorem dX2_init_34 : decode cX2_init 34 = .ok (.putfield 26, 3) := by decide +kernel
theorem dX2_init_37 : decode cX2_init 37 = .ok (.aload_n 0, 1) := by decide +kernel
theorem dX2_init_38 : decode cX2_init 38 = .ok (.bipush 16, 2) := by decide +kernel
theorem dX2_init_40 : decode cX2_init 40 = .ok (.newarray .long, 2) := by decide +kernel
theorem dX2_init_42 : decode cX2_init 42 = .ok (.putfield 29, 3) := by decide +kernel
theorem dX2_init_45 : decode cX2_init 45 = .ok (.aload_n 0, 1) := by decide +kernel
theorem dX2_init_46 : decode cX2_init 46 = .ok (.bipush 16, 2) := by decide +kernel
theorem dX2_init_48 : decode cX2_init 48 = .ok (.newarray .long, 2) := by decide +kernel
theorem dX2_init_50 : decode cX2_init 50 = .ok (.putfield 33, 3) := by decide +kernel
theorem dX2_init_53 : decode cX2_init 53 = .ok (.return_, 1) := by decide +kernel
theorem dX2_sumAt_0 : decode cX2_sumAt 0 = .ok (.aload_n 0, 1) := by decide +kernel
theorem dX2_sumAt_1 : decode cX2_sumAt 1 = .ok (.getfield 22, 3) := by decide +kernel
theorem dX2_sumAt_4 : decode cX2_sumAt 4 = .ok (.iload_n 1, 1) := by decide +kernel
theorem dX2_sumAt_5 : decode cX2_sumAt 5 = .ok (.bipush 48, 2) := by decide +kernel
theorem dX2_sumAt_7 : decode cX2_sumAt 7 = .ok (.imul, 1) := by decide +kernel
theorem dX2_sumAt_8 : decode cX2_sumAt 8 = .ok (.iload_n 2, 1) := by decide +kernel
theorem dX2_sumAt_9 : decode cX2_sumAt 9 = .ok (.iadd, 1) := by decide +kernel
theorem dX2_sumAt_10 : decode cX2_sumAt 10 = .ok (.iaload, 1) := by decide +kernel
theorem dX2_sumAt_11 : decode cX2_sumAt 11 = .ok (.ireturn, 1) := by decide +kernel
theorem dX2_linesOf_0 : decode cX2_linesOf 0 = .ok (.iconst 0, 1) := by decide +kernel
theorem dX2_linesOf_1 : decode cX2_linesOf 1 = .ok (.aload_n 0, 1) := by decide +kernel
theorem dX2_linesOf_2 : decode cX2_linesOf 2 = .ok (.getfield 19, 3) := by decide +kernel
theorem dX2_linesOf_5 : decode cX2_linesOf 5 = .ok (.iload_n 1, 1) := by decide +kernel
theorem dX2_linesOf_6 : decode cX2_linesOf 6 = .ok (.isub, 1) := by decide +kernel
theorem dX2_linesOf_7 : decode cX2_linesOf 7 = .ok (.invokestatic 36, 3) := by decide +kernel
theorem dX2_linesOf_10 : decode cX2_linesOf 10 = .ok (.ireturn, 1) := by decide +kernel
theorem dX2_refresh_0 : decode cX2_refresh 0 = .ok (.aload_n 0, 1) := by decide +kernel
theorem dX2_refresh_1 : decode cX2_refresh 1 = .ok (.getfield 9, 3) := by decide +kernel
theorem dX2_refresh_4 : decode cX2_refresh 4 = .ok (.ifCond .eq 4, 3) := by decide +kernel
theorem dX2_refresh_7 : decode cX2_refresh 7 = .ok (.return_, 1) := by decide +kernel
theorem dX2_refresh_8 : decode cX2_refresh 8 = .ok (.aload_n 0, 1) := by decide +kernel
theorem dX2_refresh_9 : decode cX2_refresh 9 = .ok (.aload_n 1, 1) := by decide +kernel
theorem dX2_refresh_10 : decode cX2_refresh 10 = .ok (.getfield 42, 3) := by decide +kernel
theorem dX2_refresh_13 : decode cX2_refresh 13 = .ok (.putfield 15, 3) := by decide +kernel
theorem dX2_refresh_16 : decode cX2_refresh 16 = .ok (.aload_n 0, 1) := by decide +kernel
theorem dX2_refresh_17 : decode cX2_refresh 17 = .ok (.aload_n 1, 1) := by decide +kernel
theorem dX2_refresh_18 : decode cX2_refresh 18 = .ok (.getfield 47, 3) := by decide +kernel
theorem dX2_refresh_21 : decode cX2_refresh 21 = .ok (.putfield 19, 3) := by decide +kernel
theorem dX2_refresh_24 : decode cX2_refresh 24 = .ok (.aload_n 0, 1) := by decide +kernel
theorem dX2_refresh_25 : decode cX2_refresh 25 = .ok (.aload_n 1, 1) := by decide +kernel
theorem dX2_refresh_26 : decode cX2_refresh 26 = .ok (.invokevirtual 48, 3) := by decide +kernel
theorem dX2_refresh_29 : decode cX2_refresh 29 = .ok (.iconst 1, 1) := by decide +kernel
theorem dX2_refresh_30 : decode cX2_refresh 30 = .ok (.istore_n 2, 1) := by decide +kernel
theorem dX2_refresh_31 : decode cX2_refresh 31 = .ok (.iload_n 2, 1) := by decide +kernel
theorem dX2_refresh_32 : decode cX2_refresh 32 = .ok (.aload_n 0, 1) := by decide +kernel
theorem dX2_refresh_33 : decode cX2_refresh 33 = .ok (.getfield 15, 3) := by decide +kernel
theorem dX2_refresh_36 : decode cX2_refresh 36 = .ok (.if_icmp .ge 15, 3) := by decide +kernel
theorem dX2_refresh_39 : decode cX2_refresh 39 = .ok (.aload_n 0, 1) := by decide +kernel
theorem dX2_refresh_40 : decode cX2_refresh 40 = .ok (.iload_n 2, 1) := by decide +kernel
theorem dX2_refresh_41 : decode cX2_refresh 41 = .ok (.invokevirtual 52, 3) := by decide +kernel
theorem dX2_refresh_44 : decode cX2_refresh 44 = .ok (.iload_n 2, 1) := by decide +kernel
theorem dX2_refresh_45 : decode cX2_refresh 45 = .ok (.iconst 2, 1) := by decide +kernel
theorem dX2_refresh_46 : decode cX2_refresh 46 = .ok (.imul, 1) := by decide +kernel
theorem dX2_refresh_47 : decode cX2_refresh 47 = .ok (.istore_n 2, 1) := by decide +kernel
theorem dX2_refresh_48 : decode cX2_refresh 48 = .ok (.goto (-17), 3) := by decide +kernel
theorem dX2_refresh_51 : decode cX2_refresh 51 = .ok (.iconst 0, 1) := by decide +kernel
theorem dX2_refresh_52 : decode cX2_refresh 52 = .ok (.istore_n 2, 1) := by decide +kernel
theorem dX2_refresh_53 : decode cX2_refresh 53 = .ok (.iload_n 2, 1) := by decide +kernel
theorem dX2_refresh_54 : decode cX2_refresh 54 = .ok (.aload_n 0, 1) := by decide +kernel
theorem dX2_refresh_55 : decode cX2_refresh 55 = .ok (.getfield 15, 3) := by decide +kernel
theorem dX2_refresh_58 : decode cX2_refresh 58 = .ok (.if_icmp .ge 14, 3) := by decide +kernel
theorem dX2_refresh_61 : decode cX2_refresh 61 = .ok (.aload_n 0, 1) := by decide +kernel
theorem dX2_refresh_62 : decode cX2_refresh 62 = .ok (.iload_n 2, 1) := by decide +kernel
theorem dX2_refresh_63 : decode cX2_refresh 63 = .ok (.invokevirtual 56, 3) := by decide +kernel
theorem dX2_refresh_66 : decode cX2_refresh 66 = .ok (.iinc 2 1, 3) := by decide +kernel
theorem dX2_refresh_69 : decode cX2_refresh 69 = .ok (.goto (-16), 3) := by decide +kernel
theorem dX2_refresh_72 : decode cX2_refresh 72 = .ok (.aload_n 0, 1) := by decide +kernel
theorem dX2_refresh_73 : decode cX2_refresh 73 = .ok (.iconst 1, 1) := by decide +kernel
theorem dX2_refresh_74 : decode cX2_refresh 74 = .ok (.putfield 9, 3) := by decide +kernel
theorem dX2_refresh_77 : decode cX2_refresh 77 = .ok (.return_, 1) := by decide +kernel
theorem dX2_copyPowers_0 : decode cX2_copyPowers 0 = .ok (.iconst 0, 1) := by decide +kernel
theorem dX2_copyPowers_1 : decode cX2_copyPowers 1 = .ok (.istore_n 2, 1) := by decide +kernel
theorem dX2_copyPowers_2 : decode cX2_copyPowers 2 = .ok (.iload_n 2, 1) := by decide +kernel
theorem dX2_copyPowers_3 : decode cX2_copyPowers 3 = .ok (.aload_n 0, 1) := by decide +kernel
theorem dX2_copyPowers_4 : decode cX2_copyPowers 4 = .ok (.getfield 15, 3) := by decide +kernel
theorem dX2_copyPowers_7 : decode cX2_copyPowers 7 = .ok (.if_icmp .ge 55, 3) := by decide +kernel
theorem dX2_copyPowers_10 : decode cX2_copyPowers 10 = .ok (.iconst 0, 1) := by decide +kernel
theorem dX2_copyPowers_11 : decode cX2_copyPowers 11 = .ok (.istore_n 3, 1) := by decide +kernel
theorem dX2_copyPowers_12 : decode cX2_copyPowers 12 = .ok (.iload_n 3, 1) := by decide +kernel
theorem dX2_copyPowers_13 : decode cX2_copyPowers 13 = .ok (.aload_n 0, 1) := by decide +kernel
theorem dX2_copyPowers_14 : decode cX2_copyPowers 14 = .ok (.getfield 19, 3) := by decide +kernel
theorem dX2_copyPowers_17 : decode cX2_copyPowers 17 = .ok (.if_icmp .ge 39, 3) := by decide +kernel
theorem dX2_copyPowers_20 : decode cX2_copyPowers 20 = .ok (.aload_n 0, 1) := by decide +kernel
theorem dX2_copyPowers_21 : decode cX2_copyPowers 21 = .ok (.getfield 22, 3) := by decide +kernel
theorem dX2_copyPowers_24 : decode cX2_copyPowers 24 = .ok (.iload_n 2, 1) := by decide +kernel
theorem dX2_copyPowers_25 : decode cX2_copyPowers 25 = .ok (.bipush 48, 2) := by decide +kernel
theorem dX2_copyPowers_27 : decode cX2_copyPowers 27 = .ok (.imul, 1) := by decide +kernel
theorem dX2_copyPowers_28 : decode cX2_copyPowers 28 = .ok (.iload_n 3, 1) := by decide +kernel
theorem dX2_copyPowers_29 : decode cX2_copyPowers 29 = .ok (.iadd, 1) := by decide +kernel
theorem dX2_copyPowers_30 : decode cX2_copyPowers 30 = .ok (.aload_n 1, 1) := by decide +kernel
theorem dX2_copyPowers_31 : decode cX2_copyPowers 31 = .ok (.getfield 59, 3) := by decide +kernel
theorem dX2_copyPowers_34 : decode cX2_copyPowers 34 = .ok (.iload_n 2, 1) := by decide +kernel
theorem dX2_copyPowers_35 : decode cX2_copyPowers 35 = .ok (.baload, 1) := by decide +kernel
theorem dX2_copyPowers_36 : decode cX2_copyPowers 36 = .ok (.ifCond .eq 7, 3) := by decide +kernel
theorem dX2_copyPowers_39 : decode cX2_copyPowers 39 = .ok (.iconst 0, 1) := by decide +kernel
theorem dX2_copyPowers_40 : decode cX2_copyPowers 40 = .ok (.goto 9, 3) := by decide +kernel
theorem dX2_copyPowers_43 : decode cX2_copyPowers 43 = .ok (.aload_n 1, 1) := by decide +kernel
theorem dX2_copyPowers_44 : decode cX2_copyPowers 44 = .ok (.iload_n 2, 1) := by decide +kernel
theorem dX2_copyPowers_45 : decode cX2_copyPowers 45 = .ok (.iload_n 3, 1) := by decide +kernel
theorem dX2_copyPowers_46 : decode cX2_copyPowers 46 = .ok (.invokevirtual 63, 3) := by decide +kernel
theorem dX2_copyPowers_49 : decode cX2_copyPowers 49 = .ok (.iastore, 1) := by decide +kernel
theorem dX2_copyPowers_50 : decode cX2_copyPowers 50 = .ok (.iinc 3 1, 3) := by decide +kernel
theorem dX2_copyPowers_53 : decode cX2_copyPowers 53 = .ok (.goto (-41), 3) := by decide +kernel
theorem dX2_copyPowers_56 : decode cX2_copyPowers 56 = .ok (.iinc 2 1, 3) := by decide +kernel
theorem dX2_copyPowers_59 : decode cX2_copyPowers 59 = .ok (.goto (-57), 3) := by decide +kernel
theorem dX2_copyPowers_62 : decode cX2_copyPowers 62 = .ok (.return_, 1) := by decide +kernel
theorem dX2_joinBlocks_0 : decode cX2_joinBlocks 0 = .ok (.iconst 0, 1) := by decide +kernel
theorem dX2_joinBlocks_1 : decode cX2_joinBlocks 1 = .ok (.istore_n 2, 1) := by decide +kernel
theorem dX2_joinBlocks_2 : decode cX2_joinBlocks 2 = .ok (.iload_n 2, 1) := by decide +kernel
theorem dX2_joinBlocks_3 : decode cX2_joinBlocks 3 = .ok (.aload_n 0, 1) := by decide +kernel
theorem dX2_joinBlocks_4 : decode cX2_joinBlocks 4 = .ok (.getfield 15, 3) := by decide +kernel
theorem dX2_joinBlocks_7 : decode cX2_joinBlocks 7 = .ok (.if_icmp .ge 26, 3) := by decide +kernel
theorem dX2_joinBlocks_10 : decode cX2_joinBlocks 10 = .ok (.iload_n 2, 1) := by decide +kernel
theorem dX2_joinBlocks_11 : decode cX2_joinBlocks 11 = .ok (.iconst 2, 1) := by decide +kernel
theorem dX2_joinBlocks_12 : decode cX2_joinBlocks 12 = .ok (.iload_n 1, 1) := by decide +kernel
theorem dX2_joinBlocks_13 : decode cX2_joinBlocks 13 = .ok (.imul, 1) := by decide +kernel
theorem dX2_joinBlocks_14 : decode cX2_joinBlocks 14 = .ok (.iconst 1, 1) := by decide +kernel
theorem dX2_joinBlocks_15 : decode cX2_joinBlocks 15 = .ok (.isub, 1) := by decide +kernel
theorem dX2_joinBlocks_16 : decode cX2_joinBlocks 16 = .ok (.iand, 1) := by decide +kernel
theorem dX2_joinBlocks_17 : decode cX2_joinBlocks 17 = .ok (.istore_n 3, 1) := by decide +kernel
theorem dX2_joinBlocks_18 : decode cX2_joinBlocks 18 = .ok (.aload_n 0, 1) := by decide +kernel
theorem dX2_joinBlocks_19 : decode cX2_joinBlocks 19 = .ok (.iload_n 2, 1) := by decide +kernel
theorem dX2_joinBlocks_20 : decode cX2_joinBlocks 20 = .ok (.iload_n 3, 1) := by decide +kernel
theorem dX2_joinBlocks_21 : decode cX2_joinBlocks 21 = .ok (.isub, 1) := by decide +kernel
theorem dX2_joinBlocks_22 : decode cX2_joinBlocks 22 = .ok (.iload_n 1, 1) := by decide +kernel
theorem dX2_joinBlocks_23 : decode cX2_joinBlocks 23 = .ok (.iload_n 3, 1) := by decide +kernel
theorem dX2_joinBlocks_24 : decode cX2_joinBlocks 24 = .ok (.invokevirtual 66, 3) := by decide +kernel
theorem dX2_joinBlocks_27 : decode cX2_joinBlocks 27 = .ok (.iinc 2 1, 3) := by decide +kernel
theorem dX2_joinBlocks_30 : decode cX2_joinBlocks 30 = .ok (.goto (-28), 3) := by decide +kernel
theorem dX2_joinBlocks_33 : decode cX2_joinBlocks 33 = .ok (.aload_n 0, 1) := by decide +kernel
theorem dX2_joinBlocks_34 : decode cX2_joinBlocks 34 = .ok (.getfield 26, 3) := by decide +kernel
theorem dX2_joinBlocks_37 : decode cX2_joinBlocks 37 = .ok (.astore_n 2, 1) := by decide +kernel
theorem dX2_joinBlocks_38 : decode cX2_joinBlocks 38 = .ok (.aload_n 0, 1) := by decide +kernel
theorem dX2_joinBlocks_39 : decode cX2_joinBlocks 39 = .ok (.aload_n 0, 1) := by decide +kernel
theorem dX2_joinBlocks_40 : decode cX2_joinBlocks 40 = .ok (.getfield 22, 3) := by decide +kernel
theorem dX2_joinBlocks_43 : decode cX2_joinBlocks 43 = .ok (.putfield 26, 3) := by decide +kernel
theorem dX2_joinBlocks_46 : decode cX2_joinBlocks 46 = .ok (.aload_n 0, 1) := by decide +kernel
theorem dX2_joinBlocks_47 : decode cX2_joinBlocks 47 = .ok (.aload_n 2, 1) := by decide +kernel
theorem dX2_joinBlocks_48 : decode cX2_joinBlocks 48 = .ok (.putfield 22, 3) := by decide +kernel
theorem dX2_joinBlocks_51 : decode cX2_joinBlocks 51 = .ok (.return_, 1) := by decide +kernel
theorem dX2_joinRows_0 : decode cX2_joinRows 0 = .ok (.iload_n 3, 1) := by decide +kernel
theorem dX2_joinRows_1 : decode cX2_joinRows 1 = .ok (.iconst 2, 1) := by decide +kernel
theorem dX2_joinRows_2 : decode cX2_joinRows 2 = .ok (.idiv, 1) := by decide +kernel
theorem dX2_joinRows_3 : decode cX2_joinRows 3 = .ok (.istore 4, 2) := by decide +kernel
theorem dX2_joinRows_5 : decode cX2_joinRows 5 = .ok (.iload_n 1, 1) := by decide +kernel
theorem dX2_joinRows_6 : decode cX2_joinRows 6 = .ok (.iload 4, 2) := by decide +kernel
theorem dX2_joinRows_8 : decode cX2_joinRows 8 = .ok (.iadd, 1) := by decide +kernel
theorem dX2_joinRows_9 : decode cX2_joinRows 9 = .ok (.bipush 48, 2) := by decide +kernel
theorem dX2_joinRows_11 : decode cX2_joinRows 11 = .ok (.imul, 1) := by decide +kernel
theorem dX2_joinRows_12 : decode cX2_joinRows 12 = .ok (.istore 5, 2) := by decide +kernel
theorem dX2_joinRows_14 : decode cX2_joinRows 14 = .ok (.iload_n 1, 1) := by decide +kernel
theorem dX2_joinRows_15 : decode cX2_joinRows 15 = .ok (.iload_n 2, 1) := by decide +kernel
theorem dX2_joinRows_16 : decode cX2_joinRows 16 = .ok (.iadd, 1) := by decide +kernel
theorem dX2_joinRows_17 : decode cX2_joinRows 17 = .ok (.iload 4, 2) := by decide +kernel
theorem dX2_joinRows_19 : decode cX2_joinRows 19 = .ok (.iadd, 1) := by decide +kernel
theorem dX2_joinRows_20 : decode cX2_joinRows 20 = .ok (.bipush 48, 2) := by decide +kernel
theorem dX2_joinRows_22 : decode cX2_joinRows 22 = .ok (.imul, 1) := by decide +kernel
theorem dX2_joinRows_23 : decode cX2_joinRows 23 = .ok (.iload_n 3, 1) := by decide +kernel
theorem dX2_joinRows_24 : decode cX2_joinRows 24 = .ok (.iadd, 1) := by decide +kernel
theorem dX2_joinRows_25 : decode cX2_joinRows 25 = .ok (.iload 4, 2) := by decide +kernel
theorem dX2_joinRows_27 : decode cX2_joinRows 27 = .ok (.isub, 1) := by decide +kernel
theorem dX2_joinRows_28 : decode cX2_joinRows 28 = .ok (.istore 6, 2) := by decide +kernel
theorem dX2_joinRows_30 : decode cX2_joinRows 30 = .ok (.iload_n 1, 1) := by decide +kernel
theorem dX2_joinRows_31 : decode cX2_joinRows 31 = .ok (.iload_n 3, 1) := by decide +kernel
theorem dX2_joinRows_32 : decode cX2_joinRows 32 = .ok (.iadd, 1) := by decide +kernel
theorem dX2_joinRows_33 : decode cX2_joinRows 33 = .ok (.bipush 48, 2) := by decide +kernel
theorem dX2_joinRows_35 : decode cX2_joinRows 35 = .ok (.imul, 1) := by decide +kernel
theorem dX2_joinRows_36 : decode cX2_joinRows 36 = .ok (.istore 7, 2) := by decide +kernel
theorem dX2_joinRows_38 : decode cX2_joinRows 38 = .ok (.aload_n 0, 1) := by decide +kernel
theorem dX2_joinRows_39 : decode cX2_joinRows 39 = .ok (.iload_n 3, 1) := by decide +kernel
theorem dX2_joinRows_40 : decode cX2_joinRows 40 = .ok (.invokevirtual 70, 3) := by decide +kernel
theorem dX2_joinRows_43 : decode cX2_joinRows 43 = .ok (.istore 8, 2) := by decide +kernel
theorem dX2_joinRows_45 : decode cX2_joinRows 45 = .ok (.iconst 0, 1) := by decide +kernel
theorem dX2_joinRows_46 : decode cX2_joinRows 46 = .ok (.istore 9, 2) := by decide +kernel
theorem dX2_joinRows_48 : decode cX2_joinRows 48 = .ok (.iload 9, 2) := by decide +kernel
theorem dX2_joinRows_50 : decode cX2_joinRows 50 = .ok (.iload 8, 2) := by decide +kernel
theorem dX2_joinRows_52 : decode cX2_joinRows 52 = .ok (.if_icmp .ge 40, 3) := by decide +kernel
theorem dX2_joinRows_55 : decode cX2_joinRows 55 = .ok (.aload_n 0, 1) := by decide +kernel
theorem dX2_joinRows_56 : decode cX2_joinRows 56 = .ok (.getfield 26, 3) := by decide +kernel
theorem dX2_joinRows_59 : decode cX2_joinRows 59 = .ok (.iload 7, 2) := by decide +kernel
theorem dX2_joinRows_61 : decode cX2_joinRows 61 = .ok (.iload 9, 2) := by decide +kernel
theorem dX2_joinRows_63 : decode cX2_joinRows 63 = .ok (.iadd, 1) := by decide +kernel
theorem dX2_joinRows_64 : decode cX2_joinRows 64 = .ok (.aload_n 0, 1) := by decide +kernel
theorem dX2_joinRows_65 : decode cX2_joinRows 65 = .ok (.getfield 22, 3) := by decide +kernel
theorem dX2_joinRows_68 : decode cX2_joinRows 68 = .ok (.iload 5, 2) := by decide +kernel
theorem dX2_joinRows_70 : decode cX2_joinRows 70 = .ok (.iload 9, 2) := by decide +kernel
theorem dX2_joinRows_72 : decode cX2_joinRows 72 = .ok (.iadd, 1) := by decide +kernel
theorem dX2_joinRows_73 : decode cX2_joinRows 73 = .ok (.iaload, 1) := by decide +kernel
theorem dX2_joinRows_74 : decode cX2_joinRows 74 = .ok (.aload_n 0, 1) := by decide +kernel
theorem dX2_joinRows_75 : decode cX2_joinRows 75 = .ok (.getfield 22, 3) := by decide +kernel
theorem dX2_joinRows_78 : decode cX2_joinRows 78 = .ok (.iload 6, 2) := by decide +kernel
theorem dX2_joinRows_80 : decode cX2_joinRows 80 = .ok (.iload 9, 2) := by decide +kernel
theorem dX2_joinRows_82 : decode cX2_joinRows 82 = .ok (.iadd, 1) := by decide +kernel
theorem dX2_joinRows_83 : decode cX2_joinRows 83 = .ok (.iaload, 1) := by decide +kernel
theorem dX2_joinRows_84 : decode cX2_joinRows 84 = .ok (.iadd, 1) := by decide +kernel
theorem dX2_joinRows_85 : decode cX2_joinRows 85 = .ok (.iastore, 1) := by decide +kernel
theorem dX2_joinRows_86 : decode cX2_joinRows 86 = .ok (.iinc 9 1, 3) := by decide +kernel
theorem dX2_joinRows_89 : decode cX2_joinRows 89 = .ok (.goto (-41), 3) := by decide +kernel
theorem dX2_joinRows_92 : decode cX2_joinRows 92 = .ok (.return_, 1) := by decide +kernel
theorem dX2_measure_0 : decode cX2_measure 0 = .ok (.lconst 0, 1) := by decide +kernel
theorem dX2_measure_1 : decode cX2_measure 1 = .ok (.lstore_n 2, 1) := by decide +kernel
theorem dX2_measure_2 : decode cX2_measure 2 = .ok (.lconst 0, 1) := by decide +kernel
theorem dX2_measure_3 : decode cX2_measure 3 = .ok (.lstore 4, 2) := by decide +kernel
theorem dX2_measure_5 : decode cX2_measure 5 = .ok (.aload_n 0, 1) := by decide +kernel
theorem dX2_measure_6 : decode cX2_measure 6 = .ok (.iload_n 1, 1) := by decide +kernel
theorem dX2_measure_7 : decode cX2_measure 7 = .ok (.invokevirtual 70, 3) := by decide +kernel
theorem dX2_measure_10 : decode cX2_measure 10 = .ok (.istore 6, 2) := by decide +kernel
theorem dX2_measure_12 : decode cX2_measure 12 = .ok (.iconst 0, 1) := by decide +kernel
theorem dX2_measure_13 : decode cX2_measure 13 = .ok (.istore 7, 2) := by decide +kernel
theorem dX2_measure_15 : decode cX2_measure 15 = .ok (.iload 7, 2) := by decide +kernel
theorem dX2_measure_17 : decode cX2_measure 17 = .ok (.iload 6, 2) := by decide +kernel
theorem dX2_measure_19 : decode cX2_measure 19 = .ok (.if_icmp .ge 34, 3) := by decide +kernel
theorem dX2_measure_22 : decode cX2_measure 22 = .ok (.aload_n 0, 1) := by decide +kernel
theorem dX2_measure_23 : decode cX2_measure 23 = .ok (.iload_n 1, 1) := by decide +kernel
theorem dX2_measure_24 : decode cX2_measure 24 = .ok (.iload 7, 2) := by decide +kernel
theorem dX2_measure_26 : decode cX2_measure 26 = .ok (.invokevirtual 74, 3) := by decide +kernel
theorem dX2_measure_29 : decode cX2_measure 29 = .ok (.i2l, 1) := by decide +kernel
theorem dX2_measure_30 : decode cX2_measure 30 = .ok (.lstore 8, 2) := by decide +kernel
theorem dX2_measure_32 : decode cX2_measure 32 = .ok (.lload_n 2, 1) := by decide +kernel
theorem dX2_measure_33 : decode cX2_measure 33 = .ok (.lload 8, 2) := by decide +kernel
theorem dX2_measure_35 : decode cX2_measure 35 = .ok (.ladd, 1) := by decide +kernel
theorem dX2_measure_36 : decode cX2_measure 36 = .ok (.lstore_n 2, 1) := by decide +kernel
theorem dX2_measure_37 : decode cX2_measure 37 = .ok (.lload 4, 2) := by decide +kernel
theorem dX2_measure_39 : decode cX2_measure 39 = .ok (.lload 8, 2) := by decide +kernel
theorem dX2_measure_41 : decode cX2_measure 41 = .ok (.lload 8, 2) := by decide +kernel
theorem dX2_measure_43 : decode cX2_measure 43 = .ok (.lmul, 1) := by decide +kernel
theorem dX2_measure_44 : decode cX2_measure 44 = .ok (.ladd, 1) := by decide +kernel
theorem dX2_measure_45 : decode cX2_measure 45 = .ok (.lstore 4, 2) := by decide +kernel
theorem dX2_measure_47 : decode cX2_measure 47 = .ok (.iinc 7 1, 3) := by decide +kernel
theorem dX2_measure_50 : decode cX2_measure 50 = .ok (.goto (-35), 3) := by decide +kernel
theorem dX2_measure_53 : decode cX2_measure 53 = .ok (.aload_n 0, 1) := by decide +kernel
theorem dX2_measure_54 : decode cX2_measure 54 = .ok (.getfield 29, 3) := by decide +kernel
theorem dX2_measure_57 : decode cX2_measure 57 = .ok (.iload_n 1, 1) := by decide +kernel
theorem dX2_measure_58 : decode cX2_measure 58 = .ok (.lload_n 2, 1) := by decide +kernel
theorem dX2_measure_59 : decode cX2_measure 59 = .ok (.lastore, 1) := by decide +kernel
theorem dX2_measure_60 : decode cX2_measure 60 = .ok (.aload_n 0, 1) := by decide +kernel
theorem dX2_measure_61 : decode cX2_measure 61 = .ok (.getfield 33, 3) := by decide +kernel
theorem dX2_measure_64 : decode cX2_measure 64 = .ok (.iload_n 1, 1) := by decide +kernel
theorem dX2_measure_65 : decode cX2_measure 65 = .ok (.iload 6, 2) := by decide +kernel
theorem dX2_measure_67 : decode cX2_measure 67 = .ok (.i2l, 1) := by decide +kernel
theorem dX2_measure_68 : decode cX2_measure 68 = .ok (.lload 4, 2) := by decide +kernel
theorem dX2_measure_70 : decode cX2_measure 70 = .ok (.lmul, 1) := by decide +kernel
theorem dX2_measure_71 : decode cX2_measure 71 = .ok (.lload_n 2, 1) := by decide +kernel
theorem dX2_measure_72 : decode cX2_measure 72 = .ok (.lload_n 2, 1) := by decide +kernel
theorem dX2_measure_73 : decode cX2_measure 73 = .ok (.lmul, 1) := by decide +kernel
theorem dX2_measure_74 : decode cX2_measure 74 = .ok (.lsub, 1) := by decide +kernel
theorem dX2_measure_75 : decode cX2_measure 75 = .ok (.lastore, 1) := by decide +kernel
theorem dX2_measure_76 : decode cX2_measure 76 = .ok (.return_, 1) := by decide +kernel
theorem dX2_sumOfBox_0 : decode cX2_sumOfBox 0 = .ok (.iconst 0, 1) := by decide +kernel
theorem dX2_sumOfBox_1 : decode cX2_sumOfBox 1 = .ok (.istore 4, 2) := by decide +kernel
theorem dX2_sumOfBox_3 : decode cX2_sumOfBox 3 = .ok (.iload_n 2, 1) := by decide +kernel
theorem dX2_sumOfBox_4 : decode cX2_sumOfBox 4 = .ok (.istore 5, 2) := by decide +kernel
theorem dX2_sumOfBox_6 : decode cX2_sumOfBox 6 = .ok (.iload 5, 2) := by decide +kernel
theorem dX2_sumOfBox_8 : decode cX2_sumOfBox 8 = .ok (.iload_n 2, 1) := by decide +kernel
theorem dX2_sumOfBox_9 : decode cX2_sumOfBox 9 = .ok (.iload_n 3, 1) := by decide +kernel
theorem dX2_sumOfBox_10 : decode cX2_sumOfBox 10 = .ok (.iadd, 1) := by decide +kernel
theorem dX2_sumOfBox_11 : decode cX2_sumOfBox 11 = .ok (.if_icmp .ge 21, 3) := by decide +kernel
theorem dX2_sumOfBox_14 : decode cX2_sumOfBox 14 = .ok (.iload 4, 2) := by decide +kernel
theorem dX2_sumOfBox_16 : decode cX2_sumOfBox 16 = .ok (.aload_n 0, 1) := by decide +kernel
theorem dX2_sumOfBox_17 : decode cX2_sumOfBox 17 = .ok (.iload_n 1, 1) := by decide +kernel
theorem dX2_sumOfBox_18 : decode cX2_sumOfBox 18 = .ok (.iload 5, 2) := by decide +kernel
theorem dX2_sumOfBox_20 : decode cX2_sumOfBox 20 = .ok (.invokevirtual 74, 3) := by decide +kernel
theorem dX2_sumOfBox_23 : decode cX2_sumOfBox 23 = .ok (.iadd, 1) := by decide +kernel
theorem dX2_sumOfBox_24 : decode cX2_sumOfBox 24 = .ok (.istore 4, 2) := by decide +kernel
theorem dX2_sumOfBox_26 : decode cX2_sumOfBox 26 = .ok (.iinc 5 1, 3) := by decide +kernel
theorem dX2_sumOfBox_29 : decode cX2_sumOfBox 29 = .ok (.goto (-23), 3) := by decide +kernel
theorem dX2_sumOfBox_32 : decode cX2_sumOfBox 32 = .ok (.iload 4, 2) := by decide +kernel
theorem dX2_sumOfBox_34 : decode cX2_sumOfBox 34 = .ok (.ireturn, 1) := by decide +kernel
theorem dX2_scoreOf_0 : decode cX2_scoreOf 0 = .ok (.aload_n 0, 1) := by decide +kernel
theorem dX2_scoreOf_1 : decode cX2_scoreOf 1 = .ok (.iload_n 1, 1) := by decide +kernel
theorem dX2_scoreOf_2 : decode cX2_scoreOf 2 = .ok (.invokevirtual 70, 3) := by decide +kernel
theorem dX2_scoreOf_5 : decode cX2_scoreOf 5 = .ok (.i2l, 1) := by decide +kernel
theorem dX2_scoreOf_6 : decode cX2_scoreOf 6 = .ok (.lload_n 3, 1) := by decide +kernel
theorem dX2_scoreOf_7 : decode cX2_scoreOf 7 = .ok (.lmul, 1) := by decide +kernel
theorem dX2_scoreOf_8 : decode cX2_scoreOf 8 = .ok (.iload_n 2, 1) := by decide +kernel
theorem dX2_scoreOf_9 : decode cX2_scoreOf 9 = .ok (.i2l, 1) := by decide +kernel
theorem dX2_scoreOf_10 : decode cX2_scoreOf 10 = .ok (.aload_n 0, 1) := by decide +kernel
theorem dX2_scoreOf_11 : decode cX2_scoreOf 11 = .ok (.getfield 29, 3) := by decide +kernel
theorem dX2_scoreOf_14 : decode cX2_scoreOf 14 = .ok (.iload_n 1, 1) := by decide +kernel
theorem dX2_scoreOf_15 : decode cX2_scoreOf 15 = .ok (.laload, 1) := by decide +kernel
theorem dX2_scoreOf_16 : decode cX2_scoreOf 16 = .ok (.lmul, 1) := by decide +kernel
theorem dX2_scoreOf_17 : decode cX2_scoreOf 17 = .ok (.lsub, 1) := by decide +kernel
theorem dX2_scoreOf_18 : decode cX2_scoreOf 18 = .ok (.lstore 5, 2) := by decide +kernel
theorem dX2_scoreOf_20 : decode cX2_scoreOf 20 = .ok (.iload_n 2, 1) := by decide +kernel
theorem dX2_scoreOf_21 : decode cX2_scoreOf 21 = .ok (.i2l, 1) := by decide +kernel
theorem dX2_scoreOf_22 : decode cX2_scoreOf 22 = .ok (.aload_n 0, 1) := by decide +kernel
theorem dX2_scoreOf_23 : decode cX2_scoreOf 23 = .ok (.getfield 33, 3) := by decide +kernel
theorem dX2_scoreOf_26 : decode cX2_scoreOf 26 = .ok (.iload_n 1, 1) := by decide +kernel
theorem dX2_scoreOf_27 : decode cX2_scoreOf 27 = .ok (.laload, 1) := by decide +kernel
theorem dX2_scoreOf_28 : decode cX2_scoreOf 28 = .ok (.lmul, 1) := by decide +kernel
theorem dX2_scoreOf_29 : decode cX2_scoreOf 29 = .ok (.lstore 7, 2) := by decide +kernel
theorem dX2_scoreOf_31 : decode cX2_scoreOf 31 = .ok (.lload 5, 2) := by decide +kernel
theorem dX2_scoreOf_33 : decode cX2_scoreOf 33 = .ok (.lconst 0, 1) := by decide +kernel
theorem dX2_scoreOf_34 : decode cX2_scoreOf 34 = .ok (.lcmp, 1) := by decide +kernel
theorem dX2_scoreOf_35 : decode cX2_scoreOf 35 = .ok (.ifCond .le 10, 3) := by decide +kernel
theorem dX2_scoreOf_38 : decode cX2_scoreOf 38 = .ok (.lload 7, 2) := by decide +kernel
theorem dX2_scoreOf_40 : decode cX2_scoreOf 40 = .ok (.lconst 0, 1) := by decide +kernel
theorem dX2_scoreOf_41 : decode cX2_scoreOf 41 = .ok (.lcmp, 1) := by decide +kernel
theorem dX2_scoreOf_42 : decode cX2_scoreOf 42 = .ok (.ifCond .gt 5, 3) := by decide +kernel
theorem dX2_scoreOf_45 : decode cX2_scoreOf 45 = .ok (.lconst 0, 1) := by decide +kernel
theorem dX2_scoreOf_46 : decode cX2_scoreOf 46 = .ok (.lreturn, 1) := by decide +kernel
theorem dX2_scoreOf_47 : decode cX2_scoreOf 47 = .ok (.ldc2_w 77, 3) := by decide +kernel
theorem dX2_scoreOf_50 : decode cX2_scoreOf 50 = .ok (.lload 5, 2) := by decide +kernel
theorem dX2_scoreOf_52 : decode cX2_scoreOf 52 = .ok (.lmul, 1) := by decide +kernel
theorem dX2_scoreOf_53 : decode cX2_scoreOf 53 = .ok (.lload 5, 2) := by decide +kernel
theorem dX2_scoreOf_55 : decode cX2_scoreOf 55 = .ok (.lmul, 1) := by decide +kernel
theorem dX2_scoreOf_56 : decode cX2_scoreOf 56 = .ok (.lload 7, 2) := by decide +kernel
theorem dX2_scoreOf_58 : decode cX2_scoreOf 58 = .ok (.ldiv, 1) := by decide +kernel
theorem dX2_scoreOf_59 : decode cX2_scoreOf 59 = .ok (.lreturn, 1) := by decide +kernel
theorem dX3_init_0 : decode cX3_init 0 = .ok (.aload_n 0, 1) := by decide +kernel
theorem dX3_init_1 : decode cX3_init 1 = .ok (.invokespecial 3, 3) := by decide +kernel
theorem dX3_init_4 : decode cX3_init 4 = .ok (.aload_n 0, 1) := by decide +kernel
theorem dX3_init_5 : decode cX3_init 5 = .ok (.iconst 0, 1) := by decide +kernel
theorem dX3_init_6 : decode cX3_init 6 = .ok (.putfield 9, 3) := by decide +kernel
theorem dX3_init_9 : decode cX3_init 9 = .ok (.aload_n 0, 1) := by decide +kernel
theorem dX3_init_10 : decode cX3_init 10 = .ok (.bipush 64, 2) := by decide +kernel
theorem dX3_init_12 : decode cX3_init 12 = .ok (.newarray .int, 2) := by decide +kernel
theorem dX3_init_14 : decode cX3_init 14 = .ok (.putfield 15, 3) := by decide +kernel
theorem dX3_init_17 : decode cX3_init 17 = .ok (.return_, 1) := by decide +kernel
theorem dX3_powerOf_0 : decode cX3_powerOf 0 = .ok (.iload_n 0, 1) := by decide +kernel
theorem dX3_powerOf_1 : decode cX3_powerOf 1 = .ok (.bipush 48, 2) := by decide +kernel
theorem dX3_powerOf_3 : decode cX3_powerOf 3 = .ok (.if_icmp .lt 14, 3) := by decide +kernel
theorem dX3_powerOf_6 : decode cX3_powerOf 6 = .ok (.iload_n 0, 1) := by decide +kernel
theorem dX3_powerOf_7 : decode cX3_powerOf 7 = .ok (.bipush 57, 2) := by decide +kernel
theorem dX3_powerOf_9 : decode cX3_powerOf 9 = .ok (.if_icmp .gt 8, 3) := by decide +kernel
theorem dX3_powerOf_12 : decode cX3_powerOf 12 = .ok (.iload_n 0, 1) := by decide +kernel
theorem dX3_powerOf_13 : decode cX3_powerOf 13 = .ok (.bipush 48, 2) := by decide +kernel
theorem dX3_powerOf_15 : decode cX3_powerOf 15 = .ok (.isub, 1) := by decide +kernel
theorem dX3_powerOf_16 : decode cX3_powerOf 16 = .ok (.ireturn, 1) := by decide +kernel
theorem dX3_powerOf_17 : decode cX3_powerOf 17 = .ok (.iload_n 0, 1) := by decide +kernel
theorem dX3_powerOf_18 : decode cX3_powerOf 18 = .ok (.bipush 65, 2) := by decide +kernel
theorem dX3_powerOf_20 : decode cX3_powerOf 20 = .ok (.if_icmp .lt 17, 3) := by decide +kernel
theorem dX3_powerOf_23 : decode cX3_powerOf 23 = .ok (.iload_n 0, 1) := by decide +kernel
theorem dX3_powerOf_24 : decode cX3_powerOf 24 = .ok (.bipush 90, 2) := by decide +kernel
theorem dX3_powerOf_26 : decode cX3_powerOf 26 = .ok (.if_icmp .gt 11, 3) := by decide +kernel
theorem dX3_powerOf_29 : decode cX3_powerOf 29 = .ok (.iload_n 0, 1) := by decide +kernel
theorem dX3_powerOf_30 : decode cX3_powerOf 30 = .ok (.bipush 65, 2) := by decide +kernel
theorem dX3_powerOf_32 : decode cX3_powerOf 32 = .ok (.isub, 1) := by decide +kernel
theorem dX3_powerOf_33 : decode cX3_powerOf 33 = .ok (.bipush 10, 2) := by decide +kernel
theorem dX3_powerOf_35 : decode cX3_powerOf 35 = .ok (.iadd, 1) := by decide +kernel
theorem dX3_powerOf_36 : decode cX3_powerOf 36 = .ok (.ireturn, 1) := by decide +kernel
theorem dX3_powerOf_37 : decode cX3_powerOf 37 = .ok (.iconst (-1), 1) := by decide +kernel
theorem dX3_powerOf_38 : decode cX3_powerOf 38 = .ok (.ireturn, 1) := by decide +kernel
theorem dX3_indexOfFirstError_0 : decode cX3_indexOfFirstError 0 = .ok (.iconst 0, 1) := by decide +kernel
theorem dX3_indexOfFirstError_1 : decode cX3_indexOfFirstError 1 = .ok (.istore_n 1, 1) := by decide +kernel
theorem dX3_indexOfFirstError_2 : decode cX3_indexOfFirstError 2 = .ok (.iload_n 1, 1) := by decide +kernel
theorem dX3_indexOfFirstError_3 : decode cX3_indexOfFirstError 3 = .ok (.aload_n 0, 1) := by decide +kernel
theorem dX3_indexOfFirstError_4 : decode cX3_indexOfFirstError 4 = .ok (.getfield 9, 3) := by decide +kernel
theorem dX3_indexOfFirstError_7 : decode cX3_indexOfFirstError 7 = .ok (.if_icmp .ge 24, 3) := by decide +kernel
theorem dX3_indexOfFirstError_10 : decode cX3_indexOfFirstError 10 = .ok (.aload_n 0, 1) := by decide +kernel
theorem dX3_indexOfFirstError_11 : decode cX3_indexOfFirstError 11 = .ok (.getfield 15, 3) := by decide +kernel
theorem dX3_indexOfFirstError_14 : decode cX3_indexOfFirstError 14 = .ok (.iload_n 1, 1) := by decide +kernel
theorem dX3_indexOfFirstError_15 : decode cX3_indexOfFirstError 15 = .ok (.iaload, 1) := by decide +kernel
theorem dX3_indexOfFirstError_16 : decode cX3_indexOfFirstError 16 = .ok (.invokestatic 19, 3) := by decide +kernel
theorem dX3_indexOfFirstError_19 : decode cX3_indexOfFirstError 19 = .ok (.iconst (-1), 1) := by decide +kernel
theorem dX3_indexOfFirstError_20 : decode cX3_indexOfFirstError 20 = .ok (.if_icmp .ne 5, 3) := by decide +kernel
theorem dX3_indexOfFirstError_23 : decode cX3_indexOfFirstError 23 = .ok (.iload_n 1, 1) := by decide +kernel
theorem dX3_indexOfFirstError_24 : decode cX3_indexOfFirstError 24 = .ok (.ireturn, 1) := by decide +kernel
theorem dX3_indexOfFirstError_25 : decode cX3_indexOfFirstError 25 = .ok (.iinc 1 1, 3) := by decide +kernel
theorem dX3_indexOfFirstError_28 : decode cX3_indexOfFirstError 28 = .ok (.goto (-26), 3) := by decide +kernel
theorem dX3_indexOfFirstError_31 : decode cX3_indexOfFirstError 31 = .ok (.aload_n 0, 1) := by decide +kernel
theorem dX3_indexOfFirstError_32 : decode cX3_indexOfFirstError 32 = .ok (.getfield 9, 3) := by decide +kernel
theorem dX3_indexOfFirstError_35 : decode cX3_indexOfFirstError 35 = .ok (.ireturn, 1) := by decide +kernel
theorem dX3_countColumns_0 : decode cX3_countColumns 0 = .ok (.iload_n 1, 1) := by decide +kernel
theorem dX3_countColumns_1 : decode cX3_countColumns 1 = .ok (.iconst 1, 1) := by decide +kernel
theorem dX3_countColumns_2 : decode cX3_countColumns 2 = .ok (.if_icmp .lt 23, 3) := by decide +kernel
theorem dX3_countColumns_5 : decode cX3_countColumns 5 = .ok (.aload_n 0, 1) := by decide +kernel
theorem dX3_countColumns_6 : decode cX3_countColumns 6 = .ok (.getfield 9, 3) := by decide +kernel
theorem dX3_countColumns_9 : decode cX3_countColumns 9 = .ok (.iload_n 1, 1) := by decide +kernel
theorem dX3_countColumns_10 : decode cX3_countColumns 10 = .ok (.irem, 1) := by decide +kernel
theorem dX3_countColumns_11 : decode cX3_countColumns 11 = .ok (.ifCond .ne 14, 3) := by decide +kernel
theorem dX3_countColumns_14 : decode cX3_countColumns 14 = .ok (.aload_n 0, 1) := by decide +kernel
theorem dX3_countColumns_15 : decode cX3_countColumns 15 = .ok (.invokevirtual 23, 3) := by decide +kernel
theorem dX3_countColumns_18 : decode cX3_countColumns 18 = .ok (.aload_n 0, 1) := by decide +kernel
theorem dX3_countColumns_19 : decode cX3_countColumns 19 = .ok (.getfield 9, 3) := by decide +kernel
theorem dX3_countColumns_22 : decode cX3_countColumns 22 = .ok (.if_icmp .ge 5, 3) := by decide +kernel
theorem dX3_countColumns_25 : decode cX3_countColumns 25 = .ok (.iconst 0, 1) := by decide +kernel
theorem dX3_countColumns_26 : decode cX3_countColumns 26 = .ok (.ireturn, 1) := by decide +kernel
theorem dX3_countColumns_27 : decode cX3_countColumns 27 = .ok (.aload_n 0, 1) := by decide +kernel
theorem dX3_countColumns_28 : decode cX3_countColumns 28 = .ok (.getfield 9, 3) := by decide +kernel
theorem dX3_countColumns_31 : decode cX3_countColumns 31 = .ok (.iload_n 1, 1) := by decide +kernel
theorem dX3_countColumns_32 : decode cX3_countColumns 32 = .ok (.idiv, 1) := by decide +kernel
theorem dX3_countColumns_33 : decode cX3_countColumns 33 = .ok (.ireturn, 1) := by decide +kernel
theorem dX4_init_0 : decode cX4_init 0 = .ok (.aload_n 0, 1) := by decide +kernel
theorem dX4_init_1 : decode cX4_init 1 = .ok (.invokespecial 1, 3) := by decide +kernel
theorem dX4_init_4 : decode cX4_init 4 = .ok (.aload_n 0, 1) := by decide +kernel
theorem dX4_init_5 : decode cX4_init 5 = .ok (.new 7, 3) := by decide +kernel
theorem dX4_init_8 : decode cX4_init 8 = .ok (.dup, 1) := by decide +kernel
theorem dX4_init_9 : decode cX4_init 9 = .ok (.invokespecial 9, 3) := by decide +kernel
theorem dX4_init_12 : decode cX4_init 12 = .ok (.putfield 10, 3) := by decide +kernel
theorem dX4_init_15 : decode cX4_init 15 = .ok (.aload_n 0, 1) := by decide +kernel
theorem dX4_init_16 : decode cX4_init 16 = .ok (.new 16, 3) := by decide +kernel
theorem dX4_init_19 : decode cX4_init 19 = .ok (.dup, 1) := by decide +kernel
theorem dX4_init_20 : decode cX4_init 20 = .ok (.invokespecial 18, 3) := by decide +kernel
theorem dX4_init_23 : decode cX4_init 23 = .ok (.putfield 19, 3) := by decide +kernel
theorem dX4_init_26 : decode cX4_init 26 = .ok (.aload_n 0, 1) := by decide +kernel
theorem dX4_init_27 : decode cX4_init 27 = .ok (.new 23, 3) := by decide +kernel
theorem dX4_init_30 : decode cX4_init 30 = .ok (.dup, 1) := by decide +kernel
theorem dX4_init_31 : decode cX4_init 31 = .ok (.invokespecial 25, 3) := by decide +kernel
theorem dX4_init_34 : decode cX4_init 34 = .ok (.putfield 26, 3) := by decide +kernel
theorem dX4_init_37 : decode cX4_init 37 = .ok (.aload_n 0, 1) := by decide +kernel
theorem dX4_init_38 : decode cX4_init 38 = .ok (.new 30, 3) := by decide +kernel
theorem dX4_init_41 : decode cX4_init 41 = .ok (.dup, 1) := by decide +kernel
theorem dX4_init_42 : decode cX4_init 42 = .ok (.invokespecial 32, 3) := by decide +kernel
theorem dX4_init_45 : decode cX4_init 45 = .ok (.putfield 33, 3) := by decide +kernel
theorem dX4_init_48 : decode cX4_init 48 = .ok (.return_, 1) := by decide +kernel
theorem dX4_setChannels_0 : decode cX4_setChannels 0 = .ok (.iload_n 1, 1) := by decide +kernel
theorem dX4_setChannels_1 : decode cX4_setChannels 1 = .ok (.iconst 2, 1) := by decide +kernel
theorem dX4_setChannels_2 : decode cX4_setChannels 2 = .ok (.if_icmp .eq 30, 3) := by decide +kernel
theorem dX4_setChannels_5 : decode cX4_setChannels 5 = .ok (.iload_n 1, 1) := by decide +kernel
theorem dX4_setChannels_6 : decode cX4_setChannels 6 = .ok (.iconst 4, 1) := by decide +kernel
theorem dX4_setChannels_7 : decode cX4_setChannels 7 = .ok (.if_icmp .eq 25, 3) := by decide +kernel
theorem dX4_setChannels_10 : decode cX4_setChannels 10 = .ok (.iload_n 1, 1) := by decide +kernel
theorem dX4_setChannels_11 : decode cX4_setChannels 11 = .ok (.bipush 8, 2) := by decide +kernel
theorem dX4_setChannels_13 : decode cX4_setChannels 13 = .ok (.if_icmp .eq 19, 3) := by decide +kernel
theorem dX4_setChannels_16 : decode cX4_setChannels 16 = .ok (.iload_n 1, 1) := by decide +kernel
theorem dX4_setChannels_17 : decode cX4_setChannels 17 = .ok (.bipush 16, 2) := by decide +kernel
theorem dX4_setChannels_19 : decode cX4_setChannels 19 = .ok (.if_icmp .eq 13, 3) := by decide +kernel
theorem dX4_setChannels_22 : decode cX4_setChannels 22 = .ok (.new 37, 3) := by decide +kernel
theorem dX4_setChannels_25 : decode cX4_setChannels 25 = .ok (.dup, 1) := by decide +kernel
theorem dX4_setChannels_26 : decode cX4_setChannels 26 = .ok (.ldc 39, 2) := by decide +kernel
theorem dX4_setChannels_28 : decode cX4_setChannels 28 = .ok (.invokespecial 41, 3) := by decide +kernel
theorem dX4_setChannels_31 : decode cX4_setChannels 31 = .ok (.athrow, 1) := by decide +kernel
theorem dX4_setChannels_32 : decode cX4_setChannels 32 = .ok (.aload_n 0, 1) := by decide +kernel
theorem dX4_setChannels_33 : decode cX4_setChannels 33 = .ok (.getfield 10, 3) := by decide +kernel
theorem dX4_setChannels_36 : decode cX4_setChannels 36 = .ok (.getfield 44, 3) := by decide +kernel
theorem dX4_setChannels_39 : decode cX4_setChannels 39 = .ok (.istore_n 2, 1) := by decide +kernel
theorem dX4_setChannels_40 : decode cX4_setChannels 40 = .ok (.aload_n 0, 1) := by decide +kernel
theorem dX4_setChannels_41 : decode cX4_setChannels 41 = .ok (.getfield 10, 3) := by decide +kernel
theorem dX4_setChannels_44 : decode cX4_setChannels 44 = .ok (.iload_n 1, 1) := by decide +kernel
theorem dX4_setChannels_45 : decode cX4_setChannels 45 = .ok (.invokevirtual 48, 3) := by decide +kernel
theorem dX4_setChannels_48 : decode cX4_setChannels 48 = .ok (.aload_n 0, 1) := by decide +kernel
theorem dX4_setChannels_49 : decode cX4_setChannels 49 = .ok (.invokevirtual 52, 3) := by decide +kernel
theorem dX4_setChannels_52 : decode cX4_setChannels 52 = .ok (.iload_n 2, 1) := by decide +kernel
theorem dX4_setChannels_53 : decode cX4_setChannels 53 = .ok (.ireturn, 1) := by decide +kernel
theorem dX4_setPending_0 : decode cX4_setPending 0 = .ok (.aload_n 0, 1) := by decide +kernel
theorem dX4_setPending_1 : decode cX4_setPending 1 = .ok (.iload_n 1, 1) := by decide +kernel
theorem dX4_setPending_2 : decode cX4_setPending 2 = .ok (.invokevirtual 55, 3) := by decide +kernel
theorem dX4_setPending_5 : decode cX4_setPending 5 = .ok (.iload_n 2, 1) := by decide +kernel
theorem dX4_setPending_6 : decode cX4_setPending 6 = .ok (.ifCond .lt 10, 3) := by decide +kernel
theorem dX4_setPending_9 : decode cX4_setPending 9 = .ok (.iload_n 2, 1) := by decide +kernel
theorem dX4_setPending_10 : decode cX4_setPending 10 = .ok (.sipush 9999, 3) := by decide +kernel
theorem dX4_setPending_13 : decode cX4_setPending 13 = .ok (.if_icmp .le 13, 3) := by decide +kernel
theorem dX4_setPending_16 : decode cX4_setPending 16 = .ok (.new 37, 3) := by decide +kernel
theorem dX4_setPending_19 : decode cX4_setPending 19 = .ok (.dup, 1) := by decide +kernel
theorem dX4_setPending_20 : decode cX4_setPending 20 = .ok (.ldc 58, 2) := by decide +kernel
theorem dX4_setPending_22 : decode cX4_setPending 22 = .ok (.invokespecial 41, 3) := by decide +kernel
theorem dX4_setPending_25 : decode cX4_setPending 25 = .ok (.athrow, 1) := by decide +kernel
theorem dX4_setPending_26 : decode cX4_setPending 26 = .ok (.aload_n 0, 1) := by decide +kernel
theorem dX4_setPending_27 : decode cX4_setPending 27 = .ok (.getfield 10, 3) := by decide +kernel
theorem dX4_setPending_30 : decode cX4_setPending 30 = .ok (.getfield 60, 3) := by decide +kernel
theorem dX4_setPending_33 : decode cX4_setPending 33 = .ok (.iload_n 1, 1) := by decide +kernel
theorem dX4_setPending_34 : decode cX4_setPending 34 = .ok (.iaload, 1) := by decide +kernel
theorem dX4_setPending_35 : decode cX4_setPending 35 = .ok (.istore_n 3, 1) := by decide +kernel
theorem dX4_setPending_36 : decode cX4_setPending 36 = .ok (.aload_n 0, 1) := by decide +kernel
theorem dX4_setPending_37 : decode cX4_setPending 37 = .ok (.getfield 10, 3) := by decide +kernel
theorem dX4_setPending_40 : decode cX4_setPending 40 = .ok (.getfield 60, 3) := by decide +kernel
theorem dX4_setPending_43 : decode cX4_setPending 43 = .ok (.iload_n 1, 1) := by decide +kernel
theorem dX4_setPending_44 : decode cX4_setPending 44 = .ok (.iload_n 2, 1) := by decide +kernel
theorem dX4_setPending_45 : decode cX4_setPending 45 = .ok (.iastore, 1) := by decide +kernel
theorem dX4_setPending_46 : decode cX4_setPending 46 = .ok (.iload_n 3, 1) := by decide +kernel
theorem dX4_setPending_47 : decode cX4_setPending 47 = .ok (.ireturn, 1) := by decide +kernel
theorem dX4_advance_0 : decode cX4_advance 0 = .ok (.aload_n 0, 1) := by decide +kernel
theorem dX4_advance_1 : decode cX4_advance 1 = .ok (.getfield 10, 3) := by decide +kernel
theorem dX4_advance_4 : decode cX4_advance 4 = .ok (.invokevirtual 64, 3) := by decide +kernel
theorem dX4_advance_7 : decode cX4_advance 7 = .ok (.aload_n 0, 1) := by decide +kernel
theorem dX4_advance_8 : decode cX4_advance 8 = .ok (.invokevirtual 52, 3) := by decide +kernel
theorem dX4_advance_11 : decode cX4_advance 11 = .ok (.aload_n 0, 1) := by decide +kernel
theorem dX4_advance_12 : decode cX4_advance 12 = .ok (.getfield 10, 3) := by decide +kernel
theorem dX4_advance_15 : decode cX4_advance 15 = .ok (.getfield 67, 3) := by decide +kernel
theorem dX4_advance_18 : decode cX4_advance 18 = .ok (.ireturn, 1) := by decide +kernel
theorem dX4_append_0 : decode cX4_append 0 = .ok (.iload_n 1, 1) := by decide +kernel
theorem dX4_append_1 : decode cX4_append 1 = .ok (.bipush 32, 2) := by decide +kernel
theorem dX4_append_3 : decode cX4_append 3 = .ok (.if_icmp .lt 9, 3) := by decide +kernel
theorem dX4_append_6 : decode cX4_append 6 = .ok (.iload_n 1, 1) := by decide +kernel
theorem dX4_append_7 : decode cX4_append 7 = .ok (.bipush 126, 2) := by decide +kernel
theorem dX4_append_9 : decode cX4_append 9 = .ok (.if_icmp .le 13, 3) := by decide +kernel
theorem dX4_append_12 : decode cX4_append 12 = .ok (.new 37, 3) := by decide +kernel
theorem dX4_append_15 : decode cX4_append 15 = .ok (.dup, 1) := by decide +kernel
theorem dX4_append_16 : decode cX4_append 16 = .ok (.ldc 70, 2) := by decide +kernel
theorem dX4_append_18 : decode cX4_append 18 = .ok (.invokespecial 41, 3) := by decide +kernel
theorem dX4_append_21 : decode cX4_append 21 = .ok (.athrow, 1) := by decide +kernel
theorem dX4_append_22 : decode cX4_append 22 = .ok (.aload_n 0, 1) := by decide +kernel
theorem dX4_append_23 : decode cX4_append 23 = .ok (.getfield 19, 3) := by decide +kernel
theorem dX4_append_26 : decode cX4_append 26 = .ok (.getfield 72, 3) := by decide +kernel
theorem dX4_append_29 : decode cX4_append 29 = .ok (.bipush 64, 2) := by decide +kernel
theorem dX4_append_31 : decode cX4_append 31 = .ok (.if_icmp .lt 13, 3) := by decide +kernel
theorem dX4_append_34 : decode cX4_append 34 = .ok (.new 75, 3) := by decide +kernel
theorem dX4_append_37 : decode cX4_append 37 = .ok (.dup, 1) := by decide +kernel
theorem dX4_append_38 : decode cX4_append 38 = .ok (.ldc 77, 2) := by decide +kernel
theorem dX4_append_40 : decode cX4_append 40 = .ok (.invokespecial 79, 3) := by decide +kernel
theorem dX4_append_43 : decode cX4_append 43 = .ok (.athrow, 1) := by decide +kernel
theorem dX4_append_44 : decode cX4_append 44 = .ok (.aload_n 0, 1) := by decide +kernel
theorem dX4_append_45 : decode cX4_append 45 = .ok (.getfield 19, 3) := by decide +kernel
theorem dX4_append_48 : decode cX4_append 48 = .ok (.getfield 80, 3) := by decide +kernel
theorem dX4_append_51 : decode cX4_append 51 = .ok (.aload_n 0, 1) := by decide +kernel
theorem dX4_append_52 : decode cX4_append 52 = .ok (.getfield 19, 3) := by decide +kernel
theorem dX4_append_55 : decode cX4_append 55 = .ok (.getfield 72, 3) := by decide +kernel
theorem dX4_append_58 : decode cX4_append 58 = .ok (.iload_n 1, 1) := by decide +kernel
theorem dX4_append_59 : decode cX4_append 59 = .ok (.iastore, 1) := by decide +kernel
theorem dX4_append_60 : decode cX4_append 60 = .ok (.aload_n 0, 1) := by decide +kernel
theorem dX4_append_61 : decode cX4_append 61 = .ok (.getfield 19, 3) := by decide +kernel
theorem dX4_append_64 : decode cX4_append 64 = .ok (.dup, 1) := by decide +kernel
theorem dX4_append_65 : decode cX4_append 65 = .ok (.getfield 72, 3) := by decide +kernel
theorem dX4_append_68 : decode cX4_append 68 = .ok (.iconst 1, 1) := by decide +kernel
theorem dX4_append_69 : decode cX4_append 69 = .ok (.iadd, 1) := by decide +kernel
theorem dX4_append_70 : decode cX4_append 70 = .ok (.putfield 72, 3) := by decide +kernel
theorem dX4_append_73 : decode cX4_append 73 = .ok (.aload_n 0, 1) := by decide +kernel
theorem dX4_append_74 : decode cX4_append 74 = .ok (.getfield 19, 3) := by decide +kernel
theorem dX4_append_77 : decode cX4_append 77 = .ok (.getfield 72, 3) := by decide +kernel
theorem dX4_append_80 : decode cX4_append 80 = .ok (.ireturn, 1) := by decide +kernel
theorem dX4_clearInput_0 : decode cX4_clearInput 0 = .ok (.aload_n 0, 1) := by decide +kernel
theorem dX4_clearInput_1 : decode cX4_clearInput 1 = .ok (.getfield 19, 3) := by decide +kernel
theorem dX4_clearInput_4 : decode cX4_clearInput 4 = .ok (.getfield 72, 3) := by decide +kernel
theorem dX4_clearInput_7 : decode cX4_clearInput 7 = .ok (.istore_n 1, 1) := by decide +kernel
theorem dX4_clearInput_8 : decode cX4_clearInput 8 = .ok (.aload_n 0, 1) := by decide +kernel
theorem dX4_clearInput_9 : decode cX4_clearInput 9 = .ok (.getfield 19, 3) := by decide +kernel
theorem dX4_clearInput_12 : decode cX4_clearInput 12 = .ok (.iconst 0, 1) := by decide +kernel
theorem dX4_clearInput_13 : decode cX4_clearInput 13 = .ok (.putfield 72, 3) := by decide +kernel
theorem dX4_clearInput_16 : decode cX4_clearInput 16 = .ok (.iload_n 1, 1) := by decide +kernel
theorem dX4_clearInput_17 : decode cX4_clearInput 17 = .ok (.ireturn, 1) := by decide +kernel
theorem dX4_firstError_0 : decode cX4_firstError 0 = .ok (.aload_n 0, 1) := by decide +kernel
theorem dX4_firstError_1 : decode cX4_firstError 1 = .ok (.getfield 19, 3) := by decide +kernel
theorem dX4_firstError_4 : decode cX4_firstError 4 = .ok (.invokevirtual 83, 3) := by decide +kernel
theorem dX4_firstError_7 : decode cX4_firstError 7 = .ok (.ireturn, 1) := by decide +kernel
theorem dX4_load_0 : decode cX4_load 0 = .ok (.aload_n 0, 1) := by decide +kernel
theorem dX4_load_1 : decode cX4_load 1 = .ok (.getfield 19, 3) := by decide +kernel
theorem dX4_load_4 : decode cX4_load 4 = .ok (.aload_n 0, 1) := by decide +kernel
theorem dX4_load_5 : decode cX4_load 5 = .ok (.getfield 10, 3) := by decide +kernel
theorem dX4_load_8 : decode cX4_load 8 = .ok (.getfield 44, 3) := by decide +kernel
theorem dX4_load_11 : decode cX4_load 11 = .ok (.invokevirtual 87, 3) := by decide +kernel
theorem dX4_load_14 : decode cX4_load 14 = .ok (.istore_n 1, 1) := by decide +kernel
theorem dX4_load_15 : decode cX4_load 15 = .ok (.iload_n 1, 1) := by decide +kernel
theorem dX4_load_16 : decode cX4_load 16 = .ok (.iconst 1, 1) := by decide +kernel
theorem dX4_load_17 : decode cX4_load 17 = .ok (.if_icmp .ge 13, 3) := by decide +kernel
theorem dX4_load_20 : decode cX4_load 20 = .ok (.new 75, 3) := by decide +kernel
theorem dX4_load_23 : decode cX4_load 23 = .ok (.dup, 1) := by decide +kernel
theorem dX4_load_24 : decode cX4_load 24 = .ok (.ldc 91, 2) := by decide +kernel
theorem dX4_load_26 : decode cX4_load 26 = .ok (.invokespecial 79, 3) := by decide +kernel
theorem dX4_load_29 : decode cX4_load 29 = .ok (.athrow, 1) := by decide +kernel
theorem dX4_load_30 : decode cX4_load 30 = .ok (.iconst 0, 1) := by decide +kernel
theorem dX4_load_31 : decode cX4_load 31 = .ok (.istore_n 2, 1) := by decide +kernel
theorem dX4_load_32 : decode cX4_load 32 = .ok (.iload_n 2, 1) := by decide +kernel
theorem dX4_load_33 : decode cX4_load 33 = .ok (.iload_n 1, 1) := by decide +kernel
theorem dX4_load_34 : decode cX4_load 34 = .ok (.if_icmp .ge 29, 3) := by decide +kernel
theorem dX4_load_37 : decode cX4_load 37 = .ok (.aload_n 0, 1) := by decide +kernel
theorem dX4_load_38 : decode cX4_load 38 = .ok (.getfield 10, 3) := by decide +kernel
theorem dX4_load_41 : decode cX4_load 41 = .ok (.aload_n 0, 1) := by decide +kernel
theorem dX4_load_42 : decode cX4_load 42 = .ok (.getfield 19, 3) := by decide +kernel
theorem dX4_load_45 : decode cX4_load 45 = .ok (.iload_n 2, 1) := by decide +kernel
theorem dX4_load_46 : decode cX4_load 46 = .ok (.aload_n 0, 1) := by decide +kernel
theorem dX4_load_47 : decode cX4_load 47 = .ok (.getfield 10, 3) := by decide +kernel
theorem dX4_load_50 : decode cX4_load 50 = .ok (.getfield 44, 3) := by decide +kernel
theorem dX4_load_53 : decode cX4_load 53 = .ok (.imul, 1) := by decide +kernel
theorem dX4_load_54 : decode cX4_load 54 = .ok (.invokevirtual 93, 3) := by decide +kernel
theorem dX4_load_57 : decode cX4_load 57 = .ok (.iinc 2 1, 3) := by decide +kernel
theorem dX4_load_60 : decode cX4_load 60 = .ok (.goto (-28), 3) := by decide +kernel
theorem dX4_load_63 : decode cX4_load 63 = .ok (.aload_n 0, 1) := by decide +kernel
theorem dX4_load_64 : decode cX4_load 64 = .ok (.getfield 19, 3) := by decide +kernel
theorem dX4_load_67 : decode cX4_load 67 = .ok (.iconst 0, 1) := by decide +kernel
theorem dX4_load_68 : decode cX4_load 68 = .ok (.putfield 72, 3) := by decide +kernel
theorem dX4_load_71 : decode cX4_load 71 = .ok (.aload_n 0, 1) := by decide +kernel
theorem dX4_load_72 : decode cX4_load 72 = .ok (.invokevirtual 52, 3) := by decide +kernel
theorem dX4_load_75 : decode cX4_load 75 = .ok (.iload_n 1, 1) := by decide +kernel
theorem dX4_load_76 : decode cX4_load 76 = .ok (.ireturn, 1) := by decide +kernel
theorem dX4_inject_0 : decode cX4_inject 0 = .ok (.aload_n 0, 1) := by decide +kernel
theorem dX4_inject_1 : decode cX4_inject 1 = .ok (.iload_n 1, 1) := by decide +kernel
theorem dX4_inject_2 : decode cX4_inject 2 = .ok (.iload_n 2, 1) := by decide +kernel
theorem dX4_inject_3 : decode cX4_inject 3 = .ok (.iconst 1, 1) := by decide +kernel
theorem dX4_inject_4 : decode cX4_inject 4 = .ok (.invokevirtual 97, 3) := by decide +kernel
theorem dX4_inject_7 : decode cX4_inject 7 = .ok (.iload_n 3, 1) := by decide +kernel
theorem dX4_inject_8 : decode cX4_inject 8 = .ok (.iconst 1, 1) := by decide +kernel
theorem dX4_inject_9 : decode cX4_inject 9 = .ok (.if_icmp .lt 10, 3) := by decide +kernel
theorem dX4_inject_12 : decode cX4_inject 12 = .ok (.iload_n 3, 1) := by decide +kernel
theorem dX4_inject_13 : decode cX4_inject 13 = .ok (.sipush 9999, 3) := by decide +kernel
theorem dX4_inject_16 : decode cX4_inject 16 = .ok (.if_icmp .le 13, 3) := by decide +kernel
theorem dX4_inject_19 : decode cX4_inject 19 = .ok (.new 37, 3) := by decide +kernel
theorem dX4_inject_22 : decode cX4_inject 22 = .ok (.dup, 1) := by decide +kernel
theorem dX4_inject_23 : decode cX4_inject 23 = .ok (.ldc 101, 2) := by decide +kernel
theorem dX4_inject_25 : decode cX4_inject 25 = .ok (.invokespecial 41, 3) := by decide +kernel
theorem dX4_inject_28 : decode cX4_inject 28 = .ok (.athrow, 1) := by decide +kernel
theorem dX4_inject_29 : decode cX4_inject 29 = .ok (.iconst 0, 1) := by decide +kernel
theorem dX4_inject_30 : decode cX4_inject 30 = .ok (.istore 4, 2) := by decide +kernel
theorem dX4_inject_32 : decode cX4_inject 32 = .ok (.iconst 0, 1) := by decide +kernel
theorem dX4_inject_33 : decode cX4_inject 33 = .ok (.istore 5, 2) := by decide +kernel
theorem dX4_inject_35 : decode cX4_inject 35 = .ok (.iload 5, 2) := by decide +kernel
theorem dX4_inject_37 : decode cX4_inject 37 = .ok (.aload_n 0, 1) := by decide +kernel
theorem dX4_inject_38 : decode cX4_inject 38 = .ok (.getfield 10, 3) := by decide +kernel
theorem dX4_inject_41 : decode cX4_inject 41 = .ok (.getfield 44, 3) := by decide +kernel
theorem dX4_inject_44 : decode cX4_inject 44 = .ok (.if_icmp .ge 43, 3) := by decide +kernel
theorem dX4_inject_47 : decode cX4_inject 47 = .ok (.aload_n 0, 1) := by decide +kernel
theorem dX4_inject_48 : decode cX4_inject 48 = .ok (.getfield 10, 3) := by decide +kernel
theorem dX4_inject_51 : decode cX4_inject 51 = .ok (.getfield 44, 3) := by decide +kernel
theorem dX4_inject_54 : decode cX4_inject 54 = .ok (.iload_n 1, 1) := by decide +kernel
theorem dX4_inject_55 : decode cX4_inject 55 = .ok (.iload 5, 2) := by decide +kernel
theorem dX4_inject_57 : decode cX4_inject 57 = .ok (.invokestatic 103, 3) := by decide +kernel
theorem dX4_inject_60 : decode cX4_inject 60 = .ok (.istore 6, 2) := by decide +kernel
theorem dX4_inject_62 : decode cX4_inject 62 = .ok (.iload 4, 2) := by decide +kernel
theorem dX4_inject_64 : decode cX4_inject 64 = .ok (.aload_n 0, 1) := by decide +kernel
theorem dX4_inject_65 : decode cX4_inject 65 = .ok (.getfield 10, 3) := by decide +kernel
theorem dX4_inject_68 : decode cX4_inject 68 = .ok (.iload 5, 2) := by decide +kernel
theorem dX4_inject_70 : decode cX4_inject 70 = .ok (.iload_n 2, 1) := by decide +kernel
theorem dX4_inject_71 : decode cX4_inject 71 = .ok (.iload 6, 2) := by decide +kernel
theorem dX4_inject_73 : decode cX4_inject 73 = .ok (.iadd, 1) := by decide +kernel
theorem dX4_inject_74 : decode cX4_inject 74 = .ok (.iload_n 3, 1) := by decide +kernel
theorem dX4_inject_75 : decode cX4_inject 75 = .ok (.invokevirtual 107, 3) := by decide +kernel
theorem dX4_inject_78 : decode cX4_inject 78 = .ok (.iadd, 1) := by decide +kernel
theorem dX4_inject_79 : decode cX4_inject 79 = .ok (.istore 4, 2) := by decide +kernel
theorem dX4_inject_81 : decode cX4_inject 81 = .ok (.iinc 5 1, 3) := by decide +kernel
theorem dX4_inject_84 : decode cX4_inject 84 = .ok (.goto (-49), 3) := by decide +kernel
theorem dX4_inject_87 : decode cX4_inject 87 = .ok (.aload_n 0, 1) := by decide +kernel
theorem dX4_inject_88 : decode cX4_inject 88 = .ok (.invokevirtual 52, 3) := by decide +kernel
theorem dX4_inject_91 : decode cX4_inject 91 = .ok (.iload 4, 2) := by decide +kernel
theorem dX4_inject_93 : decode cX4_inject 93 = .ok (.ireturn, 1) := by decide +kernel
theorem dX4_power_0 : decode cX4_power 0 = .ok (.aload_n 0, 1) := by decide +kernel
theorem dX4_power_1 : decode cX4_power 1 = .ok (.iload_n 1, 1) := by decide +kernel
theorem dX4_power_2 : decode cX4_power 2 = .ok (.invokevirtual 55, 3) := by decide +kernel
theorem dX4_power_5 : decode cX4_power 5 = .ok (.aload_n 0, 1) := by decide +kernel
theorem dX4_power_6 : decode cX4_power 6 = .ok (.iload_n 2, 1) := by decide +kernel
theorem dX4_power_7 : decode cX4_power 7 = .ok (.invokevirtual 110, 3) := by decide +kernel
theorem dX4_power_10 : decode cX4_power 10 = .ok (.aload_n 0, 1) := by decide +kernel
theorem dX4_power_11 : decode cX4_power 11 = .ok (.getfield 10, 3) := by decide +kernel
theorem dX4_power_14 : decode cX4_power 14 = .ok (.iload_n 1, 1) := by decide +kernel
theorem dX4_power_15 : decode cX4_power 15 = .ok (.iload_n 2, 1) := by decide +kernel
theorem dX4_power_16 : decode cX4_power 16 = .ok (.invokevirtual 113, 3) := by decide +kernel
theorem dX4_power_19 : decode cX4_power 19 = .ok (.ireturn, 1) := by decide +kernel
theorem dX4_count_0 : decode cX4_count 0 = .ok (.iload_n 1, 1) := by decide +kernel
theorem dX4_count_1 : decode cX4_count 1 = .ok (.tableswitch 75 0 4 #[35, 43, 51, 59, 67], 35) := by decide +kernel
theorem dX4_count_36 : decode cX4_count 36 = .ok (.aload_n 0, 1) := by decide +kernel
theorem dX4_count_37 : decode cX4_count 37 = .ok (.getfield 10, 3) := by decide +kernel
theorem dX4_count_40 : decode cX4_count 40 = .ok (.getfield 44, 3) := by decide +kernel
theorem dX4_count_43 : decode cX4_count 43 = .ok (.ireturn, 1) := by decide +kernel
theorem dX4_count_44 : decode cX4_count 44 = .ok (.aload_n 0, 1) := by decide +kernel
theorem dX4_count_45 : decode cX4_count 45 = .ok (.getfield 10, 3) := by decide +kernel
theorem dX4_count_48 : decode cX4_count 48 = .ok (.getfield 67, 3) := by decide +kernel
theorem dX4_count_51 : decode cX4_count 51 = .ok (.ireturn, 1) := by decide +kernel
theorem dX4_count_52 : decode cX4_count 52 = .ok (.aload_n 0, 1) := by decide +kernel
theorem dX4_count_53 : decode cX4_count 53 = .ok (.getfield 10, 3) := by decide +kernel
theorem dX4_count_56 : decode cX4_count 56 = .ok (.getfield 117, 3) := by decide +kernel
theorem dX4_count_59 : decode cX4_count 59 = .ok (.ireturn, 1) := by decide +kernel
theorem dX4_count_60 : decode cX4_count 60 = .ok (.aload_n 0, 1) := by decide +kernel
theorem dX4_count_61 : decode cX4_count 61 = .ok (.getfield 10, 3) := by decide +kernel
theorem dX4_count_64 : decode cX4_count 64 = .ok (.invokevirtual 120, 3) := by decide +kernel
theorem dX4_count_67 : decode cX4_count 67 = .ok (.ireturn, 1) := by decide +kernel
theorem dX4_count_68 : decode cX4_count 68 = .ok (.aload_n 0, 1) := by decide +kernel
theorem dX4_count_69 : decode cX4_count 69 = .ok (.getfield 33, 3) := by decide +kernel
theorem dX4_count_72 : decode cX4_count 72 = .ok (.getfield 123, 3) := by decide +kernel
theorem dX4_count_75 : decode cX4_count 75 = .ok (.ireturn, 1) := by decide +kernel
theorem dX4_count_76 : decode cX4_count 76 = .ok (.new 37, 3) := by decide +kernel
theorem dX4_count_79 : decode cX4_count 79 = .ok (.dup, 1) := by decide +kernel
theorem dX4_count_80 : decode cX4_count 80 = .ok (.ldc 126, 2) := by decide +kernel
theorem dX4_count_82 : decode cX4_count 82 = .ok (.invokespecial 41, 3) := by decide +kernel
theorem dX4_count_85 : decode cX4_count 85 = .ok (.athrow, 1) := by decide +kernel
theorem dX4_setMasked_0 : decode cX4_setMasked 0 = .ok (.aload_n 0, 1) := by decide +kernel
theorem dX4_setMasked_1 : decode cX4_setMasked 1 = .ok (.iload_n 1, 1) := by decide +kernel
theorem dX4_setMasked_2 : decode cX4_setMasked 2 = .ok (.invokevirtual 55, 3) := by decide +kernel
theorem dX4_setMasked_5 : decode cX4_setMasked 5 = .ok (.aload_n 0, 1) := by decide +kernel
theorem dX4_setMasked_6 : decode cX4_setMasked 6 = .ok (.getfield 10, 3) := by decide +kernel
theorem dX4_setMasked_9 : decode cX4_setMasked 9 = .ok (.getfield 128, 3) := by decide +kernel
theorem dX4_setMasked_12 : decode cX4_setMasked 12 = .ok (.iload_n 1, 1) := by decide +kernel
theorem dX4_setMasked_13 : decode cX4_setMasked 13 = .ok (.baload, 1) := by decide +kernel
theorem dX4_setMasked_14 : decode cX4_setMasked 14 = .ok (.istore_n 3, 1) := by decide +kernel
theorem dX4_setMasked_15 : decode cX4_setMasked 15 = .ok (.aload_n 0, 1) := by decide +kernel
theorem dX4_setMasked_16 : decode cX4_setMasked 16 = .ok (.getfield 10, 3) := by decide +kernel
theorem dX4_setMasked_19 : decode cX4_setMasked 19 = .ok (.getfield 128, 3) := by decide +kernel
theorem dX4_setMasked_22 : decode cX4_setMasked 22 = .ok (.iload_n 1, 1) := by decide +kernel
theorem dX4_setMasked_23 : decode cX4_setMasked 23 = .ok (.iload_n 2, 1) := by decide +kernel
theorem dX4_setMasked_24 : decode cX4_setMasked 24 = .ok (.bastore, 1) := by decide +kernel
theorem dX4_setMasked_25 : decode cX4_setMasked 25 = .ok (.aload_n 0, 1) := by decide +kernel
theorem dX4_setMasked_26 : decode cX4_setMasked 26 = .ok (.invokevirtual 52, 3) := by decide +kernel
theorem dX4_setMasked_29 : decode cX4_setMasked 29 = .ok (.iload_n 3, 1) := by decide +kernel
theorem dX4_setMasked_30 : decode cX4_setMasked 30 = .ok (.ireturn, 1) := by decide +kernel
theorem dX4_channelSum_0 : decode cX4_channelSum 0 = .ok (.aload_n 0, 1) := by decide +kernel
theorem dX4_channelSum_1 : decode cX4_channelSum 1 = .ok (.iload_n 1, 1) := by decide +kernel
theorem dX4_channelSum_2 : decode cX4_channelSum 2 = .ok (.invokevirtual 55, 3) := by decide +kernel
theorem dX4_channelSum_5 : decode cX4_channelSum 5 = .ok (.aload_n 0, 1) := by decide +kernel
theorem dX4_channelSum_6 : decode cX4_channelSum 6 = .ok (.getfield 10, 3) := by decide +kernel
theorem dX4_channelSum_9 : decode cX4_channelSum 9 = .ok (.iload_n 1, 1) := by decide +kernel
theorem dX4_channelSum_10 : decode cX4_channelSum 10 = .ok (.invokevirtual 132, 3) := by decide +kernel
theorem dX4_channelSum_13 : decode cX4_channelSum 13 = .ok (.ireturn, 1) := by decide +kernel
theorem dX4_strike_0 : decode cX4_strike 0 = .ok (.iload_n 1, 1) := by decide +kernel
theorem dX4_strike_1 : decode cX4_strike 1 = .ok (.ifCond .lt 14, 3) := by decide +kernel
theorem dX4_strike_4 : decode cX4_strike 4 = .ok (.iload_n 1, 1) := by decide +kernel
theorem dX4_strike_5 : decode cX4_strike 5 = .ok (.aload_n 0, 1) := by decide +kernel
theorem dX4_strike_6 : decode cX4_strike 6 = .ok (.getfield 10, 3) := by decide +kernel
theorem dX4_strike_9 : decode cX4_strike 9 = .ok (.getfield 44, 3) := by decide +kernel
theorem dX4_strike_12 : decode cX4_strike 12 = .ok (.if_icmp .le 13, 3) := by decide +kernel
theorem dX4_strike_15 : decode cX4_strike 15 = .ok (.new 37, 3) := by decide +kernel
theorem dX4_strike_18 : decode cX4_strike 18 = .ok (.dup, 1) := by decide +kernel
theorem dX4_strike_19 : decode cX4_strike 19 = .ok (.ldc 135, 2) := by decide +kernel
theorem dX4_strike_21 : decode cX4_strike 21 = .ok (.invokespecial 41, 3) := by decide +kernel
theorem dX4_strike_24 : decode cX4_strike 24 = .ok (.athrow, 1) := by decide +kernel
theorem dX4_strike_25 : decode cX4_strike 25 = .ok (.iconst 0, 1) := by decide +kernel
theorem dX4_strike_26 : decode cX4_strike 26 = .ok (.istore_n 2, 1) := by decide +kernel
theorem dX4_strike_27 : decode cX4_strike 27 = .ok (.iconst 0, 1) := by decide +kernel
theorem dX4_strike_28 : decode cX4_strike 28 = .ok (.istore_n 3, 1) := by decide +kernel
theorem dX4_strike_29 : decode cX4_strike 29 = .ok (.iload_n 3, 1) := by decide +kernel
theorem dX4_strike_30 : decode cX4_strike 30 = .ok (.iload_n 1, 1) := by decide +kernel
theorem dX4_strike_31 : decode cX4_strike 31 = .ok (.if_icmp .ge 45, 3) := by decide +kernel
theorem dX4_strike_34 : decode cX4_strike 34 = .ok (.aload_n 0, 1) := by decide +kernel
theorem dX4_strike_35 : decode cX4_strike 35 = .ok (.getfield 10, 3) := by decide +kernel
theorem dX4_strike_38 : decode cX4_strike 38 = .ok (.invokevirtual 137, 3) := by decide +kernel
theorem dX4_strike_41 : decode cX4_strike 41 = .ok (.istore 4, 2) := by decide +kernel
theorem dX4_strike_43 : decode cX4_strike 43 = .ok (.iload 4, 2) := by decide +kernel
theorem dX4_strike_45 : decode cX4_strike 45 = .ok (.iconst (-1), 1) := by decide +kernel
theorem dX4_strike_46 : decode cX4_strike 46 = .ok (.if_icmp .ne 6, 3) := by decide +kernel
theorem dX4_strike_49 : decode cX4_strike 49 = .ok (.goto 27, 3) := by decide +kernel
theorem dX4_strike_52 : decode cX4_strike 52 = .ok (.aload_n 0, 1) := by decide +kernel
theorem dX4_strike_53 : decode cX4_strike 53 = .ok (.getfield 10, 3) := by decide +kernel
theorem dX4_strike_56 : decode cX4_strike 56 = .ok (.getfield 128, 3) := by decide +kernel
theorem dX4_strike_59 : decode cX4_strike 59 = .ok (.iload 4, 2) := by decide +kernel
theorem dX4_strike_61 : decode cX4_strike 61 = .ok (.iconst 1, 1) := by decide +kernel
theorem dX4_strike_62 : decode cX4_strike 62 = .ok (.bastore, 1) := by decide +kernel
theorem dX4_strike_63 : decode cX4_strike 63 = .ok (.iload_n 2, 1) := by decide +kernel
theorem dX4_strike_64 : decode cX4_strike 64 = .ok (.iconst 1, 1) := by decide +kernel
theorem dX4_strike_65 : decode cX4_strike 65 = .ok (.iload 4, 2) := by decide +kernel
theorem dX4_strike_67 : decode cX4_strike 67 = .ok (.ishl, 1) := by decide +kernel
theorem dX4_strike_68 : decode cX4_strike 68 = .ok (.ior, 1) := by decide +kernel
theorem dX4_strike_69 : decode cX4_strike 69 = .ok (.istore_n 2, 1) := by decide +kernel
theorem dX4_strike_70 : decode cX4_strike 70 = .ok (.iinc 3 1, 3) := by decide +kernel
theorem dX4_strike_73 : decode cX4_strike 73 = .ok (.goto (-44), 3) := by decide +kernel
theorem dX4_strike_76 : decode cX4_strike 76 = .ok (.aload_n 0, 1) := by decide +kernel
theorem dX4_strike_77 : decode cX4_strike 77 = .ok (.invokevirtual 52, 3) := by decide +kernel
theorem dX4_strike_80 : decode cX4_strike 80 = .ok (.iload_n 2, 1) := by decide +kernel
theorem dX4_strike_81 : decode cX4_strike 81 = .ok (.ireturn, 1) := by decide +kernel
theorem dX4_offset_0 : decode cX4_offset 0 = .ok (.aload_n 0, 1) := by decide +kernel
theorem dX4_offset_1 : decode cX4_offset 1 = .ok (.iload_n 1, 1) := by decide +kernel
theorem dX4_offset_2 : decode cX4_offset 2 = .ok (.invokevirtual 140, 3) := by decide +kernel
theorem dX4_offset_5 : decode cX4_offset 5 = .ok (.aload_n 0, 1) := by decide +kernel
theorem dX4_offset_6 : decode cX4_offset 6 = .ok (.iload_n 2, 1) := by decide +kernel
theorem dX4_offset_7 : decode cX4_offset 7 = .ok (.invokevirtual 55, 3) := by decide +kernel
theorem dX4_offset_10 : decode cX4_offset 10 = .ok (.iload_n 3, 1) := by decide +kernel
theorem dX4_offset_11 : decode cX4_offset 11 = .ok (.ifCond .eq 18, 3) := by decide +kernel
theorem dX4_offset_14 : decode cX4_offset 14 = .ok (.aload_n 0, 1) := by decide +kernel
theorem dX4_offset_15 : decode cX4_offset 15 = .ok (.getfield 10, 3) := by decide +kernel
theorem dX4_offset_18 : decode cX4_offset 18 = .ok (.getfield 44, 3) := by decide +kernel
theorem dX4_offset_21 : decode cX4_offset 21 = .ok (.iload_n 1, 1) := by decide +kernel
theorem dX4_offset_22 : decode cX4_offset 22 = .ok (.iload_n 2, 1) := by decide +kernel
theorem dX4_offset_23 : decode cX4_offset 23 = .ok (.invokestatic 103, 3) := by decide +kernel
theorem dX4_offset_26 : decode cX4_offset 26 = .ok (.goto 15, 3) := by decide +kernel
theorem dX4_offset_29 : decode cX4_offset 29 = .ok (.aload_n 0, 1) := by decide +kernel
theorem dX4_offset_30 : decode cX4_offset 30 = .ok (.getfield 10, 3) := by decide +kernel
theorem dX4_offset_33 : decode cX4_offset 33 = .ok (.getfield 44, 3) := by decide +kernel
theorem dX4_offset_36 : decode cX4_offset 36 = .ok (.iload_n 1, 1) := by decide +kernel
theorem dX4_offset_37 : decode cX4_offset 37 = .ok (.iload_n 2, 1) := by decide +kernel
theorem dX4_offset_38 : decode cX4_offset 38 = .ok (.invokestatic 143, 3) := by decide +kernel
theorem dX4_offset_41 : decode cX4_offset 41 = .ok (.ireturn, 1) := by decide +kernel
theorem dX4_bend_0 : decode cX4_bend 0 = .ok (.aload_n 0, 1) := by decide +kernel
theorem dX4_bend_1 : decode cX4_bend 1 = .ok (.iload_n 1, 1) := by decide +kernel
theorem dX4_bend_2 : decode cX4_bend 2 = .ok (.invokevirtual 140, 3) := by decide +kernel
theorem dX4_bend_5 : decode cX4_bend 5 = .ok (.aload_n 0, 1) := by decide +kernel
theorem dX4_bend_6 : decode cX4_bend 6 = .ok (.getfield 10, 3) := by decide +kernel
theorem dX4_bend_9 : decode cX4_bend 9 = .ok (.getfield 44, 3) := by decide +kernel
theorem dX4_bend_12 : decode cX4_bend 12 = .ok (.iload_n 1, 1) := by decide +kernel
theorem dX4_bend_13 : decode cX4_bend 13 = .ok (.invokestatic 146, 3) := by decide +kernel
theorem dX4_bend_16 : decode cX4_bend 16 = .ok (.ireturn, 1) := by decide +kernel
theorem dX4_lineSum_0 : decode cX4_lineSum 0 = .ok (.aload_n 0, 1) := by decide +kernel
theorem dX4_lineSum_1 : decode cX4_lineSum 1 = .ok (.iload_n 1, 1) := by decide +kernel
theorem dX4_lineSum_2 : decode cX4_lineSum 2 = .ok (.iload_n 2, 1) := by decide +kernel
theorem dX4_lineSum_3 : decode cX4_lineSum 3 = .ok (.iconst 1, 1) := by decide +kernel
theorem dX4_lineSum_4 : decode cX4_lineSum 4 = .ok (.invokevirtual 97, 3) := by decide +kernel
theorem dX4_lineSum_7 : decode cX4_lineSum 7 = .ok (.iload_n 3, 1) := by decide +kernel
theorem dX4_lineSum_8 : decode cX4_lineSum 8 = .ok (.ifCond .eq 10, 3) := by decide +kernel
theorem dX4_lineSum_11 : decode cX4_lineSum 11 = .ok (.aload_n 0, 1) := by decide +kernel
theorem dX4_lineSum_12 : decode cX4_lineSum 12 = .ok (.iload_n 1, 1) := by decide +kernel
theorem dX4_lineSum_13 : decode cX4_lineSum 13 = .ok (.iload_n 2, 1) := by decide +kernel
theorem dX4_lineSum_14 : decode cX4_lineSum 14 = .ok (.invokevirtual 149, 3) := by decide +kernel
theorem dX4_lineSum_17 : decode cX4_lineSum 17 = .ok (.ireturn, 1) := by decide +kernel
theorem dX4_lineSum_18 : decode cX4_lineSum 18 = .ok (.aload_n 0, 1) := by decide +kernel
theorem dX4_lineSum_19 : decode cX4_lineSum 19 = .ok (.getfield 26, 3) := by decide +kernel
theorem dX4_lineSum_22 : decode cX4_lineSum 22 = .ok (.aload_n 0, 1) := by decide +kernel
theorem dX4_lineSum_23 : decode cX4_lineSum 23 = .ok (.getfield 10, 3) := by decide +kernel
theorem dX4_lineSum_26 : decode cX4_lineSum 26 = .ok (.invokevirtual 152, 3) := by decide +kernel
theorem dX4_lineSum_29 : decode cX4_lineSum 29 = .ok (.aload_n 0, 1) := by decide +kernel
theorem dX4_lineSum_30 : decode cX4_lineSum 30 = .ok (.getfield 26, 3) := by decide +kernel
theorem dX4_lineSum_33 : decode cX4_lineSum 33 = .ok (.iload_n 1, 1) := by decide +kernel
theorem dX4_lineSum_34 : decode cX4_lineSum 34 = .ok (.iload_n 2, 1) := by decide +kernel
theorem dX4_lineSum_35 : decode cX4_lineSum 35 = .ok (.invokevirtual 156, 3) := by decide +kernel
theorem dX4_lineSum_38 : decode cX4_lineSum 38 = .ok (.ireturn, 1) := by decide +kernel
theorem dX4_mean_0 : decode cX4_mean 0 = .ok (.aload_n 0, 1) := by decide +kernel
theorem dX4_mean_1 : decode cX4_mean 1 = .ok (.iload_n 1, 1) := by decide +kernel
theorem dX4_mean_2 : decode cX4_mean 2 = .ok (.invokevirtual 140, 3) := by decide +kernel
theorem dX4_mean_5 : decode cX4_mean 5 = .ok (.aload_n 0, 1) := by decide +kernel
theorem dX4_mean_6 : decode cX4_mean 6 = .ok (.getfield 26, 3) := by decide +kernel
theorem dX4_mean_9 : decode cX4_mean 9 = .ok (.aload_n 0, 1) := by decide +kernel
theorem dX4_mean_10 : decode cX4_mean 10 = .ok (.getfield 10, 3) := by decide +kernel
theorem dX4_mean_13 : decode cX4_mean 13 = .ok (.invokevirtual 152, 3) := by decide +kernel
theorem dX4_mean_16 : decode cX4_mean 16 = .ok (.aload_n 0, 1) := by decide +kernel
theorem dX4_mean_17 : decode cX4_mean 17 = .ok (.getfield 26, 3) := by decide +kernel
theorem dX4_mean_20 : decode cX4_mean 20 = .ok (.iload_n 1, 1) := by decide +kernel
theorem dX4_mean_21 : decode cX4_mean 21 = .ok (.invokevirtual 159, 3) := by decide +kernel
theorem dX4_mean_24 : decode cX4_mean 24 = .ok (.istore_n 2, 1) := by decide +kernel
theorem dX4_mean_25 : decode cX4_mean 25 = .ok (.iload_n 2, 1) := by decide +kernel
theorem dX4_mean_26 : decode cX4_mean 26 = .ok (.iconst 1, 1) := by decide +kernel
theorem dX4_mean_27 : decode cX4_mean 27 = .ok (.if_icmp .ge 5, 3) := by decide +kernel
theorem dX4_mean_30 : decode cX4_mean 30 = .ok (.dconst 0, 1) := by decide +kernel
theorem dX4_mean_31 : decode cX4_mean 31 = .ok (.dreturn, 1) := by decide +kernel
theorem dX4_mean_32 : decode cX4_mean 32 = .ok (.aload_n 0, 1) := by decide +kernel
theorem dX4_mean_33 : decode cX4_mean 33 = .ok (.getfield 26, 3) := by decide +kernel
theorem dX4_mean_36 : decode cX4_mean 36 = .ok (.getfield 162, 3) := by decide +kernel
theorem dX4_mean_39 : decode cX4_mean 39 = .ok (.iload_n 1, 1) := by decide +kernel
theorem dX4_mean_40 : decode cX4_mean 40 = .ok (.laload, 1) := by decide +kernel
theorem dX4_mean_41 : decode cX4_mean 41 = .ok (.l2d, 1) := by decide +kernel
theorem dX4_mean_42 : decode cX4_mean 42 = .ok (.iload_n 2, 1) := by decide +kernel
theorem dX4_mean_43 : decode cX4_mean 43 = .ok (.i2d, 1) := by decide +kernel
theorem dX4_mean_44 : decode cX4_mean 44 = .ok (.ddiv, 1) := by decide +kernel
theorem dX4_mean_45 : decode cX4_mean 45 = .ok (.dreturn, 1) := by decide +kernel
theorem dX4_boxSum_0 : decode cX4_boxSum 0 = .ok (.iload_n 3, 1) := by decide +kernel
theorem dX4_boxSum_1 : decode cX4_boxSum 1 = .ok (.invokestatic 166, 3) := by decide +kernel
theorem dX4_boxSum_4 : decode cX4_boxSum 4 = .ok (.aload_n 0, 1) := by decide +kernel
theorem dX4_boxSum_5 : decode cX4_boxSum 5 = .ok (.iload_n 1, 1) := by decide +kernel
theorem dX4_boxSum_6 : decode cX4_boxSum 6 = .ok (.iload_n 2, 1) := by decide +kernel
theorem dX4_boxSum_7 : decode cX4_boxSum 7 = .ok (.iload_n 3, 1) := by decide +kernel
theorem dX4_boxSum_8 : decode cX4_boxSum 8 = .ok (.invokevirtual 97, 3) := by decide +kernel
theorem dX4_boxSum_11 : decode cX4_boxSum 11 = .ok (.aload_n 0, 1) := by decide +kernel
theorem dX4_boxSum_12 : decode cX4_boxSum 12 = .ok (.getfield 26, 3) := by decide +kernel
theorem dX4_boxSum_15 : decode cX4_boxSum 15 = .ok (.aload_n 0, 1) := by decide +kernel
theorem dX4_boxSum_16 : decode cX4_boxSum 16 = .ok (.getfield 10, 3) := by decide +kernel
theorem dX4_boxSum_19 : decode cX4_boxSum 19 = .ok (.invokevirtual 152, 3) := by decide +kernel
theorem dX4_boxSum_22 : decode cX4_boxSum 22 = .ok (.aload_n 0, 1) := by decide +kernel
theorem dX4_boxSum_23 : decode cX4_boxSum 23 = .ok (.getfield 26, 3) := by decide +kernel
theorem dX4_boxSum_26 : decode cX4_boxSum 26 = .ok (.iload_n 1, 1) := by decide +kernel
theorem dX4_boxSum_27 : decode cX4_boxSum 27 = .ok (.iload_n 2, 1) := by decide +kernel
theorem dX4_boxSum_28 : decode cX4_boxSum 28 = .ok (.iload_n 3, 1) := by decide +kernel
theorem dX4_boxSum_29 : decode cX4_boxSum 29 = .ok (.invokevirtual 169, 3) := by decide +kernel
theorem dX4_boxSum_32 : decode cX4_boxSum 32 = .ok (.ireturn, 1) := by decide +kernel
theorem dX4_score_0 : decode cX4_score 0 = .ok (.iload_n 3, 1) := by decide +kernel
theorem dX4_score_1 : decode cX4_score 1 = .ok (.invokestatic 166, 3) := by decide +kernel
theorem dX4_score_4 : decode cX4_score 4 = .ok (.aload_n 0, 1) := by decide +kernel
theorem dX4_score_5 : decode cX4_score 5 = .ok (.iload_n 1, 1) := by decide +kernel
theorem dX4_score_6 : decode cX4_score 6 = .ok (.iload_n 2, 1) := by decide +kernel
theorem dX4_score_7 : decode cX4_score 7 = .ok (.iload_n 3, 1) := by decide +kernel
theorem dX4_score_8 : decode cX4_score 8 = .ok (.invokevirtual 97, 3) := by decide +kernel
theorem dX4_score_11 : decode cX4_score 11 = .ok (.aload_n 0, 1) := by decide +kernel
theorem dX4_score_12 : decode cX4_score 12 = .ok (.getfield 26, 3) := by decide +kernel
theorem dX4_score_15 : decode cX4_score 15 = .ok (.aload_n 0, 1) := by decide +kernel
theorem dX4_score_16 : decode cX4_score 16 = .ok (.getfield 10, 3) := by decide +kernel
theorem dX4_score_19 : decode cX4_score 19 = .ok (.invokevirtual 152, 3) := by decide +kernel
theorem dX4_score_22 : decode cX4_score 22 = .ok (.aload_n 0, 1) := by decide +kernel
theorem dX4_score_23 : decode cX4_score 23 = .ok (.getfield 26, 3) := by decide +kernel
theorem dX4_score_26 : decode cX4_score 26 = .ok (.iload_n 1, 1) := by decide +kernel
theorem dX4_score_27 : decode cX4_score 27 = .ok (.iload_n 3, 1) := by decide +kernel
theorem dX4_score_28 : decode cX4_score 28 = .ok (.aload_n 0, 1) := by decide +kernel
theorem dX4_score_29 : decode cX4_score 29 = .ok (.getfield 26, 3) := by decide +kernel
theorem dX4_score_32 : decode cX4_score 32 = .ok (.iload_n 1, 1) := by decide +kernel
theorem dX4_score_33 : decode cX4_score 33 = .ok (.iload_n 2, 1) := by decide +kernel
theorem dX4_score_34 : decode cX4_score 34 = .ok (.iload_n 3, 1) := by decide +kernel
theorem dX4_score_35 : decode cX4_score 35 = .ok (.invokevirtual 169, 3) := by decide +kernel
theorem dX4_score_38 : decode cX4_score 38 = .ok (.i2l, 1) := by decide +kernel
theorem dX4_score_39 : decode cX4_score 39 = .ok (.invokevirtual 172, 3) := by decide +kernel
theorem dX4_score_42 : decode cX4_score 42 = .ok (.lreturn, 1) := by decide +kernel
theorem dX4_find_0 : decode cX4_find 0 = .ok (.lload_n 1, 1) := by decide +kernel
theorem dX4_find_1 : decode cX4_find 1 = .ok (.lconst 0, 1) := by decide +kernel
theorem dX4_find_2 : decode cX4_find 2 = .ok (.lcmp, 1) := by decide +kernel
theorem dX4_find_3 : decode cX4_find 3 = .ok (.ifCond .ge 13, 3) := by decide +kernel
theorem dX4_find_6 : decode cX4_find 6 = .ok (.new 37, 3) := by decide +kernel
theorem dX4_find_9 : decode cX4_find 9 = .ok (.dup, 1) := by decide +kernel
theorem dX4_find_10 : decode cX4_find 10 = .ok (.ldc 176, 2) := by decide +kernel
theorem dX4_find_12 : decode cX4_find 12 = .ok (.invokespecial 41, 3) := by decide +kernel
theorem dX4_find_15 : decode cX4_find 15 = .ok (.athrow, 1) := by decide +kernel
theorem dX4_find_16 : decode cX4_find 16 = .ok (.iload_n 3, 1) := by decide +kernel
theorem dX4_find_17 : decode cX4_find 17 = .ok (.invokestatic 166, 3) := by decide +kernel
theorem dX4_find_20 : decode cX4_find 20 = .ok (.aload_n 0, 1) := by decide +kernel
theorem dX4_find_21 : decode cX4_find 21 = .ok (.getfield 26, 3) := by decide +kernel
theorem dX4_find_24 : decode cX4_find 24 = .ok (.aload_n 0, 1) := by decide +kernel
theorem dX4_find_25 : decode cX4_find 25 = .ok (.getfield 10, 3) := by decide +kernel
theorem dX4_find_28 : decode cX4_find 28 = .ok (.invokevirtual 152, 3) := by decide +kernel
theorem dX4_find_31 : decode cX4_find 31 = .ok (.aload_n 0, 1) := by decide +kernel
theorem dX4_find_32 : decode cX4_find 32 = .ok (.getfield 33, 3) := by decide +kernel
theorem dX4_find_35 : decode cX4_find 35 = .ok (.iconst 0, 1) := by decide +kernel
theorem dX4_find_36 : decode cX4_find 36 = .ok (.putfield 123, 3) := by decide +kernel
theorem dX4_find_39 : decode cX4_find 39 = .ok (.lload_n 1, 1) := by decide +kernel
theorem dX4_find_40 : decode cX4_find 40 = .ok (.lconst 1, 1) := by decide +kernel
theorem dX4_find_41 : decode cX4_find 41 = .ok (.invokestatic 178, 3) := by decide +kernel
theorem dX4_find_44 : decode cX4_find 44 = .ok (.lstore 4, 2) := by decide +kernel
theorem dX4_find_46 : decode cX4_find 46 = .ok (.iconst 0, 1) := by decide +kernel
theorem dX4_find_47 : decode cX4_find 47 = .ok (.istore 6, 2) := by decide +kernel
theorem dX4_find_49 : decode cX4_find 49 = .ok (.iload 6, 2) := by decide +kernel
theorem dX4_find_51 : decode cX4_find 51 = .ok (.bipush 8, 2) := by decide +kernel
theorem dX4_find_53 : decode cX4_find 53 = .ok (.if_icmp .ge 29, 3) := by decide +kernel
theorem dX4_find_56 : decode cX4_find 56 = .ok (.aload_n 0, 1) := by decide +kernel
theorem dX4_find_57 : decode cX4_find 57 = .ok (.getfield 33, 3) := by decide +kernel
theorem dX4_find_60 : decode cX4_find 60 = .ok (.aload_n 0, 1) := by decide +kernel
theorem dX4_find_61 : decode cX4_find 61 = .ok (.getfield 26, 3) := by decide +kernel
theorem dX4_find_64 : decode cX4_find 64 = .ok (.lload 4, 2) := by decide +kernel
theorem dX4_find_66 : decode cX4_find 66 = .ok (.iload_n 3, 1) := by decide +kernel
theorem dX4_find_67 : decode cX4_find 67 = .ok (.invokevirtual 184, 3) := by decide +kernel
theorem dX4_find_70 : decode cX4_find 70 = .ok (.ifCond .ne 6, 3) := by decide +kernel
theorem dX4_find_73 : decode cX4_find 73 = .ok (.goto 9, 3) := by decide +kernel
theorem dX4_find_76 : decode cX4_find 76 = .ok (.iinc 6 1, 3) := by decide +kernel
theorem dX4_find_79 : decode cX4_find 79 = .ok (.goto (-30), 3) := by decide +kernel
theorem dX4_find_82 : decode cX4_find 82 = .ok (.aload_n 0, 1) := by decide +kernel
theorem dX4_find_83 : decode cX4_find 83 = .ok (.getfield 33, 3) := by decide +kernel
theorem dX4_find_86 : decode cX4_find 86 = .ok (.getfield 123, 3) := by decide +kernel
theorem dX4_find_89 : decode cX4_find 89 = .ok (.ireturn, 1) := by decide +kernel
theorem dX4_candidate_0 : decode cX4_candidate 0 = .ok (.iload_n 1, 1) := by decide +kernel
theorem dX4_candidate_1 : decode cX4_candidate 1 = .ok (.ifCond .lt 14, 3) := by decide +kernel
theorem dX4_candidate_4 : decode cX4_candidate 4 = .ok (.iload_n 1, 1) := by decide +kernel
theorem dX4_candidate_5 : decode cX4_candidate 5 = .ok (.aload_n 0, 1) := by decide +kernel
theorem dX4_candidate_6 : decode cX4_candidate 6 = .ok (.getfield 33, 3) := by decide +kernel
theorem dX4_candidate_9 : decode cX4_candidate 9 = .ok (.getfield 123, 3) := by decide +kernel
theorem dX4_candidate_12 : decode cX4_candidate 12 = .ok (.if_icmp .lt 13, 3) := by decide +kernel
theorem dX4_candidate_15 : decode cX4_candidate 15 = .ok (.new 188, 3) := by decide +kernel
theorem dX4_candidate_18 : decode cX4_candidate 18 = .ok (.dup, 1) := by decide +kernel
theorem dX4_candidate_19 : decode cX4_candidate 19 = .ok (.ldc 190, 2) := by decide +kernel
theorem dX4_candidate_21 : decode cX4_candidate 21 = .ok (.invokespecial 192, 3) := by decide +kernel
theorem dX4_candidate_24 : decode cX4_candidate 24 = .ok (.athrow, 1) := by decide +kernel
theorem dX4_candidate_25 : decode cX4_candidate 25 = .ok (.iload_n 2, 1) := by decide +kernel
theorem dX4_candidate_26 : decode cX4_candidate 26 = .ok (.tableswitch 96 0 4 #[34, 45, 56, 67, 77], 34) := by decide +kernel
theorem dX4_candidate_60 : decode cX4_candidate 60 = .ok (.aload_n 0, 1) := by decide +kernel
theorem dX4_candidate_61 : decode cX4_candidate 61 = .ok (.getfield 33, 3) := by decide +kernel
theorem dX4_candidate_64 : decode cX4_candidate 64 = .ok (.getfield 193, 3) := by decide +kernel
theorem dX4_candidate_67 : decode cX4_candidate 67 = .ok (.iload_n 1, 1) := by decide +kernel
theorem dX4_candidate_68 : decode cX4_candidate 68 = .ok (.iaload, 1) := by decide +kernel
theorem dX4_candidate_69 : decode cX4_candidate 69 = .ok (.i2l, 1) := by decide +kernel
theorem dX4_candidate_70 : decode cX4_candidate 70 = .ok (.lreturn, 1) := by decide +kernel
theorem dX4_candidate_71 : decode cX4_candidate 71 = .ok (.aload_n 0, 1) := by decide +kernel
theorem dX4_candidate_72 : decode cX4_candidate 72 = .ok (.getfield 33, 3) := by decide +kernel
theorem dX4_candidate_75 : decode cX4_candidate 75 = .ok (.getfield 196, 3) := by decide +kernel
theorem dX4_candidate_78 : decode cX4_candidate 78 = .ok (.iload_n 1, 1) := by decide +kernel
theorem dX4_candidate_79 : decode cX4_candidate 79 = .ok (.iaload, 1) := by decide +kernel
theorem dX4_candidate_80 : decode cX4_candidate 80 = .ok (.i2l, 1) := by decide +kernel
theorem dX4_candidate_81 : decode cX4_candidate 81 = .ok (.lreturn, 1) := by decide +kernel
theorem dX4_candidate_82 : decode cX4_candidate 82 = .ok (.aload_n 0, 1) := by decide +kernel
theorem dX4_candidate_83 : decode cX4_candidate 83 = .ok (.getfield 33, 3) := by decide +kernel
theorem dX4_candidate_86 : decode cX4_candidate 86 = .ok (.getfield 198, 3) := by decide +kernel
theorem dX4_candidate_89 : decode cX4_candidate 89 = .ok (.iload_n 1, 1) := by decide +kernel
theorem dX4_candidate_90 : decode cX4_candidate 90 = .ok (.iaload, 1) := by decide +kernel
theorem dX4_candidate_91 : decode cX4_candidate 91 = .ok (.i2l, 1) := by decide +kernel
theorem dX4_candidate_92 : decode cX4_candidate 92 = .ok (.lreturn, 1) := by decide +kernel
theorem dX4_candidate_93 : decode cX4_candidate 93 = .ok (.aload_n 0, 1) := by decide +kernel
theorem dX4_candidate_94 : decode cX4_candidate 94 = .ok (.getfield 33, 3) := by decide +kernel
theorem dX4_candidate_97 : decode cX4_candidate 97 = .ok (.getfield 201, 3) := by decide +kernel
theorem dX4_candidate_100 : decode cX4_candidate 100 = .ok (.iload_n 1, 1) := by decide +kernel
theorem dX4_candidate_101 : decode cX4_candidate 101 = .ok (.laload, 1) := by decide +kernel
theorem dX4_candidate_102 : decode cX4_candidate 102 = .ok (.lreturn, 1) := by decide +kernel
theorem dX4_candidate_103 : decode cX4_candidate 103 = .ok (.aload_n 0, 1) := by decide +kernel
theorem dX4_candidate_104 : decode cX4_candidate 104 = .ok (.getfield 33, 3) := by decide +kernel
theorem dX4_candidate_107 : decode cX4_candidate 107 = .ok (.getfield 196, 3) := by decide +kernel
theorem dX4_candidate_110 : decode cX4_candidate 110 = .ok (.iload_n 1, 1) := by decide +kernel
theorem dX4_candidate_111 : decode cX4_candidate 111 = .ok (.iaload, 1) := by decide +kernel
theorem dX4_candidate_112 : decode cX4_candidate 112 = .ok (.aload_n 0, 1) := by decide +kernel
theorem dX4_candidate_113 : decode cX4_candidate 113 = .ok (.getfield 10, 3) := by decide +kernel
theorem dX4_candidate_116 : decode cX4_candidate 116 = .ok (.getfield 117, 3) := by decide +kernel
theorem dX4_candidate_119 : decode cX4_candidate 119 = .ok (.iadd, 1) := by decide +kernel
theorem dX4_candidate_120 : decode cX4_candidate 120 = .ok (.i2l, 1) := by decide +kernel
theorem dX4_candidate_121 : decode cX4_candidate 121 = .ok (.lreturn, 1) := by decide +kernel
theorem dX4_candidate_122 : decode cX4_candidate 122 = .ok (.new 37, 3) := by decide +kernel
theorem dX4_candidate_125 : decode cX4_candidate 125 = .ok (.dup, 1) := by decide +kernel
theorem dX4_candidate_126 : decode cX4_candidate 126 = .ok (.ldc 126, 2) := by decide +kernel
theorem dX4_candidate_128 : decode cX4_candidate 128 = .ok (.invokespecial 41, 3) := by decide +kernel
theorem dX4_candidate_131 : decode cX4_candidate 131 = .ok (.athrow, 1) := by decide +kernel
theorem dX4_candidateAt_0 : decode cX4_candidateAt 0 = .ok (.aload_n 0, 1) := by decide +kernel
theorem dX4_candidateAt_1 : decode cX4_candidateAt 1 = .ok (.iload_n 1, 1) := by decide +kernel
theorem dX4_candidateAt_2 : decode cX4_candidateAt 2 = .ok (.invokevirtual 110, 3) := by decide +kernel
theorem dX4_candidateAt_5 : decode cX4_candidateAt 5 = .ok (.aload_n 0, 1) := by decide +kernel
theorem dX4_candidateAt_6 : decode cX4_candidateAt 6 = .ok (.getfield 33, 3) := by decide +kernel
theorem dX4_candidateAt_9 : decode cX4_candidateAt 9 = .ok (.iload_n 1, 1) := by decide +kernel
theorem dX4_candidateAt_10 : decode cX4_candidateAt 10 = .ok (.invokevirtual 204, 3) := by decide +kernel
theorem dX4_candidateAt_13 : decode cX4_candidateAt 13 = .ok (.ireturn, 1) := by decide +kernel
theorem dX4_digest_0 : decode cX4_digest 0 = .ok (.aload_n 0, 1) := by decide +kernel
theorem dX4_digest_1 : decode cX4_digest 1 = .ok (.getfield 26, 3) := by decide +kernel
theorem dX4_digest_4 : decode cX4_digest 4 = .ok (.aload_n 0, 1) := by decide +kernel
theorem dX4_digest_5 : decode cX4_digest 5 = .ok (.getfield 10, 3) := by decide +kernel
theorem dX4_digest_8 : decode cX4_digest 8 = .ok (.invokevirtual 152, 3) := by decide +kernel
theorem dX4_digest_11 : decode cX4_digest 11 = .ok (.ldc2_w 207, 3) := by decide +kernel
theorem dX4_digest_14 : decode cX4_digest 14 = .ok (.lstore_n 1, 1) := by decide +kernel
theorem dX4_digest_15 : decode cX4_digest 15 = .ok (.iconst 0, 1) := by decide +kernel
theorem dX4_digest_16 : decode cX4_digest 16 = .ok (.istore_n 3, 1) := by decide +kernel
theorem dX4_digest_17 : decode cX4_digest 17 = .ok (.iload_n 3, 1) := by decide +kernel
theorem dX4_digest_18 : decode cX4_digest 18 = .ok (.iconst 5, 1) := by decide +kernel
theorem dX4_digest_19 : decode cX4_digest 19 = .ok (.if_icmp .ge 20, 3) := by decide +kernel
theorem dX4_digest_22 : decode cX4_digest 22 = .ok (.lload_n 1, 1) := by decide +kernel
theorem dX4_digest_23 : decode cX4_digest 23 = .ok (.aload_n 0, 1) := by decide +kernel
theorem dX4_digest_24 : decode cX4_digest 24 = .ok (.iload_n 3, 1) := by decide +kernel
theorem dX4_digest_25 : decode cX4_digest 25 = .ok (.invokevirtual 209, 3) := by decide +kernel
theorem dX4_digest_28 : decode cX4_digest 28 = .ok (.i2l, 1) := by decide +kernel
theorem dX4_digest_29 : decode cX4_digest 29 = .ok (.invokestatic 212, 3) := by decide +kernel
theorem dX4_digest_32 : decode cX4_digest 32 = .ok (.lstore_n 1, 1) := by decide +kernel
theorem dX4_digest_33 : decode cX4_digest 33 = .ok (.iinc 3 1, 3) := by decide +kernel
theorem dX4_digest_36 : decode cX4_digest 36 = .ok (.goto (-19), 3) := by decide +kernel
theorem dX4_digest_39 : decode cX4_digest 39 = .ok (.aload_n 0, 1) := by decide +kernel
theorem dX4_digest_40 : decode cX4_digest 40 = .ok (.lload_n 1, 1) := by decide +kernel
theorem dX4_digest_41 : decode cX4_digest 41 = .ok (.invokevirtual 215, 3) := by decide +kernel
theorem dX4_digest_44 : decode cX4_digest 44 = .ok (.lstore_n 1, 1) := by decide +kernel
theorem dX4_digest_45 : decode cX4_digest 45 = .ok (.aload_n 0, 1) := by decide +kernel
theorem dX4_digest_46 : decode cX4_digest 46 = .ok (.lload_n 1, 1) := by decide +kernel
theorem dX4_digest_47 : decode cX4_digest 47 = .ok (.invokevirtual 219, 3) := by decide +kernel
theorem dX4_digest_50 : decode cX4_digest 50 = .ok (.lstore_n 1, 1) := by decide +kernel
theorem dX4_digest_51 : decode cX4_digest 51 = .ok (.aload_n 0, 1) := by decide +kernel
theorem dX4_digest_52 : decode cX4_digest 52 = .ok (.lload_n 1, 1) := by decide +kernel
theorem dX4_digest_53 : decode cX4_digest 53 = .ok (.invokevirtual 222, 3) := by decide +kernel
theorem dX4_digest_56 : decode cX4_digest 56 = .ok (.lstore_n 1, 1) := by decide +kernel
theorem dX4_digest_57 : decode cX4_digest 57 = .ok (.aload_n 0, 1) := by decide +kernel
theorem dX4_digest_58 : decode cX4_digest 58 = .ok (.lload_n 1, 1) := by decide +kernel
theorem dX4_digest_59 : decode cX4_digest 59 = .ok (.invokevirtual 225, 3) := by decide +kernel
theorem dX4_digest_62 : decode cX4_digest 62 = .ok (.lstore_n 1, 1) := by decide +kernel
theorem dX4_digest_63 : decode cX4_digest 63 = .ok (.aload_n 0, 1) := by decide +kernel
theorem dX4_digest_64 : decode cX4_digest 64 = .ok (.lload_n 1, 1) := by decide +kernel
theorem dX4_digest_65 : decode cX4_digest 65 = .ok (.invokevirtual 228, 3) := by decide +kernel
theorem dX4_digest_68 : decode cX4_digest 68 = .ok (.lreturn, 1) := by decide +kernel
theorem dX4_mix_0 : decode cX4_mix 0 = .ok (.ldc2_w 231, 3) := by decide +kernel
theorem dX4_mix_3 : decode cX4_mix 3 = .ok (.lload_n 0, 1) := by decide +kernel
theorem dX4_mix_4 : decode cX4_mix 4 = .ok (.lmul, 1) := by decide +kernel
theorem dX4_mix_5 : decode cX4_mix 5 = .ok (.lload_n 2, 1) := by decide +kernel
theorem dX4_mix_6 : decode cX4_mix 6 = .ok (.ladd, 1) := by decide +kernel
theorem dX4_mix_7 : decode cX4_mix 7 = .ok (.lreturn, 1) := by decide +kernel
theorem dX4_mixChannels_0 : decode cX4_mixChannels 0 = .ok (.lload_n 1, 1) := by decide +kernel
theorem dX4_mixChannels_1 : decode cX4_mixChannels 1 = .ok (.lstore_n 3, 1) := by decide +kernel
theorem dX4_mixChannels_2 : decode cX4_mixChannels 2 = .ok (.iconst 0, 1) := by decide +kernel
theorem dX4_mixChannels_3 : decode cX4_mixChannels 3 = .ok (.istore 5, 2) := by decide +kernel
theorem dX4_mixChannels_5 : decode cX4_mixChannels 5 = .ok (.iload 5, 2) := by decide +kernel
theorem dX4_mixChannels_7 : decode cX4_mixChannels 7 = .ok (.aload_n 0, 1) := by decide +kernel
theorem dX4_mixChannels_8 : decode cX4_mixChannels 8 = .ok (.getfield 10, 3) := by decide +kernel
theorem dX4_mixChannels_11 : decode cX4_mixChannels 11 = .ok (.getfield 44, 3) := by decide +kernel
theorem dX4_mixChannels_14 : decode cX4_mixChannels 14 = .ok (.if_icmp .ge 63, 3) := by decide +kernel
theorem dX4_mixChannels_17 : decode cX4_mixChannels 17 = .ok (.lload_n 3, 1) := by decide +kernel
theorem dX4_mixChannels_18 : decode cX4_mixChannels 18 = .ok (.aload_n 0, 1) := by decide +kernel
theorem dX4_mixChannels_19 : decode cX4_mixChannels 19 = .ok (.getfield 10, 3) := by decide +kernel
theorem dX4_mixChannels_22 : decode cX4_mixChannels 22 = .ok (.getfield 128, 3) := by decide +kernel
theorem dX4_mixChannels_25 : decode cX4_mixChannels 25 = .ok (.iload 5, 2) := by decide +kernel
theorem dX4_mixChannels_27 : decode cX4_mixChannels 27 = .ok (.baload, 1) := by decide +kernel
theorem dX4_mixChannels_28 : decode cX4_mixChannels 28 = .ok (.ifCond .eq 7, 3) := by decide +kernel
theorem dX4_mixChannels_31 : decode cX4_mixChannels 31 = .ok (.lconst 1, 1) := by decide +kernel
theorem dX4_mixChannels_32 : decode cX4_mixChannels 32 = .ok (.goto 4, 3) := by decide +kernel
theorem dX4_mixChannels_35 : decode cX4_mixChannels 35 = .ok (.lconst 0, 1) := by decide +kernel
theorem dX4_mixChannels_36 : decode cX4_mixChannels 36 = .ok (.invokestatic 212, 3) := by decide +kernel
theorem dX4_mixChannels_39 : decode cX4_mixChannels 39 = .ok (.lstore_n 3, 1) := by decide +kernel
theorem dX4_mixChannels_40 : decode cX4_mixChannels 40 = .ok (.lload_n 3, 1) := by decide +kernel
theorem dX4_mixChannels_41 : decode cX4_mixChannels 41 = .ok (.aload_n 0, 1) := by decide +kernel
theorem dX4_mixChannels_42 : decode cX4_mixChannels 42 = .ok (.getfield 10, 3) := by decide +kernel
theorem dX4_mixChannels_45 : decode cX4_mixChannels 45 = .ok (.iload 5, 2) := by decide +kernel
theorem dX4_mixChannels_47 : decode cX4_mixChannels 47 = .ok (.invokevirtual 132, 3) := by decide +kernel
theorem dX4_mixChannels_50 : decode cX4_mixChannels 50 = .ok (.i2l, 1) := by decide +kernel
theorem dX4_mixChannels_51 : decode cX4_mixChannels 51 = .ok (.invokestatic 212, 3) := by decide +kernel
theorem dX4_mixChannels_54 : decode cX4_mixChannels 54 = .ok (.lstore_n 3, 1) := by decide +kernel
theorem dX4_mixChannels_55 : decode cX4_mixChannels 55 = .ok (.lload_n 3, 1) := by decide +kernel
theorem dX4_mixChannels_56 : decode cX4_mixChannels 56 = .ok (.aload_n 0, 1) := by decide +kernel
theorem dX4_mixChannels_57 : decode cX4_mixChannels 57 = .ok (.getfield 10, 3) := by decide +kernel
theorem dX4_mixChannels_60 : decode cX4_mixChannels 60 = .ok (.getfield 60, 3) := by decide +kernel
theorem dX4_mixChannels_63 : decode cX4_mixChannels 63 = .ok (.iload 5, 2) := by decide +kernel
theorem dX4_mixChannels_65 : decode cX4_mixChannels 65 = .ok (.iaload, 1) := by decide +kernel
theorem dX4_mixChannels_66 : decode cX4_mixChannels 66 = .ok (.i2l, 1) := by decide +kernel
theorem dX4_mixChannels_67 : decode cX4_mixChannels 67 = .ok (.invokestatic 212, 3) := by decide +kernel
theorem dX4_mixChannels_70 : decode cX4_mixChannels 70 = .ok (.lstore_n 3, 1) := by decide +kernel
theorem dX4_mixChannels_71 : decode cX4_mixChannels 71 = .ok (.iinc 5 1, 3) := by decide +kernel
theorem dX4_mixChannels_74 : decode cX4_mixChannels 74 = .ok (.goto (-69), 3) := by decide +kernel
theorem dX4_mixChannels_77 : decode cX4_mixChannels 77 = .ok (.lload_n 3, 1) := by decide +kernel
theorem dX4_mixChannels_78 : decode cX4_mixChannels 78 = .ok (.lreturn, 1) := by decide +kernel
theorem dX4_mixColumns_0 : decode cX4_mixColumns 0 = .ok (.lload_n 1, 1) := by decide +kernel
theorem dX4_mixColumns_1 : decode cX4_mixColumns 1 = .ok (.lstore_n 3, 1) := by decide +kernel
theorem dX4_mixColumns_2 : decode cX4_mixColumns 2 = .ok (.iconst 0, 1) := by decide +kernel
theorem dX4_mixColumns_3 : decode cX4_mixColumns 3 = .ok (.istore 5, 2) := by decide +kernel
theorem dX4_mixColumns_5 : decode cX4_mixColumns 5 = .ok (.iload 5, 2) := by decide +kernel
theorem dX4_mixColumns_7 : decode cX4_mixColumns 7 = .ok (.aload_n 0, 1) := by decide +kernel
theorem dX4_mixColumns_8 : decode cX4_mixColumns 8 = .ok (.getfield 10, 3) := by decide +kernel
theorem dX4_mixColumns_11 : decode cX4_mixColumns 11 = .ok (.getfield 67, 3) := by decide +kernel
theorem dX4_mixColumns_14 : decode cX4_mixColumns 14 = .ok (.if_icmp .ge 47, 3) := by decide +kernel
theorem dX4_mixColumns_17 : decode cX4_mixColumns 17 = .ok (.iconst 0, 1) := by decide +kernel
theorem dX4_mixColumns_18 : decode cX4_mixColumns 18 = .ok (.istore 6, 2) := by decide +kernel
theorem dX4_mixColumns_20 : decode cX4_mixColumns 20 = .ok (.iload 6, 2) := by decide +kernel
theorem dX4_mixColumns_22 : decode cX4_mixColumns 22 = .ok (.aload_n 0, 1) := by decide +kernel
theorem dX4_mixColumns_23 : decode cX4_mixColumns 23 = .ok (.getfield 10, 3) := by decide +kernel
theorem dX4_mixColumns_26 : decode cX4_mixColumns 26 = .ok (.getfield 44, 3) := by decide +kernel
theorem dX4_mixColumns_29 : decode cX4_mixColumns 29 = .ok (.if_icmp .ge 26, 3) := by decide +kernel
theorem dX4_mixColumns_32 : decode cX4_mixColumns 32 = .ok (.lload_n 3, 1) := by decide +kernel
theorem dX4_mixColumns_33 : decode cX4_mixColumns 33 = .ok (.aload_n 0, 1) := by decide +kernel
theorem dX4_mixColumns_34 : decode cX4_mixColumns 34 = .ok (.getfield 10, 3) := by decide +kernel
theorem dX4_mixColumns_37 : decode cX4_mixColumns 37 = .ok (.iload 6, 2) := by decide +kernel
theorem dX4_mixColumns_39 : decode cX4_mixColumns 39 = .ok (.iload 5, 2) := by decide +kernel
theorem dX4_mixColumns_41 : decode cX4_mixColumns 41 = .ok (.invokevirtual 113, 3) := by decide +kernel
theorem dX4_mixColumns_44 : decode cX4_mixColumns 44 = .ok (.i2l, 1) := by decide +kernel
theorem dX4_mixColumns_45 : decode cX4_mixColumns 45 = .ok (.invokestatic 212, 3) := by decide +kernel
theorem dX4_mixColumns_48 : decode cX4_mixColumns 48 = .ok (.lstore_n 3, 1) := by decide +kernel
theorem dX4_mixColumns_49 : decode cX4_mixColumns 49 = .ok (.iinc 6 1, 3) := by decide +kernel
theorem dX4_mixColumns_52 : decode cX4_mixColumns 52 = .ok (.goto (-32), 3) := by decide +kernel
theorem dX4_mixColumns_55 : decode cX4_mixColumns 55 = .ok (.iinc 5 1, 3) := by decide +kernel
theorem dX4_mixColumns_58 : decode cX4_mixColumns 58 = .ok (.goto (-53), 3) := by decide +kernel
theorem dX4_mixColumns_61 : decode cX4_mixColumns 61 = .ok (.lload_n 3, 1) := by decide +kernel
theorem dX4_mixColumns_62 : decode cX4_mixColumns 62 = .ok (.lreturn, 1) := by decide +kernel
theorem dX4_mixSlopes_0 : decode cX4_mixSlopes 0 = .ok (.lload_n 1, 1) := by decide +kernel
theorem dX4_mixSlopes_1 : decode cX4_mixSlopes 1 = .ok (.lstore_n 3, 1) := by decide +kernel
theorem dX4_mixSlopes_2 : decode cX4_mixSlopes 2 = .ok (.iconst 0, 1) := by decide +kernel
theorem dX4_mixSlopes_3 : decode cX4_mixSlopes 3 = .ok (.istore 5, 2) := by decide +kernel
theorem dX4_mixSlopes_5 : decode cX4_mixSlopes 5 = .ok (.iload 5, 2) := by decide +kernel
theorem dX4_mixSlopes_7 : decode cX4_mixSlopes 7 = .ok (.aload_n 0, 1) := by decide +kernel
theorem dX4_mixSlopes_8 : decode cX4_mixSlopes 8 = .ok (.getfield 10, 3) := by decide +kernel
theorem dX4_mixSlopes_11 : decode cX4_mixSlopes 11 = .ok (.getfield 44, 3) := by decide +kernel
theorem dX4_mixSlopes_14 : decode cX4_mixSlopes 14 = .ok (.if_icmp .ge 71, 3) := by decide +kernel
theorem dX4_mixSlopes_17 : decode cX4_mixSlopes 17 = .ok (.lload_n 3, 1) := by decide +kernel
theorem dX4_mixSlopes_18 : decode cX4_mixSlopes 18 = .ok (.aload_n 0, 1) := by decide +kernel
theorem dX4_mixSlopes_19 : decode cX4_mixSlopes 19 = .ok (.getfield 10, 3) := by decide +kernel
theorem dX4_mixSlopes_22 : decode cX4_mixSlopes 22 = .ok (.getfield 44, 3) := by decide +kernel
theorem dX4_mixSlopes_25 : decode cX4_mixSlopes 25 = .ok (.iload 5, 2) := by decide +kernel
theorem dX4_mixSlopes_27 : decode cX4_mixSlopes 27 = .ok (.invokestatic 146, 3) := by decide +kernel
theorem dX4_mixSlopes_30 : decode cX4_mixSlopes 30 = .ok (.i2l, 1) := by decide +kernel
theorem dX4_mixSlopes_31 : decode cX4_mixSlopes 31 = .ok (.invokestatic 212, 3) := by decide +kernel
theorem dX4_mixSlopes_34 : decode cX4_mixSlopes 34 = .ok (.lstore_n 3, 1) := by decide +kernel
theorem dX4_mixSlopes_35 : decode cX4_mixSlopes 35 = .ok (.aload_n 0, 1) := by decide +kernel
theorem dX4_mixSlopes_36 : decode cX4_mixSlopes 36 = .ok (.getfield 26, 3) := by decide +kernel
theorem dX4_mixSlopes_39 : decode cX4_mixSlopes 39 = .ok (.iload 5, 2) := by decide +kernel
theorem dX4_mixSlopes_41 : decode cX4_mixSlopes 41 = .ok (.invokevirtual 159, 3) := by decide +kernel
theorem dX4_mixSlopes_44 : decode cX4_mixSlopes 44 = .ok (.istore 6, 2) := by decide +kernel
theorem dX4_mixSlopes_46 : decode cX4_mixSlopes 46 = .ok (.iconst 0, 1) := by decide +kernel
theorem dX4_mixSlopes_47 : decode cX4_mixSlopes 47 = .ok (.istore 7, 2) := by decide +kernel
theorem dX4_mixSlopes_49 : decode cX4_mixSlopes 49 = .ok (.iload 7, 2) := by decide +kernel
theorem dX4_mixSlopes_51 : decode cX4_mixSlopes 51 = .ok (.iload 6, 2) := by decide +kernel
theorem dX4_mixSlopes_53 : decode cX4_mixSlopes 53 = .ok (.if_icmp .ge 26, 3) := by decide +kernel
theorem dX4_mixSlopes_56 : decode cX4_mixSlopes 56 = .ok (.lload_n 3, 1) := by decide +kernel
theorem dX4_mixSlopes_57 : decode cX4_mixSlopes 57 = .ok (.aload_n 0, 1) := by decide +kernel
theorem dX4_mixSlopes_58 : decode cX4_mixSlopes 58 = .ok (.getfield 26, 3) := by decide +kernel
theorem dX4_mixSlopes_61 : decode cX4_mixSlopes 61 = .ok (.iload 5, 2) := by decide +kernel
theorem dX4_mixSlopes_63 : decode cX4_mixSlopes 63 = .ok (.iload 7, 2) := by decide +kernel
theorem dX4_mixSlopes_65 : decode cX4_mixSlopes 65 = .ok (.invokevirtual 156, 3) := by decide +kernel
theorem dX4_mixSlopes_68 : decode cX4_mixSlopes 68 = .ok (.i2l, 1) := by decide +kernel
theorem dX4_mixSlopes_69 : decode cX4_mixSlopes 69 = .ok (.invokestatic 212, 3) := by decide +kernel
theorem dX4_mixSlopes_72 : decode cX4_mixSlopes 72 = .ok (.lstore_n 3, 1) := by decide +kernel
theorem dX4_mixSlopes_73 : decode cX4_mixSlopes 73 = .ok (.iinc 7 1, 3) := by decide +kernel
theorem dX4_mixSlopes_76 : decode cX4_mixSlopes 76 = .ok (.goto (-27), 3) := by decide +kernel
theorem dX4_mixSlopes_79 : decode cX4_mixSlopes 79 = .ok (.iinc 5 1, 3) := by decide +kernel
theorem dX4_mixSlopes_82 : decode cX4_mixSlopes 82 = .ok (.goto (-77), 3) := by decide +kernel
theorem dX4_mixSlopes_85 : decode cX4_mixSlopes 85 = .ok (.lload_n 3, 1) := by decide +kernel
theorem dX4_mixSlopes_86 : decode cX4_mixSlopes 86 = .ok (.lreturn, 1) := by decide +kernel
theorem dX4_mixCandidates_0 : decode cX4_mixCandidates 0 = .ok (.lload_n 1, 1) := by decide +kernel
theorem dX4_mixCandidates_1 : decode cX4_mixCandidates 1 = .ok (.lstore_n 3, 1) := by decide +kernel
theorem dX4_mixCandidates_2 : decode cX4_mixCandidates 2 = .ok (.iconst 0, 1) := by decide +kernel
theorem dX4_mixCandidates_3 : decode cX4_mixCandidates 3 = .ok (.istore 5, 2) := by decide +kernel
theorem dX4_mixCandidates_5 : decode cX4_mixCandidates 5 = .ok (.iload 5, 2) := by decide +kernel
theorem dX4_mixCandidates_7 : decode cX4_mixCandidates 7 = .ok (.aload_n 0, 1) := by decide +kernel
theorem dX4_mixCandidates_8 : decode cX4_mixCandidates 8 = .ok (.getfield 33, 3) := by decide +kernel
theorem dX4_mixCandidates_11 : decode cX4_mixCandidates 11 = .ok (.getfield 123, 3) := by decide +kernel
theorem dX4_mixCandidates_14 : decode cX4_mixCandidates 14 = .ok (.if_icmp .ge 37, 3) := by decide +kernel
theorem dX4_mixCandidates_17 : decode cX4_mixCandidates 17 = .ok (.iconst 0, 1) := by decide +kernel
theorem dX4_mixCandidates_18 : decode cX4_mixCandidates 18 = .ok (.istore 6, 2) := by decide +kernel
theorem dX4_mixCandidates_20 : decode cX4_mixCandidates 20 = .ok (.iload 6, 2) := by decide +kernel
theorem dX4_mixCandidates_22 : decode cX4_mixCandidates 22 = .ok (.iconst 5, 1) := by decide +kernel
theorem dX4_mixCandidates_23 : decode cX4_mixCandidates 23 = .ok (.if_icmp .ge 22, 3) := by decide +kernel
theorem dX4_mixCandidates_26 : decode cX4_mixCandidates 26 = .ok (.lload_n 3, 1) := by decide +kernel
theorem dX4_mixCandidates_27 : decode cX4_mixCandidates 27 = .ok (.aload_n 0, 1) := by decide +kernel
theorem dX4_mixCandidates_28 : decode cX4_mixCandidates 28 = .ok (.iload 5, 2) := by decide +kernel
theorem dX4_mixCandidates_30 : decode cX4_mixCandidates 30 = .ok (.iload 6, 2) := by decide +kernel
theorem dX4_mixCandidates_32 : decode cX4_mixCandidates 32 = .ok (.invokevirtual 233, 3) := by decide +kernel
theorem dX4_mixCandidates_35 : decode cX4_mixCandidates 35 = .ok (.invokestatic 212, 3) := by decide +kernel
theorem dX4_mixCandidates_38 : decode cX4_mixCandidates 38 = .ok (.lstore_n 3, 1) := by decide +kernel
theorem dX4_mixCandidates_39 : decode cX4_mixCandidates 39 = .ok (.iinc 6 1, 3) := by decide +kernel
theorem dX4_mixCandidates_42 : decode cX4_mixCandidates 42 = .ok (.goto (-22), 3) := by decide +kernel
theorem dX4_mixCandidates_45 : decode cX4_mixCandidates 45 = .ok (.iinc 5 1, 3) := by decide +kernel
theorem dX4_mixCandidates_48 : decode cX4_mixCandidates 48 = .ok (.goto (-43), 3) := by decide +kernel
theorem dX4_mixCandidates_51 : decode cX4_mixCandidates 51 = .ok (.lload_n 3, 1) := by decide +kernel
theorem dX4_mixCandidates_52 : decode cX4_mixCandidates 52 = .ok (.lreturn, 1) := by decide +kernel
theorem dX4_mixText_0 : decode cX4_mixText 0 = .ok (.lload_n 1, 1) := by decide +kernel
theorem dX4_mixText_1 : decode cX4_mixText 1 = .ok (.aload_n 0, 1) := by decide +kernel
theorem dX4_mixText_2 : decode cX4_mixText 2 = .ok (.getfield 19, 3) := by decide +kernel
theorem dX4_mixText_5 : decode cX4_mixText 5 = .ok (.getfield 72, 3) := by decide +kernel
theorem dX4_mixText_8 : decode cX4_mixText 8 = .ok (.i2l, 1) := by decide +kernel
theorem dX4_mixText_9 : decode cX4_mixText 9 = .ok (.invokestatic 212, 3) := by decide +kernel
theorem dX4_mixText_12 : decode cX4_mixText 12 = .ok (.lstore_n 3, 1) := by decide +kernel
theorem dX4_mixText_13 : decode cX4_mixText 13 = .ok (.iconst 0, 1) := by decide +kernel
theorem dX4_mixText_14 : decode cX4_mixText 14 = .ok (.istore 5, 2) := by decide +kernel
theorem dX4_mixText_16 : decode cX4_mixText 16 = .ok (.iload 5, 2) := by decide +kernel
theorem dX4_mixText_18 : decode cX4_mixText 18 = .ok (.aload_n 0, 1) := by decide +kernel
theorem dX4_mixText_19 : decode cX4_mixText 19 = .ok (.getfield 19, 3) := by decide +kernel
theorem dX4_mixText_22 : decode cX4_mixText 22 = .ok (.getfield 72, 3) := by decide +kernel
theorem dX4_mixText_25 : decode cX4_mixText 25 = .ok (.if_icmp .ge 25, 3) := by decide +kernel
theorem dX4_mixText_28 : decode cX4_mixText 28 = .ok (.lload_n 3, 1) := by decide +kernel
theorem dX4_mixText_29 : decode cX4_mixText 29 = .ok (.aload_n 0, 1) := by decide +kernel
theorem dX4_mixText_30 : decode cX4_mixText 30 = .ok (.getfield 19, 3) := by decide +kernel
theorem dX4_mixText_33 : decode cX4_mixText 33 = .ok (.getfield 80, 3) := by decide +kernel
theorem dX4_mixText_36 : decode cX4_mixText 36 = .ok (.iload 5, 2) := by decide +kernel
theorem dX4_mixText_38 : decode cX4_mixText 38 = .ok (.iaload, 1) := by decide +kernel
theorem dX4_mixText_39 : decode cX4_mixText 39 = .ok (.i2l, 1) := by decide +kernel
theorem dX4_mixText_40 : decode cX4_mixText 40 = .ok (.invokestatic 212, 3) := by decide +kernel
theorem dX4_mixText_43 : decode cX4_mixText 43 = .ok (.lstore_n 3, 1) := by decide +kernel
theorem dX4_mixText_44 : decode cX4_mixText 44 = .ok (.iinc 5 1, 3) := by decide +kernel
theorem dX4_mixText_47 : decode cX4_mixText 47 = .ok (.goto (-31), 3) := by decide +kernel
theorem dX4_mixText_50 : decode cX4_mixText 50 = .ok (.lload_n 3, 1) := by decide +kernel
theorem dX4_mixText_51 : decode cX4_mixText 51 = .ok (.lreturn, 1) := by decide +kernel
theorem dX4_requireChannel_0 : decode cX4_requireChannel 0 = .ok (.iload_n 1, 1) := by decide +kernel
theorem dX4_requireChannel_1 : decode cX4_requireChannel 1 = .ok (.ifCond .lt 14, 3) := by decide +kernel
theorem dX4_requireChannel_4 : decode cX4_requireChannel 4 = .ok (.iload_n 1, 1) := by decide +kernel
theorem dX4_requireChannel_5 : decode cX4_requireChannel 5 = .ok (.aload_n 0, 1) := by decide +kernel
theorem dX4_requireChannel_6 : decode cX4_requireChannel 6 = .ok (.getfield 10, 3) := by decide +kernel
theorem dX4_requireChannel_9 : decode cX4_requireChannel 9 = .ok (.getfield 44, 3) := by decide +kernel
theorem dX4_requireChannel_12 : decode cX4_requireChannel 12 = .ok (.if_icmp .lt 13, 3) := by decide +kernel
theorem dX4_requireChannel_15 : decode cX4_requireChannel 15 = .ok (.new 188, 3) := by decide +kernel
theorem dX4_requireChannel_18 : decode cX4_requireChannel 18 = .ok (.dup, 1) := by decide +kernel
theorem dX4_requireChannel_19 : decode cX4_requireChannel 19 = .ok (.ldc 237, 2) := by decide +kernel
theorem dX4_requireChannel_21 : decode cX4_requireChannel 21 = .ok (.invokespecial 192, 3) := by decide +kernel
theorem dX4_requireChannel_24 : decode cX4_requireChannel 24 = .ok (.athrow, 1) := by decide +kernel
theorem dX4_requireChannel_25 : decode cX4_requireChannel 25 = .ok (.return_, 1) := by decide +kernel
theorem dX4_requireColumn_0 : decode cX4_requireColumn 0 = .ok (.iload_n 1, 1) := by decide +kernel
theorem dX4_requireColumn_1 : decode cX4_requireColumn 1 = .ok (.ifCond .lt 14, 3) := by decide +kernel
theorem dX4_requireColumn_4 : decode cX4_requireColumn 4 = .ok (.iload_n 1, 1) := by decide +kernel
theorem dX4_requireColumn_5 : decode cX4_requireColumn 5 = .ok (.aload_n 0, 1) := by decide +kernel
theorem dX4_requireColumn_6 : decode cX4_requireColumn 6 = .ok (.getfield 10, 3) := by decide +kernel
theorem dX4_requireColumn_9 : decode cX4_requireColumn 9 = .ok (.getfield 67, 3) := by decide +kernel
theorem dX4_requireColumn_12 : decode cX4_requireColumn 12 = .ok (.if_icmp .lt 13, 3) := by decide +kernel
theorem dX4_requireColumn_15 : decode cX4_requireColumn 15 = .ok (.new 188, 3) := by decide +kernel
theorem dX4_requireColumn_18 : decode cX4_requireColumn 18 = .ok (.dup, 1) := by decide +kernel
theorem dX4_requireColumn_19 : decode cX4_requireColumn 19 = .ok (.ldc 239, 2) := by decide +kernel
theorem dX4_requireColumn_21 : decode cX4_requireColumn 21 = .ok (.invokespecial 192, 3) := by decide +kernel
theorem dX4_requireColumn_24 : decode cX4_requireColumn 24 = .ok (.athrow, 1) := by decide +kernel
theorem dX4_requireColumn_25 : decode cX4_requireColumn 25 = .ok (.return_, 1) := by decide +kernel
theorem dX4_requireSlope_0 : decode cX4_requireSlope 0 = .ok (.iload_n 1, 1) := by decide +kernel
theorem dX4_requireSlope_1 : decode cX4_requireSlope 1 = .ok (.ifCond .lt 14, 3) := by decide +kernel
theorem dX4_requireSlope_4 : decode cX4_requireSlope 4 = .ok (.iload_n 1, 1) := by decide +kernel
theorem dX4_requireSlope_5 : decode cX4_requireSlope 5 = .ok (.aload_n 0, 1) := by decide +kernel
theorem dX4_requireSlope_6 : decode cX4_requireSlope 6 = .ok (.getfield 10, 3) := by decide +kernel
theorem dX4_requireSlope_9 : decode cX4_requireSlope 9 = .ok (.getfield 44, 3) := by decide +kernel
theorem dX4_requireSlope_12 : decode cX4_requireSlope 12 = .ok (.if_icmp .lt 13, 3) := by decide +kernel
theorem dX4_requireSlope_15 : decode cX4_requireSlope 15 = .ok (.new 188, 3) := by decide +kernel
theorem dX4_requireSlope_18 : decode cX4_requireSlope 18 = .ok (.dup, 1) := by decide +kernel
theorem dX4_requireSlope_19 : decode cX4_requireSlope 19 = .ok (.ldc 241, 2) := by decide +kernel
theorem dX4_requireSlope_21 : decode cX4_requireSlope 21 = .ok (.invokespecial 192, 3) := by decide +kernel
theorem dX4_requireSlope_24 : decode cX4_requireSlope 24 = .ok (.athrow, 1) := by decide +kernel
theorem dX4_requireSlope_25 : decode cX4_requireSlope 25 = .ok (.return_, 1) := by decide +kernel
theorem dX4_requireWidth_0 : decode cX4_requireWidth 0 = .ok (.iload_n 0, 1) := by decide +kernel
theorem dX4_requireWidth_1 : decode cX4_requireWidth 1 = .ok (.iconst 1, 1) := by decide +kernel
theorem dX4_requireWidth_2 : decode cX4_requireWidth 2 = .ok (.if_icmp .lt 9, 3) := by decide +kernel
theorem dX4_requireWidth_5 : decode cX4_requireWidth 5 = .ok (.iload_n 0, 1) := by decide +kernel
theorem dX4_requireWidth_6 : decode cX4_requireWidth 6 = .ok (.bipush 8, 2) := by decide +kernel
theorem dX4_requireWidth_8 : decode cX4_requireWidth 8 = .ok (.if_icmp .le 13, 3) := by decide +kernel
theorem dX4_requireWidth_11 : decode cX4_requireWidth 11 = .ok (.new 37, 3) := by decide +kernel
theorem dX4_requireWidth_14 : decode cX4_requireWidth 14 = .ok (.dup, 1) := by decide +kernel
theorem dX4_requireWidth_15 : decode cX4_requireWidth 15 = .ok (.ldc 243, 2) := by decide +kernel
theorem dX4_requireWidth_17 : decode cX4_requireWidth 17 = .ok (.invokespecial 41, 3) := by decide +kernel
theorem dX4_requireWidth_20 : decode cX4_requireWidth 20 = .ok (.athrow, 1) := by decide +kernel
theorem dX4_requireWidth_21 : decode cX4_requireWidth 21 = .ok (.return_, 1) := by decide +kernel
theorem dX4_requireLines_0 : decode cX4_requireLines 0 = .ok (.aload_n 0, 1) := by decide +kernel
theorem dX4_requireLines_1 : decode cX4_requireLines 1 = .ok (.iload_n 1, 1) := by decide +kernel
theorem dX4_requireLines_2 : decode cX4_requireLines 2 = .ok (.invokevirtual 140, 3) := by decide +kernel
theorem dX4_requireLines_5 : decode cX4_requireLines 5 = .ok (.iload_n 2, 1) := by decide +kernel
theorem dX4_requireLines_6 : decode cX4_requireLines 6 = .ok (.ifCond .lt 18, 3) := by decide +kernel
theorem dX4_requireLines_9 : decode cX4_requireLines 9 = .ok (.iload_n 2, 1) := by decide +kernel
theorem dX4_requireLines_10 : decode cX4_requireLines 10 = .ok (.aload_n 0, 1) := by decide +kernel
theorem dX4_requireLines_11 : decode cX4_requireLines 11 = .ok (.getfield 10, 3) := by decide +kernel
theorem dX4_requireLines_14 : decode cX4_requireLines 14 = .ok (.getfield 67, 3) := by decide +kernel
theorem dX4_requireLines_17 : decode cX4_requireLines 17 = .ok (.iload_n 1, 1) := by decide +kernel
theorem dX4_requireLines_18 : decode cX4_requireLines 18 = .ok (.isub, 1) := by decide +kernel
theorem dX4_requireLines_19 : decode cX4_requireLines 19 = .ok (.iload_n 3, 1) := by decide +kernel
theorem dX4_requireLines_20 : decode cX4_requireLines 20 = .ok (.isub, 1) := by decide +kernel
theorem dX4_requireLines_21 : decode cX4_requireLines 21 = .ok (.if_icmp .le 13, 3) := by decide +kernel
theorem dX4_requireLines_24 : decode cX4_requireLines 24 = .ok (.new 188, 3) := by decide +kernel
theorem dX4_requireLines_27 : decode cX4_requireLines 27 = .ok (.dup, 1) := by decide +kernel
theorem dX4_requireLines_28 : decode cX4_requireLines 28 = .ok (.ldc 245, 2) := by decide +kernel
theorem dX4_requireLines_30 : decode cX4_requireLines 30 = .ok (.invokespecial 192, 3) := by decide +kernel
theorem dX4_requireLines_33 : decode cX4_requireLines 33 = .ok (.athrow, 1) := by decide +kernel
theorem dX4_requireLines_34 : decode cX4_requireLines 34 = .ok (.return_, 1) := by decide +kernel
theorem dX4_forgetResults_0 : decode cX4_forgetResults 0 = .ok (.aload_n 0, 1) := by decide +kernel
theorem dX4_forgetResults_1 : decode cX4_forgetResults 1 = .ok (.getfield 26, 3) := by decide +kernel
theorem dX4_forgetResults_4 : decode cX4_forgetResults 4 = .ok (.iconst 0, 1) := by decide +kernel
theorem dX4_forgetResults_5 : decode cX4_forgetResults 5 = .ok (.putfield 247, 3) := by decide +kernel
theorem dX4_forgetResults_8 : decode cX4_forgetResults 8 = .ok (.aload_n 0, 1) := by decide +kernel
theorem dX4_forgetResults_9 : decode cX4_forgetResults 9 = .ok (.getfield 33, 3) := by decide +kernel
theorem dX4_forgetResults_12 : decode cX4_forgetResults 12 = .ok (.iconst 0, 1) := by decide +kernel
theorem dX4_forgetResults_13 : decode cX4_forgetResults 13 = .ok (.putfield 123, 3) := by decide +kernel
theorem dX4_forgetResults_16 : decode cX4_forgetResults 16 = .ok (.return_, 1) := by decide +kernel
theorem dX4_treeOffset_0 : decode cX4_treeOffset 0 = .ok (.iconst 0, 1) := by decide +kernel
theorem dX4_treeOffset_1 : decode cX4_treeOffset 1 = .ok (.istore_n 3, 1) := by decide +kernel
theorem dX4_treeOffset_2 : decode cX4_treeOffset 2 = .ok (.iload_n 1, 1) := by decide +kernel
theorem dX4_treeOffset_3 : decode cX4_treeOffset 3 = .ok (.istore 4, 2) := by decide +kernel
theorem dX4_treeOffset_5 : decode cX4_treeOffset 5 = .ok (.iload_n 2, 1) := by decide +kernel
theorem dX4_treeOffset_6 : decode cX4_treeOffset 6 = .ok (.istore 5, 2) := by decide +kernel
theorem dX4_treeOffset_8 : decode cX4_treeOffset 8 = .ok (.iload_n 0, 1) := by decide +kernel
theorem dX4_treeOffset_9 : decode cX4_treeOffset 9 = .ok (.iconst 2, 1) := by decide +kernel
theorem dX4_treeOffset_10 : decode cX4_treeOffset 10 = .ok (.idiv, 1) := by decide +kernel
theorem dX4_treeOffset_11 : decode cX4_treeOffset 11 = .ok (.istore 6, 2) := by decide +kernel
theorem dX4_treeOffset_13 : decode cX4_treeOffset 13 = .ok (.iload 6, 2) := by decide +kernel
theorem dX4_treeOffset_15 : decode cX4_treeOffset 15 = .ok (.iconst 1, 1) := by decide +kernel
theorem dX4_treeOffset_16 : decode cX4_treeOffset 16 = .ok (.if_icmp .lt 44, 3) := by decide +kernel
theorem dX4_treeOffset_19 : decode cX4_treeOffset 19 = .ok (.iload 4, 2) := by decide +kernel
theorem dX4_treeOffset_21 : decode cX4_treeOffset 21 = .ok (.iconst 2, 1) := by decide +kernel
theorem dX4_treeOffset_22 : decode cX4_treeOffset 22 = .ok (.idiv, 1) := by decide +kernel
theorem dX4_treeOffset_23 : decode cX4_treeOffset 23 = .ok (.istore 7, 2) := by decide +kernel
theorem dX4_treeOffset_25 : decode cX4_treeOffset 25 = .ok (.iload 5, 2) := by decide +kernel
theorem dX4_treeOffset_27 : decode cX4_treeOffset 27 = .ok (.iload 6, 2) := by decide +kernel
theorem dX4_treeOffset_29 : decode cX4_treeOffset 29 = .ok (.if_icmp .lt 18, 3) := by decide +kernel
theorem dX4_treeOffset_32 : decode cX4_treeOffset 32 = .ok (.iload_n 3, 1) := by decide +kernel
theorem dX4_treeOffset_33 : decode cX4_treeOffset 33 = .ok (.iload 4, 2) := by decide +kernel
theorem dX4_treeOffset_35 : decode cX4_treeOffset 35 = .ok (.iload 7, 2) := by decide +kernel
theorem dX4_treeOffset_37 : decode cX4_treeOffset 37 = .ok (.isub, 1) := by decide +kernel
theorem dX4_treeOffset_38 : decode cX4_treeOffset 38 = .ok (.iadd, 1) := by decide +kernel
theorem dX4_treeOffset_39 : decode cX4_treeOffset 39 = .ok (.istore_n 3, 1) := by decide +kernel
theorem dX4_treeOffset_40 : decode cX4_treeOffset 40 = .ok (.iload 5, 2) := by decide +kernel
theorem dX4_treeOffset_42 : decode cX4_treeOffset 42 = .ok (.iload 6, 2) := by decide +kernel
theorem dX4_treeOffset_44 : decode cX4_treeOffset 44 = .ok (.isub, 1) := by decide +kernel
theorem dX4_treeOffset_45 : decode cX4_treeOffset 45 = .ok (.istore 5, 2) := by decide +kernel
theorem dX4_treeOffset_47 : decode cX4_treeOffset 47 = .ok (.iload 7, 2) := by decide +kernel
theorem dX4_treeOffset_49 : decode cX4_treeOffset 49 = .ok (.istore 4, 2) := by decide +kernel
theorem dX4_treeOffset_51 : decode cX4_treeOffset 51 = .ok (.iload 6, 2) := by decide +kernel
theorem dX4_treeOffset_53 : decode cX4_treeOffset 53 = .ok (.iconst 2, 1) := by decide +kernel
theorem dX4_treeOffset_54 : decode cX4_treeOffset 54 = .ok (.idiv, 1) := by decide +kernel
theorem dX4_treeOffset_55 : decode cX4_treeOffset 55 = .ok (.istore 6, 2) := by decide +kernel
theorem dX4_treeOffset_57 : decode cX4_treeOffset 57 = .ok (.goto (-44), 3) := by decide +kernel
theorem dX4_treeOffset_60 : decode cX4_treeOffset 60 = .ok (.iload_n 3, 1) := by decide +kernel
theorem dX4_treeOffset_61 : decode cX4_treeOffset 61 = .ok (.ireturn, 1) := by decide +kernel
theorem dX4_straightOffset_0 : decode cX4_straightOffset 0 = .ok (.iload_n 0, 1) := by decide +kernel
theorem dX4_straightOffset_1 : decode cX4_straightOffset 1 = .ok (.iconst 1, 1) := by decide +kernel
theorem dX4_straightOffset_2 : decode cX4_straightOffset 2 = .ok (.isub, 1) := by decide +kernel
theorem dX4_straightOffset_3 : decode cX4_straightOffset 3 = .ok (.istore_n 3, 1) := by decide +kernel
theorem dX4_straightOffset_4 : decode cX4_straightOffset 4 = .ok (.iload_n 3, 1) := by decide +kernel
theorem dX4_straightOffset_5 : decode cX4_straightOffset 5 = .ok (.iconst 1, 1) := by decide +kernel
theorem dX4_straightOffset_6 : decode cX4_straightOffset 6 = .ok (.if_icmp .ge 5, 3) := by decide +kernel
theorem dX4_straightOffset_9 : decode cX4_straightOffset 9 = .ok (.iconst 0, 1) := by decide +kernel
theorem dX4_straightOffset_10 : decode cX4_straightOffset 10 = .ok (.ireturn, 1) := by decide +kernel
theorem dX4_straightOffset_11 : decode cX4_straightOffset 11 = .ok (.iconst 2, 1) := by decide +kernel
theorem dX4_straightOffset_12 : decode cX4_straightOffset 12 = .ok (.iload_n 1, 1) := by decide +kernel
theorem dX4_straightOffset_13 : decode cX4_straightOffset 13 = .ok (.imul, 1) := by decide +kernel
theorem dX4_straightOffset_14 : decode cX4_straightOffset 14 = .ok (.iload_n 2, 1) := by decide +kernel
theorem dX4_straightOffset_15 : decode cX4_straightOffset 15 = .ok (.imul, 1) := by decide +kernel
theorem dX4_straightOffset_16 : decode cX4_straightOffset 16 = .ok (.iload_n 3, 1) := by decide +kernel
theorem dX4_straightOffset_17 : decode cX4_straightOffset 17 = .ok (.iadd, 1) := by decide +kernel
theorem dX4_straightOffset_18 : decode cX4_straightOffset 18 = .ok (.iconst 2, 1) := by decide +kernel
theorem dX4_straightOffset_19 : decode cX4_straightOffset 19 = .ok (.iload_n 3, 1) := by decide +kernel
theorem dX4_straightOffset_20 : decode cX4_straightOffset 20 = .ok (.imul, 1) := by decide +kernel
theorem dX4_straightOffset_21 : decode cX4_straightOffset 21 = .ok (.idiv, 1) := by decide +kernel
theorem dX4_straightOffset_22 : decode cX4_straightOffset 22 = .ok (.ireturn, 1) := by decide +kernel
theorem dX4_greatestBend_0 : decode cX4_greatestBend 0 = .ok (.iconst 0, 1) := by decide +kernel
theorem dX4_greatestBend_1 : decode cX4_greatestBend 1 = .ok (.istore_n 2, 1) := by decide +kernel
theorem dX4_greatestBend_2 : decode cX4_greatestBend 2 = .ok (.iconst 0, 1) := by decide +kernel
theorem dX4_greatestBend_3 : decode cX4_greatestBend 3 = .ok (.istore_n 3, 1) := by decide +kernel
theorem dX4_greatestBend_4 : decode cX4_greatestBend 4 = .ok (.iload_n 3, 1) := by decide +kernel
theorem dX4_greatestBend_5 : decode cX4_greatestBend 5 = .ok (.iload_n 0, 1) := by decide +kernel
theorem dX4_greatestBend_6 : decode cX4_greatestBend 6 = .ok (.if_icmp .ge 38, 3) := by decide +kernel
theorem dX4_greatestBend_9 : decode cX4_greatestBend 9 = .ok (.iload_n 0, 1) := by decide +kernel
theorem dX4_greatestBend_10 : decode cX4_greatestBend 10 = .ok (.iload_n 1, 1) := by decide +kernel
theorem dX4_greatestBend_11 : decode cX4_greatestBend 11 = .ok (.iload_n 3, 1) := by decide +kernel
theorem dX4_greatestBend_12 : decode cX4_greatestBend 12 = .ok (.invokestatic 143, 3) := by decide +kernel
theorem dX4_greatestBend_15 : decode cX4_greatestBend 15 = .ok (.istore 4, 2) := by decide +kernel
theorem dX4_greatestBend_17 : decode cX4_greatestBend 17 = .ok (.iload_n 0, 1) := by decide +kernel
theorem dX4_greatestBend_18 : decode cX4_greatestBend 18 = .ok (.iload_n 1, 1) := by decide +kernel
theorem dX4_greatestBend_19 : decode cX4_greatestBend 19 = .ok (.iload_n 3, 1) := by decide +kernel
theorem dX4_greatestBend_20 : decode cX4_greatestBend 20 = .ok (.invokestatic 103, 3) := by decide +kernel
theorem dX4_greatestBend_23 : decode cX4_greatestBend 23 = .ok (.istore 5, 2) := by decide +kernel
theorem dX4_greatestBend_25 : decode cX4_greatestBend 25 = .ok (.iload_n 2, 1) := by decide +kernel
theorem dX4_greatestBend_26 : decode cX4_greatestBend 26 = .ok (.iload 4, 2) := by decide +kernel
theorem dX4_greatestBend_28 : decode cX4_greatestBend 28 = .ok (.iload 5, 2) := by decide +kernel
theorem dX4_greatestBend_30 : decode cX4_greatestBend 30 = .ok (.isub, 1) := by decide +kernel
theorem dX4_greatestBend_31 : decode cX4_greatestBend 31 = .ok (.invokestatic 251, 3) := by decide +kernel
theorem dX4_greatestBend_34 : decode cX4_greatestBend 34 = .ok (.invokestatic 254, 3) := by decide +kernel
theorem dX4_greatestBend_37 : decode cX4_greatestBend 37 = .ok (.istore_n 2, 1) := by decide +kernel
theorem dX4_greatestBend_38 : decode cX4_greatestBend 38 = .ok (.iinc 3 1, 3) := by decide +kernel
theorem dX4_greatestBend_41 : decode cX4_greatestBend 41 = .ok (.goto (-37), 3) := by decide +kernel
theorem dX4_greatestBend_44 : decode cX4_greatestBend 44 = .ok (.iload_n 2, 1) := by decide +kernel
theorem dX4_greatestBend_45 : decode cX4_greatestBend 45 = .ok (.ireturn, 1) := by decide +kernel
theorem dX4_straightSum_0 : decode cX4_straightSum 0 = .ok (.iconst 0, 1) := by decide +kernel
theorem dX4_straightSum_1 : decode cX4_straightSum 1 = .ok (.istore_n 3, 1) := by decide +kernel
theorem dX4_straightSum_2 : decode cX4_straightSum 2 = .ok (.iconst 0, 1) := by decide +kernel
theorem dX4_straightSum_3 : decode cX4_straightSum 3 = .ok (.istore 4, 2) := by decide +kernel
theorem dX4_straightSum_5 : decode cX4_straightSum 5 = .ok (.iload 4, 2) := by decide +kernel
theorem dX4_straightSum_7 : decode cX4_straightSum 7 = .ok (.aload_n 0, 1) := by decide +kernel
theorem dX4_straightSum_8 : decode cX4_straightSum 8 = .ok (.getfield 10, 3) := by decide +kernel
theorem dX4_straightSum_11 : decode cX4_straightSum 11 = .ok (.getfield 44, 3) := by decide +kernel
theorem dX4_straightSum_14 : decode cX4_straightSum 14 = .ok (.if_icmp .ge 53, 3) := by decide +kernel
theorem dX4_straightSum_17 : decode cX4_straightSum 17 = .ok (.aload_n 0, 1) := by decide +kernel
theorem dX4_straightSum_18 : decode cX4_straightSum 18 = .ok (.getfield 10, 3) := by decide +kernel
theorem dX4_straightSum_21 : decode cX4_straightSum 21 = .ok (.getfield 128, 3) := by decide +kernel
theorem dX4_straightSum_24 : decode cX4_straightSum 24 = .ok (.iload 4, 2) := by decide +kernel
theorem dX4_straightSum_26 : decode cX4_straightSum 26 = .ok (.baload, 1) := by decide +kernel
theorem dX4_straightSum_27 : decode cX4_straightSum 27 = .ok (.ifCond .ne 34, 3) := by decide +kernel
theorem dX4_straightSum_30 : decode cX4_straightSum 30 = .ok (.aload_n 0, 1) := by decide +kernel
theorem dX4_straightSum_31 : decode cX4_straightSum 31 = .ok (.getfield 10, 3) := by decide +kernel
theorem dX4_straightSum_34 : decode cX4_straightSum 34 = .ok (.getfield 44, 3) := by decide +kernel
theorem dX4_straightSum_37 : decode cX4_straightSum 37 = .ok (.iload_n 1, 1) := by decide +kernel
theorem dX4_straightSum_38 : decode cX4_straightSum 38 = .ok (.iload 4, 2) := by decide +kernel
theorem dX4_straightSum_40 : decode cX4_straightSum 40 = .ok (.invokestatic 103, 3) := by decide +kernel
theorem dX4_straightSum_43 : decode cX4_straightSum 43 = .ok (.istore 5, 2) := by decide +kernel
theorem dX4_straightSum_45 : decode cX4_straightSum 45 = .ok (.iload_n 3, 1) := by decide +kernel
theorem dX4_straightSum_46 : decode cX4_straightSum 46 = .ok (.aload_n 0, 1) := by decide +kernel
theorem dX4_straightSum_47 : decode cX4_straightSum 47 = .ok (.getfield 10, 3) := by decide +kernel
theorem dX4_straightSum_50 : decode cX4_straightSum 50 = .ok (.iload 4, 2) := by decide +kernel
theorem dX4_straightSum_52 : decode cX4_straightSum 52 = .ok (.iload_n 2, 1) := by decide +kernel
theorem dX4_straightSum_53 : decode cX4_straightSum 53 = .ok (.iload 5, 2) := by decide +kernel
theorem dX4_straightSum_55 : decode cX4_straightSum 55 = .ok (.iadd, 1) := by decide +kernel
theorem dX4_straightSum_56 : decode cX4_straightSum 56 = .ok (.invokevirtual 113, 3) := by decide +kernel
theorem dX4_straightSum_59 : decode cX4_straightSum 59 = .ok (.iadd, 1) := by decide +kernel
theorem dX4_straightSum_60 : decode cX4_straightSum 60 = .ok (.istore_n 3, 1) := by decide +kernel
theorem dX4_straightSum_61 : decode cX4_straightSum 61 = .ok (.iinc 4 1, 3) := by decide +kernel
theorem dX4_straightSum_64 : decode cX4_straightSum 64 = .ok (.goto (-59), 3) := by decide +kernel
theorem dX4_straightSum_67 : decode cX4_straightSum 67 = .ok (.iload_n 3, 1) := by decide +kernel
theorem dX4_straightSum_68 : decode cX4_straightSum 68 = .ok (.ireturn, 1) := by decide +kernel
theorem dX5_init_0 : decode cX5_init 0 = .ok (.aload_n 0, 1) := by decide +kernel
theorem dX5_init_1 : decode cX5_init 1 = .ok (.invokespecial 1, 3) := by decide +kernel
theorem dX5_init_4 : decode cX5_init 4 = .ok (.aload_n 0, 1) := by decide +kernel
theorem dX5_init_5 : decode cX5_init 5 = .ok (.iconst 4, 1) := by decide +kernel
theorem dX5_init_6 : decode cX5_init 6 = .ok (.putfield 7, 3) := by decide +kernel
theorem dX5_init_9 : decode cX5_init 9 = .ok (.aload_n 0, 1) := by decide +kernel
theorem dX5_init_10 : decode cX5_init 10 = .ok (.bipush 16, 2) := by decide +kernel
theorem dX5_init_12 : decode cX5_init 12 = .ok (.newarray .int, 2) := by decide +kernel
theorem dX5_init_14 : decode cX5_init 14 = .ok (.putfield 13, 3) := by decide +kernel
theorem dX5_init_17 : decode cX5_init 17 = .ok (.aload_n 0, 1) := by decide +kernel
theorem dX5_init_18 : decode cX5_init 18 = .ok (.sipush 768, 3) := by decide +kernel
theorem dX5_init_21 : decode cX5_init 21 = .ok (.newarray .int, 2) := by decide +kernel
theorem dX5_init_23 : decode cX5_init 23 = .ok (.putfield 17, 3) := by decide +kernel
theorem dX5_init_26 : decode cX5_init 26 = .ok (.aload_n 0, 1) := by decide +kernel
theorem dX5_init_27 : decode cX5_init 27 = .ok (.bipush 64, 2) := by decide +kernel
theorem dX5_init_29 : decode cX5_init 29 = .ok (.newarray .int, 2) := by decide +kernel
theorem dX5_init_31 : decode cX5_init 31 = .ok (.putfield 20, 3) := by decide +kernel
theorem dX5_init_34 : decode cX5_init 34 = .ok (.aload_n 0, 1) := by decide +kernel
theorem dX5_init_35 : decode cX5_init 35 = .ok (.bipush 8, 2) := by decide +kernel
theorem dX5_init_37 : decode cX5_init 37 = .ok (.newarray .int, 2) := by decide +kernel
theorem dX5_init_39 : decode cX5_init 39 = .ok (.putfield 23, 3) := by decide +kernel
theorem dX5_init_42 : decode cX5_init 42 = .ok (.aload_n 0, 1) := by decide +kernel
theorem dX5_init_43 : decode cX5_init 43 = .ok (.bipush 8, 2) := by decide +kernel
theorem dX5_init_45 : decode cX5_init 45 = .ok (.newarray .int, 2) := by decide +kernel
theorem dX5_init_47 : decode cX5_init 47 = .ok (.putfield 26, 3) := by decide +kernel
theorem dX5_init_50 : decode cX5_init 50 = .ok (.aload_n 0, 1) := by decide +kernel
theorem dX5_init_51 : decode cX5_init 51 = .ok (.bipush 8, 2) := by decide +kernel
theorem dX5_init_53 : decode cX5_init 53 = .ok (.newarray .int, 2) := by decide +kernel
theorem dX5_init_55 : decode cX5_init 55 = .ok (.putfield 29, 3) := by decide +kernel
theorem dX5_init_58 : decode cX5_init 58 = .ok (.aload_n 0, 1) := by decide +kernel
theorem dX5_init_59 : decode cX5_init 59 = .ok (.bipush 8, 2) := by decide +kernel
theorem dX5_init_61 : decode cX5_init 61 = .ok (.newarray .long, 2) := by decide +kernel
theorem dX5_init_63 : decode cX5_init 63 = .ok (.putfield 32, 3) := by decide +kernel
theorem dX5_init_66 : decode cX5_init 66 = .ok (.aload_n 0, 1) := by decide +kernel
theorem dX5_init_67 : decode cX5_init 67 = .ok (.bipush 48, 2) := by decide +kernel
theorem dX5_init_69 : decode cX5_init 69 = .ok (.newarray .int, 2) := by decide +kernel
theorem dX5_init_71 : decode cX5_init 71 = .ok (.putfield 36, 3) := by decide +kernel
theorem dX5_init_74 : decode cX5_init 74 = .ok (.return_, 1) := by decide +kernel
theorem dX5_thrown_0 : decode cX5_thrown 0 = .ok (.aload_n 0, 1) := by decide +kernel
theorem dX5_thrown_1 : decode cX5_thrown 1 = .ok (.getfield 39, 3) := by decide +kernel
theorem dX5_thrown_4 : decode cX5_thrown 4 = .ok (.ireturn, 1) := by decide +kernel
theorem dX5_within_0 : decode cX5_within 0 = .ok (.iload_n 0, 1) := by decide +kernel
theorem dX5_within_1 : decode cX5_within 1 = .ok (.iload_n 1, 1) := by decide +kernel
theorem dX5_within_2 : decode cX5_within 2 = .ok (.if_icmp .lt 12, 3) := by decide +kernel
theorem dX5_within_5 : decode cX5_within 5 = .ok (.iload_n 0, 1) := by decide +kernel
theorem dX5_within_6 : decode cX5_within 6 = .ok (.iload_n 2, 1) := by decide +kernel
theorem dX5_within_7 : decode cX5_within 7 = .ok (.if_icmp .gt 7, 3) := by decide +kernel
theorem dX5_within_10 : decode cX5_within 10 = .ok (.iconst 1, 1) := by decide +kernel
theorem dX5_within_11 : decode cX5_within 11 = .ok (.goto 4, 3) := by decide +kernel
theorem dX5_within_14 : decode cX5_within 14 = .ok (.iconst 0, 1) := by decide +kernel
theorem dX5_within_15 : decode cX5_within 15 = .ok (.ireturn, 1) := by decide +kernel
theorem dX5_isChannel_0 : decode cX5_isChannel 0 = .ok (.iload_n 1, 1) := by decide +kernel
theorem dX5_isChannel_1 : decode cX5_isChannel 1 = .ok (.iconst 0, 1) := by decide +kernel
theorem dX5_isChannel_2 : decode cX5_isChannel 2 = .ok (.aload_n 0, 1) := by decide +kernel
theorem dX5_isChannel_3 : decode cX5_isChannel 3 = .ok (.getfield 7, 3) := by decide +kernel
theorem dX5_isChannel_6 : decode cX5_isChannel 6 = .ok (.iconst 1, 1) := by decide +kernel
theorem dX5_isChannel_7 : decode cX5_isChannel 7 = .ok (.isub, 1) := by decide +kernel
theorem dX5_isChannel_8 : decode cX5_isChannel 8 = .ok (.invokestatic 42, 3) := by decide +kernel
theorem dX5_isChannel_11 : decode cX5_isChannel 11 = .ok (.ireturn, 1) := by decide +kernel
theorem dX5_isColumn_0 : decode cX5_isColumn 0 = .ok (.iload_n 1, 1) := by decide +kernel
theorem dX5_isColumn_1 : decode cX5_isColumn 1 = .ok (.iconst 0, 1) := by decide +kernel
theorem dX5_isColumn_2 : decode cX5_isColumn 2 = .ok (.aload_n 0, 1) := by decide +kernel
theorem dX5_isColumn_3 : decode cX5_isColumn 3 = .ok (.getfield 46, 3) := by decide +kernel
theorem dX5_isColumn_6 : decode cX5_isColumn 6 = .ok (.iconst 1, 1) := by decide +kernel
theorem dX5_isColumn_7 : decode cX5_isColumn 7 = .ok (.isub, 1) := by decide +kernel
theorem dX5_isColumn_8 : decode cX5_isColumn 8 = .ok (.invokestatic 42, 3) := by decide +kernel
theorem dX5_isColumn_11 : decode cX5_isColumn 11 = .ok (.ireturn, 1) := by decide +kernel
theorem dX5_setChannels_0 : decode cX5_setChannels 0 = .ok (.aload_n 0, 1) := by decide +kernel
theorem dX5_setChannels_1 : decode cX5_setChannels 1 = .ok (.iload_n 1, 1) := by decide +kernel
theorem dX5_setChannels_2 : decode cX5_setChannels 2 = .ok (.iconst 2, 1) := by decide +kernel
theorem dX5_setChannels_3 : decode cX5_setChannels 3 = .ok (.if_icmp .eq 20, 3) := by decide +kernel
theorem dX5_setChannels_6 : decode cX5_setChannels 6 = .ok (.iload_n 1, 1) := by decide +kernel
theorem dX5_setChannels_7 : decode cX5_setChannels 7 = .ok (.iconst 4, 1) := by decide +kernel
theorem dX5_setChannels_8 : decode cX5_setChannels 8 = .ok (.if_icmp .eq 15, 3) := by decide +kernel
theorem dX5_setChannels_11 : decode cX5_setChannels 11 = .ok (.iload_n 1, 1) := by decide +kernel
theorem dX5_setChannels_12 : decode cX5_setChannels 12 = .ok (.bipush 8, 2) := by decide +kernel
theorem dX5_setChannels_14 : decode cX5_setChannels 14 = .ok (.if_icmp .eq 9, 3) := by decide +kernel
theorem dX5_setChannels_17 : decode cX5_setChannels 17 = .ok (.iload_n 1, 1) := by decide +kernel
theorem dX5_setChannels_18 : decode cX5_setChannels 18 = .ok (.bipush 16, 2) := by decide +kernel
theorem dX5_setChannels_20 : decode cX5_setChannels 20 = .ok (.if_icmp .ne 7, 3) := by decide +kernel
theorem dX5_setChannels_23 : decode cX5_setChannels 23 = .ok (.iconst 0, 1) := by decide +kernel
theorem dX5_setChannels_24 : decode cX5_setChannels 24 = .ok (.goto 4, 3) := by decide +kernel
theorem dX5_setChannels_27 : decode cX5_setChannels 27 = .ok (.iconst 1, 1) := by decide +kernel
theorem dX5_setChannels_28 : decode cX5_setChannels 28 = .ok (.putfield 39, 3) := by decide +kernel
theorem dX5_setChannels_31 : decode cX5_setChannels 31 = .ok (.aload_n 0, 1) := by decide +kernel
theorem dX5_setChannels_32 : decode cX5_setChannels 32 = .ok (.getfield 39, 3) := by decide +kernel
theorem dX5_setChannels_35 : decode cX5_setChannels 35 = .ok (.ifCond .le 5, 3) := by decide +kernel
theorem dX5_setChannels_38 : decode cX5_setChannels 38 = .ok (.iconst 0, 1) := by decide +kernel
theorem dX5_setChannels_39 : decode cX5_setChannels 39 = .ok (.ireturn, 1) := by decide +kernel
theorem dX5_setChannels_40 : decode cX5_setChannels 40 = .ok (.aload_n 0, 1) := by decide +kernel
theorem dX5_setChannels_41 : decode cX5_setChannels 41 = .ok (.getfield 7, 3) := by decide +kernel
theorem dX5_setChannels_44 : decode cX5_setChannels 44 = .ok (.istore_n 2, 1) := by decide +kernel
theorem dX5_setChannels_45 : decode cX5_setChannels 45 = .ok (.aload_n 0, 1) := by decide +kernel
theorem dX5_setChannels_46 : decode cX5_setChannels 46 = .ok (.iload_n 1, 1) := by decide +kernel
theorem dX5_setChannels_47 : decode cX5_setChannels 47 = .ok (.putfield 7, 3) := by decide +kernel
theorem dX5_setChannels_50 : decode cX5_setChannels 50 = .ok (.aload_n 0, 1) := by decide +kernel
theorem dX5_setChannels_51 : decode cX5_setChannels 51 = .ok (.iconst 0, 1) := by decide +kernel
theorem dX5_setChannels_52 : decode cX5_setChannels 52 = .ok (.putfield 46, 3) := by decide +kernel
theorem dX5_setChannels_55 : decode cX5_setChannels 55 = .ok (.aload_n 0, 1) := by decide +kernel
theorem dX5_setChannels_56 : decode cX5_setChannels 56 = .ok (.iconst 0, 1) := by decide +kernel
theorem dX5_setChannels_57 : decode cX5_setChannels 57 = .ok (.putfield 49, 3) := by decide +kernel
theorem dX5_setChannels_60 : decode cX5_setChannels 60 = .ok (.aload_n 0, 1) := by decide +kernel
theorem dX5_setChannels_61 : decode cX5_setChannels 61 = .ok (.iconst 0, 1) := by decide +kernel
theorem dX5_setChannels_62 : decode cX5_setChannels 62 = .ok (.putfield 52, 3) := by decide +kernel
theorem dX5_setChannels_65 : decode cX5_setChannels 65 = .ok (.aload_n 0, 1) := by decide +kernel
theorem dX5_setChannels_66 : decode cX5_setChannels 66 = .ok (.iconst 0, 1) := by decide +kernel
theorem dX5_setChannels_67 : decode cX5_setChannels 67 = .ok (.putfield 55, 3) := by decide +kernel
theorem dX5_setChannels_70 : decode cX5_setChannels 70 = .ok (.aload_n 0, 1) := by decide +kernel
theorem dX5_setChannels_71 : decode cX5_setChannels 71 = .ok (.invokevirtual 58, 3) := by decide +kernel
theorem dX5_setChannels_74 : decode cX5_setChannels 74 = .ok (.iload_n 2, 1) := by decide +kernel
theorem dX5_setChannels_75 : decode cX5_setChannels 75 = .ok (.ireturn, 1) := by decide +kernel
theorem dX5_clearPending_0 : decode cX5_clearPending 0 = .ok (.iconst 0, 1) := by decide +kernel
theorem dX5_clearPending_1 : decode cX5_clearPending 1 = .ok (.istore_n 1, 1) := by decide +kernel
theorem dX5_clearPending_2 : decode cX5_clearPending 2 = .ok (.iload_n 1, 1) := by decide +kernel
theorem dX5_clearPending_3 : decode cX5_clearPending 3 = .ok (.bipush 16, 2) := by decide +kernel
theorem dX5_clearPending_5 : decode cX5_clearPending 5 = .ok (.if_icmp .ge 16, 3) := by decide +kernel
theorem dX5_clearPending_8 : decode cX5_clearPending 8 = .ok (.aload_n 0, 1) := by decide +kernel
theorem dX5_clearPending_9 : decode cX5_clearPending 9 = .ok (.getfield 13, 3) := by decide +kernel
theorem dX5_clearPending_12 : decode cX5_clearPending 12 = .ok (.iload_n 1, 1) := by decide +kernel
theorem dX5_clearPending_13 : decode cX5_clearPending 13 = .ok (.iconst 0, 1) := by decide +kernel
theorem dX5_clearPending_14 : decode cX5_clearPending 14 = .ok (.iastore, 1) := by decide +kernel
theorem dX5_clearPending_15 : decode cX5_clearPending 15 = .ok (.iinc 1 1, 3) := by decide +kernel
theorem dX5_clearPending_18 : decode cX5_clearPending 18 = .ok (.goto (-16), 3) := by decide +kernel
theorem dX5_clearPending_21 : decode cX5_clearPending 21 = .ok (.return_, 1) := by decide +kernel
theorem dX5_setPending_0 : decode cX5_setPending 0 = .ok (.aload_n 0, 1) := by decide +kernel
theorem dX5_setPending_1 : decode cX5_setPending 1 = .ok (.aload_n 0, 1) := by decide +kernel
theorem dX5_setPending_2 : decode cX5_setPending 2 = .ok (.iload_n 1, 1) := by decide +kernel
theorem dX5_setPending_3 : decode cX5_setPending 3 = .ok (.invokevirtual 61, 3) := by decide +kernel
theorem dX5_setPending_6 : decode cX5_setPending 6 = .ok (.ifCond .ne 7, 3) := by decide +kernel
theorem dX5_setPending_9 : decode cX5_setPending 9 = .ok (.iconst 1, 1) := by decide +kernel
theorem dX5_setPending_10 : decode cX5_setPending 10 = .ok (.goto 19, 3) := by decide +kernel
theorem dX5_setPending_13 : decode cX5_setPending 13 = .ok (.iload_n 2, 1) := by decide +kernel
theorem dX5_setPending_14 : decode cX5_setPending 14 = .ok (.iconst 0, 1) := by decide +kernel
theorem dX5_setPending_15 : decode cX5_setPending 15 = .ok (.sipush 9999, 3) := by decide +kernel
theorem dX5_setPending_18 : decode cX5_setPending 18 = .ok (.invokestatic 42, 3) := by decide +kernel
theorem dX5_setPending_21 : decode cX5_setPending 21 = .ok (.ifCond .eq 7, 3) := by decide +kernel
theorem dX5_setPending_24 : decode cX5_setPending 24 = .ok (.iconst 0, 1) := by decide +kernel
theorem dX5_setPending_25 : decode cX5_setPending 25 = .ok (.goto 4, 3) := by decide +kernel
theorem dX5_setPending_28 : decode cX5_setPending 28 = .ok (.iconst 2, 1) := by decide +kernel
theorem dX5_setPending_29 : decode cX5_setPending 29 = .ok (.putfield 39, 3) := by decide +kernel
theorem dX5_setPending_32 : decode cX5_setPending 32 = .ok (.aload_n 0, 1) := by decide +kernel
theorem dX5_setPending_33 : decode cX5_setPending 33 = .ok (.getfield 39, 3) := by decide +kernel
theorem dX5_setPending_36 : decode cX5_setPending 36 = .ok (.ifCond .le 5, 3) := by decide +kernel
theorem dX5_setPending_39 : decode cX5_setPending 39 = .ok (.iconst 0, 1) := by decide +kernel
theorem dX5_setPending_40 : decode cX5_setPending 40 = .ok (.ireturn, 1) := by decide +kernel
theorem dX5_setPending_41 : decode cX5_setPending 41 = .ok (.aload_n 0, 1) := by decide +kernel
theorem dX5_setPending_42 : decode cX5_setPending 42 = .ok (.getfield 13, 3) := by decide +kernel
theorem dX5_setPending_45 : decode cX5_setPending 45 = .ok (.iload_n 1, 1) := by decide +kernel
theorem dX5_setPending_46 : decode cX5_setPending 46 = .ok (.iaload, 1) := by decide +kernel
theorem dX5_setPending_47 : decode cX5_setPending 47 = .ok (.istore_n 3, 1) := by decide +kernel
theorem dX5_setPending_48 : decode cX5_setPending 48 = .ok (.aload_n 0, 1) := by decide +kernel
theorem dX5_setPending_49 : decode cX5_setPending 49 = .ok (.getfield 13, 3) := by decide +kernel
theorem dX5_setPending_52 : decode cX5_setPending 52 = .ok (.iload_n 1, 1) := by decide +kernel
theorem dX5_setPending_53 : decode cX5_setPending 53 = .ok (.iload_n 2, 1) := by decide +kernel
theorem dX5_setPending_54 : decode cX5_setPending 54 = .ok (.iastore, 1) := by decide +kernel
theorem dX5_setPending_55 : decode cX5_setPending 55 = .ok (.iload_n 3, 1) := by decide +kernel
theorem dX5_setPending_56 : decode cX5_setPending 56 = .ok (.ireturn, 1) := by decide +kernel
theorem dX5_begin_0 : decode cX5_begin 0 = .ok (.aload_n 0, 1) := by decide +kernel
theorem dX5_begin_1 : decode cX5_begin 1 = .ok (.getfield 46, 3) := by decide +kernel
theorem dX5_begin_4 : decode cX5_begin 4 = .ok (.bipush 48, 2) := by decide +kernel
theorem dX5_begin_6 : decode cX5_begin 6 = .ok (.if_icmp .ne 53, 3) := by decide +kernel
theorem dX5_begin_9 : decode cX5_begin 9 = .ok (.iconst 0, 1) := by decide +kernel
theorem dX5_begin_10 : decode cX5_begin 10 = .ok (.istore_n 1, 1) := by decide +kernel
theorem dX5_begin_11 : decode cX5_begin 11 = .ok (.iload_n 1, 1) := by decide +kernel
theorem dX5_begin_12 : decode cX5_begin 12 = .ok (.sipush 752, 3) := by decide +kernel
theorem dX5_begin_15 : decode cX5_begin 15 = .ok (.if_icmp .ge 24, 3) := by decide +kernel
theorem dX5_begin_18 : decode cX5_begin 18 = .ok (.aload_n 0, 1) := by decide +kernel
theorem dX5_begin_19 : decode cX5_begin 19 = .ok (.getfield 17, 3) := by decide +kernel
theorem dX5_begin_22 : decode cX5_begin 22 = .ok (.iload_n 1, 1) := by decide +kernel
theorem dX5_begin_23 : decode cX5_begin 23 = .ok (.aload_n 0, 1) := by decide +kernel
theorem dX5_begin_24 : decode cX5_begin 24 = .ok (.getfield 17, 3) := by decide +kernel
theorem dX5_begin_27 : decode cX5_begin 27 = .ok (.iload_n 1, 1) := by decide +kernel
theorem dX5_begin_28 : decode cX5_begin 28 = .ok (.bipush 16, 2) := by decide +kernel
theorem dX5_begin_30 : decode cX5_begin 30 = .ok (.iadd, 1) := by decide +kernel
theorem dX5_begin_31 : decode cX5_begin 31 = .ok (.iaload, 1) := by decide +kernel
theorem dX5_begin_32 : decode cX5_begin 32 = .ok (.iastore, 1) := by decide +kernel
theorem dX5_begin_33 : decode cX5_begin 33 = .ok (.iinc 1 1, 3) := by decide +kernel
theorem dX5_begin_36 : decode cX5_begin 36 = .ok (.goto (-25), 3) := by decide +kernel
theorem dX5_begin_39 : decode cX5_begin 39 = .ok (.aload_n 0, 1) := by decide +kernel
theorem dX5_begin_40 : decode cX5_begin 40 = .ok (.dup, 1) := by decide +kernel
theorem dX5_begin_41 : decode cX5_begin 41 = .ok (.getfield 49, 3) := by decide +kernel
theorem dX5_begin_44 : decode cX5_begin 44 = .ok (.iconst 1, 1) := by decide +kernel
theorem dX5_begin_45 : decode cX5_begin 45 = .ok (.iadd, 1) := by decide +kernel
theorem dX5_begin_46 : decode cX5_begin 46 = .ok (.putfield 49, 3) := by decide +kernel
theorem dX5_begin_49 : decode cX5_begin 49 = .ok (.aload_n 0, 1) := by decide +kernel
theorem dX5_begin_50 : decode cX5_begin 50 = .ok (.dup, 1) := by decide +kernel
theorem dX5_begin_51 : decode cX5_begin 51 = .ok (.getfield 46, 3) := by decide +kernel
theorem dX5_begin_54 : decode cX5_begin 54 = .ok (.iconst 1, 1) := by decide +kernel
theorem dX5_begin_55 : decode cX5_begin 55 = .ok (.isub, 1) := by decide +kernel
theorem dX5_begin_56 : decode cX5_begin 56 = .ok (.putfield 46, 3) := by decide +kernel
theorem dX5_begin_59 : decode cX5_begin 59 = .ok (.aload_n 0, 1) := by decide +kernel
theorem dX5_begin_60 : decode cX5_begin 60 = .ok (.dup, 1) := by decide +kernel
theorem dX5_begin_61 : decode cX5_begin 61 = .ok (.getfield 46, 3) := by decide +kernel
theorem dX5_begin_64 : decode cX5_begin 64 = .ok (.iconst 1, 1) := by decide +kernel
theorem dX5_begin_65 : decode cX5_begin 65 = .ok (.iadd, 1) := by decide +kernel
theorem dX5_begin_66 : decode cX5_begin 66 = .ok (.putfield 46, 3) := by decide +kernel
theorem dX5_begin_69 : decode cX5_begin 69 = .ok (.aload_n 0, 1) := by decide +kernel
theorem dX5_begin_70 : decode cX5_begin 70 = .ok (.iconst 0, 1) := by decide +kernel
theorem dX5_begin_71 : decode cX5_begin 71 = .ok (.putfield 55, 3) := by decide +kernel
theorem dX5_begin_74 : decode cX5_begin 74 = .ok (.return_, 1) := by decide +kernel
theorem dX5_advance_0 : decode cX5_advance 0 = .ok (.aload_n 0, 1) := by decide +kernel
theorem dX5_advance_1 : decode cX5_advance 1 = .ok (.iconst 0, 1) := by decide +kernel
theorem dX5_advance_2 : decode cX5_advance 2 = .ok (.putfield 39, 3) := by decide +kernel
theorem dX5_advance_5 : decode cX5_advance 5 = .ok (.aload_n 0, 1) := by decide +kernel
theorem dX5_advance_6 : decode cX5_advance 6 = .ok (.invokevirtual 65, 3) := by decide +kernel
theorem dX5_advance_9 : decode cX5_advance 9 = .ok (.iconst 0, 1) := by decide +kernel
theorem dX5_advance_10 : decode cX5_advance 10 = .ok (.istore_n 1, 1) := by decide +kernel
theorem dX5_advance_11 : decode cX5_advance 11 = .ok (.iload_n 1, 1) := by decide +kernel
theorem dX5_advance_12 : decode cX5_advance 12 = .ok (.bipush 16, 2) := by decide +kernel
theorem dX5_advance_14 : decode cX5_advance 14 = .ok (.if_icmp .ge 31, 3) := by decide +kernel
theorem dX5_advance_17 : decode cX5_advance 17 = .ok (.aload_n 0, 1) := by decide +kernel
theorem dX5_advance_18 : decode cX5_advance 18 = .ok (.getfield 17, 3) := by decide +kernel
theorem dX5_advance_21 : decode cX5_advance 21 = .ok (.bipush 16, 2) := by decide +kernel
theorem dX5_advance_23 : decode cX5_advance 23 = .ok (.aload_n 0, 1) := by decide +kernel
theorem dX5_advance_24 : decode cX5_advance 24 = .ok (.getfield 46, 3) := by decide +kernel
theorem dX5_advance_27 : decode cX5_advance 27 = .ok (.iconst 1, 1) := by decide +kernel
theorem dX5_advance_28 : decode cX5_advance 28 = .ok (.isub, 1) := by decide +kernel
theorem dX5_advance_29 : decode cX5_advance 29 = .ok (.imul, 1) := by decide +kernel
theorem dX5_advance_30 : decode cX5_advance 30 = .ok (.iload_n 1, 1) := by decide +kernel
theorem dX5_advance_31 : decode cX5_advance 31 = .ok (.iadd, 1) := by decide +kernel
theorem dX5_advance_32 : decode cX5_advance 32 = .ok (.aload_n 0, 1) := by decide +kernel
theorem dX5_advance_33 : decode cX5_advance 33 = .ok (.getfield 13, 3) := by decide +kernel
theorem dX5_advance_36 : decode cX5_advance 36 = .ok (.iload_n 1, 1) := by decide +kernel
theorem dX5_advance_37 : decode cX5_advance 37 = .ok (.iaload, 1) := by decide +kernel
theorem dX5_advance_38 : decode cX5_advance 38 = .ok (.iastore, 1) := by decide +kernel
theorem dX5_advance_39 : decode cX5_advance 39 = .ok (.iinc 1 1, 3) := by decide +kernel
theorem dX5_advance_42 : decode cX5_advance 42 = .ok (.goto (-31), 3) := by decide +kernel
theorem dX5_advance_45 : decode cX5_advance 45 = .ok (.aload_n 0, 1) := by decide +kernel
theorem dX5_advance_46 : decode cX5_advance 46 = .ok (.invokevirtual 58, 3) := by decide +kernel
theorem dX5_advance_49 : decode cX5_advance 49 = .ok (.aload_n 0, 1) := by decide +kernel
theorem dX5_advance_50 : decode cX5_advance 50 = .ok (.getfield 46, 3) := by decide +kernel
theorem dX5_advance_53 : decode cX5_advance 53 = .ok (.ireturn, 1) := by decide +kernel
theorem dX5_append_0 : decode cX5_append 0 = .ok (.aload_n 0, 1) := by decide +kernel
theorem dX5_append_1 : decode cX5_append 1 = .ok (.iload_n 1, 1) := by decide +kernel
theorem dX5_append_2 : decode cX5_append 2 = .ok (.bipush 32, 2) := by decide +kernel
theorem dX5_append_4 : decode cX5_append 4 = .ok (.bipush 126, 2) := by decide +kernel
theorem dX5_append_6 : decode cX5_append 6 = .ok (.invokestatic 42, 3) := by decide +kernel
theorem dX5_append_9 : decode cX5_append 9 = .ok (.ifCond .ne 7, 3) := by decide +kernel
theorem dX5_append_12 : decode cX5_append 12 = .ok (.iconst 1, 1) := by decide +kernel
theorem dX5_append_13 : decode cX5_append 13 = .ok (.goto 17, 3) := by decide +kernel
theorem dX5_append_16 : decode cX5_append 16 = .ok (.aload_n 0, 1) := by decide +kernel
theorem dX5_append_17 : decode cX5_append 17 = .ok (.getfield 68, 3) := by decide +kernel
theorem dX5_append_20 : decode cX5_append 20 = .ok (.bipush 64, 2) := by decide +kernel
theorem dX5_append_22 : decode cX5_append 22 = .ok (.if_icmp .ne 7, 3) := by decide +kernel
theorem dX5_append_25 : decode cX5_append 25 = .ok (.iconst 2, 1) := by decide +kernel
theorem dX5_append_26 : decode cX5_append 26 = .ok (.goto 4, 3) := by decide +kernel
theorem dX5_append_29 : decode cX5_append 29 = .ok (.iconst 0, 1) := by decide +kernel
theorem dX5_append_30 : decode cX5_append 30 = .ok (.putfield 39, 3) := by decide +kernel
theorem dX5_append_33 : decode cX5_append 33 = .ok (.aload_n 0, 1) := by decide +kernel
theorem dX5_append_34 : decode cX5_append 34 = .ok (.getfield 39, 3) := by decide +kernel
theorem dX5_append_37 : decode cX5_append 37 = .ok (.ifCond .le 5, 3) := by decide +kernel
theorem dX5_append_40 : decode cX5_append 40 = .ok (.iconst 0, 1) := by decide +kernel
theorem dX5_append_41 : decode cX5_append 41 = .ok (.ireturn, 1) := by decide +kernel
theorem dX5_append_42 : decode cX5_append 42 = .ok (.aload_n 0, 1) := by decide +kernel
theorem dX5_append_43 : decode cX5_append 43 = .ok (.getfield 20, 3) := by decide +kernel
theorem dX5_append_46 : decode cX5_append 46 = .ok (.aload_n 0, 1) := by decide +kernel
theorem dX5_append_47 : decode cX5_append 47 = .ok (.getfield 68, 3) := by decide +kernel
theorem dX5_append_50 : decode cX5_append 50 = .ok (.iload_n 1, 1) := by decide +kernel
theorem dX5_append_51 : decode cX5_append 51 = .ok (.iastore, 1) := by decide +kernel
theorem dX5_append_52 : decode cX5_append 52 = .ok (.aload_n 0, 1) := by decide +kernel
theorem dX5_append_53 : decode cX5_append 53 = .ok (.dup, 1) := by decide +kernel
theorem dX5_append_54 : decode cX5_append 54 = .ok (.getfield 68, 3) := by decide +kernel
theorem dX5_append_57 : decode cX5_append 57 = .ok (.iconst 1, 1) := by decide +kernel
theorem dX5_append_58 : decode cX5_append 58 = .ok (.iadd, 1) := by decide +kernel
theorem dX5_append_59 : decode cX5_append 59 = .ok (.putfield 68, 3) := by decide +kernel
theorem dX5_append_62 : decode cX5_append 62 = .ok (.aload_n 0, 1) := by decide +kernel
theorem dX5_append_63 : decode cX5_append 63 = .ok (.getfield 68, 3) := by decide +kernel
theorem dX5_append_66 : decode cX5_append 66 = .ok (.ireturn, 1) := by decide +kernel
theorem dX5_clearInput_0 : decode cX5_clearInput 0 = .ok (.aload_n 0, 1) := by decide +kernel
theorem dX5_clearInput_1 : decode cX5_clearInput 1 = .ok (.iconst 0, 1) := by decide +kernel
theorem dX5_clearInput_2 : decode cX5_clearInput 2 = .ok (.putfield 39, 3) := by decide +kernel
theorem dX5_clearInput_5 : decode cX5_clearInput 5 = .ok (.aload_n 0, 1) := by decide +kernel
theorem dX5_clearInput_6 : decode cX5_clearInput 6 = .ok (.getfield 68, 3) := by decide +kernel
theorem dX5_clearInput_9 : decode cX5_clearInput 9 = .ok (.istore_n 1, 1) := by decide +kernel
theorem dX5_clearInput_10 : decode cX5_clearInput 10 = .ok (.aload_n 0, 1) := by decide +kernel
theorem dX5_clearInput_11 : decode cX5_clearInput 11 = .ok (.iconst 0, 1) := by decide +kernel
theorem dX5_clearInput_12 : decode cX5_clearInput 12 = .ok (.putfield 68, 3) := by decide +kernel
theorem dX5_clearInput_15 : decode cX5_clearInput 15 = .ok (.iload_n 1, 1) := by decide +kernel
theorem dX5_clearInput_16 : decode cX5_clearInput 16 = .ok (.ireturn, 1) := by decide +kernel
theorem dX5_powerOf_0 : decode cX5_powerOf 0 = .ok (.iload_n 0, 1) := by decide +kernel
theorem dX5_powerOf_1 : decode cX5_powerOf 1 = .ok (.bipush 48, 2) := by decide +kernel
theorem dX5_powerOf_3 : decode cX5_powerOf 3 = .ok (.bipush 57, 2) := by decide +kernel
theorem dX5_powerOf_5 : decode cX5_powerOf 5 = .ok (.invokestatic 42, 3) := by decide +kernel
theorem dX5_powerOf_8 : decode cX5_powerOf 8 = .ok (.ifCond .eq 10, 3) := by decide +kernel
theorem dX5_powerOf_11 : decode cX5_powerOf 11 = .ok (.iload_n 0, 1) := by decide +kernel
theorem dX5_powerOf_12 : decode cX5_powerOf 12 = .ok (.bipush 48, 2) := by decide +kernel
theorem dX5_powerOf_14 : decode cX5_powerOf 14 = .ok (.isub, 1) := by decide +kernel
theorem dX5_powerOf_15 : decode cX5_powerOf 15 = .ok (.goto 25, 3) := by decide +kernel
theorem dX5_powerOf_18 : decode cX5_powerOf 18 = .ok (.iload_n 0, 1) := by decide +kernel
theorem dX5_powerOf_19 : decode cX5_powerOf 19 = .ok (.bipush 65, 2) := by decide +kernel
theorem dX5_powerOf_21 : decode cX5_powerOf 21 = .ok (.bipush 90, 2) := by decide +kernel
theorem dX5_powerOf_23 : decode cX5_powerOf 23 = .ok (.invokestatic 42, 3) := by decide +kernel
theorem dX5_powerOf_26 : decode cX5_powerOf 26 = .ok (.ifCond .eq 13, 3) := by decide +kernel
theorem dX5_powerOf_29 : decode cX5_powerOf 29 = .ok (.bipush 10, 2) := by decide +kernel
theorem dX5_powerOf_31 : decode cX5_powerOf 31 = .ok (.iload_n 0, 1) := by decide +kernel
theorem dX5_powerOf_32 : decode cX5_powerOf 32 = .ok (.iadd, 1) := by decide +kernel
theorem dX5_powerOf_33 : decode cX5_powerOf 33 = .ok (.bipush 65, 2) := by decide +kernel
theorem dX5_powerOf_35 : decode cX5_powerOf 35 = .ok (.isub, 1) := by decide +kernel
theorem dX5_powerOf_36 : decode cX5_powerOf 36 = .ok (.goto 4, 3) := by decide +kernel
theorem dX5_powerOf_39 : decode cX5_powerOf 39 = .ok (.iconst (-1), 1) := by decide +kernel
theorem dX5_powerOf_40 : decode cX5_powerOf 40 = .ok (.ireturn, 1) := by decide +kernel
theorem dX5_rightLength_0 : decode cX5_rightLength 0 = .ok (.iconst 0, 1) := by decide +kernel
theorem dX5_rightLength_1 : decode cX5_rightLength 1 = .ok (.istore_n 1, 1) := by decide +kernel
theorem dX5_rightLength_2 : decode cX5_rightLength 2 = .ok (.iload_n 1, 1) := by decide +kernel
theorem dX5_rightLength_3 : decode cX5_rightLength 3 = .ok (.aload_n 0, 1) := by decide +kernel
theorem dX5_rightLength_4 : decode cX5_rightLength 4 = .ok (.getfield 68, 3) := by decide +kernel
theorem dX5_rightLength_7 : decode cX5_rightLength 7 = .ok (.if_icmp .ge 22, 3) := by decide +kernel
theorem dX5_rightLength_10 : decode cX5_rightLength 10 = .ok (.aload_n 0, 1) := by decide +kernel
theorem dX5_rightLength_11 : decode cX5_rightLength 11 = .ok (.getfield 20, 3) := by decide +kernel
theorem dX5_rightLength_14 : decode cX5_rightLength 14 = .ok (.iload_n 1, 1) := by decide +kernel
theorem dX5_rightLength_15 : decode cX5_rightLength 15 = .ok (.iaload, 1) := by decide +kernel
theorem dX5_rightLength_16 : decode cX5_rightLength 16 = .ok (.invokestatic 71, 3) := by decide +kernel
theorem dX5_rightLength_19 : decode cX5_rightLength 19 = .ok (.iconst (-1), 1) := by decide +kernel
theorem dX5_rightLength_20 : decode cX5_rightLength 20 = .ok (.if_icmp .eq 9, 3) := by decide +kernel
theorem dX5_rightLength_23 : decode cX5_rightLength 23 = .ok (.iinc 1 1, 3) := by decide +kernel
theorem dX5_rightLength_26 : decode cX5_rightLength 26 = .ok (.goto (-24), 3) := by decide +kernel
theorem dX5_rightLength_29 : decode cX5_rightLength 29 = .ok (.iload_n 1, 1) := by decide +kernel
theorem dX5_rightLength_30 : decode cX5_rightLength 30 = .ok (.ireturn, 1) := by decide +kernel
theorem dX5_firstError_0 : decode cX5_firstError 0 = .ok (.aload_n 0, 1) := by decide +kernel
theorem dX5_firstError_1 : decode cX5_firstError 1 = .ok (.iconst 0, 1) := by decide +kernel
theorem dX5_firstError_2 : decode cX5_firstError 2 = .ok (.putfield 39, 3) := by decide +kernel
theorem dX5_firstError_5 : decode cX5_firstError 5 = .ok (.aload_n 0, 1) := by decide +kernel
theorem dX5_firstError_6 : decode cX5_firstError 6 = .ok (.invokevirtual 75, 3) := by decide +kernel
theorem dX5_firstError_9 : decode cX5_firstError 9 = .ok (.ireturn, 1) := by decide +kernel
theorem dX5_load_0 : decode cX5_load 0 = .ok (.aload_n 0, 1) := by decide +kernel
theorem dX5_load_1 : decode cX5_load 1 = .ok (.aload_n 0, 1) := by decide +kernel
theorem dX5_load_2 : decode cX5_load 2 = .ok (.getfield 68, 3) := by decide +kernel
theorem dX5_load_5 : decode cX5_load 5 = .ok (.ifCond .le 30, 3) := by decide +kernel
theorem dX5_load_8 : decode cX5_load 8 = .ok (.aload_n 0, 1) := by decide +kernel
theorem dX5_load_9 : decode cX5_load 9 = .ok (.invokevirtual 75, 3) := by decide +kernel
theorem dX5_load_12 : decode cX5_load 12 = .ok (.aload_n 0, 1) := by decide +kernel
theorem dX5_load_13 : decode cX5_load 13 = .ok (.getfield 68, 3) := by decide +kernel
theorem dX5_load_16 : decode cX5_load 16 = .ok (.if_icmp .ne 19, 3) := by decide +kernel
theorem dX5_load_19 : decode cX5_load 19 = .ok (.aload_n 0, 1) := by decide +kernel
theorem dX5_load_20 : decode cX5_load 20 = .ok (.getfield 68, 3) := by decide +kernel
theorem dX5_load_23 : decode cX5_load 23 = .ok (.aload_n 0, 1) := by decide +kernel
theorem dX5_load_24 : decode cX5_load 24 = .ok (.getfield 7, 3) := by decide +kernel
theorem dX5_load_27 : decode cX5_load 27 = .ok (.irem, 1) := by decide +kernel
theorem dX5_load_28 : decode cX5_load 28 = .ok (.ifCond .ne 7, 3) := by decide +kernel
theorem dX5_load_31 : decode cX5_load 31 = .ok (.iconst 0, 1) := by decide +kernel
theorem dX5_load_32 : decode cX5_load 32 = .ok (.goto 4, 3) := by decide +kernel
theorem dX5_load_35 : decode cX5_load 35 = .ok (.iconst 1, 1) := by decide +kernel
theorem dX5_load_36 : decode cX5_load 36 = .ok (.putfield 39, 3) := by decide +kernel
theorem dX5_load_39 : decode cX5_load 39 = .ok (.aload_n 0, 1) := by decide +kernel
theorem dX5_load_40 : decode cX5_load 40 = .ok (.getfield 39, 3) := by decide +kernel
theorem dX5_load_43 : decode cX5_load 43 = .ok (.ifCond .le 5, 3) := by decide +kernel
theorem dX5_load_46 : decode cX5_load 46 = .ok (.iconst 0, 1) := by decide +kernel
theorem dX5_load_47 : decode cX5_load 47 = .ok (.ireturn, 1) := by decide +kernel
theorem dX5_load_48 : decode cX5_load 48 = .ok (.aload_n 0, 1) := by decide +kernel
theorem dX5_load_49 : decode cX5_load 49 = .ok (.getfield 68, 3) := by decide +kernel
theorem dX5_load_52 : decode cX5_load 52 = .ok (.aload_n 0, 1) := by decide +kernel
theorem dX5_load_53 : decode cX5_load 53 = .ok (.getfield 7, 3) := by decide +kernel
theorem dX5_load_56 : decode cX5_load 56 = .ok (.idiv, 1) := by decide +kernel
theorem dX5_load_57 : decode cX5_load 57 = .ok (.istore_n 1, 1) := by decide +kernel
theorem dX5_load_58 : decode cX5_load 58 = .ok (.iconst 0, 1) := by decide +kernel
theorem dX5_load_59 : decode cX5_load 59 = .ok (.istore_n 2, 1) := by decide +kernel
theorem dX5_load_60 : decode cX5_load 60 = .ok (.iload_n 2, 1) := by decide +kernel
theorem dX5_load_61 : decode cX5_load 61 = .ok (.iload_n 1, 1) := by decide +kernel
theorem dX5_load_62 : decode cX5_load 62 = .ok (.if_icmp .ge 61, 3) := by decide +kernel
theorem dX5_load_65 : decode cX5_load 65 = .ok (.aload_n 0, 1) := by decide +kernel
theorem dX5_load_66 : decode cX5_load 66 = .ok (.invokevirtual 65, 3) := by decide +kernel
theorem dX5_load_69 : decode cX5_load 69 = .ok (.iconst 0, 1) := by decide +kernel
theorem dX5_load_70 : decode cX5_load 70 = .ok (.istore_n 3, 1) := by decide +kernel
theorem dX5_load_71 : decode cX5_load 71 = .ok (.iload_n 3, 1) := by decide +kernel
theorem dX5_load_72 : decode cX5_load 72 = .ok (.aload_n 0, 1) := by decide +kernel
theorem dX5_load_73 : decode cX5_load 73 = .ok (.getfield 7, 3) := by decide +kernel
theorem dX5_load_76 : decode cX5_load 76 = .ok (.if_icmp .ge 41, 3) := by decide +kernel
theorem dX5_load_79 : decode cX5_load 79 = .ok (.aload_n 0, 1) := by decide +kernel
theorem dX5_load_80 : decode cX5_load 80 = .ok (.getfield 17, 3) := by decide +kernel
theorem dX5_load_83 : decode cX5_load 83 = .ok (.bipush 16, 2) := by decide +kernel
theorem dX5_load_85 : decode cX5_load 85 = .ok (.aload_n 0, 1) := by decide +kernel
theorem dX5_load_86 : decode cX5_load 86 = .ok (.getfield 46, 3) := by decide +kernel
theorem dX5_load_89 : decode cX5_load 89 = .ok (.iconst 1, 1) := by decide +kernel
theorem dX5_load_90 : decode cX5_load 90 = .ok (.isub, 1) := by decide +kernel
theorem dX5_load_91 : decode cX5_load 91 = .ok (.imul, 1) := by decide +kernel
theorem dX5_load_92 : decode cX5_load 92 = .ok (.iload_n 3, 1) := by decide +kernel
theorem dX5_load_93 : decode cX5_load 93 = .ok (.iadd, 1) := by decide +kernel
theorem dX5_load_94 : decode cX5_load 94 = .ok (.aload_n 0, 1) := by decide +kernel
theorem dX5_load_95 : decode cX5_load 95 = .ok (.getfield 20, 3) := by decide +kernel
theorem dX5_load_98 : decode cX5_load 98 = .ok (.aload_n 0, 1) := by decide +kernel
theorem dX5_load_99 : decode cX5_load 99 = .ok (.getfield 7, 3) := by decide +kernel
theorem dX5_load_102 : decode cX5_load 102 = .ok (.iload_n 2, 1) := by decide +kernel
theorem dX5_load_103 : decode cX5_load 103 = .ok (.imul, 1) := by decide +kernel
theorem dX5_load_104 : decode cX5_load 104 = .ok (.iload_n 3, 1) := by decide +kernel
theorem dX5_load_105 : decode cX5_load 105 = .ok (.iadd, 1) := by decide +kernel
theorem dX5_load_106 : decode cX5_load 106 = .ok (.iaload, 1) := by decide +kernel
theorem dX5_load_107 : decode cX5_load 107 = .ok (.invokestatic 71, 3) := by decide +kernel
theorem dX5_load_110 : decode cX5_load 110 = .ok (.iastore, 1) := by decide +kernel
theorem dX5_load_111 : decode cX5_load 111 = .ok (.iinc 3 1, 3) := by decide +kernel
theorem dX5_load_114 : decode cX5_load 114 = .ok (.goto (-43), 3) := by decide +kernel
theorem dX5_load_117 : decode cX5_load 117 = .ok (.iinc 2 1, 3) := by decide +kernel
theorem dX5_load_120 : decode cX5_load 120 = .ok (.goto (-60), 3) := by decide +kernel
theorem dX5_load_123 : decode cX5_load 123 = .ok (.aload_n 0, 1) := by decide +kernel
theorem dX5_load_124 : decode cX5_load 124 = .ok (.iconst 0, 1) := by decide +kernel
theorem dX5_load_125 : decode cX5_load 125 = .ok (.putfield 68, 3) := by decide +kernel
theorem dX5_load_128 : decode cX5_load 128 = .ok (.iload_n 1, 1) := by decide +kernel
theorem dX5_load_129 : decode cX5_load 129 = .ok (.ireturn, 1) := by decide +kernel
theorem dX5_treeOffset_0 : decode cX5_treeOffset 0 = .ok (.iconst 0, 1) := by decide +kernel
theorem dX5_treeOffset_1 : decode cX5_treeOffset 1 = .ok (.istore_n 3, 1) := by decide +kernel
theorem dX5_treeOffset_2 : decode cX5_treeOffset 2 = .ok (.iload_n 1, 1) := by decide +kernel
theorem dX5_treeOffset_3 : decode cX5_treeOffset 3 = .ok (.istore 4, 2) := by decide +kernel
theorem dX5_treeOffset_5 : decode cX5_treeOffset 5 = .ok (.iload_n 2, 1) := by decide +kernel
theorem dX5_treeOffset_6 : decode cX5_treeOffset 6 = .ok (.istore 5, 2) := by decide +kernel
theorem dX5_treeOffset_8 : decode cX5_treeOffset 8 = .ok (.aload_n 0, 1) := by decide +kernel
theorem dX5_treeOffset_9 : decode cX5_treeOffset 9 = .ok (.getfield 7, 3) := by decide +kernel
theorem dX5_treeOffset_12 : decode cX5_treeOffset 12 = .ok (.istore 6, 2) := by decide +kernel
theorem dX5_treeOffset_14 : decode cX5_treeOffset 14 = .ok (.iload 6, 2) := by decide +kernel
theorem dX5_treeOffset_16 : decode cX5_treeOffset 16 = .ok (.iconst 1, 1) := by decide +kernel
theorem dX5_treeOffset_17 : decode cX5_treeOffset 17 = .ok (.if_icmp .le 48, 3) := by decide +kernel
theorem dX5_treeOffset_20 : decode cX5_treeOffset 20 = .ok (.iload 4, 2) := by decide +kernel
theorem dX5_treeOffset_22 : decode cX5_treeOffset 22 = .ok (.iconst 2, 1) := by decide +kernel
theorem dX5_treeOffset_23 : decode cX5_treeOffset 23 = .ok (.idiv, 1) := by decide +kernel
theorem dX5_treeOffset_24 : decode cX5_treeOffset 24 = .ok (.istore 7, 2) := by decide +kernel
theorem dX5_treeOffset_26 : decode cX5_treeOffset 26 = .ok (.iload 5, 2) := by decide +kernel
theorem dX5_treeOffset_28 : decode cX5_treeOffset 28 = .ok (.iload 6, 2) := by decide +kernel
theorem dX5_treeOffset_30 : decode cX5_treeOffset 30 = .ok (.iconst 2, 1) := by decide +kernel
theorem dX5_treeOffset_31 : decode cX5_treeOffset 31 = .ok (.idiv, 1) := by decide +kernel
theorem dX5_treeOffset_32 : decode cX5_treeOffset 32 = .ok (.if_icmp .lt 20, 3) := by decide +kernel
theorem dX5_treeOffset_35 : decode cX5_treeOffset 35 = .ok (.iload_n 3, 1) := by decide +kernel
theorem dX5_treeOffset_36 : decode cX5_treeOffset 36 = .ok (.iload 4, 2) := by decide +kernel
theorem dX5_treeOffset_38 : decode cX5_treeOffset 38 = .ok (.iload 7, 2) := by decide +kernel
theorem dX5_treeOffset_40 : decode cX5_treeOffset 40 = .ok (.isub, 1) := by decide +kernel
theorem dX5_treeOffset_41 : decode cX5_treeOffset 41 = .ok (.iadd, 1) := by decide +kernel
theorem dX5_treeOffset_42 : decode cX5_treeOffset 42 = .ok (.istore_n 3, 1) := by decide +kernel
theorem dX5_treeOffset_43 : decode cX5_treeOffset 43 = .ok (.iload 5, 2) := by decide +kernel
theorem dX5_treeOffset_45 : decode cX5_treeOffset 45 = .ok (.iload 6, 2) := by decide +kernel
theorem dX5_treeOffset_47 : decode cX5_treeOffset 47 = .ok (.iconst 2, 1) := by decide +kernel
theorem dX5_treeOffset_48 : decode cX5_treeOffset 48 = .ok (.idiv, 1) := by decide +kernel
theorem dX5_treeOffset_49 : decode cX5_treeOffset 49 = .ok (.isub, 1) := by decide +kernel
theorem dX5_treeOffset_50 : decode cX5_treeOffset 50 = .ok (.istore 5, 2) := by decide +kernel
theorem dX5_treeOffset_52 : decode cX5_treeOffset 52 = .ok (.iload 7, 2) := by decide +kernel
theorem dX5_treeOffset_54 : decode cX5_treeOffset 54 = .ok (.istore 4, 2) := by decide +kernel
theorem dX5_treeOffset_56 : decode cX5_treeOffset 56 = .ok (.iload 6, 2) := by decide +kernel
theorem dX5_treeOffset_58 : decode cX5_treeOffset 58 = .ok (.iconst 2, 1) := by decide +kernel
theorem dX5_treeOffset_59 : decode cX5_treeOffset 59 = .ok (.idiv, 1) := by decide +kernel
theorem dX5_treeOffset_60 : decode cX5_treeOffset 60 = .ok (.istore 6, 2) := by decide +kernel
theorem dX5_treeOffset_62 : decode cX5_treeOffset 62 = .ok (.goto (-48), 3) := by decide +kernel
theorem dX5_treeOffset_65 : decode cX5_treeOffset 65 = .ok (.iload_n 3, 1) := by decide +kernel
theorem dX5_treeOffset_66 : decode cX5_treeOffset 66 = .ok (.ireturn, 1) := by decide +kernel
theorem dX5_straightOffset_0 : decode cX5_straightOffset 0 = .ok (.aload_n 0, 1) := by decide +kernel
theorem dX5_straightOffset_1 : decode cX5_straightOffset 1 = .ok (.getfield 7, 3) := by decide +kernel
theorem dX5_straightOffset_4 : decode cX5_straightOffset 4 = .ok (.iconst 1, 1) := by decide +kernel
theorem dX5_straightOffset_5 : decode cX5_straightOffset 5 = .ok (.isub, 1) := by decide +kernel
theorem dX5_straightOffset_6 : decode cX5_straightOffset 6 = .ok (.istore_n 3, 1) := by decide +kernel
theorem dX5_straightOffset_7 : decode cX5_straightOffset 7 = .ok (.iconst 2, 1) := by decide +kernel
theorem dX5_straightOffset_8 : decode cX5_straightOffset 8 = .ok (.iload_n 1, 1) := by decide +kernel
theorem dX5_straightOffset_9 : decode cX5_straightOffset 9 = .ok (.imul, 1) := by decide +kernel
theorem dX5_straightOffset_10 : decode cX5_straightOffset 10 = .ok (.iload_n 2, 1) := by decide +kernel
theorem dX5_straightOffset_11 : decode cX5_straightOffset 11 = .ok (.imul, 1) := by decide +kernel
theorem dX5_straightOffset_12 : decode cX5_straightOffset 12 = .ok (.iload_n 3, 1) := by decide +kernel
theorem dX5_straightOffset_13 : decode cX5_straightOffset 13 = .ok (.iadd, 1) := by decide +kernel
theorem dX5_straightOffset_14 : decode cX5_straightOffset 14 = .ok (.iconst 2, 1) := by decide +kernel
theorem dX5_straightOffset_15 : decode cX5_straightOffset 15 = .ok (.iload_n 3, 1) := by decide +kernel
theorem dX5_straightOffset_16 : decode cX5_straightOffset 16 = .ok (.imul, 1) := by decide +kernel
theorem dX5_straightOffset_17 : decode cX5_straightOffset 17 = .ok (.idiv, 1) := by decide +kernel
theorem dX5_straightOffset_18 : decode cX5_straightOffset 18 = .ok (.ireturn, 1) := by decide +kernel
theorem dX5_offsetBy_0 : decode cX5_offsetBy 0 = .ok (.iload_n 3, 1) := by decide +kernel
theorem dX5_offsetBy_1 : decode cX5_offsetBy 1 = .ok (.ifCond .eq 12, 3) := by decide +kernel
theorem dX5_offsetBy_4 : decode cX5_offsetBy 4 = .ok (.aload_n 0, 1) := by decide +kernel
theorem dX5_offsetBy_5 : decode cX5_offsetBy 5 = .ok (.iload_n 1, 1) := by decide +kernel
theorem dX5_offsetBy_6 : decode cX5_offsetBy 6 = .ok (.iload_n 2, 1) := by decide +kernel
theorem dX5_offsetBy_7 : decode cX5_offsetBy 7 = .ok (.invokevirtual 79, 3) := by decide +kernel
theorem dX5_offsetBy_10 : decode cX5_offsetBy 10 = .ok (.goto 9, 3) := by decide +kernel
theorem dX5_offsetBy_13 : decode cX5_offsetBy 13 = .ok (.aload_n 0, 1) := by decide +kernel
theorem dX5_offsetBy_14 : decode cX5_offsetBy 14 = .ok (.iload_n 1, 1) := by decide +kernel
theorem dX5_offsetBy_15 : decode cX5_offsetBy 15 = .ok (.iload_n 2, 1) := by decide +kernel
theorem dX5_offsetBy_16 : decode cX5_offsetBy 16 = .ok (.invokevirtual 83, 3) := by decide +kernel
theorem dX5_offsetBy_19 : decode cX5_offsetBy 19 = .ok (.ireturn, 1) := by decide +kernel
theorem dX5_isSlope_0 : decode cX5_isSlope 0 = .ok (.iload_n 1, 1) := by decide +kernel
theorem dX5_isSlope_1 : decode cX5_isSlope 1 = .ok (.iconst 0, 1) := by decide +kernel
theorem dX5_isSlope_2 : decode cX5_isSlope 2 = .ok (.aload_n 0, 1) := by decide +kernel
theorem dX5_isSlope_3 : decode cX5_isSlope 3 = .ok (.getfield 7, 3) := by decide +kernel
theorem dX5_isSlope_6 : decode cX5_isSlope 6 = .ok (.iconst 1, 1) := by decide +kernel
theorem dX5_isSlope_7 : decode cX5_isSlope 7 = .ok (.isub, 1) := by decide +kernel
theorem dX5_isSlope_8 : decode cX5_isSlope 8 = .ok (.invokestatic 42, 3) := by decide +kernel
theorem dX5_isSlope_11 : decode cX5_isSlope 11 = .ok (.ireturn, 1) := by decide +kernel
theorem dX5_offset_0 : decode cX5_offset 0 = .ok (.aload_n 0, 1) := by decide +kernel
theorem dX5_offset_1 : decode cX5_offset 1 = .ok (.aload_n 0, 1) := by decide +kernel
theorem dX5_offset_2 : decode cX5_offset 2 = .ok (.iload_n 1, 1) := by decide +kernel
theorem dX5_offset_3 : decode cX5_offset 3 = .ok (.invokevirtual 86, 3) := by decide +kernel
theorem dX5_offset_6 : decode cX5_offset 6 = .ok (.ifCond .eq 15, 3) := by decide +kernel
theorem dX5_offset_9 : decode cX5_offset 9 = .ok (.aload_n 0, 1) := by decide +kernel
theorem dX5_offset_10 : decode cX5_offset 10 = .ok (.iload_n 2, 1) := by decide +kernel
theorem dX5_offset_11 : decode cX5_offset 11 = .ok (.invokevirtual 61, 3) := by decide +kernel
theorem dX5_offset_14 : decode cX5_offset 14 = .ok (.ifCond .eq 7, 3) := by decide +kernel
theorem dX5_offset_17 : decode cX5_offset 17 = .ok (.iconst 0, 1) := by decide +kernel
theorem dX5_offset_18 : decode cX5_offset 18 = .ok (.goto 4, 3) := by decide +kernel
theorem dX5_offset_21 : decode cX5_offset 21 = .ok (.iconst 1, 1) := by decide +kernel
theorem dX5_offset_22 : decode cX5_offset 22 = .ok (.putfield 39, 3) := by decide +kernel
theorem dX5_offset_25 : decode cX5_offset 25 = .ok (.aload_n 0, 1) := by decide +kernel
theorem dX5_offset_26 : decode cX5_offset 26 = .ok (.getfield 39, 3) := by decide +kernel
theorem dX5_offset_29 : decode cX5_offset 29 = .ok (.ifCond .le 7, 3) := by decide +kernel
theorem dX5_offset_32 : decode cX5_offset 32 = .ok (.iconst 0, 1) := by decide +kernel
theorem dX5_offset_33 : decode cX5_offset 33 = .ok (.goto 10, 3) := by decide +kernel
theorem dX5_offset_36 : decode cX5_offset 36 = .ok (.aload_n 0, 1) := by decide +kernel
theorem dX5_offset_37 : decode cX5_offset 37 = .ok (.iload_n 1, 1) := by decide +kernel
theorem dX5_offset_38 : decode cX5_offset 38 = .ok (.iload_n 2, 1) := by decide +kernel
theorem dX5_offset_39 : decode cX5_offset 39 = .ok (.iload_n 3, 1) := by decide +kernel
theorem dX5_offset_40 : decode cX5_offset 40 = .ok (.invokevirtual 89, 3) := by decide +kernel
theorem dX5_offset_43 : decode cX5_offset 43 = .ok (.ireturn, 1) := by decide +kernel
theorem dX5_bendOf_0 : decode cX5_bendOf 0 = .ok (.iconst 0, 1) := by decide +kernel
theorem dX5_bendOf_1 : decode cX5_bendOf 1 = .ok (.istore_n 2, 1) := by decide +kernel
theorem dX5_bendOf_2 : decode cX5_bendOf 2 = .ok (.iconst 0, 1) := by decide +kernel
theorem dX5_bendOf_3 : decode cX5_bendOf 3 = .ok (.istore_n 3, 1) := by decide +kernel
theorem dX5_bendOf_4 : decode cX5_bendOf 4 = .ok (.iload_n 3, 1) := by decide +kernel
theorem dX5_bendOf_5 : decode cX5_bendOf 5 = .ok (.aload_n 0, 1) := by decide +kernel
theorem dX5_bendOf_6 : decode cX5_bendOf 6 = .ok (.getfield 7, 3) := by decide +kernel
theorem dX5_bendOf_9 : decode cX5_bendOf 9 = .ok (.if_icmp .ge 52, 3) := by decide +kernel
theorem dX5_bendOf_12 : decode cX5_bendOf 12 = .ok (.aload_n 0, 1) := by decide +kernel
theorem dX5_bendOf_13 : decode cX5_bendOf 13 = .ok (.iload_n 1, 1) := by decide +kernel
theorem dX5_bendOf_14 : decode cX5_bendOf 14 = .ok (.iload_n 3, 1) := by decide +kernel
theorem dX5_bendOf_15 : decode cX5_bendOf 15 = .ok (.invokevirtual 83, 3) := by decide +kernel
theorem dX5_bendOf_18 : decode cX5_bendOf 18 = .ok (.aload_n 0, 1) := by decide +kernel
theorem dX5_bendOf_19 : decode cX5_bendOf 19 = .ok (.iload_n 1, 1) := by decide +kernel
theorem dX5_bendOf_20 : decode cX5_bendOf 20 = .ok (.iload_n 3, 1) := by decide +kernel
theorem dX5_bendOf_21 : decode cX5_bendOf 21 = .ok (.invokevirtual 79, 3) := by decide +kernel
theorem dX5_bendOf_24 : decode cX5_bendOf 24 = .ok (.isub, 1) := by decide +kernel
theorem dX5_bendOf_25 : decode cX5_bendOf 25 = .ok (.istore 4, 2) := by decide +kernel
theorem dX5_bendOf_27 : decode cX5_bendOf 27 = .ok (.iload 4, 2) := by decide +kernel
theorem dX5_bendOf_29 : decode cX5_bendOf 29 = .ok (.ifCond .ge 9, 3) := by decide +kernel
theorem dX5_bendOf_32 : decode cX5_bendOf 32 = .ok (.iload 4, 2) := by decide +kernel
theorem dX5_bendOf_34 : decode cX5_bendOf 34 = .ok (.ineg, 1) := by decide +kernel
theorem dX5_bendOf_35 : decode cX5_bendOf 35 = .ok (.goto 5, 3) := by decide +kernel
theorem dX5_bendOf_38 : decode cX5_bendOf 38 = .ok (.iload 4, 2) := by decide +kernel
theorem dX5_bendOf_40 : decode cX5_bendOf 40 = .ok (.istore 4, 2) := by decide +kernel
theorem dX5_bendOf_42 : decode cX5_bendOf 42 = .ok (.iload 4, 2) := by decide +kernel
theorem dX5_bendOf_44 : decode cX5_bendOf 44 = .ok (.iload_n 2, 1) := by decide +kernel
theorem dX5_bendOf_45 : decode cX5_bendOf 45 = .ok (.if_icmp .le 8, 3) := by decide +kernel
theorem dX5_bendOf_48 : decode cX5_bendOf 48 = .ok (.iload 4, 2) := by decide +kernel
theorem dX5_bendOf_50 : decode cX5_bendOf 50 = .ok (.goto 4, 3) := by decide +kernel
theorem dX5_bendOf_53 : decode cX5_bendOf 53 = .ok (.iload_n 2, 1) := by decide +kernel
theorem dX5_bendOf_54 : decode cX5_bendOf 54 = .ok (.istore_n 2, 1) := by decide +kernel
theorem dX5_bendOf_55 : decode cX5_bendOf 55 = .ok (.iinc 3 1, 3) := by decide +kernel
theorem dX5_bendOf_58 : decode cX5_bendOf 58 = .ok (.goto (-54), 3) := by decide +kernel
theorem dX5_bendOf_61 : decode cX5_bendOf 61 = .ok (.iload_n 2, 1) := by decide +kernel
theorem dX5_bendOf_62 : decode cX5_bendOf 62 = .ok (.ireturn, 1) := by decide +kernel
theorem dX5_bend_0 : decode cX5_bend 0 = .ok (.aload_n 0, 1) := by decide +kernel
theorem dX5_bend_1 : decode cX5_bend 1 = .ok (.aload_n 0, 1) := by decide +kernel
theorem dX5_bend_2 : decode cX5_bend 2 = .ok (.iload_n 1, 1) := by decide +kernel
theorem dX5_bend_3 : decode cX5_bend 3 = .ok (.invokevirtual 86, 3) := by decide +kernel
theorem dX5_bend_6 : decode cX5_bend 6 = .ok (.ifCond .eq 7, 3) := by decide +kernel
theorem dX5_bend_9 : decode cX5_bend 9 = .ok (.iconst 0, 1) := by decide +kernel
theorem dX5_bend_10 : decode cX5_bend 10 = .ok (.goto 4, 3) := by decide +kernel
theorem dX5_bend_13 : decode cX5_bend 13 = .ok (.iconst 1, 1) := by decide +kernel
theorem dX5_bend_14 : decode cX5_bend 14 = .ok (.putfield 39, 3) := by decide +kernel
theorem dX5_bend_17 : decode cX5_bend 17 = .ok (.aload_n 0, 1) := by decide +kernel
theorem dX5_bend_18 : decode cX5_bend 18 = .ok (.getfield 39, 3) := by decide +kernel
theorem dX5_bend_21 : decode cX5_bend 21 = .ok (.ifCond .le 7, 3) := by decide +kernel
theorem dX5_bend_24 : decode cX5_bend 24 = .ok (.iconst 0, 1) := by decide +kernel
theorem dX5_bend_25 : decode cX5_bend 25 = .ok (.goto 8, 3) := by decide +kernel
theorem dX5_bend_28 : decode cX5_bend 28 = .ok (.aload_n 0, 1) := by decide +kernel
theorem dX5_bend_29 : decode cX5_bend 29 = .ok (.iload_n 1, 1) := by decide +kernel
theorem dX5_bend_30 : decode cX5_bend 30 = .ok (.invokevirtual 93, 3) := by decide +kernel
theorem dX5_bend_33 : decode cX5_bend 33 = .ok (.ireturn, 1) := by decide +kernel
theorem dX5_inject_0 : decode cX5_inject 0 = .ok (.aload_n 0, 1) := by decide +kernel
theorem dX5_inject_1 : decode cX5_inject 1 = .ok (.iload_n 1, 1) := by decide +kernel
theorem dX5_inject_2 : decode cX5_inject 2 = .ok (.invokevirtual 86, 3) := by decide +kernel
theorem dX5_inject_5 : decode cX5_inject 5 = .ok (.ifCond .eq 25, 3) := by decide +kernel
theorem dX5_inject_8 : decode cX5_inject 8 = .ok (.aload_n 0, 1) := by decide +kernel
theorem dX5_inject_9 : decode cX5_inject 9 = .ok (.iload_n 2, 1) := by decide +kernel
theorem dX5_inject_10 : decode cX5_inject 10 = .ok (.invokevirtual 96, 3) := by decide +kernel
theorem dX5_inject_13 : decode cX5_inject 13 = .ok (.ifCond .eq 17, 3) := by decide +kernel
theorem dX5_inject_16 : decode cX5_inject 16 = .ok (.iload_n 2, 1) := by decide +kernel
theorem dX5_inject_17 : decode cX5_inject 17 = .ok (.iload_n 1, 1) := by decide +kernel
theorem dX5_inject_18 : decode cX5_inject 18 = .ok (.iadd, 1) := by decide +kernel
theorem dX5_inject_19 : decode cX5_inject 19 = .ok (.aload_n 0, 1) := by decide +kernel
theorem dX5_inject_20 : decode cX5_inject 20 = .ok (.getfield 46, 3) := by decide +kernel
theorem dX5_inject_23 : decode cX5_inject 23 = .ok (.if_icmp .ge 7, 3) := by decide +kernel
theorem dX5_inject_26 : decode cX5_inject 26 = .ok (.iconst 1, 1) := by decide +kernel
theorem dX5_inject_27 : decode cX5_inject 27 = .ok (.goto 4, 3) := by decide +kernel
theorem dX5_inject_30 : decode cX5_inject 30 = .ok (.iconst 0, 1) := by decide +kernel
theorem dX5_inject_31 : decode cX5_inject 31 = .ok (.istore 4, 2) := by decide +kernel
theorem dX5_inject_33 : decode cX5_inject 33 = .ok (.aload_n 0, 1) := by decide +kernel
theorem dX5_inject_34 : decode cX5_inject 34 = .ok (.iload 4, 2) := by decide +kernel
theorem dX5_inject_36 : decode cX5_inject 36 = .ok (.ifCond .ne 7, 3) := by decide +kernel
theorem dX5_inject_39 : decode cX5_inject 39 = .ok (.iconst 1, 1) := by decide +kernel
theorem dX5_inject_40 : decode cX5_inject 40 = .ok (.goto 19, 3) := by decide +kernel
theorem dX5_inject_43 : decode cX5_inject 43 = .ok (.iload_n 3, 1) := by decide +kernel
theorem dX5_inject_44 : decode cX5_inject 44 = .ok (.iconst 1, 1) := by decide +kernel
theorem dX5_inject_45 : decode cX5_inject 45 = .ok (.sipush 9999, 3) := by decide +kernel
theorem dX5_inject_48 : decode cX5_inject 48 = .ok (.invokestatic 42, 3) := by decide +kernel
theorem dX5_inject_51 : decode cX5_inject 51 = .ok (.ifCond .eq 7, 3) := by decide +kernel
theorem dX5_inject_54 : decode cX5_inject 54 = .ok (.iconst 0, 1) := by decide +kernel
theorem dX5_inject_55 : decode cX5_inject 55 = .ok (.goto 4, 3) := by decide +kernel
theorem dX5_inject_58 : decode cX5_inject 58 = .ok (.iconst 2, 1) := by decide +kernel
theorem dX5_inject_59 : decode cX5_inject 59 = .ok (.putfield 39, 3) := by decide +kernel
theorem dX5_inject_62 : decode cX5_inject 62 = .ok (.iconst 0, 1) := by decide +kernel
theorem dX5_inject_63 : decode cX5_inject 63 = .ok (.istore 5, 2) := by decide +kernel
theorem dX5_inject_65 : decode cX5_inject 65 = .ok (.iconst 0, 1) := by decide +kernel
theorem dX5_inject_66 : decode cX5_inject 66 = .ok (.istore 6, 2) := by decide +kernel
theorem dX5_inject_68 : decode cX5_inject 68 = .ok (.iload 6, 2) := by decide +kernel
theorem dX5_inject_70 : decode cX5_inject 70 = .ok (.aload_n 0, 1) := by decide +kernel
theorem dX5_inject_71 : decode cX5_inject 71 = .ok (.getfield 7, 3) := by decide +kernel
theorem dX5_inject_74 : decode cX5_inject 74 = .ok (.if_icmp .ge 91, 3) := by decide +kernel
theorem dX5_inject_77 : decode cX5_inject 77 = .ok (.aload_n 0, 1) := by decide +kernel
theorem dX5_inject_78 : decode cX5_inject 78 = .ok (.getfield 39, 3) := by decide +kernel
theorem dX5_inject_81 : decode cX5_inject 81 = .ok (.ifCond .ne 84, 3) := by decide +kernel
theorem dX5_inject_84 : decode cX5_inject 84 = .ok (.bipush 16, 2) := by decide +kernel
theorem dX5_inject_86 : decode cX5_inject 86 = .ok (.iload_n 2, 1) := by decide +kernel
theorem dX5_inject_87 : decode cX5_inject 87 = .ok (.aload_n 0, 1) := by decide +kernel
theorem dX5_inject_88 : decode cX5_inject 88 = .ok (.iload_n 1, 1) := by decide +kernel
theorem dX5_inject_89 : decode cX5_inject 89 = .ok (.iload 6, 2) := by decide +kernel
theorem dX5_inject_91 : decode cX5_inject 91 = .ok (.invokevirtual 79, 3) := by decide +kernel
theorem dX5_inject_94 : decode cX5_inject 94 = .ok (.iadd, 1) := by decide +kernel
theorem dX5_inject_95 : decode cX5_inject 95 = .ok (.imul, 1) := by decide +kernel
theorem dX5_inject_96 : decode cX5_inject 96 = .ok (.iload 6, 2) := by decide +kernel
theorem dX5_inject_98 : decode cX5_inject 98 = .ok (.iadd, 1) := by decide +kernel
theorem dX5_inject_99 : decode cX5_inject 99 = .ok (.istore 7, 2) := by decide +kernel
theorem dX5_inject_101 : decode cX5_inject 101 = .ok (.aload_n 0, 1) := by decide +kernel
theorem dX5_inject_102 : decode cX5_inject 102 = .ok (.getfield 17, 3) := by decide +kernel
theorem dX5_inject_105 : decode cX5_inject 105 = .ok (.iload 7, 2) := by decide +kernel
theorem dX5_inject_107 : decode cX5_inject 107 = .ok (.iaload, 1) := by decide +kernel
theorem dX5_inject_108 : decode cX5_inject 108 = .ok (.iload_n 3, 1) := by decide +kernel
theorem dX5_inject_109 : decode cX5_inject 109 = .ok (.iadd, 1) := by decide +kernel
theorem dX5_inject_110 : decode cX5_inject 110 = .ok (.istore 8, 2) := by decide +kernel
theorem dX5_inject_112 : decode cX5_inject 112 = .ok (.iload 8, 2) := by decide +kernel
theorem dX5_inject_114 : decode cX5_inject 114 = .ok (.sipush 9999, 3) := by decide +kernel
theorem dX5_inject_117 : decode cX5_inject 117 = .ok (.if_icmp .le 9, 3) := by decide +kernel
theorem dX5_inject_120 : decode cX5_inject 120 = .ok (.sipush 9999, 3) := by decide +kernel
theorem dX5_inject_123 : decode cX5_inject 123 = .ok (.goto 5, 3) := by decide +kernel
theorem dX5_inject_126 : decode cX5_inject 126 = .ok (.iload 8, 2) := by decide +kernel
theorem dX5_inject_128 : decode cX5_inject 128 = .ok (.istore 8, 2) := by decide +kernel
theorem dX5_inject_130 : decode cX5_inject 130 = .ok (.iload 5, 2) := by decide +kernel
theorem dX5_inject_132 : decode cX5_inject 132 = .ok (.iload 8, 2) := by decide +kernel
theorem dX5_inject_134 : decode cX5_inject 134 = .ok (.aload_n 0, 1) := by decide +kernel
theorem dX5_inject_135 : decode cX5_inject 135 = .ok (.getfield 17, 3) := by decide +kernel
theorem dX5_inject_138 : decode cX5_inject 138 = .ok (.iload 7, 2) := by decide +kernel
theorem dX5_inject_140 : decode cX5_inject 140 = .ok (.iaload, 1) := by decide +kernel
theorem dX5_inject_141 : decode cX5_inject 141 = .ok (.isub, 1) := by decide +kernel
theorem dX5_inject_142 : decode cX5_inject 142 = .ok (.iadd, 1) := by decide +kernel
theorem dX5_inject_143 : decode cX5_inject 143 = .ok (.istore 5, 2) := by decide +kernel
theorem dX5_inject_145 : decode cX5_inject 145 = .ok (.aload_n 0, 1) := by decide +kernel
theorem dX5_inject_146 : decode cX5_inject 146 = .ok (.getfield 17, 3) := by decide +kernel
theorem dX5_inject_149 : decode cX5_inject 149 = .ok (.iload 7, 2) := by decide +kernel
theorem dX5_inject_151 : decode cX5_inject 151 = .ok (.iload 8, 2) := by decide +kernel
theorem dX5_inject_153 : decode cX5_inject 153 = .ok (.iastore, 1) := by decide +kernel
theorem dX5_inject_154 : decode cX5_inject 154 = .ok (.aload_n 0, 1) := by decide +kernel
theorem dX5_inject_155 : decode cX5_inject 155 = .ok (.iconst 0, 1) := by decide +kernel
theorem dX5_inject_156 : decode cX5_inject 156 = .ok (.putfield 55, 3) := by decide +kernel
theorem dX5_inject_159 : decode cX5_inject 159 = .ok (.iinc 6 1, 3) := by decide +kernel
theorem dX5_inject_162 : decode cX5_inject 162 = .ok (.goto (-94), 3) := by decide +kernel
theorem dX5_inject_165 : decode cX5_inject 165 = .ok (.iload 5, 2) := by decide +kernel
theorem dX5_inject_167 : decode cX5_inject 167 = .ok (.ireturn, 1) := by decide +kernel
theorem dX5_power_0 : decode cX5_power 0 = .ok (.aload_n 0, 1) := by decide +kernel
theorem dX5_power_1 : decode cX5_power 1 = .ok (.aload_n 0, 1) := by decide +kernel
theorem dX5_power_2 : decode cX5_power 2 = .ok (.iload_n 1, 1) := by decide +kernel
theorem dX5_power_3 : decode cX5_power 3 = .ok (.invokevirtual 61, 3) := by decide +kernel
theorem dX5_power_6 : decode cX5_power 6 = .ok (.ifCond .eq 15, 3) := by decide +kernel
theorem dX5_power_9 : decode cX5_power 9 = .ok (.aload_n 0, 1) := by decide +kernel
theorem dX5_power_10 : decode cX5_power 10 = .ok (.iload_n 2, 1) := by decide +kernel
theorem dX5_power_11 : decode cX5_power 11 = .ok (.invokevirtual 96, 3) := by decide +kernel
theorem dX5_power_14 : decode cX5_power 14 = .ok (.ifCond .eq 7, 3) := by decide +kernel
theorem dX5_power_17 : decode cX5_power 17 = .ok (.iconst 0, 1) := by decide +kernel
theorem dX5_power_18 : decode cX5_power 18 = .ok (.goto 4, 3) := by decide +kernel
theorem dX5_power_21 : decode cX5_power 21 = .ok (.iconst 1, 1) := by decide +kernel
theorem dX5_power_22 : decode cX5_power 22 = .ok (.putfield 39, 3) := by decide +kernel
theorem dX5_power_25 : decode cX5_power 25 = .ok (.aload_n 0, 1) := by decide +kernel
theorem dX5_power_26 : decode cX5_power 26 = .ok (.getfield 39, 3) := by decide +kernel
theorem dX5_power_29 : decode cX5_power 29 = .ok (.ifCond .le 7, 3) := by decide +kernel
theorem dX5_power_32 : decode cX5_power 32 = .ok (.iconst 0, 1) := by decide +kernel
theorem dX5_power_33 : decode cX5_power 33 = .ok (.goto 14, 3) := by decide +kernel
theorem dX5_power_36 : decode cX5_power 36 = .ok (.aload_n 0, 1) := by decide +kernel
theorem dX5_power_37 : decode cX5_power 37 = .ok (.getfield 17, 3) := by decide +kernel
theorem dX5_power_40 : decode cX5_power 40 = .ok (.bipush 16, 2) := by decide +kernel
theorem dX5_power_42 : decode cX5_power 42 = .ok (.iload_n 2, 1) := by decide +kernel
theorem dX5_power_43 : decode cX5_power 43 = .ok (.imul, 1) := by decide +kernel
theorem dX5_power_44 : decode cX5_power 44 = .ok (.iload_n 1, 1) := by decide +kernel
theorem dX5_power_45 : decode cX5_power 45 = .ok (.iadd, 1) := by decide +kernel
theorem dX5_power_46 : decode cX5_power 46 = .ok (.iaload, 1) := by decide +kernel
theorem dX5_power_47 : decode cX5_power 47 = .ok (.ireturn, 1) := by decide +kernel
theorem dX5_ones_0 : decode cX5_ones 0 = .ok (.iconst 0, 1) := by decide +kernel
theorem dX5_ones_1 : decode cX5_ones 1 = .ok (.istore_n 1, 1) := by decide +kernel
theorem dX5_ones_2 : decode cX5_ones 2 = .ok (.iconst 0, 1) := by decide +kernel
theorem dX5_ones_3 : decode cX5_ones 3 = .ok (.istore_n 2, 1) := by decide +kernel
theorem dX5_ones_4 : decode cX5_ones 4 = .ok (.iload_n 2, 1) := by decide +kernel
theorem dX5_ones_5 : decode cX5_ones 5 = .ok (.bipush 16, 2) := by decide +kernel
theorem dX5_ones_7 : decode cX5_ones 7 = .ok (.if_icmp .ge 17, 3) := by decide +kernel
theorem dX5_ones_10 : decode cX5_ones 10 = .ok (.iload_n 1, 1) := by decide +kernel
theorem dX5_ones_11 : decode cX5_ones 11 = .ok (.iload_n 0, 1) := by decide +kernel
theorem dX5_ones_12 : decode cX5_ones 12 = .ok (.iload_n 2, 1) := by decide +kernel
theorem dX5_ones_13 : decode cX5_ones 13 = .ok (.ishr, 1) := by decide +kernel
theorem dX5_ones_14 : decode cX5_ones 14 = .ok (.iconst 1, 1) := by decide +kernel
theorem dX5_ones_15 : decode cX5_ones 15 = .ok (.iand, 1) := by decide +kernel
theorem dX5_ones_16 : decode cX5_ones 16 = .ok (.iadd, 1) := by decide +kernel
theorem dX5_ones_17 : decode cX5_ones 17 = .ok (.istore_n 1, 1) := by decide +kernel
theorem dX5_ones_18 : decode cX5_ones 18 = .ok (.iinc 2 1, 3) := by decide +kernel
theorem dX5_ones_21 : decode cX5_ones 21 = .ok (.goto (-17), 3) := by decide +kernel
theorem dX5_ones_24 : decode cX5_ones 24 = .ok (.iload_n 1, 1) := by decide +kernel
theorem dX5_ones_25 : decode cX5_ones 25 = .ok (.ireturn, 1) := by decide +kernel
theorem dX5_countOf_0 : decode cX5_countOf 0 = .ok (.iload_n 1, 1) := by decide +kernel
theorem dX5_countOf_1 : decode cX5_countOf 1 = .ok (.ifCond .ne 10, 3) := by decide +kernel
theorem dX5_countOf_4 : decode cX5_countOf 4 = .ok (.aload_n 0, 1) := by decide +kernel
theorem dX5_countOf_5 : decode cX5_countOf 5 = .ok (.getfield 7, 3) := by decide +kernel
theorem dX5_countOf_8 : decode cX5_countOf 8 = .ok (.goto 46, 3) := by decide +kernel
theorem dX5_countOf_11 : decode cX5_countOf 11 = .ok (.iload_n 1, 1) := by decide +kernel
theorem dX5_countOf_12 : decode cX5_countOf 12 = .ok (.iconst 1, 1) := by decide +kernel
theorem dX5_countOf_13 : decode cX5_countOf 13 = .ok (.if_icmp .ne 10, 3) := by decide +kernel
theorem dX5_countOf_16 : decode cX5_countOf 16 = .ok (.aload_n 0, 1) := by decide +kernel
theorem dX5_countOf_17 : decode cX5_countOf 17 = .ok (.getfield 46, 3) := by decide +kernel
theorem dX5_countOf_20 : decode cX5_countOf 20 = .ok (.goto 34, 3) := by decide +kernel
theorem dX5_countOf_23 : decode cX5_countOf 23 = .ok (.iload_n 1, 1) := by decide +kernel
theorem dX5_countOf_24 : decode cX5_countOf 24 = .ok (.iconst 2, 1) := by decide +kernel
theorem dX5_countOf_25 : decode cX5_countOf 25 = .ok (.if_icmp .ne 10, 3) := by decide +kernel
theorem dX5_countOf_28 : decode cX5_countOf 28 = .ok (.aload_n 0, 1) := by decide +kernel
theorem dX5_countOf_29 : decode cX5_countOf 29 = .ok (.getfield 49, 3) := by decide +kernel
theorem dX5_countOf_32 : decode cX5_countOf 32 = .ok (.goto 22, 3) := by decide +kernel
theorem dX5_countOf_35 : decode cX5_countOf 35 = .ok (.iload_n 1, 1) := by decide +kernel
theorem dX5_countOf_36 : decode cX5_countOf 36 = .ok (.iconst 3, 1) := by decide +kernel
theorem dX5_countOf_37 : decode cX5_countOf 37 = .ok (.if_icmp .ne 13, 3) := by decide +kernel
theorem dX5_countOf_40 : decode cX5_countOf 40 = .ok (.aload_n 0, 1) := by decide +kernel
theorem dX5_countOf_41 : decode cX5_countOf 41 = .ok (.getfield 52, 3) := by decide +kernel
theorem dX5_countOf_44 : decode cX5_countOf 44 = .ok (.invokestatic 99, 3) := by decide +kernel
theorem dX5_countOf_47 : decode cX5_countOf 47 = .ok (.goto 7, 3) := by decide +kernel
theorem dX5_countOf_50 : decode cX5_countOf 50 = .ok (.aload_n 0, 1) := by decide +kernel
theorem dX5_countOf_51 : decode cX5_countOf 51 = .ok (.getfield 55, 3) := by decide +kernel
theorem dX5_countOf_54 : decode cX5_countOf 54 = .ok (.ireturn, 1) := by decide +kernel
theorem dX5_count_0 : decode cX5_count 0 = .ok (.aload_n 0, 1) := by decide +kernel
theorem dX5_count_1 : decode cX5_count 1 = .ok (.iload_n 1, 1) := by decide +kernel
theorem dX5_count_2 : decode cX5_count 2 = .ok (.iconst 0, 1) := by decide +kernel
theorem dX5_count_3 : decode cX5_count 3 = .ok (.iconst 4, 1) := by decide +kernel
theorem dX5_count_4 : decode cX5_count 4 = .ok (.invokestatic 42, 3) := by decide +kernel
theorem dX5_count_7 : decode cX5_count 7 = .ok (.ifCond .eq 7, 3) := by decide +kernel
theorem dX5_count_10 : decode cX5_count 10 = .ok (.iconst 0, 1) := by decide +kernel
theorem dX5_count_11 : decode cX5_count 11 = .ok (.goto 4, 3) := by decide +kernel
theorem dX5_count_14 : decode cX5_count 14 = .ok (.iconst 1, 1) := by decide +kernel
theorem dX5_count_15 : decode cX5_count 15 = .ok (.putfield 39, 3) := by decide +kernel
theorem dX5_count_18 : decode cX5_count 18 = .ok (.aload_n 0, 1) := by decide +kernel
theorem dX5_count_19 : decode cX5_count 19 = .ok (.getfield 39, 3) := by decide +kernel
theorem dX5_count_22 : decode cX5_count 22 = .ok (.ifCond .le 7, 3) := by decide +kernel
theorem dX5_count_25 : decode cX5_count 25 = .ok (.iconst 0, 1) := by decide +kernel
theorem dX5_count_26 : decode cX5_count 26 = .ok (.goto 8, 3) := by decide +kernel
theorem dX5_count_29 : decode cX5_count 29 = .ok (.aload_n 0, 1) := by decide +kernel
theorem dX5_count_30 : decode cX5_count 30 = .ok (.iload_n 1, 1) := by decide +kernel
theorem dX5_count_31 : decode cX5_count 31 = .ok (.invokevirtual 102, 3) := by decide +kernel
theorem dX5_count_34 : decode cX5_count 34 = .ok (.ireturn, 1) := by decide +kernel
theorem dX5_isMasked_0 : decode cX5_isMasked 0 = .ok (.aload_n 0, 1) := by decide +kernel
theorem dX5_isMasked_1 : decode cX5_isMasked 1 = .ok (.getfield 52, 3) := by decide +kernel
theorem dX5_isMasked_4 : decode cX5_isMasked 4 = .ok (.iload_n 1, 1) := by decide +kernel
theorem dX5_isMasked_5 : decode cX5_isMasked 5 = .ok (.ishr, 1) := by decide +kernel
theorem dX5_isMasked_6 : decode cX5_isMasked 6 = .ok (.iconst 1, 1) := by decide +kernel
theorem dX5_isMasked_7 : decode cX5_isMasked 7 = .ok (.iand, 1) := by decide +kernel
theorem dX5_isMasked_8 : decode cX5_isMasked 8 = .ok (.iconst 1, 1) := by decide +kernel
theorem dX5_isMasked_9 : decode cX5_isMasked 9 = .ok (.if_icmp .ne 7, 3) := by decide +kernel
theorem dX5_isMasked_12 : decode cX5_isMasked 12 = .ok (.iconst 1, 1) := by decide +kernel
theorem dX5_isMasked_13 : decode cX5_isMasked 13 = .ok (.goto 4, 3) := by decide +kernel
theorem dX5_isMasked_16 : decode cX5_isMasked 16 = .ok (.iconst 0, 1) := by decide +kernel
theorem dX5_isMasked_17 : decode cX5_isMasked 17 = .ok (.ireturn, 1) := by decide +kernel
theorem dX5_setMasked_0 : decode cX5_setMasked 0 = .ok (.aload_n 0, 1) := by decide +kernel
theorem dX5_setMasked_1 : decode cX5_setMasked 1 = .ok (.aload_n 0, 1) := by decide +kernel
theorem dX5_setMasked_2 : decode cX5_setMasked 2 = .ok (.iload_n 1, 1) := by decide +kernel
theorem dX5_setMasked_3 : decode cX5_setMasked 3 = .ok (.invokevirtual 61, 3) := by decide +kernel
theorem dX5_setMasked_6 : decode cX5_setMasked 6 = .ok (.ifCond .eq 7, 3) := by decide +kernel
theorem dX5_setMasked_9 : decode cX5_setMasked 9 = .ok (.iconst 0, 1) := by decide +kernel
theorem dX5_setMasked_10 : decode cX5_setMasked 10 = .ok (.goto 4, 3) := by decide +kernel
theorem dX5_setMasked_13 : decode cX5_setMasked 13 = .ok (.iconst 1, 1) := by decide +kernel
theorem dX5_setMasked_14 : decode cX5_setMasked 14 = .ok (.putfield 39, 3) := by decide +kernel
theorem dX5_setMasked_17 : decode cX5_setMasked 17 = .ok (.aload_n 0, 1) := by decide +kernel
theorem dX5_setMasked_18 : decode cX5_setMasked 18 = .ok (.getfield 39, 3) := by decide +kernel
theorem dX5_setMasked_21 : decode cX5_setMasked 21 = .ok (.ifCond .le 5, 3) := by decide +kernel
theorem dX5_setMasked_24 : decode cX5_setMasked 24 = .ok (.iconst 0, 1) := by decide +kernel
theorem dX5_setMasked_25 : decode cX5_setMasked 25 = .ok (.ireturn, 1) := by decide +kernel
theorem dX5_setMasked_26 : decode cX5_setMasked 26 = .ok (.aload_n 0, 1) := by decide +kernel
theorem dX5_setMasked_27 : decode cX5_setMasked 27 = .ok (.iload_n 1, 1) := by decide +kernel
theorem dX5_setMasked_28 : decode cX5_setMasked 28 = .ok (.invokevirtual 105, 3) := by decide +kernel
theorem dX5_setMasked_31 : decode cX5_setMasked 31 = .ok (.istore_n 3, 1) := by decide +kernel
theorem dX5_setMasked_32 : decode cX5_setMasked 32 = .ok (.aload_n 0, 1) := by decide +kernel
theorem dX5_setMasked_33 : decode cX5_setMasked 33 = .ok (.iload_n 2, 1) := by decide +kernel
theorem dX5_setMasked_34 : decode cX5_setMasked 34 = .ok (.ifCond .eq 14, 3) := by decide +kernel
theorem dX5_setMasked_37 : decode cX5_setMasked 37 = .ok (.aload_n 0, 1) := by decide +kernel
theorem dX5_setMasked_38 : decode cX5_setMasked 38 = .ok (.getfield 52, 3) := by decide +kernel
theorem dX5_setMasked_41 : decode cX5_setMasked 41 = .ok (.iconst 1, 1) := by decide +kernel
theorem dX5_setMasked_42 : decode cX5_setMasked 42 = .ok (.iload_n 1, 1) := by decide +kernel
theorem dX5_setMasked_43 : decode cX5_setMasked 43 = .ok (.ishl, 1) := by decide +kernel
theorem dX5_setMasked_44 : decode cX5_setMasked 44 = .ok (.ior, 1) := by decide +kernel
theorem dX5_setMasked_45 : decode cX5_setMasked 45 = .ok (.goto 13, 3) := by decide +kernel
theorem dX5_setMasked_48 : decode cX5_setMasked 48 = .ok (.aload_n 0, 1) := by decide +kernel
theorem dX5_setMasked_49 : decode cX5_setMasked 49 = .ok (.getfield 52, 3) := by decide +kernel
theorem dX5_setMasked_52 : decode cX5_setMasked 52 = .ok (.iconst 1, 1) := by decide +kernel
theorem dX5_setMasked_53 : decode cX5_setMasked 53 = .ok (.iload_n 1, 1) := by decide +kernel
theorem dX5_setMasked_54 : decode cX5_setMasked 54 = .ok (.ishl, 1) := by decide +kernel
theorem dX5_setMasked_55 : decode cX5_setMasked 55 = .ok (.iconst (-1), 1) := by decide +kernel
theorem dX5_setMasked_56 : decode cX5_setMasked 56 = .ok (.ixor, 1) := by decide +kernel
theorem dX5_setMasked_57 : decode cX5_setMasked 57 = .ok (.iand, 1) := by decide +kernel
theorem dX5_setMasked_58 : decode cX5_setMasked 58 = .ok (.putfield 52, 3) := by decide +kernel
theorem dX5_setMasked_61 : decode cX5_setMasked 61 = .ok (.aload_n 0, 1) := by decide +kernel
theorem dX5_setMasked_62 : decode cX5_setMasked 62 = .ok (.iconst 0, 1) := by decide +kernel
theorem dX5_setMasked_63 : decode cX5_setMasked 63 = .ok (.putfield 55, 3) := by decide +kernel
theorem dX5_setMasked_66 : decode cX5_setMasked 66 = .ok (.iload_n 3, 1) := by decide +kernel
theorem dX5_setMasked_67 : decode cX5_setMasked 67 = .ok (.ireturn, 1) := by decide +kernel
theorem dX5_sumOf_0 : decode cX5_sumOf 0 = .ok (.iconst 0, 1) := by decide +kernel
theorem dX5_sumOf_1 : decode cX5_sumOf 1 = .ok (.istore_n 2, 1) := by decide +kernel
theorem dX5_sumOf_2 : decode cX5_sumOf 2 = .ok (.iconst 0, 1) := by decide +kernel
theorem dX5_sumOf_3 : decode cX5_sumOf 3 = .ok (.istore_n 3, 1) := by decide +kernel
theorem dX5_sumOf_4 : decode cX5_sumOf 4 = .ok (.iload_n 3, 1) := by decide +kernel
theorem dX5_sumOf_5 : decode cX5_sumOf 5 = .ok (.aload_n 0, 1) := by decide +kernel
theorem dX5_sumOf_6 : decode cX5_sumOf 6 = .ok (.getfield 46, 3) := by decide +kernel
theorem dX5_sumOf_9 : decode cX5_sumOf 9 = .ok (.if_icmp .ge 23, 3) := by decide +kernel
theorem dX5_sumOf_12 : decode cX5_sumOf 12 = .ok (.iload_n 2, 1) := by decide +kernel
theorem dX5_sumOf_13 : decode cX5_sumOf 13 = .ok (.aload_n 0, 1) := by decide +kernel
theorem dX5_sumOf_14 : decode cX5_sumOf 14 = .ok (.getfield 17, 3) := by decide +kernel
theorem dX5_sumOf_17 : decode cX5_sumOf 17 = .ok (.bipush 16, 2) := by decide +kernel
theorem dX5_sumOf_19 : decode cX5_sumOf 19 = .ok (.iload_n 3, 1) := by decide +kernel
theorem dX5_sumOf_20 : decode cX5_sumOf 20 = .ok (.imul, 1) := by decide +kernel
theorem dX5_sumOf_21 : decode cX5_sumOf 21 = .ok (.iload_n 1, 1) := by decide +kernel
theorem dX5_sumOf_22 : decode cX5_sumOf 22 = .ok (.iadd, 1) := by decide +kernel
theorem dX5_sumOf_23 : decode cX5_sumOf 23 = .ok (.iaload, 1) := by decide +kernel
theorem dX5_sumOf_24 : decode cX5_sumOf 24 = .ok (.iadd, 1) := by decide +kernel
theorem dX5_sumOf_25 : decode cX5_sumOf 25 = .ok (.istore_n 2, 1) := by decide +kernel
theorem dX5_sumOf_26 : decode cX5_sumOf 26 = .ok (.iinc 3 1, 3) := by decide +kernel
theorem dX5_sumOf_29 : decode cX5_sumOf 29 = .ok (.goto (-25), 3) := by decide +kernel
theorem dX5_sumOf_32 : decode cX5_sumOf 32 = .ok (.iload_n 2, 1) := by decide +kernel
theorem dX5_sumOf_33 : decode cX5_sumOf 33 = .ok (.ireturn, 1) := by decide +kernel
theorem dX5_channelSum_0 : decode cX5_channelSum 0 = .ok (.aload_n 0, 1) := by decide +kernel
theorem dX5_channelSum_1 : decode cX5_channelSum 1 = .ok (.aload_n 0, 1) := by decide +kernel
theorem dX5_channelSum_2 : decode cX5_channelSum 2 = .ok (.iload_n 1, 1) := by decide +kernel
theorem dX5_channelSum_3 : decode cX5_channelSum 3 = .ok (.invokevirtual 61, 3) := by decide +kernel
theorem dX5_channelSum_6 : decode cX5_channelSum 6 = .ok (.ifCond .eq 7, 3) := by decide +kernel
theorem dX5_channelSum_9 : decode cX5_channelSum 9 = .ok (.iconst 0, 1) := by decide +kernel
theorem dX5_channelSum_10 : decode cX5_channelSum 10 = .ok (.goto 4, 3) := by decide +kernel
theorem dX5_channelSum_13 : decode cX5_channelSum 13 = .ok (.iconst 1, 1) := by decide +kernel
theorem dX5_channelSum_14 : decode cX5_channelSum 14 = .ok (.putfield 39, 3) := by decide +kernel
theorem dX5_channelSum_17 : decode cX5_channelSum 17 = .ok (.aload_n 0, 1) := by decide +kernel
theorem dX5_channelSum_18 : decode cX5_channelSum 18 = .ok (.getfield 39, 3) := by decide +kernel
theorem dX5_channelSum_21 : decode cX5_channelSum 21 = .ok (.ifCond .le 7, 3) := by decide +kernel
theorem dX5_channelSum_24 : decode cX5_channelSum 24 = .ok (.iconst 0, 1) := by decide +kernel
theorem dX5_channelSum_25 : decode cX5_channelSum 25 = .ok (.goto 8, 3) := by decide +kernel
theorem dX5_channelSum_28 : decode cX5_channelSum 28 = .ok (.aload_n 0, 1) := by decide +kernel
theorem dX5_channelSum_29 : decode cX5_channelSum 29 = .ok (.iload_n 1, 1) := by decide +kernel
theorem dX5_channelSum_30 : decode cX5_channelSum 30 = .ok (.invokevirtual 108, 3) := by decide +kernel
theorem dX5_channelSum_33 : decode cX5_channelSum 33 = .ok (.ireturn, 1) := by decide +kernel
theorem dX5_strike_0 : decode cX5_strike 0 = .ok (.aload_n 0, 1) := by decide +kernel
theorem dX5_strike_1 : decode cX5_strike 1 = .ok (.iload_n 1, 1) := by decide +kernel
theorem dX5_strike_2 : decode cX5_strike 2 = .ok (.iconst 0, 1) := by decide +kernel
theorem dX5_strike_3 : decode cX5_strike 3 = .ok (.aload_n 0, 1) := by decide +kernel
theorem dX5_strike_4 : decode cX5_strike 4 = .ok (.getfield 7, 3) := by decide +kernel
theorem dX5_strike_7 : decode cX5_strike 7 = .ok (.invokestatic 42, 3) := by decide +kernel
theorem dX5_strike_10 : decode cX5_strike 10 = .ok (.ifCond .eq 7, 3) := by decide +kernel
theorem dX5_strike_13 : decode cX5_strike 13 = .ok (.iconst 0, 1) := by decide +kernel
theorem dX5_strike_14 : decode cX5_strike 14 = .ok (.goto 4, 3) := by decide +kernel
theorem dX5_strike_17 : decode cX5_strike 17 = .ok (.iconst 1, 1) := by decide +kernel
theorem dX5_strike_18 : decode cX5_strike 18 = .ok (.putfield 39, 3) := by decide +kernel
theorem dX5_strike_21 : decode cX5_strike 21 = .ok (.aload_n 0, 1) := by decide +kernel
theorem dX5_strike_22 : decode cX5_strike 22 = .ok (.getfield 39, 3) := by decide +kernel
theorem dX5_strike_25 : decode cX5_strike 25 = .ok (.ifCond .le 5, 3) := by decide +kernel
theorem dX5_strike_28 : decode cX5_strike 28 = .ok (.iconst 0, 1) := by decide +kernel
theorem dX5_strike_29 : decode cX5_strike 29 = .ok (.ireturn, 1) := by decide +kernel
theorem dX5_strike_30 : decode cX5_strike 30 = .ok (.iconst 0, 1) := by decide +kernel
theorem dX5_strike_31 : decode cX5_strike 31 = .ok (.istore_n 2, 1) := by decide +kernel
theorem dX5_strike_32 : decode cX5_strike 32 = .ok (.iconst 0, 1) := by decide +kernel
theorem dX5_strike_33 : decode cX5_strike 33 = .ok (.istore_n 3, 1) := by decide +kernel
theorem dX5_strike_34 : decode cX5_strike 34 = .ok (.iload_n 3, 1) := by decide +kernel
theorem dX5_strike_35 : decode cX5_strike 35 = .ok (.iload_n 1, 1) := by decide +kernel
theorem dX5_strike_36 : decode cX5_strike 36 = .ok (.if_icmp .ge 108, 3) := by decide +kernel
theorem dX5_strike_39 : decode cX5_strike 39 = .ok (.iconst (-1), 1) := by decide +kernel
theorem dX5_strike_40 : decode cX5_strike 40 = .ok (.istore 4, 2) := by decide +kernel
theorem dX5_strike_42 : decode cX5_strike 42 = .ok (.iconst 0, 1) := by decide +kernel
theorem dX5_strike_43 : decode cX5_strike 43 = .ok (.istore 5, 2) := by decide +kernel
theorem dX5_strike_45 : decode cX5_strike 45 = .ok (.iload 5, 2) := by decide +kernel
theorem dX5_strike_47 : decode cX5_strike 47 = .ok (.aload_n 0, 1) := by decide +kernel
theorem dX5_strike_48 : decode cX5_strike 48 = .ok (.getfield 7, 3) := by decide +kernel
theorem dX5_strike_51 : decode cX5_strike 51 = .ok (.if_icmp .ge 60, 3) := by decide +kernel
theorem dX5_strike_54 : decode cX5_strike 54 = .ok (.aload_n 0, 1) := by decide +kernel
theorem dX5_strike_55 : decode cX5_strike 55 = .ok (.iload 5, 2) := by decide +kernel
theorem dX5_strike_57 : decode cX5_strike 57 = .ok (.invokevirtual 105, 3) := by decide +kernel
theorem dX5_strike_60 : decode cX5_strike 60 = .ok (.ifCond .ne 28, 3) := by decide +kernel
theorem dX5_strike_63 : decode cX5_strike 63 = .ok (.iload 4, 2) := by decide +kernel
theorem dX5_strike_65 : decode cX5_strike 65 = .ok (.iconst (-1), 1) := by decide +kernel
theorem dX5_strike_66 : decode cX5_strike 66 = .ok (.if_icmp .eq 18, 3) := by decide +kernel
theorem dX5_strike_69 : decode cX5_strike 69 = .ok (.aload_n 0, 1) := by decide +kernel
theorem dX5_strike_70 : decode cX5_strike 70 = .ok (.iload 5, 2) := by decide +kernel
theorem dX5_strike_72 : decode cX5_strike 72 = .ok (.invokevirtual 108, 3) := by decide +kernel
theorem dX5_strike_75 : decode cX5_strike 75 = .ok (.aload_n 0, 1) := by decide +kernel
theorem dX5_strike_76 : decode cX5_strike 76 = .ok (.iload 4, 2) := by decide +kernel
theorem dX5_strike_78 : decode cX5_strike 78 = .ok (.invokevirtual 108, 3) := by decide +kernel
theorem dX5_strike_81 : decode cX5_strike 81 = .ok (.if_icmp .le 7, 3) := by decide +kernel
theorem dX5_strike_84 : decode cX5_strike 84 = .ok (.iconst 1, 1) := by decide +kernel
theorem dX5_strike_85 : decode cX5_strike 85 = .ok (.goto 4, 3) := by decide +kernel
theorem dX5_strike_88 : decode cX5_strike 88 = .ok (.iconst 0, 1) := by decide +kernel
theorem dX5_strike_89 : decode cX5_strike 89 = .ok (.istore 6, 2) := by decide +kernel
theorem dX5_strike_91 : decode cX5_strike 91 = .ok (.iload 6, 2) := by decide +kernel
theorem dX5_strike_93 : decode cX5_strike 93 = .ok (.ifCond .eq 8, 3) := by decide +kernel
theorem dX5_strike_96 : decode cX5_strike 96 = .ok (.iload 5, 2) := by decide +kernel
theorem dX5_strike_98 : decode cX5_strike 98 = .ok (.goto 5, 3) := by decide +kernel
theorem dX5_strike_101 : decode cX5_strike 101 = .ok (.iload 4, 2) := by decide +kernel
theorem dX5_strike_103 : decode cX5_strike 103 = .ok (.istore 4, 2) := by decide +kernel
theorem dX5_strike_105 : decode cX5_strike 105 = .ok (.iinc 5 1, 3) := by decide +kernel
theorem dX5_strike_108 : decode cX5_strike 108 = .ok (.goto (-63), 3) := by decide +kernel
theorem dX5_strike_111 : decode cX5_strike 111 = .ok (.iload_n 2, 1) := by decide +kernel
theorem dX5_strike_112 : decode cX5_strike 112 = .ok (.iload 4, 2) := by decide +kernel
theorem dX5_strike_114 : decode cX5_strike 114 = .ok (.iconst (-1), 1) := by decide +kernel
theorem dX5_strike_115 : decode cX5_strike 115 = .ok (.if_icmp .ne 7, 3) := by decide +kernel
theorem dX5_strike_118 : decode cX5_strike 118 = .ok (.iconst 0, 1) := by decide +kernel
theorem dX5_strike_119 : decode cX5_strike 119 = .ok (.goto 7, 3) := by decide +kernel
theorem dX5_strike_122 : decode cX5_strike 122 = .ok (.iconst 1, 1) := by decide +kernel
theorem dX5_strike_123 : decode cX5_strike 123 = .ok (.iload 4, 2) := by decide +kernel
theorem dX5_strike_125 : decode cX5_strike 125 = .ok (.ishl, 1) := by decide +kernel
theorem dX5_strike_126 : decode cX5_strike 126 = .ok (.ior, 1) := by decide +kernel
theorem dX5_strike_127 : decode cX5_strike 127 = .ok (.istore_n 2, 1) := by decide +kernel
theorem dX5_strike_128 : decode cX5_strike 128 = .ok (.aload_n 0, 1) := by decide +kernel
theorem dX5_strike_129 : decode cX5_strike 129 = .ok (.dup, 1) := by decide +kernel
theorem dX5_strike_130 : decode cX5_strike 130 = .ok (.getfield 52, 3) := by decide +kernel
theorem dX5_strike_133 : decode cX5_strike 133 = .ok (.iload_n 2, 1) := by decide +kernel
theorem dX5_strike_134 : decode cX5_strike 134 = .ok (.ior, 1) := by decide +kernel
theorem dX5_strike_135 : decode cX5_strike 135 = .ok (.putfield 52, 3) := by decide +kernel
theorem dX5_strike_138 : decode cX5_strike 138 = .ok (.iinc 3 1, 3) := by decide +kernel
theorem dX5_strike_141 : decode cX5_strike 141 = .ok (.goto (-107), 3) := by decide +kernel
theorem dX5_strike_144 : decode cX5_strike 144 = .ok (.aload_n 0, 1) := by decide +kernel
theorem dX5_strike_145 : decode cX5_strike 145 = .ok (.iconst 0, 1) := by decide +kernel
theorem dX5_strike_146 : decode cX5_strike 146 = .ok (.putfield 55, 3) := by decide +kernel
theorem dX5_strike_149 : decode cX5_strike 149 = .ok (.iload_n 2, 1) := by decide +kernel
theorem dX5_strike_150 : decode cX5_strike 150 = .ok (.ireturn, 1) := by decide +kernel
theorem dX5_lineBy_0 : decode cX5_lineBy 0 = .ok (.iconst 0, 1) := by decide +kernel
theorem dX5_lineBy_1 : decode cX5_lineBy 1 = .ok (.istore 4, 2) := by decide +kernel
theorem dX5_lineBy_3 : decode cX5_lineBy 3 = .ok (.iconst 0, 1) := by decide +kernel
theorem dX5_lineBy_4 : decode cX5_lineBy 4 = .ok (.istore 5, 2) := by decide +kernel
theorem dX5_lineBy_6 : decode cX5_lineBy 6 = .ok (.iload 5, 2) := by decide +kernel
theorem dX5_lineBy_8 : decode cX5_lineBy 8 = .ok (.aload_n 0, 1) := by decide +kernel
theorem dX5_lineBy_9 : decode cX5_lineBy 9 = .ok (.getfield 7, 3) := by decide +kernel
theorem dX5_lineBy_12 : decode cX5_lineBy 12 = .ok (.if_icmp .ge 48, 3) := by decide +kernel
theorem dX5_lineBy_15 : decode cX5_lineBy 15 = .ok (.iload 4, 2) := by decide +kernel
theorem dX5_lineBy_17 : decode cX5_lineBy 17 = .ok (.aload_n 0, 1) := by decide +kernel
theorem dX5_lineBy_18 : decode cX5_lineBy 18 = .ok (.iload 5, 2) := by decide +kernel
theorem dX5_lineBy_20 : decode cX5_lineBy 20 = .ok (.invokevirtual 105, 3) := by decide +kernel
theorem dX5_lineBy_23 : decode cX5_lineBy 23 = .ok (.ifCond .eq 7, 3) := by decide +kernel
theorem dX5_lineBy_26 : decode cX5_lineBy 26 = .ok (.iconst 0, 1) := by decide +kernel
theorem dX5_lineBy_27 : decode cX5_lineBy 27 = .ok (.goto 24, 3) := by decide +kernel
theorem dX5_lineBy_30 : decode cX5_lineBy 30 = .ok (.aload_n 0, 1) := by decide +kernel
theorem dX5_lineBy_31 : decode cX5_lineBy 31 = .ok (.getfield 17, 3) := by decide +kernel
theorem dX5_lineBy_34 : decode cX5_lineBy 34 = .ok (.bipush 16, 2) := by decide +kernel
theorem dX5_lineBy_36 : decode cX5_lineBy 36 = .ok (.iload_n 2, 1) := by decide +kernel
theorem dX5_lineBy_37 : decode cX5_lineBy 37 = .ok (.aload_n 0, 1) := by decide +kernel
theorem dX5_lineBy_38 : decode cX5_lineBy 38 = .ok (.iload_n 1, 1) := by decide +kernel
theorem dX5_lineBy_39 : decode cX5_lineBy 39 = .ok (.iload 5, 2) := by decide +kernel
theorem dX5_lineBy_41 : decode cX5_lineBy 41 = .ok (.iload_n 3, 1) := by decide +kernel
theorem dX5_lineBy_42 : decode cX5_lineBy 42 = .ok (.invokevirtual 89, 3) := by decide +kernel
theorem dX5_lineBy_45 : decode cX5_lineBy 45 = .ok (.iadd, 1) := by decide +kernel
theorem dX5_lineBy_46 : decode cX5_lineBy 46 = .ok (.imul, 1) := by decide +kernel
theorem dX5_lineBy_47 : decode cX5_lineBy 47 = .ok (.iload 5, 2) := by decide +kernel
theorem dX5_lineBy_49 : decode cX5_lineBy 49 = .ok (.iadd, 1) := by decide +kernel
theorem dX5_lineBy_50 : decode cX5_lineBy 50 = .ok (.iaload, 1) := by decide +kernel
theorem dX5_lineBy_51 : decode cX5_lineBy 51 = .ok (.iadd, 1) := by decide +kernel
theorem dX5_lineBy_52 : decode cX5_lineBy 52 = .ok (.istore 4, 2) := by decide +kernel
theorem dX5_lineBy_54 : decode cX5_lineBy 54 = .ok (.iinc 5 1, 3) := by decide +kernel
theorem dX5_lineBy_57 : decode cX5_lineBy 57 = .ok (.goto (-51), 3) := by decide +kernel
theorem dX5_lineBy_60 : decode cX5_lineBy 60 = .ok (.iload 4, 2) := by decide +kernel
theorem dX5_lineBy_62 : decode cX5_lineBy 62 = .ok (.ireturn, 1) := by decide +kernel
theorem dX5_linesOf_0 : decode cX5_linesOf 0 = .ok (.aload_n 0, 1) := by decide +kernel
theorem dX5_linesOf_1 : decode cX5_linesOf 1 = .ok (.getfield 46, 3) := by decide +kernel
theorem dX5_linesOf_4 : decode cX5_linesOf 4 = .ok (.iload_n 1, 1) := by decide +kernel
theorem dX5_linesOf_5 : decode cX5_linesOf 5 = .ok (.if_icmp .le 12, 3) := by decide +kernel
theorem dX5_linesOf_8 : decode cX5_linesOf 8 = .ok (.aload_n 0, 1) := by decide +kernel
theorem dX5_linesOf_9 : decode cX5_linesOf 9 = .ok (.getfield 46, 3) := by decide +kernel
theorem dX5_linesOf_12 : decode cX5_linesOf 12 = .ok (.iload_n 1, 1) := by decide +kernel
theorem dX5_linesOf_13 : decode cX5_linesOf 13 = .ok (.isub, 1) := by decide +kernel
theorem dX5_linesOf_14 : decode cX5_linesOf 14 = .ok (.goto 4, 3) := by decide +kernel
theorem dX5_linesOf_17 : decode cX5_linesOf 17 = .ok (.iconst 0, 1) := by decide +kernel
theorem dX5_linesOf_18 : decode cX5_linesOf 18 = .ok (.ireturn, 1) := by decide +kernel
theorem dX5_isBox_0 : decode cX5_isBox 0 = .ok (.aload_n 0, 1) := by decide +kernel
theorem dX5_isBox_1 : decode cX5_isBox 1 = .ok (.iload_n 1, 1) := by decide +kernel
theorem dX5_isBox_2 : decode cX5_isBox 2 = .ok (.invokevirtual 86, 3) := by decide +kernel
theorem dX5_isBox_5 : decode cX5_isBox 5 = .ok (.ifCond .eq 22, 3) := by decide +kernel
theorem dX5_isBox_8 : decode cX5_isBox 8 = .ok (.iload_n 2, 1) := by decide +kernel
theorem dX5_isBox_9 : decode cX5_isBox 9 = .ok (.ifCond .lt 18, 3) := by decide +kernel
theorem dX5_isBox_12 : decode cX5_isBox 12 = .ok (.iload_n 2, 1) := by decide +kernel
theorem dX5_isBox_13 : decode cX5_isBox 13 = .ok (.aload_n 0, 1) := by decide +kernel
theorem dX5_isBox_14 : decode cX5_isBox 14 = .ok (.iload_n 1, 1) := by decide +kernel
theorem dX5_isBox_15 : decode cX5_isBox 15 = .ok (.invokevirtual 111, 3) := by decide +kernel
theorem dX5_isBox_18 : decode cX5_isBox 18 = .ok (.iload_n 3, 1) := by decide +kernel
theorem dX5_isBox_19 : decode cX5_isBox 19 = .ok (.isub, 1) := by decide +kernel
theorem dX5_isBox_20 : decode cX5_isBox 20 = .ok (.if_icmp .gt 7, 3) := by decide +kernel
theorem dX5_isBox_23 : decode cX5_isBox 23 = .ok (.iconst 1, 1) := by decide +kernel
theorem dX5_isBox_24 : decode cX5_isBox 24 = .ok (.goto 4, 3) := by decide +kernel
theorem dX5_isBox_27 : decode cX5_isBox 27 = .ok (.iconst 0, 1) := by decide +kernel
theorem dX5_isBox_28 : decode cX5_isBox 28 = .ok (.ireturn, 1) := by decide +kernel
theorem dX5_lineSum_0 : decode cX5_lineSum 0 = .ok (.aload_n 0, 1) := by decide +kernel
theorem dX5_lineSum_1 : decode cX5_lineSum 1 = .ok (.aload_n 0, 1) := by decide +kernel
theorem dX5_lineSum_2 : decode cX5_lineSum 2 = .ok (.iload_n 1, 1) := by decide +kernel
theorem dX5_lineSum_3 : decode cX5_lineSum 3 = .ok (.iload_n 2, 1) := by decide +kernel
theorem dX5_lineSum_4 : decode cX5_lineSum 4 = .ok (.iconst 1, 1) := by decide +kernel
theorem dX5_lineSum_5 : decode cX5_lineSum 5 = .ok (.invokevirtual 114, 3) := by decide +kernel
theorem dX5_lineSum_8 : decode cX5_lineSum 8 = .ok (.ifCond .eq 7, 3) := by decide +kernel
theorem dX5_lineSum_11 : decode cX5_lineSum 11 = .ok (.iconst 0, 1) := by decide +kernel
theorem dX5_lineSum_12 : decode cX5_lineSum 12 = .ok (.goto 4, 3) := by decide +kernel
theorem dX5_lineSum_15 : decode cX5_lineSum 15 = .ok (.iconst 1, 1) := by decide +kernel
theorem dX5_lineSum_16 : decode cX5_lineSum 16 = .ok (.putfield 39, 3) := by decide +kernel
theorem dX5_lineSum_19 : decode cX5_lineSum 19 = .ok (.aload_n 0, 1) := by decide +kernel
theorem dX5_lineSum_20 : decode cX5_lineSum 20 = .ok (.getfield 39, 3) := by decide +kernel
theorem dX5_lineSum_23 : decode cX5_lineSum 23 = .ok (.ifCond .le 7, 3) := by decide +kernel
theorem dX5_lineSum_26 : decode cX5_lineSum 26 = .ok (.iconst 0, 1) := by decide +kernel
theorem dX5_lineSum_27 : decode cX5_lineSum 27 = .ok (.goto 10, 3) := by decide +kernel
theorem dX5_lineSum_30 : decode cX5_lineSum 30 = .ok (.aload_n 0, 1) := by decide +kernel
theorem dX5_lineSum_31 : decode cX5_lineSum 31 = .ok (.iload_n 1, 1) := by decide +kernel
theorem dX5_lineSum_32 : decode cX5_lineSum 32 = .ok (.iload_n 2, 1) := by decide +kernel
theorem dX5_lineSum_33 : decode cX5_lineSum 33 = .ok (.iload_n 3, 1) := by decide +kernel
theorem dX5_lineSum_34 : decode cX5_lineSum 34 = .ok (.invokevirtual 117, 3) := by decide +kernel
theorem dX5_lineSum_37 : decode cX5_lineSum 37 = .ok (.ireturn, 1) := by decide +kernel
theorem dX5_sumOfLines_0 : decode cX5_sumOfLines 0 = .ok (.lconst 0, 1) := by decide +kernel
theorem dX5_sumOfLines_1 : decode cX5_sumOfLines 1 = .ok (.lstore_n 2, 1) := by decide +kernel
theorem dX5_sumOfLines_2 : decode cX5_sumOfLines 2 = .ok (.iconst 0, 1) := by decide +kernel
theorem dX5_sumOfLines_3 : decode cX5_sumOfLines 3 = .ok (.istore 4, 2) := by decide +kernel
theorem dX5_sumOfLines_5 : decode cX5_sumOfLines 5 = .ok (.iload 4, 2) := by decide +kernel
theorem dX5_sumOfLines_7 : decode cX5_sumOfLines 7 = .ok (.aload_n 0, 1) := by decide +kernel
theorem dX5_sumOfLines_8 : decode cX5_sumOfLines 8 = .ok (.iload_n 1, 1) := by decide +kernel
theorem dX5_sumOfLines_9 : decode cX5_sumOfLines 9 = .ok (.invokevirtual 111, 3) := by decide +kernel
theorem dX5_sumOfLines_12 : decode cX5_sumOfLines 12 = .ok (.if_icmp .ge 21, 3) := by decide +kernel
theorem dX5_sumOfLines_15 : decode cX5_sumOfLines 15 = .ok (.lload_n 2, 1) := by decide +kernel
theorem dX5_sumOfLines_16 : decode cX5_sumOfLines 16 = .ok (.aload_n 0, 1) := by decide +kernel
theorem dX5_sumOfLines_17 : decode cX5_sumOfLines 17 = .ok (.iload_n 1, 1) := by decide +kernel
theorem dX5_sumOfLines_18 : decode cX5_sumOfLines 18 = .ok (.iload 4, 2) := by decide +kernel
theorem dX5_sumOfLines_20 : decode cX5_sumOfLines 20 = .ok (.iconst 0, 1) := by decide +kernel
theorem dX5_sumOfLines_21 : decode cX5_sumOfLines 21 = .ok (.invokevirtual 117, 3) := by decide +kernel
theorem dX5_sumOfLines_24 : decode cX5_sumOfLines 24 = .ok (.i2l, 1) := by decide +kernel
theorem dX5_sumOfLines_25 : decode cX5_sumOfLines 25 = .ok (.ladd, 1) := by decide +kernel
theorem dX5_sumOfLines_26 : decode cX5_sumOfLines 26 = .ok (.lstore_n 2, 1) := by decide +kernel
theorem dX5_sumOfLines_27 : decode cX5_sumOfLines 27 = .ok (.iinc 4 1, 3) := by decide +kernel
theorem dX5_sumOfLines_30 : decode cX5_sumOfLines 30 = .ok (.goto (-25), 3) := by decide +kernel
theorem dX5_sumOfLines_33 : decode cX5_sumOfLines 33 = .ok (.lload_n 2, 1) := by decide +kernel
theorem dX5_sumOfLines_34 : decode cX5_sumOfLines 34 = .ok (.lreturn, 1) := by decide +kernel
theorem dX5_mean_0 : decode cX5_mean 0 = .ok (.aload_n 0, 1) := by decide +kernel
theorem dX5_mean_1 : decode cX5_mean 1 = .ok (.aload_n 0, 1) := by decide +kernel
theorem dX5_mean_2 : decode cX5_mean 2 = .ok (.iload_n 1, 1) := by decide +kernel
theorem dX5_mean_3 : decode cX5_mean 3 = .ok (.invokevirtual 86, 3) := by decide +kernel
theorem dX5_mean_6 : decode cX5_mean 6 = .ok (.ifCond .eq 7, 3) := by decide +kernel
theorem dX5_mean_9 : decode cX5_mean 9 = .ok (.iconst 0, 1) := by decide +kernel
theorem dX5_mean_10 : decode cX5_mean 10 = .ok (.goto 4, 3) := by decide +kernel
theorem dX5_mean_13 : decode cX5_mean 13 = .ok (.iconst 1, 1) := by decide +kernel
theorem dX5_mean_14 : decode cX5_mean 14 = .ok (.putfield 39, 3) := by decide +kernel
theorem dX5_mean_17 : decode cX5_mean 17 = .ok (.aload_n 0, 1) := by decide +kernel
theorem dX5_mean_18 : decode cX5_mean 18 = .ok (.getfield 39, 3) := by decide +kernel
theorem dX5_mean_21 : decode cX5_mean 21 = .ok (.ifCond .gt 11, 3) := by decide +kernel
theorem dX5_mean_24 : decode cX5_mean 24 = .ok (.aload_n 0, 1) := by decide +kernel
theorem dX5_mean_25 : decode cX5_mean 25 = .ok (.iload_n 1, 1) := by decide +kernel
theorem dX5_mean_26 : decode cX5_mean 26 = .ok (.invokevirtual 111, 3) := by decide +kernel
theorem dX5_mean_29 : decode cX5_mean 29 = .ok (.ifCond .ne 7, 3) := by decide +kernel
theorem dX5_mean_32 : decode cX5_mean 32 = .ok (.dconst 0, 1) := by decide +kernel
theorem dX5_mean_33 : decode cX5_mean 33 = .ok (.goto 16, 3) := by decide +kernel
theorem dX5_mean_36 : decode cX5_mean 36 = .ok (.aload_n 0, 1) := by decide +kernel
theorem dX5_mean_37 : decode cX5_mean 37 = .ok (.iload_n 1, 1) := by decide +kernel
theorem dX5_mean_38 : decode cX5_mean 38 = .ok (.invokevirtual 120, 3) := by decide +kernel
theorem dX5_mean_41 : decode cX5_mean 41 = .ok (.l2d, 1) := by decide +kernel
theorem dX5_mean_42 : decode cX5_mean 42 = .ok (.aload_n 0, 1) := by decide +kernel
theorem dX5_mean_43 : decode cX5_mean 43 = .ok (.iload_n 1, 1) := by decide +kernel
theorem dX5_mean_44 : decode cX5_mean 44 = .ok (.invokevirtual 111, 3) := by decide +kernel
theorem dX5_mean_47 : decode cX5_mean 47 = .ok (.i2d, 1) := by decide +kernel
theorem dX5_mean_48 : decode cX5_mean 48 = .ok (.ddiv, 1) := by decide +kernel
theorem dX5_mean_49 : decode cX5_mean 49 = .ok (.dreturn, 1) := by decide +kernel
theorem dX5_layLines_0 : decode cX5_layLines 0 = .ok (.aload_n 0, 1) := by decide +kernel
theorem dX5_layLines_1 : decode cX5_layLines 1 = .ok (.aload_n 0, 1) := by decide +kernel
theorem dX5_layLines_2 : decode cX5_layLines 2 = .ok (.iload_n 1, 1) := by decide +kernel
theorem dX5_layLines_3 : decode cX5_layLines 3 = .ok (.invokevirtual 111, 3) := by decide +kernel
theorem dX5_layLines_6 : decode cX5_layLines 6 = .ok (.i2l, 1) := by decide +kernel
theorem dX5_layLines_7 : decode cX5_layLines 7 = .ok (.putfield 124, 3) := by decide +kernel
theorem dX5_layLines_10 : decode cX5_layLines 10 = .ok (.aload_n 0, 1) := by decide +kernel
theorem dX5_layLines_11 : decode cX5_layLines 11 = .ok (.lconst 0, 1) := by decide +kernel
theorem dX5_layLines_12 : decode cX5_layLines 12 = .ok (.putfield 128, 3) := by decide +kernel
theorem dX5_layLines_15 : decode cX5_layLines 15 = .ok (.aload_n 0, 1) := by decide +kernel
theorem dX5_layLines_16 : decode cX5_layLines 16 = .ok (.lconst 0, 1) := by decide +kernel
theorem dX5_layLines_17 : decode cX5_layLines 17 = .ok (.putfield 131, 3) := by decide +kernel
theorem dX5_layLines_20 : decode cX5_layLines 20 = .ok (.iconst 0, 1) := by decide +kernel
theorem dX5_layLines_21 : decode cX5_layLines 21 = .ok (.istore_n 2, 1) := by decide +kernel
theorem dX5_layLines_22 : decode cX5_layLines 22 = .ok (.iload_n 2, 1) := by decide +kernel
theorem dX5_layLines_23 : decode cX5_layLines 23 = .ok (.aload_n 0, 1) := by decide +kernel
theorem dX5_layLines_24 : decode cX5_layLines 24 = .ok (.iload_n 1, 1) := by decide +kernel
theorem dX5_layLines_25 : decode cX5_layLines 25 = .ok (.invokevirtual 111, 3) := by decide +kernel
theorem dX5_layLines_28 : decode cX5_layLines 28 = .ok (.if_icmp .ge 62, 3) := by decide +kernel
theorem dX5_layLines_31 : decode cX5_layLines 31 = .ok (.aload_n 0, 1) := by decide +kernel
theorem dX5_layLines_32 : decode cX5_layLines 32 = .ok (.getfield 36, 3) := by decide +kernel
theorem dX5_layLines_35 : decode cX5_layLines 35 = .ok (.iload_n 2, 1) := by decide +kernel
theorem dX5_layLines_36 : decode cX5_layLines 36 = .ok (.aload_n 0, 1) := by decide +kernel
theorem dX5_layLines_37 : decode cX5_layLines 37 = .ok (.iload_n 1, 1) := by decide +kernel
theorem dX5_layLines_38 : decode cX5_layLines 38 = .ok (.iload_n 2, 1) := by decide +kernel
theorem dX5_layLines_39 : decode cX5_layLines 39 = .ok (.iconst 0, 1) := by decide +kernel
theorem dX5_layLines_40 : decode cX5_layLines 40 = .ok (.invokevirtual 117, 3) := by decide +kernel
theorem dX5_layLines_43 : decode cX5_layLines 43 = .ok (.iastore, 1) := by decide +kernel
theorem dX5_layLines_44 : decode cX5_layLines 44 = .ok (.aload_n 0, 1) := by decide +kernel
theorem dX5_layLines_45 : decode cX5_layLines 45 = .ok (.dup, 1) := by decide +kernel
theorem dX5_layLines_46 : decode cX5_layLines 46 = .ok (.getfield 128, 3) := by decide +kernel
theorem dX5_layLines_49 : decode cX5_layLines 49 = .ok (.aload_n 0, 1) := by decide +kernel
theorem dX5_layLines_50 : decode cX5_layLines 50 = .ok (.getfield 36, 3) := by decide +kernel
theorem dX5_layLines_53 : decode cX5_layLines 53 = .ok (.iload_n 2, 1) := by decide +kernel
theorem dX5_layLines_54 : decode cX5_layLines 54 = .ok (.iaload, 1) := by decide +kernel
theorem dX5_layLines_55 : decode cX5_layLines 55 = .ok (.i2l, 1) := by decide +kernel
theorem dX5_layLines_56 : decode cX5_layLines 56 = .ok (.ladd, 1) := by decide +kernel
theorem dX5_layLines_57 : decode cX5_layLines 57 = .ok (.putfield 128, 3) := by decide +kernel
theorem dX5_layLines_60 : decode cX5_layLines 60 = .ok (.aload_n 0, 1) := by decide +kernel
theorem dX5_layLines_61 : decode cX5_layLines 61 = .ok (.dup, 1) := by decide +kernel
theorem dX5_layLines_62 : decode cX5_layLines 62 = .ok (.getfield 131, 3) := by decide +kernel
theorem dX5_layLines_65 : decode cX5_layLines 65 = .ok (.aload_n 0, 1) := by decide +kernel
theorem dX5_layLines_66 : decode cX5_layLines 66 = .ok (.getfield 36, 3) := by decide +kernel
theorem dX5_layLines_69 : decode cX5_layLines 69 = .ok (.iload_n 2, 1) := by decide +kernel
theorem dX5_layLines_70 : decode cX5_layLines 70 = .ok (.iaload, 1) := by decide +kernel
theorem dX5_layLines_71 : decode cX5_layLines 71 = .ok (.i2l, 1) := by decide +kernel
theorem dX5_layLines_72 : decode cX5_layLines 72 = .ok (.aload_n 0, 1) := by decide +kernel
theorem dX5_layLines_73 : decode cX5_layLines 73 = .ok (.getfield 36, 3) := by decide +kernel
theorem dX5_layLines_76 : decode cX5_layLines 76 = .ok (.iload_n 2, 1) := by decide +kernel
theorem dX5_layLines_77 : decode cX5_layLines 77 = .ok (.iaload, 1) := by decide +kernel
theorem dX5_layLines_78 : decode cX5_layLines 78 = .ok (.i2l, 1) := by decide +kernel
theorem dX5_layLines_79 : decode cX5_layLines 79 = .ok (.lmul, 1) := by decide +kernel
theorem dX5_layLines_80 : decode cX5_layLines 80 = .ok (.ladd, 1) := by decide +kernel
theorem dX5_layLines_81 : decode cX5_layLines 81 = .ok (.putfield 131, 3) := by decide +kernel
theorem dX5_layLines_84 : decode cX5_layLines 84 = .ok (.iinc 2 1, 3) := by decide +kernel
theorem dX5_layLines_87 : decode cX5_layLines 87 = .ok (.goto (-65), 3) := by decide +kernel
theorem dX5_layLines_90 : decode cX5_layLines 90 = .ok (.return_, 1) := by decide +kernel
theorem dX5_boxBy_0 : decode cX5_boxBy 0 = .ok (.iconst 0, 1) := by decide +kernel
theorem dX5_boxBy_1 : decode cX5_boxBy 1 = .ok (.istore_n 3, 1) := by decide +kernel
theorem dX5_boxBy_2 : decode cX5_boxBy 2 = .ok (.iload_n 1, 1) := by decide +kernel
theorem dX5_boxBy_3 : decode cX5_boxBy 3 = .ok (.istore 4, 2) := by decide +kernel
theorem dX5_boxBy_5 : decode cX5_boxBy 5 = .ok (.iload 4, 2) := by decide +kernel
theorem dX5_boxBy_7 : decode cX5_boxBy 7 = .ok (.iload_n 1, 1) := by decide +kernel
theorem dX5_boxBy_8 : decode cX5_boxBy 8 = .ok (.iload_n 2, 1) := by decide +kernel
theorem dX5_boxBy_9 : decode cX5_boxBy 9 = .ok (.iadd, 1) := by decide +kernel
theorem dX5_boxBy_10 : decode cX5_boxBy 10 = .ok (.if_icmp .ge 19, 3) := by decide +kernel
theorem dX5_boxBy_13 : decode cX5_boxBy 13 = .ok (.iload_n 3, 1) := by decide +kernel
theorem dX5_boxBy_14 : decode cX5_boxBy 14 = .ok (.aload_n 0, 1) := by decide +kernel
theorem dX5_boxBy_15 : decode cX5_boxBy 15 = .ok (.getfield 36, 3) := by decide +kernel
theorem dX5_boxBy_18 : decode cX5_boxBy 18 = .ok (.iload 4, 2) := by decide +kernel
theorem dX5_boxBy_20 : decode cX5_boxBy 20 = .ok (.iaload, 1) := by decide +kernel
theorem dX5_boxBy_21 : decode cX5_boxBy 21 = .ok (.iadd, 1) := by decide +kernel
theorem dX5_boxBy_22 : decode cX5_boxBy 22 = .ok (.istore_n 3, 1) := by decide +kernel
theorem dX5_boxBy_23 : decode cX5_boxBy 23 = .ok (.iinc 4 1, 3) := by decide +kernel
theorem dX5_boxBy_26 : decode cX5_boxBy 26 = .ok (.goto (-21), 3) := by decide +kernel
theorem dX5_boxBy_29 : decode cX5_boxBy 29 = .ok (.iload_n 3, 1) := by decide +kernel
theorem dX5_boxBy_30 : decode cX5_boxBy 30 = .ok (.ireturn, 1) := by decide +kernel
theorem dX5_scoreBy_0 : decode cX5_scoreBy 0 = .ok (.aload_n 0, 1) := by decide +kernel
theorem dX5_scoreBy_1 : decode cX5_scoreBy 1 = .ok (.getfield 124, 3) := by decide +kernel
theorem dX5_scoreBy_4 : decode cX5_scoreBy 4 = .ok (.aload_n 0, 1) := by decide +kernel
theorem dX5_scoreBy_5 : decode cX5_scoreBy 5 = .ok (.getfield 131, 3) := by decide +kernel
theorem dX5_scoreBy_8 : decode cX5_scoreBy 8 = .ok (.lmul, 1) := by decide +kernel
theorem dX5_scoreBy_9 : decode cX5_scoreBy 9 = .ok (.aload_n 0, 1) := by decide +kernel
theorem dX5_scoreBy_10 : decode cX5_scoreBy 10 = .ok (.getfield 128, 3) := by decide +kernel
theorem dX5_scoreBy_13 : decode cX5_scoreBy 13 = .ok (.aload_n 0, 1) := by decide +kernel
theorem dX5_scoreBy_14 : decode cX5_scoreBy 14 = .ok (.getfield 128, 3) := by decide +kernel
theorem dX5_scoreBy_17 : decode cX5_scoreBy 17 = .ok (.lmul, 1) := by decide +kernel
theorem dX5_scoreBy_18 : decode cX5_scoreBy 18 = .ok (.lsub, 1) := by decide +kernel
theorem dX5_scoreBy_19 : decode cX5_scoreBy 19 = .ok (.lstore_n 3, 1) := by decide +kernel
theorem dX5_scoreBy_20 : decode cX5_scoreBy 20 = .ok (.aload_n 0, 1) := by decide +kernel
theorem dX5_scoreBy_21 : decode cX5_scoreBy 21 = .ok (.getfield 124, 3) := by decide +kernel
theorem dX5_scoreBy_24 : decode cX5_scoreBy 24 = .ok (.aload_n 0, 1) := by decide +kernel
theorem dX5_scoreBy_25 : decode cX5_scoreBy 25 = .ok (.iload_n 1, 1) := by decide +kernel
theorem dX5_scoreBy_26 : decode cX5_scoreBy 26 = .ok (.iload_n 2, 1) := by decide +kernel
theorem dX5_scoreBy_27 : decode cX5_scoreBy 27 = .ok (.invokevirtual 134, 3) := by decide +kernel
theorem dX5_scoreBy_30 : decode cX5_scoreBy 30 = .ok (.i2l, 1) := by decide +kernel
theorem dX5_scoreBy_31 : decode cX5_scoreBy 31 = .ok (.lmul, 1) := by decide +kernel
theorem dX5_scoreBy_32 : decode cX5_scoreBy 32 = .ok (.iload_n 2, 1) := by decide +kernel
theorem dX5_scoreBy_33 : decode cX5_scoreBy 33 = .ok (.i2l, 1) := by decide +kernel
theorem dX5_scoreBy_34 : decode cX5_scoreBy 34 = .ok (.aload_n 0, 1) := by decide +kernel
theorem dX5_scoreBy_35 : decode cX5_scoreBy 35 = .ok (.getfield 128, 3) := by decide +kernel
theorem dX5_scoreBy_38 : decode cX5_scoreBy 38 = .ok (.lmul, 1) := by decide +kernel
theorem dX5_scoreBy_39 : decode cX5_scoreBy 39 = .ok (.lsub, 1) := by decide +kernel
theorem dX5_scoreBy_40 : decode cX5_scoreBy 40 = .ok (.lstore 5, 2) := by decide +kernel
theorem dX5_scoreBy_42 : decode cX5_scoreBy 42 = .ok (.lload 5, 2) := by decide +kernel
theorem dX5_scoreBy_44 : decode cX5_scoreBy 44 = .ok (.lconst 0, 1) := by decide +kernel
theorem dX5_scoreBy_45 : decode cX5_scoreBy 45 = .ok (.lcmp, 1) := by decide +kernel
theorem dX5_scoreBy_46 : decode cX5_scoreBy 46 = .ok (.ifCond .le 26, 3) := by decide +kernel
theorem dX5_scoreBy_49 : decode cX5_scoreBy 49 = .ok (.lload_n 3, 1) := by decide +kernel
theorem dX5_scoreBy_50 : decode cX5_scoreBy 50 = .ok (.lconst 0, 1) := by decide +kernel
theorem dX5_scoreBy_51 : decode cX5_scoreBy 51 = .ok (.lcmp, 1) := by decide +kernel
theorem dX5_scoreBy_52 : decode cX5_scoreBy 52 = .ok (.ifCond .le 20, 3) := by decide +kernel
theorem dX5_scoreBy_55 : decode cX5_scoreBy 55 = .ok (.ldc2_w 137, 3) := by decide +kernel
theorem dX5_scoreBy_58 : decode cX5_scoreBy 58 = .ok (.lload 5, 2) := by decide +kernel
theorem dX5_scoreBy_60 : decode cX5_scoreBy 60 = .ok (.lmul, 1) := by decide +kernel
theorem dX5_scoreBy_61 : decode cX5_scoreBy 61 = .ok (.lload 5, 2) := by decide +kernel
theorem dX5_scoreBy_63 : decode cX5_scoreBy 63 = .ok (.lmul, 1) := by decide +kernel
theorem dX5_scoreBy_64 : decode cX5_scoreBy 64 = .ok (.iload_n 2, 1) := by decide +kernel
theorem dX5_scoreBy_65 : decode cX5_scoreBy 65 = .ok (.i2l, 1) := by decide +kernel
theorem dX5_scoreBy_66 : decode cX5_scoreBy 66 = .ok (.lload_n 3, 1) := by decide +kernel
theorem dX5_scoreBy_67 : decode cX5_scoreBy 67 = .ok (.lmul, 1) := by decide +kernel
theorem dX5_scoreBy_68 : decode cX5_scoreBy 68 = .ok (.ldiv, 1) := by decide +kernel
theorem dX5_scoreBy_69 : decode cX5_scoreBy 69 = .ok (.goto 4, 3) := by decide +kernel
theorem dX5_scoreBy_72 : decode cX5_scoreBy 72 = .ok (.lconst 0, 1) := by decide +kernel
theorem dX5_scoreBy_73 : decode cX5_scoreBy 73 = .ok (.lreturn, 1) := by decide +kernel
theorem dX5_boxSum_0 : decode cX5_boxSum 0 = .ok (.aload_n 0, 1) := by decide +kernel
theorem dX5_boxSum_1 : decode cX5_boxSum 1 = .ok (.iload_n 3, 1) := by decide +kernel
theorem dX5_boxSum_2 : decode cX5_boxSum 2 = .ok (.iconst 1, 1) := by decide +kernel
theorem dX5_boxSum_3 : decode cX5_boxSum 3 = .ok (.bipush 8, 2) := by decide +kernel
theorem dX5_boxSum_5 : decode cX5_boxSum 5 = .ok (.invokestatic 42, 3) := by decide +kernel
theorem dX5_boxSum_8 : decode cX5_boxSum 8 = .ok (.ifCond .ne 7, 3) := by decide +kernel
theorem dX5_boxSum_11 : decode cX5_boxSum 11 = .ok (.iconst 1, 1) := by decide +kernel
theorem dX5_boxSum_12 : decode cX5_boxSum 12 = .ok (.goto 18, 3) := by decide +kernel
theorem dX5_boxSum_15 : decode cX5_boxSum 15 = .ok (.aload_n 0, 1) := by decide +kernel
theorem dX5_boxSum_16 : decode cX5_boxSum 16 = .ok (.iload_n 1, 1) := by decide +kernel
theorem dX5_boxSum_17 : decode cX5_boxSum 17 = .ok (.iload_n 2, 1) := by decide +kernel
theorem dX5_boxSum_18 : decode cX5_boxSum 18 = .ok (.iload_n 3, 1) := by decide +kernel
theorem dX5_boxSum_19 : decode cX5_boxSum 19 = .ok (.invokevirtual 114, 3) := by decide +kernel
theorem dX5_boxSum_22 : decode cX5_boxSum 22 = .ok (.ifCond .eq 7, 3) := by decide +kernel
theorem dX5_boxSum_25 : decode cX5_boxSum 25 = .ok (.iconst 0, 1) := by decide +kernel
theorem dX5_boxSum_26 : decode cX5_boxSum 26 = .ok (.goto 4, 3) := by decide +kernel
theorem dX5_boxSum_29 : decode cX5_boxSum 29 = .ok (.iconst 2, 1) := by decide +kernel
theorem dX5_boxSum_30 : decode cX5_boxSum 30 = .ok (.putfield 39, 3) := by decide +kernel
theorem dX5_boxSum_33 : decode cX5_boxSum 33 = .ok (.aload_n 0, 1) := by decide +kernel
theorem dX5_boxSum_34 : decode cX5_boxSum 34 = .ok (.getfield 39, 3) := by decide +kernel
theorem dX5_boxSum_37 : decode cX5_boxSum 37 = .ok (.ifCond .le 5, 3) := by decide +kernel
theorem dX5_boxSum_40 : decode cX5_boxSum 40 = .ok (.iconst 0, 1) := by decide +kernel
theorem dX5_boxSum_41 : decode cX5_boxSum 41 = .ok (.ireturn, 1) := by decide +kernel
theorem dX5_boxSum_42 : decode cX5_boxSum 42 = .ok (.aload_n 0, 1) := by decide +kernel
theorem dX5_boxSum_43 : decode cX5_boxSum 43 = .ok (.iload_n 1, 1) := by decide +kernel
theorem dX5_boxSum_44 : decode cX5_boxSum 44 = .ok (.invokevirtual 139, 3) := by decide +kernel
theorem dX5_boxSum_47 : decode cX5_boxSum 47 = .ok (.aload_n 0, 1) := by decide +kernel
theorem dX5_boxSum_48 : decode cX5_boxSum 48 = .ok (.iload_n 2, 1) := by decide +kernel
theorem dX5_boxSum_49 : decode cX5_boxSum 49 = .ok (.iload_n 3, 1) := by decide +kernel
theorem dX5_boxSum_50 : decode cX5_boxSum 50 = .ok (.invokevirtual 134, 3) := by decide +kernel
theorem dX5_boxSum_53 : decode cX5_boxSum 53 = .ok (.ireturn, 1) := by decide +kernel
theorem dX5_score_0 : decode cX5_score 0 = .ok (.aload_n 0, 1) := by decide +kernel
theorem dX5_score_1 : decode cX5_score 1 = .ok (.iload_n 3, 1) := by decide +kernel
theorem dX5_score_2 : decode cX5_score 2 = .ok (.iconst 1, 1) := by decide +kernel
theorem dX5_score_3 : decode cX5_score 3 = .ok (.bipush 8, 2) := by decide +kernel
theorem dX5_score_5 : decode cX5_score 5 = .ok (.invokestatic 42, 3) := by decide +kernel
theorem dX5_score_8 : decode cX5_score 8 = .ok (.ifCond .ne 7, 3) := by decide +kernel
theorem dX5_score_11 : decode cX5_score 11 = .ok (.iconst 1, 1) := by decide +kernel
theorem dX5_score_12 : decode cX5_score 12 = .ok (.goto 18, 3) := by decide +kernel
theorem dX5_score_15 : decode cX5_score 15 = .ok (.aload_n 0, 1) := by decide +kernel
theorem dX5_score_16 : decode cX5_score 16 = .ok (.iload_n 1, 1) := by decide +kernel
theorem dX5_score_17 : decode cX5_score 17 = .ok (.iload_n 2, 1) := by decide +kernel
theorem dX5_score_18 : decode cX5_score 18 = .ok (.iload_n 3, 1) := by decide +kernel
theorem dX5_score_19 : decode cX5_score 19 = .ok (.invokevirtual 114, 3) := by decide +kernel
theorem dX5_score_22 : decode cX5_score 22 = .ok (.ifCond .eq 7, 3) := by decide +kernel
theorem dX5_score_25 : decode cX5_score 25 = .ok (.iconst 0, 1) := by decide +kernel
theorem dX5_score_26 : decode cX5_score 26 = .ok (.goto 4, 3) := by decide +kernel
theorem dX5_score_29 : decode cX5_score 29 = .ok (.iconst 2, 1) := by decide +kernel
theorem dX5_score_30 : decode cX5_score 30 = .ok (.putfield 39, 3) := by decide +kernel
theorem dX5_score_33 : decode cX5_score 33 = .ok (.aload_n 0, 1) := by decide +kernel
theorem dX5_score_34 : decode cX5_score 34 = .ok (.getfield 39, 3) := by decide +kernel
theorem dX5_score_37 : decode cX5_score 37 = .ok (.ifCond .le 5, 3) := by decide +kernel
theorem dX5_score_40 : decode cX5_score 40 = .ok (.lconst 0, 1) := by decide +kernel
theorem dX5_score_41 : decode cX5_score 41 = .ok (.lreturn, 1) := by decide +kernel
theorem dX5_score_42 : decode cX5_score 42 = .ok (.aload_n 0, 1) := by decide +kernel
theorem dX5_score_43 : decode cX5_score 43 = .ok (.iload_n 1, 1) := by decide +kernel
theorem dX5_score_44 : decode cX5_score 44 = .ok (.invokevirtual 139, 3) := by decide +kernel
theorem dX5_score_47 : decode cX5_score 47 = .ok (.aload_n 0, 1) := by decide +kernel
theorem dX5_score_48 : decode cX5_score 48 = .ok (.iload_n 2, 1) := by decide +kernel
theorem dX5_score_49 : decode cX5_score 49 = .ok (.iload_n 3, 1) := by decide +kernel
theorem dX5_score_50 : decode cX5_score 50 = .ok (.invokevirtual 143, 3) := by decide +kernel
theorem dX5_score_53 : decode cX5_score 53 = .ok (.lreturn, 1) := by decide +kernel
theorem dX5_isApart_0 : decode cX5_isApart 0 = .ok (.iconst 1, 1) := by decide +kernel
theorem dX5_isApart_1 : decode cX5_isApart 1 = .ok (.istore_n 3, 1) := by decide +kernel
theorem dX5_isApart_2 : decode cX5_isApart 2 = .ok (.iconst 0, 1) := by decide +kernel
theorem dX5_isApart_3 : decode cX5_isApart 3 = .ok (.istore 4, 2) := by decide +kernel
theorem dX5_isApart_5 : decode cX5_isApart 5 = .ok (.iload 4, 2) := by decide +kernel
theorem dX5_isApart_7 : decode cX5_isApart 7 = .ok (.aload_n 0, 1) := by decide +kernel
theorem dX5_isApart_8 : decode cX5_isApart 8 = .ok (.getfield 55, 3) := by decide +kernel
theorem dX5_isApart_11 : decode cX5_isApart 11 = .ok (.if_icmp .ge 63, 3) := by decide +kernel
theorem dX5_isApart_14 : decode cX5_isApart 14 = .ok (.aload_n 0, 1) := by decide +kernel
theorem dX5_isApart_15 : decode cX5_isApart 15 = .ok (.getfield 26, 3) := by decide +kernel
theorem dX5_isApart_18 : decode cX5_isApart 18 = .ok (.iload 4, 2) := by decide +kernel
theorem dX5_isApart_20 : decode cX5_isApart 20 = .ok (.iaload, 1) := by decide +kernel
theorem dX5_isApart_21 : decode cX5_isApart 21 = .ok (.aload_n 0, 1) := by decide +kernel
theorem dX5_isApart_22 : decode cX5_isApart 22 = .ok (.getfield 29, 3) := by decide +kernel
theorem dX5_isApart_25 : decode cX5_isApart 25 = .ok (.iload 4, 2) := by decide +kernel
theorem dX5_isApart_27 : decode cX5_isApart 27 = .ok (.iaload, 1) := by decide +kernel
theorem dX5_isApart_28 : decode cX5_isApart 28 = .ok (.iadd, 1) := by decide +kernel
theorem dX5_isApart_29 : decode cX5_isApart 29 = .ok (.iconst 1, 1) := by decide +kernel
theorem dX5_isApart_30 : decode cX5_isApart 30 = .ok (.isub, 1) := by decide +kernel
theorem dX5_isApart_31 : decode cX5_isApart 31 = .ok (.aload_n 0, 1) := by decide +kernel
theorem dX5_isApart_32 : decode cX5_isApart 32 = .ok (.getfield 23, 3) := by decide +kernel
theorem dX5_isApart_35 : decode cX5_isApart 35 = .ok (.iload 4, 2) := by decide +kernel
theorem dX5_isApart_37 : decode cX5_isApart 37 = .ok (.iaload, 1) := by decide +kernel
theorem dX5_isApart_38 : decode cX5_isApart 38 = .ok (.iadd, 1) := by decide +kernel
theorem dX5_isApart_39 : decode cX5_isApart 39 = .ok (.istore 5, 2) := by decide +kernel
theorem dX5_isApart_41 : decode cX5_isApart 41 = .ok (.iload_n 3, 1) := by decide +kernel
theorem dX5_isApart_42 : decode cX5_isApart 42 = .ok (.ifCond .eq 24, 3) := by decide +kernel
theorem dX5_isApart_45 : decode cX5_isApart 45 = .ok (.iload_n 2, 1) := by decide +kernel
theorem dX5_isApart_46 : decode cX5_isApart 46 = .ok (.aload_n 0, 1) := by decide +kernel
theorem dX5_isApart_47 : decode cX5_isApart 47 = .ok (.getfield 26, 3) := by decide +kernel
theorem dX5_isApart_50 : decode cX5_isApart 50 = .ok (.iload 4, 2) := by decide +kernel
theorem dX5_isApart_52 : decode cX5_isApart 52 = .ok (.iaload, 1) := by decide +kernel
theorem dX5_isApart_53 : decode cX5_isApart 53 = .ok (.if_icmp .lt 9, 3) := by decide +kernel
theorem dX5_isApart_56 : decode cX5_isApart 56 = .ok (.iload_n 1, 1) := by decide +kernel
theorem dX5_isApart_57 : decode cX5_isApart 57 = .ok (.iload 5, 2) := by decide +kernel
theorem dX5_isApart_59 : decode cX5_isApart 59 = .ok (.if_icmp .le 7, 3) := by decide +kernel
theorem dX5_isApart_62 : decode cX5_isApart 62 = .ok (.iconst 1, 1) := by decide +kernel
theorem dX5_isApart_63 : decode cX5_isApart 63 = .ok (.goto 4, 3) := by decide +kernel
theorem dX5_isApart_66 : decode cX5_isApart 66 = .ok (.iconst 0, 1) := by decide +kernel
theorem dX5_isApart_67 : decode cX5_isApart 67 = .ok (.istore_n 3, 1) := by decide +kernel
theorem dX5_isApart_68 : decode cX5_isApart 68 = .ok (.iinc 4 1, 3) := by decide +kernel
theorem dX5_isApart_71 : decode cX5_isApart 71 = .ok (.goto (-66), 3) := by decide +kernel
theorem dX5_isApart_74 : decode cX5_isApart 74 = .ok (.iload_n 3, 1) := by decide +kernel
theorem dX5_isApart_75 : decode cX5_isApart 75 = .ok (.ireturn, 1) := by decide +kernel
theorem dX5_lookThrough_0 : decode cX5_lookThrough 0 = .ok (.aload_n 0, 1) := by decide +kernel
theorem dX5_lookThrough_1 : decode cX5_lookThrough 1 = .ok (.iload_n 1, 1) := by decide +kernel
theorem dX5_lookThrough_2 : decode cX5_lookThrough 2 = .ok (.invokevirtual 139, 3) := by decide +kernel
theorem dX5_lookThrough_5 : decode cX5_lookThrough 5 = .ok (.iconst 0, 1) := by decide +kernel
theorem dX5_lookThrough_6 : decode cX5_lookThrough 6 = .ok (.istore 5, 2) := by decide +kernel
theorem dX5_lookThrough_8 : decode cX5_lookThrough 8 = .ok (.iload 5, 2) := by decide +kernel
theorem dX5_lookThrough_10 : decode cX5_lookThrough 10 = .ok (.aload_n 0, 1) := by decide +kernel
theorem dX5_lookThrough_11 : decode cX5_lookThrough 11 = .ok (.iload_n 1, 1) := by decide +kernel
theorem dX5_lookThrough_12 : decode cX5_lookThrough 12 = .ok (.invokevirtual 111, 3) := by decide +kernel
theorem dX5_lookThrough_15 : decode cX5_lookThrough 15 = .ok (.if_icmp .ge 130, 3) := by decide +kernel
theorem dX5_lookThrough_18 : decode cX5_lookThrough 18 = .ok (.iconst 1, 1) := by decide +kernel
theorem dX5_lookThrough_19 : decode cX5_lookThrough 19 = .ok (.istore 6, 2) := by decide +kernel
theorem dX5_lookThrough_21 : decode cX5_lookThrough 21 = .ok (.iload 6, 2) := by decide +kernel
theorem dX5_lookThrough_23 : decode cX5_lookThrough 23 = .ok (.iload 4, 2) := by decide +kernel
theorem dX5_lookThrough_25 : decode cX5_lookThrough 25 = .ok (.if_icmp .gt 114, 3) := by decide +kernel
theorem dX5_lookThrough_28 : decode cX5_lookThrough 28 = .ok (.aload_n 0, 1) := by decide +kernel
theorem dX5_lookThrough_29 : decode cX5_lookThrough 29 = .ok (.iload_n 1, 1) := by decide +kernel
theorem dX5_lookThrough_30 : decode cX5_lookThrough 30 = .ok (.iload 5, 2) := by decide +kernel
theorem dX5_lookThrough_32 : decode cX5_lookThrough 32 = .ok (.iload 6, 2) := by decide +kernel
theorem dX5_lookThrough_34 : decode cX5_lookThrough 34 = .ok (.invokevirtual 114, 3) := by decide +kernel
theorem dX5_lookThrough_37 : decode cX5_lookThrough 37 = .ok (.ifCond .eq 102, 3) := by decide +kernel
theorem dX5_lookThrough_40 : decode cX5_lookThrough 40 = .ok (.aload_n 0, 1) := by decide +kernel
theorem dX5_lookThrough_41 : decode cX5_lookThrough 41 = .ok (.iload 5, 2) := by decide +kernel
theorem dX5_lookThrough_43 : decode cX5_lookThrough 43 = .ok (.iload 6, 2) := by decide +kernel
theorem dX5_lookThrough_45 : decode cX5_lookThrough 45 = .ok (.invokevirtual 143, 3) := by decide +kernel
theorem dX5_lookThrough_48 : decode cX5_lookThrough 48 = .ok (.lstore 7, 2) := by decide +kernel
theorem dX5_lookThrough_50 : decode cX5_lookThrough 50 = .ok (.lload 7, 2) := by decide +kernel
theorem dX5_lookThrough_52 : decode cX5_lookThrough 52 = .ok (.lload_n 2, 1) := by decide +kernel
theorem dX5_lookThrough_53 : decode cX5_lookThrough 53 = .ok (.lcmp, 1) := by decide +kernel
theorem dX5_lookThrough_54 : decode cX5_lookThrough 54 = .ok (.ifCond .lt 79, 3) := by decide +kernel
theorem dX5_lookThrough_57 : decode cX5_lookThrough 57 = .ok (.lload 7, 2) := by decide +kernel
theorem dX5_lookThrough_59 : decode cX5_lookThrough 59 = .ok (.aload_n 0, 1) := by decide +kernel
theorem dX5_lookThrough_60 : decode cX5_lookThrough 60 = .ok (.getfield 32, 3) := by decide +kernel
theorem dX5_lookThrough_63 : decode cX5_lookThrough 63 = .ok (.aload_n 0, 1) := by decide +kernel
theorem dX5_lookThrough_64 : decode cX5_lookThrough 64 = .ok (.getfield 55, 3) := by decide +kernel
theorem dX5_lookThrough_67 : decode cX5_lookThrough 67 = .ok (.laload, 1) := by decide +kernel
theorem dX5_lookThrough_68 : decode cX5_lookThrough 68 = .ok (.lcmp, 1) := by decide +kernel
theorem dX5_lookThrough_69 : decode cX5_lookThrough 69 = .ok (.ifCond .le 64, 3) := by decide +kernel
theorem dX5_lookThrough_72 : decode cX5_lookThrough 72 = .ok (.aload_n 0, 1) := by decide +kernel
theorem dX5_lookThrough_73 : decode cX5_lookThrough 73 = .ok (.iload 5, 2) := by decide +kernel
theorem dX5_lookThrough_75 : decode cX5_lookThrough 75 = .ok (.iload 5, 2) := by decide +kernel
theorem dX5_lookThrough_77 : decode cX5_lookThrough 77 = .ok (.iload 6, 2) := by decide +kernel
theorem dX5_lookThrough_79 : decode cX5_lookThrough 79 = .ok (.iadd, 1) := by decide +kernel
theorem dX5_lookThrough_80 : decode cX5_lookThrough 80 = .ok (.iconst 1, 1) := by decide +kernel
theorem dX5_lookThrough_81 : decode cX5_lookThrough 81 = .ok (.isub, 1) := by decide +kernel
theorem dX5_lookThrough_82 : decode cX5_lookThrough 82 = .ok (.iload_n 1, 1) := by decide +kernel
theorem dX5_lookThrough_83 : decode cX5_lookThrough 83 = .ok (.iadd, 1) := by decide +kernel
theorem dX5_lookThrough_84 : decode cX5_lookThrough 84 = .ok (.invokevirtual 147, 3) := by decide +kernel
theorem dX5_lookThrough_87 : decode cX5_lookThrough 87 = .ok (.ifCond .eq 46, 3) := by decide +kernel
theorem dX5_lookThrough_90 : decode cX5_lookThrough 90 = .ok (.aload_n 0, 1) := by decide +kernel
theorem dX5_lookThrough_91 : decode cX5_lookThrough 91 = .ok (.getfield 23, 3) := by decide +kernel
theorem dX5_lookThrough_94 : decode cX5_lookThrough 94 = .ok (.aload_n 0, 1) := by decide +kernel
theorem dX5_lookThrough_95 : decode cX5_lookThrough 95 = .ok (.getfield 55, 3) := by decide +kernel
theorem dX5_lookThrough_98 : decode cX5_lookThrough 98 = .ok (.iload_n 1, 1) := by decide +kernel
theorem dX5_lookThrough_99 : decode cX5_lookThrough 99 = .ok (.iastore, 1) := by decide +kernel
theorem dX5_lookThrough_100 : decode cX5_lookThrough 100 = .ok (.aload_n 0, 1) := by decide +kernel
theorem dX5_lookThrough_101 : decode cX5_lookThrough 101 = .ok (.getfield 26, 3) := by decide +kernel
theorem dX5_lookThrough_104 : decode cX5_lookThrough 104 = .ok (.aload_n 0, 1) := by decide +kernel
theorem dX5_lookThrough_105 : decode cX5_lookThrough 105 = .ok (.getfield 55, 3) := by decide +kernel
theorem dX5_lookThrough_108 : decode cX5_lookThrough 108 = .ok (.iload 5, 2) := by decide +kernel
theorem dX5_lookThrough_110 : decode cX5_lookThrough 110 = .ok (.iastore, 1) := by decide +kernel
theorem dX5_lookThrough_111 : decode cX5_lookThrough 111 = .ok (.aload_n 0, 1) := by decide +kernel
theorem dX5_lookThrough_112 : decode cX5_lookThrough 112 = .ok (.getfield 29, 3) := by decide +kernel
theorem dX5_lookThrough_115 : decode cX5_lookThrough 115 = .ok (.aload_n 0, 1) := by decide +kernel
theorem dX5_lookThrough_116 : decode cX5_lookThrough 116 = .ok (.getfield 55, 3) := by decide +kernel
theorem dX5_lookThrough_119 : decode cX5_lookThrough 119 = .ok (.iload 6, 2) := by decide +kernel
theorem dX5_lookThrough_121 : decode cX5_lookThrough 121 = .ok (.iastore, 1) := by decide +kernel
theorem dX5_lookThrough_122 : decode cX5_lookThrough 122 = .ok (.aload_n 0, 1) := by decide +kernel
theorem dX5_lookThrough_123 : decode cX5_lookThrough 123 = .ok (.getfield 32, 3) := by decide +kernel
theorem dX5_lookThrough_126 : decode cX5_lookThrough 126 = .ok (.aload_n 0, 1) := by decide +kernel
theorem dX5_lookThrough_127 : decode cX5_lookThrough 127 = .ok (.getfield 55, 3) := by decide +kernel
theorem dX5_lookThrough_130 : decode cX5_lookThrough 130 = .ok (.lload 7, 2) := by decide +kernel
theorem dX5_lookThrough_132 : decode cX5_lookThrough 132 = .ok (.lastore, 1) := by decide +kernel
theorem dX5_lookThrough_133 : decode cX5_lookThrough 133 = .ok (.iinc 6 1, 3) := by decide +kernel
theorem dX5_lookThrough_136 : decode cX5_lookThrough 136 = .ok (.goto (-115), 3) := by decide +kernel
theorem dX5_lookThrough_139 : decode cX5_lookThrough 139 = .ok (.iinc 5 1, 3) := by decide +kernel
theorem dX5_lookThrough_142 : decode cX5_lookThrough 142 = .ok (.goto (-134), 3) := by decide +kernel
theorem dX5_lookThrough_145 : decode cX5_lookThrough 145 = .ok (.return_, 1) := by decide +kernel
theorem dX5_findNext_0 : decode cX5_findNext 0 = .ok (.aload_n 0, 1) := by decide +kernel
theorem dX5_findNext_1 : decode cX5_findNext 1 = .ok (.getfield 32, 3) := by decide +kernel
theorem dX5_findNext_4 : decode cX5_findNext 4 = .ok (.aload_n 0, 1) := by decide +kernel
theorem dX5_findNext_5 : decode cX5_findNext 5 = .ok (.getfield 55, 3) := by decide +kernel
theorem dX5_findNext_8 : decode cX5_findNext 8 = .ok (.lconst 0, 1) := by decide +kernel
theorem dX5_findNext_9 : decode cX5_findNext 9 = .ok (.lastore, 1) := by decide +kernel
theorem dX5_findNext_10 : decode cX5_findNext 10 = .ok (.iconst 0, 1) := by decide +kernel
theorem dX5_findNext_11 : decode cX5_findNext 11 = .ok (.istore 4, 2) := by decide +kernel
theorem dX5_findNext_13 : decode cX5_findNext 13 = .ok (.iload 4, 2) := by decide +kernel
theorem dX5_findNext_15 : decode cX5_findNext 15 = .ok (.aload_n 0, 1) := by decide +kernel
theorem dX5_findNext_16 : decode cX5_findNext 16 = .ok (.getfield 7, 3) := by decide +kernel
theorem dX5_findNext_19 : decode cX5_findNext 19 = .ok (.if_icmp .ge 17, 3) := by decide +kernel
theorem dX5_findNext_22 : decode cX5_findNext 22 = .ok (.aload_n 0, 1) := by decide +kernel
theorem dX5_findNext_23 : decode cX5_findNext 23 = .ok (.iload 4, 2) := by decide +kernel
theorem dX5_findNext_25 : decode cX5_findNext 25 = .ok (.lload_n 1, 1) := by decide +kernel
theorem dX5_findNext_26 : decode cX5_findNext 26 = .ok (.iload_n 3, 1) := by decide +kernel
theorem dX5_findNext_27 : decode cX5_findNext 27 = .ok (.invokevirtual 151, 3) := by decide +kernel
theorem dX5_findNext_30 : decode cX5_findNext 30 = .ok (.iinc 4 1, 3) := by decide +kernel
theorem dX5_findNext_33 : decode cX5_findNext 33 = .ok (.goto (-20), 3) := by decide +kernel
theorem dX5_findNext_36 : decode cX5_findNext 36 = .ok (.aload_n 0, 1) := by decide +kernel
theorem dX5_findNext_37 : decode cX5_findNext 37 = .ok (.getfield 32, 3) := by decide +kernel
theorem dX5_findNext_40 : decode cX5_findNext 40 = .ok (.aload_n 0, 1) := by decide +kernel
theorem dX5_findNext_41 : decode cX5_findNext 41 = .ok (.getfield 55, 3) := by decide +kernel
theorem dX5_findNext_44 : decode cX5_findNext 44 = .ok (.laload, 1) := by decide +kernel
theorem dX5_findNext_45 : decode cX5_findNext 45 = .ok (.lconst 0, 1) := by decide +kernel
theorem dX5_findNext_46 : decode cX5_findNext 46 = .ok (.lcmp, 1) := by decide +kernel
theorem dX5_findNext_47 : decode cX5_findNext 47 = .ok (.ifCond .le 7, 3) := by decide +kernel
theorem dX5_findNext_50 : decode cX5_findNext 50 = .ok (.iconst 1, 1) := by decide +kernel
theorem dX5_findNext_51 : decode cX5_findNext 51 = .ok (.goto 4, 3) := by decide +kernel
theorem dX5_findNext_54 : decode cX5_findNext 54 = .ok (.iconst 0, 1) := by decide +kernel
theorem dX5_findNext_55 : decode cX5_findNext 55 = .ok (.ireturn, 1) := by decide +kernel
theorem dX5_find_0 : decode cX5_find 0 = .ok (.aload_n 0, 1) := by decide +kernel
theorem dX5_find_1 : decode cX5_find 1 = .ok (.lload_n 1, 1) := by decide +kernel
theorem dX5_find_2 : decode cX5_find 2 = .ok (.lconst 0, 1) := by decide +kernel
theorem dX5_find_3 : decode cX5_find 3 = .ok (.lcmp, 1) := by decide +kernel
theorem dX5_find_4 : decode cX5_find 4 = .ok (.ifCond .lt 17, 3) := by decide +kernel
theorem dX5_find_7 : decode cX5_find 7 = .ok (.iload_n 3, 1) := by decide +kernel
theorem dX5_find_8 : decode cX5_find 8 = .ok (.iconst 1, 1) := by decide +kernel
theorem dX5_find_9 : decode cX5_find 9 = .ok (.bipush 8, 2) := by decide +kernel
theorem dX5_find_11 : decode cX5_find 11 = .ok (.invokestatic 42, 3) := by decide +kernel
theorem dX5_find_14 : decode cX5_find 14 = .ok (.ifCond .eq 7, 3) := by decide +kernel
theorem dX5_find_17 : decode cX5_find 17 = .ok (.iconst 0, 1) := by decide +kernel
theorem dX5_find_18 : decode cX5_find 18 = .ok (.goto 4, 3) := by decide +kernel
theorem dX5_find_21 : decode cX5_find 21 = .ok (.iconst 1, 1) := by decide +kernel
theorem dX5_find_22 : decode cX5_find 22 = .ok (.putfield 39, 3) := by decide +kernel
theorem dX5_find_25 : decode cX5_find 25 = .ok (.aload_n 0, 1) := by decide +kernel
theorem dX5_find_26 : decode cX5_find 26 = .ok (.getfield 39, 3) := by decide +kernel
theorem dX5_find_29 : decode cX5_find 29 = .ok (.ifCond .le 5, 3) := by decide +kernel
theorem dX5_find_32 : decode cX5_find 32 = .ok (.iconst 0, 1) := by decide +kernel
theorem dX5_find_33 : decode cX5_find 33 = .ok (.ireturn, 1) := by decide +kernel
theorem dX5_find_34 : decode cX5_find 34 = .ok (.aload_n 0, 1) := by decide +kernel
theorem dX5_find_35 : decode cX5_find 35 = .ok (.iconst 0, 1) := by decide +kernel
theorem dX5_find_36 : decode cX5_find 36 = .ok (.putfield 55, 3) := by decide +kernel
theorem dX5_find_39 : decode cX5_find 39 = .ok (.aload_n 0, 1) := by decide +kernel
theorem dX5_find_40 : decode cX5_find 40 = .ok (.getfield 55, 3) := by decide +kernel
theorem dX5_find_43 : decode cX5_find 43 = .ok (.bipush 8, 2) := by decide +kernel
theorem dX5_find_45 : decode cX5_find 45 = .ok (.if_icmp .ge 25, 3) := by decide +kernel
theorem dX5_find_48 : decode cX5_find 48 = .ok (.aload_n 0, 1) := by decide +kernel
theorem dX5_find_49 : decode cX5_find 49 = .ok (.lload_n 1, 1) := by decide +kernel
theorem dX5_find_50 : decode cX5_find 50 = .ok (.iload_n 3, 1) := by decide +kernel
theorem dX5_find_51 : decode cX5_find 51 = .ok (.invokevirtual 155, 3) := by decide +kernel
theorem dX5_find_54 : decode cX5_find 54 = .ok (.ifCond .eq 16, 3) := by decide +kernel
theorem dX5_find_57 : decode cX5_find 57 = .ok (.aload_n 0, 1) := by decide +kernel
theorem dX5_find_58 : decode cX5_find 58 = .ok (.dup, 1) := by decide +kernel
theorem dX5_find_59 : decode cX5_find 59 = .ok (.getfield 55, 3) := by decide +kernel
theorem dX5_find_62 : decode cX5_find 62 = .ok (.iconst 1, 1) := by decide +kernel
theorem dX5_find_63 : decode cX5_find 63 = .ok (.iadd, 1) := by decide +kernel
theorem dX5_find_64 : decode cX5_find 64 = .ok (.putfield 55, 3) := by decide +kernel
theorem dX5_find_67 : decode cX5_find 67 = .ok (.goto (-28), 3) := by decide +kernel
theorem dX5_find_70 : decode cX5_find 70 = .ok (.aload_n 0, 1) := by decide +kernel
theorem dX5_find_71 : decode cX5_find 71 = .ok (.getfield 55, 3) := by decide +kernel
theorem dX5_find_74 : decode cX5_find 74 = .ok (.ireturn, 1) := by decide +kernel
theorem dX5_told_0 : decode cX5_told 0 = .ok (.iload_n 2, 1) := by decide +kernel
theorem dX5_told_1 : decode cX5_told 1 = .ok (.tableswitch 62 0 3 #[31, 39, 47, 55], 31) := by decide +kernel
theorem dX5_told_32 : decode cX5_told 32 = .ok (.aload_n 0, 1) := by decide +kernel
theorem dX5_told_33 : decode cX5_told 33 = .ok (.getfield 23, 3) := by decide +kernel
theorem dX5_told_36 : decode cX5_told 36 = .ok (.iload_n 1, 1) := by decide +kernel
theorem dX5_told_37 : decode cX5_told 37 = .ok (.iaload, 1) := by decide +kernel
theorem dX5_told_38 : decode cX5_told 38 = .ok (.i2l, 1) := by decide +kernel
theorem dX5_told_39 : decode cX5_told 39 = .ok (.lreturn, 1) := by decide +kernel
theorem dX5_told_40 : decode cX5_told 40 = .ok (.aload_n 0, 1) := by decide +kernel
theorem dX5_told_41 : decode cX5_told 41 = .ok (.getfield 26, 3) := by decide +kernel
theorem dX5_told_44 : decode cX5_told 44 = .ok (.iload_n 1, 1) := by decide +kernel
theorem dX5_told_45 : decode cX5_told 45 = .ok (.iaload, 1) := by decide +kernel
theorem dX5_told_46 : decode cX5_told 46 = .ok (.i2l, 1) := by decide +kernel
theorem dX5_told_47 : decode cX5_told 47 = .ok (.lreturn, 1) := by decide +kernel
theorem dX5_told_48 : decode cX5_told 48 = .ok (.aload_n 0, 1) := by decide +kernel
theorem dX5_told_49 : decode cX5_told 49 = .ok (.getfield 29, 3) := by decide +kernel
theorem dX5_told_52 : decode cX5_told 52 = .ok (.iload_n 1, 1) := by decide +kernel
theorem dX5_told_53 : decode cX5_told 53 = .ok (.iaload, 1) := by decide +kernel
theorem dX5_told_54 : decode cX5_told 54 = .ok (.i2l, 1) := by decide +kernel
theorem dX5_told_55 : decode cX5_told 55 = .ok (.lreturn, 1) := by decide +kernel
theorem dX5_told_56 : decode cX5_told 56 = .ok (.aload_n 0, 1) := by decide +kernel
theorem dX5_told_57 : decode cX5_told 57 = .ok (.getfield 32, 3) := by decide +kernel
theorem dX5_told_60 : decode cX5_told 60 = .ok (.iload_n 1, 1) := by decide +kernel
theorem dX5_told_61 : decode cX5_told 61 = .ok (.laload, 1) := by decide +kernel
theorem dX5_told_62 : decode cX5_told 62 = .ok (.lreturn, 1) := by decide +kernel
theorem dX5_told_63 : decode cX5_told 63 = .ok (.aload_n 0, 1) := by decide +kernel
theorem dX5_told_64 : decode cX5_told 64 = .ok (.getfield 26, 3) := by decide +kernel
theorem dX5_told_67 : decode cX5_told 67 = .ok (.iload_n 1, 1) := by decide +kernel
theorem dX5_told_68 : decode cX5_told 68 = .ok (.iaload, 1) := by decide +kernel
theorem dX5_told_69 : decode cX5_told 69 = .ok (.aload_n 0, 1) := by decide +kernel
theorem dX5_told_70 : decode cX5_told 70 = .ok (.getfield 49, 3) := by decide +kernel
theorem dX5_told_73 : decode cX5_told 73 = .ok (.iadd, 1) := by decide +kernel
theorem dX5_told_74 : decode cX5_told 74 = .ok (.i2l, 1) := by decide +kernel
theorem dX5_told_75 : decode cX5_told 75 = .ok (.lreturn, 1) := by decide +kernel
theorem dX5_candidate_0 : decode cX5_candidate 0 = .ok (.aload_n 0, 1) := by decide +kernel
theorem dX5_candidate_1 : decode cX5_candidate 1 = .ok (.iload_n 1, 1) := by decide +kernel
theorem dX5_candidate_2 : decode cX5_candidate 2 = .ok (.iconst 0, 1) := by decide +kernel
theorem dX5_candidate_3 : decode cX5_candidate 3 = .ok (.aload_n 0, 1) := by decide +kernel
theorem dX5_candidate_4 : decode cX5_candidate 4 = .ok (.getfield 55, 3) := by decide +kernel
theorem dX5_candidate_7 : decode cX5_candidate 7 = .ok (.iconst 1, 1) := by decide +kernel
theorem dX5_candidate_8 : decode cX5_candidate 8 = .ok (.isub, 1) := by decide +kernel
theorem dX5_candidate_9 : decode cX5_candidate 9 = .ok (.invokestatic 42, 3) := by decide +kernel
theorem dX5_candidate_12 : decode cX5_candidate 12 = .ok (.ifCond .ne 7, 3) := by decide +kernel
theorem dX5_candidate_15 : decode cX5_candidate 15 = .ok (.iconst 1, 1) := by decide +kernel
theorem dX5_candidate_16 : decode cX5_candidate 16 = .ok (.goto 17, 3) := by decide +kernel
theorem dX5_candidate_19 : decode cX5_candidate 19 = .ok (.iload_n 2, 1) := by decide +kernel
theorem dX5_candidate_20 : decode cX5_candidate 20 = .ok (.iconst 0, 1) := by decide +kernel
theorem dX5_candidate_21 : decode cX5_candidate 21 = .ok (.iconst 4, 1) := by decide +kernel
theorem dX5_candidate_22 : decode cX5_candidate 22 = .ok (.invokestatic 42, 3) := by decide +kernel
theorem dX5_candidate_25 : decode cX5_candidate 25 = .ok (.ifCond .eq 7, 3) := by decide +kernel
theorem dX5_candidate_28 : decode cX5_candidate 28 = .ok (.iconst 0, 1) := by decide +kernel
theorem dX5_candidate_29 : decode cX5_candidate 29 = .ok (.goto 4, 3) := by decide +kernel
theorem dX5_candidate_32 : decode cX5_candidate 32 = .ok (.iconst 2, 1) := by decide +kernel
theorem dX5_candidate_33 : decode cX5_candidate 33 = .ok (.putfield 39, 3) := by decide +kernel
theorem dX5_candidate_36 : decode cX5_candidate 36 = .ok (.aload_n 0, 1) := by decide +kernel
theorem dX5_candidate_37 : decode cX5_candidate 37 = .ok (.getfield 39, 3) := by decide +kernel
theorem dX5_candidate_40 : decode cX5_candidate 40 = .ok (.ifCond .le 7, 3) := by decide +kernel
theorem dX5_candidate_43 : decode cX5_candidate 43 = .ok (.lconst 0, 1) := by decide +kernel
theorem dX5_candidate_44 : decode cX5_candidate 44 = .ok (.goto 9, 3) := by decide +kernel
theorem dX5_candidate_47 : decode cX5_candidate 47 = .ok (.aload_n 0, 1) := by decide +kernel
theorem dX5_candidate_48 : decode cX5_candidate 48 = .ok (.iload_n 1, 1) := by decide +kernel
theorem dX5_candidate_49 : decode cX5_candidate 49 = .ok (.iload_n 2, 1) := by decide +kernel
theorem dX5_candidate_50 : decode cX5_candidate 50 = .ok (.invokevirtual 159, 3) := by decide +kernel
theorem dX5_candidate_53 : decode cX5_candidate 53 = .ok (.lreturn, 1) := by decide +kernel
theorem dX5_candidateAt_0 : decode cX5_candidateAt 0 = .ok (.aload_n 0, 1) := by decide +kernel
theorem dX5_candidateAt_1 : decode cX5_candidateAt 1 = .ok (.aload_n 0, 1) := by decide +kernel
theorem dX5_candidateAt_2 : decode cX5_candidateAt 2 = .ok (.iload_n 1, 1) := by decide +kernel
theorem dX5_candidateAt_3 : decode cX5_candidateAt 3 = .ok (.invokevirtual 96, 3) := by decide +kernel
theorem dX5_candidateAt_6 : decode cX5_candidateAt 6 = .ok (.ifCond .eq 7, 3) := by decide +kernel
theorem dX5_candidateAt_9 : decode cX5_candidateAt 9 = .ok (.iconst 0, 1) := by decide +kernel
theorem dX5_candidateAt_10 : decode cX5_candidateAt 10 = .ok (.goto 4, 3) := by decide +kernel
theorem dX5_candidateAt_13 : decode cX5_candidateAt 13 = .ok (.iconst 1, 1) := by decide +kernel
theorem dX5_candidateAt_14 : decode cX5_candidateAt 14 = .ok (.putfield 39, 3) := by decide +kernel
theorem dX5_candidateAt_17 : decode cX5_candidateAt 17 = .ok (.iconst (-1), 1) := by decide +kernel
theorem dX5_candidateAt_18 : decode cX5_candidateAt 18 = .ok (.istore_n 2, 1) := by decide +kernel
theorem dX5_candidateAt_19 : decode cX5_candidateAt 19 = .ok (.aload_n 0, 1) := by decide +kernel
theorem dX5_candidateAt_20 : decode cX5_candidateAt 20 = .ok (.getfield 55, 3) := by decide +kernel
theorem dX5_candidateAt_23 : decode cX5_candidateAt 23 = .ok (.iconst 1, 1) := by decide +kernel
theorem dX5_candidateAt_24 : decode cX5_candidateAt 24 = .ok (.isub, 1) := by decide +kernel
theorem dX5_candidateAt_25 : decode cX5_candidateAt 25 = .ok (.istore_n 3, 1) := by decide +kernel
theorem dX5_candidateAt_26 : decode cX5_candidateAt 26 = .ok (.iload_n 3, 1) := by decide +kernel
theorem dX5_candidateAt_27 : decode cX5_candidateAt 27 = .ok (.ifCond .lt 61, 3) := by decide +kernel
theorem dX5_candidateAt_30 : decode cX5_candidateAt 30 = .ok (.aload_n 0, 1) := by decide +kernel
theorem dX5_candidateAt_31 : decode cX5_candidateAt 31 = .ok (.getfield 39, 3) := by decide +kernel
theorem dX5_candidateAt_34 : decode cX5_candidateAt 34 = .ok (.ifCond .ne 54, 3) := by decide +kernel
theorem dX5_candidateAt_37 : decode cX5_candidateAt 37 = .ok (.iload_n 1, 1) := by decide +kernel
theorem dX5_candidateAt_38 : decode cX5_candidateAt 38 = .ok (.aload_n 0, 1) := by decide +kernel
theorem dX5_candidateAt_39 : decode cX5_candidateAt 39 = .ok (.getfield 26, 3) := by decide +kernel
theorem dX5_candidateAt_42 : decode cX5_candidateAt 42 = .ok (.iload_n 3, 1) := by decide +kernel
theorem dX5_candidateAt_43 : decode cX5_candidateAt 43 = .ok (.iaload, 1) := by decide +kernel
theorem dX5_candidateAt_44 : decode cX5_candidateAt 44 = .ok (.aload_n 0, 1) := by decide +kernel
theorem dX5_candidateAt_45 : decode cX5_candidateAt 45 = .ok (.getfield 26, 3) := by decide +kernel
theorem dX5_candidateAt_48 : decode cX5_candidateAt 48 = .ok (.iload_n 3, 1) := by decide +kernel
theorem dX5_candidateAt_49 : decode cX5_candidateAt 49 = .ok (.iaload, 1) := by decide +kernel
theorem dX5_candidateAt_50 : decode cX5_candidateAt 50 = .ok (.aload_n 0, 1) := by decide +kernel
theorem dX5_candidateAt_51 : decode cX5_candidateAt 51 = .ok (.getfield 29, 3) := by decide +kernel
theorem dX5_candidateAt_54 : decode cX5_candidateAt 54 = .ok (.iload_n 3, 1) := by decide +kernel
theorem dX5_candidateAt_55 : decode cX5_candidateAt 55 = .ok (.iaload, 1) := by decide +kernel
theorem dX5_candidateAt_56 : decode cX5_candidateAt 56 = .ok (.iadd, 1) := by decide +kernel
theorem dX5_candidateAt_57 : decode cX5_candidateAt 57 = .ok (.iconst 1, 1) := by decide +kernel
theorem dX5_candidateAt_58 : decode cX5_candidateAt 58 = .ok (.isub, 1) := by decide +kernel
theorem dX5_candidateAt_59 : decode cX5_candidateAt 59 = .ok (.aload_n 0, 1) := by decide +kernel
theorem dX5_candidateAt_60 : decode cX5_candidateAt 60 = .ok (.getfield 23, 3) := by decide +kernel
theorem dX5_candidateAt_63 : decode cX5_candidateAt 63 = .ok (.iload_n 3, 1) := by decide +kernel
theorem dX5_candidateAt_64 : decode cX5_candidateAt 64 = .ok (.iaload, 1) := by decide +kernel
theorem dX5_candidateAt_65 : decode cX5_candidateAt 65 = .ok (.iadd, 1) := by decide +kernel
theorem dX5_candidateAt_66 : decode cX5_candidateAt 66 = .ok (.invokestatic 42, 3) := by decide +kernel
theorem dX5_candidateAt_69 : decode cX5_candidateAt 69 = .ok (.istore 4, 2) := by decide +kernel
theorem dX5_candidateAt_71 : decode cX5_candidateAt 71 = .ok (.iload 4, 2) := by decide +kernel
theorem dX5_candidateAt_73 : decode cX5_candidateAt 73 = .ok (.ifCond .eq 7, 3) := by decide +kernel
theorem dX5_candidateAt_76 : decode cX5_candidateAt 76 = .ok (.iload_n 3, 1) := by decide +kernel
theorem dX5_candidateAt_77 : decode cX5_candidateAt 77 = .ok (.goto 4, 3) := by decide +kernel
theorem dX5_candidateAt_80 : decode cX5_candidateAt 80 = .ok (.iload_n 2, 1) := by decide +kernel
theorem dX5_candidateAt_81 : decode cX5_candidateAt 81 = .ok (.istore_n 2, 1) := by decide +kernel
theorem dX5_candidateAt_82 : decode cX5_candidateAt 82 = .ok (.iinc 3 (-1), 3) := by decide +kernel
theorem dX5_candidateAt_85 : decode cX5_candidateAt 85 = .ok (.goto (-59), 3) := by decide +kernel
theorem dX5_candidateAt_88 : decode cX5_candidateAt 88 = .ok (.aload_n 0, 1) := by decide +kernel
theorem dX5_candidateAt_89 : decode cX5_candidateAt 89 = .ok (.getfield 39, 3) := by decide +kernel
theorem dX5_candidateAt_92 : decode cX5_candidateAt 92 = .ok (.ifCond .le 7, 3) := by decide +kernel
theorem dX5_candidateAt_95 : decode cX5_candidateAt 95 = .ok (.iconst 0, 1) := by decide +kernel
theorem dX5_candidateAt_96 : decode cX5_candidateAt 96 = .ok (.goto 4, 3) := by decide +kernel
theorem dX5_candidateAt_99 : decode cX5_candidateAt 99 = .ok (.iload_n 2, 1) := by decide +kernel
theorem dX5_candidateAt_100 : decode cX5_candidateAt 100 = .ok (.ireturn, 1) := by decide +kernel
theorem dX5_mix_0 : decode cX5_mix 0 = .ok (.aload_n 0, 1) := by decide +kernel
theorem dX5_mix_1 : decode cX5_mix 1 = .ok (.ldc2_w 162, 3) := by decide +kernel
theorem dX5_mix_4 : decode cX5_mix 4 = .ok (.aload_n 0, 1) := by decide +kernel
theorem dX5_mix_5 : decode cX5_mix 5 = .ok (.getfield 164, 3) := by decide +kernel
theorem dX5_mix_8 : decode cX5_mix 8 = .ok (.lmul, 1) := by decide +kernel
theorem dX5_mix_9 : decode cX5_mix 9 = .ok (.lload_n 1, 1) := by decide +kernel
theorem dX5_mix_10 : decode cX5_mix 10 = .ok (.ladd, 1) := by decide +kernel
theorem dX5_mix_11 : decode cX5_mix 11 = .ok (.putfield 164, 3) := by decide +kernel
theorem dX5_mix_14 : decode cX5_mix 14 = .ok (.return_, 1) := by decide +kernel
theorem dX5_mixData_0 : decode cX5_mixData 0 = .ok (.iconst 0, 1) := by decide +kernel
theorem dX5_mixData_1 : decode cX5_mixData 1 = .ok (.istore_n 1, 1) := by decide +kernel
theorem dX5_mixData_2 : decode cX5_mixData 2 = .ok (.iload_n 1, 1) := by decide +kernel
theorem dX5_mixData_3 : decode cX5_mixData 3 = .ok (.aload_n 0, 1) := by decide +kernel
theorem dX5_mixData_4 : decode cX5_mixData 4 = .ok (.getfield 7, 3) := by decide +kernel
theorem dX5_mixData_7 : decode cX5_mixData 7 = .ok (.if_icmp .ge 47, 3) := by decide +kernel
theorem dX5_mixData_10 : decode cX5_mixData 10 = .ok (.aload_n 0, 1) := by decide +kernel
theorem dX5_mixData_11 : decode cX5_mixData 11 = .ok (.aload_n 0, 1) := by decide +kernel
theorem dX5_mixData_12 : decode cX5_mixData 12 = .ok (.iload_n 1, 1) := by decide +kernel
theorem dX5_mixData_13 : decode cX5_mixData 13 = .ok (.invokevirtual 105, 3) := by decide +kernel
theorem dX5_mixData_16 : decode cX5_mixData 16 = .ok (.ifCond .eq 7, 3) := by decide +kernel
theorem dX5_mixData_19 : decode cX5_mixData 19 = .ok (.lconst 1, 1) := by decide +kernel
theorem dX5_mixData_20 : decode cX5_mixData 20 = .ok (.goto 4, 3) := by decide +kernel
theorem dX5_mixData_23 : decode cX5_mixData 23 = .ok (.lconst 0, 1) := by decide +kernel
theorem dX5_mixData_24 : decode cX5_mixData 24 = .ok (.invokevirtual 167, 3) := by decide +kernel
theorem dX5_mixData_27 : decode cX5_mixData 27 = .ok (.aload_n 0, 1) := by decide +kernel
theorem dX5_mixData_28 : decode cX5_mixData 28 = .ok (.aload_n 0, 1) := by decide +kernel
theorem dX5_mixData_29 : decode cX5_mixData 29 = .ok (.iload_n 1, 1) := by decide +kernel
theorem dX5_mixData_30 : decode cX5_mixData 30 = .ok (.invokevirtual 108, 3) := by decide +kernel
theorem dX5_mixData_33 : decode cX5_mixData 33 = .ok (.i2l, 1) := by decide +kernel
theorem dX5_mixData_34 : decode cX5_mixData 34 = .ok (.invokevirtual 167, 3) := by decide +kernel
theorem dX5_mixData_37 : decode cX5_mixData 37 = .ok (.aload_n 0, 1) := by decide +kernel
theorem dX5_mixData_38 : decode cX5_mixData 38 = .ok (.aload_n 0, 1) := by decide +kernel
theorem dX5_mixData_39 : decode cX5_mixData 39 = .ok (.getfield 13, 3) := by decide +kernel
theorem dX5_mixData_42 : decode cX5_mixData 42 = .ok (.iload_n 1, 1) := by decide +kernel
theorem dX5_mixData_43 : decode cX5_mixData 43 = .ok (.iaload, 1) := by decide +kernel
theorem dX5_mixData_44 : decode cX5_mixData 44 = .ok (.i2l, 1) := by decide +kernel
theorem dX5_mixData_45 : decode cX5_mixData 45 = .ok (.invokevirtual 167, 3) := by decide +kernel
theorem dX5_mixData_48 : decode cX5_mixData 48 = .ok (.iinc 1 1, 3) := by decide +kernel
theorem dX5_mixData_51 : decode cX5_mixData 51 = .ok (.goto (-49), 3) := by decide +kernel
theorem dX5_mixData_54 : decode cX5_mixData 54 = .ok (.iconst 0, 1) := by decide +kernel
theorem dX5_mixData_55 : decode cX5_mixData 55 = .ok (.istore_n 1, 1) := by decide +kernel
theorem dX5_mixData_56 : decode cX5_mixData 56 = .ok (.iload_n 1, 1) := by decide +kernel
theorem dX5_mixData_57 : decode cX5_mixData 57 = .ok (.bipush 16, 2) := by decide +kernel
theorem dX5_mixData_59 : decode cX5_mixData 59 = .ok (.aload_n 0, 1) := by decide +kernel
theorem dX5_mixData_60 : decode cX5_mixData 60 = .ok (.getfield 46, 3) := by decide +kernel
theorem dX5_mixData_63 : decode cX5_mixData 63 = .ok (.imul, 1) := by decide +kernel
theorem dX5_mixData_64 : decode cX5_mixData 64 = .ok (.if_icmp .ge 31, 3) := by decide +kernel
theorem dX5_mixData_67 : decode cX5_mixData 67 = .ok (.iload_n 1, 1) := by decide +kernel
theorem dX5_mixData_68 : decode cX5_mixData 68 = .ok (.bipush 16, 2) := by decide +kernel
theorem dX5_mixData_70 : decode cX5_mixData 70 = .ok (.irem, 1) := by decide +kernel
theorem dX5_mixData_71 : decode cX5_mixData 71 = .ok (.aload_n 0, 1) := by decide +kernel
theorem dX5_mixData_72 : decode cX5_mixData 72 = .ok (.getfield 7, 3) := by decide +kernel
theorem dX5_mixData_75 : decode cX5_mixData 75 = .ok (.if_icmp .ge 14, 3) := by decide +kernel
theorem dX5_mixData_78 : decode cX5_mixData 78 = .ok (.aload_n 0, 1) := by decide +kernel
theorem dX5_mixData_79 : decode cX5_mixData 79 = .ok (.aload_n 0, 1) := by decide +kernel
theorem dX5_mixData_80 : decode cX5_mixData 80 = .ok (.getfield 17, 3) := by decide +kernel
theorem dX5_mixData_83 : decode cX5_mixData 83 = .ok (.iload_n 1, 1) := by decide +kernel
theorem dX5_mixData_84 : decode cX5_mixData 84 = .ok (.iaload, 1) := by decide +kernel
theorem dX5_mixData_85 : decode cX5_mixData 85 = .ok (.i2l, 1) := by decide +kernel
theorem dX5_mixData_86 : decode cX5_mixData 86 = .ok (.invokevirtual 167, 3) := by decide +kernel
theorem dX5_mixData_89 : decode cX5_mixData 89 = .ok (.iinc 1 1, 3) := by decide +kernel
theorem dX5_mixData_92 : decode cX5_mixData 92 = .ok (.goto (-36), 3) := by decide +kernel
theorem dX5_mixData_95 : decode cX5_mixData 95 = .ok (.iconst 0, 1) := by decide +kernel
theorem dX5_mixData_96 : decode cX5_mixData 96 = .ok (.istore_n 1, 1) := by decide +kernel
theorem dX5_mixData_97 : decode cX5_mixData 97 = .ok (.iload_n 1, 1) := by decide +kernel
theorem dX5_mixData_98 : decode cX5_mixData 98 = .ok (.aload_n 0, 1) := by decide +kernel
theorem dX5_mixData_99 : decode cX5_mixData 99 = .ok (.getfield 7, 3) := by decide +kernel
theorem dX5_mixData_102 : decode cX5_mixData 102 = .ok (.if_icmp .ge 48, 3) := by decide +kernel
theorem dX5_mixData_105 : decode cX5_mixData 105 = .ok (.aload_n 0, 1) := by decide +kernel
theorem dX5_mixData_106 : decode cX5_mixData 106 = .ok (.aload_n 0, 1) := by decide +kernel
theorem dX5_mixData_107 : decode cX5_mixData 107 = .ok (.iload_n 1, 1) := by decide +kernel
theorem dX5_mixData_108 : decode cX5_mixData 108 = .ok (.invokevirtual 93, 3) := by decide +kernel
theorem dX5_mixData_111 : decode cX5_mixData 111 = .ok (.i2l, 1) := by decide +kernel
theorem dX5_mixData_112 : decode cX5_mixData 112 = .ok (.invokevirtual 167, 3) := by decide +kernel
theorem dX5_mixData_115 : decode cX5_mixData 115 = .ok (.iconst 0, 1) := by decide +kernel
theorem dX5_mixData_116 : decode cX5_mixData 116 = .ok (.istore_n 2, 1) := by decide +kernel
theorem dX5_mixData_117 : decode cX5_mixData 117 = .ok (.iload_n 2, 1) := by decide +kernel
theorem dX5_mixData_118 : decode cX5_mixData 118 = .ok (.aload_n 0, 1) := by decide +kernel
theorem dX5_mixData_119 : decode cX5_mixData 119 = .ok (.iload_n 1, 1) := by decide +kernel
theorem dX5_mixData_120 : decode cX5_mixData 120 = .ok (.invokevirtual 111, 3) := by decide +kernel
theorem dX5_mixData_123 : decode cX5_mixData 123 = .ok (.if_icmp .ge 21, 3) := by decide +kernel
theorem dX5_mixData_126 : decode cX5_mixData 126 = .ok (.aload_n 0, 1) := by decide +kernel
theorem dX5_mixData_127 : decode cX5_mixData 127 = .ok (.aload_n 0, 1) := by decide +kernel
theorem dX5_mixData_128 : decode cX5_mixData 128 = .ok (.iload_n 1, 1) := by decide +kernel
theorem dX5_mixData_129 : decode cX5_mixData 129 = .ok (.iload_n 2, 1) := by decide +kernel
theorem dX5_mixData_130 : decode cX5_mixData 130 = .ok (.iconst 0, 1) := by decide +kernel
theorem dX5_mixData_131 : decode cX5_mixData 131 = .ok (.invokevirtual 117, 3) := by decide +kernel
theorem dX5_mixData_134 : decode cX5_mixData 134 = .ok (.i2l, 1) := by decide +kernel
theorem dX5_mixData_135 : decode cX5_mixData 135 = .ok (.invokevirtual 167, 3) := by decide +kernel
theorem dX5_mixData_138 : decode cX5_mixData 138 = .ok (.iinc 2 1, 3) := by decide +kernel
theorem dX5_mixData_141 : decode cX5_mixData 141 = .ok (.goto (-24), 3) := by decide +kernel
theorem dX5_mixData_144 : decode cX5_mixData 144 = .ok (.iinc 1 1, 3) := by decide +kernel
theorem dX5_mixData_147 : decode cX5_mixData 147 = .ok (.goto (-50), 3) := by decide +kernel
theorem dX5_mixData_150 : decode cX5_mixData 150 = .ok (.return_, 1) := by decide +kernel
theorem dX5_digest_0 : decode cX5_digest 0 = .ok (.aload_n 0, 1) := by decide +kernel
theorem dX5_digest_1 : decode cX5_digest 1 = .ok (.iconst 0, 1) := by decide +kernel
theorem dX5_digest_2 : decode cX5_digest 2 = .ok (.putfield 39, 3) := by decide +kernel
theorem dX5_digest_5 : decode cX5_digest 5 = .ok (.aload_n 0, 1) := by decide +kernel
theorem dX5_digest_6 : decode cX5_digest 6 = .ok (.ldc2_w 171, 3) := by decide +kernel
theorem dX5_digest_9 : decode cX5_digest 9 = .ok (.putfield 164, 3) := by decide +kernel
theorem dX5_digest_12 : decode cX5_digest 12 = .ok (.iconst 0, 1) := by decide +kernel
theorem dX5_digest_13 : decode cX5_digest 13 = .ok (.istore_n 1, 1) := by decide +kernel
theorem dX5_digest_14 : decode cX5_digest 14 = .ok (.iload_n 1, 1) := by decide +kernel
theorem dX5_digest_15 : decode cX5_digest 15 = .ok (.iconst 5, 1) := by decide +kernel
theorem dX5_digest_16 : decode cX5_digest 16 = .ok (.if_icmp .ge 19, 3) := by decide +kernel
theorem dX5_digest_19 : decode cX5_digest 19 = .ok (.aload_n 0, 1) := by decide +kernel
theorem dX5_digest_20 : decode cX5_digest 20 = .ok (.aload_n 0, 1) := by decide +kernel
theorem dX5_digest_21 : decode cX5_digest 21 = .ok (.iload_n 1, 1) := by decide +kernel
theorem dX5_digest_22 : decode cX5_digest 22 = .ok (.invokevirtual 102, 3) := by decide +kernel
theorem dX5_digest_25 : decode cX5_digest 25 = .ok (.i2l, 1) := by decide +kernel
theorem dX5_digest_26 : decode cX5_digest 26 = .ok (.invokevirtual 167, 3) := by decide +kernel
theorem dX5_digest_29 : decode cX5_digest 29 = .ok (.iinc 1 1, 3) := by decide +kernel
theorem dX5_digest_32 : decode cX5_digest 32 = .ok (.goto (-18), 3) := by decide +kernel
theorem dX5_digest_35 : decode cX5_digest 35 = .ok (.aload_n 0, 1) := by decide +kernel
theorem dX5_digest_36 : decode cX5_digest 36 = .ok (.invokevirtual 173, 3) := by decide +kernel
theorem dX5_digest_39 : decode cX5_digest 39 = .ok (.iconst 0, 1) := by decide +kernel
theorem dX5_digest_40 : decode cX5_digest 40 = .ok (.istore_n 1, 1) := by decide +kernel
theorem dX5_digest_41 : decode cX5_digest 41 = .ok (.iload_n 1, 1) := by decide +kernel
theorem dX5_digest_42 : decode cX5_digest 42 = .ok (.iconst 5, 1) := by decide +kernel
theorem dX5_digest_43 : decode cX5_digest 43 = .ok (.aload_n 0, 1) := by decide +kernel
theorem dX5_digest_44 : decode cX5_digest 44 = .ok (.getfield 55, 3) := by decide +kernel
theorem dX5_digest_47 : decode cX5_digest 47 = .ok (.imul, 1) := by decide +kernel
theorem dX5_digest_48 : decode cX5_digest 48 = .ok (.if_icmp .ge 23, 3) := by decide +kernel
theorem dX5_digest_51 : decode cX5_digest 51 = .ok (.aload_n 0, 1) := by decide +kernel
theorem dX5_digest_52 : decode cX5_digest 52 = .ok (.aload_n 0, 1) := by decide +kernel
theorem dX5_digest_53 : decode cX5_digest 53 = .ok (.iload_n 1, 1) := by decide +kernel
theorem dX5_digest_54 : decode cX5_digest 54 = .ok (.iconst 5, 1) := by decide +kernel
theorem dX5_digest_55 : decode cX5_digest 55 = .ok (.idiv, 1) := by decide +kernel
theorem dX5_digest_56 : decode cX5_digest 56 = .ok (.iload_n 1, 1) := by decide +kernel
theorem dX5_digest_57 : decode cX5_digest 57 = .ok (.iconst 5, 1) := by decide +kernel
theorem dX5_digest_58 : decode cX5_digest 58 = .ok (.irem, 1) := by decide +kernel
theorem dX5_digest_59 : decode cX5_digest 59 = .ok (.invokevirtual 159, 3) := by decide +kernel
theorem dX5_digest_62 : decode cX5_digest 62 = .ok (.invokevirtual 167, 3) := by decide +kernel
theorem dX5_digest_65 : decode cX5_digest 65 = .ok (.iinc 1 1, 3) := by decide +kernel
theorem dX5_digest_68 : decode cX5_digest 68 = .ok (.goto (-27), 3) := by decide +kernel
theorem dX5_digest_71 : decode cX5_digest 71 = .ok (.aload_n 0, 1) := by decide +kernel
theorem dX5_digest_72 : decode cX5_digest 72 = .ok (.aload_n 0, 1) := by decide +kernel
theorem dX5_digest_73 : decode cX5_digest 73 = .ok (.getfield 68, 3) := by decide +kernel
theorem dX5_digest_76 : decode cX5_digest 76 = .ok (.i2l, 1) := by decide +kernel
theorem dX5_digest_77 : decode cX5_digest 77 = .ok (.invokevirtual 167, 3) := by decide +kernel
theorem dX5_digest_80 : decode cX5_digest 80 = .ok (.iconst 0, 1) := by decide +kernel
theorem dX5_digest_81 : decode cX5_digest 81 = .ok (.istore_n 1, 1) := by decide +kernel
theorem dX5_digest_82 : decode cX5_digest 82 = .ok (.iload_n 1, 1) := by decide +kernel
theorem dX5_digest_83 : decode cX5_digest 83 = .ok (.aload_n 0, 1) := by decide +kernel
theorem dX5_digest_84 : decode cX5_digest 84 = .ok (.getfield 68, 3) := by decide +kernel
theorem dX5_digest_87 : decode cX5_digest 87 = .ok (.if_icmp .ge 20, 3) := by decide +kernel
theorem dX5_digest_90 : decode cX5_digest 90 = .ok (.aload_n 0, 1) := by decide +kernel
theorem dX5_digest_91 : decode cX5_digest 91 = .ok (.aload_n 0, 1) := by decide +kernel
theorem dX5_digest_92 : decode cX5_digest 92 = .ok (.getfield 20, 3) := by decide +kernel
theorem dX5_digest_95 : decode cX5_digest 95 = .ok (.iload_n 1, 1) := by decide +kernel
theorem dX5_digest_96 : decode cX5_digest 96 = .ok (.iaload, 1) := by decide +kernel
theorem dX5_digest_97 : decode cX5_digest 97 = .ok (.i2l, 1) := by decide +kernel
theorem dX5_digest_98 : decode cX5_digest 98 = .ok (.invokevirtual 167, 3) := by decide +kernel
theorem dX5_digest_101 : decode cX5_digest 101 = .ok (.iinc 1 1, 3) := by decide +kernel
theorem dX5_digest_104 : decode cX5_digest 104 = .ok (.goto (-22), 3) := by decide +kernel
theorem dX5_digest_107 : decode cX5_digest 107 = .ok (.aload_n 0, 1) := by decide +kernel
theorem dX5_digest_108 : decode cX5_digest 108 = .ok (.getfield 164, 3) := by decide +kernel
theorem dX5_digest_111 : decode cX5_digest 111 = .ok (.lreturn, 1) := by decide +kernel
