/-! decode rows of the law: its small methods -/
theorem dL_flight_0 : decode cL_flight 0 = .ok (.aload_n 3, 1) := by decide +kernel
theorem dL_flight_1 : decode cL_flight 1 = .ok (.iconst 0, 1) := by decide +kernel
theorem dL_flight_2 : decode cL_flight 2 = .ok (.aload_n 0, 1) := by decide +kernel
theorem dL_flight_3 : decode cL_flight 3 = .ok (.iload_n 1, 1) := by decide +kernel
theorem dL_flight_4 : decode cL_flight 4 = .ok (.iload_n 2, 1) := by decide +kernel
theorem dL_flight_5 : decode cL_flight 5 = .ok (.invokevirtual 7, 3) := by decide +kernel
theorem dL_flight_8 : decode cL_flight 8 = .ok (.i2l, 1) := by decide +kernel
theorem dL_flight_9 : decode cL_flight 9 = .ok (.lastore, 1) := by decide +kernel
theorem dL_flight_10 : decode cL_flight 10 = .ok (.goto 15, 3) := by decide +kernel
theorem dL_flight_13 : decode cL_flight 13 = .ok (.astore 4, 2) := by decide +kernel
theorem dL_flight_15 : decode cL_flight 15 = .ok (.iconst 1, 1) := by decide +kernel
theorem dL_flight_16 : decode cL_flight 16 = .ok (.ireturn, 1) := by decide +kernel
theorem dL_flight_17 : decode cL_flight 17 = .ok (.astore 4, 2) := by decide +kernel
theorem dL_flight_19 : decode cL_flight 19 = .ok (.iconst 2, 1) := by decide +kernel
theorem dL_flight_20 : decode cL_flight 20 = .ok (.ireturn, 1) := by decide +kernel
theorem dL_flight_21 : decode cL_flight 21 = .ok (.astore 4, 2) := by decide +kernel
theorem dL_flight_23 : decode cL_flight 23 = .ok (.iconst 3, 1) := by decide +kernel
theorem dL_flight_24 : decode cL_flight 24 = .ok (.ireturn, 1) := by decide +kernel
theorem dL_flight_25 : decode cL_flight 25 = .ok (.iconst 0, 1) := by decide +kernel
theorem dL_flight_26 : decode cL_flight 26 = .ok (.ireturn, 1) := by decide +kernel
theorem dL_entry_0 : decode cL_entry 0 = .ok (.aload 5, 2) := by decide +kernel
theorem dL_entry_2 : decode cL_entry 2 = .ok (.iconst 0, 1) := by decide +kernel
theorem dL_entry_3 : decode cL_entry 3 = .ok (.aload_n 0, 1) := by decide +kernel
theorem dL_entry_4 : decode cL_entry 4 = .ok (.iload_n 1, 1) := by decide +kernel
theorem dL_entry_5 : decode cL_entry 5 = .ok (.iload_n 2, 1) := by decide +kernel
theorem dL_entry_6 : decode cL_entry 6 = .ok (.iload_n 3, 1) := by decide +kernel
theorem dL_entry_7 : decode cL_entry 7 = .ok (.iload 4, 2) := by decide +kernel
theorem dL_entry_9 : decode cL_entry 9 = .ok (.invokevirtual 19, 3) := by decide +kernel
theorem dL_entry_12 : decode cL_entry 12 = .ok (.i2l, 1) := by decide +kernel
theorem dL_entry_13 : decode cL_entry 13 = .ok (.lastore, 1) := by decide +kernel
theorem dL_entry_14 : decode cL_entry 14 = .ok (.goto 15, 3) := by decide +kernel
theorem dL_entry_17 : decode cL_entry 17 = .ok (.astore 6, 2) := by decide +kernel
theorem dL_entry_19 : decode cL_entry 19 = .ok (.iconst 1, 1) := by decide +kernel
theorem dL_entry_20 : decode cL_entry 20 = .ok (.ireturn, 1) := by decide +kernel
theorem dL_entry_21 : decode cL_entry 21 = .ok (.astore 6, 2) := by decide +kernel
theorem dL_entry_23 : decode cL_entry 23 = .ok (.iconst 2, 1) := by decide +kernel
theorem dL_entry_24 : decode cL_entry 24 = .ok (.ireturn, 1) := by decide +kernel
theorem dL_entry_25 : decode cL_entry 25 = .ok (.astore 6, 2) := by decide +kernel
theorem dL_entry_27 : decode cL_entry 27 = .ok (.iconst 3, 1) := by decide +kernel
theorem dL_entry_28 : decode cL_entry 28 = .ok (.ireturn, 1) := by decide +kernel
theorem dL_entry_29 : decode cL_entry 29 = .ok (.iconst 0, 1) := by decide +kernel
theorem dL_entry_30 : decode cL_entry 30 = .ok (.ireturn, 1) := by decide +kernel
theorem dL_exempt_0 : decode cL_exempt 0 = .ok (.aload_n 3, 1) := by decide +kernel
theorem dL_exempt_1 : decode cL_exempt 1 = .ok (.iconst 0, 1) := by decide +kernel
theorem dL_exempt_2 : decode cL_exempt 2 = .ok (.aload_n 0, 1) := by decide +kernel
theorem dL_exempt_3 : decode cL_exempt 3 = .ok (.iload_n 1, 1) := by decide +kernel
theorem dL_exempt_4 : decode cL_exempt 4 = .ok (.iload_n 2, 1) := by decide +kernel
theorem dL_exempt_5 : decode cL_exempt 5 = .ok (.invokevirtual 23, 3) := by decide +kernel
theorem dL_exempt_8 : decode cL_exempt 8 = .ok (.ifCond .eq 7, 3) := by decide +kernel
theorem dL_exempt_11 : decode cL_exempt 11 = .ok (.lconst 1, 1) := by decide +kernel
theorem dL_exempt_12 : decode cL_exempt 12 = .ok (.goto 4, 3) := by decide +kernel
theorem dL_exempt_15 : decode cL_exempt 15 = .ok (.lconst 0, 1) := by decide +kernel
theorem dL_exempt_16 : decode cL_exempt 16 = .ok (.lastore, 1) := by decide +kernel
theorem dL_exempt_17 : decode cL_exempt 17 = .ok (.goto 11, 3) := by decide +kernel
theorem dL_exempt_20 : decode cL_exempt 20 = .ok (.astore 4, 2) := by decide +kernel
theorem dL_exempt_22 : decode cL_exempt 22 = .ok (.iconst 1, 1) := by decide +kernel
theorem dL_exempt_23 : decode cL_exempt 23 = .ok (.ireturn, 1) := by decide +kernel
theorem dL_exempt_24 : decode cL_exempt 24 = .ok (.astore 4, 2) := by decide +kernel
theorem dL_exempt_26 : decode cL_exempt 26 = .ok (.iconst 2, 1) := by decide +kernel
theorem dL_exempt_27 : decode cL_exempt 27 = .ok (.ireturn, 1) := by decide +kernel
theorem dL_exempt_28 : decode cL_exempt 28 = .ok (.iconst 0, 1) := by decide +kernel
theorem dL_exempt_29 : decode cL_exempt 29 = .ok (.ireturn, 1) := by decide +kernel
theorem dL_flightIs_0 : decode cL_flightIs 0 = .ok (.aload_n 3, 1) := by decide +kernel
theorem dL_flightIs_1 : decode cL_flightIs 1 = .ok (.iconst 0, 1) := by decide +kernel
theorem dL_flightIs_2 : decode cL_flightIs 2 = .ok (.aload_n 0, 1) := by decide +kernel
theorem dL_flightIs_3 : decode cL_flightIs 3 = .ok (.iload_n 1, 1) := by decide +kernel
theorem dL_flightIs_4 : decode cL_flightIs 4 = .ok (.iload_n 2, 1) := by decide +kernel
theorem dL_flightIs_5 : decode cL_flightIs 5 = .ok (.invokevirtual 27, 3) := by decide +kernel
theorem dL_flightIs_8 : decode cL_flightIs 8 = .ok (.i2l, 1) := by decide +kernel
theorem dL_flightIs_9 : decode cL_flightIs 9 = .ok (.lastore, 1) := by decide +kernel
theorem dL_flightIs_10 : decode cL_flightIs 10 = .ok (.goto 11, 3) := by decide +kernel
theorem dL_flightIs_13 : decode cL_flightIs 13 = .ok (.astore 4, 2) := by decide +kernel
theorem dL_flightIs_15 : decode cL_flightIs 15 = .ok (.iconst 1, 1) := by decide +kernel
theorem dL_flightIs_16 : decode cL_flightIs 16 = .ok (.ireturn, 1) := by decide +kernel
theorem dL_flightIs_17 : decode cL_flightIs 17 = .ok (.astore 4, 2) := by decide +kernel
theorem dL_flightIs_19 : decode cL_flightIs 19 = .ok (.iconst 2, 1) := by decide +kernel
theorem dL_flightIs_20 : decode cL_flightIs 20 = .ok (.ireturn, 1) := by decide +kernel
theorem dL_flightIs_21 : decode cL_flightIs 21 = .ok (.iconst 0, 1) := by decide +kernel
theorem dL_flightIs_22 : decode cL_flightIs 22 = .ok (.ireturn, 1) := by decide +kernel
theorem dL_over_0 : decode cL_over 0 = .ok (.aload_n 3, 1) := by decide +kernel
theorem dL_over_1 : decode cL_over 1 = .ok (.iconst 0, 1) := by decide +kernel
theorem dL_over_2 : decode cL_over 2 = .ok (.aload_n 0, 1) := by decide +kernel
theorem dL_over_3 : decode cL_over 3 = .ok (.iload_n 1, 1) := by decide +kernel
theorem dL_over_4 : decode cL_over 4 = .ok (.iload_n 2, 1) := by decide +kernel
theorem dL_over_5 : decode cL_over 5 = .ok (.invokevirtual 30, 3) := by decide +kernel
theorem dL_over_8 : decode cL_over 8 = .ok (.i2l, 1) := by decide +kernel
theorem dL_over_9 : decode cL_over 9 = .ok (.lastore, 1) := by decide +kernel
theorem dL_over_10 : decode cL_over 10 = .ok (.goto 7, 3) := by decide +kernel
theorem dL_over_13 : decode cL_over 13 = .ok (.astore 4, 2) := by decide +kernel
theorem dL_over_15 : decode cL_over 15 = .ok (.iconst 1, 1) := by decide +kernel
theorem dL_over_16 : decode cL_over 16 = .ok (.ireturn, 1) := by decide +kernel
theorem dL_over_17 : decode cL_over 17 = .ok (.iconst 0, 1) := by decide +kernel
theorem dL_over_18 : decode cL_over 18 = .ok (.ireturn, 1) := by decide +kernel
theorem dL_load_0 : decode cL_load 0 = .ok (.aload 4, 2) := by decide +kernel
theorem dL_load_2 : decode cL_load 2 = .ok (.iconst 0, 1) := by decide +kernel
theorem dL_load_3 : decode cL_load 3 = .ok (.aload_n 0, 1) := by decide +kernel
theorem dL_load_4 : decode cL_load 4 = .ok (.iload_n 1, 1) := by decide +kernel
theorem dL_load_5 : decode cL_load 5 = .ok (.iload_n 2, 1) := by decide +kernel
theorem dL_load_6 : decode cL_load 6 = .ok (.iload_n 3, 1) := by decide +kernel
theorem dL_load_7 : decode cL_load 7 = .ok (.invokevirtual 33, 3) := by decide +kernel
theorem dL_load_10 : decode cL_load 10 = .ok (.i2l, 1) := by decide +kernel
theorem dL_load_11 : decode cL_load 11 = .ok (.lastore, 1) := by decide +kernel
theorem dL_load_12 : decode cL_load 12 = .ok (.goto 11, 3) := by decide +kernel
theorem dL_load_15 : decode cL_load 15 = .ok (.astore 5, 2) := by decide +kernel
theorem dL_load_17 : decode cL_load 17 = .ok (.iconst 1, 1) := by decide +kernel
theorem dL_load_18 : decode cL_load 18 = .ok (.ireturn, 1) := by decide +kernel
theorem dL_load_19 : decode cL_load 19 = .ok (.astore 5, 2) := by decide +kernel
theorem dL_load_21 : decode cL_load 21 = .ok (.iconst 2, 1) := by decide +kernel
theorem dL_load_22 : decode cL_load 22 = .ok (.ireturn, 1) := by decide +kernel
theorem dL_load_23 : decode cL_load 23 = .ok (.iconst 0, 1) := by decide +kernel
theorem dL_load_24 : decode cL_load 24 = .ok (.ireturn, 1) := by decide +kernel
theorem dL_inside_0 : decode cL_inside 0 = .ok (.aload_n 3, 1) := by decide +kernel
theorem dL_inside_1 : decode cL_inside 1 = .ok (.iconst 0, 1) := by decide +kernel
theorem dL_inside_2 : decode cL_inside 2 = .ok (.aload_n 0, 1) := by decide +kernel
theorem dL_inside_3 : decode cL_inside 3 = .ok (.iload_n 1, 1) := by decide +kernel
theorem dL_inside_4 : decode cL_inside 4 = .ok (.iload_n 2, 1) := by decide +kernel
theorem dL_inside_5 : decode cL_inside 5 = .ok (.invokevirtual 37, 3) := by decide +kernel
theorem dL_inside_8 : decode cL_inside 8 = .ok (.i2l, 1) := by decide +kernel
theorem dL_inside_9 : decode cL_inside 9 = .ok (.lastore, 1) := by decide +kernel
theorem dL_inside_10 : decode cL_inside 10 = .ok (.goto 11, 3) := by decide +kernel
theorem dL_inside_13 : decode cL_inside 13 = .ok (.astore 4, 2) := by decide +kernel
theorem dL_inside_15 : decode cL_inside 15 = .ok (.iconst 1, 1) := by decide +kernel
theorem dL_inside_16 : decode cL_inside 16 = .ok (.ireturn, 1) := by decide +kernel
theorem dL_inside_17 : decode cL_inside 17 = .ok (.astore 4, 2) := by decide +kernel
theorem dL_inside_19 : decode cL_inside 19 = .ok (.iconst 2, 1) := by decide +kernel
theorem dL_inside_20 : decode cL_inside 20 = .ok (.ireturn, 1) := by decide +kernel
theorem dL_inside_21 : decode cL_inside 21 = .ok (.iconst 0, 1) := by decide +kernel
theorem dL_inside_22 : decode cL_inside 22 = .ok (.ireturn, 1) := by decide +kernel
theorem dL_peak_0 : decode cL_peak 0 = .ok (.aload_n 3, 1) := by decide +kernel
theorem dL_peak_1 : decode cL_peak 1 = .ok (.iconst 0, 1) := by decide +kernel
theorem dL_peak_2 : decode cL_peak 2 = .ok (.aload_n 0, 1) := by decide +kernel
theorem dL_peak_3 : decode cL_peak 3 = .ok (.iload_n 1, 1) := by decide +kernel
theorem dL_peak_4 : decode cL_peak 4 = .ok (.iload_n 2, 1) := by decide +kernel
theorem dL_peak_5 : decode cL_peak 5 = .ok (.invokevirtual 40, 3) := by decide +kernel
theorem dL_peak_8 : decode cL_peak 8 = .ok (.i2l, 1) := by decide +kernel
theorem dL_peak_9 : decode cL_peak 9 = .ok (.lastore, 1) := by decide +kernel
theorem dL_peak_10 : decode cL_peak 10 = .ok (.goto 11, 3) := by decide +kernel
theorem dL_peak_13 : decode cL_peak 13 = .ok (.astore 4, 2) := by decide +kernel
theorem dL_peak_15 : decode cL_peak 15 = .ok (.iconst 1, 1) := by decide +kernel
theorem dL_peak_16 : decode cL_peak 16 = .ok (.ireturn, 1) := by decide +kernel
theorem dL_peak_17 : decode cL_peak 17 = .ok (.astore 4, 2) := by decide +kernel
theorem dL_peak_19 : decode cL_peak 19 = .ok (.iconst 2, 1) := by decide +kernel
theorem dL_peak_20 : decode cL_peak 20 = .ok (.ireturn, 1) := by decide +kernel
theorem dL_peak_21 : decode cL_peak 21 = .ok (.iconst 0, 1) := by decide +kernel
theorem dL_peak_22 : decode cL_peak 22 = .ok (.ireturn, 1) := by decide +kernel
theorem dL_peakAnew_0 : decode cL_peakAnew 0 = .ok (.aload_n 3, 1) := by decide +kernel
theorem dL_peakAnew_1 : decode cL_peakAnew 1 = .ok (.iconst 0, 1) := by decide +kernel
theorem dL_peakAnew_2 : decode cL_peakAnew 2 = .ok (.aload_n 0, 1) := by decide +kernel
theorem dL_peakAnew_3 : decode cL_peakAnew 3 = .ok (.iload_n 1, 1) := by decide +kernel
theorem dL_peakAnew_4 : decode cL_peakAnew 4 = .ok (.iload_n 2, 1) := by decide +kernel
theorem dL_peakAnew_5 : decode cL_peakAnew 5 = .ok (.invokevirtual 43, 3) := by decide +kernel
theorem dL_peakAnew_8 : decode cL_peakAnew 8 = .ok (.i2l, 1) := by decide +kernel
theorem dL_peakAnew_9 : decode cL_peakAnew 9 = .ok (.lastore, 1) := by decide +kernel
theorem dL_peakAnew_10 : decode cL_peakAnew 10 = .ok (.goto 11, 3) := by decide +kernel
theorem dL_peakAnew_13 : decode cL_peakAnew 13 = .ok (.astore 4, 2) := by decide +kernel
theorem dL_peakAnew_15 : decode cL_peakAnew 15 = .ok (.iconst 1, 1) := by decide +kernel
theorem dL_peakAnew_16 : decode cL_peakAnew 16 = .ok (.ireturn, 1) := by decide +kernel
theorem dL_peakAnew_17 : decode cL_peakAnew 17 = .ok (.astore 4, 2) := by decide +kernel
theorem dL_peakAnew_19 : decode cL_peakAnew 19 = .ok (.iconst 2, 1) := by decide +kernel
theorem dL_peakAnew_20 : decode cL_peakAnew 20 = .ok (.ireturn, 1) := by decide +kernel
theorem dL_peakAnew_21 : decode cL_peakAnew 21 = .ok (.iconst 0, 1) := by decide +kernel
theorem dL_peakAnew_22 : decode cL_peakAnew 22 = .ok (.ireturn, 1) := by decide +kernel
theorem dL_regulation_0 : decode cL_regulation 0 = .ok (.aload 5, 2) := by decide +kernel
theorem dL_regulation_2 : decode cL_regulation 2 = .ok (.iconst 0, 1) := by decide +kernel
theorem dL_regulation_3 : decode cL_regulation 3 = .ok (.aload_n 0, 1) := by decide +kernel
theorem dL_regulation_4 : decode cL_regulation 4 = .ok (.iload_n 1, 1) := by decide +kernel
theorem dL_regulation_5 : decode cL_regulation 5 = .ok (.iload_n 2, 1) := by decide +kernel
theorem dL_regulation_6 : decode cL_regulation 6 = .ok (.iload_n 3, 1) := by decide +kernel
theorem dL_regulation_7 : decode cL_regulation 7 = .ok (.iload 4, 2) := by decide +kernel
theorem dL_regulation_9 : decode cL_regulation 9 = .ok (.invokevirtual 46, 3) := by decide +kernel
theorem dL_regulation_12 : decode cL_regulation 12 = .ok (.i2l, 1) := by decide +kernel
theorem dL_regulation_13 : decode cL_regulation 13 = .ok (.lastore, 1) := by decide +kernel
theorem dL_regulation_14 : decode cL_regulation 14 = .ok (.goto 15, 3) := by decide +kernel
theorem dL_regulation_17 : decode cL_regulation 17 = .ok (.astore 6, 2) := by decide +kernel
theorem dL_regulation_19 : decode cL_regulation 19 = .ok (.iconst 1, 1) := by decide +kernel
theorem dL_regulation_20 : decode cL_regulation 20 = .ok (.ireturn, 1) := by decide +kernel
theorem dL_regulation_21 : decode cL_regulation 21 = .ok (.astore 6, 2) := by decide +kernel
theorem dL_regulation_23 : decode cL_regulation 23 = .ok (.iconst 2, 1) := by decide +kernel
theorem dL_regulation_24 : decode cL_regulation 24 = .ok (.ireturn, 1) := by decide +kernel
theorem dL_regulation_25 : decode cL_regulation 25 = .ok (.astore 6, 2) := by decide +kernel
theorem dL_regulation_27 : decode cL_regulation 27 = .ok (.iconst 3, 1) := by decide +kernel
theorem dL_regulation_28 : decode cL_regulation 28 = .ok (.ireturn, 1) := by decide +kernel
theorem dL_regulation_29 : decode cL_regulation 29 = .ok (.iconst 0, 1) := by decide +kernel
theorem dL_regulation_30 : decode cL_regulation 30 = .ok (.ireturn, 1) := by decide +kernel
theorem dL_rate_0 : decode cL_rate 0 = .ok (.aload_n 3, 1) := by decide +kernel
theorem dL_rate_1 : decode cL_rate 1 = .ok (.iconst 0, 1) := by decide +kernel
theorem dL_rate_2 : decode cL_rate 2 = .ok (.aload_n 0, 1) := by decide +kernel
theorem dL_rate_3 : decode cL_rate 3 = .ok (.iload_n 1, 1) := by decide +kernel
theorem dL_rate_4 : decode cL_rate 4 = .ok (.iload_n 2, 1) := by decide +kernel
theorem dL_rate_5 : decode cL_rate 5 = .ok (.invokevirtual 49, 3) := by decide +kernel
theorem dL_rate_8 : decode cL_rate 8 = .ok (.i2l, 1) := by decide +kernel
theorem dL_rate_9 : decode cL_rate 9 = .ok (.lastore, 1) := by decide +kernel
theorem dL_rate_10 : decode cL_rate 10 = .ok (.goto 15, 3) := by decide +kernel
theorem dL_rate_13 : decode cL_rate 13 = .ok (.astore 4, 2) := by decide +kernel
theorem dL_rate_15 : decode cL_rate 15 = .ok (.iconst 1, 1) := by decide +kernel
theorem dL_rate_16 : decode cL_rate 16 = .ok (.ireturn, 1) := by decide +kernel
theorem dL_rate_17 : decode cL_rate 17 = .ok (.astore 4, 2) := by decide +kernel
theorem dL_rate_19 : decode cL_rate 19 = .ok (.iconst 2, 1) := by decide +kernel
theorem dL_rate_20 : decode cL_rate 20 = .ok (.ireturn, 1) := by decide +kernel
theorem dL_rate_21 : decode cL_rate 21 = .ok (.astore 4, 2) := by decide +kernel
theorem dL_rate_23 : decode cL_rate 23 = .ok (.iconst 3, 1) := by decide +kernel
theorem dL_rate_24 : decode cL_rate 24 = .ok (.ireturn, 1) := by decide +kernel
theorem dL_rate_25 : decode cL_rate 25 = .ok (.iconst 0, 1) := by decide +kernel
theorem dL_rate_26 : decode cL_rate 26 = .ok (.ireturn, 1) := by decide +kernel
theorem dL_end_0 : decode cL_end 0 = .ok (.aload_n 0, 1) := by decide +kernel
theorem dL_end_1 : decode cL_end 1 = .ok (.iload_n 1, 1) := by decide +kernel
theorem dL_end_2 : decode cL_end 2 = .ok (.invokevirtual 52, 3) := by decide +kernel
theorem dL_end_5 : decode cL_end 5 = .ok (.goto 9, 3) := by decide +kernel
theorem dL_end_8 : decode cL_end 8 = .ok (.astore_n 2, 1) := by decide +kernel
theorem dL_end_9 : decode cL_end 9 = .ok (.iconst 1, 1) := by decide +kernel
theorem dL_end_10 : decode cL_end 10 = .ok (.ireturn, 1) := by decide +kernel
theorem dL_end_11 : decode cL_end 11 = .ok (.astore_n 2, 1) := by decide +kernel
theorem dL_end_12 : decode cL_end 12 = .ok (.iconst 2, 1) := by decide +kernel
theorem dL_end_13 : decode cL_end 13 = .ok (.ireturn, 1) := by decide +kernel
theorem dL_end_14 : decode cL_end 14 = .ok (.iconst 0, 1) := by decide +kernel
theorem dL_end_15 : decode cL_end 15 = .ok (.ireturn, 1) := by decide +kernel
theorem dL_regulationIs_0 : decode cL_regulationIs 0 = .ok (.aload_n 3, 1) := by decide +kernel
theorem dL_regulationIs_1 : decode cL_regulationIs 1 = .ok (.iconst 0, 1) := by decide +kernel
theorem dL_regulationIs_2 : decode cL_regulationIs 2 = .ok (.aload_n 0, 1) := by decide +kernel
theorem dL_regulationIs_3 : decode cL_regulationIs 3 = .ok (.iload_n 1, 1) := by decide +kernel
theorem dL_regulationIs_4 : decode cL_regulationIs 4 = .ok (.iload_n 2, 1) := by decide +kernel
theorem dL_regulationIs_5 : decode cL_regulationIs 5 = .ok (.invokevirtual 56, 3) := by decide +kernel
theorem dL_regulationIs_8 : decode cL_regulationIs 8 = .ok (.i2l, 1) := by decide +kernel
theorem dL_regulationIs_9 : decode cL_regulationIs 9 = .ok (.lastore, 1) := by decide +kernel
theorem dL_regulationIs_10 : decode cL_regulationIs 10 = .ok (.goto 11, 3) := by decide +kernel
theorem dL_regulationIs_13 : decode cL_regulationIs 13 = .ok (.astore 4, 2) := by decide +kernel
theorem dL_regulationIs_15 : decode cL_regulationIs 15 = .ok (.iconst 1, 1) := by decide +kernel
theorem dL_regulationIs_16 : decode cL_regulationIs 16 = .ok (.ireturn, 1) := by decide +kernel
theorem dL_regulationIs_17 : decode cL_regulationIs 17 = .ok (.astore 4, 2) := by decide +kernel
theorem dL_regulationIs_19 : decode cL_regulationIs 19 = .ok (.iconst 2, 1) := by decide +kernel
theorem dL_regulationIs_20 : decode cL_regulationIs 20 = .ok (.ireturn, 1) := by decide +kernel
theorem dL_regulationIs_21 : decode cL_regulationIs 21 = .ok (.iconst 0, 1) := by decide +kernel
theorem dL_regulationIs_22 : decode cL_regulationIs 22 = .ok (.ireturn, 1) := by decide +kernel
theorem dL_slot_0 : decode cL_slot 0 = .ok (.aload_n 3, 1) := by decide +kernel
theorem dL_slot_1 : decode cL_slot 1 = .ok (.iconst 0, 1) := by decide +kernel
theorem dL_slot_2 : decode cL_slot 2 = .ok (.aload_n 0, 1) := by decide +kernel
theorem dL_slot_3 : decode cL_slot 3 = .ok (.iload_n 1, 1) := by decide +kernel
theorem dL_slot_4 : decode cL_slot 4 = .ok (.iload_n 2, 1) := by decide +kernel
theorem dL_slot_5 : decode cL_slot 5 = .ok (.invokevirtual 59, 3) := by decide +kernel
theorem dL_slot_8 : decode cL_slot 8 = .ok (.i2l, 1) := by decide +kernel
theorem dL_slot_9 : decode cL_slot 9 = .ok (.lastore, 1) := by decide +kernel
theorem dL_slot_10 : decode cL_slot 10 = .ok (.goto 7, 3) := by decide +kernel
theorem dL_slot_13 : decode cL_slot 13 = .ok (.astore 4, 2) := by decide +kernel
theorem dL_slot_15 : decode cL_slot 15 = .ok (.iconst 1, 1) := by decide +kernel
theorem dL_slot_16 : decode cL_slot 16 = .ok (.ireturn, 1) := by decide +kernel
theorem dL_slot_17 : decode cL_slot 17 = .ok (.iconst 0, 1) := by decide +kernel
theorem dL_slot_18 : decode cL_slot 18 = .ok (.ireturn, 1) := by decide +kernel
theorem dL_penalty_0 : decode cL_penalty 0 = .ok (.aload_n 3, 1) := by decide +kernel
theorem dL_penalty_1 : decode cL_penalty 1 = .ok (.iconst 0, 1) := by decide +kernel
theorem dL_penalty_2 : decode cL_penalty 2 = .ok (.aload_n 0, 1) := by decide +kernel
theorem dL_penalty_3 : decode cL_penalty 3 = .ok (.iload_n 1, 1) := by decide +kernel
theorem dL_penalty_4 : decode cL_penalty 4 = .ok (.iload_n 2, 1) := by decide +kernel
theorem dL_penalty_5 : decode cL_penalty 5 = .ok (.invokevirtual 62, 3) := by decide +kernel
theorem dL_penalty_8 : decode cL_penalty 8 = .ok (.i2l, 1) := by decide +kernel
theorem dL_penalty_9 : decode cL_penalty 9 = .ok (.lastore, 1) := by decide +kernel
theorem dL_penalty_10 : decode cL_penalty 10 = .ok (.goto 7, 3) := by decide +kernel
theorem dL_penalty_13 : decode cL_penalty 13 = .ok (.astore 4, 2) := by decide +kernel
theorem dL_penalty_15 : decode cL_penalty 15 = .ok (.iconst 1, 1) := by decide +kernel
theorem dL_penalty_16 : decode cL_penalty 16 = .ok (.ireturn, 1) := by decide +kernel
theorem dL_penalty_17 : decode cL_penalty 17 = .ok (.iconst 0, 1) := by decide +kernel
theorem dL_penalty_18 : decode cL_penalty 18 = .ok (.ireturn, 1) := by decide +kernel
theorem dL_due_0 : decode cL_due 0 = .ok (.aload_n 2, 1) := by decide +kernel
theorem dL_due_1 : decode cL_due 1 = .ok (.iconst 0, 1) := by decide +kernel
theorem dL_due_2 : decode cL_due 2 = .ok (.aload_n 0, 1) := by decide +kernel
theorem dL_due_3 : decode cL_due 3 = .ok (.iload_n 1, 1) := by decide +kernel
theorem dL_due_4 : decode cL_due 4 = .ok (.invokevirtual 65, 3) := by decide +kernel
theorem dL_due_7 : decode cL_due 7 = .ok (.i2l, 1) := by decide +kernel
theorem dL_due_8 : decode cL_due 8 = .ok (.lastore, 1) := by decide +kernel
theorem dL_due_9 : decode cL_due 9 = .ok (.goto 6, 3) := by decide +kernel
theorem dL_due_12 : decode cL_due 12 = .ok (.astore_n 3, 1) := by decide +kernel
theorem dL_due_13 : decode cL_due 13 = .ok (.iconst 1, 1) := by decide +kernel
theorem dL_due_14 : decode cL_due 14 = .ok (.ireturn, 1) := by decide +kernel
theorem dL_due_15 : decode cL_due 15 = .ok (.iconst 0, 1) := by decide +kernel
theorem dL_due_16 : decode cL_due 16 = .ok (.ireturn, 1) := by decide +kernel
theorem dL_dueAnew_0 : decode cL_dueAnew 0 = .ok (.aload_n 2, 1) := by decide +kernel
theorem dL_dueAnew_1 : decode cL_dueAnew 1 = .ok (.iconst 0, 1) := by decide +kernel
theorem dL_dueAnew_2 : decode cL_dueAnew 2 = .ok (.aload_n 0, 1) := by decide +kernel
theorem dL_dueAnew_3 : decode cL_dueAnew 3 = .ok (.iload_n 1, 1) := by decide +kernel
theorem dL_dueAnew_4 : decode cL_dueAnew 4 = .ok (.invokevirtual 69, 3) := by decide +kernel
theorem dL_dueAnew_7 : decode cL_dueAnew 7 = .ok (.i2l, 1) := by decide +kernel
theorem dL_dueAnew_8 : decode cL_dueAnew 8 = .ok (.lastore, 1) := by decide +kernel
theorem dL_dueAnew_9 : decode cL_dueAnew 9 = .ok (.goto 6, 3) := by decide +kernel
theorem dL_dueAnew_12 : decode cL_dueAnew 12 = .ok (.astore_n 3, 1) := by decide +kernel
theorem dL_dueAnew_13 : decode cL_dueAnew 13 = .ok (.iconst 1, 1) := by decide +kernel
theorem dL_dueAnew_14 : decode cL_dueAnew 14 = .ok (.ireturn, 1) := by decide +kernel
theorem dL_dueAnew_15 : decode cL_dueAnew 15 = .ok (.iconst 0, 1) := by decide +kernel
theorem dL_dueAnew_16 : decode cL_dueAnew 16 = .ok (.ireturn, 1) := by decide +kernel
theorem dL_would_0 : decode cL_would 0 = .ok (.aload 5, 2) := by decide +kernel
theorem dL_would_2 : decode cL_would 2 = .ok (.iconst 0, 1) := by decide +kernel
theorem dL_would_3 : decode cL_would 3 = .ok (.aload_n 0, 1) := by decide +kernel
theorem dL_would_4 : decode cL_would 4 = .ok (.iload_n 1, 1) := by decide +kernel
theorem dL_would_5 : decode cL_would 5 = .ok (.iload_n 2, 1) := by decide +kernel
theorem dL_would_6 : decode cL_would 6 = .ok (.iload_n 3, 1) := by decide +kernel
theorem dL_would_7 : decode cL_would 7 = .ok (.iload 4, 2) := by decide +kernel
theorem dL_would_9 : decode cL_would 9 = .ok (.invokevirtual 72, 3) := by decide +kernel
theorem dL_would_12 : decode cL_would 12 = .ok (.i2l, 1) := by decide +kernel
theorem dL_would_13 : decode cL_would 13 = .ok (.lastore, 1) := by decide +kernel
theorem dL_would_14 : decode cL_would 14 = .ok (.goto 11, 3) := by decide +kernel
theorem dL_would_17 : decode cL_would 17 = .ok (.astore 6, 2) := by decide +kernel
theorem dL_would_19 : decode cL_would 19 = .ok (.iconst 1, 1) := by decide +kernel
theorem dL_would_20 : decode cL_would 20 = .ok (.ireturn, 1) := by decide +kernel
theorem dL_would_21 : decode cL_would 21 = .ok (.astore 6, 2) := by decide +kernel
theorem dL_would_23 : decode cL_would 23 = .ok (.iconst 2, 1) := by decide +kernel
theorem dL_would_24 : decode cL_would 24 = .ok (.ireturn, 1) := by decide +kernel
theorem dL_would_25 : decode cL_would 25 = .ok (.iconst 0, 1) := by decide +kernel
theorem dL_would_26 : decode cL_would 26 = .ok (.ireturn, 1) := by decide +kernel
theorem dL_swap_0 : decode cL_swap 0 = .ok (.aload_n 0, 1) := by decide +kernel
theorem dL_swap_1 : decode cL_swap 1 = .ok (.iload_n 1, 1) := by decide +kernel
theorem dL_swap_2 : decode cL_swap 2 = .ok (.iload_n 2, 1) := by decide +kernel
theorem dL_swap_3 : decode cL_swap 3 = .ok (.invokevirtual 75, 3) := by decide +kernel
theorem dL_swap_6 : decode cL_swap 6 = .ok (.goto 12, 3) := by decide +kernel
theorem dL_swap_9 : decode cL_swap 9 = .ok (.astore_n 3, 1) := by decide +kernel
theorem dL_swap_10 : decode cL_swap 10 = .ok (.iconst 1, 1) := by decide +kernel
theorem dL_swap_11 : decode cL_swap 11 = .ok (.ireturn, 1) := by decide +kernel
theorem dL_swap_12 : decode cL_swap 12 = .ok (.astore_n 3, 1) := by decide +kernel
theorem dL_swap_13 : decode cL_swap 13 = .ok (.iconst 2, 1) := by decide +kernel
theorem dL_swap_14 : decode cL_swap 14 = .ok (.ireturn, 1) := by decide +kernel
theorem dL_swap_15 : decode cL_swap 15 = .ok (.astore_n 3, 1) := by decide +kernel
theorem dL_swap_16 : decode cL_swap 16 = .ok (.iconst 3, 1) := by decide +kernel
theorem dL_swap_17 : decode cL_swap 17 = .ok (.ireturn, 1) := by decide +kernel
theorem dL_swap_18 : decode cL_swap 18 = .ok (.iconst 0, 1) := by decide +kernel
theorem dL_swap_19 : decode cL_swap 19 = .ok (.ireturn, 1) := by decide +kernel
theorem dL_message_0 : decode cL_message 0 = .ok (.aload 5, 2) := by decide +kernel
theorem dL_message_2 : decode cL_message 2 = .ok (.iconst 0, 1) := by decide +kernel
theorem dL_message_3 : decode cL_message 3 = .ok (.aload_n 0, 1) := by decide +kernel
theorem dL_message_4 : decode cL_message 4 = .ok (.iload_n 1, 1) := by decide +kernel
theorem dL_message_5 : decode cL_message 5 = .ok (.iload_n 2, 1) := by decide +kernel
theorem dL_message_6 : decode cL_message 6 = .ok (.iload_n 3, 1) := by decide +kernel
theorem dL_message_7 : decode cL_message 7 = .ok (.iload 4, 2) := by decide +kernel
theorem dL_message_9 : decode cL_message 9 = .ok (.invokevirtual 79, 3) := by decide +kernel
theorem dL_message_12 : decode cL_message 12 = .ok (.ifCond .eq 7, 3) := by decide +kernel
theorem dL_message_15 : decode cL_message 15 = .ok (.lconst 1, 1) := by decide +kernel
theorem dL_message_16 : decode cL_message 16 = .ok (.goto 4, 3) := by decide +kernel
theorem dL_message_19 : decode cL_message 19 = .ok (.lconst 0, 1) := by decide +kernel
theorem dL_message_20 : decode cL_message 20 = .ok (.lastore, 1) := by decide +kernel
theorem dL_message_21 : decode cL_message 21 = .ok (.goto 11, 3) := by decide +kernel
theorem dL_message_24 : decode cL_message 24 = .ok (.astore 6, 2) := by decide +kernel
theorem dL_message_26 : decode cL_message 26 = .ok (.iconst 1, 1) := by decide +kernel
theorem dL_message_27 : decode cL_message 27 = .ok (.ireturn, 1) := by decide +kernel
theorem dL_message_28 : decode cL_message 28 = .ok (.astore 6, 2) := by decide +kernel
theorem dL_message_30 : decode cL_message 30 = .ok (.iconst 2, 1) := by decide +kernel
theorem dL_message_31 : decode cL_message 31 = .ok (.ireturn, 1) := by decide +kernel
theorem dL_message_32 : decode cL_message 32 = .ok (.iconst 0, 1) := by decide +kernel
theorem dL_message_33 : decode cL_message 33 = .ok (.ireturn, 1) := by decide +kernel
theorem dL_companyIs_0 : decode cL_companyIs 0 = .ok (.aload_n 3, 1) := by decide +kernel
theorem dL_companyIs_1 : decode cL_companyIs 1 = .ok (.iconst 0, 1) := by decide +kernel
theorem dL_companyIs_2 : decode cL_companyIs 2 = .ok (.aload_n 0, 1) := by decide +kernel
theorem dL_companyIs_3 : decode cL_companyIs 3 = .ok (.iload_n 1, 1) := by decide +kernel
theorem dL_companyIs_4 : decode cL_companyIs 4 = .ok (.iload_n 2, 1) := by decide +kernel
theorem dL_companyIs_5 : decode cL_companyIs 5 = .ok (.invokevirtual 83, 3) := by decide +kernel
theorem dL_companyIs_8 : decode cL_companyIs 8 = .ok (.i2l, 1) := by decide +kernel
theorem dL_companyIs_9 : decode cL_companyIs 9 = .ok (.lastore, 1) := by decide +kernel
theorem dL_companyIs_10 : decode cL_companyIs 10 = .ok (.goto 11, 3) := by decide +kernel
theorem dL_companyIs_13 : decode cL_companyIs 13 = .ok (.astore 4, 2) := by decide +kernel
theorem dL_companyIs_15 : decode cL_companyIs 15 = .ok (.iconst 1, 1) := by decide +kernel
theorem dL_companyIs_16 : decode cL_companyIs 16 = .ok (.ireturn, 1) := by decide +kernel
theorem dL_companyIs_17 : decode cL_companyIs 17 = .ok (.astore 4, 2) := by decide +kernel
theorem dL_companyIs_19 : decode cL_companyIs 19 = .ok (.iconst 2, 1) := by decide +kernel
theorem dL_companyIs_20 : decode cL_companyIs 20 = .ok (.ireturn, 1) := by decide +kernel
theorem dL_companyIs_21 : decode cL_companyIs 21 = .ok (.iconst 0, 1) := by decide +kernel
theorem dL_companyIs_22 : decode cL_companyIs 22 = .ok (.ireturn, 1) := by decide +kernel
