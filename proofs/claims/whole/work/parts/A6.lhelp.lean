/-! the law's helpers -/
section ZLH
theorem dL_load_0 : decode cL_load 0 = .ok (.aload_n 2, 1) := by decide +kernel
theorem dL_load_1 : decode cL_load 1 = .ok (.iconst 0, 1) := by decide +kernel
theorem dL_load_2 : decode cL_load 2 = .ok (.aload_n 0, 1) := by decide +kernel
theorem dL_load_3 : decode cL_load 3 = .ok (.iload_n 1, 1) := by decide +kernel
theorem dL_load_4 : decode cL_load 4 = .ok (.invokevirtual 7, 3) := by decide +kernel
theorem dL_load_7 : decode cL_load 7 = .ok (.i2l, 1) := by decide +kernel
theorem dL_load_8 : decode cL_load 8 = .ok (.lastore, 1) := by decide +kernel
theorem dL_load_9 : decode cL_load 9 = .ok (.goto 6, 3) := by decide +kernel
theorem dL_load_12 : decode cL_load 12 = .ok (.astore_n 3, 1) := by decide +kernel
theorem dL_load_13 : decode cL_load 13 = .ok (.iconst 1, 1) := by decide +kernel
theorem dL_load_14 : decode cL_load 14 = .ok (.ireturn, 1) := by decide +kernel
theorem dL_load_15 : decode cL_load 15 = .ok (.iconst 0, 1) := by decide +kernel
theorem dL_load_16 : decode cL_load 16 = .ok (.ireturn, 1) := by decide +kernel
theorem dL_size_0 : decode cL_size 0 = .ok (.aload_n 2, 1) := by decide +kernel
theorem dL_size_1 : decode cL_size 1 = .ok (.iconst 0, 1) := by decide +kernel
theorem dL_size_2 : decode cL_size 2 = .ok (.aload_n 0, 1) := by decide +kernel
theorem dL_size_3 : decode cL_size 3 = .ok (.iload_n 1, 1) := by decide +kernel
theorem dL_size_4 : decode cL_size 4 = .ok (.invokevirtual 15, 3) := by decide +kernel
theorem dL_size_7 : decode cL_size 7 = .ok (.i2l, 1) := by decide +kernel
theorem dL_size_8 : decode cL_size 8 = .ok (.lastore, 1) := by decide +kernel
theorem dL_size_9 : decode cL_size 9 = .ok (.goto 6, 3) := by decide +kernel
theorem dL_size_12 : decode cL_size 12 = .ok (.astore_n 3, 1) := by decide +kernel
theorem dL_size_13 : decode cL_size 13 = .ok (.iconst 1, 1) := by decide +kernel
theorem dL_size_14 : decode cL_size 14 = .ok (.ireturn, 1) := by decide +kernel
theorem dL_size_15 : decode cL_size 15 = .ok (.iconst 0, 1) := by decide +kernel
theorem dL_size_16 : decode cL_size 16 = .ok (.ireturn, 1) := by decide +kernel
theorem dL_house_0 : decode cL_house 0 = .ok (.aload_n 3, 1) := by decide +kernel
theorem dL_house_1 : decode cL_house 1 = .ok (.iconst 0, 1) := by decide +kernel
theorem dL_house_2 : decode cL_house 2 = .ok (.aload_n 0, 1) := by decide +kernel
theorem dL_house_3 : decode cL_house 3 = .ok (.iload_n 1, 1) := by decide +kernel
theorem dL_house_4 : decode cL_house 4 = .ok (.iload_n 2, 1) := by decide +kernel
theorem dL_house_5 : decode cL_house 5 = .ok (.invokevirtual 20, 3) := by decide +kernel
theorem dL_house_8 : decode cL_house 8 = .ok (.i2l, 1) := by decide +kernel
theorem dL_house_9 : decode cL_house 9 = .ok (.lastore, 1) := by decide +kernel
theorem dL_house_10 : decode cL_house 10 = .ok (.goto 7, 3) := by decide +kernel
theorem dL_house_13 : decode cL_house 13 = .ok (.astore 4, 2) := by decide +kernel
theorem dL_house_15 : decode cL_house 15 = .ok (.iconst 1, 1) := by decide +kernel
theorem dL_house_16 : decode cL_house 16 = .ok (.ireturn, 1) := by decide +kernel
theorem dL_house_17 : decode cL_house 17 = .ok (.iconst 0, 1) := by decide +kernel
theorem dL_house_18 : decode cL_house 18 = .ok (.ireturn, 1) := by decide +kernel
theorem dL_screen_0 : decode cL_screen 0 = .ok (.aload_n 3, 1) := by decide +kernel
theorem dL_screen_1 : decode cL_screen 1 = .ok (.iconst 0, 1) := by decide +kernel
theorem dL_screen_2 : decode cL_screen 2 = .ok (.aload_n 0, 1) := by decide +kernel
theorem dL_screen_3 : decode cL_screen 3 = .ok (.iload_n 1, 1) := by decide +kernel
theorem dL_screen_4 : decode cL_screen 4 = .ok (.iload_n 2, 1) := by decide +kernel
theorem dL_screen_5 : decode cL_screen 5 = .ok (.invokevirtual 24, 3) := by decide +kernel
theorem dL_screen_8 : decode cL_screen 8 = .ok (.i2l, 1) := by decide +kernel
theorem dL_screen_9 : decode cL_screen 9 = .ok (.lastore, 1) := by decide +kernel
theorem dL_screen_10 : decode cL_screen 10 = .ok (.goto 7, 3) := by decide +kernel
theorem dL_screen_13 : decode cL_screen 13 = .ok (.astore 4, 2) := by decide +kernel
theorem dL_screen_15 : decode cL_screen 15 = .ok (.iconst 1, 1) := by decide +kernel
theorem dL_screen_16 : decode cL_screen 16 = .ok (.ireturn, 1) := by decide +kernel
theorem dL_screen_17 : decode cL_screen 17 = .ok (.iconst 0, 1) := by decide +kernel
theorem dL_screen_18 : decode cL_screen 18 = .ok (.ireturn, 1) := by decide +kernel
theorem dL_film_0 : decode cL_film 0 = .ok (.aload_n 3, 1) := by decide +kernel
theorem dL_film_1 : decode cL_film 1 = .ok (.iconst 0, 1) := by decide +kernel
theorem dL_film_2 : decode cL_film 2 = .ok (.aload_n 0, 1) := by decide +kernel
theorem dL_film_3 : decode cL_film 3 = .ok (.iload_n 1, 1) := by decide +kernel
theorem dL_film_4 : decode cL_film 4 = .ok (.iload_n 2, 1) := by decide +kernel
theorem dL_film_5 : decode cL_film 5 = .ok (.invokevirtual 27, 3) := by decide +kernel
theorem dL_film_8 : decode cL_film 8 = .ok (.i2l, 1) := by decide +kernel
theorem dL_film_9 : decode cL_film 9 = .ok (.lastore, 1) := by decide +kernel
theorem dL_film_10 : decode cL_film 10 = .ok (.goto 7, 3) := by decide +kernel
theorem dL_film_13 : decode cL_film 13 = .ok (.astore 4, 2) := by decide +kernel
theorem dL_film_15 : decode cL_film 15 = .ok (.iconst 1, 1) := by decide +kernel
theorem dL_film_16 : decode cL_film 16 = .ok (.ireturn, 1) := by decide +kernel
theorem dL_film_17 : decode cL_film 17 = .ok (.iconst 0, 1) := by decide +kernel
theorem dL_film_18 : decode cL_film 18 = .ok (.ireturn, 1) := by decide +kernel
theorem dL_term_0 : decode cL_term 0 = .ok (.aload_n 3, 1) := by decide +kernel
theorem dL_term_1 : decode cL_term 1 = .ok (.iconst 0, 1) := by decide +kernel
theorem dL_term_2 : decode cL_term 2 = .ok (.aload_n 0, 1) := by decide +kernel
theorem dL_term_3 : decode cL_term 3 = .ok (.iload_n 1, 1) := by decide +kernel
theorem dL_term_4 : decode cL_term 4 = .ok (.iload_n 2, 1) := by decide +kernel
theorem dL_term_5 : decode cL_term 5 = .ok (.invokevirtual 30, 3) := by decide +kernel
theorem dL_term_8 : decode cL_term 8 = .ok (.i2l, 1) := by decide +kernel
theorem dL_term_9 : decode cL_term 9 = .ok (.lastore, 1) := by decide +kernel
theorem dL_term_10 : decode cL_term 10 = .ok (.goto 7, 3) := by decide +kernel
theorem dL_term_13 : decode cL_term 13 = .ok (.astore 4, 2) := by decide +kernel
theorem dL_term_15 : decode cL_term 15 = .ok (.iconst 1, 1) := by decide +kernel
theorem dL_term_16 : decode cL_term 16 = .ok (.ireturn, 1) := by decide +kernel
theorem dL_term_17 : decode cL_term 17 = .ok (.iconst 0, 1) := by decide +kernel
theorem dL_term_18 : decode cL_term 18 = .ok (.ireturn, 1) := by decide +kernel
theorem dL_prints_0 : decode cL_prints 0 = .ok (.aload_n 3, 1) := by decide +kernel
theorem dL_prints_1 : decode cL_prints 1 = .ok (.iconst 0, 1) := by decide +kernel
theorem dL_prints_2 : decode cL_prints 2 = .ok (.aload_n 0, 1) := by decide +kernel
theorem dL_prints_3 : decode cL_prints 3 = .ok (.iload_n 1, 1) := by decide +kernel
theorem dL_prints_4 : decode cL_prints 4 = .ok (.iload_n 2, 1) := by decide +kernel
theorem dL_prints_5 : decode cL_prints 5 = .ok (.invokevirtual 33, 3) := by decide +kernel
theorem dL_prints_8 : decode cL_prints 8 = .ok (.i2l, 1) := by decide +kernel
theorem dL_prints_9 : decode cL_prints 9 = .ok (.lastore, 1) := by decide +kernel
theorem dL_prints_10 : decode cL_prints 10 = .ok (.goto 7, 3) := by decide +kernel
theorem dL_prints_13 : decode cL_prints 13 = .ok (.astore 4, 2) := by decide +kernel
theorem dL_prints_15 : decode cL_prints 15 = .ok (.iconst 1, 1) := by decide +kernel
theorem dL_prints_16 : decode cL_prints 16 = .ok (.ireturn, 1) := by decide +kernel
theorem dL_prints_17 : decode cL_prints 17 = .ok (.iconst 0, 1) := by decide +kernel
theorem dL_prints_18 : decode cL_prints 18 = .ok (.ireturn, 1) := by decide +kernel
theorem dL_shown_0 : decode cL_shown 0 = .ok (.aload_n 3, 1) := by decide +kernel
theorem dL_shown_1 : decode cL_shown 1 = .ok (.iconst 0, 1) := by decide +kernel
theorem dL_shown_2 : decode cL_shown 2 = .ok (.aload_n 0, 1) := by decide +kernel
theorem dL_shown_3 : decode cL_shown 3 = .ok (.iload_n 1, 1) := by decide +kernel
theorem dL_shown_4 : decode cL_shown 4 = .ok (.iload_n 2, 1) := by decide +kernel
theorem dL_shown_5 : decode cL_shown 5 = .ok (.invokevirtual 36, 3) := by decide +kernel
theorem dL_shown_8 : decode cL_shown 8 = .ok (.i2l, 1) := by decide +kernel
theorem dL_shown_9 : decode cL_shown 9 = .ok (.lastore, 1) := by decide +kernel
theorem dL_shown_10 : decode cL_shown 10 = .ok (.goto 11, 3) := by decide +kernel
theorem dL_shown_13 : decode cL_shown 13 = .ok (.astore 4, 2) := by decide +kernel
theorem dL_shown_15 : decode cL_shown 15 = .ok (.iconst 1, 1) := by decide +kernel
theorem dL_shown_16 : decode cL_shown 16 = .ok (.ireturn, 1) := by decide +kernel
theorem dL_shown_17 : decode cL_shown 17 = .ok (.astore 4, 2) := by decide +kernel
theorem dL_shown_19 : decode cL_shown 19 = .ok (.iconst 2, 1) := by decide +kernel
theorem dL_shown_20 : decode cL_shown 20 = .ok (.ireturn, 1) := by decide +kernel
theorem dL_shown_21 : decode cL_shown 21 = .ok (.iconst 0, 1) := by decide +kernel
theorem dL_shown_22 : decode cL_shown 22 = .ok (.ireturn, 1) := by decide +kernel
theorem dL_visitors_0 : decode cL_visitors 0 = .ok (.aload_n 3, 1) := by decide +kernel
theorem dL_visitors_1 : decode cL_visitors 1 = .ok (.iconst 0, 1) := by decide +kernel
theorem dL_visitors_2 : decode cL_visitors 2 = .ok (.aload_n 0, 1) := by decide +kernel
theorem dL_visitors_3 : decode cL_visitors 3 = .ok (.iload_n 1, 1) := by decide +kernel
theorem dL_visitors_4 : decode cL_visitors 4 = .ok (.iload_n 2, 1) := by decide +kernel
theorem dL_visitors_5 : decode cL_visitors 5 = .ok (.invokevirtual 39, 3) := by decide +kernel
theorem dL_visitors_8 : decode cL_visitors 8 = .ok (.i2l, 1) := by decide +kernel
theorem dL_visitors_9 : decode cL_visitors 9 = .ok (.lastore, 1) := by decide +kernel
theorem dL_visitors_10 : decode cL_visitors 10 = .ok (.goto 11, 3) := by decide +kernel
theorem dL_visitors_13 : decode cL_visitors 13 = .ok (.astore 4, 2) := by decide +kernel
theorem dL_visitors_15 : decode cL_visitors 15 = .ok (.iconst 1, 1) := by decide +kernel
theorem dL_visitors_16 : decode cL_visitors 16 = .ok (.ireturn, 1) := by decide +kernel
theorem dL_visitors_17 : decode cL_visitors 17 = .ok (.astore 4, 2) := by decide +kernel
theorem dL_visitors_19 : decode cL_visitors 19 = .ok (.iconst 2, 1) := by decide +kernel
theorem dL_visitors_20 : decode cL_visitors 20 = .ok (.ireturn, 1) := by decide +kernel
theorem dL_visitors_21 : decode cL_visitors 21 = .ok (.iconst 0, 1) := by decide +kernel
theorem dL_visitors_22 : decode cL_visitors 22 = .ok (.ireturn, 1) := by decide +kernel
theorem dL_share_0 : decode cL_share 0 = .ok (.aload_n 3, 1) := by decide +kernel
theorem dL_share_1 : decode cL_share 1 = .ok (.iconst 0, 1) := by decide +kernel
theorem dL_share_2 : decode cL_share 2 = .ok (.aload_n 0, 1) := by decide +kernel
theorem dL_share_3 : decode cL_share 3 = .ok (.iload_n 1, 1) := by decide +kernel
theorem dL_share_4 : decode cL_share 4 = .ok (.iload_n 2, 1) := by decide +kernel
theorem dL_share_5 : decode cL_share 5 = .ok (.invokevirtual 42, 3) := by decide +kernel
theorem dL_share_8 : decode cL_share 8 = .ok (.i2l, 1) := by decide +kernel
theorem dL_share_9 : decode cL_share 9 = .ok (.lastore, 1) := by decide +kernel
theorem dL_share_10 : decode cL_share 10 = .ok (.goto 7, 3) := by decide +kernel
theorem dL_share_13 : decode cL_share 13 = .ok (.astore 4, 2) := by decide +kernel
theorem dL_share_15 : decode cL_share 15 = .ok (.iconst 1, 1) := by decide +kernel
theorem dL_share_16 : decode cL_share 16 = .ok (.ireturn, 1) := by decide +kernel
theorem dL_share_17 : decode cL_share 17 = .ok (.iconst 0, 1) := by decide +kernel
theorem dL_share_18 : decode cL_share 18 = .ok (.ireturn, 1) := by decide +kernel
theorem dL_run_0 : decode cL_run 0 = .ok (.aload_n 3, 1) := by decide +kernel
theorem dL_run_1 : decode cL_run 1 = .ok (.iconst 0, 1) := by decide +kernel
theorem dL_run_2 : decode cL_run 2 = .ok (.aload_n 0, 1) := by decide +kernel
theorem dL_run_3 : decode cL_run 3 = .ok (.iload_n 1, 1) := by decide +kernel
theorem dL_run_4 : decode cL_run 4 = .ok (.iload_n 2, 1) := by decide +kernel
theorem dL_run_5 : decode cL_run 5 = .ok (.invokevirtual 45, 3) := by decide +kernel
theorem dL_run_8 : decode cL_run 8 = .ok (.i2l, 1) := by decide +kernel
theorem dL_run_9 : decode cL_run 9 = .ok (.lastore, 1) := by decide +kernel
theorem dL_run_10 : decode cL_run 10 = .ok (.goto 7, 3) := by decide +kernel
theorem dL_run_13 : decode cL_run 13 = .ok (.astore 4, 2) := by decide +kernel
theorem dL_run_15 : decode cL_run 15 = .ok (.iconst 1, 1) := by decide +kernel
theorem dL_run_16 : decode cL_run 16 = .ok (.ireturn, 1) := by decide +kernel
theorem dL_run_17 : decode cL_run 17 = .ok (.iconst 0, 1) := by decide +kernel
theorem dL_run_18 : decode cL_run 18 = .ok (.ireturn, 1) := by decide +kernel
theorem dL_wouldHold_0 : decode cL_wouldHold 0 = .ok (.aload_n 2, 1) := by decide +kernel
theorem dL_wouldHold_1 : decode cL_wouldHold 1 = .ok (.iconst 0, 1) := by decide +kernel
theorem dL_wouldHold_2 : decode cL_wouldHold 2 = .ok (.aload_n 0, 1) := by decide +kernel
theorem dL_wouldHold_3 : decode cL_wouldHold 3 = .ok (.iload_n 1, 1) := by decide +kernel
theorem dL_wouldHold_4 : decode cL_wouldHold 4 = .ok (.invokevirtual 48, 3) := by decide +kernel
theorem dL_wouldHold_7 : decode cL_wouldHold 7 = .ok (.ifCond .eq 7, 3) := by decide +kernel
theorem dL_wouldHold_10 : decode cL_wouldHold 10 = .ok (.lconst 1, 1) := by decide +kernel
theorem dL_wouldHold_11 : decode cL_wouldHold 11 = .ok (.goto 4, 3) := by decide +kernel
theorem dL_wouldHold_14 : decode cL_wouldHold 14 = .ok (.lconst 0, 1) := by decide +kernel
theorem dL_wouldHold_15 : decode cL_wouldHold 15 = .ok (.lastore, 1) := by decide +kernel
theorem dL_wouldHold_16 : decode cL_wouldHold 16 = .ok (.goto 6, 3) := by decide +kernel
theorem dL_wouldHold_19 : decode cL_wouldHold 19 = .ok (.astore_n 3, 1) := by decide +kernel
theorem dL_wouldHold_20 : decode cL_wouldHold 20 = .ok (.iconst 1, 1) := by decide +kernel
theorem dL_wouldHold_21 : decode cL_wouldHold 21 = .ok (.ireturn, 1) := by decide +kernel
theorem dL_wouldHold_22 : decode cL_wouldHold 22 = .ok (.iconst 0, 1) := by decide +kernel
theorem dL_wouldHold_23 : decode cL_wouldHold 23 = .ok (.ireturn, 1) := by decide +kernel
theorem dL_forecast_0 : decode cL_forecast 0 = .ok (.aload_n 3, 1) := by decide +kernel
theorem dL_forecast_1 : decode cL_forecast 1 = .ok (.iconst 0, 1) := by decide +kernel
theorem dL_forecast_2 : decode cL_forecast 2 = .ok (.aload_n 0, 1) := by decide +kernel
theorem dL_forecast_3 : decode cL_forecast 3 = .ok (.iload_n 1, 1) := by decide +kernel
theorem dL_forecast_4 : decode cL_forecast 4 = .ok (.iload_n 2, 1) := by decide +kernel
theorem dL_forecast_5 : decode cL_forecast 5 = .ok (.invokevirtual 52, 3) := by decide +kernel
theorem dL_forecast_8 : decode cL_forecast 8 = .ok (.i2l, 1) := by decide +kernel
theorem dL_forecast_9 : decode cL_forecast 9 = .ok (.lastore, 1) := by decide +kernel
theorem dL_forecast_10 : decode cL_forecast 10 = .ok (.goto 7, 3) := by decide +kernel
theorem dL_forecast_13 : decode cL_forecast 13 = .ok (.astore 4, 2) := by decide +kernel
theorem dL_forecast_15 : decode cL_forecast 15 = .ok (.iconst 1, 1) := by decide +kernel
theorem dL_forecast_16 : decode cL_forecast 16 = .ok (.ireturn, 1) := by decide +kernel
theorem dL_forecast_17 : decode cL_forecast 17 = .ok (.iconst 0, 1) := by decide +kernel
theorem dL_forecast_18 : decode cL_forecast 18 = .ok (.ireturn, 1) := by decide +kernel
theorem dL_chart_0 : decode cL_chart 0 = .ok (.aload_n 2, 1) := by decide +kernel
theorem dL_chart_1 : decode cL_chart 1 = .ok (.iconst 0, 1) := by decide +kernel
theorem dL_chart_2 : decode cL_chart 2 = .ok (.aload_n 0, 1) := by decide +kernel
theorem dL_chart_3 : decode cL_chart 3 = .ok (.iload_n 1, 1) := by decide +kernel
theorem dL_chart_4 : decode cL_chart 4 = .ok (.invokevirtual 55, 3) := by decide +kernel
theorem dL_chart_7 : decode cL_chart 7 = .ok (.i2l, 1) := by decide +kernel
theorem dL_chart_8 : decode cL_chart 8 = .ok (.lastore, 1) := by decide +kernel
theorem dL_chart_9 : decode cL_chart 9 = .ok (.goto 6, 3) := by decide +kernel
theorem dL_chart_12 : decode cL_chart 12 = .ok (.astore_n 3, 1) := by decide +kernel
theorem dL_chart_13 : decode cL_chart 13 = .ok (.iconst 1, 1) := by decide +kernel
theorem dL_chart_14 : decode cL_chart 14 = .ok (.ireturn, 1) := by decide +kernel
theorem dL_chart_15 : decode cL_chart 15 = .ok (.iconst 0, 1) := by decide +kernel
theorem dL_chart_16 : decode cL_chart 16 = .ok (.ireturn, 1) := by decide +kernel
theorem dL_bestGain_0 : decode cL_bestGain 0 = .ok (.aload_n 2, 1) := by decide +kernel
theorem dL_bestGain_1 : decode cL_bestGain 1 = .ok (.iconst 0, 1) := by decide +kernel
theorem dL_bestGain_2 : decode cL_bestGain 2 = .ok (.aload_n 0, 1) := by decide +kernel
theorem dL_bestGain_3 : decode cL_bestGain 3 = .ok (.iload_n 1, 1) := by decide +kernel
theorem dL_bestGain_4 : decode cL_bestGain 4 = .ok (.invokevirtual 58, 3) := by decide +kernel
theorem dL_bestGain_7 : decode cL_bestGain 7 = .ok (.i2l, 1) := by decide +kernel
theorem dL_bestGain_8 : decode cL_bestGain 8 = .ok (.lastore, 1) := by decide +kernel
theorem dL_bestGain_9 : decode cL_bestGain 9 = .ok (.goto 6, 3) := by decide +kernel
theorem dL_bestGain_12 : decode cL_bestGain 12 = .ok (.astore_n 3, 1) := by decide +kernel
theorem dL_bestGain_13 : decode cL_bestGain 13 = .ok (.iconst 1, 1) := by decide +kernel
theorem dL_bestGain_14 : decode cL_bestGain 14 = .ok (.ireturn, 1) := by decide +kernel
theorem dL_bestGain_15 : decode cL_bestGain 15 = .ok (.iconst 0, 1) := by decide +kernel
theorem dL_bestGain_16 : decode cL_bestGain 16 = .ok (.ireturn, 1) := by decide +kernel
theorem dL_bestFilm_0 : decode cL_bestFilm 0 = .ok (.aload_n 2, 1) := by decide +kernel
theorem dL_bestFilm_1 : decode cL_bestFilm 1 = .ok (.iconst 0, 1) := by decide +kernel
theorem dL_bestFilm_2 : decode cL_bestFilm 2 = .ok (.aload_n 0, 1) := by decide +kernel
theorem dL_bestFilm_3 : decode cL_bestFilm 3 = .ok (.iload_n 1, 1) := by decide +kernel
theorem dL_bestFilm_4 : decode cL_bestFilm 4 = .ok (.invokevirtual 61, 3) := by decide +kernel
theorem dL_bestFilm_7 : decode cL_bestFilm 7 = .ok (.i2l, 1) := by decide +kernel
theorem dL_bestFilm_8 : decode cL_bestFilm 8 = .ok (.lastore, 1) := by decide +kernel
theorem dL_bestFilm_9 : decode cL_bestFilm 9 = .ok (.goto 6, 3) := by decide +kernel
theorem dL_bestFilm_12 : decode cL_bestFilm 12 = .ok (.astore_n 3, 1) := by decide +kernel
theorem dL_bestFilm_13 : decode cL_bestFilm 13 = .ok (.iconst 1, 1) := by decide +kernel
theorem dL_bestFilm_14 : decode cL_bestFilm 14 = .ok (.ireturn, 1) := by decide +kernel
theorem dL_bestFilm_15 : decode cL_bestFilm 15 = .ok (.iconst 0, 1) := by decide +kernel
theorem dL_bestFilm_16 : decode cL_bestFilm 16 = .ok (.ireturn, 1) := by decide +kernel
theorem dL_total_0 : decode cL_total 0 = .ok (.aload_n 2, 1) := by decide +kernel
theorem dL_total_1 : decode cL_total 1 = .ok (.iconst 0, 1) := by decide +kernel
theorem dL_total_2 : decode cL_total 2 = .ok (.aload_n 0, 1) := by decide +kernel
theorem dL_total_3 : decode cL_total 3 = .ok (.iload_n 1, 1) := by decide +kernel
theorem dL_total_4 : decode cL_total 4 = .ok (.invokevirtual 64, 3) := by decide +kernel
theorem dL_total_7 : decode cL_total 7 = .ok (.i2l, 1) := by decide +kernel
theorem dL_total_8 : decode cL_total 8 = .ok (.lastore, 1) := by decide +kernel
theorem dL_total_9 : decode cL_total 9 = .ok (.goto 6, 3) := by decide +kernel
theorem dL_total_12 : decode cL_total 12 = .ok (.astore_n 3, 1) := by decide +kernel
theorem dL_total_13 : decode cL_total 13 = .ok (.iconst 1, 1) := by decide +kernel
theorem dL_total_14 : decode cL_total 14 = .ok (.ireturn, 1) := by decide +kernel
theorem dL_total_15 : decode cL_total 15 = .ok (.iconst 0, 1) := by decide +kernel
theorem dL_total_16 : decode cL_total 16 = .ok (.ireturn, 1) := by decide +kernel
theorem dL_closed_0 : decode cL_closed 0 = .ok (.aload_n 3, 1) := by decide +kernel
theorem dL_closed_1 : decode cL_closed 1 = .ok (.iconst 0, 1) := by decide +kernel
theorem dL_closed_2 : decode cL_closed 2 = .ok (.aload_n 0, 1) := by decide +kernel
theorem dL_closed_3 : decode cL_closed 3 = .ok (.iload_n 1, 1) := by decide +kernel
theorem dL_closed_4 : decode cL_closed 4 = .ok (.iload_n 2, 1) := by decide +kernel
theorem dL_closed_5 : decode cL_closed 5 = .ok (.invokevirtual 67, 3) := by decide +kernel
theorem dL_closed_8 : decode cL_closed 8 = .ok (.i2l, 1) := by decide +kernel
theorem dL_closed_9 : decode cL_closed 9 = .ok (.lastore, 1) := by decide +kernel
theorem dL_closed_10 : decode cL_closed 10 = .ok (.goto 7, 3) := by decide +kernel
theorem dL_closed_13 : decode cL_closed 13 = .ok (.astore 4, 2) := by decide +kernel
theorem dL_closed_15 : decode cL_closed 15 = .ok (.iconst 1, 1) := by decide +kernel
theorem dL_closed_16 : decode cL_closed 16 = .ok (.ireturn, 1) := by decide +kernel
theorem dL_closed_17 : decode cL_closed 17 = .ok (.iconst 0, 1) := by decide +kernel
theorem dL_closed_18 : decode cL_closed 18 = .ok (.ireturn, 1) := by decide +kernel
theorem dL_book_0 : decode cL_book 0 = .ok (.aload_n 3, 1) := by decide +kernel
theorem dL_book_1 : decode cL_book 1 = .ok (.iconst 0, 1) := by decide +kernel
theorem dL_book_2 : decode cL_book 2 = .ok (.aload_n 0, 1) := by decide +kernel
theorem dL_book_3 : decode cL_book 3 = .ok (.iload_n 1, 1) := by decide +kernel
theorem dL_book_4 : decode cL_book 4 = .ok (.iload_n 2, 1) := by decide +kernel
theorem dL_book_5 : decode cL_book 5 = .ok (.invokevirtual 70, 3) := by decide +kernel
theorem dL_book_8 : decode cL_book 8 = .ok (.i2l, 1) := by decide +kernel
theorem dL_book_9 : decode cL_book 9 = .ok (.lastore, 1) := by decide +kernel
theorem dL_book_10 : decode cL_book 10 = .ok (.goto 7, 3) := by decide +kernel
theorem dL_book_13 : decode cL_book 13 = .ok (.astore 4, 2) := by decide +kernel
theorem dL_book_15 : decode cL_book 15 = .ok (.iconst 1, 1) := by decide +kernel
theorem dL_book_16 : decode cL_book 16 = .ok (.ireturn, 1) := by decide +kernel
theorem dL_book_17 : decode cL_book 17 = .ok (.iconst 0, 1) := by decide +kernel
theorem dL_book_18 : decode cL_book 18 = .ok (.ireturn, 1) := by decide +kernel
theorem dL_split_0 : decode cL_split 0 = .ok (.aload 5, 2) := by decide +kernel
theorem dL_split_2 : decode cL_split 2 = .ok (.iconst 0, 1) := by decide +kernel
theorem dL_split_3 : decode cL_split 3 = .ok (.aload_n 0, 1) := by decide +kernel
theorem dL_split_4 : decode cL_split 4 = .ok (.iload_n 1, 1) := by decide +kernel
theorem dL_split_5 : decode cL_split 5 = .ok (.iload_n 2, 1) := by decide +kernel
theorem dL_split_6 : decode cL_split 6 = .ok (.iload_n 3, 1) := by decide +kernel
theorem dL_split_7 : decode cL_split 7 = .ok (.iload 4, 2) := by decide +kernel
theorem dL_split_9 : decode cL_split 9 = .ok (.invokevirtual 73, 3) := by decide +kernel
theorem dL_split_12 : decode cL_split 12 = .ok (.i2l, 1) := by decide +kernel
theorem dL_split_13 : decode cL_split 13 = .ok (.lastore, 1) := by decide +kernel
theorem dL_split_14 : decode cL_split 14 = .ok (.goto 11, 3) := by decide +kernel
theorem dL_split_17 : decode cL_split 17 = .ok (.astore 6, 2) := by decide +kernel
theorem dL_split_19 : decode cL_split 19 = .ok (.iconst 1, 1) := by decide +kernel
theorem dL_split_20 : decode cL_split 20 = .ok (.ireturn, 1) := by decide +kernel
theorem dL_split_21 : decode cL_split 21 = .ok (.astore 6, 2) := by decide +kernel
theorem dL_split_23 : decode cL_split 23 = .ok (.iconst 2, 1) := by decide +kernel
theorem dL_split_24 : decode cL_split 24 = .ok (.ireturn, 1) := by decide +kernel
theorem dL_split_25 : decode cL_split 25 = .ok (.iconst 0, 1) := by decide +kernel
theorem dL_split_26 : decode cL_split 26 = .ok (.ireturn, 1) := by decide +kernel
theorem dL_empty_0 : decode cL_empty 0 = .ok (.aload_n 2, 1) := by decide +kernel
theorem dL_empty_1 : decode cL_empty 1 = .ok (.iconst 0, 1) := by decide +kernel
theorem dL_empty_2 : decode cL_empty 2 = .ok (.aload_n 0, 1) := by decide +kernel
theorem dL_empty_3 : decode cL_empty 3 = .ok (.iload_n 1, 1) := by decide +kernel
theorem dL_empty_4 : decode cL_empty 4 = .ok (.invokevirtual 77, 3) := by decide +kernel
theorem dL_empty_7 : decode cL_empty 7 = .ok (.i2l, 1) := by decide +kernel
theorem dL_empty_8 : decode cL_empty 8 = .ok (.lastore, 1) := by decide +kernel
theorem dL_empty_9 : decode cL_empty 9 = .ok (.goto 6, 3) := by decide +kernel
theorem dL_empty_12 : decode cL_empty 12 = .ok (.astore_n 3, 1) := by decide +kernel
theorem dL_empty_13 : decode cL_empty 13 = .ok (.iconst 1, 1) := by decide +kernel
theorem dL_empty_14 : decode cL_empty 14 = .ok (.ireturn, 1) := by decide +kernel
theorem dL_empty_15 : decode cL_empty 15 = .ok (.iconst 0, 1) := by decide +kernel
theorem dL_empty_16 : decode cL_empty 16 = .ok (.ireturn, 1) := by decide +kernel
theorem dL_move_0 : decode cL_move 0 = .ok (.aload 4, 2) := by decide +kernel
theorem dL_move_2 : decode cL_move 2 = .ok (.iconst 0, 1) := by decide +kernel
theorem dL_move_3 : decode cL_move 3 = .ok (.aload_n 0, 1) := by decide +kernel
theorem dL_move_4 : decode cL_move 4 = .ok (.iload_n 1, 1) := by decide +kernel
theorem dL_move_5 : decode cL_move 5 = .ok (.iload_n 2, 1) := by decide +kernel
theorem dL_move_6 : decode cL_move 6 = .ok (.iload_n 3, 1) := by decide +kernel
theorem dL_move_7 : decode cL_move 7 = .ok (.invokevirtual 80, 3) := by decide +kernel
theorem dL_move_10 : decode cL_move 10 = .ok (.i2l, 1) := by decide +kernel
theorem dL_move_11 : decode cL_move 11 = .ok (.lastore, 1) := by decide +kernel
theorem dL_move_12 : decode cL_move 12 = .ok (.goto 11, 3) := by decide +kernel
theorem dL_move_15 : decode cL_move 15 = .ok (.astore 5, 2) := by decide +kernel
theorem dL_move_17 : decode cL_move 17 = .ok (.iconst 1, 1) := by decide +kernel
theorem dL_move_18 : decode cL_move 18 = .ok (.ireturn, 1) := by decide +kernel
theorem dL_move_19 : decode cL_move 19 = .ok (.astore 5, 2) := by decide +kernel
theorem dL_move_21 : decode cL_move 21 = .ok (.iconst 2, 1) := by decide +kernel
theorem dL_move_22 : decode cL_move 22 = .ok (.ireturn, 1) := by decide +kernel
theorem dL_move_23 : decode cL_move 23 = .ok (.iconst 0, 1) := by decide +kernel
theorem dL_move_24 : decode cL_move 24 = .ok (.ireturn, 1) := by decide +kernel
theorem dL_program_0 : decode cL_program 0 = .ok (.aload_n 2, 1) := by decide +kernel
theorem dL_program_1 : decode cL_program 1 = .ok (.iconst 0, 1) := by decide +kernel
theorem dL_program_2 : decode cL_program 2 = .ok (.aload_n 0, 1) := by decide +kernel
theorem dL_program_3 : decode cL_program 3 = .ok (.iload_n 1, 1) := by decide +kernel
theorem dL_program_4 : decode cL_program 4 = .ok (.invokevirtual 84, 3) := by decide +kernel
theorem dL_program_7 : decode cL_program 7 = .ok (.i2l, 1) := by decide +kernel
theorem dL_program_8 : decode cL_program 8 = .ok (.lastore, 1) := by decide +kernel
theorem dL_program_9 : decode cL_program 9 = .ok (.goto 6, 3) := by decide +kernel
theorem dL_program_12 : decode cL_program 12 = .ok (.astore_n 3, 1) := by decide +kernel
theorem dL_program_13 : decode cL_program 13 = .ok (.iconst 1, 1) := by decide +kernel
theorem dL_program_14 : decode cL_program 14 = .ok (.ireturn, 1) := by decide +kernel
theorem dL_program_15 : decode cL_program 15 = .ok (.iconst 0, 1) := by decide +kernel
theorem dL_program_16 : decode cL_program 16 = .ok (.ireturn, 1) := by decide +kernel
theorem dL_setHoldover_0 : decode cL_setHoldover 0 = .ok (.aload_n 3, 1) := by decide +kernel
theorem dL_setHoldover_1 : decode cL_setHoldover 1 = .ok (.iconst 0, 1) := by decide +kernel
theorem dL_setHoldover_2 : decode cL_setHoldover 2 = .ok (.aload_n 0, 1) := by decide +kernel
theorem dL_setHoldover_3 : decode cL_setHoldover 3 = .ok (.iload_n 1, 1) := by decide +kernel
theorem dL_setHoldover_4 : decode cL_setHoldover 4 = .ok (.iload_n 2, 1) := by decide +kernel
theorem dL_setHoldover_5 : decode cL_setHoldover 5 = .ok (.invokevirtual 87, 3) := by decide +kernel
theorem dL_setHoldover_8 : decode cL_setHoldover 8 = .ok (.i2l, 1) := by decide +kernel
theorem dL_setHoldover_9 : decode cL_setHoldover 9 = .ok (.lastore, 1) := by decide +kernel
theorem dL_setHoldover_10 : decode cL_setHoldover 10 = .ok (.goto 11, 3) := by decide +kernel
theorem dL_setHoldover_13 : decode cL_setHoldover 13 = .ok (.astore 4, 2) := by decide +kernel
theorem dL_setHoldover_15 : decode cL_setHoldover 15 = .ok (.iconst 1, 1) := by decide +kernel
theorem dL_setHoldover_16 : decode cL_setHoldover 16 = .ok (.ireturn, 1) := by decide +kernel
theorem dL_setHoldover_17 : decode cL_setHoldover 17 = .ok (.astore 4, 2) := by decide +kernel
theorem dL_setHoldover_19 : decode cL_setHoldover 19 = .ok (.iconst 2, 1) := by decide +kernel
theorem dL_setHoldover_20 : decode cL_setHoldover 20 = .ok (.ireturn, 1) := by decide +kernel
theorem dL_setHoldover_21 : decode cL_setHoldover 21 = .ok (.iconst 0, 1) := by decide +kernel
theorem dL_setHoldover_22 : decode cL_setHoldover 22 = .ok (.ireturn, 1) := by decide +kernel
theorem dL_setRent_0 : decode cL_setRent 0 = .ok (.aload_n 3, 1) := by decide +kernel
theorem dL_setRent_1 : decode cL_setRent 1 = .ok (.iconst 0, 1) := by decide +kernel
theorem dL_setRent_2 : decode cL_setRent 2 = .ok (.aload_n 0, 1) := by decide +kernel
theorem dL_setRent_3 : decode cL_setRent 3 = .ok (.iload_n 1, 1) := by decide +kernel
theorem dL_setRent_4 : decode cL_setRent 4 = .ok (.iload_n 2, 1) := by decide +kernel
theorem dL_setRent_5 : decode cL_setRent 5 = .ok (.invokevirtual 90, 3) := by decide +kernel
theorem dL_setRent_8 : decode cL_setRent 8 = .ok (.i2l, 1) := by decide +kernel
theorem dL_setRent_9 : decode cL_setRent 9 = .ok (.lastore, 1) := by decide +kernel
theorem dL_setRent_10 : decode cL_setRent 10 = .ok (.goto 11, 3) := by decide +kernel
theorem dL_setRent_13 : decode cL_setRent 13 = .ok (.astore 4, 2) := by decide +kernel
theorem dL_setRent_15 : decode cL_setRent 15 = .ok (.iconst 1, 1) := by decide +kernel
theorem dL_setRent_16 : decode cL_setRent 16 = .ok (.ireturn, 1) := by decide +kernel
theorem dL_setRent_17 : decode cL_setRent 17 = .ok (.astore 4, 2) := by decide +kernel
theorem dL_setRent_19 : decode cL_setRent 19 = .ok (.iconst 2, 1) := by decide +kernel
theorem dL_setRent_20 : decode cL_setRent 20 = .ok (.ireturn, 1) := by decide +kernel
theorem dL_setRent_21 : decode cL_setRent 21 = .ok (.iconst 0, 1) := by decide +kernel
theorem dL_setRent_22 : decode cL_setRent 22 = .ok (.ireturn, 1) := by decide +kernel
theorem dL_setFee_0 : decode cL_setFee 0 = .ok (.aload_n 2, 1) := by decide +kernel
theorem dL_setFee_1 : decode cL_setFee 1 = .ok (.iconst 0, 1) := by decide +kernel
theorem dL_setFee_2 : decode cL_setFee 2 = .ok (.aload_n 0, 1) := by decide +kernel
theorem dL_setFee_3 : decode cL_setFee 3 = .ok (.iload_n 1, 1) := by decide +kernel
theorem dL_setFee_4 : decode cL_setFee 4 = .ok (.invokevirtual 93, 3) := by decide +kernel
theorem dL_setFee_7 : decode cL_setFee 7 = .ok (.i2l, 1) := by decide +kernel
theorem dL_setFee_8 : decode cL_setFee 8 = .ok (.lastore, 1) := by decide +kernel
theorem dL_setFee_9 : decode cL_setFee 9 = .ok (.goto 6, 3) := by decide +kernel
theorem dL_setFee_12 : decode cL_setFee 12 = .ok (.astore_n 3, 1) := by decide +kernel
theorem dL_setFee_13 : decode cL_setFee 13 = .ok (.iconst 1, 1) := by decide +kernel
theorem dL_setFee_14 : decode cL_setFee 14 = .ok (.ireturn, 1) := by decide +kernel
theorem dL_setFee_15 : decode cL_setFee 15 = .ok (.iconst 0, 1) := by decide +kernel
theorem dL_setFee_16 : decode cL_setFee 16 = .ok (.ireturn, 1) := by decide +kernel
theorem dL_format_0 : decode cL_format 0 = .ok (.aload_n 2, 1) := by decide +kernel
theorem dL_format_1 : decode cL_format 1 = .ok (.iconst 0, 1) := by decide +kernel
theorem dL_format_2 : decode cL_format 2 = .ok (.aload_n 0, 1) := by decide +kernel
theorem dL_format_3 : decode cL_format 3 = .ok (.iload_n 1, 1) := by decide +kernel
theorem dL_format_4 : decode cL_format 4 = .ok (.invokevirtual 96, 3) := by decide +kernel
theorem dL_format_7 : decode cL_format 7 = .ok (.i2l, 1) := by decide +kernel
theorem dL_format_8 : decode cL_format 8 = .ok (.lastore, 1) := by decide +kernel
theorem dL_format_9 : decode cL_format 9 = .ok (.goto 6, 3) := by decide +kernel
theorem dL_format_12 : decode cL_format 12 = .ok (.astore_n 3, 1) := by decide +kernel
theorem dL_format_13 : decode cL_format 13 = .ok (.iconst 1, 1) := by decide +kernel
theorem dL_format_14 : decode cL_format 14 = .ok (.ireturn, 1) := by decide +kernel
theorem dL_format_15 : decode cL_format 15 = .ok (.iconst 0, 1) := by decide +kernel
theorem dL_format_16 : decode cL_format 16 = .ok (.ireturn, 1) := by decide +kernel
theorem dL_query_0 : decode cL_query 0 = .ok (.aload_n 2, 1) := by decide +kernel
theorem dL_query_1 : decode cL_query 1 = .ok (.iconst 0, 1) := by decide +kernel
theorem dL_query_2 : decode cL_query 2 = .ok (.aload_n 0, 1) := by decide +kernel
theorem dL_query_3 : decode cL_query 3 = .ok (.iload_n 1, 1) := by decide +kernel
theorem dL_query_4 : decode cL_query 4 = .ok (.invokevirtual 99, 3) := by decide +kernel
theorem dL_query_7 : decode cL_query 7 = .ok (.i2l, 1) := by decide +kernel
theorem dL_query_8 : decode cL_query 8 = .ok (.lastore, 1) := by decide +kernel
theorem dL_query_9 : decode cL_query 9 = .ok (.goto 6, 3) := by decide +kernel
theorem dL_query_12 : decode cL_query 12 = .ok (.astore_n 3, 1) := by decide +kernel
theorem dL_query_13 : decode cL_query 13 = .ok (.iconst 1, 1) := by decide +kernel
theorem dL_query_14 : decode cL_query 14 = .ok (.ireturn, 1) := by decide +kernel
theorem dL_query_15 : decode cL_query 15 = .ok (.iconst 0, 1) := by decide +kernel
theorem dL_query_16 : decode cL_query 16 = .ok (.ireturn, 1) := by decide +kernel
variable {G : zG} {d d2 : Nat} {σ : zMem} {b out : Nat} {x1 x2 x3 x4 : Int} {Qc : zRes → zMem → Prop}
def lQ (σ : zMem) (out : Nat) (r : zRes) (σ1 : zMem) : Prop := (out < zn σ1 ∧ zkd σ1 out = (4, 1)) ∧ ((∃ v, r = .inl (some (zI v))) ∨ (r = .inr eNSE ∧ zn σ1 = zn σ) ∨ (r = .inr eIAE ∧ zn σ1 = zn σ))
def lP (Qc : zRes → zMem → Prop) (out : Nat) (kI : Int) (ro : zRes) (σ1 : zMem) : Prop := ∃ r σ2, Qc r σ2 ∧ ((∃ v, r = .inl (some (zI v)) ∧ ro = .inl (some (zI 0)) ∧ σ1 = zsi σ2 out 0 (zw32 v)) ∨ (r = .inr eNSE ∧ ro = .inl (some (zI 1)) ∧ σ1 = σ2) ∨ (r = .inr eIAE ∧ ro = .inl (some (zI kI)) ∧ σ1 = σ2))
abbrev mL_load : zMeth := (yL_load, cL_load, 4, some .int)
abbrev hL_load : List (Nat × Nat × Nat × Nat) := [(0, 9, 12, 13)]
theorem wL_load : Cond.codeWith yL_load cL_load 4 (some .int) hL_load ∈ lw_all := zi4 93 rfl rfl
theorem kL_load : zCL RL 7 mX11_load 1 := ⟨zi4 95 rfl rfl, wX11_load, zi1 1 rfl rfl, ⟨by decide, by decide, by decide +kernel⟩, by decide⟩
theorem hL_load_eIAE : zhand G mL_load 4 eIAE 3 13 := ⟨_, _, _, _, [], (0, 9, 12, 13), [], eIAE, 12, wL_load, rfl, (fun z hz => nomatch hz), by decide, rfl, by decide, zi4 94 rfl rfl, zj4 105 rfl rfl, by decide, Or.inr ⟨3, dL_load_12, rfl, rfl⟩⟩
theorem zl_load (hd2 : d2 + 1 ≤ d) (hb : zkd σ b = (0, 11)) (hbn : b < zn σ) (hon : out < zn σ) (k : zE G mX11_load d2 [zR b, zI x1] σ Qc) (hQ : ∀ r σ1, Qc r σ1 → lQ σ out r σ1) (nN : ∀ σ1, ¬ Qc (.inr eNSE) σ1) : zEH G mL_load hL_load d [zR b, zI x1, zR out] σ (lP Qc out 1) := by
  refine zE_ofH rfl rfl (by simp [zcat]) (Nat.le_of_ble_eq_true rfl) ?_
  show zF G mL_load d 0 [(0, zR b), (1, zI x1), (2, zR out)] [] σ _
  refine zF_aload_n 1 dL_load_0 rfl rfl ?_
  refine zF_iconst 2 dL_load_1 rfl ?_
  refine zF_aload_n 3 dL_load_2 rfl rfl ?_
  refine zF_iload_n 4 dL_load_3 rfl rfl ?_
  refine zF_callVHn 7 (d2 := d2) (as := [zI x1]) (rest := [zI 0, zR out]) dL_load_4 rfl kL_load iX11_load (ci := 11) rfl eX11_load hd2 hb hbn rfl rfl (Nat.le_of_ble_eq_true rfl) ⟨zwR hbn, trivial, zwR hon, trivial⟩ ⟨trivial, zwR hon, trivial⟩ (k.mono fun r σ1 hh => ?_)
  obtain ⟨⟨o1, o2⟩, hq⟩ := hQ r σ1 hh
  rcases hq with ⟨v, e⟩ | ⟨e, en⟩ | ⟨e, en⟩ <;> subst e
  · show zF G mL_load d 7 [(0, zR b), (1, zI x1), (2, zR out)] [zI v, zI 0, zR out] σ1 _
    refine zF_wI ?_
    refine zF_i2l 8 dL_load_7 rfl (zw32_rg _) ?_
    refine zF_lastore 9 dL_load_8 rfl o2 o1 (by decide) (by decide) ?_
    refine zF_goto 15 dL_load_9 rfl ?_
    exact zF_iconst 16 dL_load_15 rfl (zF_ireturn dL_load_16 rfl ⟨_, σ1, hh, Or.inl ⟨v, rfl, rfl, rfl⟩⟩)
  · exact absurd hh (nN σ1)
  · exact ⟨en, 3, 13, hL_load_eIAE, zF_iconst 14 dL_load_13 rfl (zF_ireturn dL_load_14 rfl ⟨_, σ1, hh, Or.inr (Or.inr ⟨rfl, rfl, rfl⟩)⟩)⟩
abbrev mL_size : zMeth := (yL_size, cL_size, 4, some .int)
abbrev hL_size : List (Nat × Nat × Nat × Nat) := [(0, 9, 12, 18)]
theorem wL_size : Cond.codeWith yL_size cL_size 4 (some .int) hL_size ∈ lw_all := zi5 66 rfl rfl
theorem kL_size : zCL RL 15 mX11_size 1 := ⟨zi5 68 rfl rfl, wX11_size, zi1 1 rfl rfl, ⟨by decide, by decide, by decide +kernel⟩, by decide⟩
theorem hL_size_eNSE : zhand G mL_size 4 eNSE 3 13 := ⟨_, _, _, _, [], (0, 9, 12, 18), [], eNSE, 12, wL_size, rfl, (fun z hz => nomatch hz), by decide, rfl, by decide, zi5 67 rfl rfl, zj5 79 rfl rfl, by decide, Or.inr ⟨3, dL_size_12, rfl, rfl⟩⟩
theorem zl_size (hd2 : d2 + 1 ≤ d) (hb : zkd σ b = (0, 11)) (hbn : b < zn σ) (hon : out < zn σ) (k : zE G mX11_size d2 [zR b, zI x1] σ Qc) (hQ : ∀ r σ1, Qc r σ1 → lQ σ out r σ1) (nI : ∀ σ1, ¬ Qc (.inr eIAE) σ1) : zEH G mL_size hL_size d [zR b, zI x1, zR out] σ (lP Qc out 1) := by
  refine zE_ofH rfl rfl (by simp [zcat]) (Nat.le_of_ble_eq_true rfl) ?_
  show zF G mL_size d 0 [(0, zR b), (1, zI x1), (2, zR out)] [] σ _
  refine zF_aload_n 1 dL_size_0 rfl rfl ?_
  refine zF_iconst 2 dL_size_1 rfl ?_
  refine zF_aload_n 3 dL_size_2 rfl rfl ?_
  refine zF_iload_n 4 dL_size_3 rfl rfl ?_
  refine zF_callVHn 7 (d2 := d2) (as := [zI x1]) (rest := [zI 0, zR out]) dL_size_4 rfl kL_size iX11_size (ci := 11) rfl eX11_size hd2 hb hbn rfl rfl (Nat.le_of_ble_eq_true rfl) ⟨zwR hbn, trivial, zwR hon, trivial⟩ ⟨trivial, zwR hon, trivial⟩ (k.mono fun r σ1 hh => ?_)
  obtain ⟨⟨o1, o2⟩, hq⟩ := hQ r σ1 hh
  rcases hq with ⟨v, e⟩ | ⟨e, en⟩ | ⟨e, en⟩ <;> subst e
  · show zF G mL_size d 7 [(0, zR b), (1, zI x1), (2, zR out)] [zI v, zI 0, zR out] σ1 _
    refine zF_wI ?_
    refine zF_i2l 8 dL_size_7 rfl (zw32_rg _) ?_
    refine zF_lastore 9 dL_size_8 rfl o2 o1 (by decide) (by decide) ?_
    refine zF_goto 15 dL_size_9 rfl ?_
    exact zF_iconst 16 dL_size_15 rfl (zF_ireturn dL_size_16 rfl ⟨_, σ1, hh, Or.inl ⟨v, rfl, rfl, rfl⟩⟩)
  · exact ⟨en, 3, 13, hL_size_eNSE, zF_iconst 14 dL_size_13 rfl (zF_ireturn dL_size_14 rfl ⟨_, σ1, hh, Or.inr (Or.inl ⟨rfl, rfl, rfl⟩)⟩)⟩
  · exact absurd hh (nI σ1)
abbrev mL_house : zMeth := (yL_house, cL_house, 5, some .int)
abbrev hL_house : List (Nat × Nat × Nat × Nat) := [(0, 10, 13, 18)]
theorem wL_house : Cond.codeWith yL_house cL_house 5 (some .int) hL_house ∈ lw_all := zi5 95 rfl rfl
theorem kL_house : zCL RL 20 mX11_house 2 := ⟨zi5 96 rfl rfl, wX11_house, zi1 1 rfl rfl, ⟨by decide, by decide, by decide +kernel⟩, by decide⟩
theorem hL_house_eNSE : zhand G mL_house 5 eNSE 4 15 := ⟨_, _, _, _, [], (0, 10, 13, 18), [], eNSE, 13, wL_house, rfl, (fun z hz => nomatch hz), by decide, rfl, by decide, zi5 67 rfl rfl, zj5 79 rfl rfl, by decide, Or.inl ⟨dL_house_13, rfl⟩⟩
theorem zl_house (hd2 : d2 + 1 ≤ d) (hb : zkd σ b = (0, 11)) (hbn : b < zn σ) (hon : out < zn σ) (k : zE G mX11_house d2 [zR b, zI x1, zI x2] σ Qc) (hQ : ∀ r σ1, Qc r σ1 → lQ σ out r σ1) (nI : ∀ σ1, ¬ Qc (.inr eIAE) σ1) : zEH G mL_house hL_house d [zR b, zI x1, zI x2, zR out] σ (lP Qc out 1) := by
  refine zE_ofH rfl rfl (by simp [zcat]) (Nat.le_of_ble_eq_true rfl) ?_
  show zF G mL_house d 0 [(0, zR b), (1, zI x1), (2, zI x2), (3, zR out)] [] σ _
  refine zF_aload_n 1 dL_house_0 rfl rfl ?_
  refine zF_iconst 2 dL_house_1 rfl ?_
  refine zF_aload_n 3 dL_house_2 rfl rfl ?_
  refine zF_iload_n 4 dL_house_3 rfl rfl ?_
  refine zF_iload_n 5 dL_house_4 rfl rfl ?_
  refine zF_callVHn 8 (d2 := d2) (as := [zI x1, zI x2]) (rest := [zI 0, zR out]) dL_house_5 rfl kL_house iX11_house (ci := 11) rfl eX11_house hd2 hb hbn rfl rfl (Nat.le_of_ble_eq_true rfl) ⟨zwR hbn, trivial, trivial, zwR hon, trivial⟩ ⟨trivial, zwR hon, trivial⟩ (k.mono fun r σ1 hh => ?_)
  obtain ⟨⟨o1, o2⟩, hq⟩ := hQ r σ1 hh
  rcases hq with ⟨v, e⟩ | ⟨e, en⟩ | ⟨e, en⟩ <;> subst e
  · show zF G mL_house d 8 [(0, zR b), (1, zI x1), (2, zI x2), (3, zR out)] [zI v, zI 0, zR out] σ1 _
    refine zF_wI ?_
    refine zF_i2l 9 dL_house_8 rfl (zw32_rg _) ?_
    refine zF_lastore 10 dL_house_9 rfl o2 o1 (by decide) (by decide) ?_
    refine zF_goto 17 dL_house_10 rfl ?_
    exact zF_iconst 18 dL_house_17 rfl (zF_ireturn dL_house_18 rfl ⟨_, σ1, hh, Or.inl ⟨v, rfl, rfl, rfl⟩⟩)
  · exact ⟨en, 4, 15, hL_house_eNSE, zF_iconst 16 dL_house_15 rfl (zF_ireturn dL_house_16 rfl ⟨_, σ1, hh, Or.inr (Or.inl ⟨rfl, rfl, rfl⟩)⟩)⟩
  · exact absurd hh (nI σ1)
abbrev mL_screen : zMeth := (yL_screen, cL_screen, 5, some .int)
abbrev hL_screen : List (Nat × Nat × Nat × Nat) := [(0, 10, 13, 18)]
theorem wL_screen : Cond.codeWith yL_screen cL_screen 5 (some .int) hL_screen ∈ lw_all := zi5 113 rfl rfl
theorem kL_screen : zCL RL 24 mX11_screen 2 := ⟨zi5 114 rfl rfl, wX11_screen, zi1 1 rfl rfl, ⟨by decide, by decide, by decide +kernel⟩, by decide⟩
theorem hL_screen_eNSE : zhand G mL_screen 5 eNSE 4 15 := ⟨_, _, _, _, [], (0, 10, 13, 18), [], eNSE, 13, wL_screen, rfl, (fun z hz => nomatch hz), by decide, rfl, by decide, zi5 67 rfl rfl, zj5 79 rfl rfl, by decide, Or.inl ⟨dL_screen_13, rfl⟩⟩
theorem zl_screen (hd2 : d2 + 1 ≤ d) (hb : zkd σ b = (0, 11)) (hbn : b < zn σ) (hon : out < zn σ) (k : zE G mX11_screen d2 [zR b, zI x1, zI x2] σ Qc) (hQ : ∀ r σ1, Qc r σ1 → lQ σ out r σ1) (nI : ∀ σ1, ¬ Qc (.inr eIAE) σ1) : zEH G mL_screen hL_screen d [zR b, zI x1, zI x2, zR out] σ (lP Qc out 1) := by
  refine zE_ofH rfl rfl (by simp [zcat]) (Nat.le_of_ble_eq_true rfl) ?_
  show zF G mL_screen d 0 [(0, zR b), (1, zI x1), (2, zI x2), (3, zR out)] [] σ _
  refine zF_aload_n 1 dL_screen_0 rfl rfl ?_
  refine zF_iconst 2 dL_screen_1 rfl ?_
  refine zF_aload_n 3 dL_screen_2 rfl rfl ?_
  refine zF_iload_n 4 dL_screen_3 rfl rfl ?_
  refine zF_iload_n 5 dL_screen_4 rfl rfl ?_
  refine zF_callVHn 8 (d2 := d2) (as := [zI x1, zI x2]) (rest := [zI 0, zR out]) dL_screen_5 rfl kL_screen iX11_screen (ci := 11) rfl eX11_screen hd2 hb hbn rfl rfl (Nat.le_of_ble_eq_true rfl) ⟨zwR hbn, trivial, trivial, zwR hon, trivial⟩ ⟨trivial, zwR hon, trivial⟩ (k.mono fun r σ1 hh => ?_)
  obtain ⟨⟨o1, o2⟩, hq⟩ := hQ r σ1 hh
  rcases hq with ⟨v, e⟩ | ⟨e, en⟩ | ⟨e, en⟩ <;> subst e
  · show zF G mL_screen d 8 [(0, zR b), (1, zI x1), (2, zI x2), (3, zR out)] [zI v, zI 0, zR out] σ1 _
    refine zF_wI ?_
    refine zF_i2l 9 dL_screen_8 rfl (zw32_rg _) ?_
    refine zF_lastore 10 dL_screen_9 rfl o2 o1 (by decide) (by decide) ?_
    refine zF_goto 17 dL_screen_10 rfl ?_
    exact zF_iconst 18 dL_screen_17 rfl (zF_ireturn dL_screen_18 rfl ⟨_, σ1, hh, Or.inl ⟨v, rfl, rfl, rfl⟩⟩)
  · exact ⟨en, 4, 15, hL_screen_eNSE, zF_iconst 16 dL_screen_15 rfl (zF_ireturn dL_screen_16 rfl ⟨_, σ1, hh, Or.inr (Or.inl ⟨rfl, rfl, rfl⟩)⟩)⟩
  · exact absurd hh (nI σ1)
abbrev mL_film : zMeth := (yL_film, cL_film, 5, some .int)
abbrev hL_film : List (Nat × Nat × Nat × Nat) := [(0, 10, 13, 18)]
theorem wL_film : Cond.codeWith yL_film cL_film 5 (some .int) hL_film ∈ lw_all := zi5 126 rfl rfl
theorem kL_film : zCL RL 27 mX11_film 2 := ⟨zi5 127 rfl rfl, wX11_film, zi1 1 rfl rfl, ⟨by decide, by decide, by decide +kernel⟩, by decide⟩
theorem hL_film_eNSE : zhand G mL_film 5 eNSE 4 15 := ⟨_, _, _, _, [], (0, 10, 13, 18), [], eNSE, 13, wL_film, rfl, (fun z hz => nomatch hz), by decide, rfl, by decide, zi5 67 rfl rfl, zj5 79 rfl rfl, by decide, Or.inl ⟨dL_film_13, rfl⟩⟩
theorem zl_film (hd2 : d2 + 1 ≤ d) (hb : zkd σ b = (0, 11)) (hbn : b < zn σ) (hon : out < zn σ) (k : zE G mX11_film d2 [zR b, zI x1, zI x2] σ Qc) (hQ : ∀ r σ1, Qc r σ1 → lQ σ out r σ1) (nI : ∀ σ1, ¬ Qc (.inr eIAE) σ1) : zEH G mL_film hL_film d [zR b, zI x1, zI x2, zR out] σ (lP Qc out 1) := by
  refine zE_ofH rfl rfl (by simp [zcat]) (Nat.le_of_ble_eq_true rfl) ?_
  show zF G mL_film d 0 [(0, zR b), (1, zI x1), (2, zI x2), (3, zR out)] [] σ _
  refine zF_aload_n 1 dL_film_0 rfl rfl ?_
  refine zF_iconst 2 dL_film_1 rfl ?_
  refine zF_aload_n 3 dL_film_2 rfl rfl ?_
  refine zF_iload_n 4 dL_film_3 rfl rfl ?_
  refine zF_iload_n 5 dL_film_4 rfl rfl ?_
  refine zF_callVHn 8 (d2 := d2) (as := [zI x1, zI x2]) (rest := [zI 0, zR out]) dL_film_5 rfl kL_film iX11_film (ci := 11) rfl eX11_film hd2 hb hbn rfl rfl (Nat.le_of_ble_eq_true rfl) ⟨zwR hbn, trivial, trivial, zwR hon, trivial⟩ ⟨trivial, zwR hon, trivial⟩ (k.mono fun r σ1 hh => ?_)
  obtain ⟨⟨o1, o2⟩, hq⟩ := hQ r σ1 hh
  rcases hq with ⟨v, e⟩ | ⟨e, en⟩ | ⟨e, en⟩ <;> subst e
  · show zF G mL_film d 8 [(0, zR b), (1, zI x1), (2, zI x2), (3, zR out)] [zI v, zI 0, zR out] σ1 _
    refine zF_wI ?_
    refine zF_i2l 9 dL_film_8 rfl (zw32_rg _) ?_
    refine zF_lastore 10 dL_film_9 rfl o2 o1 (by decide) (by decide) ?_
    refine zF_goto 17 dL_film_10 rfl ?_
    exact zF_iconst 18 dL_film_17 rfl (zF_ireturn dL_film_18 rfl ⟨_, σ1, hh, Or.inl ⟨v, rfl, rfl, rfl⟩⟩)
  · exact ⟨en, 4, 15, hL_film_eNSE, zF_iconst 16 dL_film_15 rfl (zF_ireturn dL_film_16 rfl ⟨_, σ1, hh, Or.inr (Or.inl ⟨rfl, rfl, rfl⟩)⟩)⟩
  · exact absurd hh (nI σ1)
abbrev mL_term : zMeth := (yL_term, cL_term, 5, some .int)
abbrev hL_term : List (Nat × Nat × Nat × Nat) := [(0, 10, 13, 18)]
theorem wL_term : Cond.codeWith yL_term cL_term 5 (some .int) hL_term ∈ lw_all := zi5 143 rfl rfl
theorem kL_term : zCL RL 30 mX11_term 2 := ⟨zi5 144 rfl rfl, wX11_term, zi1 1 rfl rfl, ⟨by decide, by decide, by decide +kernel⟩, by decide⟩
theorem hL_term_eNSE : zhand G mL_term 5 eNSE 4 15 := ⟨_, _, _, _, [], (0, 10, 13, 18), [], eNSE, 13, wL_term, rfl, (fun z hz => nomatch hz), by decide, rfl, by decide, zi5 67 rfl rfl, zj5 79 rfl rfl, by decide, Or.inl ⟨dL_term_13, rfl⟩⟩
theorem zl_term (hd2 : d2 + 1 ≤ d) (hb : zkd σ b = (0, 11)) (hbn : b < zn σ) (hon : out < zn σ) (k : zE G mX11_term d2 [zR b, zI x1, zI x2] σ Qc) (hQ : ∀ r σ1, Qc r σ1 → lQ σ out r σ1) (nI : ∀ σ1, ¬ Qc (.inr eIAE) σ1) : zEH G mL_term hL_term d [zR b, zI x1, zI x2, zR out] σ (lP Qc out 1) := by
  refine zE_ofH rfl rfl (by simp [zcat]) (Nat.le_of_ble_eq_true rfl) ?_
  show zF G mL_term d 0 [(0, zR b), (1, zI x1), (2, zI x2), (3, zR out)] [] σ _
  refine zF_aload_n 1 dL_term_0 rfl rfl ?_
  refine zF_iconst 2 dL_term_1 rfl ?_
  refine zF_aload_n 3 dL_term_2 rfl rfl ?_
  refine zF_iload_n 4 dL_term_3 rfl rfl ?_
  refine zF_iload_n 5 dL_term_4 rfl rfl ?_
  refine zF_callVHn 8 (d2 := d2) (as := [zI x1, zI x2]) (rest := [zI 0, zR out]) dL_term_5 rfl kL_term iX11_term (ci := 11) rfl eX11_term hd2 hb hbn rfl rfl (Nat.le_of_ble_eq_true rfl) ⟨zwR hbn, trivial, trivial, zwR hon, trivial⟩ ⟨trivial, zwR hon, trivial⟩ (k.mono fun r σ1 hh => ?_)
  obtain ⟨⟨o1, o2⟩, hq⟩ := hQ r σ1 hh
  rcases hq with ⟨v, e⟩ | ⟨e, en⟩ | ⟨e, en⟩ <;> subst e
  · show zF G mL_term d 8 [(0, zR b), (1, zI x1), (2, zI x2), (3, zR out)] [zI v, zI 0, zR out] σ1 _
    refine zF_wI ?_
    refine zF_i2l 9 dL_term_8 rfl (zw32_rg _) ?_
    refine zF_lastore 10 dL_term_9 rfl o2 o1 (by decide) (by decide) ?_
    refine zF_goto 17 dL_term_10 rfl ?_
    exact zF_iconst 18 dL_term_17 rfl (zF_ireturn dL_term_18 rfl ⟨_, σ1, hh, Or.inl ⟨v, rfl, rfl, rfl⟩⟩)
  · exact ⟨en, 4, 15, hL_term_eNSE, zF_iconst 16 dL_term_15 rfl (zF_ireturn dL_term_16 rfl ⟨_, σ1, hh, Or.inr (Or.inl ⟨rfl, rfl, rfl⟩)⟩)⟩
  · exact absurd hh (nI σ1)
abbrev mL_prints : zMeth := (yL_prints, cL_prints, 5, some .int)
abbrev hL_prints : List (Nat × Nat × Nat × Nat) := [(0, 10, 13, 18)]
theorem wL_prints : Cond.codeWith yL_prints cL_prints 5 (some .int) hL_prints ∈ lw_all := zi5 151 rfl rfl
theorem kL_prints : zCL RL 33 mX11_prints 2 := ⟨zi5 152 rfl rfl, wX11_prints, zi1 1 rfl rfl, ⟨by decide, by decide, by decide +kernel⟩, by decide⟩
theorem hL_prints_eNSE : zhand G mL_prints 5 eNSE 4 15 := ⟨_, _, _, _, [], (0, 10, 13, 18), [], eNSE, 13, wL_prints, rfl, (fun z hz => nomatch hz), by decide, rfl, by decide, zi5 67 rfl rfl, zj5 79 rfl rfl, by decide, Or.inl ⟨dL_prints_13, rfl⟩⟩
theorem zl_prints (hd2 : d2 + 1 ≤ d) (hb : zkd σ b = (0, 11)) (hbn : b < zn σ) (hon : out < zn σ) (k : zE G mX11_prints d2 [zR b, zI x1, zI x2] σ Qc) (hQ : ∀ r σ1, Qc r σ1 → lQ σ out r σ1) (nI : ∀ σ1, ¬ Qc (.inr eIAE) σ1) : zEH G mL_prints hL_prints d [zR b, zI x1, zI x2, zR out] σ (lP Qc out 1) := by
  refine zE_ofH rfl rfl (by simp [zcat]) (Nat.le_of_ble_eq_true rfl) ?_
  show zF G mL_prints d 0 [(0, zR b), (1, zI x1), (2, zI x2), (3, zR out)] [] σ _
  refine zF_aload_n 1 dL_prints_0 rfl rfl ?_
  refine zF_iconst 2 dL_prints_1 rfl ?_
  refine zF_aload_n 3 dL_prints_2 rfl rfl ?_
  refine zF_iload_n 4 dL_prints_3 rfl rfl ?_
  refine zF_iload_n 5 dL_prints_4 rfl rfl ?_
  refine zF_callVHn 8 (d2 := d2) (as := [zI x1, zI x2]) (rest := [zI 0, zR out]) dL_prints_5 rfl kL_prints iX11_prints (ci := 11) rfl eX11_prints hd2 hb hbn rfl rfl (Nat.le_of_ble_eq_true rfl) ⟨zwR hbn, trivial, trivial, zwR hon, trivial⟩ ⟨trivial, zwR hon, trivial⟩ (k.mono fun r σ1 hh => ?_)
  obtain ⟨⟨o1, o2⟩, hq⟩ := hQ r σ1 hh
  rcases hq with ⟨v, e⟩ | ⟨e, en⟩ | ⟨e, en⟩ <;> subst e
  · show zF G mL_prints d 8 [(0, zR b), (1, zI x1), (2, zI x2), (3, zR out)] [zI v, zI 0, zR out] σ1 _
    refine zF_wI ?_
    refine zF_i2l 9 dL_prints_8 rfl (zw32_rg _) ?_
    refine zF_lastore 10 dL_prints_9 rfl o2 o1 (by decide) (by decide) ?_
    refine zF_goto 17 dL_prints_10 rfl ?_
    exact zF_iconst 18 dL_prints_17 rfl (zF_ireturn dL_prints_18 rfl ⟨_, σ1, hh, Or.inl ⟨v, rfl, rfl, rfl⟩⟩)
  · exact ⟨en, 4, 15, hL_prints_eNSE, zF_iconst 16 dL_prints_15 rfl (zF_ireturn dL_prints_16 rfl ⟨_, σ1, hh, Or.inr (Or.inl ⟨rfl, rfl, rfl⟩)⟩)⟩
  · exact absurd hh (nI σ1)
abbrev mL_shown : zMeth := (yL_shown, cL_shown, 5, some .int)
abbrev hL_shown : List (Nat × Nat × Nat × Nat) := [(0, 10, 13, 18), (0, 10, 17, 13)]
theorem wL_shown : Cond.codeWith yL_shown cL_shown 5 (some .int) hL_shown ∈ lw_all := zi5 164 rfl rfl
theorem kL_shown : zCL RL 36 mX11_shown 2 := ⟨zi5 165 rfl rfl, wX11_shown, zi1 1 rfl rfl, ⟨by decide, by decide, by decide +kernel⟩, by decide⟩
theorem hL_shown_eNSE : zhand G mL_shown 5 eNSE 4 15 := ⟨_, _, _, _, [], (0, 10, 13, 18), [(0, 10, 17, 13)], eNSE, 13, wL_shown, rfl, (fun z hz => nomatch hz), by decide, rfl, by decide, zi5 67 rfl rfl, zj5 79 rfl rfl, by decide, Or.inl ⟨dL_shown_13, rfl⟩⟩
theorem hL_shown_eIAE (hX : zNx G) : zhand G mL_shown 5 eIAE 4 19 := ⟨_, _, _, _, [(0, 10, 13, 18)], (0, 10, 17, 13), [], eIAE, 17, wL_shown, rfl, (fun z hz => Or.inr (by rw [List.mem_singleton.mp hz]; exact ⟨by decide, eNSE, zi5 67 rfl rfl, hX⟩)), by decide, rfl, by decide, zi4 94 rfl rfl, zj4 105 rfl rfl, by decide, Or.inl ⟨dL_shown_17, rfl⟩⟩
theorem zl_shown (hd2 : d2 + 1 ≤ d) (hb : zkd σ b = (0, 11)) (hbn : b < zn σ) (hon : out < zn σ) (k : zE G mX11_shown d2 [zR b, zI x1, zI x2] σ Qc) (hQ : ∀ r σ1, Qc r σ1 → lQ σ out r σ1) (hX : zNx G) : zEH G mL_shown hL_shown d [zR b, zI x1, zI x2, zR out] σ (lP Qc out 2) := by
  refine zE_ofH rfl rfl (by simp [zcat]) (Nat.le_of_ble_eq_true rfl) ?_
  show zF G mL_shown d 0 [(0, zR b), (1, zI x1), (2, zI x2), (3, zR out)] [] σ _
  refine zF_aload_n 1 dL_shown_0 rfl rfl ?_
  refine zF_iconst 2 dL_shown_1 rfl ?_
  refine zF_aload_n 3 dL_shown_2 rfl rfl ?_
  refine zF_iload_n 4 dL_shown_3 rfl rfl ?_
  refine zF_iload_n 5 dL_shown_4 rfl rfl ?_
  refine zF_callVHn 8 (d2 := d2) (as := [zI x1, zI x2]) (rest := [zI 0, zR out]) dL_shown_5 rfl kL_shown iX11_shown (ci := 11) rfl eX11_shown hd2 hb hbn rfl rfl (Nat.le_of_ble_eq_true rfl) ⟨zwR hbn, trivial, trivial, zwR hon, trivial⟩ ⟨trivial, zwR hon, trivial⟩ (k.mono fun r σ1 hh => ?_)
  obtain ⟨⟨o1, o2⟩, hq⟩ := hQ r σ1 hh
  rcases hq with ⟨v, e⟩ | ⟨e, en⟩ | ⟨e, en⟩ <;> subst e
  · show zF G mL_shown d 8 [(0, zR b), (1, zI x1), (2, zI x2), (3, zR out)] [zI v, zI 0, zR out] σ1 _
    refine zF_wI ?_
    refine zF_i2l 9 dL_shown_8 rfl (zw32_rg _) ?_
    refine zF_lastore 10 dL_shown_9 rfl o2 o1 (by decide) (by decide) ?_
    refine zF_goto 21 dL_shown_10 rfl ?_
    exact zF_iconst 22 dL_shown_21 rfl (zF_ireturn dL_shown_22 rfl ⟨_, σ1, hh, Or.inl ⟨v, rfl, rfl, rfl⟩⟩)
  · exact ⟨en, 4, 15, hL_shown_eNSE, zF_iconst 16 dL_shown_15 rfl (zF_ireturn dL_shown_16 rfl ⟨_, σ1, hh, Or.inr (Or.inl ⟨rfl, rfl, rfl⟩)⟩)⟩
  · exact ⟨en, 4, 19, hL_shown_eIAE hX, zF_iconst 20 dL_shown_19 rfl (zF_ireturn dL_shown_20 rfl ⟨_, σ1, hh, Or.inr (Or.inr ⟨rfl, rfl, rfl⟩)⟩)⟩
abbrev mL_visitors : zMeth := (yL_visitors, cL_visitors, 5, some .int)
abbrev hL_visitors : List (Nat × Nat × Nat × Nat) := [(0, 10, 13, 18), (0, 10, 17, 13)]
theorem wL_visitors : Cond.codeWith yL_visitors cL_visitors 5 (some .int) hL_visitors ∈ lw_all := zi5 177 rfl rfl
theorem kL_visitors : zCL RL 39 mX11_visitors 2 := ⟨zi5 178 rfl rfl, wX11_visitors, zi1 1 rfl rfl, ⟨by decide, by decide, by decide +kernel⟩, by decide⟩
theorem hL_visitors_eNSE : zhand G mL_visitors 5 eNSE 4 15 := ⟨_, _, _, _, [], (0, 10, 13, 18), [(0, 10, 17, 13)], eNSE, 13, wL_visitors, rfl, (fun z hz => nomatch hz), by decide, rfl, by decide, zi5 67 rfl rfl, zj5 79 rfl rfl, by decide, Or.inl ⟨dL_visitors_13, rfl⟩⟩
theorem hL_visitors_eIAE (hX : zNx G) : zhand G mL_visitors 5 eIAE 4 19 := ⟨_, _, _, _, [(0, 10, 13, 18)], (0, 10, 17, 13), [], eIAE, 17, wL_visitors, rfl, (fun z hz => Or.inr (by rw [List.mem_singleton.mp hz]; exact ⟨by decide, eNSE, zi5 67 rfl rfl, hX⟩)), by decide, rfl, by decide, zi4 94 rfl rfl, zj4 105 rfl rfl, by decide, Or.inl ⟨dL_visitors_17, rfl⟩⟩
theorem zl_visitors (hd2 : d2 + 1 ≤ d) (hb : zkd σ b = (0, 11)) (hbn : b < zn σ) (hon : out < zn σ) (k : zE G mX11_visitors d2 [zR b, zI x1, zI x2] σ Qc) (hQ : ∀ r σ1, Qc r σ1 → lQ σ out r σ1) (hX : zNx G) : zEH G mL_visitors hL_visitors d [zR b, zI x1, zI x2, zR out] σ (lP Qc out 2) := by
  refine zE_ofH rfl rfl (by simp [zcat]) (Nat.le_of_ble_eq_true rfl) ?_
  show zF G mL_visitors d 0 [(0, zR b), (1, zI x1), (2, zI x2), (3, zR out)] [] σ _
  refine zF_aload_n 1 dL_visitors_0 rfl rfl ?_
  refine zF_iconst 2 dL_visitors_1 rfl ?_
  refine zF_aload_n 3 dL_visitors_2 rfl rfl ?_
  refine zF_iload_n 4 dL_visitors_3 rfl rfl ?_
  refine zF_iload_n 5 dL_visitors_4 rfl rfl ?_
  refine zF_callVHn 8 (d2 := d2) (as := [zI x1, zI x2]) (rest := [zI 0, zR out]) dL_visitors_5 rfl kL_visitors iX11_visitors (ci := 11) rfl eX11_visitors hd2 hb hbn rfl rfl (Nat.le_of_ble_eq_true rfl) ⟨zwR hbn, trivial, trivial, zwR hon, trivial⟩ ⟨trivial, zwR hon, trivial⟩ (k.mono fun r σ1 hh => ?_)
  obtain ⟨⟨o1, o2⟩, hq⟩ := hQ r σ1 hh
  rcases hq with ⟨v, e⟩ | ⟨e, en⟩ | ⟨e, en⟩ <;> subst e
  · show zF G mL_visitors d 8 [(0, zR b), (1, zI x1), (2, zI x2), (3, zR out)] [zI v, zI 0, zR out] σ1 _
    refine zF_wI ?_
    refine zF_i2l 9 dL_visitors_8 rfl (zw32_rg _) ?_
    refine zF_lastore 10 dL_visitors_9 rfl o2 o1 (by decide) (by decide) ?_
    refine zF_goto 21 dL_visitors_10 rfl ?_
    exact zF_iconst 22 dL_visitors_21 rfl (zF_ireturn dL_visitors_22 rfl ⟨_, σ1, hh, Or.inl ⟨v, rfl, rfl, rfl⟩⟩)
  · exact ⟨en, 4, 15, hL_visitors_eNSE, zF_iconst 16 dL_visitors_15 rfl (zF_ireturn dL_visitors_16 rfl ⟨_, σ1, hh, Or.inr (Or.inl ⟨rfl, rfl, rfl⟩)⟩)⟩
  · exact ⟨en, 4, 19, hL_visitors_eIAE hX, zF_iconst 20 dL_visitors_19 rfl (zF_ireturn dL_visitors_20 rfl ⟨_, σ1, hh, Or.inr (Or.inr ⟨rfl, rfl, rfl⟩)⟩)⟩
abbrev mL_share : zMeth := (yL_share, cL_share, 5, some .int)
abbrev hL_share : List (Nat × Nat × Nat × Nat) := [(0, 10, 13, 18)]
theorem wL_share : Cond.codeWith yL_share cL_share 5 (some .int) hL_share ∈ lw_all := zi5 185 rfl rfl
theorem kL_share : zCL RL 42 mX11_share 2 := ⟨zi5 186 rfl rfl, wX11_share, zi1 1 rfl rfl, ⟨by decide, by decide, by decide +kernel⟩, by decide⟩
theorem hL_share_eNSE : zhand G mL_share 5 eNSE 4 15 := ⟨_, _, _, _, [], (0, 10, 13, 18), [], eNSE, 13, wL_share, rfl, (fun z hz => nomatch hz), by decide, rfl, by decide, zi5 67 rfl rfl, zj5 79 rfl rfl, by decide, Or.inl ⟨dL_share_13, rfl⟩⟩
theorem zl_share (hd2 : d2 + 1 ≤ d) (hb : zkd σ b = (0, 11)) (hbn : b < zn σ) (hon : out < zn σ) (k : zE G mX11_share d2 [zR b, zI x1, zI x2] σ Qc) (hQ : ∀ r σ1, Qc r σ1 → lQ σ out r σ1) (nI : ∀ σ1, ¬ Qc (.inr eIAE) σ1) : zEH G mL_share hL_share d [zR b, zI x1, zI x2, zR out] σ (lP Qc out 1) := by
  refine zE_ofH rfl rfl (by simp [zcat]) (Nat.le_of_ble_eq_true rfl) ?_
  show zF G mL_share d 0 [(0, zR b), (1, zI x1), (2, zI x2), (3, zR out)] [] σ _
  refine zF_aload_n 1 dL_share_0 rfl rfl ?_
  refine zF_iconst 2 dL_share_1 rfl ?_
  refine zF_aload_n 3 dL_share_2 rfl rfl ?_
  refine zF_iload_n 4 dL_share_3 rfl rfl ?_
  refine zF_iload_n 5 dL_share_4 rfl rfl ?_
  refine zF_callVHn 8 (d2 := d2) (as := [zI x1, zI x2]) (rest := [zI 0, zR out]) dL_share_5 rfl kL_share iX11_share (ci := 11) rfl eX11_share hd2 hb hbn rfl rfl (Nat.le_of_ble_eq_true rfl) ⟨zwR hbn, trivial, trivial, zwR hon, trivial⟩ ⟨trivial, zwR hon, trivial⟩ (k.mono fun r σ1 hh => ?_)
  obtain ⟨⟨o1, o2⟩, hq⟩ := hQ r σ1 hh
  rcases hq with ⟨v, e⟩ | ⟨e, en⟩ | ⟨e, en⟩ <;> subst e
  · show zF G mL_share d 8 [(0, zR b), (1, zI x1), (2, zI x2), (3, zR out)] [zI v, zI 0, zR out] σ1 _
    refine zF_wI ?_
    refine zF_i2l 9 dL_share_8 rfl (zw32_rg _) ?_
    refine zF_lastore 10 dL_share_9 rfl o2 o1 (by decide) (by decide) ?_
    refine zF_goto 17 dL_share_10 rfl ?_
    exact zF_iconst 18 dL_share_17 rfl (zF_ireturn dL_share_18 rfl ⟨_, σ1, hh, Or.inl ⟨v, rfl, rfl, rfl⟩⟩)
  · exact ⟨en, 4, 15, hL_share_eNSE, zF_iconst 16 dL_share_15 rfl (zF_ireturn dL_share_16 rfl ⟨_, σ1, hh, Or.inr (Or.inl ⟨rfl, rfl, rfl⟩)⟩)⟩
  · exact absurd hh (nI σ1)
abbrev mL_run : zMeth := (yL_run, cL_run, 5, some .int)
abbrev hL_run : List (Nat × Nat × Nat × Nat) := [(0, 10, 13, 18)]
theorem wL_run : Cond.codeWith yL_run cL_run 5 (some .int) hL_run ∈ lw_all := zi5 193 rfl rfl
theorem kL_run : zCL RL 45 mX11_run 2 := ⟨zi5 194 rfl rfl, wX11_run, zi1 1 rfl rfl, ⟨by decide, by decide, by decide +kernel⟩, by decide⟩
theorem hL_run_eNSE : zhand G mL_run 5 eNSE 4 15 := ⟨_, _, _, _, [], (0, 10, 13, 18), [], eNSE, 13, wL_run, rfl, (fun z hz => nomatch hz), by decide, rfl, by decide, zi5 67 rfl rfl, zj5 79 rfl rfl, by decide, Or.inl ⟨dL_run_13, rfl⟩⟩
theorem zl_run (hd2 : d2 + 1 ≤ d) (hb : zkd σ b = (0, 11)) (hbn : b < zn σ) (hon : out < zn σ) (k : zE G mX11_run d2 [zR b, zI x1, zI x2] σ Qc) (hQ : ∀ r σ1, Qc r σ1 → lQ σ out r σ1) (nI : ∀ σ1, ¬ Qc (.inr eIAE) σ1) : zEH G mL_run hL_run d [zR b, zI x1, zI x2, zR out] σ (lP Qc out 1) := by
  refine zE_ofH rfl rfl (by simp [zcat]) (Nat.le_of_ble_eq_true rfl) ?_
  show zF G mL_run d 0 [(0, zR b), (1, zI x1), (2, zI x2), (3, zR out)] [] σ _
  refine zF_aload_n 1 dL_run_0 rfl rfl ?_
  refine zF_iconst 2 dL_run_1 rfl ?_
  refine zF_aload_n 3 dL_run_2 rfl rfl ?_
  refine zF_iload_n 4 dL_run_3 rfl rfl ?_
  refine zF_iload_n 5 dL_run_4 rfl rfl ?_
  refine zF_callVHn 8 (d2 := d2) (as := [zI x1, zI x2]) (rest := [zI 0, zR out]) dL_run_5 rfl kL_run iX11_run (ci := 11) rfl eX11_run hd2 hb hbn rfl rfl (Nat.le_of_ble_eq_true rfl) ⟨zwR hbn, trivial, trivial, zwR hon, trivial⟩ ⟨trivial, zwR hon, trivial⟩ (k.mono fun r σ1 hh => ?_)
  obtain ⟨⟨o1, o2⟩, hq⟩ := hQ r σ1 hh
  rcases hq with ⟨v, e⟩ | ⟨e, en⟩ | ⟨e, en⟩ <;> subst e
  · show zF G mL_run d 8 [(0, zR b), (1, zI x1), (2, zI x2), (3, zR out)] [zI v, zI 0, zR out] σ1 _
    refine zF_wI ?_
    refine zF_i2l 9 dL_run_8 rfl (zw32_rg _) ?_
    refine zF_lastore 10 dL_run_9 rfl o2 o1 (by decide) (by decide) ?_
    refine zF_goto 17 dL_run_10 rfl ?_
    exact zF_iconst 18 dL_run_17 rfl (zF_ireturn dL_run_18 rfl ⟨_, σ1, hh, Or.inl ⟨v, rfl, rfl, rfl⟩⟩)
  · exact ⟨en, 4, 15, hL_run_eNSE, zF_iconst 16 dL_run_15 rfl (zF_ireturn dL_run_16 rfl ⟨_, σ1, hh, Or.inr (Or.inl ⟨rfl, rfl, rfl⟩)⟩)⟩
  · exact absurd hh (nI σ1)
abbrev mL_wouldHold : zMeth := (yL_wouldHold, cL_wouldHold, 4, some .int)
abbrev hL_wouldHold : List (Nat × Nat × Nat × Nat) := [(0, 16, 19, 18)]
theorem wL_wouldHold : Cond.codeWith yL_wouldHold cL_wouldHold 4 (some .int) hL_wouldHold ∈ lw_all := zi5 201 rfl rfl
theorem kL_wouldHold : zCL RL 48 mX11_wouldHold 1 := ⟨zi5 202 rfl rfl, wX11_wouldHold, zi1 1 rfl rfl, ⟨by decide, by decide, by decide +kernel⟩, by decide⟩
theorem hL_wouldHold_eNSE : zhand G mL_wouldHold 4 eNSE 3 20 := ⟨_, _, _, _, [], (0, 16, 19, 18), [], eNSE, 19, wL_wouldHold, rfl, (fun z hz => nomatch hz), by decide, rfl, by decide, zi5 67 rfl rfl, zj5 79 rfl rfl, by decide, Or.inr ⟨3, dL_wouldHold_19, rfl, rfl⟩⟩
theorem zl_wouldHold (hd2 : d2 + 1 ≤ d) (hb : zkd σ b = (0, 11)) (hbn : b < zn σ) (hon : out < zn σ) (k : zE G mX11_wouldHold d2 [zR b, zI x1] σ Qc) (hQ : ∀ r σ1, Qc r σ1 → lQ σ out r σ1) (nI : ∀ σ1, ¬ Qc (.inr eIAE) σ1) (h01 : ∀ v σ1, Qc (.inl (some (zI v))) σ1 → v = 0 ∨ v = 1) : zEH G mL_wouldHold hL_wouldHold d [zR b, zI x1, zR out] σ (lP Qc out 1) := by
  refine zE_ofH rfl rfl (by simp [zcat]) (Nat.le_of_ble_eq_true rfl) ?_
  show zF G mL_wouldHold d 0 [(0, zR b), (1, zI x1), (2, zR out)] [] σ _
  refine zF_aload_n 1 dL_wouldHold_0 rfl rfl ?_
  refine zF_iconst 2 dL_wouldHold_1 rfl ?_
  refine zF_aload_n 3 dL_wouldHold_2 rfl rfl ?_
  refine zF_iload_n 4 dL_wouldHold_3 rfl rfl ?_
  refine zF_callVHn 7 (d2 := d2) (as := [zI x1]) (rest := [zI 0, zR out]) dL_wouldHold_4 rfl kL_wouldHold iX11_wouldHold (ci := 11) rfl eX11_wouldHold hd2 hb hbn rfl rfl (Nat.le_of_ble_eq_true rfl) ⟨zwR hbn, trivial, zwR hon, trivial⟩ ⟨trivial, zwR hon, trivial⟩ (k.mono fun r σ1 hh => ?_)
  obtain ⟨⟨o1, o2⟩, hq⟩ := hQ r σ1 hh
  rcases hq with ⟨v, e⟩ | ⟨e, en⟩ | ⟨e, en⟩ <;> subst e
  · show zF G mL_wouldHold d 7 [(0, zR b), (1, zI x1), (2, zR out)] [zI v, zI 0, zR out] σ1 _
    rcases h01 v σ1 hh with e | e <;> subst e
    · refine zF_if_eq 14 10 dL_wouldHold_7 rfl rfl (by decide) (fun c => ?_) (fun c => absurd rfl c)
      refine zF_lconst 15 dL_wouldHold_14 rfl ?_
      refine zF_lastore 16 dL_wouldHold_15 rfl o2 o1 (by decide) (by decide) ?_
      refine zF_goto 22 dL_wouldHold_16 rfl ?_
      exact zF_iconst 23 dL_wouldHold_22 rfl (zF_ireturn dL_wouldHold_23 rfl ⟨_, σ1, hh, Or.inl ⟨0, rfl, rfl, rfl⟩⟩)
    · refine zF_if_eq 14 10 dL_wouldHold_7 rfl rfl (by decide) (fun c => absurd c (by decide)) (fun c => ?_)
      refine zF_lconst 11 dL_wouldHold_10 rfl ?_
      refine zF_goto 15 dL_wouldHold_11 rfl ?_
      refine zF_lastore 16 dL_wouldHold_15 rfl o2 o1 (by decide) (by decide) ?_
      refine zF_goto 22 dL_wouldHold_16 rfl ?_
      exact zF_iconst 23 dL_wouldHold_22 rfl (zF_ireturn dL_wouldHold_23 rfl ⟨_, σ1, hh, Or.inl ⟨1, rfl, rfl, rfl⟩⟩)
  · exact ⟨en, 3, 20, hL_wouldHold_eNSE, zF_iconst 21 dL_wouldHold_20 rfl (zF_ireturn dL_wouldHold_21 rfl ⟨_, σ1, hh, Or.inr (Or.inl ⟨rfl, rfl, rfl⟩)⟩)⟩
  · exact absurd hh (nI σ1)
abbrev mL_forecast : zMeth := (yL_forecast, cL_forecast, 5, some .int)
abbrev hL_forecast : List (Nat × Nat × Nat × Nat) := [(0, 10, 13, 18)]
theorem wL_forecast : Cond.codeWith yL_forecast cL_forecast 5 (some .int) hL_forecast ∈ lw_all := zi5 209 rfl rfl
theorem kL_forecast : zCL RL 52 mX11_forecast 2 := ⟨zi5 210 rfl rfl, wX11_forecast, zi1 1 rfl rfl, ⟨by decide, by decide, by decide +kernel⟩, by decide⟩
theorem hL_forecast_eNSE : zhand G mL_forecast 5 eNSE 4 15 := ⟨_, _, _, _, [], (0, 10, 13, 18), [], eNSE, 13, wL_forecast, rfl, (fun z hz => nomatch hz), by decide, rfl, by decide, zi5 67 rfl rfl, zj5 79 rfl rfl, by decide, Or.inl ⟨dL_forecast_13, rfl⟩⟩
theorem zl_forecast (hd2 : d2 + 1 ≤ d) (hb : zkd σ b = (0, 11)) (hbn : b < zn σ) (hon : out < zn σ) (k : zE G mX11_forecast d2 [zR b, zI x1, zI x2] σ Qc) (hQ : ∀ r σ1, Qc r σ1 → lQ σ out r σ1) (nI : ∀ σ1, ¬ Qc (.inr eIAE) σ1) : zEH G mL_forecast hL_forecast d [zR b, zI x1, zI x2, zR out] σ (lP Qc out 1) := by
  refine zE_ofH rfl rfl (by simp [zcat]) (Nat.le_of_ble_eq_true rfl) ?_
  show zF G mL_forecast d 0 [(0, zR b), (1, zI x1), (2, zI x2), (3, zR out)] [] σ _
  refine zF_aload_n 1 dL_forecast_0 rfl rfl ?_
  refine zF_iconst 2 dL_forecast_1 rfl ?_
  refine zF_aload_n 3 dL_forecast_2 rfl rfl ?_
  refine zF_iload_n 4 dL_forecast_3 rfl rfl ?_
  refine zF_iload_n 5 dL_forecast_4 rfl rfl ?_
  refine zF_callVHn 8 (d2 := d2) (as := [zI x1, zI x2]) (rest := [zI 0, zR out]) dL_forecast_5 rfl kL_forecast iX11_forecast (ci := 11) rfl eX11_forecast hd2 hb hbn rfl rfl (Nat.le_of_ble_eq_true rfl) ⟨zwR hbn, trivial, trivial, zwR hon, trivial⟩ ⟨trivial, zwR hon, trivial⟩ (k.mono fun r σ1 hh => ?_)
  obtain ⟨⟨o1, o2⟩, hq⟩ := hQ r σ1 hh
  rcases hq with ⟨v, e⟩ | ⟨e, en⟩ | ⟨e, en⟩ <;> subst e
  · show zF G mL_forecast d 8 [(0, zR b), (1, zI x1), (2, zI x2), (3, zR out)] [zI v, zI 0, zR out] σ1 _
    refine zF_wI ?_
    refine zF_i2l 9 dL_forecast_8 rfl (zw32_rg _) ?_
    refine zF_lastore 10 dL_forecast_9 rfl o2 o1 (by decide) (by decide) ?_
    refine zF_goto 17 dL_forecast_10 rfl ?_
    exact zF_iconst 18 dL_forecast_17 rfl (zF_ireturn dL_forecast_18 rfl ⟨_, σ1, hh, Or.inl ⟨v, rfl, rfl, rfl⟩⟩)
  · exact ⟨en, 4, 15, hL_forecast_eNSE, zF_iconst 16 dL_forecast_15 rfl (zF_ireturn dL_forecast_16 rfl ⟨_, σ1, hh, Or.inr (Or.inl ⟨rfl, rfl, rfl⟩)⟩)⟩
  · exact absurd hh (nI σ1)
abbrev mL_chart : zMeth := (yL_chart, cL_chart, 4, some .int)
abbrev hL_chart : List (Nat × Nat × Nat × Nat) := [(0, 9, 12, 18)]
theorem wL_chart : Cond.codeWith yL_chart cL_chart 4 (some .int) hL_chart ∈ lw_all := zi5 220 rfl rfl
theorem kL_chart : zCL RL 55 mX11_chart 1 := ⟨zi5 221 rfl rfl, wX11_chart, zi1 1 rfl rfl, ⟨by decide, by decide, by decide +kernel⟩, by decide⟩
theorem hL_chart_eNSE : zhand G mL_chart 4 eNSE 3 13 := ⟨_, _, _, _, [], (0, 9, 12, 18), [], eNSE, 12, wL_chart, rfl, (fun z hz => nomatch hz), by decide, rfl, by decide, zi5 67 rfl rfl, zj5 79 rfl rfl, by decide, Or.inr ⟨3, dL_chart_12, rfl, rfl⟩⟩
theorem zl_chart (hd2 : d2 + 1 ≤ d) (hb : zkd σ b = (0, 11)) (hbn : b < zn σ) (hon : out < zn σ) (k : zE G mX11_chart d2 [zR b, zI x1] σ Qc) (hQ : ∀ r σ1, Qc r σ1 → lQ σ out r σ1) (nI : ∀ σ1, ¬ Qc (.inr eIAE) σ1) : zEH G mL_chart hL_chart d [zR b, zI x1, zR out] σ (lP Qc out 1) := by
  refine zE_ofH rfl rfl (by simp [zcat]) (Nat.le_of_ble_eq_true rfl) ?_
  show zF G mL_chart d 0 [(0, zR b), (1, zI x1), (2, zR out)] [] σ _
  refine zF_aload_n 1 dL_chart_0 rfl rfl ?_
  refine zF_iconst 2 dL_chart_1 rfl ?_
  refine zF_aload_n 3 dL_chart_2 rfl rfl ?_
  refine zF_iload_n 4 dL_chart_3 rfl rfl ?_
  refine zF_callVHn 7 (d2 := d2) (as := [zI x1]) (rest := [zI 0, zR out]) dL_chart_4 rfl kL_chart iX11_chart (ci := 11) rfl eX11_chart hd2 hb hbn rfl rfl (Nat.le_of_ble_eq_true rfl) ⟨zwR hbn, trivial, zwR hon, trivial⟩ ⟨trivial, zwR hon, trivial⟩ (k.mono fun r σ1 hh => ?_)
  obtain ⟨⟨o1, o2⟩, hq⟩ := hQ r σ1 hh
  rcases hq with ⟨v, e⟩ | ⟨e, en⟩ | ⟨e, en⟩ <;> subst e
  · show zF G mL_chart d 7 [(0, zR b), (1, zI x1), (2, zR out)] [zI v, zI 0, zR out] σ1 _
    refine zF_wI ?_
    refine zF_i2l 8 dL_chart_7 rfl (zw32_rg _) ?_
    refine zF_lastore 9 dL_chart_8 rfl o2 o1 (by decide) (by decide) ?_
    refine zF_goto 15 dL_chart_9 rfl ?_
    exact zF_iconst 16 dL_chart_15 rfl (zF_ireturn dL_chart_16 rfl ⟨_, σ1, hh, Or.inl ⟨v, rfl, rfl, rfl⟩⟩)
  · exact ⟨en, 3, 13, hL_chart_eNSE, zF_iconst 14 dL_chart_13 rfl (zF_ireturn dL_chart_14 rfl ⟨_, σ1, hh, Or.inr (Or.inl ⟨rfl, rfl, rfl⟩)⟩)⟩
  · exact absurd hh (nI σ1)
abbrev mL_bestGain : zMeth := (yL_bestGain, cL_bestGain, 4, some .int)
abbrev hL_bestGain : List (Nat × Nat × Nat × Nat) := [(0, 9, 12, 18)]
theorem wL_bestGain : Cond.codeWith yL_bestGain cL_bestGain 4 (some .int) hL_bestGain ∈ lw_all := zi5 236 rfl rfl
theorem kL_bestGain : zCL RL 58 mX11_bestGain 1 := ⟨zi5 237 rfl rfl, wX11_bestGain, zi1 1 rfl rfl, ⟨by decide, by decide, by decide +kernel⟩, by decide⟩
theorem hL_bestGain_eNSE : zhand G mL_bestGain 4 eNSE 3 13 := ⟨_, _, _, _, [], (0, 9, 12, 18), [], eNSE, 12, wL_bestGain, rfl, (fun z hz => nomatch hz), by decide, rfl, by decide, zi5 67 rfl rfl, zj5 79 rfl rfl, by decide, Or.inr ⟨3, dL_bestGain_12, rfl, rfl⟩⟩
theorem zl_bestGain (hd2 : d2 + 1 ≤ d) (hb : zkd σ b = (0, 11)) (hbn : b < zn σ) (hon : out < zn σ) (k : zE G mX11_bestGain d2 [zR b, zI x1] σ Qc) (hQ : ∀ r σ1, Qc r σ1 → lQ σ out r σ1) (nI : ∀ σ1, ¬ Qc (.inr eIAE) σ1) : zEH G mL_bestGain hL_bestGain d [zR b, zI x1, zR out] σ (lP Qc out 1) := by
  refine zE_ofH rfl rfl (by simp [zcat]) (Nat.le_of_ble_eq_true rfl) ?_
  show zF G mL_bestGain d 0 [(0, zR b), (1, zI x1), (2, zR out)] [] σ _
  refine zF_aload_n 1 dL_bestGain_0 rfl rfl ?_
  refine zF_iconst 2 dL_bestGain_1 rfl ?_
  refine zF_aload_n 3 dL_bestGain_2 rfl rfl ?_
  refine zF_iload_n 4 dL_bestGain_3 rfl rfl ?_
  refine zF_callVHn 7 (d2 := d2) (as := [zI x1]) (rest := [zI 0, zR out]) dL_bestGain_4 rfl kL_bestGain iX11_bestGain (ci := 11) rfl eX11_bestGain hd2 hb hbn rfl rfl (Nat.le_of_ble_eq_true rfl) ⟨zwR hbn, trivial, zwR hon, trivial⟩ ⟨trivial, zwR hon, trivial⟩ (k.mono fun r σ1 hh => ?_)
  obtain ⟨⟨o1, o2⟩, hq⟩ := hQ r σ1 hh
  rcases hq with ⟨v, e⟩ | ⟨e, en⟩ | ⟨e, en⟩ <;> subst e
  · show zF G mL_bestGain d 7 [(0, zR b), (1, zI x1), (2, zR out)] [zI v, zI 0, zR out] σ1 _
    refine zF_wI ?_
    refine zF_i2l 8 dL_bestGain_7 rfl (zw32_rg _) ?_
    refine zF_lastore 9 dL_bestGain_8 rfl o2 o1 (by decide) (by decide) ?_
    refine zF_goto 15 dL_bestGain_9 rfl ?_
    exact zF_iconst 16 dL_bestGain_15 rfl (zF_ireturn dL_bestGain_16 rfl ⟨_, σ1, hh, Or.inl ⟨v, rfl, rfl, rfl⟩⟩)
  · exact ⟨en, 3, 13, hL_bestGain_eNSE, zF_iconst 14 dL_bestGain_13 rfl (zF_ireturn dL_bestGain_14 rfl ⟨_, σ1, hh, Or.inr (Or.inl ⟨rfl, rfl, rfl⟩)⟩)⟩
  · exact absurd hh (nI σ1)
abbrev mL_bestFilm : zMeth := (yL_bestFilm, cL_bestFilm, 4, some .int)
abbrev hL_bestFilm : List (Nat × Nat × Nat × Nat) := [(0, 9, 12, 18)]
theorem wL_bestFilm : Cond.codeWith yL_bestFilm cL_bestFilm 4 (some .int) hL_bestFilm ∈ lw_all := zi6 4 rfl rfl
theorem kL_bestFilm : zCL RL 61 mX11_bestFilm 1 := ⟨zi6 5 rfl rfl, wX11_bestFilm, zi1 1 rfl rfl, ⟨by decide, by decide, by decide +kernel⟩, by decide⟩
theorem hL_bestFilm_eNSE : zhand G mL_bestFilm 4 eNSE 3 13 := ⟨_, _, _, _, [], (0, 9, 12, 18), [], eNSE, 12, wL_bestFilm, rfl, (fun z hz => nomatch hz), by decide, rfl, by decide, zi5 67 rfl rfl, zj5 79 rfl rfl, by decide, Or.inr ⟨3, dL_bestFilm_12, rfl, rfl⟩⟩
theorem zl_bestFilm (hd2 : d2 + 1 ≤ d) (hb : zkd σ b = (0, 11)) (hbn : b < zn σ) (hon : out < zn σ) (k : zE G mX11_bestFilm d2 [zR b, zI x1] σ Qc) (hQ : ∀ r σ1, Qc r σ1 → lQ σ out r σ1) (nI : ∀ σ1, ¬ Qc (.inr eIAE) σ1) : zEH G mL_bestFilm hL_bestFilm d [zR b, zI x1, zR out] σ (lP Qc out 1) := by
  refine zE_ofH rfl rfl (by simp [zcat]) (Nat.le_of_ble_eq_true rfl) ?_
  show zF G mL_bestFilm d 0 [(0, zR b), (1, zI x1), (2, zR out)] [] σ _
  refine zF_aload_n 1 dL_bestFilm_0 rfl rfl ?_
  refine zF_iconst 2 dL_bestFilm_1 rfl ?_
  refine zF_aload_n 3 dL_bestFilm_2 rfl rfl ?_
  refine zF_iload_n 4 dL_bestFilm_3 rfl rfl ?_
  refine zF_callVHn 7 (d2 := d2) (as := [zI x1]) (rest := [zI 0, zR out]) dL_bestFilm_4 rfl kL_bestFilm iX11_bestFilm (ci := 11) rfl eX11_bestFilm hd2 hb hbn rfl rfl (Nat.le_of_ble_eq_true rfl) ⟨zwR hbn, trivial, zwR hon, trivial⟩ ⟨trivial, zwR hon, trivial⟩ (k.mono fun r σ1 hh => ?_)
  obtain ⟨⟨o1, o2⟩, hq⟩ := hQ r σ1 hh
  rcases hq with ⟨v, e⟩ | ⟨e, en⟩ | ⟨e, en⟩ <;> subst e
  · show zF G mL_bestFilm d 7 [(0, zR b), (1, zI x1), (2, zR out)] [zI v, zI 0, zR out] σ1 _
    refine zF_wI ?_
    refine zF_i2l 8 dL_bestFilm_7 rfl (zw32_rg _) ?_
    refine zF_lastore 9 dL_bestFilm_8 rfl o2 o1 (by decide) (by decide) ?_
    refine zF_goto 15 dL_bestFilm_9 rfl ?_
    exact zF_iconst 16 dL_bestFilm_15 rfl (zF_ireturn dL_bestFilm_16 rfl ⟨_, σ1, hh, Or.inl ⟨v, rfl, rfl, rfl⟩⟩)
  · exact ⟨en, 3, 13, hL_bestFilm_eNSE, zF_iconst 14 dL_bestFilm_13 rfl (zF_ireturn dL_bestFilm_14 rfl ⟨_, σ1, hh, Or.inr (Or.inl ⟨rfl, rfl, rfl⟩)⟩)⟩
  · exact absurd hh (nI σ1)
abbrev mL_total : zMeth := (yL_total, cL_total, 4, some .int)
abbrev hL_total : List (Nat × Nat × Nat × Nat) := [(0, 9, 12, 18)]
theorem wL_total : Cond.codeWith yL_total cL_total 4 (some .int) hL_total ∈ lw_all := zi6 23 rfl rfl
theorem kL_total : zCL RL 64 mX11_total 1 := ⟨zi6 24 rfl rfl, wX11_total, zi1 1 rfl rfl, ⟨by decide, by decide, by decide +kernel⟩, by decide⟩
theorem hL_total_eNSE : zhand G mL_total 4 eNSE 3 13 := ⟨_, _, _, _, [], (0, 9, 12, 18), [], eNSE, 12, wL_total, rfl, (fun z hz => nomatch hz), by decide, rfl, by decide, zi5 67 rfl rfl, zj5 79 rfl rfl, by decide, Or.inr ⟨3, dL_total_12, rfl, rfl⟩⟩
theorem zl_total (hd2 : d2 + 1 ≤ d) (hb : zkd σ b = (0, 11)) (hbn : b < zn σ) (hon : out < zn σ) (k : zE G mX11_total d2 [zR b, zI x1] σ Qc) (hQ : ∀ r σ1, Qc r σ1 → lQ σ out r σ1) (nI : ∀ σ1, ¬ Qc (.inr eIAE) σ1) : zEH G mL_total hL_total d [zR b, zI x1, zR out] σ (lP Qc out 1) := by
  refine zE_ofH rfl rfl (by simp [zcat]) (Nat.le_of_ble_eq_true rfl) ?_
  show zF G mL_total d 0 [(0, zR b), (1, zI x1), (2, zR out)] [] σ _
  refine zF_aload_n 1 dL_total_0 rfl rfl ?_
  refine zF_iconst 2 dL_total_1 rfl ?_
  refine zF_aload_n 3 dL_total_2 rfl rfl ?_
  refine zF_iload_n 4 dL_total_3 rfl rfl ?_
  refine zF_callVHn 7 (d2 := d2) (as := [zI x1]) (rest := [zI 0, zR out]) dL_total_4 rfl kL_total iX11_total (ci := 11) rfl eX11_total hd2 hb hbn rfl rfl (Nat.le_of_ble_eq_true rfl) ⟨zwR hbn, trivial, zwR hon, trivial⟩ ⟨trivial, zwR hon, trivial⟩ (k.mono fun r σ1 hh => ?_)
  obtain ⟨⟨o1, o2⟩, hq⟩ := hQ r σ1 hh
  rcases hq with ⟨v, e⟩ | ⟨e, en⟩ | ⟨e, en⟩ <;> subst e
  · show zF G mL_total d 7 [(0, zR b), (1, zI x1), (2, zR out)] [zI v, zI 0, zR out] σ1 _
    refine zF_wI ?_
    refine zF_i2l 8 dL_total_7 rfl (zw32_rg _) ?_
    refine zF_lastore 9 dL_total_8 rfl o2 o1 (by decide) (by decide) ?_
    refine zF_goto 15 dL_total_9 rfl ?_
    exact zF_iconst 16 dL_total_15 rfl (zF_ireturn dL_total_16 rfl ⟨_, σ1, hh, Or.inl ⟨v, rfl, rfl, rfl⟩⟩)
  · exact ⟨en, 3, 13, hL_total_eNSE, zF_iconst 14 dL_total_13 rfl (zF_ireturn dL_total_14 rfl ⟨_, σ1, hh, Or.inr (Or.inl ⟨rfl, rfl, rfl⟩)⟩)⟩
  · exact absurd hh (nI σ1)
abbrev mL_closed : zMeth := (yL_closed, cL_closed, 5, some .int)
abbrev hL_closed : List (Nat × Nat × Nat × Nat) := [(0, 10, 13, 18)]
theorem wL_closed : Cond.codeWith yL_closed cL_closed 5 (some .int) hL_closed ∈ lw_all := zi6 30 rfl rfl
theorem kL_closed : zCL RL 67 mX11_closed 2 := ⟨zi6 31 rfl rfl, wX11_closed, zi1 1 rfl rfl, ⟨by decide, by decide, by decide +kernel⟩, by decide⟩
theorem hL_closed_eNSE : zhand G mL_closed 5 eNSE 4 15 := ⟨_, _, _, _, [], (0, 10, 13, 18), [], eNSE, 13, wL_closed, rfl, (fun z hz => nomatch hz), by decide, rfl, by decide, zi5 67 rfl rfl, zj5 79 rfl rfl, by decide, Or.inl ⟨dL_closed_13, rfl⟩⟩
theorem zl_closed (hd2 : d2 + 1 ≤ d) (hb : zkd σ b = (0, 11)) (hbn : b < zn σ) (hon : out < zn σ) (k : zE G mX11_closed d2 [zR b, zI x1, zI x2] σ Qc) (hQ : ∀ r σ1, Qc r σ1 → lQ σ out r σ1) (nI : ∀ σ1, ¬ Qc (.inr eIAE) σ1) : zEH G mL_closed hL_closed d [zR b, zI x1, zI x2, zR out] σ (lP Qc out 1) := by
  refine zE_ofH rfl rfl (by simp [zcat]) (Nat.le_of_ble_eq_true rfl) ?_
  show zF G mL_closed d 0 [(0, zR b), (1, zI x1), (2, zI x2), (3, zR out)] [] σ _
  refine zF_aload_n 1 dL_closed_0 rfl rfl ?_
  refine zF_iconst 2 dL_closed_1 rfl ?_
  refine zF_aload_n 3 dL_closed_2 rfl rfl ?_
  refine zF_iload_n 4 dL_closed_3 rfl rfl ?_
  refine zF_iload_n 5 dL_closed_4 rfl rfl ?_
  refine zF_callVHn 8 (d2 := d2) (as := [zI x1, zI x2]) (rest := [zI 0, zR out]) dL_closed_5 rfl kL_closed iX11_closed (ci := 11) rfl eX11_closed hd2 hb hbn rfl rfl (Nat.le_of_ble_eq_true rfl) ⟨zwR hbn, trivial, trivial, zwR hon, trivial⟩ ⟨trivial, zwR hon, trivial⟩ (k.mono fun r σ1 hh => ?_)
  obtain ⟨⟨o1, o2⟩, hq⟩ := hQ r σ1 hh
  rcases hq with ⟨v, e⟩ | ⟨e, en⟩ | ⟨e, en⟩ <;> subst e
  · show zF G mL_closed d 8 [(0, zR b), (1, zI x1), (2, zI x2), (3, zR out)] [zI v, zI 0, zR out] σ1 _
    refine zF_wI ?_
    refine zF_i2l 9 dL_closed_8 rfl (zw32_rg _) ?_
    refine zF_lastore 10 dL_closed_9 rfl o2 o1 (by decide) (by decide) ?_
    refine zF_goto 17 dL_closed_10 rfl ?_
    exact zF_iconst 18 dL_closed_17 rfl (zF_ireturn dL_closed_18 rfl ⟨_, σ1, hh, Or.inl ⟨v, rfl, rfl, rfl⟩⟩)
  · exact ⟨en, 4, 15, hL_closed_eNSE, zF_iconst 16 dL_closed_15 rfl (zF_ireturn dL_closed_16 rfl ⟨_, σ1, hh, Or.inr (Or.inl ⟨rfl, rfl, rfl⟩)⟩)⟩
  · exact absurd hh (nI σ1)
abbrev mL_book : zMeth := (yL_book, cL_book, 5, some .int)
abbrev hL_book : List (Nat × Nat × Nat × Nat) := [(0, 10, 13, 18)]
theorem wL_book : Cond.codeWith yL_book cL_book 5 (some .int) hL_book ∈ lw_all := zi6 42 rfl rfl
theorem kL_book : zCL RL 70 mX11_book 2 := ⟨zi6 43 rfl rfl, wX11_book, zi1 1 rfl rfl, ⟨by decide, by decide, by decide +kernel⟩, by decide⟩
theorem hL_book_eNSE : zhand G mL_book 5 eNSE 4 15 := ⟨_, _, _, _, [], (0, 10, 13, 18), [], eNSE, 13, wL_book, rfl, (fun z hz => nomatch hz), by decide, rfl, by decide, zi5 67 rfl rfl, zj5 79 rfl rfl, by decide, Or.inl ⟨dL_book_13, rfl⟩⟩
theorem zl_book (hd2 : d2 + 1 ≤ d) (hb : zkd σ b = (0, 11)) (hbn : b < zn σ) (hon : out < zn σ) (k : zE G mX11_book d2 [zR b, zI x1, zI x2] σ Qc) (hQ : ∀ r σ1, Qc r σ1 → lQ σ out r σ1) (nI : ∀ σ1, ¬ Qc (.inr eIAE) σ1) : zEH G mL_book hL_book d [zR b, zI x1, zI x2, zR out] σ (lP Qc out 1) := by
  refine zE_ofH rfl rfl (by simp [zcat]) (Nat.le_of_ble_eq_true rfl) ?_
  show zF G mL_book d 0 [(0, zR b), (1, zI x1), (2, zI x2), (3, zR out)] [] σ _
  refine zF_aload_n 1 dL_book_0 rfl rfl ?_
  refine zF_iconst 2 dL_book_1 rfl ?_
  refine zF_aload_n 3 dL_book_2 rfl rfl ?_
  refine zF_iload_n 4 dL_book_3 rfl rfl ?_
  refine zF_iload_n 5 dL_book_4 rfl rfl ?_
  refine zF_callVHn 8 (d2 := d2) (as := [zI x1, zI x2]) (rest := [zI 0, zR out]) dL_book_5 rfl kL_book iX11_book (ci := 11) rfl eX11_book hd2 hb hbn rfl rfl (Nat.le_of_ble_eq_true rfl) ⟨zwR hbn, trivial, trivial, zwR hon, trivial⟩ ⟨trivial, zwR hon, trivial⟩ (k.mono fun r σ1 hh => ?_)
  obtain ⟨⟨o1, o2⟩, hq⟩ := hQ r σ1 hh
  rcases hq with ⟨v, e⟩ | ⟨e, en⟩ | ⟨e, en⟩ <;> subst e
  · show zF G mL_book d 8 [(0, zR b), (1, zI x1), (2, zI x2), (3, zR out)] [zI v, zI 0, zR out] σ1 _
    refine zF_wI ?_
    refine zF_i2l 9 dL_book_8 rfl (zw32_rg _) ?_
    refine zF_lastore 10 dL_book_9 rfl o2 o1 (by decide) (by decide) ?_
    refine zF_goto 17 dL_book_10 rfl ?_
    exact zF_iconst 18 dL_book_17 rfl (zF_ireturn dL_book_18 rfl ⟨_, σ1, hh, Or.inl ⟨v, rfl, rfl, rfl⟩⟩)
  · exact ⟨en, 4, 15, hL_book_eNSE, zF_iconst 16 dL_book_15 rfl (zF_ireturn dL_book_16 rfl ⟨_, σ1, hh, Or.inr (Or.inl ⟨rfl, rfl, rfl⟩)⟩)⟩
  · exact absurd hh (nI σ1)
abbrev mL_split : zMeth := (yL_split, cL_split, 7, some .int)
abbrev hL_split : List (Nat × Nat × Nat × Nat) := [(0, 14, 17, 18), (0, 14, 21, 13)]
theorem wL_split : Cond.codeWith yL_split cL_split 7 (some .int) hL_split ∈ lw_all := zi6 59 rfl rfl
theorem kL_split : zCL RL 73 mX11_split 4 := ⟨zi6 60 rfl rfl, wX11_split, zi1 1 rfl rfl, ⟨by decide, by decide, by decide +kernel⟩, by decide⟩
theorem hL_split_eNSE : zhand G mL_split 9 eNSE 6 19 := ⟨_, _, _, _, [], (0, 14, 17, 18), [(0, 14, 21, 13)], eNSE, 17, wL_split, rfl, (fun z hz => nomatch hz), by decide, rfl, by decide, zi5 67 rfl rfl, zj5 79 rfl rfl, by decide, Or.inl ⟨dL_split_17, rfl⟩⟩
theorem hL_split_eIAE (hX : zNx G) : zhand G mL_split 9 eIAE 6 23 := ⟨_, _, _, _, [(0, 14, 17, 18)], (0, 14, 21, 13), [], eIAE, 21, wL_split, rfl, (fun z hz => Or.inr (by rw [List.mem_singleton.mp hz]; exact ⟨by decide, eNSE, zi5 67 rfl rfl, hX⟩)), by decide, rfl, by decide, zi4 94 rfl rfl, zj4 105 rfl rfl, by decide, Or.inl ⟨dL_split_21, rfl⟩⟩
theorem zl_split (hd2 : d2 + 1 ≤ d) (hb : zkd σ b = (0, 11)) (hbn : b < zn σ) (hon : out < zn σ) (k : zE G mX11_split d2 [zR b, zI x1, zI x2, zI x3, zI x4] σ Qc) (hQ : ∀ r σ1, Qc r σ1 → lQ σ out r σ1) (hX : zNx G) : zEH G mL_split hL_split d [zR b, zI x1, zI x2, zI x3, zI x4, zR out] σ (lP Qc out 2) := by
  refine zE_ofH rfl rfl (by simp [zcat]) (Nat.le_of_ble_eq_true rfl) ?_
  show zF G mL_split d 0 [(0, zR b), (1, zI x1), (2, zI x2), (3, zI x3), (4, zI x4), (5, zR out)] [] σ _
  refine zF_aload 2 dL_split_0 rfl rfl ?_
  refine zF_iconst 3 dL_split_2 rfl ?_
  refine zF_aload_n 4 dL_split_3 rfl rfl ?_
  refine zF_iload_n 5 dL_split_4 rfl rfl ?_
  refine zF_iload_n 6 dL_split_5 rfl rfl ?_
  refine zF_iload_n 7 dL_split_6 rfl rfl ?_
  refine zF_iload 9 dL_split_7 rfl rfl ?_
  refine zF_callVHn 12 (d2 := d2) (as := [zI x1, zI x2, zI x3, zI x4]) (rest := [zI 0, zR out]) dL_split_9 rfl kL_split iX11_split (ci := 11) rfl eX11_split hd2 hb hbn rfl rfl (Nat.le_of_ble_eq_true rfl) ⟨zwR hbn, trivial, trivial, trivial, trivial, zwR hon, trivial⟩ ⟨trivial, zwR hon, trivial⟩ (k.mono fun r σ1 hh => ?_)
  obtain ⟨⟨o1, o2⟩, hq⟩ := hQ r σ1 hh
  rcases hq with ⟨v, e⟩ | ⟨e, en⟩ | ⟨e, en⟩ <;> subst e
  · show zF G mL_split d 12 [(0, zR b), (1, zI x1), (2, zI x2), (3, zI x3), (4, zI x4), (5, zR out)] [zI v, zI 0, zR out] σ1 _
    refine zF_wI ?_
    refine zF_i2l 13 dL_split_12 rfl (zw32_rg _) ?_
    refine zF_lastore 14 dL_split_13 rfl o2 o1 (by decide) (by decide) ?_
    refine zF_goto 25 dL_split_14 rfl ?_
    exact zF_iconst 26 dL_split_25 rfl (zF_ireturn dL_split_26 rfl ⟨_, σ1, hh, Or.inl ⟨v, rfl, rfl, rfl⟩⟩)
  · exact ⟨en, 6, 19, hL_split_eNSE, zF_iconst 20 dL_split_19 rfl (zF_ireturn dL_split_20 rfl ⟨_, σ1, hh, Or.inr (Or.inl ⟨rfl, rfl, rfl⟩)⟩)⟩
  · exact ⟨en, 6, 23, hL_split_eIAE hX, zF_iconst 24 dL_split_23 rfl (zF_ireturn dL_split_24 rfl ⟨_, σ1, hh, Or.inr (Or.inr ⟨rfl, rfl, rfl⟩)⟩)⟩
abbrev mL_empty : zMeth := (yL_empty, cL_empty, 4, some .int)
abbrev hL_empty : List (Nat × Nat × Nat × Nat) := [(0, 9, 12, 18)]
theorem wL_empty : Cond.codeWith yL_empty cL_empty 4 (some .int) hL_empty ∈ lw_all := zi6 67 rfl rfl
theorem kL_empty : zCL RL 77 mX11_empty 1 := ⟨zi6 68 rfl rfl, wX11_empty, zi1 1 rfl rfl, ⟨by decide, by decide, by decide +kernel⟩, by decide⟩
theorem hL_empty_eNSE : zhand G mL_empty 4 eNSE 3 13 := ⟨_, _, _, _, [], (0, 9, 12, 18), [], eNSE, 12, wL_empty, rfl, (fun z hz => nomatch hz), by decide, rfl, by decide, zi5 67 rfl rfl, zj5 79 rfl rfl, by decide, Or.inr ⟨3, dL_empty_12, rfl, rfl⟩⟩
theorem zl_empty (hd2 : d2 + 1 ≤ d) (hb : zkd σ b = (0, 11)) (hbn : b < zn σ) (hon : out < zn σ) (k : zE G mX11_empty d2 [zR b, zI x1] σ Qc) (hQ : ∀ r σ1, Qc r σ1 → lQ σ out r σ1) (nI : ∀ σ1, ¬ Qc (.inr eIAE) σ1) : zEH G mL_empty hL_empty d [zR b, zI x1, zR out] σ (lP Qc out 1) := by
  refine zE_ofH rfl rfl (by simp [zcat]) (Nat.le_of_ble_eq_true rfl) ?_
  show zF G mL_empty d 0 [(0, zR b), (1, zI x1), (2, zR out)] [] σ _
  refine zF_aload_n 1 dL_empty_0 rfl rfl ?_
  refine zF_iconst 2 dL_empty_1 rfl ?_
  refine zF_aload_n 3 dL_empty_2 rfl rfl ?_
  refine zF_iload_n 4 dL_empty_3 rfl rfl ?_
  refine zF_callVHn 7 (d2 := d2) (as := [zI x1]) (rest := [zI 0, zR out]) dL_empty_4 rfl kL_empty iX11_empty (ci := 11) rfl eX11_empty hd2 hb hbn rfl rfl (Nat.le_of_ble_eq_true rfl) ⟨zwR hbn, trivial, zwR hon, trivial⟩ ⟨trivial, zwR hon, trivial⟩ (k.mono fun r σ1 hh => ?_)
  obtain ⟨⟨o1, o2⟩, hq⟩ := hQ r σ1 hh
  rcases hq with ⟨v, e⟩ | ⟨e, en⟩ | ⟨e, en⟩ <;> subst e
  · show zF G mL_empty d 7 [(0, zR b), (1, zI x1), (2, zR out)] [zI v, zI 0, zR out] σ1 _
    refine zF_wI ?_
    refine zF_i2l 8 dL_empty_7 rfl (zw32_rg _) ?_
    refine zF_lastore 9 dL_empty_8 rfl o2 o1 (by decide) (by decide) ?_
    refine zF_goto 15 dL_empty_9 rfl ?_
    exact zF_iconst 16 dL_empty_15 rfl (zF_ireturn dL_empty_16 rfl ⟨_, σ1, hh, Or.inl ⟨v, rfl, rfl, rfl⟩⟩)
  · exact ⟨en, 3, 13, hL_empty_eNSE, zF_iconst 14 dL_empty_13 rfl (zF_ireturn dL_empty_14 rfl ⟨_, σ1, hh, Or.inr (Or.inl ⟨rfl, rfl, rfl⟩)⟩)⟩
  · exact absurd hh (nI σ1)
abbrev mL_move : zMeth := (yL_move, cL_move, 6, some .int)
abbrev hL_move : List (Nat × Nat × Nat × Nat) := [(0, 12, 15, 18), (0, 12, 19, 13)]
theorem wL_move : Cond.codeWith yL_move cL_move 6 (some .int) hL_move ∈ lw_all := zi6 74 rfl rfl
theorem kL_move : zCL RL 80 mX11_move 3 := ⟨zi6 75 rfl rfl, wX11_move, zi1 1 rfl rfl, ⟨by decide, by decide, by decide +kernel⟩, by decide⟩
theorem hL_move_eNSE : zhand G mL_move 7 eNSE 5 17 := ⟨_, _, _, _, [], (0, 12, 15, 18), [(0, 12, 19, 13)], eNSE, 15, wL_move, rfl, (fun z hz => nomatch hz), by decide, rfl, by decide, zi5 67 rfl rfl, zj5 79 rfl rfl, by decide, Or.inl ⟨dL_move_15, rfl⟩⟩
theorem hL_move_eIAE (hX : zNx G) : zhand G mL_move 7 eIAE 5 21 := ⟨_, _, _, _, [(0, 12, 15, 18)], (0, 12, 19, 13), [], eIAE, 19, wL_move, rfl, (fun z hz => Or.inr (by rw [List.mem_singleton.mp hz]; exact ⟨by decide, eNSE, zi5 67 rfl rfl, hX⟩)), by decide, rfl, by decide, zi4 94 rfl rfl, zj4 105 rfl rfl, by decide, Or.inl ⟨dL_move_19, rfl⟩⟩
theorem zl_move (hd2 : d2 + 1 ≤ d) (hb : zkd σ b = (0, 11)) (hbn : b < zn σ) (hon : out < zn σ) (k : zE G mX11_move d2 [zR b, zI x1, zI x2, zI x3] σ Qc) (hQ : ∀ r σ1, Qc r σ1 → lQ σ out r σ1) (hX : zNx G) : zEH G mL_move hL_move d [zR b, zI x1, zI x2, zI x3, zR out] σ (lP Qc out 2) := by
  refine zE_ofH rfl rfl (by simp [zcat]) (Nat.le_of_ble_eq_true rfl) ?_
  show zF G mL_move d 0 [(0, zR b), (1, zI x1), (2, zI x2), (3, zI x3), (4, zR out)] [] σ _
  refine zF_aload 2 dL_move_0 rfl rfl ?_
  refine zF_iconst 3 dL_move_2 rfl ?_
  refine zF_aload_n 4 dL_move_3 rfl rfl ?_
  refine zF_iload_n 5 dL_move_4 rfl rfl ?_
  refine zF_iload_n 6 dL_move_5 rfl rfl ?_
  refine zF_iload_n 7 dL_move_6 rfl rfl ?_
  refine zF_callVHn 10 (d2 := d2) (as := [zI x1, zI x2, zI x3]) (rest := [zI 0, zR out]) dL_move_7 rfl kL_move iX11_move (ci := 11) rfl eX11_move hd2 hb hbn rfl rfl (Nat.le_of_ble_eq_true rfl) ⟨zwR hbn, trivial, trivial, trivial, zwR hon, trivial⟩ ⟨trivial, zwR hon, trivial⟩ (k.mono fun r σ1 hh => ?_)
  obtain ⟨⟨o1, o2⟩, hq⟩ := hQ r σ1 hh
  rcases hq with ⟨v, e⟩ | ⟨e, en⟩ | ⟨e, en⟩ <;> subst e
  · show zF G mL_move d 10 [(0, zR b), (1, zI x1), (2, zI x2), (3, zI x3), (4, zR out)] [zI v, zI 0, zR out] σ1 _
    refine zF_wI ?_
    refine zF_i2l 11 dL_move_10 rfl (zw32_rg _) ?_
    refine zF_lastore 12 dL_move_11 rfl o2 o1 (by decide) (by decide) ?_
    refine zF_goto 23 dL_move_12 rfl ?_
    exact zF_iconst 24 dL_move_23 rfl (zF_ireturn dL_move_24 rfl ⟨_, σ1, hh, Or.inl ⟨v, rfl, rfl, rfl⟩⟩)
  · exact ⟨en, 5, 17, hL_move_eNSE, zF_iconst 18 dL_move_17 rfl (zF_ireturn dL_move_18 rfl ⟨_, σ1, hh, Or.inr (Or.inl ⟨rfl, rfl, rfl⟩)⟩)⟩
  · exact ⟨en, 5, 21, hL_move_eIAE hX, zF_iconst 22 dL_move_21 rfl (zF_ireturn dL_move_22 rfl ⟨_, σ1, hh, Or.inr (Or.inr ⟨rfl, rfl, rfl⟩)⟩)⟩
abbrev mL_program : zMeth := (yL_program, cL_program, 4, some .int)
abbrev hL_program : List (Nat × Nat × Nat × Nat) := [(0, 9, 12, 18)]
theorem wL_program : Cond.codeWith yL_program cL_program 4 (some .int) hL_program ∈ lw_all := zi6 84 rfl rfl
theorem kL_program : zCL RL 84 mX11_program 1 := ⟨zi6 85 rfl rfl, wX11_program, zi1 1 rfl rfl, ⟨by decide, by decide, by decide +kernel⟩, by decide⟩
theorem hL_program_eNSE : zhand G mL_program 4 eNSE 3 13 := ⟨_, _, _, _, [], (0, 9, 12, 18), [], eNSE, 12, wL_program, rfl, (fun z hz => nomatch hz), by decide, rfl, by decide, zi5 67 rfl rfl, zj5 79 rfl rfl, by decide, Or.inr ⟨3, dL_program_12, rfl, rfl⟩⟩
theorem zl_program (hd2 : d2 + 1 ≤ d) (hb : zkd σ b = (0, 11)) (hbn : b < zn σ) (hon : out < zn σ) (k : zE G mX11_program d2 [zR b, zI x1] σ Qc) (hQ : ∀ r σ1, Qc r σ1 → lQ σ out r σ1) (nI : ∀ σ1, ¬ Qc (.inr eIAE) σ1) : zEH G mL_program hL_program d [zR b, zI x1, zR out] σ (lP Qc out 1) := by
  refine zE_ofH rfl rfl (by simp [zcat]) (Nat.le_of_ble_eq_true rfl) ?_
  show zF G mL_program d 0 [(0, zR b), (1, zI x1), (2, zR out)] [] σ _
  refine zF_aload_n 1 dL_program_0 rfl rfl ?_
  refine zF_iconst 2 dL_program_1 rfl ?_
  refine zF_aload_n 3 dL_program_2 rfl rfl ?_
  refine zF_iload_n 4 dL_program_3 rfl rfl ?_
  refine zF_callVHn 7 (d2 := d2) (as := [zI x1]) (rest := [zI 0, zR out]) dL_program_4 rfl kL_program iX11_program (ci := 11) rfl eX11_program hd2 hb hbn rfl rfl (Nat.le_of_ble_eq_true rfl) ⟨zwR hbn, trivial, zwR hon, trivial⟩ ⟨trivial, zwR hon, trivial⟩ (k.mono fun r σ1 hh => ?_)
  obtain ⟨⟨o1, o2⟩, hq⟩ := hQ r σ1 hh
  rcases hq with ⟨v, e⟩ | ⟨e, en⟩ | ⟨e, en⟩ <;> subst e
  · show zF G mL_program d 7 [(0, zR b), (1, zI x1), (2, zR out)] [zI v, zI 0, zR out] σ1 _
    refine zF_wI ?_
    refine zF_i2l 8 dL_program_7 rfl (zw32_rg _) ?_
    refine zF_lastore 9 dL_program_8 rfl o2 o1 (by decide) (by decide) ?_
    refine zF_goto 15 dL_program_9 rfl ?_
    exact zF_iconst 16 dL_program_15 rfl (zF_ireturn dL_program_16 rfl ⟨_, σ1, hh, Or.inl ⟨v, rfl, rfl, rfl⟩⟩)
  · exact ⟨en, 3, 13, hL_program_eNSE, zF_iconst 14 dL_program_13 rfl (zF_ireturn dL_program_14 rfl ⟨_, σ1, hh, Or.inr (Or.inl ⟨rfl, rfl, rfl⟩)⟩)⟩
  · exact absurd hh (nI σ1)
abbrev mL_setHoldover : zMeth := (yL_setHoldover, cL_setHoldover, 5, some .int)
abbrev hL_setHoldover : List (Nat × Nat × Nat × Nat) := [(0, 10, 13, 18), (0, 10, 17, 13)]
theorem wL_setHoldover : Cond.codeWith yL_setHoldover cL_setHoldover 5 (some .int) hL_setHoldover ∈ lw_all := zi6 100 rfl rfl
theorem kL_setHoldover : zCL RL 87 mX11_setHoldover 2 := ⟨zi6 101 rfl rfl, wX11_setHoldover, zi1 1 rfl rfl, ⟨by decide, by decide, by decide +kernel⟩, by decide⟩
theorem hL_setHoldover_eNSE : zhand G mL_setHoldover 5 eNSE 4 15 := ⟨_, _, _, _, [], (0, 10, 13, 18), [(0, 10, 17, 13)], eNSE, 13, wL_setHoldover, rfl, (fun z hz => nomatch hz), by decide, rfl, by decide, zi5 67 rfl rfl, zj5 79 rfl rfl, by decide, Or.inl ⟨dL_setHoldover_13, rfl⟩⟩
theorem hL_setHoldover_eIAE (hX : zNx G) : zhand G mL_setHoldover 5 eIAE 4 19 := ⟨_, _, _, _, [(0, 10, 13, 18)], (0, 10, 17, 13), [], eIAE, 17, wL_setHoldover, rfl, (fun z hz => Or.inr (by rw [List.mem_singleton.mp hz]; exact ⟨by decide, eNSE, zi5 67 rfl rfl, hX⟩)), by decide, rfl, by decide, zi4 94 rfl rfl, zj4 105 rfl rfl, by decide, Or.inl ⟨dL_setHoldover_17, rfl⟩⟩
theorem zl_setHoldover (hd2 : d2 + 1 ≤ d) (hb : zkd σ b = (0, 11)) (hbn : b < zn σ) (hon : out < zn σ) (k : zE G mX11_setHoldover d2 [zR b, zI x1, zI x2] σ Qc) (hQ : ∀ r σ1, Qc r σ1 → lQ σ out r σ1) (hX : zNx G) : zEH G mL_setHoldover hL_setHoldover d [zR b, zI x1, zI x2, zR out] σ (lP Qc out 2) := by
  refine zE_ofH rfl rfl (by simp [zcat]) (Nat.le_of_ble_eq_true rfl) ?_
  show zF G mL_setHoldover d 0 [(0, zR b), (1, zI x1), (2, zI x2), (3, zR out)] [] σ _
  refine zF_aload_n 1 dL_setHoldover_0 rfl rfl ?_
  refine zF_iconst 2 dL_setHoldover_1 rfl ?_
  refine zF_aload_n 3 dL_setHoldover_2 rfl rfl ?_
  refine zF_iload_n 4 dL_setHoldover_3 rfl rfl ?_
  refine zF_iload_n 5 dL_setHoldover_4 rfl rfl ?_
  refine zF_callVHn 8 (d2 := d2) (as := [zI x1, zI x2]) (rest := [zI 0, zR out]) dL_setHoldover_5 rfl kL_setHoldover iX11_setHoldover (ci := 11) rfl eX11_setHoldover hd2 hb hbn rfl rfl (Nat.le_of_ble_eq_true rfl) ⟨zwR hbn, trivial, trivial, zwR hon, trivial⟩ ⟨trivial, zwR hon, trivial⟩ (k.mono fun r σ1 hh => ?_)
  obtain ⟨⟨o1, o2⟩, hq⟩ := hQ r σ1 hh
  rcases hq with ⟨v, e⟩ | ⟨e, en⟩ | ⟨e, en⟩ <;> subst e
  · show zF G mL_setHoldover d 8 [(0, zR b), (1, zI x1), (2, zI x2), (3, zR out)] [zI v, zI 0, zR out] σ1 _
    refine zF_wI ?_
    refine zF_i2l 9 dL_setHoldover_8 rfl (zw32_rg _) ?_
    refine zF_lastore 10 dL_setHoldover_9 rfl o2 o1 (by decide) (by decide) ?_
    refine zF_goto 21 dL_setHoldover_10 rfl ?_
    exact zF_iconst 22 dL_setHoldover_21 rfl (zF_ireturn dL_setHoldover_22 rfl ⟨_, σ1, hh, Or.inl ⟨v, rfl, rfl, rfl⟩⟩)
  · exact ⟨en, 4, 15, hL_setHoldover_eNSE, zF_iconst 16 dL_setHoldover_15 rfl (zF_ireturn dL_setHoldover_16 rfl ⟨_, σ1, hh, Or.inr (Or.inl ⟨rfl, rfl, rfl⟩)⟩)⟩
  · exact ⟨en, 4, 19, hL_setHoldover_eIAE hX, zF_iconst 20 dL_setHoldover_19 rfl (zF_ireturn dL_setHoldover_20 rfl ⟨_, σ1, hh, Or.inr (Or.inr ⟨rfl, rfl, rfl⟩)⟩)⟩
abbrev mL_setRent : zMeth := (yL_setRent, cL_setRent, 5, some .int)
abbrev hL_setRent : List (Nat × Nat × Nat × Nat) := [(0, 10, 13, 18), (0, 10, 17, 13)]
theorem wL_setRent : Cond.codeWith yL_setRent cL_setRent 5 (some .int) hL_setRent ∈ lw_all := zi6 108 rfl rfl
theorem kL_setRent : zCL RL 90 mX11_setRent 2 := ⟨zi6 109 rfl rfl, wX11_setRent, zi1 1 rfl rfl, ⟨by decide, by decide, by decide +kernel⟩, by decide⟩
theorem hL_setRent_eNSE : zhand G mL_setRent 5 eNSE 4 15 := ⟨_, _, _, _, [], (0, 10, 13, 18), [(0, 10, 17, 13)], eNSE, 13, wL_setRent, rfl, (fun z hz => nomatch hz), by decide, rfl, by decide, zi5 67 rfl rfl, zj5 79 rfl rfl, by decide, Or.inl ⟨dL_setRent_13, rfl⟩⟩
theorem hL_setRent_eIAE (hX : zNx G) : zhand G mL_setRent 5 eIAE 4 19 := ⟨_, _, _, _, [(0, 10, 13, 18)], (0, 10, 17, 13), [], eIAE, 17, wL_setRent, rfl, (fun z hz => Or.inr (by rw [List.mem_singleton.mp hz]; exact ⟨by decide, eNSE, zi5 67 rfl rfl, hX⟩)), by decide, rfl, by decide, zi4 94 rfl rfl, zj4 105 rfl rfl, by decide, Or.inl ⟨dL_setRent_17, rfl⟩⟩
theorem zl_setRent (hd2 : d2 + 1 ≤ d) (hb : zkd σ b = (0, 11)) (hbn : b < zn σ) (hon : out < zn σ) (k : zE G mX11_setRent d2 [zR b, zI x1, zI x2] σ Qc) (hQ : ∀ r σ1, Qc r σ1 → lQ σ out r σ1) (hX : zNx G) : zEH G mL_setRent hL_setRent d [zR b, zI x1, zI x2, zR out] σ (lP Qc out 2) := by
  refine zE_ofH rfl rfl (by simp [zcat]) (Nat.le_of_ble_eq_true rfl) ?_
  show zF G mL_setRent d 0 [(0, zR b), (1, zI x1), (2, zI x2), (3, zR out)] [] σ _
  refine zF_aload_n 1 dL_setRent_0 rfl rfl ?_
  refine zF_iconst 2 dL_setRent_1 rfl ?_
  refine zF_aload_n 3 dL_setRent_2 rfl rfl ?_
  refine zF_iload_n 4 dL_setRent_3 rfl rfl ?_
  refine zF_iload_n 5 dL_setRent_4 rfl rfl ?_
  refine zF_callVHn 8 (d2 := d2) (as := [zI x1, zI x2]) (rest := [zI 0, zR out]) dL_setRent_5 rfl kL_setRent iX11_setRent (ci := 11) rfl eX11_setRent hd2 hb hbn rfl rfl (Nat.le_of_ble_eq_true rfl) ⟨zwR hbn, trivial, trivial, zwR hon, trivial⟩ ⟨trivial, zwR hon, trivial⟩ (k.mono fun r σ1 hh => ?_)
  obtain ⟨⟨o1, o2⟩, hq⟩ := hQ r σ1 hh
  rcases hq with ⟨v, e⟩ | ⟨e, en⟩ | ⟨e, en⟩ <;> subst e
  · show zF G mL_setRent d 8 [(0, zR b), (1, zI x1), (2, zI x2), (3, zR out)] [zI v, zI 0, zR out] σ1 _
    refine zF_wI ?_
    refine zF_i2l 9 dL_setRent_8 rfl (zw32_rg _) ?_
    refine zF_lastore 10 dL_setRent_9 rfl o2 o1 (by decide) (by decide) ?_
    refine zF_goto 21 dL_setRent_10 rfl ?_
    exact zF_iconst 22 dL_setRent_21 rfl (zF_ireturn dL_setRent_22 rfl ⟨_, σ1, hh, Or.inl ⟨v, rfl, rfl, rfl⟩⟩)
  · exact ⟨en, 4, 15, hL_setRent_eNSE, zF_iconst 16 dL_setRent_15 rfl (zF_ireturn dL_setRent_16 rfl ⟨_, σ1, hh, Or.inr (Or.inl ⟨rfl, rfl, rfl⟩)⟩)⟩
  · exact ⟨en, 4, 19, hL_setRent_eIAE hX, zF_iconst 20 dL_setRent_19 rfl (zF_ireturn dL_setRent_20 rfl ⟨_, σ1, hh, Or.inr (Or.inr ⟨rfl, rfl, rfl⟩)⟩)⟩
abbrev mL_setFee : zMeth := (yL_setFee, cL_setFee, 4, some .int)
abbrev hL_setFee : List (Nat × Nat × Nat × Nat) := [(0, 9, 12, 13)]
theorem wL_setFee : Cond.codeWith yL_setFee cL_setFee 4 (some .int) hL_setFee ∈ lw_all := zi6 116 rfl rfl
theorem kL_setFee : zCL RL 93 mX11_setFee 1 := ⟨zi6 117 rfl rfl, wX11_setFee, zi1 1 rfl rfl, ⟨by decide, by decide, by decide +kernel⟩, by decide⟩
theorem hL_setFee_eIAE : zhand G mL_setFee 4 eIAE 3 13 := ⟨_, _, _, _, [], (0, 9, 12, 13), [], eIAE, 12, wL_setFee, rfl, (fun z hz => nomatch hz), by decide, rfl, by decide, zi4 94 rfl rfl, zj4 105 rfl rfl, by decide, Or.inr ⟨3, dL_setFee_12, rfl, rfl⟩⟩
theorem zl_setFee (hd2 : d2 + 1 ≤ d) (hb : zkd σ b = (0, 11)) (hbn : b < zn σ) (hon : out < zn σ) (k : zE G mX11_setFee d2 [zR b, zI x1] σ Qc) (hQ : ∀ r σ1, Qc r σ1 → lQ σ out r σ1) (nN : ∀ σ1, ¬ Qc (.inr eNSE) σ1) : zEH G mL_setFee hL_setFee d [zR b, zI x1, zR out] σ (lP Qc out 1) := by
  refine zE_ofH rfl rfl (by simp [zcat]) (Nat.le_of_ble_eq_true rfl) ?_
  show zF G mL_setFee d 0 [(0, zR b), (1, zI x1), (2, zR out)] [] σ _
  refine zF_aload_n 1 dL_setFee_0 rfl rfl ?_
  refine zF_iconst 2 dL_setFee_1 rfl ?_
  refine zF_aload_n 3 dL_setFee_2 rfl rfl ?_
  refine zF_iload_n 4 dL_setFee_3 rfl rfl ?_
  refine zF_callVHn 7 (d2 := d2) (as := [zI x1]) (rest := [zI 0, zR out]) dL_setFee_4 rfl kL_setFee iX11_setFee (ci := 11) rfl eX11_setFee hd2 hb hbn rfl rfl (Nat.le_of_ble_eq_true rfl) ⟨zwR hbn, trivial, zwR hon, trivial⟩ ⟨trivial, zwR hon, trivial⟩ (k.mono fun r σ1 hh => ?_)
  obtain ⟨⟨o1, o2⟩, hq⟩ := hQ r σ1 hh
  rcases hq with ⟨v, e⟩ | ⟨e, en⟩ | ⟨e, en⟩ <;> subst e
  · show zF G mL_setFee d 7 [(0, zR b), (1, zI x1), (2, zR out)] [zI v, zI 0, zR out] σ1 _
    refine zF_wI ?_
    refine zF_i2l 8 dL_setFee_7 rfl (zw32_rg _) ?_
    refine zF_lastore 9 dL_setFee_8 rfl o2 o1 (by decide) (by decide) ?_
    refine zF_goto 15 dL_setFee_9 rfl ?_
    exact zF_iconst 16 dL_setFee_15 rfl (zF_ireturn dL_setFee_16 rfl ⟨_, σ1, hh, Or.inl ⟨v, rfl, rfl, rfl⟩⟩)
  · exact absurd hh (nN σ1)
  · exact ⟨en, 3, 13, hL_setFee_eIAE, zF_iconst 14 dL_setFee_13 rfl (zF_ireturn dL_setFee_14 rfl ⟨_, σ1, hh, Or.inr (Or.inr ⟨rfl, rfl, rfl⟩)⟩)⟩
abbrev mL_format : zMeth := (yL_format, cL_format, 4, some .int)
abbrev hL_format : List (Nat × Nat × Nat × Nat) := [(0, 9, 12, 18)]
theorem wL_format : Cond.codeWith yL_format cL_format 4 (some .int) hL_format ∈ lw_all := zi6 124 rfl rfl
theorem kL_format : zCL RL 96 mX11_format 1 := ⟨zi6 125 rfl rfl, wX11_format, zi1 1 rfl rfl, ⟨by decide, by decide, by decide +kernel⟩, by decide⟩
theorem hL_format_eNSE : zhand G mL_format 4 eNSE 3 13 := ⟨_, _, _, _, [], (0, 9, 12, 18), [], eNSE, 12, wL_format, rfl, (fun z hz => nomatch hz), by decide, rfl, by decide, zi5 67 rfl rfl, zj5 79 rfl rfl, by decide, Or.inr ⟨3, dL_format_12, rfl, rfl⟩⟩
theorem zl_format (hd2 : d2 + 1 ≤ d) (hb : zkd σ b = (0, 11)) (hbn : b < zn σ) (hon : out < zn σ) (k : zE G mX11_format d2 [zR b, zI x1] σ Qc) (hQ : ∀ r σ1, Qc r σ1 → lQ σ out r σ1) (nI : ∀ σ1, ¬ Qc (.inr eIAE) σ1) : zEH G mL_format hL_format d [zR b, zI x1, zR out] σ (lP Qc out 1) := by
  refine zE_ofH rfl rfl (by simp [zcat]) (Nat.le_of_ble_eq_true rfl) ?_
  show zF G mL_format d 0 [(0, zR b), (1, zI x1), (2, zR out)] [] σ _
  refine zF_aload_n 1 dL_format_0 rfl rfl ?_
  refine zF_iconst 2 dL_format_1 rfl ?_
  refine zF_aload_n 3 dL_format_2 rfl rfl ?_
  refine zF_iload_n 4 dL_format_3 rfl rfl ?_
  refine zF_callVHn 7 (d2 := d2) (as := [zI x1]) (rest := [zI 0, zR out]) dL_format_4 rfl kL_format iX11_format (ci := 11) rfl eX11_format hd2 hb hbn rfl rfl (Nat.le_of_ble_eq_true rfl) ⟨zwR hbn, trivial, zwR hon, trivial⟩ ⟨trivial, zwR hon, trivial⟩ (k.mono fun r σ1 hh => ?_)
  obtain ⟨⟨o1, o2⟩, hq⟩ := hQ r σ1 hh
  rcases hq with ⟨v, e⟩ | ⟨e, en⟩ | ⟨e, en⟩ <;> subst e
  · show zF G mL_format d 7 [(0, zR b), (1, zI x1), (2, zR out)] [zI v, zI 0, zR out] σ1 _
    refine zF_wI ?_
    refine zF_i2l 8 dL_format_7 rfl (zw32_rg _) ?_
    refine zF_lastore 9 dL_format_8 rfl o2 o1 (by decide) (by decide) ?_
    refine zF_goto 15 dL_format_9 rfl ?_
    exact zF_iconst 16 dL_format_15 rfl (zF_ireturn dL_format_16 rfl ⟨_, σ1, hh, Or.inl ⟨v, rfl, rfl, rfl⟩⟩)
  · exact ⟨en, 3, 13, hL_format_eNSE, zF_iconst 14 dL_format_13 rfl (zF_ireturn dL_format_14 rfl ⟨_, σ1, hh, Or.inr (Or.inl ⟨rfl, rfl, rfl⟩)⟩)⟩
  · exact absurd hh (nI σ1)
abbrev mL_query : zMeth := (yL_query, cL_query, 4, some .int)
abbrev hL_query : List (Nat × Nat × Nat × Nat) := [(0, 9, 12, 13)]
theorem wL_query : Cond.codeWith yL_query cL_query 4 (some .int) hL_query ∈ lw_all := zi7 109 rfl rfl
theorem kL_query : zCL RL 99 mX11_query 1 := ⟨zi7 110 rfl rfl, wX11_query, zi1 1 rfl rfl, ⟨by decide, by decide, by decide +kernel⟩, by decide⟩
theorem hL_query_eIAE : zhand G mL_query 4 eIAE 3 13 := ⟨_, _, _, _, [], (0, 9, 12, 13), [], eIAE, 12, wL_query, rfl, (fun z hz => nomatch hz), by decide, rfl, by decide, zi4 94 rfl rfl, zj4 105 rfl rfl, by decide, Or.inr ⟨3, dL_query_12, rfl, rfl⟩⟩
theorem zl_query (hd2 : d2 + 1 ≤ d) (hb : zkd σ b = (0, 11)) (hbn : b < zn σ) (hon : out < zn σ) (k : zE G mX11_query d2 [zR b, zI x1] σ Qc) (hQ : ∀ r σ1, Qc r σ1 → lQ σ out r σ1) (nN : ∀ σ1, ¬ Qc (.inr eNSE) σ1) : zEH G mL_query hL_query d [zR b, zI x1, zR out] σ (lP Qc out 1) := by
  refine zE_ofH rfl rfl (by simp [zcat]) (Nat.le_of_ble_eq_true rfl) ?_
  show zF G mL_query d 0 [(0, zR b), (1, zI x1), (2, zR out)] [] σ _
  refine zF_aload_n 1 dL_query_0 rfl rfl ?_
  refine zF_iconst 2 dL_query_1 rfl ?_
  refine zF_aload_n 3 dL_query_2 rfl rfl ?_
  refine zF_iload_n 4 dL_query_3 rfl rfl ?_
  refine zF_callVHn 7 (d2 := d2) (as := [zI x1]) (rest := [zI 0, zR out]) dL_query_4 rfl kL_query iX11_query (ci := 11) rfl eX11_query hd2 hb hbn rfl rfl (Nat.le_of_ble_eq_true rfl) ⟨zwR hbn, trivial, zwR hon, trivial⟩ ⟨trivial, zwR hon, trivial⟩ (k.mono fun r σ1 hh => ?_)
  obtain ⟨⟨o1, o2⟩, hq⟩ := hQ r σ1 hh
  rcases hq with ⟨v, e⟩ | ⟨e, en⟩ | ⟨e, en⟩ <;> subst e
  · show zF G mL_query d 7 [(0, zR b), (1, zI x1), (2, zR out)] [zI v, zI 0, zR out] σ1 _
    refine zF_wI ?_
    refine zF_i2l 8 dL_query_7 rfl (zw32_rg _) ?_
    refine zF_lastore 9 dL_query_8 rfl o2 o1 (by decide) (by decide) ?_
    refine zF_goto 15 dL_query_9 rfl ?_
    exact zF_iconst 16 dL_query_15 rfl (zF_ireturn dL_query_16 rfl ⟨_, σ1, hh, Or.inl ⟨v, rfl, rfl, rfl⟩⟩)
  · exact absurd hh (nN σ1)
  · exact ⟨en, 3, 13, hL_query_eIAE, zF_iconst 14 dL_query_13 rfl (zF_ireturn dL_query_14 rfl ⟨_, σ1, hh, Or.inr (Or.inr ⟨rfl, rfl, rfl⟩)⟩)⟩
end ZLH
