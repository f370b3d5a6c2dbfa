theorem dLw_cell_0 : decode cLw_cell 0 = .ok (.iload_n 1, 1) := by decide +kernel
theorem dLw_cell_1 : decode cLw_cell 1 = .ok (.aload_n 0, 1) := by decide +kernel
theorem dLw_cell_2 : decode cLw_cell 2 = .ok (.arraylength, 1) := by decide +kernel
theorem dLw_cell_3 : decode cLw_cell 3 = .ok (.if_icmp .ge 9, 3) := by decide +kernel
theorem dLw_cell_6 : decode cLw_cell 6 = .ok (.aload_n 0, 1) := by decide +kernel
theorem dLw_cell_7 : decode cLw_cell 7 = .ok (.iload_n 1, 1) := by decide +kernel
theorem dLw_cell_8 : decode cLw_cell 8 = .ok (.iaload, 1) := by decide +kernel
theorem dLw_cell_9 : decode cLw_cell 9 = .ok (.goto 4, 3) := by decide +kernel
theorem dLw_cell_12 : decode cLw_cell 12 = .ok (.iconst 0, 1) := by decide +kernel
theorem dLw_cell_13 : decode cLw_cell 13 = .ok (.ireturn, 1) := by decide +kernel
theorem dLw_spindle_0 : decode cLw_spindle 0 = .ok (.aload 5, 2) := by decide +kernel
theorem dLw_spindle_2 : decode cLw_spindle 2 = .ok (.iconst 0, 1) := by decide +kernel
theorem dLw_spindle_3 : decode cLw_spindle 3 = .ok (.aload_n 0, 1) := by decide +kernel
theorem dLw_spindle_4 : decode cLw_spindle 4 = .ok (.iload_n 1, 1) := by decide +kernel
theorem dLw_spindle_5 : decode cLw_spindle 5 = .ok (.iload_n 2, 1) := by decide +kernel
theorem dLw_spindle_6 : decode cLw_spindle 6 = .ok (.iload_n 3, 1) := by decide +kernel
theorem dLw_spindle_7 : decode cLw_spindle 7 = .ok (.iload 4, 2) := by decide +kernel
theorem dLw_spindle_9 : decode cLw_spindle 9 = .ok (.invokevirtual 7, 3) := by decide +kernel
theorem dLw_spindle_12 : decode cLw_spindle 12 = .ok (.ifCond .eq 7, 3) := by decide +kernel
theorem dLw_spindle_15 : decode cLw_spindle 15 = .ok (.lconst 1, 1) := by decide +kernel
theorem dLw_spindle_16 : decode cLw_spindle 16 = .ok (.goto 4, 3) := by decide +kernel
theorem dLw_spindle_19 : decode cLw_spindle 19 = .ok (.lconst 0, 1) := by decide +kernel
theorem dLw_spindle_20 : decode cLw_spindle 20 = .ok (.lastore, 1) := by decide +kernel
theorem dLw_spindle_21 : decode cLw_spindle 21 = .ok (.goto 11, 3) := by decide +kernel
theorem dLw_spindle_24 : decode cLw_spindle 24 = .ok (.astore 6, 2) := by decide +kernel
theorem dLw_spindle_26 : decode cLw_spindle 26 = .ok (.iconst 1, 1) := by decide +kernel
theorem dLw_spindle_27 : decode cLw_spindle 27 = .ok (.ireturn, 1) := by decide +kernel
theorem dLw_spindle_28 : decode cLw_spindle 28 = .ok (.astore 6, 2) := by decide +kernel
theorem dLw_spindle_30 : decode cLw_spindle 30 = .ok (.iconst 2, 1) := by decide +kernel
theorem dLw_spindle_31 : decode cLw_spindle 31 = .ok (.ireturn, 1) := by decide +kernel
theorem dLw_spindle_32 : decode cLw_spindle 32 = .ok (.iconst 0, 1) := by decide +kernel
theorem dLw_spindle_33 : decode cLw_spindle 33 = .ok (.ireturn, 1) := by decide +kernel
theorem dLw_hole_0 : decode cLw_hole 0 = .ok (.aload 6, 2) := by decide +kernel
theorem dLw_hole_2 : decode cLw_hole 2 = .ok (.iconst 0, 1) := by decide +kernel
theorem dLw_hole_3 : decode cLw_hole 3 = .ok (.aload_n 0, 1) := by decide +kernel
theorem dLw_hole_4 : decode cLw_hole 4 = .ok (.iload_n 1, 1) := by decide +kernel
theorem dLw_hole_5 : decode cLw_hole 5 = .ok (.iload_n 2, 1) := by decide +kernel
theorem dLw_hole_6 : decode cLw_hole 6 = .ok (.iload_n 3, 1) := by decide +kernel
theorem dLw_hole_7 : decode cLw_hole 7 = .ok (.iload 4, 2) := by decide +kernel
theorem dLw_hole_9 : decode cLw_hole 9 = .ok (.iload 5, 2) := by decide +kernel
theorem dLw_hole_11 : decode cLw_hole 11 = .ok (.invokevirtual 17, 3) := by decide +kernel
theorem dLw_hole_14 : decode cLw_hole 14 = .ok (.i2l, 1) := by decide +kernel
theorem dLw_hole_15 : decode cLw_hole 15 = .ok (.lastore, 1) := by decide +kernel
theorem dLw_hole_16 : decode cLw_hole 16 = .ok (.goto 11, 3) := by decide +kernel
theorem dLw_hole_19 : decode cLw_hole 19 = .ok (.astore 7, 2) := by decide +kernel
theorem dLw_hole_21 : decode cLw_hole 21 = .ok (.iconst 1, 1) := by decide +kernel
theorem dLw_hole_22 : decode cLw_hole 22 = .ok (.ireturn, 1) := by decide +kernel
theorem dLw_hole_23 : decode cLw_hole 23 = .ok (.astore 7, 2) := by decide +kernel
theorem dLw_hole_25 : decode cLw_hole 25 = .ok (.iconst 2, 1) := by decide +kernel
theorem dLw_hole_26 : decode cLw_hole 26 = .ok (.ireturn, 1) := by decide +kernel
theorem dLw_hole_27 : decode cLw_hole 27 = .ok (.iconst 0, 1) := by decide +kernel
theorem dLw_hole_28 : decode cLw_hole 28 = .ok (.ireturn, 1) := by decide +kernel
theorem dLw_through_0 : decode cLw_through 0 = .ok (.aload_n 3, 1) := by decide +kernel
theorem dLw_through_1 : decode cLw_through 1 = .ok (.iconst 0, 1) := by decide +kernel
theorem dLw_through_2 : decode cLw_through 2 = .ok (.aload_n 0, 1) := by decide +kernel
theorem dLw_through_3 : decode cLw_through 3 = .ok (.iload_n 1, 1) := by decide +kernel
theorem dLw_through_4 : decode cLw_through 4 = .ok (.iload_n 2, 1) := by decide +kernel
theorem dLw_through_5 : decode cLw_through 5 = .ok (.invokevirtual 23, 3) := by decide +kernel
theorem dLw_through_8 : decode cLw_through 8 = .ok (.ifCond .eq 7, 3) := by decide +kernel
theorem dLw_through_11 : decode cLw_through 11 = .ok (.lconst 1, 1) := by decide +kernel
theorem dLw_through_12 : decode cLw_through 12 = .ok (.goto 4, 3) := by decide +kernel
theorem dLw_through_15 : decode cLw_through 15 = .ok (.lconst 0, 1) := by decide +kernel
theorem dLw_through_16 : decode cLw_through 16 = .ok (.lastore, 1) := by decide +kernel
theorem dLw_through_17 : decode cLw_through 17 = .ok (.goto 7, 3) := by decide +kernel
theorem dLw_through_20 : decode cLw_through 20 = .ok (.astore 4, 2) := by decide +kernel
theorem dLw_through_22 : decode cLw_through 22 = .ok (.iconst 1, 1) := by decide +kernel
theorem dLw_through_23 : decode cLw_through 23 = .ok (.ireturn, 1) := by decide +kernel
theorem dLw_through_24 : decode cLw_through 24 = .ok (.iconst 0, 1) := by decide +kernel
theorem dLw_through_25 : decode cLw_through 25 = .ok (.ireturn, 1) := by decide +kernel
theorem dLw_clamp_0 : decode cLw_clamp 0 = .ok (.aload 5, 2) := by decide +kernel
theorem dLw_clamp_2 : decode cLw_clamp 2 = .ok (.iconst 0, 1) := by decide +kernel
theorem dLw_clamp_3 : decode cLw_clamp 3 = .ok (.aload_n 0, 1) := by decide +kernel
theorem dLw_clamp_4 : decode cLw_clamp 4 = .ok (.iload_n 1, 1) := by decide +kernel
theorem dLw_clamp_5 : decode cLw_clamp 5 = .ok (.iload_n 2, 1) := by decide +kernel
theorem dLw_clamp_6 : decode cLw_clamp 6 = .ok (.iload_n 3, 1) := by decide +kernel
theorem dLw_clamp_7 : decode cLw_clamp 7 = .ok (.iload 4, 2) := by decide +kernel
theorem dLw_clamp_9 : decode cLw_clamp 9 = .ok (.invokevirtual 27, 3) := by decide +kernel
theorem dLw_clamp_12 : decode cLw_clamp 12 = .ok (.ifCond .eq 7, 3) := by decide +kernel
theorem dLw_clamp_15 : decode cLw_clamp 15 = .ok (.lconst 1, 1) := by decide +kernel
theorem dLw_clamp_16 : decode cLw_clamp 16 = .ok (.goto 4, 3) := by decide +kernel
theorem dLw_clamp_19 : decode cLw_clamp 19 = .ok (.lconst 0, 1) := by decide +kernel
theorem dLw_clamp_20 : decode cLw_clamp 20 = .ok (.lastore, 1) := by decide +kernel
theorem dLw_clamp_21 : decode cLw_clamp 21 = .ok (.goto 7, 3) := by decide +kernel
theorem dLw_clamp_24 : decode cLw_clamp 24 = .ok (.astore 6, 2) := by decide +kernel
theorem dLw_clamp_26 : decode cLw_clamp 26 = .ok (.iconst 1, 1) := by decide +kernel
theorem dLw_clamp_27 : decode cLw_clamp 27 = .ok (.ireturn, 1) := by decide +kernel
theorem dLw_clamp_28 : decode cLw_clamp 28 = .ok (.iconst 0, 1) := by decide +kernel
theorem dLw_clamp_29 : decode cLw_clamp 29 = .ok (.ireturn, 1) := by decide +kernel
theorem dLw_mirror_0 : decode cLw_mirror 0 = .ok (.aload_n 2, 1) := by decide +kernel
theorem dLw_mirror_1 : decode cLw_mirror 1 = .ok (.iconst 0, 1) := by decide +kernel
theorem dLw_mirror_2 : decode cLw_mirror 2 = .ok (.aload_n 0, 1) := by decide +kernel
theorem dLw_mirror_3 : decode cLw_mirror 3 = .ok (.iload_n 1, 1) := by decide +kernel
theorem dLw_mirror_4 : decode cLw_mirror 4 = .ok (.invokevirtual 30, 3) := by decide +kernel
theorem dLw_mirror_7 : decode cLw_mirror 7 = .ok (.i2l, 1) := by decide +kernel
theorem dLw_mirror_8 : decode cLw_mirror 8 = .ok (.lastore, 1) := by decide +kernel
theorem dLw_mirror_9 : decode cLw_mirror 9 = .ok (.goto 6, 3) := by decide +kernel
theorem dLw_mirror_12 : decode cLw_mirror 12 = .ok (.astore_n 3, 1) := by decide +kernel
theorem dLw_mirror_13 : decode cLw_mirror 13 = .ok (.iconst 1, 1) := by decide +kernel
theorem dLw_mirror_14 : decode cLw_mirror 14 = .ok (.ireturn, 1) := by decide +kernel
theorem dLw_mirror_15 : decode cLw_mirror 15 = .ok (.iconst 0, 1) := by decide +kernel
theorem dLw_mirror_16 : decode cLw_mirror 16 = .ok (.ireturn, 1) := by decide +kernel
theorem dLw_hit_0 : decode cLw_hit 0 = .ok (.aload_n 3, 1) := by decide +kernel
theorem dLw_hit_1 : decode cLw_hit 1 = .ok (.iconst 0, 1) := by decide +kernel
theorem dLw_hit_2 : decode cLw_hit 2 = .ok (.aload_n 0, 1) := by decide +kernel
theorem dLw_hit_3 : decode cLw_hit 3 = .ok (.iload_n 1, 1) := by decide +kernel
theorem dLw_hit_4 : decode cLw_hit 4 = .ok (.iload_n 2, 1) := by decide +kernel
theorem dLw_hit_5 : decode cLw_hit 5 = .ok (.invokevirtual 34, 3) := by decide +kernel
theorem dLw_hit_8 : decode cLw_hit 8 = .ok (.i2l, 1) := by decide +kernel
theorem dLw_hit_9 : decode cLw_hit 9 = .ok (.lastore, 1) := by decide +kernel
theorem dLw_hit_10 : decode cLw_hit 10 = .ok (.goto 15, 3) := by decide +kernel
theorem dLw_hit_13 : decode cLw_hit 13 = .ok (.astore 4, 2) := by decide +kernel
theorem dLw_hit_15 : decode cLw_hit 15 = .ok (.iconst 1, 1) := by decide +kernel
theorem dLw_hit_16 : decode cLw_hit 16 = .ok (.ireturn, 1) := by decide +kernel
theorem dLw_hit_17 : decode cLw_hit 17 = .ok (.astore 4, 2) := by decide +kernel
theorem dLw_hit_19 : decode cLw_hit 19 = .ok (.iconst 2, 1) := by decide +kernel
theorem dLw_hit_20 : decode cLw_hit 20 = .ok (.ireturn, 1) := by decide +kernel
theorem dLw_hit_21 : decode cLw_hit 21 = .ok (.astore 4, 2) := by decide +kernel
theorem dLw_hit_23 : decode cLw_hit 23 = .ok (.iconst 3, 1) := by decide +kernel
theorem dLw_hit_24 : decode cLw_hit 24 = .ok (.ireturn, 1) := by decide +kernel
theorem dLw_hit_25 : decode cLw_hit 25 = .ok (.iconst 0, 1) := by decide +kernel
theorem dLw_hit_26 : decode cLw_hit 26 = .ok (.ireturn, 1) := by decide +kernel
theorem dLw_drills_0 : decode cLw_drills 0 = .ok (.aload_n 3, 1) := by decide +kernel
theorem dLw_drills_1 : decode cLw_drills 1 = .ok (.iconst 0, 1) := by decide +kernel
theorem dLw_drills_2 : decode cLw_drills 2 = .ok (.aload_n 0, 1) := by decide +kernel
theorem dLw_drills_3 : decode cLw_drills 3 = .ok (.iload_n 1, 1) := by decide +kernel
theorem dLw_drills_4 : decode cLw_drills 4 = .ok (.iload_n 2, 1) := by decide +kernel
theorem dLw_drills_5 : decode cLw_drills 5 = .ok (.invokevirtual 38, 3) := by decide +kernel
theorem dLw_drills_8 : decode cLw_drills 8 = .ok (.ifCond .eq 7, 3) := by decide +kernel
theorem dLw_drills_11 : decode cLw_drills 11 = .ok (.lconst 1, 1) := by decide +kernel
theorem dLw_drills_12 : decode cLw_drills 12 = .ok (.goto 4, 3) := by decide +kernel
theorem dLw_drills_15 : decode cLw_drills 15 = .ok (.lconst 0, 1) := by decide +kernel
theorem dLw_drills_16 : decode cLw_drills 16 = .ok (.lastore, 1) := by decide +kernel
theorem dLw_drills_17 : decode cLw_drills 17 = .ok (.goto 11, 3) := by decide +kernel
theorem dLw_drills_20 : decode cLw_drills 20 = .ok (.astore 4, 2) := by decide +kernel
theorem dLw_drills_22 : decode cLw_drills 22 = .ok (.iconst 1, 1) := by decide +kernel
theorem dLw_drills_23 : decode cLw_drills 23 = .ok (.ireturn, 1) := by decide +kernel
theorem dLw_drills_24 : decode cLw_drills 24 = .ok (.astore 4, 2) := by decide +kernel
theorem dLw_drills_26 : decode cLw_drills 26 = .ok (.iconst 2, 1) := by decide +kernel
theorem dLw_drills_27 : decode cLw_drills 27 = .ok (.ireturn, 1) := by decide +kernel
theorem dLw_drills_28 : decode cLw_drills 28 = .ok (.iconst 0, 1) := by decide +kernel
theorem dLw_drills_29 : decode cLw_drills 29 = .ok (.ireturn, 1) := by decide +kernel
theorem dLw_by_0 : decode cLw_by 0 = .ok (.aload_n 2, 1) := by decide +kernel
theorem dLw_by_1 : decode cLw_by 1 = .ok (.iconst 0, 1) := by decide +kernel
theorem dLw_by_2 : decode cLw_by 2 = .ok (.aload_n 0, 1) := by decide +kernel
theorem dLw_by_3 : decode cLw_by 3 = .ok (.iload_n 1, 1) := by decide +kernel
theorem dLw_by_4 : decode cLw_by 4 = .ok (.invokevirtual 42, 3) := by decide +kernel
theorem dLw_by_7 : decode cLw_by 7 = .ok (.i2l, 1) := by decide +kernel
theorem dLw_by_8 : decode cLw_by 8 = .ok (.lastore, 1) := by decide +kernel
theorem dLw_by_9 : decode cLw_by 9 = .ok (.goto 9, 3) := by decide +kernel
theorem dLw_by_12 : decode cLw_by 12 = .ok (.astore_n 3, 1) := by decide +kernel
theorem dLw_by_13 : decode cLw_by 13 = .ok (.iconst 1, 1) := by decide +kernel
theorem dLw_by_14 : decode cLw_by 14 = .ok (.ireturn, 1) := by decide +kernel
theorem dLw_by_15 : decode cLw_by 15 = .ok (.astore_n 3, 1) := by decide +kernel
theorem dLw_by_16 : decode cLw_by 16 = .ok (.iconst 2, 1) := by decide +kernel
theorem dLw_by_17 : decode cLw_by 17 = .ok (.ireturn, 1) := by decide +kernel
theorem dLw_by_18 : decode cLw_by 18 = .ok (.iconst 0, 1) := by decide +kernel
theorem dLw_by_19 : decode cLw_by 19 = .ok (.ireturn, 1) := by decide +kernel
theorem dLw_single_0 : decode cLw_single 0 = .ok (.aload_n 2, 1) := by decide +kernel
theorem dLw_single_1 : decode cLw_single 1 = .ok (.iconst 0, 1) := by decide +kernel
theorem dLw_single_2 : decode cLw_single 2 = .ok (.aload_n 0, 1) := by decide +kernel
theorem dLw_single_3 : decode cLw_single 3 = .ok (.iload_n 1, 1) := by decide +kernel
theorem dLw_single_4 : decode cLw_single 4 = .ok (.invokevirtual 45, 3) := by decide +kernel
theorem dLw_single_7 : decode cLw_single 7 = .ok (.ifCond .eq 7, 3) := by decide +kernel
theorem dLw_single_10 : decode cLw_single 10 = .ok (.lconst 1, 1) := by decide +kernel
theorem dLw_single_11 : decode cLw_single 11 = .ok (.goto 4, 3) := by decide +kernel
theorem dLw_single_14 : decode cLw_single 14 = .ok (.lconst 0, 1) := by decide +kernel
theorem dLw_single_15 : decode cLw_single 15 = .ok (.lastore, 1) := by decide +kernel
theorem dLw_single_16 : decode cLw_single 16 = .ok (.goto 9, 3) := by decide +kernel
theorem dLw_single_19 : decode cLw_single 19 = .ok (.astore_n 3, 1) := by decide +kernel
theorem dLw_single_20 : decode cLw_single 20 = .ok (.iconst 1, 1) := by decide +kernel
theorem dLw_single_21 : decode cLw_single 21 = .ok (.ireturn, 1) := by decide +kernel
theorem dLw_single_22 : decode cLw_single 22 = .ok (.astore_n 3, 1) := by decide +kernel
theorem dLw_single_23 : decode cLw_single 23 = .ok (.iconst 2, 1) := by decide +kernel
theorem dLw_single_24 : decode cLw_single 24 = .ok (.ireturn, 1) := by decide +kernel
theorem dLw_single_25 : decode cLw_single 25 = .ok (.iconst 0, 1) := by decide +kernel
theorem dLw_single_26 : decode cLw_single 26 = .ok (.ireturn, 1) := by decide +kernel
theorem dLw_order_0 : decode cLw_order 0 = .ok (.aload_n 2, 1) := by decide +kernel
theorem dLw_order_1 : decode cLw_order 1 = .ok (.iconst 0, 1) := by decide +kernel
theorem dLw_order_2 : decode cLw_order 2 = .ok (.aload_n 0, 1) := by decide +kernel
theorem dLw_order_3 : decode cLw_order 3 = .ok (.iload_n 1, 1) := by decide +kernel
theorem dLw_order_4 : decode cLw_order 4 = .ok (.invokevirtual 49, 3) := by decide +kernel
theorem dLw_order_7 : decode cLw_order 7 = .ok (.i2l, 1) := by decide +kernel
theorem dLw_order_8 : decode cLw_order 8 = .ok (.lastore, 1) := by decide +kernel
theorem dLw_order_9 : decode cLw_order 9 = .ok (.goto 9, 3) := by decide +kernel
theorem dLw_order_12 : decode cLw_order 12 = .ok (.astore_n 3, 1) := by decide +kernel
theorem dLw_order_13 : decode cLw_order 13 = .ok (.iconst 1, 1) := by decide +kernel
theorem dLw_order_14 : decode cLw_order 14 = .ok (.ireturn, 1) := by decide +kernel
theorem dLw_order_15 : decode cLw_order 15 = .ok (.astore_n 3, 1) := by decide +kernel
theorem dLw_order_16 : decode cLw_order 16 = .ok (.iconst 2, 1) := by decide +kernel
theorem dLw_order_17 : decode cLw_order 17 = .ok (.ireturn, 1) := by decide +kernel
theorem dLw_order_18 : decode cLw_order 18 = .ok (.iconst 0, 1) := by decide +kernel
theorem dLw_order_19 : decode cLw_order 19 = .ok (.ireturn, 1) := by decide +kernel
theorem dLw_travel_0 : decode cLw_travel 0 = .ok (.aload_n 1, 1) := by decide +kernel
theorem dLw_travel_1 : decode cLw_travel 1 = .ok (.iconst 0, 1) := by decide +kernel
theorem dLw_travel_2 : decode cLw_travel 2 = .ok (.aload_n 0, 1) := by decide +kernel
theorem dLw_travel_3 : decode cLw_travel 3 = .ok (.invokevirtual 52, 3) := by decide +kernel
theorem dLw_travel_6 : decode cLw_travel 6 = .ok (.lastore, 1) := by decide +kernel
theorem dLw_travel_7 : decode cLw_travel 7 = .ok (.goto 6, 3) := by decide +kernel
theorem dLw_travel_10 : decode cLw_travel 10 = .ok (.astore_n 2, 1) := by decide +kernel
theorem dLw_travel_11 : decode cLw_travel 11 = .ok (.iconst 1, 1) := by decide +kernel
theorem dLw_travel_12 : decode cLw_travel 12 = .ok (.ireturn, 1) := by decide +kernel
theorem dLw_travel_13 : decode cLw_travel 13 = .ok (.iconst 0, 1) := by decide +kernel
theorem dLw_travel_14 : decode cLw_travel 14 = .ok (.ireturn, 1) := by decide +kernel
theorem dLw_least_0 : decode cLw_least 0 = .ok (.aload_n 1, 1) := by decide +kernel
theorem dLw_least_1 : decode cLw_least 1 = .ok (.iconst 0, 1) := by decide +kernel
theorem dLw_least_2 : decode cLw_least 2 = .ok (.aload_n 0, 1) := by decide +kernel
theorem dLw_least_3 : decode cLw_least 3 = .ok (.invokevirtual 56, 3) := by decide +kernel
theorem dLw_least_6 : decode cLw_least 6 = .ok (.ifCond .eq 7, 3) := by decide +kernel
theorem dLw_least_9 : decode cLw_least 9 = .ok (.lconst 1, 1) := by decide +kernel
theorem dLw_least_10 : decode cLw_least 10 = .ok (.goto 4, 3) := by decide +kernel
theorem dLw_least_13 : decode cLw_least 13 = .ok (.lconst 0, 1) := by decide +kernel
theorem dLw_least_14 : decode cLw_least 14 = .ok (.lastore, 1) := by decide +kernel
theorem dLw_least_15 : decode cLw_least 15 = .ok (.goto 6, 3) := by decide +kernel
theorem dLw_least_18 : decode cLw_least 18 = .ok (.astore_n 2, 1) := by decide +kernel
theorem dLw_least_19 : decode cLw_least 19 = .ok (.iconst 1, 1) := by decide +kernel
theorem dLw_least_20 : decode cLw_least 20 = .ok (.ireturn, 1) := by decide +kernel
theorem dLw_least_21 : decode cLw_least 21 = .ok (.iconst 0, 1) := by decide +kernel
theorem dLw_least_22 : decode cLw_least 22 = .ok (.ireturn, 1) := by decide +kernel
theorem dLw_bound_0 : decode cLw_bound 0 = .ok (.aload_n 1, 1) := by decide +kernel
theorem dLw_bound_1 : decode cLw_bound 1 = .ok (.iconst 0, 1) := by decide +kernel
theorem dLw_bound_2 : decode cLw_bound 2 = .ok (.aload_n 0, 1) := by decide +kernel
theorem dLw_bound_3 : decode cLw_bound 3 = .ok (.invokevirtual 60, 3) := by decide +kernel
theorem dLw_bound_6 : decode cLw_bound 6 = .ok (.i2l, 1) := by decide +kernel
theorem dLw_bound_7 : decode cLw_bound 7 = .ok (.lastore, 1) := by decide +kernel
theorem dLw_bound_8 : decode cLw_bound 8 = .ok (.goto 6, 3) := by decide +kernel
theorem dLw_bound_11 : decode cLw_bound 11 = .ok (.astore_n 2, 1) := by decide +kernel
theorem dLw_bound_12 : decode cLw_bound 12 = .ok (.iconst 1, 1) := by decide +kernel
theorem dLw_bound_13 : decode cLw_bound 13 = .ok (.ireturn, 1) := by decide +kernel
theorem dLw_bound_14 : decode cLw_bound 14 = .ok (.iconst 0, 1) := by decide +kernel
theorem dLw_bound_15 : decode cLw_bound 15 = .ok (.ireturn, 1) := by decide +kernel
theorem dLw_places_0 : decode cLw_places 0 = .ok (.aload_n 2, 1) := by decide +kernel
theorem dLw_places_1 : decode cLw_places 1 = .ok (.iconst 0, 1) := by decide +kernel
theorem dLw_places_2 : decode cLw_places 2 = .ok (.aload_n 0, 1) := by decide +kernel
theorem dLw_places_3 : decode cLw_places 3 = .ok (.iload_n 1, 1) := by decide +kernel
theorem dLw_places_4 : decode cLw_places 4 = .ok (.invokevirtual 64, 3) := by decide +kernel
theorem dLw_places_7 : decode cLw_places 7 = .ok (.i2l, 1) := by decide +kernel
theorem dLw_places_8 : decode cLw_places 8 = .ok (.lastore, 1) := by decide +kernel
theorem dLw_places_9 : decode cLw_places 9 = .ok (.goto 6, 3) := by decide +kernel
theorem dLw_places_12 : decode cLw_places 12 = .ok (.astore_n 3, 1) := by decide +kernel
theorem dLw_places_13 : decode cLw_places 13 = .ok (.iconst 1, 1) := by decide +kernel
theorem dLw_places_14 : decode cLw_places 14 = .ok (.ireturn, 1) := by decide +kernel
theorem dLw_places_15 : decode cLw_places 15 = .ok (.iconst 0, 1) := by decide +kernel
theorem dLw_places_16 : decode cLw_places 16 = .ok (.ireturn, 1) := by decide +kernel
theorem dLw_seconds_0 : decode cLw_seconds 0 = .ok (.aload_n 1, 1) := by decide +kernel
theorem dLw_seconds_1 : decode cLw_seconds 1 = .ok (.iconst 0, 1) := by decide +kernel
theorem dLw_seconds_2 : decode cLw_seconds 2 = .ok (.aload_n 0, 1) := by decide +kernel
theorem dLw_seconds_3 : decode cLw_seconds 3 = .ok (.invokevirtual 67, 3) := by decide +kernel
theorem dLw_seconds_6 : decode cLw_seconds 6 = .ok (.lastore, 1) := by decide +kernel
theorem dLw_seconds_7 : decode cLw_seconds 7 = .ok (.goto 6, 3) := by decide +kernel
theorem dLw_seconds_10 : decode cLw_seconds 10 = .ok (.astore_n 2, 1) := by decide +kernel
theorem dLw_seconds_11 : decode cLw_seconds 11 = .ok (.iconst 1, 1) := by decide +kernel
theorem dLw_seconds_12 : decode cLw_seconds 12 = .ok (.ireturn, 1) := by decide +kernel
theorem dLw_seconds_13 : decode cLw_seconds 13 = .ok (.iconst 0, 1) := by decide +kernel
theorem dLw_seconds_14 : decode cLw_seconds 14 = .ok (.ireturn, 1) := by decide +kernel
