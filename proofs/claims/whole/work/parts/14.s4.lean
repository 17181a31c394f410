theorem d29_0 : decode cX4_reset 0 = .ok (.aload_n 0, 1) := by decide +kernel
theorem z29_0 {st : List Value} {w : pm_H} {b1 : Option Value} {x0 : Nat} : pm_ev 29 0 [some (.ref x0), b1] st w = pm_ev 29 1 [some (.ref x0), b1] (.ref x0 :: st) w := pm_ny pt_29 d29_0 rfl rfl rfl
theorem d29_1 : decode cX4_reset 1 = .ok (.iconst 1, 1) := by decide +kernel
theorem z29_1 {st : List Value} {w : pm_H} {pl : pm_L} : pm_ev 29 1 pl st w = pm_ev 29 2 pl (.int 1 :: st) w := pm_ny pt_29 d29_1 rfl rfl rfl
theorem d29_2 : decode cX4_reset 2 = .ok (.putfield 42, 3) := by decide +kernel
theorem z29_2 {st : List Value} {w : pm_H} {pl : pm_L} {x0 : Nat} {x1 : Int32} : pm_ev 29 2 pl (.int x1 :: .ref x0 :: st) w = pm_kw 29 5 pl st (pm_pf w x0 (w x0) 4 0 0 (.int x1)) := pm_np pt_29 pt_F_4_42 d29_2
theorem d29_5 : decode cX4_reset 5 = .ok (.iconst 0, 1) := by decide +kernel
theorem z29_5 {st : List Value} {w : pm_H} {pl : pm_L} : pm_ev 29 5 pl st w = pm_ev 29 6 pl (.int 0 :: st) w := pm_ny pt_29 d29_5 rfl rfl rfl
theorem d29_6 : decode cX4_reset 6 = .ok (.istore_n 1, 1) := by decide +kernel
theorem z29_6 {st : List Value} {w : pm_H} {b1 : Option Value} {x0 : Int32} {x9 : Nat} : pm_ev 29 6 [some (.ref x9), b1] (.int x0 :: st) w = pm_ev 29 7 [some (.ref x9), some (.int x0)] st w := pm_ny pt_29 d29_6 rfl rfl rfl
theorem d29_7 : decode cX4_reset 7 = .ok (.iload_n 1, 1) := by decide +kernel
theorem z29_7 {st : List Value} {w : pm_H} {b0 : Option Value} {x0 : Int32} : pm_ev 29 7 [b0, some (.int x0)] st w = pm_ev 29 8 [b0, some (.int x0)] (.int x0 :: st) w := pm_ny pt_29 d29_7 rfl rfl rfl
theorem d29_8 : decode cX4_reset 8 = .ok (.iconst 4, 1) := by decide +kernel
theorem z29_8 {st : List Value} {w : pm_H} {pl : pm_L} : pm_ev 29 8 pl st w = pm_ev 29 9 pl (.int 4 :: st) w := pm_ny pt_29 d29_8 rfl rfl rfl
theorem d29_9 : decode cX4_reset 9 = .ok (.if_icmp .ge 23, 3) := by decide +kernel
theorem z29_9 {st : List Value} {w : pm_H} {pl : pm_L} {x0 x1 : Int32} : pm_ev 29 9 pl (.int x1 :: .int x0 :: st) w = if x0 < x1 then pm_ev 29 12 pl st w else pm_ev 29 32 pl st w := pm_nin (c := x1 ≤ x0) pt_29 d29_9 rfl rfl rfl pm_ge
theorem d29_12 : decode cX4_reset 12 = .ok (.aload_n 0, 1) := by decide +kernel
theorem z29_12 {st : List Value} {w : pm_H} {b1 : Option Value} {x0 : Nat} : pm_ev 29 12 [some (.ref x0), b1] st w = pm_ev 29 13 [some (.ref x0), b1] (.ref x0 :: st) w := pm_ny pt_29 d29_12 rfl rfl rfl
theorem d29_13 : decode cX4_reset 13 = .ok (.getfield 9, 3) := by decide +kernel
theorem z29_13 {st : List Value} {w : pm_H} {pl : pm_L} {x0 : Nat} : pm_ev 29 13 pl (.ref x0 :: st) w = pm_kv 29 16 pl st w (pm_gf (w x0) 4 1) := pm_ng pt_29 pt_F_4_9 d29_13
theorem d29_16 : decode cX4_reset 16 = .ok (.iload_n 1, 1) := by decide +kernel
theorem z29_16 {st : List Value} {w : pm_H} {b0 : Option Value} {x0 : Int32} : pm_ev 29 16 [b0, some (.int x0)] st w = pm_ev 29 17 [b0, some (.int x0)] (.int x0 :: st) w := pm_ny pt_29 d29_16 rfl rfl rfl
theorem d29_17 : decode cX4_reset 17 = .ok (.iconst 0, 1) := by decide +kernel
theorem z29_17 {st : List Value} {w : pm_H} {pl : pm_L} : pm_ev 29 17 pl st w = pm_ev 29 18 pl (.int 0 :: st) w := pm_ny pt_29 d29_17 rfl rfl rfl
theorem d29_18 : decode cX4_reset 18 = .ok (.iastore, 1) := by decide +kernel
theorem z29_18 {st : List Value} {w : pm_H} {pl : pm_L} {x0 : Nat} {x1 : Int32} {x2 : Int32} : pm_ev 29 18 pl (.int x2 :: .int x1 :: .ref x0 :: st) w = pm_kw 29 19 pl st (pm_is w x0 (w x0) x1 x2) := pm_nis pt_29 d29_18
theorem d29_19 : decode cX4_reset 19 = .ok (.aload_n 0, 1) := by decide +kernel
theorem z29_19 {st : List Value} {w : pm_H} {b1 : Option Value} {x0 : Nat} : pm_ev 29 19 [some (.ref x0), b1] st w = pm_ev 29 20 [some (.ref x0), b1] (.ref x0 :: st) w := pm_ny pt_29 d29_19 rfl rfl rfl
theorem d29_20 : decode cX4_reset 20 = .ok (.getfield 15, 3) := by decide +kernel
theorem z29_20 {st : List Value} {w : pm_H} {pl : pm_L} {x0 : Nat} : pm_ev 29 20 pl (.ref x0 :: st) w = pm_kv 29 23 pl st w (pm_gf (w x0) 4 2) := pm_ng pt_29 pt_F_4_15 d29_20
theorem d29_23 : decode cX4_reset 23 = .ok (.iload_n 1, 1) := by decide +kernel
theorem z29_23 {st : List Value} {w : pm_H} {b0 : Option Value} {x0 : Int32} : pm_ev 29 23 [b0, some (.int x0)] st w = pm_ev 29 24 [b0, some (.int x0)] (.int x0 :: st) w := pm_ny pt_29 d29_23 rfl rfl rfl
theorem d29_24 : decode cX4_reset 24 = .ok (.iconst 1, 1) := by decide +kernel
theorem z29_24 {st : List Value} {w : pm_H} {pl : pm_L} : pm_ev 29 24 pl st w = pm_ev 29 25 pl (.int 1 :: st) w := pm_ny pt_29 d29_24 rfl rfl rfl
theorem d29_25 : decode cX4_reset 25 = .ok (.iastore, 1) := by decide +kernel
theorem z29_25 {st : List Value} {w : pm_H} {pl : pm_L} {x0 : Nat} {x1 : Int32} {x2 : Int32} : pm_ev 29 25 pl (.int x2 :: .int x1 :: .ref x0 :: st) w = pm_kw 29 26 pl st (pm_is w x0 (w x0) x1 x2) := pm_nis pt_29 d29_25
theorem d29_26 : decode cX4_reset 26 = .ok (.iinc 1 1, 3) := by decide +kernel
theorem z29_26 {st : List Value} {w : pm_H}  {x0 : Int32} {x9 : Nat} : pm_ev 29 26 [some (.ref x9), some (.int x0)] st w = pm_ev 29 29 [some (.ref x9), some (.int (x0 + 1))] st w := pm_ny pt_29 d29_26 rfl rfl rfl
theorem d29_29 : decode cX4_reset 29 = .ok (.goto (-22), 3) := by decide +kernel
theorem z29_29 {st : List Value} {w : pm_H} {pl : pm_L} : pm_ev 29 29 pl st w = pm_ev 29 7 pl st w := pm_ny pt_29 d29_29 rfl rfl rfl
theorem d29_32 : decode cX4_reset 32 = .ok (.aload_n 0, 1) := by decide +kernel
theorem z29_32 {st : List Value} {w : pm_H} {b1 : Option Value} {x0 : Nat} : pm_ev 29 32 [some (.ref x0), b1] st w = pm_ev 29 33 [some (.ref x0), b1] (.ref x0 :: st) w := pm_ny pt_29 d29_32 rfl rfl rfl
theorem d29_33 : decode cX4_reset 33 = .ok (.iconst 0, 1) := by decide +kernel
theorem z29_33 {st : List Value} {w : pm_H} {pl : pm_L} : pm_ev 29 33 pl st w = pm_ev 29 34 pl (.int 0 :: st) w := pm_ny pt_29 d29_33 rfl rfl rfl
theorem d29_34 : decode cX4_reset 34 = .ok (.putfield 46, 3) := by decide +kernel
theorem z29_34 {st : List Value} {w : pm_H} {pl : pm_L} {x0 : Nat} {x1 : Int32} : pm_ev 29 34 pl (.int x1 :: .ref x0 :: st) w = pm_kw 29 37 pl st (pm_pf w x0 (w x0) 4 3 0 (.int x1)) := pm_np pt_29 pt_F_4_46 d29_34
theorem d29_37 : decode cX4_reset 37 = .ok (.aload_n 0, 1) := by decide +kernel
theorem z29_37 {st : List Value} {w : pm_H} {b1 : Option Value} {x0 : Nat} : pm_ev 29 37 [some (.ref x0), b1] st w = pm_ev 29 38 [some (.ref x0), b1] (.ref x0 :: st) w := pm_ny pt_29 d29_37 rfl rfl rfl
theorem d29_38 : decode cX4_reset 38 = .ok (.iconst 0, 1) := by decide +kernel
theorem z29_38 {st : List Value} {w : pm_H} {pl : pm_L} : pm_ev 29 38 pl st w = pm_ev 29 39 pl (.int 0 :: st) w := pm_ny pt_29 d29_38 rfl rfl rfl
theorem d29_39 : decode cX4_reset 39 = .ok (.putfield 49, 3) := by decide +kernel
theorem z29_39 {st : List Value} {w : pm_H} {pl : pm_L} {x0 : Nat} {x1 : Int32} : pm_ev 29 39 pl (.int x1 :: .ref x0 :: st) w = pm_kw 29 42 pl st (pm_pf w x0 (w x0) 4 7 0 (.int x1)) := pm_np pt_29 pt_F_4_49 d29_39
theorem d29_42 : decode cX4_reset 42 = .ok (.return_, 1) := by decide +kernel
theorem z29_42 {w : pm_H} {pl : pm_L} : pm_ev 29 42 pl [] w = some (none, w) := pm_nr pt_29 d29_42 rfl
theorem d30_0 : decode cX4_hasRoomForEvent 0 = .ok (.aload_n 0, 1) := by decide +kernel
theorem z30_0 {st : List Value} {w : pm_H} {b1 : Option Value} {x0 : Nat} : pm_ev 30 0 [some (.ref x0), b1] st w = pm_ev 30 1 [some (.ref x0), b1] (.ref x0 :: st) w := pm_ny pt_30 d30_0 rfl rfl rfl
theorem d30_1 : decode cX4_hasRoomForEvent 1 = .ok (.getfield 46, 3) := by decide +kernel
theorem z30_1 {st : List Value} {w : pm_H} {pl : pm_L} {x0 : Nat} : pm_ev 30 1 pl (.ref x0 :: st) w = pm_kv 30 4 pl st w (pm_gf (w x0) 4 3) := pm_ng pt_30 pt_F_4_46 d30_1
theorem d30_4 : decode cX4_hasRoomForEvent 4 = .ok (.bipush 20, 2) := by decide +kernel
theorem z30_4 {st : List Value} {w : pm_H} {pl : pm_L} : pm_ev 30 4 pl st w = pm_ev 30 6 pl (.int 20 :: st) w := pm_ny pt_30 d30_4 rfl rfl rfl
theorem d30_6 : decode cX4_hasRoomForEvent 6 = .ok (.if_icmp .ge 20, 3) := by decide +kernel
theorem z30_6 {st : List Value} {w : pm_H} {pl : pm_L} {x0 x1 : Int32} : pm_ev 30 6 pl (.int x1 :: .int x0 :: st) w = if x0 < x1 then pm_ev 30 9 pl st w else pm_ev 30 26 pl st w := pm_nin (c := x1 ≤ x0) pt_30 d30_6 rfl rfl rfl pm_ge
theorem d30_9 : decode cX4_hasRoomForEvent 9 = .ok (.iload_n 1, 1) := by decide +kernel
theorem z30_9 {st : List Value} {w : pm_H} {b0 : Option Value} {x0 : Int32} : pm_ev 30 9 [b0, some (.int x0)] st w = pm_ev 30 10 [b0, some (.int x0)] (.int x0 :: st) w := pm_ny pt_30 d30_9 rfl rfl rfl
theorem d30_10 : decode cX4_hasRoomForEvent 10 = .ok (.iconst 2, 1) := by decide +kernel
theorem z30_10 {st : List Value} {w : pm_H} {pl : pm_L} : pm_ev 30 10 pl st w = pm_ev 30 11 pl (.int 2 :: st) w := pm_ny pt_30 d30_10 rfl rfl rfl
theorem d30_11 : decode cX4_hasRoomForEvent 11 = .ok (.if_icmp .ne 11, 3) := by decide +kernel
theorem z30_11 {st : List Value} {w : pm_H} {pl : pm_L} {x0 x1 : Int32} : pm_ev 30 11 pl (.int x1 :: .int x0 :: st) w = if x0 = x1 then pm_ev 30 14 pl st w else pm_ev 30 22 pl st w := pm_nin (c := ¬ x0 = x1) pt_30 d30_11 rfl rfl rfl Iff.rfl
theorem d30_14 : decode cX4_hasRoomForEvent 14 = .ok (.aload_n 0, 1) := by decide +kernel
theorem z30_14 {st : List Value} {w : pm_H} {b1 : Option Value} {x0 : Nat} : pm_ev 30 14 [some (.ref x0), b1] st w = pm_ev 30 15 [some (.ref x0), b1] (.ref x0 :: st) w := pm_ny pt_30 d30_14 rfl rfl rfl
theorem d30_15 : decode cX4_hasRoomForEvent 15 = .ok (.invokevirtual 52, 3) := by decide +kernel
theorem z30_15 {w : pm_H} {b0 b1 : Option Value} {x0 : Nat} : pm_ev 30 15 [b0, b1] [.ref x0] w = pm_k 30 18 [b0, b1] [] (pm_vc (w x0) 4 (pm_call 31 [.ref x0] w)) := pm_nv pt_30 pt_31 pt_M_4_52 d30_15 ⟨rfl, rfl⟩ ⟨⟨rfl, Nat.le_of_ble_eq_true rfl, Nat.le_of_ble_eq_true rfl, Nat.le_of_ble_eq_true rfl, Nat.le_of_ble_eq_true rfl⟩, rfl⟩
theorem d30_18 : decode cX4_hasRoomForEvent 18 = .ok (.iconst 3, 1) := by decide +kernel
theorem z30_18 {st : List Value} {w : pm_H} {pl : pm_L} : pm_ev 30 18 pl st w = pm_ev 30 19 pl (.int 3 :: st) w := pm_ny pt_30 d30_18 rfl rfl rfl
theorem d30_19 : decode cX4_hasRoomForEvent 19 = .ok (.if_icmp .ge 7, 3) := by decide +kernel
theorem z30_19 {st : List Value} {w : pm_H} {pl : pm_L} {x0 x1 : Int32} : pm_ev 30 19 pl (.int x1 :: .int x0 :: st) w = if x0 < x1 then pm_ev 30 22 pl st w else pm_ev 30 26 pl st w := pm_nin (c := x1 ≤ x0) pt_30 d30_19 rfl rfl rfl pm_ge
theorem d30_22 : decode cX4_hasRoomForEvent 22 = .ok (.iconst 1, 1) := by decide +kernel
theorem z30_22 {st : List Value} {w : pm_H} {pl : pm_L} : pm_ev 30 22 pl st w = pm_ev 30 23 pl (.int 1 :: st) w := pm_ny pt_30 d30_22 rfl rfl rfl
theorem d30_23 : decode cX4_hasRoomForEvent 23 = .ok (.goto 4, 3) := by decide +kernel
theorem z30_23 {st : List Value} {w : pm_H} {pl : pm_L} : pm_ev 30 23 pl st w = pm_ev 30 27 pl st w := pm_ny pt_30 d30_23 rfl rfl rfl
theorem d30_26 : decode cX4_hasRoomForEvent 26 = .ok (.iconst 0, 1) := by decide +kernel
theorem z30_26 {st : List Value} {w : pm_H} {pl : pm_L} : pm_ev 30 26 pl st w = pm_ev 30 27 pl (.int 0 :: st) w := pm_ny pt_30 d30_26 rfl rfl rfl
theorem d30_27 : decode cX4_hasRoomForEvent 27 = .ok (.ireturn, 1) := by decide +kernel
theorem z30_27 {w : pm_H} {pl : pm_L} {x0 : Int32} : pm_ev 30 27 pl [.int x0] w = pm_zr x0 w := pm_nz pt_30 d30_27
theorem d31_0 : decode cX4_splitCount 0 = .ok (.iconst 0, 1) := by decide +kernel
theorem z31_0 {st : List Value} {w : pm_H} {pl : pm_L} : pm_ev 31 0 pl st w = pm_ev 31 1 pl (.int 0 :: st) w := pm_ny pt_31 d31_0 rfl rfl rfl
theorem d31_1 : decode cX4_splitCount 1 = .ok (.istore_n 1, 1) := by decide +kernel
theorem z31_1 {st : List Value} {w : pm_H} {b1 b2 : Option Value} {x0 : Int32} {x9 : Nat} : pm_ev 31 1 [some (.ref x9), b1, b2] (.int x0 :: st) w = pm_ev 31 2 [some (.ref x9), some (.int x0), b2] st w := pm_ny pt_31 d31_1 rfl rfl rfl
theorem d31_2 : decode cX4_splitCount 2 = .ok (.iconst 0, 1) := by decide +kernel
theorem z31_2 {st : List Value} {w : pm_H} {pl : pm_L} : pm_ev 31 2 pl st w = pm_ev 31 3 pl (.int 0 :: st) w := pm_ny pt_31 d31_2 rfl rfl rfl
theorem d31_3 : decode cX4_splitCount 3 = .ok (.istore_n 2, 1) := by decide +kernel
theorem z31_3 {st : List Value} {w : pm_H} {b0 b2 : Option Value} {x0 : Int32} {x9 : Int32} : pm_ev 31 3 [b0, some (.int x9), b2] (.int x0 :: st) w = pm_ev 31 4 [b0, some (.int x9), some (.int x0)] st w := pm_ny pt_31 d31_3 rfl rfl rfl
theorem d31_4 : decode cX4_splitCount 4 = .ok (.iload_n 2, 1) := by decide +kernel
theorem z31_4 {st : List Value} {w : pm_H} {b0 b1 : Option Value} {x0 : Int32} : pm_ev 31 4 [b0, b1, some (.int x0)] st w = pm_ev 31 5 [b0, b1, some (.int x0)] (.int x0 :: st) w := pm_ny pt_31 d31_4 rfl rfl rfl
theorem d31_5 : decode cX4_splitCount 5 = .ok (.aload_n 0, 1) := by decide +kernel
theorem z31_5 {st : List Value} {w : pm_H} {b1 b2 : Option Value} {x0 : Nat} : pm_ev 31 5 [some (.ref x0), b1, b2] st w = pm_ev 31 6 [some (.ref x0), b1, b2] (.ref x0 :: st) w := pm_ny pt_31 d31_5 rfl rfl rfl
theorem d31_6 : decode cX4_splitCount 6 = .ok (.getfield 46, 3) := by decide +kernel
theorem z31_6 {st : List Value} {w : pm_H} {pl : pm_L} {x0 : Nat} : pm_ev 31 6 pl (.ref x0 :: st) w = pm_kv 31 9 pl st w (pm_gf (w x0) 4 3) := pm_ng pt_31 pt_F_4_46 d31_6
theorem d31_9 : decode cX4_splitCount 9 = .ok (.if_icmp .ge 22, 3) := by decide +kernel
theorem z31_9 {st : List Value} {w : pm_H} {pl : pm_L} {x0 x1 : Int32} : pm_ev 31 9 pl (.int x1 :: .int x0 :: st) w = if x0 < x1 then pm_ev 31 12 pl st w else pm_ev 31 31 pl st w := pm_nin (c := x1 ≤ x0) pt_31 d31_9 rfl rfl rfl pm_ge
theorem d31_12 : decode cX4_splitCount 12 = .ok (.aload_n 0, 1) := by decide +kernel
theorem z31_12 {st : List Value} {w : pm_H} {b1 b2 : Option Value} {x0 : Nat} : pm_ev 31 12 [some (.ref x0), b1, b2] st w = pm_ev 31 13 [some (.ref x0), b1, b2] (.ref x0 :: st) w := pm_ny pt_31 d31_12 rfl rfl rfl
theorem d31_13 : decode cX4_splitCount 13 = .ok (.getfield 18, 3) := by decide +kernel
theorem z31_13 {st : List Value} {w : pm_H} {pl : pm_L} {x0 : Nat} : pm_ev 31 13 pl (.ref x0 :: st) w = pm_kv 31 16 pl st w (pm_gf (w x0) 4 4) := pm_ng pt_31 pt_F_4_18 d31_13
theorem d31_16 : decode cX4_splitCount 16 = .ok (.iload_n 2, 1) := by decide +kernel
theorem z31_16 {st : List Value} {w : pm_H} {b0 b1 : Option Value} {x0 : Int32} : pm_ev 31 16 [b0, b1, some (.int x0)] st w = pm_ev 31 17 [b0, b1, some (.int x0)] (.int x0 :: st) w := pm_ny pt_31 d31_16 rfl rfl rfl
theorem d31_17 : decode cX4_splitCount 17 = .ok (.iaload, 1) := by decide +kernel
theorem z31_17 {st : List Value} {w : pm_H} {pl : pm_L} {x0 : Nat} {x1 : Int32} : pm_ev 31 17 pl (.int x1 :: .ref x0 :: st) w = pm_kv 31 18 pl st w (pm_ia (w x0) 0 x1) := pm_nia pt_31 d31_17
theorem d31_18 : decode cX4_splitCount 18 = .ok (.iconst 2, 1) := by decide +kernel
theorem z31_18 {st : List Value} {w : pm_H} {pl : pm_L} : pm_ev 31 18 pl st w = pm_ev 31 19 pl (.int 2 :: st) w := pm_ny pt_31 d31_18 rfl rfl rfl
theorem d31_19 : decode cX4_splitCount 19 = .ok (.if_icmp .ne 6, 3) := by decide +kernel
theorem z31_19 {st : List Value} {w : pm_H} {pl : pm_L} {x0 x1 : Int32} : pm_ev 31 19 pl (.int x1 :: .int x0 :: st) w = if x0 = x1 then pm_ev 31 22 pl st w else pm_ev 31 25 pl st w := pm_nin (c := ¬ x0 = x1) pt_31 d31_19 rfl rfl rfl Iff.rfl
theorem d31_22 : decode cX4_splitCount 22 = .ok (.iinc 1 1, 3) := by decide +kernel
theorem z31_22 {st : List Value} {w : pm_H} {b2 : Option Value} {x0 : Int32} {x9 : Nat} : pm_ev 31 22 [some (.ref x9), some (.int x0), b2] st w = pm_ev 31 25 [some (.ref x9), some (.int (x0 + 1)), b2] st w := pm_ny pt_31 d31_22 rfl rfl rfl
theorem d31_25 : decode cX4_splitCount 25 = .ok (.iinc 2 1, 3) := by decide +kernel
theorem z31_25 {st : List Value} {w : pm_H} {b0 : Option Value} {x0 : Int32} {x9 : Int32} : pm_ev 31 25 [b0, some (.int x9), some (.int x0)] st w = pm_ev 31 28 [b0, some (.int x9), some (.int (x0 + 1))] st w := pm_ny pt_31 d31_25 rfl rfl rfl
theorem d31_28 : decode cX4_splitCount 28 = .ok (.goto (-24), 3) := by decide +kernel
theorem z31_28 {st : List Value} {w : pm_H} {pl : pm_L} : pm_ev 31 28 pl st w = pm_ev 31 4 pl st w := pm_ny pt_31 d31_28 rfl rfl rfl
theorem d31_31 : decode cX4_splitCount 31 = .ok (.iload_n 1, 1) := by decide +kernel
theorem z31_31 {st : List Value} {w : pm_H} {b0 b2 : Option Value} {x0 : Int32} : pm_ev 31 31 [b0, some (.int x0), b2] st w = pm_ev 31 32 [b0, some (.int x0), b2] (.int x0 :: st) w := pm_ny pt_31 d31_31 rfl rfl rfl
theorem d31_32 : decode cX4_splitCount 32 = .ok (.ireturn, 1) := by decide +kernel
theorem z31_32 {w : pm_H} {pl : pm_L} {x0 : Int32} : pm_ev 31 32 pl [.int x0] w = some (some (.int x0), w) := pm_nr pt_31 d31_32 rfl
theorem d32_0 : decode cX4_earliestDay 0 = .ok (.aload_n 0, 1) := by decide +kernel
theorem z32_0 {st : List Value} {w : pm_H}  {x0 : Nat} : pm_ev 32 0 [some (.ref x0)] st w = pm_ev 32 1 [some (.ref x0)] (.ref x0 :: st) w := pm_ny pt_32 d32_0 rfl rfl rfl
theorem d32_1 : decode cX4_earliestDay 1 = .ok (.invokevirtual 56, 3) := by decide +kernel
theorem z32_1 {w : pm_H} {b0 : Option Value} {x0 : Nat} : pm_ev 32 1 [b0] [.ref x0] w = pm_k 32 4 [b0] [] (pm_vc (w x0) 4 (pm_call 33 [.ref x0] w)) := pm_nv pt_32 pt_33 pt_M_4_56 d32_1 ⟨rfl, rfl⟩ ⟨⟨rfl, Nat.le_of_ble_eq_true rfl, Nat.le_of_ble_eq_true rfl, Nat.le_of_ble_eq_true rfl, Nat.le_of_ble_eq_true rfl⟩, rfl⟩
theorem d32_4 : decode cX4_earliestDay 4 = .ok (.iconst 0, 1) := by decide +kernel
theorem z32_4 {st : List Value} {w : pm_H} {pl : pm_L} : pm_ev 32 4 pl st w = pm_ev 32 5 pl (.int 0 :: st) w := pm_ny pt_32 d32_4 rfl rfl rfl
theorem d32_5 : decode cX4_earliestDay 5 = .ok (.invokestatic 59, 3) := by decide +kernel
theorem z32_5 {w : pm_H} {b0 : Option Value} {x0 : Int32} {x1 : Int32} : pm_ev 32 5 [b0] [.int x0, .int x1] w = pm_k 32 8 [b0] [] (pm_call 166 [.int x1, .int x0] w) := pm_ns pt_32 pt_166 pt_M_4_59 (Or.inl rfl) d32_5 ⟨rfl, rfl⟩ ⟨⟨rfl, Nat.le_of_ble_eq_true rfl, Nat.le_of_ble_eq_true rfl, Nat.le_of_ble_eq_true rfl, Nat.le_of_ble_eq_true rfl⟩, rfl⟩
theorem d32_8 : decode cX4_earliestDay 8 = .ok (.ireturn, 1) := by decide +kernel
theorem z32_8 {w : pm_H} {pl : pm_L} {x0 : Int32} : pm_ev 32 8 pl [.int x0] w = some (some (.int x0), w) := pm_nr pt_32 d32_8 rfl
theorem d33_0 : decode cX4_latestDay 0 = .ok (.aload_n 0, 1) := by decide +kernel
theorem z33_0 {st : List Value} {w : pm_H}  {x0 : Nat} : pm_ev 33 0 [some (.ref x0)] st w = pm_ev 33 1 [some (.ref x0)] (.ref x0 :: st) w := pm_ny pt_33 d33_0 rfl rfl rfl
theorem d33_1 : decode cX4_latestDay 1 = .ok (.getfield 46, 3) := by decide +kernel
theorem z33_1 {st : List Value} {w : pm_H} {pl : pm_L} {x0 : Nat} : pm_ev 33 1 pl (.ref x0 :: st) w = pm_kv 33 4 pl st w (pm_gf (w x0) 4 3) := pm_ng pt_33 pt_F_4_46 d33_1
theorem d33_4 : decode cX4_latestDay 4 = .ok (.ifCond .le 17, 3) := by decide +kernel
theorem z33_4 {st : List Value} {w : pm_H} {pl : pm_L} {x0 : Int32} : pm_ev 33 4 pl (.int x0 :: st) w = if 0 < x0 then pm_ev 33 7 pl st w else pm_ev 33 21 pl st w := pm_nin (c := x0 ≤ 0) pt_33 d33_4 rfl rfl rfl pm_ge
theorem d33_7 : decode cX4_latestDay 7 = .ok (.aload_n 0, 1) := by decide +kernel
theorem z33_7 {st : List Value} {w : pm_H}  {x0 : Nat} : pm_ev 33 7 [some (.ref x0)] st w = pm_ev 33 8 [some (.ref x0)] (.ref x0 :: st) w := pm_ny pt_33 d33_7 rfl rfl rfl
theorem d33_8 : decode cX4_latestDay 8 = .ok (.getfield 21, 3) := by decide +kernel
theorem z33_8 {st : List Value} {w : pm_H} {pl : pm_L} {x0 : Nat} : pm_ev 33 8 pl (.ref x0 :: st) w = pm_kv 33 11 pl st w (pm_gf (w x0) 4 5) := pm_ng pt_33 pt_F_4_21 d33_8
theorem d33_11 : decode cX4_latestDay 11 = .ok (.aload_n 0, 1) := by decide +kernel
theorem z33_11 {st : List Value} {w : pm_H}  {x0 : Nat} : pm_ev 33 11 [some (.ref x0)] st w = pm_ev 33 12 [some (.ref x0)] (.ref x0 :: st) w := pm_ny pt_33 d33_11 rfl rfl rfl
theorem d33_12 : decode cX4_latestDay 12 = .ok (.getfield 46, 3) := by decide +kernel
theorem z33_12 {st : List Value} {w : pm_H} {pl : pm_L} {x0 : Nat} : pm_ev 33 12 pl (.ref x0 :: st) w = pm_kv 33 15 pl st w (pm_gf (w x0) 4 3) := pm_ng pt_33 pt_F_4_46 d33_12
theorem d33_15 : decode cX4_latestDay 15 = .ok (.iconst 1, 1) := by decide +kernel
theorem z33_15 {st : List Value} {w : pm_H} {pl : pm_L} : pm_ev 33 15 pl st w = pm_ev 33 16 pl (.int 1 :: st) w := pm_ny pt_33 d33_15 rfl rfl rfl
theorem d33_16 : decode cX4_latestDay 16 = .ok (.isub, 1) := by decide +kernel
theorem z33_16 {st : List Value} {w : pm_H} {pl : pm_L} {x0 x1 : Int32} : pm_ev 33 16 pl (.int x1 :: .int x0 :: st) w = pm_ev 33 17 pl (.int (x0 - x1) :: st) w := pm_ny pt_33 d33_16 rfl rfl rfl
theorem d33_17 : decode cX4_latestDay 17 = .ok (.iaload, 1) := by decide +kernel
theorem z33_17 {st : List Value} {w : pm_H} {pl : pm_L} {x0 : Nat} {x1 : Int32} : pm_ev 33 17 pl (.int x1 :: .ref x0 :: st) w = pm_kv 33 18 pl st w (pm_ia (w x0) 0 x1) := pm_nia pt_33 d33_17
theorem d33_18 : decode cX4_latestDay 18 = .ok (.goto 4, 3) := by decide +kernel
theorem z33_18 {st : List Value} {w : pm_H} {pl : pm_L} : pm_ev 33 18 pl st w = pm_ev 33 22 pl st w := pm_ny pt_33 d33_18 rfl rfl rfl
theorem d33_21 : decode cX4_latestDay 21 = .ok (.iconst (-1), 1) := by decide +kernel
theorem z33_21 {st : List Value} {w : pm_H} {pl : pm_L} : pm_ev 33 21 pl st w = pm_ev 33 22 pl (.int (-1) :: st) w := pm_ny pt_33 d33_21 rfl rfl rfl
theorem d33_22 : decode cX4_latestDay 22 = .ok (.ireturn, 1) := by decide +kernel
theorem z33_22 {w : pm_H} {pl : pm_L} {x0 : Int32} : pm_ev 33 22 pl [.int x0] w = some (some (.int x0), w) := pm_nr pt_33 d33_22 rfl
theorem d34_0 : decode cX4_leastOfEvent 0 = .ok (.iload_n 1, 1) := by decide +kernel
theorem z34_0 {st : List Value} {w : pm_H} {b0 : Option Value} {x0 : Int32} : pm_ev 34 0 [b0, some (.int x0)] st w = pm_ev 34 1 [b0, some (.int x0)] (.int x0 :: st) w := pm_ny pt_34 d34_0 rfl rfl rfl
theorem d34_1 : decode cX4_leastOfEvent 1 = .ok (.iconst 2, 1) := by decide +kernel
theorem z34_1 {st : List Value} {w : pm_H} {pl : pm_L} : pm_ev 34 1 pl st w = pm_ev 34 2 pl (.int 2 :: st) w := pm_ny pt_34 d34_1 rfl rfl rfl
theorem d34_2 : decode cX4_leastOfEvent 2 = .ok (.if_icmp .ne 7, 3) := by decide +kernel
theorem z34_2 {st : List Value} {w : pm_H} {pl : pm_L} {x0 x1 : Int32} : pm_ev 34 2 pl (.int x1 :: .int x0 :: st) w = if x0 = x1 then pm_ev 34 5 pl st w else pm_ev 34 9 pl st w := pm_nin (c := ¬ x0 = x1) pt_34 d34_2 rfl rfl rfl Iff.rfl
theorem d34_5 : decode cX4_leastOfEvent 5 = .ok (.iconst 2, 1) := by decide +kernel
theorem z34_5 {st : List Value} {w : pm_H} {pl : pm_L} : pm_ev 34 5 pl st w = pm_ev 34 6 pl (.int 2 :: st) w := pm_ny pt_34 d34_5 rfl rfl rfl
theorem d34_6 : decode cX4_leastOfEvent 6 = .ok (.goto 4, 3) := by decide +kernel
theorem z34_6 {st : List Value} {w : pm_H} {pl : pm_L} : pm_ev 34 6 pl st w = pm_ev 34 10 pl st w := pm_ny pt_34 d34_6 rfl rfl rfl
theorem d34_9 : decode cX4_leastOfEvent 9 = .ok (.iconst 1, 1) := by decide +kernel
theorem z34_9 {st : List Value} {w : pm_H} {pl : pm_L} : pm_ev 34 9 pl st w = pm_ev 34 10 pl (.int 1 :: st) w := pm_ny pt_34 d34_9 rfl rfl rfl
theorem d34_10 : decode cX4_leastOfEvent 10 = .ok (.ireturn, 1) := by decide +kernel
theorem z34_10 {w : pm_H} {pl : pm_L} {x0 : Int32} : pm_ev 34 10 pl [.int x0] w = some (some (.int x0), w) := pm_nr pt_34 d34_10 rfl
theorem d35_0 : decode cX4_mostOfEvent 0 = .ok (.iload_n 1, 1) := by decide +kernel
theorem z35_0 {st : List Value} {w : pm_H} {b0 : Option Value} {x0 : Int32} : pm_ev 35 0 [b0, some (.int x0)] st w = pm_ev 35 1 [b0, some (.int x0)] (.int x0 :: st) w := pm_ny pt_35 d35_0 rfl rfl rfl
theorem d35_1 : decode cX4_mostOfEvent 1 = .ok (.iconst 2, 1) := by decide +kernel
theorem z35_1 {st : List Value} {w : pm_H} {pl : pm_L} : pm_ev 35 1 pl st w = pm_ev 35 2 pl (.int 2 :: st) w := pm_ny pt_35 d35_1 rfl rfl rfl
theorem d35_2 : decode cX4_mostOfEvent 2 = .ok (.if_icmp .ne 6, 3) := by decide +kernel
theorem z35_2 {st : List Value} {w : pm_H} {pl : pm_L} {x0 x1 : Int32} : pm_ev 35 2 pl (.int x1 :: .int x0 :: st) w = if x0 = x1 then pm_ev 35 5 pl st w else pm_ev 35 8 pl st w := pm_nin (c := ¬ x0 = x1) pt_35 d35_2 rfl rfl rfl Iff.rfl
theorem d35_5 : decode cX4_mostOfEvent 5 = .ok (.bipush 9, 2) := by decide +kernel
theorem z35_5 {st : List Value} {w : pm_H} {pl : pm_L} : pm_ev 35 5 pl st w = pm_ev 35 7 pl (.int 9 :: st) w := pm_ny pt_35 d35_5 rfl rfl rfl
theorem d35_7 : decode cX4_mostOfEvent 7 = .ok (.ireturn, 1) := by decide +kernel
theorem z35_7 {w : pm_H} {pl : pm_L} {x0 : Int32} : pm_ev 35 7 pl [.int x0] w = some (some (.int x0), w) := pm_nr pt_35 d35_7 rfl
theorem d35_8 : decode cX4_mostOfEvent 8 = .ok (.iload_n 1, 1) := by decide +kernel
theorem z35_8 {st : List Value} {w : pm_H} {b0 : Option Value} {x0 : Int32} : pm_ev 35 8 [b0, some (.int x0)] st w = pm_ev 35 9 [b0, some (.int x0)] (.int x0 :: st) w := pm_ny pt_35 d35_8 rfl rfl rfl
theorem d35_9 : decode cX4_mostOfEvent 9 = .ok (.iconst 1, 1) := by decide +kernel
theorem z35_9 {st : List Value} {w : pm_H} {pl : pm_L} : pm_ev 35 9 pl st w = pm_ev 35 10 pl (.int 1 :: st) w := pm_ny pt_35 d35_9 rfl rfl rfl
theorem d35_10 : decode cX4_mostOfEvent 10 = .ok (.if_icmp .ne 20, 3) := by decide +kernel
theorem z35_10 {st : List Value} {w : pm_H} {pl : pm_L} {x0 x1 : Int32} : pm_ev 35 10 pl (.int x1 :: .int x0 :: st) w = if x0 = x1 then pm_ev 35 13 pl st w else pm_ev 35 30 pl st w := pm_nin (c := ¬ x0 = x1) pt_35 d35_10 rfl rfl rfl Iff.rfl
theorem d35_13 : decode cX4_mostOfEvent 13 = .ok (.ldc 65, 2) := by decide +kernel
theorem z35_13 {st : List Value} {w : pm_H} {pl : pm_L} : pm_ev 35 13 pl st w = pm_ev 35 15 pl (.int (99999) :: st) w := pm_nk pt_35 pt_K_4_65 (by decide) d35_13
theorem d35_15 : decode cX4_mostOfEvent 15 = .ok (.aload_n 0, 1) := by decide +kernel
theorem z35_15 {st : List Value} {w : pm_H} {b1 : Option Value} {x0 : Nat} : pm_ev 35 15 [some (.ref x0), b1] st w = pm_ev 35 16 [some (.ref x0), b1] (.ref x0 :: st) w := pm_ny pt_35 d35_15 rfl rfl rfl
theorem d35_16 : decode cX4_mostOfEvent 16 = .ok (.sipush 359, 3) := by decide +kernel
theorem z35_16 {st : List Value} {w : pm_H} {pl : pm_L} : pm_ev 35 16 pl st w = pm_ev 35 19 pl (.int 359 :: st) w := pm_ny pt_35 d35_16 rfl rfl rfl
theorem d35_19 : decode cX4_mostOfEvent 19 = .ok (.invokevirtual 66, 3) := by decide +kernel
theorem z35_19 {w : pm_H} {b0 b1 : Option Value} {x0 : Int32} {x1 : Nat} {x2 : Int32} : pm_ev 35 19 [b0, b1] [.int x0, .ref x1, .int x2] w = pm_k 35 22 [b0, b1] [.int x2] (pm_vc (w x1) 4 (pm_call 36 [.ref x1, .int x0] w)) := pm_nv pt_35 pt_36 pt_M_4_66 d35_19 ⟨rfl, rfl⟩ ⟨⟨rfl, Nat.le_of_ble_eq_true rfl, Nat.le_of_ble_eq_true rfl, Nat.le_of_ble_eq_true rfl, Nat.le_of_ble_eq_true rfl⟩, rfl⟩
theorem d35_22 : decode cX4_mostOfEvent 22 = .ok (.iconst 1, 1) := by decide +kernel
theorem z35_22 {st : List Value} {w : pm_H} {pl : pm_L} : pm_ev 35 22 pl st w = pm_ev 35 23 pl (.int 1 :: st) w := pm_ny pt_35 d35_22 rfl rfl rfl
theorem d35_23 : decode cX4_mostOfEvent 23 = .ok (.isub, 1) := by decide +kernel
theorem z35_23 {st : List Value} {w : pm_H} {pl : pm_L} {x0 x1 : Int32} : pm_ev 35 23 pl (.int x1 :: .int x0 :: st) w = pm_ev 35 24 pl (.int (x0 - x1) :: st) w := pm_ny pt_35 d35_23 rfl rfl rfl
theorem d35_24 : decode cX4_mostOfEvent 24 = .ok (.invokestatic 70, 3) := by decide +kernel
theorem z35_24 {w : pm_H} {b0 b1 : Option Value} {x0 : Int32} {x1 : Int32} : pm_ev 35 24 [b0, b1] [.int x0, .int x1] w = pm_k 35 27 [b0, b1] [] (pm_call 165 [.int x1, .int x0] w) := pm_ns pt_35 pt_165 pt_M_4_70 (Or.inl rfl) d35_24 ⟨rfl, rfl⟩ ⟨⟨rfl, Nat.le_of_ble_eq_true rfl, Nat.le_of_ble_eq_true rfl, Nat.le_of_ble_eq_true rfl, Nat.le_of_ble_eq_true rfl⟩, rfl⟩
theorem d35_27 : decode cX4_mostOfEvent 27 = .ok (.goto 5, 3) := by decide +kernel
theorem z35_27 {st : List Value} {w : pm_H} {pl : pm_L} : pm_ev 35 27 pl st w = pm_ev 35 32 pl st w := pm_ny pt_35 d35_27 rfl rfl rfl
theorem d35_30 : decode cX4_mostOfEvent 30 = .ok (.ldc 65, 2) := by decide +kernel
theorem z35_30 {st : List Value} {w : pm_H} {pl : pm_L} : pm_ev 35 30 pl st w = pm_ev 35 32 pl (.int (99999) :: st) w := pm_nk pt_35 pt_K_4_65 (by decide) d35_30
theorem d35_32 : decode cX4_mostOfEvent 32 = .ok (.ireturn, 1) := by decide +kernel
theorem z35_32 {w : pm_H} {pl : pm_L} {x0 : Int32} : pm_ev 35 32 pl [.int x0] w = some (some (.int x0), w) := pm_nr pt_35 d35_32 rfl
theorem d36_0 : decode cX4_sharesOn 0 = .ok (.aload_n 0, 1) := by decide +kernel
theorem z36_0 {st : List Value} {w : pm_H} {b1 b2 b3 b4 : Option Value} {x0 : Nat} : pm_ev 36 0 [some (.ref x0), b1, b2, b3, b4] st w = pm_ev 36 1 [some (.ref x0), b1, b2, b3, b4] (.ref x0 :: st) w := pm_ny pt_36 d36_0 rfl rfl rfl
theorem d36_1 : decode cX4_sharesOn 1 = .ok (.getfield 42, 3) := by decide +kernel
theorem z36_1 {st : List Value} {w : pm_H} {pl : pm_L} {x0 : Nat} : pm_ev 36 1 pl (.ref x0 :: st) w = pm_kv 36 4 pl st w (pm_gf (w x0) 4 0) := pm_ng pt_36 pt_F_4_42 d36_1
theorem d36_4 : decode cX4_sharesOn 4 = .ok (.istore_n 2, 1) := by decide +kernel
theorem z36_4 {st : List Value} {w : pm_H} {b0 b2 b3 b4 : Option Value} {x0 : Int32} {x9 : Int32} : pm_ev 36 4 [b0, some (.int x9), b2, b3, b4] (.int x0 :: st) w = pm_ev 36 5 [b0, some (.int x9), some (.int x0), b3, b4] st w := pm_ny pt_36 d36_4 rfl rfl rfl
theorem d36_5 : decode cX4_sharesOn 5 = .ok (.iconst 0, 1) := by decide +kernel
theorem z36_5 {st : List Value} {w : pm_H} {pl : pm_L} : pm_ev 36 5 pl st w = pm_ev 36 6 pl (.int 0 :: st) w := pm_ny pt_36 d36_5 rfl rfl rfl
theorem d36_6 : decode cX4_sharesOn 6 = .ok (.istore_n 3, 1) := by decide +kernel
theorem z36_6 {st : List Value} {w : pm_H} {b0 b1 b3 b4 : Option Value} {x0 : Int32} {x9 : Int32} : pm_ev 36 6 [b0, b1, some (.int x9), b3, b4] (.int x0 :: st) w = pm_ev 36 7 [b0, b1, some (.int x9), some (.int x0), b4] st w := pm_ny pt_36 d36_6 rfl rfl rfl
theorem d36_7 : decode cX4_sharesOn 7 = .ok (.iload_n 3, 1) := by decide +kernel
theorem z36_7 {st : List Value} {w : pm_H} {b0 b1 b2 b4 : Option Value} {x0 : Int32} : pm_ev 36 7 [b0, b1, b2, some (.int x0), b4] st w = pm_ev 36 8 [b0, b1, b2, some (.int x0), b4] (.int x0 :: st) w := pm_ny pt_36 d36_7 rfl rfl rfl
theorem d36_8 : decode cX4_sharesOn 8 = .ok (.aload_n 0, 1) := by decide +kernel
theorem z36_8 {st : List Value} {w : pm_H} {b1 b2 b3 b4 : Option Value} {x0 : Nat} : pm_ev 36 8 [some (.ref x0), b1, b2, b3, b4] st w = pm_ev 36 9 [some (.ref x0), b1, b2, b3, b4] (.ref x0 :: st) w := pm_ny pt_36 d36_8 rfl rfl rfl
theorem d36_9 : decode cX4_sharesOn 9 = .ok (.getfield 46, 3) := by decide +kernel
theorem z36_9 {st : List Value} {w : pm_H} {pl : pm_L} {x0 : Nat} : pm_ev 36 9 pl (.ref x0 :: st) w = pm_kv 36 12 pl st w (pm_gf (w x0) 4 3) := pm_ng pt_36 pt_F_4_46 d36_9
theorem d36_12 : decode cX4_sharesOn 12 = .ok (.if_icmp .ge 79, 3) := by decide +kernel
theorem z36_12 {st : List Value} {w : pm_H} {pl : pm_L} {x0 x1 : Int32} : pm_ev 36 12 pl (.int x1 :: .int x0 :: st) w = if x0 < x1 then pm_ev 36 15 pl st w else pm_ev 36 91 pl st w := pm_nin (c := x1 ≤ x0) pt_36 d36_12 rfl rfl rfl pm_ge
theorem d36_15 : decode cX4_sharesOn 15 = .ok (.aload_n 0, 1) := by decide +kernel
theorem z36_15 {st : List Value} {w : pm_H} {b1 b2 b3 b4 : Option Value} {x0 : Nat} : pm_ev 36 15 [some (.ref x0), b1, b2, b3, b4] st w = pm_ev 36 16 [some (.ref x0), b1, b2, b3, b4] (.ref x0 :: st) w := pm_ny pt_36 d36_15 rfl rfl rfl
theorem d36_16 : decode cX4_sharesOn 16 = .ok (.getfield 21, 3) := by decide +kernel
theorem z36_16 {st : List Value} {w : pm_H} {pl : pm_L} {x0 : Nat} : pm_ev 36 16 pl (.ref x0 :: st) w = pm_kv 36 19 pl st w (pm_gf (w x0) 4 5) := pm_ng pt_36 pt_F_4_21 d36_16
theorem d36_19 : decode cX4_sharesOn 19 = .ok (.iload_n 3, 1) := by decide +kernel
theorem z36_19 {st : List Value} {w : pm_H} {b0 b1 b2 b4 : Option Value} {x0 : Int32} : pm_ev 36 19 [b0, b1, b2, some (.int x0), b4] st w = pm_ev 36 20 [b0, b1, b2, some (.int x0), b4] (.int x0 :: st) w := pm_ny pt_36 d36_19 rfl rfl rfl
theorem d36_20 : decode cX4_sharesOn 20 = .ok (.iaload, 1) := by decide +kernel
theorem z36_20 {st : List Value} {w : pm_H} {pl : pm_L} {x0 : Nat} {x1 : Int32} : pm_ev 36 20 pl (.int x1 :: .ref x0 :: st) w = pm_kv 36 21 pl st w (pm_ia (w x0) 0 x1) := pm_nia pt_36 d36_20
theorem d36_21 : decode cX4_sharesOn 21 = .ok (.iload_n 1, 1) := by decide +kernel
theorem z36_21 {st : List Value} {w : pm_H} {b0 b2 b3 b4 : Option Value} {x0 : Int32} : pm_ev 36 21 [b0, some (.int x0), b2, b3, b4] st w = pm_ev 36 22 [b0, some (.int x0), b2, b3, b4] (.int x0 :: st) w := pm_ny pt_36 d36_21 rfl rfl rfl
theorem d36_22 : decode cX4_sharesOn 22 = .ok (.if_icmp .gt 69, 3) := by decide +kernel
theorem z36_22 {st : List Value} {w : pm_H} {pl : pm_L} {x0 x1 : Int32} : pm_ev 36 22 pl (.int x1 :: .int x0 :: st) w = if x1 < x0 then pm_ev 36 91 pl st w else pm_ev 36 25 pl st w := pm_nif pt_36 d36_22 rfl rfl rfl
theorem d36_25 : decode cX4_sharesOn 25 = .ok (.aload_n 0, 1) := by decide +kernel
theorem z36_25 {st : List Value} {w : pm_H} {b1 b2 b3 b4 : Option Value} {x0 : Nat} : pm_ev 36 25 [some (.ref x0), b1, b2, b3, b4] st w = pm_ev 36 26 [some (.ref x0), b1, b2, b3, b4] (.ref x0 :: st) w := pm_ny pt_36 d36_25 rfl rfl rfl
theorem d36_26 : decode cX4_sharesOn 26 = .ok (.getfield 24, 3) := by decide +kernel
theorem z36_26 {st : List Value} {w : pm_H} {pl : pm_L} {x0 : Nat} : pm_ev 36 26 pl (.ref x0 :: st) w = pm_kv 36 29 pl st w (pm_gf (w x0) 4 6) := pm_ng pt_36 pt_F_4_24 d36_26
theorem d36_29 : decode cX4_sharesOn 29 = .ok (.iload_n 3, 1) := by decide +kernel
theorem z36_29 {st : List Value} {w : pm_H} {b0 b1 b2 b4 : Option Value} {x0 : Int32} : pm_ev 36 29 [b0, b1, b2, some (.int x0), b4] st w = pm_ev 36 30 [b0, b1, b2, some (.int x0), b4] (.int x0 :: st) w := pm_ny pt_36 d36_29 rfl rfl rfl
theorem d36_30 : decode cX4_sharesOn 30 = .ok (.iaload, 1) := by decide +kernel
theorem z36_30 {st : List Value} {w : pm_H} {pl : pm_L} {x0 : Nat} {x1 : Int32} : pm_ev 36 30 pl (.int x1 :: .ref x0 :: st) w = pm_kv 36 31 pl st w (pm_ia (w x0) 0 x1) := pm_nia pt_36 d36_30
theorem d36_31 : decode cX4_sharesOn 31 = .ok (.istore 4, 2) := by decide +kernel
theorem z36_31 {st : List Value} {w : pm_H} {b0 b1 b2 b4 : Option Value} {x0 : Int32} {x9 : Int32} : pm_ev 36 31 [b0, b1, b2, some (.int x9), b4] (.int x0 :: st) w = pm_ev 36 33 [b0, b1, b2, some (.int x9), some (.int x0)] st w := pm_ny pt_36 d36_31 rfl rfl rfl
theorem d36_33 : decode cX4_sharesOn 33 = .ok (.aload_n 0, 1) := by decide +kernel
theorem z36_33 {st : List Value} {w : pm_H} {b1 b2 b3 b4 : Option Value} {x0 : Nat} : pm_ev 36 33 [some (.ref x0), b1, b2, b3, b4] st w = pm_ev 36 34 [some (.ref x0), b1, b2, b3, b4] (.ref x0 :: st) w := pm_ny pt_36 d36_33 rfl rfl rfl
theorem d36_34 : decode cX4_sharesOn 34 = .ok (.getfield 18, 3) := by decide +kernel
theorem z36_34 {st : List Value} {w : pm_H} {pl : pm_L} {x0 : Nat} : pm_ev 36 34 pl (.ref x0 :: st) w = pm_kv 36 37 pl st w (pm_gf (w x0) 4 4) := pm_ng pt_36 pt_F_4_18 d36_34
theorem d36_37 : decode cX4_sharesOn 37 = .ok (.iload_n 3, 1) := by decide +kernel
theorem z36_37 {st : List Value} {w : pm_H} {b0 b1 b2 b4 : Option Value} {x0 : Int32} : pm_ev 36 37 [b0, b1, b2, some (.int x0), b4] st w = pm_ev 36 38 [b0, b1, b2, some (.int x0), b4] (.int x0 :: st) w := pm_ny pt_36 d36_37 rfl rfl rfl
theorem d36_38 : decode cX4_sharesOn 38 = .ok (.iaload, 1) := by decide +kernel
theorem z36_38 {st : List Value} {w : pm_H} {pl : pm_L} {x0 : Nat} {x1 : Int32} : pm_ev 36 38 pl (.int x1 :: .ref x0 :: st) w = pm_kv 36 39 pl st w (pm_ia (w x0) 0 x1) := pm_nia pt_36 d36_38
theorem d36_39 : decode cX4_sharesOn 39 = .ok (.lookupswitch 41 #[(0, 25), (1, 33)], 25) := by decide +kernel
theorem z36_39 {st : List Value} {w : pm_H} {pl : pm_L} {x0 : Int32} : pm_ev 36 39 pl (.int x0 :: st) w = if x0 = 0 then pm_ev 36 64 pl st w else if x0 = 1 then pm_ev 36 72 pl st w else pm_ev 36 80 pl st w := by
  by_cases h0 : x0 = 0
  · subst h0; exact pm_ny pt_36 d36_39 rfl rfl rfl
  by_cases h1 : x0 = 1
  · subst h1; exact pm_ny pt_36 d36_39 rfl rfl rfl
  rw [if_neg h0, if_neg h1]
  have e0 : ¬ x0.toInt = 0 := fun h => h0 (Int32.toInt_inj.mp (h.trans (by decide)))
  have e1 : ¬ x0.toInt = 1 := fun h => h1 (Int32.toInt_inj.mp (h.trans (by decide)))
  have ho : Op.lookupswitch.offset [(0, 25), (1, 33)] 41 x0.toInt = 41 := by simp [Op.lookupswitch.offset, Ne.symm e0, e0, Ne.symm e1, e1]
  exact pm_ny (pc' := 80) (pl' := pl) (st' := st) (w' := w) pt_36 d36_39 rfl rfl (show pm_or (if _ ∧ 0 ≤ (39 : Int) + Op.lookupswitch.offset [(0, 25), (1, 33)] 41 x0.toInt then some (pm_tg 39 (Op.lookupswitch.offset [(0, 25), (1, 33)] 41 x0.toInt), pl, st, w) else none) _ = _ by rw [ho]; rfl)
theorem d36_64 : decode cX4_sharesOn 64 = .ok (.iload_n 2, 1) := by decide +kernel
theorem z36_64 {st : List Value} {w : pm_H} {b0 b1 b3 b4 : Option Value} {x0 : Int32} : pm_ev 36 64 [b0, b1, some (.int x0), b3, b4] st w = pm_ev 36 65 [b0, b1, some (.int x0), b3, b4] (.int x0 :: st) w := pm_ny pt_36 d36_64 rfl rfl rfl
theorem d36_65 : decode cX4_sharesOn 65 = .ok (.iload 4, 2) := by decide +kernel
theorem z36_65 {st : List Value} {w : pm_H} {b0 b1 b2 b3 : Option Value} {x0 : Int32} : pm_ev 36 65 [b0, b1, b2, b3, some (.int x0)] st w = pm_ev 36 67 [b0, b1, b2, b3, some (.int x0)] (.int x0 :: st) w := pm_ny pt_36 d36_65 rfl rfl rfl
theorem d36_67 : decode cX4_sharesOn 67 = .ok (.iadd, 1) := by decide +kernel
theorem z36_67 {st : List Value} {w : pm_H} {pl : pm_L} {x0 x1 : Int32} : pm_ev 36 67 pl (.int x1 :: .int x0 :: st) w = pm_ev 36 68 pl (.int (x0 + x1) :: st) w := pm_ny pt_36 d36_67 rfl rfl rfl
theorem d36_68 : decode cX4_sharesOn 68 = .ok (.istore_n 2, 1) := by decide +kernel
theorem z36_68 {st : List Value} {w : pm_H} {b0 b2 b3 b4 : Option Value} {x0 : Int32} {x9 : Int32} : pm_ev 36 68 [b0, some (.int x9), b2, b3, b4] (.int x0 :: st) w = pm_ev 36 69 [b0, some (.int x9), some (.int x0), b3, b4] st w := pm_ny pt_36 d36_68 rfl rfl rfl
theorem d36_69 : decode cX4_sharesOn 69 = .ok (.goto 16, 3) := by decide +kernel
theorem z36_69 {st : List Value} {w : pm_H} {pl : pm_L} : pm_ev 36 69 pl st w = pm_ev 36 85 pl st w := pm_ny pt_36 d36_69 rfl rfl rfl
theorem d36_72 : decode cX4_sharesOn 72 = .ok (.iload_n 2, 1) := by decide +kernel
theorem z36_72 {st : List Value} {w : pm_H} {b0 b1 b3 b4 : Option Value} {x0 : Int32} : pm_ev 36 72 [b0, b1, some (.int x0), b3, b4] st w = pm_ev 36 73 [b0, b1, some (.int x0), b3, b4] (.int x0 :: st) w := pm_ny pt_36 d36_72 rfl rfl rfl
theorem d36_73 : decode cX4_sharesOn 73 = .ok (.iload 4, 2) := by decide +kernel
theorem z36_73 {st : List Value} {w : pm_H} {b0 b1 b2 b3 : Option Value} {x0 : Int32} : pm_ev 36 73 [b0, b1, b2, b3, some (.int x0)] st w = pm_ev 36 75 [b0, b1, b2, b3, some (.int x0)] (.int x0 :: st) w := pm_ny pt_36 d36_73 rfl rfl rfl
theorem d36_75 : decode cX4_sharesOn 75 = .ok (.isub, 1) := by decide +kernel
theorem z36_75 {st : List Value} {w : pm_H} {pl : pm_L} {x0 x1 : Int32} : pm_ev 36 75 pl (.int x1 :: .int x0 :: st) w = pm_ev 36 76 pl (.int (x0 - x1) :: st) w := pm_ny pt_36 d36_75 rfl rfl rfl
theorem d36_76 : decode cX4_sharesOn 76 = .ok (.istore_n 2, 1) := by decide +kernel
theorem z36_76 {st : List Value} {w : pm_H} {b0 b2 b3 b4 : Option Value} {x0 : Int32} {x9 : Int32} : pm_ev 36 76 [b0, some (.int x9), b2, b3, b4] (.int x0 :: st) w = pm_ev 36 77 [b0, some (.int x9), some (.int x0), b3, b4] st w := pm_ny pt_36 d36_76 rfl rfl rfl
theorem d36_77 : decode cX4_sharesOn 77 = .ok (.goto 8, 3) := by decide +kernel
theorem z36_77 {st : List Value} {w : pm_H} {pl : pm_L} : pm_ev 36 77 pl st w = pm_ev 36 85 pl st w := pm_ny pt_36 d36_77 rfl rfl rfl
theorem d36_80 : decode cX4_sharesOn 80 = .ok (.iload_n 2, 1) := by decide +kernel
theorem z36_80 {st : List Value} {w : pm_H} {b0 b1 b3 b4 : Option Value} {x0 : Int32} : pm_ev 36 80 [b0, b1, some (.int x0), b3, b4] st w = pm_ev 36 81 [b0, b1, some (.int x0), b3, b4] (.int x0 :: st) w := pm_ny pt_36 d36_80 rfl rfl rfl
theorem d36_81 : decode cX4_sharesOn 81 = .ok (.iload 4, 2) := by decide +kernel
theorem z36_81 {st : List Value} {w : pm_H} {b0 b1 b2 b3 : Option Value} {x0 : Int32} : pm_ev 36 81 [b0, b1, b2, b3, some (.int x0)] st w = pm_ev 36 83 [b0, b1, b2, b3, some (.int x0)] (.int x0 :: st) w := pm_ny pt_36 d36_81 rfl rfl rfl
theorem d36_83 : decode cX4_sharesOn 83 = .ok (.imul, 1) := by decide +kernel
theorem z36_83 {st : List Value} {w : pm_H} {pl : pm_L} {x0 x1 : Int32} : pm_ev 36 83 pl (.int x1 :: .int x0 :: st) w = pm_ev 36 84 pl (.int (x0 * x1) :: st) w := pm_ny pt_36 d36_83 rfl rfl rfl
theorem d36_84 : decode cX4_sharesOn 84 = .ok (.istore_n 2, 1) := by decide +kernel
theorem z36_84 {st : List Value} {w : pm_H} {b0 b2 b3 b4 : Option Value} {x0 : Int32} {x9 : Int32} : pm_ev 36 84 [b0, some (.int x9), b2, b3, b4] (.int x0 :: st) w = pm_ev 36 85 [b0, some (.int x9), some (.int x0), b3, b4] st w := pm_ny pt_36 d36_84 rfl rfl rfl
theorem d36_85 : decode cX4_sharesOn 85 = .ok (.iinc 3 1, 3) := by decide +kernel
theorem z36_85 {st : List Value} {w : pm_H} {b0 b1 b4 : Option Value} {x0 : Int32} {x9 : Int32} : pm_ev 36 85 [b0, b1, some (.int x9), some (.int x0), b4] st w = pm_ev 36 88 [b0, b1, some (.int x9), some (.int (x0 + 1)), b4] st w := pm_ny pt_36 d36_85 rfl rfl rfl
theorem d36_88 : decode cX4_sharesOn 88 = .ok (.goto (-81), 3) := by decide +kernel
theorem z36_88 {st : List Value} {w : pm_H} {pl : pm_L} : pm_ev 36 88 pl st w = pm_ev 36 7 pl st w := pm_ny pt_36 d36_88 rfl rfl rfl
theorem d36_91 : decode cX4_sharesOn 91 = .ok (.iload_n 2, 1) := by decide +kernel
theorem z36_91 {st : List Value} {w : pm_H} {b0 b1 b3 b4 : Option Value} {x0 : Int32} : pm_ev 36 91 [b0, b1, some (.int x0), b3, b4] st w = pm_ev 36 92 [b0, b1, some (.int x0), b3, b4] (.int x0 :: st) w := pm_ny pt_36 d36_91 rfl rfl rfl
theorem d36_92 : decode cX4_sharesOn 92 = .ok (.ireturn, 1) := by decide +kernel
theorem z36_92 {w : pm_H} {pl : pm_L} {x0 : Int32} : pm_ev 36 92 pl [.int x0] w = some (some (.int x0), w) := pm_nr pt_36 d36_92 rfl
theorem d37_0 : decode cX4_addEvent 0 = .ok (.aload_n 0, 1) := by decide +kernel
theorem z37_0 {st : List Value} {w : pm_H} {b1 b2 b3 : Option Value} {x0 : Nat} : pm_ev 37 0 [some (.ref x0), b1, b2, b3] st w = pm_ev 37 1 [some (.ref x0), b1, b2, b3] (.ref x0 :: st) w := pm_ny pt_37 d37_0 rfl rfl rfl
theorem d37_1 : decode cX4_addEvent 1 = .ok (.getfield 46, 3) := by decide +kernel
theorem z37_1 {st : List Value} {w : pm_H} {pl : pm_L} {x0 : Nat} : pm_ev 37 1 pl (.ref x0 :: st) w = pm_kv 37 4 pl st w (pm_gf (w x0) 4 3) := pm_ng pt_37 pt_F_4_46 d37_1
theorem d37_4 : decode cX4_addEvent 4 = .ok (.bipush 20, 2) := by decide +kernel
theorem z37_4 {st : List Value} {w : pm_H} {pl : pm_L} : pm_ev 37 4 pl st w = pm_ev 37 6 pl (.int 20 :: st) w := pm_ny pt_37 d37_4 rfl rfl rfl
theorem d37_6 : decode cX4_addEvent 6 = .ok (.if_icmp .ge 43, 3) := by decide +kernel
theorem z37_6 {st : List Value} {w : pm_H} {pl : pm_L} {x0 x1 : Int32} : pm_ev 37 6 pl (.int x1 :: .int x0 :: st) w = if x0 < x1 then pm_ev 37 9 pl st w else pm_ev 37 49 pl st w := pm_nin (c := x1 ≤ x0) pt_37 d37_6 rfl rfl rfl pm_ge
theorem d37_9 : decode cX4_addEvent 9 = .ok (.aload_n 0, 1) := by decide +kernel
theorem z37_9 {st : List Value} {w : pm_H} {b1 b2 b3 : Option Value} {x0 : Nat} : pm_ev 37 9 [some (.ref x0), b1, b2, b3] st w = pm_ev 37 10 [some (.ref x0), b1, b2, b3] (.ref x0 :: st) w := pm_ny pt_37 d37_9 rfl rfl rfl
theorem d37_10 : decode cX4_addEvent 10 = .ok (.getfield 18, 3) := by decide +kernel
theorem z37_10 {st : List Value} {w : pm_H} {pl : pm_L} {x0 : Nat} : pm_ev 37 10 pl (.ref x0 :: st) w = pm_kv 37 13 pl st w (pm_gf (w x0) 4 4) := pm_ng pt_37 pt_F_4_18 d37_10
theorem d37_13 : decode cX4_addEvent 13 = .ok (.aload_n 0, 1) := by decide +kernel
theorem z37_13 {st : List Value} {w : pm_H} {b1 b2 b3 : Option Value} {x0 : Nat} : pm_ev 37 13 [some (.ref x0), b1, b2, b3] st w = pm_ev 37 14 [some (.ref x0), b1, b2, b3] (.ref x0 :: st) w := pm_ny pt_37 d37_13 rfl rfl rfl
theorem d37_14 : decode cX4_addEvent 14 = .ok (.getfield 46, 3) := by decide +kernel
theorem z37_14 {st : List Value} {w : pm_H} {pl : pm_L} {x0 : Nat} : pm_ev 37 14 pl (.ref x0 :: st) w = pm_kv 37 17 pl st w (pm_gf (w x0) 4 3) := pm_ng pt_37 pt_F_4_46 d37_14
theorem d37_17 : decode cX4_addEvent 17 = .ok (.iload_n 1, 1) := by decide +kernel
theorem z37_17 {st : List Value} {w : pm_H} {b0 b2 b3 : Option Value} {x0 : Int32} : pm_ev 37 17 [b0, some (.int x0), b2, b3] st w = pm_ev 37 18 [b0, some (.int x0), b2, b3] (.int x0 :: st) w := pm_ny pt_37 d37_17 rfl rfl rfl
theorem d37_18 : decode cX4_addEvent 18 = .ok (.iastore, 1) := by decide +kernel
theorem z37_18 {st : List Value} {w : pm_H} {pl : pm_L} {x0 : Nat} {x1 : Int32} {x2 : Int32} : pm_ev 37 18 pl (.int x2 :: .int x1 :: .ref x0 :: st) w = pm_kw 37 19 pl st (pm_is w x0 (w x0) x1 x2) := pm_nis pt_37 d37_18
theorem d37_19 : decode cX4_addEvent 19 = .ok (.aload_n 0, 1) := by decide +kernel
theorem z37_19 {st : List Value} {w : pm_H} {b1 b2 b3 : Option Value} {x0 : Nat} : pm_ev 37 19 [some (.ref x0), b1, b2, b3] st w = pm_ev 37 20 [some (.ref x0), b1, b2, b3] (.ref x0 :: st) w := pm_ny pt_37 d37_19 rfl rfl rfl
theorem d37_20 : decode cX4_addEvent 20 = .ok (.getfield 21, 3) := by decide +kernel
theorem z37_20 {st : List Value} {w : pm_H} {pl : pm_L} {x0 : Nat} : pm_ev 37 20 pl (.ref x0 :: st) w = pm_kv 37 23 pl st w (pm_gf (w x0) 4 5) := pm_ng pt_37 pt_F_4_21 d37_20
theorem d37_23 : decode cX4_addEvent 23 = .ok (.aload_n 0, 1) := by decide +kernel
theorem z37_23 {st : List Value} {w : pm_H} {b1 b2 b3 : Option Value} {x0 : Nat} : pm_ev 37 23 [some (.ref x0), b1, b2, b3] st w = pm_ev 37 24 [some (.ref x0), b1, b2, b3] (.ref x0 :: st) w := pm_ny pt_37 d37_23 rfl rfl rfl
theorem d37_24 : decode cX4_addEvent 24 = .ok (.getfield 46, 3) := by decide +kernel
theorem z37_24 {st : List Value} {w : pm_H} {pl : pm_L} {x0 : Nat} : pm_ev 37 24 pl (.ref x0 :: st) w = pm_kv 37 27 pl st w (pm_gf (w x0) 4 3) := pm_ng pt_37 pt_F_4_46 d37_24
theorem d37_27 : decode cX4_addEvent 27 = .ok (.iload_n 2, 1) := by decide +kernel
theorem z37_27 {st : List Value} {w : pm_H} {b0 b1 b3 : Option Value} {x0 : Int32} : pm_ev 37 27 [b0, b1, some (.int x0), b3] st w = pm_ev 37 28 [b0, b1, some (.int x0), b3] (.int x0 :: st) w := pm_ny pt_37 d37_27 rfl rfl rfl
theorem d37_28 : decode cX4_addEvent 28 = .ok (.iastore, 1) := by decide +kernel
theorem z37_28 {st : List Value} {w : pm_H} {pl : pm_L} {x0 : Nat} {x1 : Int32} {x2 : Int32} : pm_ev 37 28 pl (.int x2 :: .int x1 :: .ref x0 :: st) w = pm_kw 37 29 pl st (pm_is w x0 (w x0) x1 x2) := pm_nis pt_37 d37_28
theorem d37_29 : decode cX4_addEvent 29 = .ok (.aload_n 0, 1) := by decide +kernel
theorem z37_29 {st : List Value} {w : pm_H} {b1 b2 b3 : Option Value} {x0 : Nat} : pm_ev 37 29 [some (.ref x0), b1, b2, b3] st w = pm_ev 37 30 [some (.ref x0), b1, b2, b3] (.ref x0 :: st) w := pm_ny pt_37 d37_29 rfl rfl rfl
theorem d37_30 : decode cX4_addEvent 30 = .ok (.getfield 24, 3) := by decide +kernel
theorem z37_30 {st : List Value} {w : pm_H} {pl : pm_L} {x0 : Nat} : pm_ev 37 30 pl (.ref x0 :: st) w = pm_kv 37 33 pl st w (pm_gf (w x0) 4 6) := pm_ng pt_37 pt_F_4_24 d37_30
theorem d37_33 : decode cX4_addEvent 33 = .ok (.aload_n 0, 1) := by decide +kernel
theorem z37_33 {st : List Value} {w : pm_H} {b1 b2 b3 : Option Value} {x0 : Nat} : pm_ev 37 33 [some (.ref x0), b1, b2, b3] st w = pm_ev 37 34 [some (.ref x0), b1, b2, b3] (.ref x0 :: st) w := pm_ny pt_37 d37_33 rfl rfl rfl
theorem d37_34 : decode cX4_addEvent 34 = .ok (.getfield 46, 3) := by decide +kernel
theorem z37_34 {st : List Value} {w : pm_H} {pl : pm_L} {x0 : Nat} : pm_ev 37 34 pl (.ref x0 :: st) w = pm_kv 37 37 pl st w (pm_gf (w x0) 4 3) := pm_ng pt_37 pt_F_4_46 d37_34
theorem d37_37 : decode cX4_addEvent 37 = .ok (.iload_n 3, 1) := by decide +kernel
theorem z37_37 {st : List Value} {w : pm_H} {b0 b1 b2 : Option Value} {x0 : Int32} : pm_ev 37 37 [b0, b1, b2, some (.int x0)] st w = pm_ev 37 38 [b0, b1, b2, some (.int x0)] (.int x0 :: st) w := pm_ny pt_37 d37_37 rfl rfl rfl
theorem d37_38 : decode cX4_addEvent 38 = .ok (.iastore, 1) := by decide +kernel
theorem z37_38 {st : List Value} {w : pm_H} {pl : pm_L} {x0 : Nat} {x1 : Int32} {x2 : Int32} : pm_ev 37 38 pl (.int x2 :: .int x1 :: .ref x0 :: st) w = pm_kw 37 39 pl st (pm_is w x0 (w x0) x1 x2) := pm_nis pt_37 d37_38
theorem d37_39 : decode cX4_addEvent 39 = .ok (.aload_n 0, 1) := by decide +kernel
theorem z37_39 {st : List Value} {w : pm_H} {b1 b2 b3 : Option Value} {x0 : Nat} : pm_ev 37 39 [some (.ref x0), b1, b2, b3] st w = pm_ev 37 40 [some (.ref x0), b1, b2, b3] (.ref x0 :: st) w := pm_ny pt_37 d37_39 rfl rfl rfl
theorem d37_40 : decode cX4_addEvent 40 = .ok (.dup, 1) := by decide +kernel
theorem z37_40 {st : List Value} {w : pm_H} {pl : pm_L} {x0 : Nat} : pm_ev 37 40 pl (.ref x0 :: st) w = pm_ev 37 41 pl (.ref x0 :: .ref x0 :: st) w := pm_ny pt_37 d37_40 rfl rfl rfl
theorem d37_41 : decode cX4_addEvent 41 = .ok (.getfield 46, 3) := by decide +kernel
theorem z37_41 {st : List Value} {w : pm_H} {pl : pm_L} {x0 : Nat} : pm_ev 37 41 pl (.ref x0 :: st) w = pm_kv 37 44 pl st w (pm_gf (w x0) 4 3) := pm_ng pt_37 pt_F_4_46 d37_41
theorem d37_44 : decode cX4_addEvent 44 = .ok (.iconst 1, 1) := by decide +kernel
theorem z37_44 {st : List Value} {w : pm_H} {pl : pm_L} : pm_ev 37 44 pl st w = pm_ev 37 45 pl (.int 1 :: st) w := pm_ny pt_37 d37_44 rfl rfl rfl
theorem d37_45 : decode cX4_addEvent 45 = .ok (.iadd, 1) := by decide +kernel
theorem z37_45 {st : List Value} {w : pm_H} {pl : pm_L} {x0 x1 : Int32} : pm_ev 37 45 pl (.int x1 :: .int x0 :: st) w = pm_ev 37 46 pl (.int (x0 + x1) :: st) w := pm_ny pt_37 d37_45 rfl rfl rfl
theorem d37_46 : decode cX4_addEvent 46 = .ok (.putfield 46, 3) := by decide +kernel
theorem z37_46 {st : List Value} {w : pm_H} {pl : pm_L} {x0 : Nat} {x1 : Int32} : pm_ev 37 46 pl (.int x1 :: .ref x0 :: st) w = pm_kw 37 49 pl st (pm_pf w x0 (w x0) 4 3 0 (.int x1)) := pm_np pt_37 pt_F_4_46 d37_46
theorem d37_49 : decode cX4_addEvent 49 = .ok (.return_, 1) := by decide +kernel
theorem z37_49 {w : pm_H} {pl : pm_L} : pm_ev 37 49 pl [] w = some (none, w) := pm_nr pt_37 d37_49 rfl
theorem d38_0 : decode cX4_hasRoomForInstrument 0 = .ok (.aload_n 0, 1) := by decide +kernel
theorem z38_0 {st : List Value} {w : pm_H}  {x0 : Nat} : pm_ev 38 0 [some (.ref x0)] st w = pm_ev 38 1 [some (.ref x0)] (.ref x0 :: st) w := pm_ny pt_38 d38_0 rfl rfl rfl
theorem d38_1 : decode cX4_hasRoomForInstrument 1 = .ok (.getfield 49, 3) := by decide +kernel
theorem z38_1 {st : List Value} {w : pm_H} {pl : pm_L} {x0 : Nat} : pm_ev 38 1 pl (.ref x0 :: st) w = pm_kv 38 4 pl st w (pm_gf (w x0) 4 7) := pm_ng pt_38 pt_F_4_49 d38_1
theorem d38_4 : decode cX4_hasRoomForInstrument 4 = .ok (.bipush 8, 2) := by decide +kernel
theorem z38_4 {st : List Value} {w : pm_H} {pl : pm_L} : pm_ev 38 4 pl st w = pm_ev 38 6 pl (.int 8 :: st) w := pm_ny pt_38 d38_4 rfl rfl rfl
theorem d38_6 : decode cX4_hasRoomForInstrument 6 = .ok (.if_icmp .ge 7, 3) := by decide +kernel
theorem z38_6 {st : List Value} {w : pm_H} {pl : pm_L} {x0 x1 : Int32} : pm_ev 38 6 pl (.int x1 :: .int x0 :: st) w = if x0 < x1 then pm_ev 38 9 pl st w else pm_ev 38 13 pl st w := pm_nin (c := x1 ≤ x0) pt_38 d38_6 rfl rfl rfl pm_ge
theorem d38_9 : decode cX4_hasRoomForInstrument 9 = .ok (.iconst 1, 1) := by decide +kernel
theorem z38_9 {st : List Value} {w : pm_H} {pl : pm_L} : pm_ev 38 9 pl st w = pm_ev 38 10 pl (.int 1 :: st) w := pm_ny pt_38 d38_9 rfl rfl rfl
theorem d38_10 : decode cX4_hasRoomForInstrument 10 = .ok (.goto 4, 3) := by decide +kernel
theorem z38_10 {st : List Value} {w : pm_H} {pl : pm_L} : pm_ev 38 10 pl st w = pm_ev 38 14 pl st w := pm_ny pt_38 d38_10 rfl rfl rfl
theorem d38_13 : decode cX4_hasRoomForInstrument 13 = .ok (.iconst 0, 1) := by decide +kernel
theorem z38_13 {st : List Value} {w : pm_H} {pl : pm_L} : pm_ev 38 13 pl st w = pm_ev 38 14 pl (.int 0 :: st) w := pm_ny pt_38 d38_13 rfl rfl rfl
theorem d38_14 : decode cX4_hasRoomForInstrument 14 = .ok (.ireturn, 1) := by decide +kernel
theorem z38_14 {w : pm_H} {pl : pm_L} {x0 : Int32} : pm_ev 38 14 pl [.int x0] w = pm_zr x0 w := pm_nz pt_38 d38_14
theorem d39_0 : decode cX4_addInstrument 0 = .ok (.aload_n 0, 1) := by decide +kernel
theorem z39_0 {st : List Value} {w : pm_H} {b1 b2 b3 b4 : Option Value} {x0 : Nat} : pm_ev 39 0 [some (.ref x0), b1, b2, b3, b4] st w = pm_ev 39 1 [some (.ref x0), b1, b2, b3, b4] (.ref x0 :: st) w := pm_ny pt_39 d39_0 rfl rfl rfl
theorem d39_1 : decode cX4_addInstrument 1 = .ok (.getfield 49, 3) := by decide +kernel
theorem z39_1 {st : List Value} {w : pm_H} {pl : pm_L} {x0 : Nat} : pm_ev 39 1 pl (.ref x0 :: st) w = pm_kv 39 4 pl st w (pm_gf (w x0) 4 7) := pm_ng pt_39 pt_F_4_49 d39_1
theorem d39_4 : decode cX4_addInstrument 4 = .ok (.bipush 8, 2) := by decide +kernel
theorem z39_4 {st : List Value} {w : pm_H} {pl : pm_L} : pm_ev 39 4 pl st w = pm_ev 39 6 pl (.int 8 :: st) w := pm_ny pt_39 d39_4 rfl rfl rfl
theorem d39_6 : decode cX4_addInstrument 6 = .ok (.if_icmp .ge 54, 3) := by decide +kernel
theorem z39_6 {st : List Value} {w : pm_H} {pl : pm_L} {x0 x1 : Int32} : pm_ev 39 6 pl (.int x1 :: .int x0 :: st) w = if x0 < x1 then pm_ev 39 9 pl st w else pm_ev 39 60 pl st w := pm_nin (c := x1 ≤ x0) pt_39 d39_6 rfl rfl rfl pm_ge
theorem d39_9 : decode cX4_addInstrument 9 = .ok (.aload_n 0, 1) := by decide +kernel
theorem z39_9 {st : List Value} {w : pm_H} {b1 b2 b3 b4 : Option Value} {x0 : Nat} : pm_ev 39 9 [some (.ref x0), b1, b2, b3, b4] st w = pm_ev 39 10 [some (.ref x0), b1, b2, b3, b4] (.ref x0 :: st) w := pm_ny pt_39 d39_9 rfl rfl rfl
theorem d39_10 : decode cX4_addInstrument 10 = .ok (.getfield 27, 3) := by decide +kernel
theorem z39_10 {st : List Value} {w : pm_H} {pl : pm_L} {x0 : Nat} : pm_ev 39 10 pl (.ref x0 :: st) w = pm_kv 39 13 pl st w (pm_gf (w x0) 4 8) := pm_ng pt_39 pt_F_4_27 d39_10
theorem d39_13 : decode cX4_addInstrument 13 = .ok (.aload_n 0, 1) := by decide +kernel
theorem z39_13 {st : List Value} {w : pm_H} {b1 b2 b3 b4 : Option Value} {x0 : Nat} : pm_ev 39 13 [some (.ref x0), b1, b2, b3, b4] st w = pm_ev 39 14 [some (.ref x0), b1, b2, b3, b4] (.ref x0 :: st) w := pm_ny pt_39 d39_13 rfl rfl rfl
theorem d39_14 : decode cX4_addInstrument 14 = .ok (.getfield 49, 3) := by decide +kernel
theorem z39_14 {st : List Value} {w : pm_H} {pl : pm_L} {x0 : Nat} : pm_ev 39 14 pl (.ref x0 :: st) w = pm_kv 39 17 pl st w (pm_gf (w x0) 4 7) := pm_ng pt_39 pt_F_4_49 d39_14
theorem d39_17 : decode cX4_addInstrument 17 = .ok (.iload_n 1, 1) := by decide +kernel
theorem z39_17 {st : List Value} {w : pm_H} {b0 b2 b3 b4 : Option Value} {x0 : Int32} : pm_ev 39 17 [b0, some (.int x0), b2, b3, b4] st w = pm_ev 39 18 [b0, some (.int x0), b2, b3, b4] (.int x0 :: st) w := pm_ny pt_39 d39_17 rfl rfl rfl
theorem d39_18 : decode cX4_addInstrument 18 = .ok (.iastore, 1) := by decide +kernel
theorem z39_18 {st : List Value} {w : pm_H} {pl : pm_L} {x0 : Nat} {x1 : Int32} {x2 : Int32} : pm_ev 39 18 pl (.int x2 :: .int x1 :: .ref x0 :: st) w = pm_kw 39 19 pl st (pm_is w x0 (w x0) x1 x2) := pm_nis pt_39 d39_18
theorem d39_19 : decode cX4_addInstrument 19 = .ok (.aload_n 0, 1) := by decide +kernel
theorem z39_19 {st : List Value} {w : pm_H} {b1 b2 b3 b4 : Option Value} {x0 : Nat} : pm_ev 39 19 [some (.ref x0), b1, b2, b3, b4] st w = pm_ev 39 20 [some (.ref x0), b1, b2, b3, b4] (.ref x0 :: st) w := pm_ny pt_39 d39_19 rfl rfl rfl
theorem d39_20 : decode cX4_addInstrument 20 = .ok (.getfield 30, 3) := by decide +kernel
theorem z39_20 {st : List Value} {w : pm_H} {pl : pm_L} {x0 : Nat} : pm_ev 39 20 pl (.ref x0 :: st) w = pm_kv 39 23 pl st w (pm_gf (w x0) 4 9) := pm_ng pt_39 pt_F_4_30 d39_20
theorem d39_23 : decode cX4_addInstrument 23 = .ok (.aload_n 0, 1) := by decide +kernel
theorem z39_23 {st : List Value} {w : pm_H} {b1 b2 b3 b4 : Option Value} {x0 : Nat} : pm_ev 39 23 [some (.ref x0), b1, b2, b3, b4] st w = pm_ev 39 24 [some (.ref x0), b1, b2, b3, b4] (.ref x0 :: st) w := pm_ny pt_39 d39_23 rfl rfl rfl
theorem d39_24 : decode cX4_addInstrument 24 = .ok (.getfield 49, 3) := by decide +kernel
theorem z39_24 {st : List Value} {w : pm_H} {pl : pm_L} {x0 : Nat} : pm_ev 39 24 pl (.ref x0 :: st) w = pm_kv 39 27 pl st w (pm_gf (w x0) 4 7) := pm_ng pt_39 pt_F_4_49 d39_24
theorem d39_27 : decode cX4_addInstrument 27 = .ok (.iload_n 2, 1) := by decide +kernel
theorem z39_27 {st : List Value} {w : pm_H} {b0 b1 b3 b4 : Option Value} {x0 : Int32} : pm_ev 39 27 [b0, b1, some (.int x0), b3, b4] st w = pm_ev 39 28 [b0, b1, some (.int x0), b3, b4] (.int x0 :: st) w := pm_ny pt_39 d39_27 rfl rfl rfl
theorem d39_28 : decode cX4_addInstrument 28 = .ok (.iastore, 1) := by decide +kernel
theorem z39_28 {st : List Value} {w : pm_H} {pl : pm_L} {x0 : Nat} {x1 : Int32} {x2 : Int32} : pm_ev 39 28 pl (.int x2 :: .int x1 :: .ref x0 :: st) w = pm_kw 39 29 pl st (pm_is w x0 (w x0) x1 x2) := pm_nis pt_39 d39_28
theorem d39_29 : decode cX4_addInstrument 29 = .ok (.aload_n 0, 1) := by decide +kernel
theorem z39_29 {st : List Value} {w : pm_H} {b1 b2 b3 b4 : Option Value} {x0 : Nat} : pm_ev 39 29 [some (.ref x0), b1, b2, b3, b4] st w = pm_ev 39 30 [some (.ref x0), b1, b2, b3, b4] (.ref x0 :: st) w := pm_ny pt_39 d39_29 rfl rfl rfl
theorem d39_30 : decode cX4_addInstrument 30 = .ok (.getfield 33, 3) := by decide +kernel
theorem z39_30 {st : List Value} {w : pm_H} {pl : pm_L} {x0 : Nat} : pm_ev 39 30 pl (.ref x0 :: st) w = pm_kv 39 33 pl st w (pm_gf (w x0) 4 10) := pm_ng pt_39 pt_F_4_33 d39_30
theorem d39_33 : decode cX4_addInstrument 33 = .ok (.aload_n 0, 1) := by decide +kernel
theorem z39_33 {st : List Value} {w : pm_H} {b1 b2 b3 b4 : Option Value} {x0 : Nat} : pm_ev 39 33 [some (.ref x0), b1, b2, b3, b4] st w = pm_ev 39 34 [some (.ref x0), b1, b2, b3, b4] (.ref x0 :: st) w := pm_ny pt_39 d39_33 rfl rfl rfl
theorem d39_34 : decode cX4_addInstrument 34 = .ok (.getfield 49, 3) := by decide +kernel
theorem z39_34 {st : List Value} {w : pm_H} {pl : pm_L} {x0 : Nat} : pm_ev 39 34 pl (.ref x0 :: st) w = pm_kv 39 37 pl st w (pm_gf (w x0) 4 7) := pm_ng pt_39 pt_F_4_49 d39_34
theorem d39_37 : decode cX4_addInstrument 37 = .ok (.iload_n 3, 1) := by decide +kernel
theorem z39_37 {st : List Value} {w : pm_H} {b0 b1 b2 b4 : Option Value} {x0 : Int32} : pm_ev 39 37 [b0, b1, b2, some (.int x0), b4] st w = pm_ev 39 38 [b0, b1, b2, some (.int x0), b4] (.int x0 :: st) w := pm_ny pt_39 d39_37 rfl rfl rfl
theorem d39_38 : decode cX4_addInstrument 38 = .ok (.iastore, 1) := by decide +kernel
theorem z39_38 {st : List Value} {w : pm_H} {pl : pm_L} {x0 : Nat} {x1 : Int32} {x2 : Int32} : pm_ev 39 38 pl (.int x2 :: .int x1 :: .ref x0 :: st) w = pm_kw 39 39 pl st (pm_is w x0 (w x0) x1 x2) := pm_nis pt_39 d39_38
theorem d39_39 : decode cX4_addInstrument 39 = .ok (.aload_n 0, 1) := by decide +kernel
theorem z39_39 {st : List Value} {w : pm_H} {b1 b2 b3 b4 : Option Value} {x0 : Nat} : pm_ev 39 39 [some (.ref x0), b1, b2, b3, b4] st w = pm_ev 39 40 [some (.ref x0), b1, b2, b3, b4] (.ref x0 :: st) w := pm_ny pt_39 d39_39 rfl rfl rfl
theorem d39_40 : decode cX4_addInstrument 40 = .ok (.getfield 36, 3) := by decide +kernel
theorem z39_40 {st : List Value} {w : pm_H} {pl : pm_L} {x0 : Nat} : pm_ev 39 40 pl (.ref x0 :: st) w = pm_kv 39 43 pl st w (pm_gf (w x0) 4 11) := pm_ng pt_39 pt_F_4_36 d39_40
theorem d39_43 : decode cX4_addInstrument 43 = .ok (.aload_n 0, 1) := by decide +kernel
theorem z39_43 {st : List Value} {w : pm_H} {b1 b2 b3 b4 : Option Value} {x0 : Nat} : pm_ev 39 43 [some (.ref x0), b1, b2, b3, b4] st w = pm_ev 39 44 [some (.ref x0), b1, b2, b3, b4] (.ref x0 :: st) w := pm_ny pt_39 d39_43 rfl rfl rfl
theorem d39_44 : decode cX4_addInstrument 44 = .ok (.getfield 49, 3) := by decide +kernel
theorem z39_44 {st : List Value} {w : pm_H} {pl : pm_L} {x0 : Nat} : pm_ev 39 44 pl (.ref x0 :: st) w = pm_kv 39 47 pl st w (pm_gf (w x0) 4 7) := pm_ng pt_39 pt_F_4_49 d39_44
theorem d39_47 : decode cX4_addInstrument 47 = .ok (.iload 4, 2) := by decide +kernel
theorem z39_47 {st : List Value} {w : pm_H} {b0 b1 b2 b3 : Option Value} {x0 : Int32} : pm_ev 39 47 [b0, b1, b2, b3, some (.int x0)] st w = pm_ev 39 49 [b0, b1, b2, b3, some (.int x0)] (.int x0 :: st) w := pm_ny pt_39 d39_47 rfl rfl rfl
theorem d39_49 : decode cX4_addInstrument 49 = .ok (.iastore, 1) := by decide +kernel
theorem z39_49 {st : List Value} {w : pm_H} {pl : pm_L} {x0 : Nat} {x1 : Int32} {x2 : Int32} : pm_ev 39 49 pl (.int x2 :: .int x1 :: .ref x0 :: st) w = pm_kw 39 50 pl st (pm_is w x0 (w x0) x1 x2) := pm_nis pt_39 d39_49
theorem d39_50 : decode cX4_addInstrument 50 = .ok (.aload_n 0, 1) := by decide +kernel
theorem z39_50 {st : List Value} {w : pm_H} {b1 b2 b3 b4 : Option Value} {x0 : Nat} : pm_ev 39 50 [some (.ref x0), b1, b2, b3, b4] st w = pm_ev 39 51 [some (.ref x0), b1, b2, b3, b4] (.ref x0 :: st) w := pm_ny pt_39 d39_50 rfl rfl rfl
theorem d39_51 : decode cX4_addInstrument 51 = .ok (.dup, 1) := by decide +kernel
theorem z39_51 {st : List Value} {w : pm_H} {pl : pm_L} {x0 : Nat} : pm_ev 39 51 pl (.ref x0 :: st) w = pm_ev 39 52 pl (.ref x0 :: .ref x0 :: st) w := pm_ny pt_39 d39_51 rfl rfl rfl
theorem d39_52 : decode cX4_addInstrument 52 = .ok (.getfield 49, 3) := by decide +kernel
theorem z39_52 {st : List Value} {w : pm_H} {pl : pm_L} {x0 : Nat} : pm_ev 39 52 pl (.ref x0 :: st) w = pm_kv 39 55 pl st w (pm_gf (w x0) 4 7) := pm_ng pt_39 pt_F_4_49 d39_52
theorem d39_55 : decode cX4_addInstrument 55 = .ok (.iconst 1, 1) := by decide +kernel
theorem z39_55 {st : List Value} {w : pm_H} {pl : pm_L} : pm_ev 39 55 pl st w = pm_ev 39 56 pl (.int 1 :: st) w := pm_ny pt_39 d39_55 rfl rfl rfl
theorem d39_56 : decode cX4_addInstrument 56 = .ok (.iadd, 1) := by decide +kernel
theorem z39_56 {st : List Value} {w : pm_H} {pl : pm_L} {x0 x1 : Int32} : pm_ev 39 56 pl (.int x1 :: .int x0 :: st) w = pm_ev 39 57 pl (.int (x0 + x1) :: st) w := pm_ny pt_39 d39_56 rfl rfl rfl
theorem d39_57 : decode cX4_addInstrument 57 = .ok (.putfield 49, 3) := by decide +kernel
theorem z39_57 {st : List Value} {w : pm_H} {pl : pm_L} {x0 : Nat} {x1 : Int32} : pm_ev 39 57 pl (.int x1 :: .ref x0 :: st) w = pm_kw 39 60 pl st (pm_pf w x0 (w x0) 4 7 0 (.int x1)) := pm_np pt_39 pt_F_4_49 d39_57
theorem d39_60 : decode cX4_addInstrument 60 = .ok (.return_, 1) := by decide +kernel
theorem z39_60 {w : pm_H} {pl : pm_L} : pm_ev 39 60 pl [] w = some (none, w) := pm_nr pt_39 d39_60 rfl
theorem d40_0 : decode cX4_restatedOn 0 = .ok (.aload_n 0, 1) := by decide +kernel
theorem z40_0 {st : List Value} {w : pm_H} {b1 : Option Value} {x0 : Nat} : pm_ev 40 0 [some (.ref x0), b1] st w = pm_ev 40 1 [some (.ref x0), b1] (.ref x0 :: st) w := pm_ny pt_40 d40_0 rfl rfl rfl
theorem d40_1 : decode cX4_restatedOn 1 = .ok (.iload_n 1, 1) := by decide +kernel
theorem z40_1 {st : List Value} {w : pm_H} {b0 : Option Value} {x0 : Int32} : pm_ev 40 1 [b0, some (.int x0)] st w = pm_ev 40 2 [b0, some (.int x0)] (.int x0 :: st) w := pm_ny pt_40 d40_1 rfl rfl rfl
theorem d40_2 : decode cX4_restatedOn 2 = .ok (.invokevirtual 66, 3) := by decide +kernel
theorem z40_2 {w : pm_H} {b0 b1 : Option Value} {x0 : Int32} {x1 : Nat} : pm_ev 40 2 [b0, b1] [.int x0, .ref x1] w = pm_k 40 5 [b0, b1] [] (pm_vc (w x1) 4 (pm_call 36 [.ref x1, .int x0] w)) := pm_nv pt_40 pt_36 pt_M_4_66 d40_2 ⟨rfl, rfl⟩ ⟨⟨rfl, Nat.le_of_ble_eq_true rfl, Nat.le_of_ble_eq_true rfl, Nat.le_of_ble_eq_true rfl, Nat.le_of_ble_eq_true rfl⟩, rfl⟩
theorem d40_5 : decode cX4_restatedOn 5 = .ok (.aload_n 0, 1) := by decide +kernel
theorem z40_5 {st : List Value} {w : pm_H} {b1 : Option Value} {x0 : Nat} : pm_ev 40 5 [some (.ref x0), b1] st w = pm_ev 40 6 [some (.ref x0), b1] (.ref x0 :: st) w := pm_ny pt_40 d40_5 rfl rfl rfl
theorem d40_6 : decode cX4_restatedOn 6 = .ok (.iload_n 1, 1) := by decide +kernel
theorem z40_6 {st : List Value} {w : pm_H} {b0 : Option Value} {x0 : Int32} : pm_ev 40 6 [b0, some (.int x0)] st w = pm_ev 40 7 [b0, some (.int x0)] (.int x0 :: st) w := pm_ny pt_40 d40_6 rfl rfl rfl
theorem d40_7 : decode cX4_restatedOn 7 = .ok (.sipush 359, 3) := by decide +kernel
theorem z40_7 {st : List Value} {w : pm_H} {pl : pm_L} : pm_ev 40 7 pl st w = pm_ev 40 10 pl (.int 359 :: st) w := pm_ny pt_40 d40_7 rfl rfl rfl
theorem d40_10 : decode cX4_restatedOn 10 = .ok (.invokevirtual 73, 3) := by decide +kernel
theorem z40_10 {w : pm_H} {b0 b1 : Option Value} {x0 : Int32} {x1 : Int32} {x2 : Nat} {x3 : Int32} : pm_ev 40 10 [b0, b1] [.int x0, .int x1, .ref x2, .int x3] w = pm_k 40 13 [b0, b1] [.int x3] (pm_vc (w x2) 4 (pm_call 41 [.ref x2, .int x1, .int x0] w)) := pm_nv pt_40 pt_41 pt_M_4_73 d40_10 ⟨rfl, rfl⟩ ⟨⟨rfl, Nat.le_of_ble_eq_true rfl, Nat.le_of_ble_eq_true rfl, Nat.le_of_ble_eq_true rfl, Nat.le_of_ble_eq_true rfl⟩, rfl⟩
theorem d40_13 : decode cX4_restatedOn 13 = .ok (.imul, 1) := by decide +kernel
theorem z40_13 {st : List Value} {w : pm_H} {pl : pm_L} {x0 x1 : Int32} : pm_ev 40 13 pl (.int x1 :: .int x0 :: st) w = pm_ev 40 14 pl (.int (x0 * x1) :: st) w := pm_ny pt_40 d40_13 rfl rfl rfl
theorem d40_14 : decode cX4_restatedOn 14 = .ok (.ireturn, 1) := by decide +kernel
theorem z40_14 {w : pm_H} {pl : pm_L} {x0 : Int32} : pm_ev 40 14 pl [.int x0] w = some (some (.int x0), w) := pm_nr pt_40 d40_14 rfl
theorem d41_0 : decode cX4_splitsBehind 0 = .ok (.iconst 1, 1) := by decide +kernel
theorem z41_0 {st : List Value} {w : pm_H} {pl : pm_L} : pm_ev 41 0 pl st w = pm_ev 41 1 pl (.int 1 :: st) w := pm_ny pt_41 d41_0 rfl rfl rfl
theorem d41_1 : decode cX4_splitsBehind 1 = .ok (.istore_n 3, 1) := by decide +kernel
theorem z41_1 {st : List Value} {w : pm_H} {b0 b1 b3 b4 : Option Value} {x0 : Int32} {x9 : Int32} : pm_ev 41 1 [b0, b1, some (.int x9), b3, b4] (.int x0 :: st) w = pm_ev 41 2 [b0, b1, some (.int x9), some (.int x0), b4] st w := pm_ny pt_41 d41_1 rfl rfl rfl
theorem d41_2 : decode cX4_splitsBehind 2 = .ok (.iconst 0, 1) := by decide +kernel
theorem z41_2 {st : List Value} {w : pm_H} {pl : pm_L} : pm_ev 41 2 pl st w = pm_ev 41 3 pl (.int 0 :: st) w := pm_ny pt_41 d41_2 rfl rfl rfl
theorem d41_3 : decode cX4_splitsBehind 3 = .ok (.istore 4, 2) := by decide +kernel
theorem z41_3 {st : List Value} {w : pm_H} {b0 b1 b2 b4 : Option Value} {x0 : Int32} {x9 : Int32} : pm_ev 41 3 [b0, b1, b2, some (.int x9), b4] (.int x0 :: st) w = pm_ev 41 5 [b0, b1, b2, some (.int x9), some (.int x0)] st w := pm_ny pt_41 d41_3 rfl rfl rfl
theorem d41_5 : decode cX4_splitsBehind 5 = .ok (.iload 4, 2) := by decide +kernel
theorem z41_5 {st : List Value} {w : pm_H} {b0 b1 b2 b3 : Option Value} {x0 : Int32} : pm_ev 41 5 [b0, b1, b2, b3, some (.int x0)] st w = pm_ev 41 7 [b0, b1, b2, b3, some (.int x0)] (.int x0 :: st) w := pm_ny pt_41 d41_5 rfl rfl rfl
theorem d41_7 : decode cX4_splitsBehind 7 = .ok (.aload_n 0, 1) := by decide +kernel
theorem z41_7 {st : List Value} {w : pm_H} {b1 b2 b3 b4 : Option Value} {x0 : Nat} : pm_ev 41 7 [some (.ref x0), b1, b2, b3, b4] st w = pm_ev 41 8 [some (.ref x0), b1, b2, b3, b4] (.ref x0 :: st) w := pm_ny pt_41 d41_7 rfl rfl rfl
theorem d41_8 : decode cX4_splitsBehind 8 = .ok (.getfield 46, 3) := by decide +kernel
theorem z41_8 {st : List Value} {w : pm_H} {pl : pm_L} {x0 : Nat} : pm_ev 41 8 pl (.ref x0 :: st) w = pm_kv 41 11 pl st w (pm_gf (w x0) 4 3) := pm_ng pt_41 pt_F_4_46 d41_8
theorem d41_11 : decode cX4_splitsBehind 11 = .ok (.if_icmp .ge 52, 3) := by decide +kernel
theorem z41_11 {st : List Value} {w : pm_H} {pl : pm_L} {x0 x1 : Int32} : pm_ev 41 11 pl (.int x1 :: .int x0 :: st) w = if x0 < x1 then pm_ev 41 14 pl st w else pm_ev 41 63 pl st w := pm_nin (c := x1 ≤ x0) pt_41 d41_11 rfl rfl rfl pm_ge
theorem d41_14 : decode cX4_splitsBehind 14 = .ok (.aload_n 0, 1) := by decide +kernel
theorem z41_14 {st : List Value} {w : pm_H} {b1 b2 b3 b4 : Option Value} {x0 : Nat} : pm_ev 41 14 [some (.ref x0), b1, b2, b3, b4] st w = pm_ev 41 15 [some (.ref x0), b1, b2, b3, b4] (.ref x0 :: st) w := pm_ny pt_41 d41_14 rfl rfl rfl
theorem d41_15 : decode cX4_splitsBehind 15 = .ok (.getfield 18, 3) := by decide +kernel
theorem z41_15 {st : List Value} {w : pm_H} {pl : pm_L} {x0 : Nat} : pm_ev 41 15 pl (.ref x0 :: st) w = pm_kv 41 18 pl st w (pm_gf (w x0) 4 4) := pm_ng pt_41 pt_F_4_18 d41_15
theorem d41_18 : decode cX4_splitsBehind 18 = .ok (.iload 4, 2) := by decide +kernel
theorem z41_18 {st : List Value} {w : pm_H} {b0 b1 b2 b3 : Option Value} {x0 : Int32} : pm_ev 41 18 [b0, b1, b2, b3, some (.int x0)] st w = pm_ev 41 20 [b0, b1, b2, b3, some (.int x0)] (.int x0 :: st) w := pm_ny pt_41 d41_18 rfl rfl rfl
theorem d41_20 : decode cX4_splitsBehind 20 = .ok (.iaload, 1) := by decide +kernel
theorem z41_20 {st : List Value} {w : pm_H} {pl : pm_L} {x0 : Nat} {x1 : Int32} : pm_ev 41 20 pl (.int x1 :: .ref x0 :: st) w = pm_kv 41 21 pl st w (pm_ia (w x0) 0 x1) := pm_nia pt_41 d41_20
theorem d41_21 : decode cX4_splitsBehind 21 = .ok (.iconst 2, 1) := by decide +kernel
theorem z41_21 {st : List Value} {w : pm_H} {pl : pm_L} : pm_ev 41 21 pl st w = pm_ev 41 22 pl (.int 2 :: st) w := pm_ny pt_41 d41_21 rfl rfl rfl
theorem d41_22 : decode cX4_splitsBehind 22 = .ok (.if_icmp .ne 35, 3) := by decide +kernel
theorem z41_22 {st : List Value} {w : pm_H} {pl : pm_L} {x0 x1 : Int32} : pm_ev 41 22 pl (.int x1 :: .int x0 :: st) w = if x0 = x1 then pm_ev 41 25 pl st w else pm_ev 41 57 pl st w := pm_nin (c := ¬ x0 = x1) pt_41 d41_22 rfl rfl rfl Iff.rfl
theorem d41_25 : decode cX4_splitsBehind 25 = .ok (.aload_n 0, 1) := by decide +kernel
theorem z41_25 {st : List Value} {w : pm_H} {b1 b2 b3 b4 : Option Value} {x0 : Nat} : pm_ev 41 25 [some (.ref x0), b1, b2, b3, b4] st w = pm_ev 41 26 [some (.ref x0), b1, b2, b3, b4] (.ref x0 :: st) w := pm_ny pt_41 d41_25 rfl rfl rfl
theorem d41_26 : decode cX4_splitsBehind 26 = .ok (.getfield 21, 3) := by decide +kernel
theorem z41_26 {st : List Value} {w : pm_H} {pl : pm_L} {x0 : Nat} : pm_ev 41 26 pl (.ref x0 :: st) w = pm_kv 41 29 pl st w (pm_gf (w x0) 4 5) := pm_ng pt_41 pt_F_4_21 d41_26
theorem d41_29 : decode cX4_splitsBehind 29 = .ok (.iload 4, 2) := by decide +kernel
theorem z41_29 {st : List Value} {w : pm_H} {b0 b1 b2 b3 : Option Value} {x0 : Int32} : pm_ev 41 29 [b0, b1, b2, b3, some (.int x0)] st w = pm_ev 41 31 [b0, b1, b2, b3, some (.int x0)] (.int x0 :: st) w := pm_ny pt_41 d41_29 rfl rfl rfl
theorem d41_31 : decode cX4_splitsBehind 31 = .ok (.iaload, 1) := by decide +kernel
theorem z41_31 {st : List Value} {w : pm_H} {pl : pm_L} {x0 : Nat} {x1 : Int32} : pm_ev 41 31 pl (.int x1 :: .ref x0 :: st) w = pm_kv 41 32 pl st w (pm_ia (w x0) 0 x1) := pm_nia pt_41 d41_31
theorem d41_32 : decode cX4_splitsBehind 32 = .ok (.iload_n 1, 1) := by decide +kernel
theorem z41_32 {st : List Value} {w : pm_H} {b0 b2 b3 b4 : Option Value} {x0 : Int32} : pm_ev 41 32 [b0, some (.int x0), b2, b3, b4] st w = pm_ev 41 33 [b0, some (.int x0), b2, b3, b4] (.int x0 :: st) w := pm_ny pt_41 d41_32 rfl rfl rfl
theorem d41_33 : decode cX4_splitsBehind 33 = .ok (.if_icmp .le 24, 3) := by decide +kernel
theorem z41_33 {st : List Value} {w : pm_H} {pl : pm_L} {x0 x1 : Int32} : pm_ev 41 33 pl (.int x1 :: .int x0 :: st) w = if x1 < x0 then pm_ev 41 36 pl st w else pm_ev 41 57 pl st w := pm_nin (c := x0 ≤ x1) pt_41 d41_33 rfl rfl rfl pm_ge
theorem d41_36 : decode cX4_splitsBehind 36 = .ok (.aload_n 0, 1) := by decide +kernel
theorem z41_36 {st : List Value} {w : pm_H} {b1 b2 b3 b4 : Option Value} {x0 : Nat} : pm_ev 41 36 [some (.ref x0), b1, b2, b3, b4] st w = pm_ev 41 37 [some (.ref x0), b1, b2, b3, b4] (.ref x0 :: st) w := pm_ny pt_41 d41_36 rfl rfl rfl
theorem d41_37 : decode cX4_splitsBehind 37 = .ok (.getfield 21, 3) := by decide +kernel
theorem z41_37 {st : List Value} {w : pm_H} {pl : pm_L} {x0 : Nat} : pm_ev 41 37 pl (.ref x0 :: st) w = pm_kv 41 40 pl st w (pm_gf (w x0) 4 5) := pm_ng pt_41 pt_F_4_21 d41_37
theorem d41_40 : decode cX4_splitsBehind 40 = .ok (.iload 4, 2) := by decide +kernel
theorem z41_40 {st : List Value} {w : pm_H} {b0 b1 b2 b3 : Option Value} {x0 : Int32} : pm_ev 41 40 [b0, b1, b2, b3, some (.int x0)] st w = pm_ev 41 42 [b0, b1, b2, b3, some (.int x0)] (.int x0 :: st) w := pm_ny pt_41 d41_40 rfl rfl rfl
theorem d41_42 : decode cX4_splitsBehind 42 = .ok (.iaload, 1) := by decide +kernel
theorem z41_42 {st : List Value} {w : pm_H} {pl : pm_L} {x0 : Nat} {x1 : Int32} : pm_ev 41 42 pl (.int x1 :: .ref x0 :: st) w = pm_kv 41 43 pl st w (pm_ia (w x0) 0 x1) := pm_nia pt_41 d41_42
theorem d41_43 : decode cX4_splitsBehind 43 = .ok (.iload_n 2, 1) := by decide +kernel
theorem z41_43 {st : List Value} {w : pm_H} {b0 b1 b3 b4 : Option Value} {x0 : Int32} : pm_ev 41 43 [b0, b1, some (.int x0), b3, b4] st w = pm_ev 41 44 [b0, b1, some (.int x0), b3, b4] (.int x0 :: st) w := pm_ny pt_41 d41_43 rfl rfl rfl
theorem d41_44 : decode cX4_splitsBehind 44 = .ok (.if_icmp .gt 13, 3) := by decide +kernel
theorem z41_44 {st : List Value} {w : pm_H} {pl : pm_L} {x0 x1 : Int32} : pm_ev 41 44 pl (.int x1 :: .int x0 :: st) w = if x1 < x0 then pm_ev 41 57 pl st w else pm_ev 41 47 pl st w := pm_nif pt_41 d41_44 rfl rfl rfl
theorem d41_47 : decode cX4_splitsBehind 47 = .ok (.iload_n 3, 1) := by decide +kernel
theorem z41_47 {st : List Value} {w : pm_H} {b0 b1 b2 b4 : Option Value} {x0 : Int32} : pm_ev 41 47 [b0, b1, b2, some (.int x0), b4] st w = pm_ev 41 48 [b0, b1, b2, some (.int x0), b4] (.int x0 :: st) w := pm_ny pt_41 d41_47 rfl rfl rfl
theorem d41_48 : decode cX4_splitsBehind 48 = .ok (.aload_n 0, 1) := by decide +kernel
theorem z41_48 {st : List Value} {w : pm_H} {b1 b2 b3 b4 : Option Value} {x0 : Nat} : pm_ev 41 48 [some (.ref x0), b1, b2, b3, b4] st w = pm_ev 41 49 [some (.ref x0), b1, b2, b3, b4] (.ref x0 :: st) w := pm_ny pt_41 d41_48 rfl rfl rfl
theorem d41_49 : decode cX4_splitsBehind 49 = .ok (.getfield 24, 3) := by decide +kernel
theorem z41_49 {st : List Value} {w : pm_H} {pl : pm_L} {x0 : Nat} : pm_ev 41 49 pl (.ref x0 :: st) w = pm_kv 41 52 pl st w (pm_gf (w x0) 4 6) := pm_ng pt_41 pt_F_4_24 d41_49
theorem d41_52 : decode cX4_splitsBehind 52 = .ok (.iload 4, 2) := by decide +kernel
theorem z41_52 {st : List Value} {w : pm_H} {b0 b1 b2 b3 : Option Value} {x0 : Int32} : pm_ev 41 52 [b0, b1, b2, b3, some (.int x0)] st w = pm_ev 41 54 [b0, b1, b2, b3, some (.int x0)] (.int x0 :: st) w := pm_ny pt_41 d41_52 rfl rfl rfl
theorem d41_54 : decode cX4_splitsBehind 54 = .ok (.iaload, 1) := by decide +kernel
theorem z41_54 {st : List Value} {w : pm_H} {pl : pm_L} {x0 : Nat} {x1 : Int32} : pm_ev 41 54 pl (.int x1 :: .ref x0 :: st) w = pm_kv 41 55 pl st w (pm_ia (w x0) 0 x1) := pm_nia pt_41 d41_54
theorem d41_55 : decode cX4_splitsBehind 55 = .ok (.imul, 1) := by decide +kernel
theorem z41_55 {st : List Value} {w : pm_H} {pl : pm_L} {x0 x1 : Int32} : pm_ev 41 55 pl (.int x1 :: .int x0 :: st) w = pm_ev 41 56 pl (.int (x0 * x1) :: st) w := pm_ny pt_41 d41_55 rfl rfl rfl
theorem d41_56 : decode cX4_splitsBehind 56 = .ok (.istore_n 3, 1) := by decide +kernel
theorem z41_56 {st : List Value} {w : pm_H} {b0 b1 b3 b4 : Option Value} {x0 : Int32} {x9 : Int32} : pm_ev 41 56 [b0, b1, some (.int x9), b3, b4] (.int x0 :: st) w = pm_ev 41 57 [b0, b1, some (.int x9), some (.int x0), b4] st w := pm_ny pt_41 d41_56 rfl rfl rfl
theorem d41_57 : decode cX4_splitsBehind 57 = .ok (.iinc 4 1, 3) := by decide +kernel
theorem z41_57 {st : List Value} {w : pm_H} {b0 b1 b2 : Option Value} {x0 : Int32} {x9 : Int32} : pm_ev 41 57 [b0, b1, b2, some (.int x9), some (.int x0)] st w = pm_ev 41 60 [b0, b1, b2, some (.int x9), some (.int (x0 + 1))] st w := pm_ny pt_41 d41_57 rfl rfl rfl
theorem d41_60 : decode cX4_splitsBehind 60 = .ok (.goto (-55), 3) := by decide +kernel
theorem z41_60 {st : List Value} {w : pm_H} {pl : pm_L} : pm_ev 41 60 pl st w = pm_ev 41 5 pl st w := pm_ny pt_41 d41_60 rfl rfl rfl
theorem d41_63 : decode cX4_splitsBehind 63 = .ok (.iload_n 3, 1) := by decide +kernel
theorem z41_63 {st : List Value} {w : pm_H} {b0 b1 b2 b4 : Option Value} {x0 : Int32} : pm_ev 41 63 [b0, b1, b2, some (.int x0), b4] st w = pm_ev 41 64 [b0, b1, b2, some (.int x0), b4] (.int x0 :: st) w := pm_ny pt_41 d41_63 rfl rfl rfl
theorem d41_64 : decode cX4_splitsBehind 64 = .ok (.ireturn, 1) := by decide +kernel
theorem z41_64 {w : pm_H} {pl : pm_L} {x0 : Int32} : pm_ev 41 64 pl [.int x0] w = some (some (.int x0), w) := pm_nr pt_41 d41_64 rfl
theorem d42_0 : decode cX4_hasInstrument 0 = .ok (.iload_n 1, 1) := by decide +kernel
theorem z42_0 {st : List Value} {w : pm_H} {b0 : Option Value} {x0 : Int32} : pm_ev 42 0 [b0, some (.int x0)] st w = pm_ev 42 1 [b0, some (.int x0)] (.int x0 :: st) w := pm_ny pt_42 d42_0 rfl rfl rfl
theorem d42_1 : decode cX4_hasInstrument 1 = .ok (.ifCond .lt 15, 3) := by decide +kernel
theorem z42_1 {st : List Value} {w : pm_H} {pl : pm_L} {x0 : Int32} : pm_ev 42 1 pl (.int x0 :: st) w = if x0 < 0 then pm_ev 42 16 pl st w else pm_ev 42 4 pl st w := pm_nif pt_42 d42_1 rfl rfl rfl
theorem d42_4 : decode cX4_hasInstrument 4 = .ok (.iload_n 1, 1) := by decide +kernel
theorem z42_4 {st : List Value} {w : pm_H} {b0 : Option Value} {x0 : Int32} : pm_ev 42 4 [b0, some (.int x0)] st w = pm_ev 42 5 [b0, some (.int x0)] (.int x0 :: st) w := pm_ny pt_42 d42_4 rfl rfl rfl
theorem d42_5 : decode cX4_hasInstrument 5 = .ok (.aload_n 0, 1) := by decide +kernel
theorem z42_5 {st : List Value} {w : pm_H} {b1 : Option Value} {x0 : Nat} : pm_ev 42 5 [some (.ref x0), b1] st w = pm_ev 42 6 [some (.ref x0), b1] (.ref x0 :: st) w := pm_ny pt_42 d42_5 rfl rfl rfl
theorem d42_6 : decode cX4_hasInstrument 6 = .ok (.getfield 49, 3) := by decide +kernel
theorem z42_6 {st : List Value} {w : pm_H} {pl : pm_L} {x0 : Nat} : pm_ev 42 6 pl (.ref x0 :: st) w = pm_kv 42 9 pl st w (pm_gf (w x0) 4 7) := pm_ng pt_42 pt_F_4_49 d42_6
theorem d42_9 : decode cX4_hasInstrument 9 = .ok (.if_icmp .ge 7, 3) := by decide +kernel
theorem z42_9 {st : List Value} {w : pm_H} {pl : pm_L} {x0 x1 : Int32} : pm_ev 42 9 pl (.int x1 :: .int x0 :: st) w = if x0 < x1 then pm_ev 42 12 pl st w else pm_ev 42 16 pl st w := pm_nin (c := x1 ≤ x0) pt_42 d42_9 rfl rfl rfl pm_ge
theorem d42_12 : decode cX4_hasInstrument 12 = .ok (.iconst 1, 1) := by decide +kernel
theorem z42_12 {st : List Value} {w : pm_H} {pl : pm_L} : pm_ev 42 12 pl st w = pm_ev 42 13 pl (.int 1 :: st) w := pm_ny pt_42 d42_12 rfl rfl rfl
theorem d42_13 : decode cX4_hasInstrument 13 = .ok (.goto 4, 3) := by decide +kernel
theorem z42_13 {st : List Value} {w : pm_H} {pl : pm_L} : pm_ev 42 13 pl st w = pm_ev 42 17 pl st w := pm_ny pt_42 d42_13 rfl rfl rfl
theorem d42_16 : decode cX4_hasInstrument 16 = .ok (.iconst 0, 1) := by decide +kernel
theorem z42_16 {st : List Value} {w : pm_H} {pl : pm_L} : pm_ev 42 16 pl st w = pm_ev 42 17 pl (.int 0 :: st) w := pm_ny pt_42 d42_16 rfl rfl rfl
theorem d42_17 : decode cX4_hasInstrument 17 = .ok (.ireturn, 1) := by decide +kernel
theorem z42_17 {w : pm_H} {pl : pm_L} {x0 : Int32} : pm_ev 42 17 pl [.int x0] w = pm_zr x0 w := pm_nz pt_42 d42_17
theorem d43_0 : decode cX4_oldShares 0 = .ok (.aload_n 0, 1) := by decide +kernel
theorem z43_0 {st : List Value} {w : pm_H} {b1 : Option Value} {x0 : Nat} : pm_ev 43 0 [some (.ref x0), b1] st w = pm_ev 43 1 [some (.ref x0), b1] (.ref x0 :: st) w := pm_ny pt_43 d43_0 rfl rfl rfl
theorem d43_1 : decode cX4_oldShares 1 = .ok (.getfield 33, 3) := by decide +kernel
theorem z43_1 {st : List Value} {w : pm_H} {pl : pm_L} {x0 : Nat} : pm_ev 43 1 pl (.ref x0 :: st) w = pm_kv 43 4 pl st w (pm_gf (w x0) 4 10) := pm_ng pt_43 pt_F_4_33 d43_1
theorem d43_4 : decode cX4_oldShares 4 = .ok (.iload_n 1, 1) := by decide +kernel
theorem z43_4 {st : List Value} {w : pm_H} {b0 : Option Value} {x0 : Int32} : pm_ev 43 4 [b0, some (.int x0)] st w = pm_ev 43 5 [b0, some (.int x0)] (.int x0 :: st) w := pm_ny pt_43 d43_4 rfl rfl rfl
theorem d43_5 : decode cX4_oldShares 5 = .ok (.iaload, 1) := by decide +kernel
theorem z43_5 {st : List Value} {w : pm_H} {pl : pm_L} {x0 : Nat} {x1 : Int32} : pm_ev 43 5 pl (.int x1 :: .ref x0 :: st) w = pm_kv 43 6 pl st w (pm_ia (w x0) 0 x1) := pm_nia pt_43 d43_5
theorem d43_6 : decode cX4_oldShares 6 = .ok (.aload_n 0, 1) := by decide +kernel
theorem z43_6 {st : List Value} {w : pm_H} {b1 : Option Value} {x0 : Nat} : pm_ev 43 6 [some (.ref x0), b1] st w = pm_ev 43 7 [some (.ref x0), b1] (.ref x0 :: st) w := pm_ny pt_43 d43_6 rfl rfl rfl
theorem d43_7 : decode cX4_oldShares 7 = .ok (.aload_n 0, 1) := by decide +kernel
theorem z43_7 {st : List Value} {w : pm_H} {b1 : Option Value} {x0 : Nat} : pm_ev 43 7 [some (.ref x0), b1] st w = pm_ev 43 8 [some (.ref x0), b1] (.ref x0 :: st) w := pm_ny pt_43 d43_7 rfl rfl rfl
theorem d43_8 : decode cX4_oldShares 8 = .ok (.getfield 30, 3) := by decide +kernel
theorem z43_8 {st : List Value} {w : pm_H} {pl : pm_L} {x0 : Nat} : pm_ev 43 8 pl (.ref x0 :: st) w = pm_kv 43 11 pl st w (pm_gf (w x0) 4 9) := pm_ng pt_43 pt_F_4_30 d43_8
theorem d43_11 : decode cX4_oldShares 11 = .ok (.iload_n 1, 1) := by decide +kernel
theorem z43_11 {st : List Value} {w : pm_H} {b0 : Option Value} {x0 : Int32} : pm_ev 43 11 [b0, some (.int x0)] st w = pm_ev 43 12 [b0, some (.int x0)] (.int x0 :: st) w := pm_ny pt_43 d43_11 rfl rfl rfl
theorem d43_12 : decode cX4_oldShares 12 = .ok (.iaload, 1) := by decide +kernel
theorem z43_12 {st : List Value} {w : pm_H} {pl : pm_L} {x0 : Nat} {x1 : Int32} : pm_ev 43 12 pl (.int x1 :: .ref x0 :: st) w = pm_kv 43 13 pl st w (pm_ia (w x0) 0 x1) := pm_nia pt_43 d43_12
theorem d43_13 : decode cX4_oldShares 13 = .ok (.sipush 359, 3) := by decide +kernel
theorem z43_13 {st : List Value} {w : pm_H} {pl : pm_L} : pm_ev 43 13 pl st w = pm_ev 43 16 pl (.int 359 :: st) w := pm_ny pt_43 d43_13 rfl rfl rfl
theorem d43_16 : decode cX4_oldShares 16 = .ok (.invokevirtual 73, 3) := by decide +kernel
theorem z43_16 {w : pm_H} {b0 b1 : Option Value} {x0 : Int32} {x1 : Int32} {x2 : Nat} {x3 : Int32} : pm_ev 43 16 [b0, b1] [.int x0, .int x1, .ref x2, .int x3] w = pm_k 43 19 [b0, b1] [.int x3] (pm_vc (w x2) 4 (pm_call 41 [.ref x2, .int x1, .int x0] w)) := pm_nv pt_43 pt_41 pt_M_4_73 d43_16 ⟨rfl, rfl⟩ ⟨⟨rfl, Nat.le_of_ble_eq_true rfl, Nat.le_of_ble_eq_true rfl, Nat.le_of_ble_eq_true rfl, Nat.le_of_ble_eq_true rfl⟩, rfl⟩
theorem d43_19 : decode cX4_oldShares 19 = .ok (.imul, 1) := by decide +kernel
theorem z43_19 {st : List Value} {w : pm_H} {pl : pm_L} {x0 x1 : Int32} : pm_ev 43 19 pl (.int x1 :: .int x0 :: st) w = pm_ev 43 20 pl (.int (x0 * x1) :: st) w := pm_ny pt_43 d43_19 rfl rfl rfl
theorem d43_20 : decode cX4_oldShares 20 = .ok (.ireturn, 1) := by decide +kernel
theorem z43_20 {w : pm_H} {pl : pm_L} {x0 : Int32} : pm_ev 43 20 pl [.int x0] w = some (some (.int x0), w) := pm_nr pt_43 d43_20 rfl
theorem d44_0 : decode cX4_dropEvent 0 = .ok (.aload_n 0, 1) := by decide +kernel
theorem z44_0 {st : List Value} {w : pm_H}  {x0 : Nat} : pm_ev 44 0 [some (.ref x0)] st w = pm_ev 44 1 [some (.ref x0)] (.ref x0 :: st) w := pm_ny pt_44 d44_0 rfl rfl rfl
theorem d44_1 : decode cX4_dropEvent 1 = .ok (.getfield 46, 3) := by decide +kernel
theorem z44_1 {st : List Value} {w : pm_H} {pl : pm_L} {x0 : Nat} : pm_ev 44 1 pl (.ref x0 :: st) w = pm_kv 44 4 pl st w (pm_gf (w x0) 4 3) := pm_ng pt_44 pt_F_4_46 d44_1
theorem d44_4 : decode cX4_dropEvent 4 = .ok (.ifCond .le 13, 3) := by decide +kernel
theorem z44_4 {st : List Value} {w : pm_H} {pl : pm_L} {x0 : Int32} : pm_ev 44 4 pl (.int x0 :: st) w = if 0 < x0 then pm_ev 44 7 pl st w else pm_ev 44 17 pl st w := pm_nin (c := x0 ≤ 0) pt_44 d44_4 rfl rfl rfl pm_ge
theorem d44_7 : decode cX4_dropEvent 7 = .ok (.aload_n 0, 1) := by decide +kernel
theorem z44_7 {st : List Value} {w : pm_H}  {x0 : Nat} : pm_ev 44 7 [some (.ref x0)] st w = pm_ev 44 8 [some (.ref x0)] (.ref x0 :: st) w := pm_ny pt_44 d44_7 rfl rfl rfl
theorem d44_8 : decode cX4_dropEvent 8 = .ok (.dup, 1) := by decide +kernel
theorem z44_8 {st : List Value} {w : pm_H} {pl : pm_L} {x0 : Nat} : pm_ev 44 8 pl (.ref x0 :: st) w = pm_ev 44 9 pl (.ref x0 :: .ref x0 :: st) w := pm_ny pt_44 d44_8 rfl rfl rfl
theorem d44_9 : decode cX4_dropEvent 9 = .ok (.getfield 46, 3) := by decide +kernel
theorem z44_9 {st : List Value} {w : pm_H} {pl : pm_L} {x0 : Nat} : pm_ev 44 9 pl (.ref x0 :: st) w = pm_kv 44 12 pl st w (pm_gf (w x0) 4 3) := pm_ng pt_44 pt_F_4_46 d44_9
theorem d44_12 : decode cX4_dropEvent 12 = .ok (.iconst 1, 1) := by decide +kernel
theorem z44_12 {st : List Value} {w : pm_H} {pl : pm_L} : pm_ev 44 12 pl st w = pm_ev 44 13 pl (.int 1 :: st) w := pm_ny pt_44 d44_12 rfl rfl rfl
theorem d44_13 : decode cX4_dropEvent 13 = .ok (.isub, 1) := by decide +kernel
theorem z44_13 {st : List Value} {w : pm_H} {pl : pm_L} {x0 x1 : Int32} : pm_ev 44 13 pl (.int x1 :: .int x0 :: st) w = pm_ev 44 14 pl (.int (x0 - x1) :: st) w := pm_ny pt_44 d44_13 rfl rfl rfl
theorem d44_14 : decode cX4_dropEvent 14 = .ok (.putfield 46, 3) := by decide +kernel
theorem z44_14 {st : List Value} {w : pm_H} {pl : pm_L} {x0 : Nat} {x1 : Int32} : pm_ev 44 14 pl (.int x1 :: .ref x0 :: st) w = pm_kw 44 17 pl st (pm_pf w x0 (w x0) 4 3 0 (.int x1)) := pm_np pt_44 pt_F_4_46 d44_14
theorem d44_17 : decode cX4_dropEvent 17 = .ok (.return_, 1) := by decide +kernel
theorem z44_17 {w : pm_H} {pl : pm_L} : pm_ev 44 17 pl [] w = some (none, w) := pm_nr pt_44 d44_17 rfl
theorem d45_0 : decode cX4_dropInstrument 0 = .ok (.aload_n 0, 1) := by decide +kernel
theorem z45_0 {st : List Value} {w : pm_H}  {x0 : Nat} : pm_ev 45 0 [some (.ref x0)] st w = pm_ev 45 1 [some (.ref x0)] (.ref x0 :: st) w := pm_ny pt_45 d45_0 rfl rfl rfl
theorem d45_1 : decode cX4_dropInstrument 1 = .ok (.getfield 49, 3) := by decide +kernel
theorem z45_1 {st : List Value} {w : pm_H} {pl : pm_L} {x0 : Nat} : pm_ev 45 1 pl (.ref x0 :: st) w = pm_kv 45 4 pl st w (pm_gf (w x0) 4 7) := pm_ng pt_45 pt_F_4_49 d45_1
theorem d45_4 : decode cX4_dropInstrument 4 = .ok (.ifCond .le 13, 3) := by decide +kernel
theorem z45_4 {st : List Value} {w : pm_H} {pl : pm_L} {x0 : Int32} : pm_ev 45 4 pl (.int x0 :: st) w = if 0 < x0 then pm_ev 45 7 pl st w else pm_ev 45 17 pl st w := pm_nin (c := x0 ≤ 0) pt_45 d45_4 rfl rfl rfl pm_ge
theorem d45_7 : decode cX4_dropInstrument 7 = .ok (.aload_n 0, 1) := by decide +kernel
theorem z45_7 {st : List Value} {w : pm_H}  {x0 : Nat} : pm_ev 45 7 [some (.ref x0)] st w = pm_ev 45 8 [some (.ref x0)] (.ref x0 :: st) w := pm_ny pt_45 d45_7 rfl rfl rfl
theorem d45_8 : decode cX4_dropInstrument 8 = .ok (.dup, 1) := by decide +kernel
theorem z45_8 {st : List Value} {w : pm_H} {pl : pm_L} {x0 : Nat} : pm_ev 45 8 pl (.ref x0 :: st) w = pm_ev 45 9 pl (.ref x0 :: .ref x0 :: st) w := pm_ny pt_45 d45_8 rfl rfl rfl
theorem d45_9 : decode cX4_dropInstrument 9 = .ok (.getfield 49, 3) := by decide +kernel
theorem z45_9 {st : List Value} {w : pm_H} {pl : pm_L} {x0 : Nat} : pm_ev 45 9 pl (.ref x0 :: st) w = pm_kv 45 12 pl st w (pm_gf (w x0) 4 7) := pm_ng pt_45 pt_F_4_49 d45_9
theorem d45_12 : decode cX4_dropInstrument 12 = .ok (.iconst 1, 1) := by decide +kernel
theorem z45_12 {st : List Value} {w : pm_H} {pl : pm_L} : pm_ev 45 12 pl st w = pm_ev 45 13 pl (.int 1 :: st) w := pm_ny pt_45 d45_12 rfl rfl rfl
theorem d45_13 : decode cX4_dropInstrument 13 = .ok (.isub, 1) := by decide +kernel
theorem z45_13 {st : List Value} {w : pm_H} {pl : pm_L} {x0 x1 : Int32} : pm_ev 45 13 pl (.int x1 :: .int x0 :: st) w = pm_ev 45 14 pl (.int (x0 - x1) :: st) w := pm_ny pt_45 d45_13 rfl rfl rfl
theorem d45_14 : decode cX4_dropInstrument 14 = .ok (.putfield 49, 3) := by decide +kernel
theorem z45_14 {st : List Value} {w : pm_H} {pl : pm_L} {x0 : Nat} {x1 : Int32} : pm_ev 45 14 pl (.int x1 :: .ref x0 :: st) w = pm_kw 45 17 pl st (pm_pf w x0 (w x0) 4 7 0 (.int x1)) := pm_np pt_45 pt_F_4_49 d45_14
theorem d45_17 : decode cX4_dropInstrument 17 = .ok (.return_, 1) := by decide +kernel
theorem z45_17 {w : pm_H} {pl : pm_L} : pm_ev 45 17 pl [] w = some (none, w) := pm_nr pt_45 d45_17 rfl
theorem d46_0 : decode cX4_weightOf 0 = .ok (.iload_n 2, 1) := by decide +kernel
theorem z46_0 {st : List Value} {w : pm_H} {b0 b1 b3 b4 b5 b6 b7 b8 : Option Value} {x0 : Int32} : pm_ev 46 0 [b0, b1, some (.int x0), b3, b4, b5, b6, b7, b8] st w = pm_ev 46 1 [b0, b1, some (.int x0), b3, b4, b5, b6, b7, b8] (.int x0 :: st) w := pm_ny pt_46 d46_0 rfl rfl rfl
theorem d46_1 : decode cX4_weightOf 1 = .ok (.invokestatic 76, 3) := by decide +kernel
theorem z46_1 {w : pm_H} {b0 b1 b2 b3 b4 b5 b6 b7 b8 : Option Value} {x0 : Int32} : pm_ev 46 1 [b0, b1, b2, b3, b4, b5, b6, b7, b8] [.int x0] w = pm_k 46 4 [b0, b1, b2, b3, b4, b5, b6, b7, b8] [] (pm_call 47 [.int x0] w) := pm_ns pt_46 pt_47 pt_M_4_76 (Or.inl rfl) d46_1 ⟨rfl, rfl⟩ ⟨⟨rfl, Nat.le_of_ble_eq_true rfl, Nat.le_of_ble_eq_true rfl, Nat.le_of_ble_eq_true rfl, Nat.le_of_ble_eq_true rfl⟩, rfl⟩
theorem d46_4 : decode cX4_weightOf 4 = .ok (.istore_n 3, 1) := by decide +kernel
theorem z46_4 {st : List Value} {w : pm_H} {b0 b1 b3 b4 b5 b6 b7 b8 : Option Value} {x0 : Int32} {x9 : Int32} : pm_ev 46 4 [b0, b1, some (.int x9), b3, b4, b5, b6, b7, b8] (.int x0 :: st) w = pm_ev 46 5 [b0, b1, some (.int x9), some (.int x0), b4, b5, b6, b7, b8] st w := pm_ny pt_46 d46_4 rfl rfl rfl
theorem d46_5 : decode cX4_weightOf 5 = .ok (.iload_n 1, 1) := by decide +kernel
theorem z46_5 {st : List Value} {w : pm_H} {b0 b2 b3 b4 b5 b6 b7 b8 : Option Value} {x0 : Int32} : pm_ev 46 5 [b0, some (.int x0), b2, b3, b4, b5, b6, b7, b8] st w = pm_ev 46 6 [b0, some (.int x0), b2, b3, b4, b5, b6, b7, b8] (.int x0 :: st) w := pm_ny pt_46 d46_5 rfl rfl rfl
theorem d46_6 : decode cX4_weightOf 6 = .ok (.bipush 90, 2) := by decide +kernel
theorem z46_6 {st : List Value} {w : pm_H} {pl : pm_L} : pm_ev 46 6 pl st w = pm_ev 46 8 pl (.int 90 :: st) w := pm_ny pt_46 d46_6 rfl rfl rfl
theorem d46_8 : decode cX4_weightOf 8 = .ok (.imul, 1) := by decide +kernel
theorem z46_8 {st : List Value} {w : pm_H} {pl : pm_L} {x0 x1 : Int32} : pm_ev 46 8 pl (.int x1 :: .int x0 :: st) w = pm_ev 46 9 pl (.int (x0 * x1) :: st) w := pm_ny pt_46 d46_8 rfl rfl rfl
theorem d46_9 : decode cX4_weightOf 9 = .ok (.istore 4, 2) := by decide +kernel
theorem z46_9 {st : List Value} {w : pm_H} {b0 b1 b2 b4 b5 b6 b7 b8 : Option Value} {x0 : Int32} {x9 : Int32} : pm_ev 46 9 [b0, b1, b2, some (.int x9), b4, b5, b6, b7, b8] (.int x0 :: st) w = pm_ev 46 11 [b0, b1, b2, some (.int x9), some (.int x0), b5, b6, b7, b8] st w := pm_ny pt_46 d46_9 rfl rfl rfl
theorem d46_11 : decode cX4_weightOf 11 = .ok (.lconst 0, 1) := by decide +kernel
theorem z46_11 {st : List Value} {w : pm_H} {pl : pm_L} : pm_ev 46 11 pl st w = pm_ev 46 12 pl (.long 0 :: st) w := pm_ny pt_46 d46_11 rfl rfl rfl
theorem d46_12 : decode cX4_weightOf 12 = .ok (.lstore 5, 2) := by decide +kernel
theorem z46_12 {st : List Value} {w : pm_H} {b0 b1 b2 b3 b5 b6 b7 b8 : Option Value} {x0 : Int64} {x9 : Int32} : pm_ev 46 12 [b0, b1, b2, b3, some (.int x9), b5, b6, b7, b8] (.long x0 :: st) w = pm_ev 46 14 [b0, b1, b2, b3, some (.int x9), some (.long x0), none, b7, b8] st w := pm_ny pt_46 d46_12 rfl rfl rfl
theorem d46_14 : decode cX4_weightOf 14 = .ok (.iconst 0, 1) := by decide +kernel
theorem z46_14 {st : List Value} {w : pm_H} {pl : pm_L} : pm_ev 46 14 pl st w = pm_ev 46 15 pl (.int 0 :: st) w := pm_ny pt_46 d46_14 rfl rfl rfl
theorem d46_15 : decode cX4_weightOf 15 = .ok (.istore 7, 2) := by decide +kernel
theorem z46_15 {st : List Value} {w : pm_H} {b0 b1 b2 b3 b4 b5 b7 b8 : Option Value} {x0 : Int32} : pm_ev 46 15 [b0, b1, b2, b3, b4, b5, none, b7, b8] (.int x0 :: st) w = pm_ev 46 17 [b0, b1, b2, b3, b4, b5, none, some (.int x0), b8] st w := pm_ny pt_46 d46_15 rfl rfl rfl
theorem d46_17 : decode cX4_weightOf 17 = .ok (.iload 7, 2) := by decide +kernel
theorem z46_17 {st : List Value} {w : pm_H} {b0 b1 b2 b3 b4 b5 b6 b8 : Option Value} {x0 : Int32} : pm_ev 46 17 [b0, b1, b2, b3, b4, b5, b6, some (.int x0), b8] st w = pm_ev 46 19 [b0, b1, b2, b3, b4, b5, b6, some (.int x0), b8] (.int x0 :: st) w := pm_ny pt_46 d46_17 rfl rfl rfl
theorem d46_19 : decode cX4_weightOf 19 = .ok (.aload_n 0, 1) := by decide +kernel
theorem z46_19 {st : List Value} {w : pm_H} {b1 b2 b3 b4 b5 b6 b7 b8 : Option Value} {x0 : Nat} : pm_ev 46 19 [some (.ref x0), b1, b2, b3, b4, b5, b6, b7, b8] st w = pm_ev 46 20 [some (.ref x0), b1, b2, b3, b4, b5, b6, b7, b8] (.ref x0 :: st) w := pm_ny pt_46 d46_19 rfl rfl rfl
theorem d46_20 : decode cX4_weightOf 20 = .ok (.getfield 46, 3) := by decide +kernel
theorem z46_20 {st : List Value} {w : pm_H} {pl : pm_L} {x0 : Nat} : pm_ev 46 20 pl (.ref x0 :: st) w = pm_kv 46 23 pl st w (pm_gf (w x0) 4 3) := pm_ng pt_46 pt_F_4_46 d46_20
theorem d46_23 : decode cX4_weightOf 23 = .ok (.if_icmp .ge 52, 3) := by decide +kernel
theorem z46_23 {st : List Value} {w : pm_H} {pl : pm_L} {x0 x1 : Int32} : pm_ev 46 23 pl (.int x1 :: .int x0 :: st) w = if x0 < x1 then pm_ev 46 26 pl st w else pm_ev 46 75 pl st w := pm_nin (c := x1 ≤ x0) pt_46 d46_23 rfl rfl rfl pm_ge
theorem d46_26 : decode cX4_weightOf 26 = .ok (.aload_n 0, 1) := by decide +kernel
theorem z46_26 {st : List Value} {w : pm_H} {b1 b2 b3 b4 b5 b6 b7 b8 : Option Value} {x0 : Nat} : pm_ev 46 26 [some (.ref x0), b1, b2, b3, b4, b5, b6, b7, b8] st w = pm_ev 46 27 [some (.ref x0), b1, b2, b3, b4, b5, b6, b7, b8] (.ref x0 :: st) w := pm_ny pt_46 d46_26 rfl rfl rfl
theorem d46_27 : decode cX4_weightOf 27 = .ok (.getfield 21, 3) := by decide +kernel
theorem z46_27 {st : List Value} {w : pm_H} {pl : pm_L} {x0 : Nat} : pm_ev 46 27 pl (.ref x0 :: st) w = pm_kv 46 30 pl st w (pm_gf (w x0) 4 5) := pm_ng pt_46 pt_F_4_21 d46_27
theorem d46_30 : decode cX4_weightOf 30 = .ok (.iload 7, 2) := by decide +kernel
theorem z46_30 {st : List Value} {w : pm_H} {b0 b1 b2 b3 b4 b5 b6 b8 : Option Value} {x0 : Int32} : pm_ev 46 30 [b0, b1, b2, b3, b4, b5, b6, some (.int x0), b8] st w = pm_ev 46 32 [b0, b1, b2, b3, b4, b5, b6, some (.int x0), b8] (.int x0 :: st) w := pm_ny pt_46 d46_30 rfl rfl rfl
theorem d46_32 : decode cX4_weightOf 32 = .ok (.iaload, 1) := by decide +kernel
theorem z46_32 {st : List Value} {w : pm_H} {pl : pm_L} {x0 : Nat} {x1 : Int32} : pm_ev 46 32 pl (.int x1 :: .ref x0 :: st) w = pm_kv 46 33 pl st w (pm_ia (w x0) 0 x1) := pm_nia pt_46 d46_32
theorem d46_33 : decode cX4_weightOf 33 = .ok (.iload_n 3, 1) := by decide +kernel
theorem z46_33 {st : List Value} {w : pm_H} {b0 b1 b2 b4 b5 b6 b7 b8 : Option Value} {x0 : Int32} : pm_ev 46 33 [b0, b1, b2, some (.int x0), b4, b5, b6, b7, b8] st w = pm_ev 46 34 [b0, b1, b2, some (.int x0), b4, b5, b6, b7, b8] (.int x0 :: st) w := pm_ny pt_46 d46_33 rfl rfl rfl
theorem d46_34 : decode cX4_weightOf 34 = .ok (.invokestatic 70, 3) := by decide +kernel
theorem z46_34 {w : pm_H} {b0 b1 b2 b3 b4 b5 b6 b7 b8 : Option Value} {x0 : Int32} {x1 : Int32} : pm_ev 46 34 [b0, b1, b2, b3, b4, b5, b6, b7, b8] [.int x0, .int x1] w = pm_k 46 37 [b0, b1, b2, b3, b4, b5, b6, b7, b8] [] (pm_call 165 [.int x1, .int x0] w) := pm_ns pt_46 pt_165 pt_M_4_70 (Or.inl rfl) d46_34 ⟨rfl, rfl⟩ ⟨⟨rfl, Nat.le_of_ble_eq_true rfl, Nat.le_of_ble_eq_true rfl, Nat.le_of_ble_eq_true rfl, Nat.le_of_ble_eq_true rfl⟩, rfl⟩
theorem d46_37 : decode cX4_weightOf 37 = .ok (.istore 8, 2) := by decide +kernel
theorem z46_37 {st : List Value} {w : pm_H} {b0 b1 b2 b3 b4 b5 b6 b8 : Option Value} {x0 : Int32} {x9 : Int32} : pm_ev 46 37 [b0, b1, b2, b3, b4, b5, b6, some (.int x9), b8] (.int x0 :: st) w = pm_ev 46 39 [b0, b1, b2, b3, b4, b5, b6, some (.int x9), some (.int x0)] st w := pm_ny pt_46 d46_37 rfl rfl rfl
theorem d46_39 : decode cX4_weightOf 39 = .ok (.iload 8, 2) := by decide +kernel
theorem z46_39 {st : List Value} {w : pm_H} {b0 b1 b2 b3 b4 b5 b6 b7 : Option Value} {x0 : Int32} : pm_ev 46 39 [b0, b1, b2, b3, b4, b5, b6, b7, some (.int x0)] st w = pm_ev 46 41 [b0, b1, b2, b3, b4, b5, b6, b7, some (.int x0)] (.int x0 :: st) w := pm_ny pt_46 d46_39 rfl rfl rfl
theorem d46_41 : decode cX4_weightOf 41 = .ok (.iload 4, 2) := by decide +kernel
theorem z46_41 {st : List Value} {w : pm_H} {b0 b1 b2 b3 b5 b6 b7 b8 : Option Value} {x0 : Int32} : pm_ev 46 41 [b0, b1, b2, b3, some (.int x0), b5, b6, b7, b8] st w = pm_ev 46 43 [b0, b1, b2, b3, some (.int x0), b5, b6, b7, b8] (.int x0 :: st) w := pm_ny pt_46 d46_41 rfl rfl rfl
theorem d46_43 : decode cX4_weightOf 43 = .ok (.if_icmp .le 26, 3) := by decide +kernel
theorem z46_43 {st : List Value} {w : pm_H} {pl : pm_L} {x0 x1 : Int32} : pm_ev 46 43 pl (.int x1 :: .int x0 :: st) w = if x1 < x0 then pm_ev 46 46 pl st w else pm_ev 46 69 pl st w := pm_nin (c := x0 ≤ x1) pt_46 d46_43 rfl rfl rfl pm_ge
theorem d46_46 : decode cX4_weightOf 46 = .ok (.lload 5, 2) := by decide +kernel
theorem z46_46 {st : List Value} {w : pm_H} {b0 b1 b2 b3 b4 b6 b7 b8 : Option Value} {x0 : Int64} : pm_ev 46 46 [b0, b1, b2, b3, b4, some (.long x0), b6, b7, b8] st w = pm_ev 46 48 [b0, b1, b2, b3, b4, some (.long x0), b6, b7, b8] (.long x0 :: st) w := pm_ny pt_46 d46_46 rfl rfl rfl
theorem d46_48 : decode cX4_weightOf 48 = .ok (.aload_n 0, 1) := by decide +kernel
theorem z46_48 {st : List Value} {w : pm_H} {b1 b2 b3 b4 b5 b6 b7 b8 : Option Value} {x0 : Nat} : pm_ev 46 48 [some (.ref x0), b1, b2, b3, b4, b5, b6, b7, b8] st w = pm_ev 46 49 [some (.ref x0), b1, b2, b3, b4, b5, b6, b7, b8] (.ref x0 :: st) w := pm_ny pt_46 d46_48 rfl rfl rfl
theorem d46_49 : decode cX4_weightOf 49 = .ok (.iload 4, 2) := by decide +kernel
theorem z46_49 {st : List Value} {w : pm_H} {b0 b1 b2 b3 b5 b6 b7 b8 : Option Value} {x0 : Int32} : pm_ev 46 49 [b0, b1, b2, b3, some (.int x0), b5, b6, b7, b8] st w = pm_ev 46 51 [b0, b1, b2, b3, some (.int x0), b5, b6, b7, b8] (.int x0 :: st) w := pm_ny pt_46 d46_49 rfl rfl rfl
theorem d46_51 : decode cX4_weightOf 51 = .ok (.invokevirtual 79, 3) := by decide +kernel
theorem z46_51 {w : pm_H} {b0 b1 b2 b3 b4 b5 b6 b7 b8 : Option Value} {x0 : Int32} {x1 : Nat} {x2 : Int64} : pm_ev 46 51 [b0, b1, b2, b3, b4, b5, b6, b7, b8] [.int x0, .ref x1, .long x2] w = pm_k 46 54 [b0, b1, b2, b3, b4, b5, b6, b7, b8] [.long x2] (pm_vc (w x1) 4 (pm_call 40 [.ref x1, .int x0] w)) := pm_nv pt_46 pt_40 pt_M_4_79 d46_51 ⟨rfl, rfl⟩ ⟨⟨rfl, Nat.le_of_ble_eq_true rfl, Nat.le_of_ble_eq_true rfl, Nat.le_of_ble_eq_true rfl, Nat.le_of_ble_eq_true rfl⟩, rfl⟩
theorem d46_54 : decode cX4_weightOf 54 = .ok (.i2l, 1) := by decide +kernel
theorem z46_54 {st : List Value} {w : pm_H} {pl : pm_L} {x0 : Int32} : pm_ev 46 54 pl (.int x0 :: st) w = pm_ev 46 55 pl (.long x0.toInt64 :: st) w := pm_ny pt_46 d46_54 rfl rfl rfl
theorem d46_55 : decode cX4_weightOf 55 = .ok (.iload 8, 2) := by decide +kernel
theorem z46_55 {st : List Value} {w : pm_H} {b0 b1 b2 b3 b4 b5 b6 b7 : Option Value} {x0 : Int32} : pm_ev 46 55 [b0, b1, b2, b3, b4, b5, b6, b7, some (.int x0)] st w = pm_ev 46 57 [b0, b1, b2, b3, b4, b5, b6, b7, some (.int x0)] (.int x0 :: st) w := pm_ny pt_46 d46_55 rfl rfl rfl
theorem d46_57 : decode cX4_weightOf 57 = .ok (.iload 4, 2) := by decide +kernel
theorem z46_57 {st : List Value} {w : pm_H} {b0 b1 b2 b3 b5 b6 b7 b8 : Option Value} {x0 : Int32} : pm_ev 46 57 [b0, b1, b2, b3, some (.int x0), b5, b6, b7, b8] st w = pm_ev 46 59 [b0, b1, b2, b3, some (.int x0), b5, b6, b7, b8] (.int x0 :: st) w := pm_ny pt_46 d46_57 rfl rfl rfl
theorem d46_59 : decode cX4_weightOf 59 = .ok (.isub, 1) := by decide +kernel
theorem z46_59 {st : List Value} {w : pm_H} {pl : pm_L} {x0 x1 : Int32} : pm_ev 46 59 pl (.int x1 :: .int x0 :: st) w = pm_ev 46 60 pl (.int (x0 - x1) :: st) w := pm_ny pt_46 d46_59 rfl rfl rfl
theorem d46_60 : decode cX4_weightOf 60 = .ok (.i2l, 1) := by decide +kernel
theorem z46_60 {st : List Value} {w : pm_H} {pl : pm_L} {x0 : Int32} : pm_ev 46 60 pl (.int x0 :: st) w = pm_ev 46 61 pl (.long x0.toInt64 :: st) w := pm_ny pt_46 d46_60 rfl rfl rfl
theorem d46_61 : decode cX4_weightOf 61 = .ok (.lmul, 1) := by decide +kernel
theorem z46_61 {st : List Value} {w : pm_H} {pl : pm_L} {x0 x1 : Int64} : pm_ev 46 61 pl (.long x1 :: .long x0 :: st) w = pm_ev 46 62 pl (.long (x0 * x1) :: st) w := pm_ny pt_46 d46_61 rfl rfl rfl
theorem d46_62 : decode cX4_weightOf 62 = .ok (.ladd, 1) := by decide +kernel
theorem z46_62 {st : List Value} {w : pm_H} {pl : pm_L} {x0 x1 : Int64} : pm_ev 46 62 pl (.long x1 :: .long x0 :: st) w = pm_ev 46 63 pl (.long (x0 + x1) :: st) w := pm_ny pt_46 d46_62 rfl rfl rfl
theorem d46_63 : decode cX4_weightOf 63 = .ok (.lstore 5, 2) := by decide +kernel
theorem z46_63 {st : List Value} {w : pm_H} {b0 b1 b2 b3 b5 b6 b7 b8 : Option Value} {x0 : Int64} {x9 : Int32} : pm_ev 46 63 [b0, b1, b2, b3, some (.int x9), b5, b6, b7, b8] (.long x0 :: st) w = pm_ev 46 65 [b0, b1, b2, b3, some (.int x9), some (.long x0), none, b7, b8] st w := pm_ny pt_46 d46_63 rfl rfl rfl
theorem d46_65 : decode cX4_weightOf 65 = .ok (.iload 8, 2) := by decide +kernel
theorem z46_65 {st : List Value} {w : pm_H} {b0 b1 b2 b3 b4 b5 b6 b7 : Option Value} {x0 : Int32} : pm_ev 46 65 [b0, b1, b2, b3, b4, b5, b6, b7, some (.int x0)] st w = pm_ev 46 67 [b0, b1, b2, b3, b4, b5, b6, b7, some (.int x0)] (.int x0 :: st) w := pm_ny pt_46 d46_65 rfl rfl rfl
theorem d46_67 : decode cX4_weightOf 67 = .ok (.istore 4, 2) := by decide +kernel
theorem z46_67 {st : List Value} {w : pm_H} {b0 b1 b2 b4 b5 b6 b7 b8 : Option Value} {x0 : Int32} {x9 : Int32} : pm_ev 46 67 [b0, b1, b2, some (.int x9), b4, b5, b6, b7, b8] (.int x0 :: st) w = pm_ev 46 69 [b0, b1, b2, some (.int x9), some (.int x0), b5, b6, b7, b8] st w := pm_ny pt_46 d46_67 rfl rfl rfl
theorem d46_69 : decode cX4_weightOf 69 = .ok (.iinc 7 1, 3) := by decide +kernel
theorem z46_69 {st : List Value} {w : pm_H} {b0 b1 b2 b3 b4 b5 b8 : Option Value} {x0 : Int32} : pm_ev 46 69 [b0, b1, b2, b3, b4, b5, none, some (.int x0), b8] st w = pm_ev 46 72 [b0, b1, b2, b3, b4, b5, none, some (.int (x0 + 1)), b8] st w := pm_ny pt_46 d46_69 rfl rfl rfl
theorem d46_72 : decode cX4_weightOf 72 = .ok (.goto (-55), 3) := by decide +kernel
theorem z46_72 {st : List Value} {w : pm_H} {pl : pm_L} : pm_ev 46 72 pl st w = pm_ev 46 17 pl st w := pm_ny pt_46 d46_72 rfl rfl rfl
theorem d46_75 : decode cX4_weightOf 75 = .ok (.lload 5, 2) := by decide +kernel
theorem z46_75 {st : List Value} {w : pm_H} {b0 b1 b2 b3 b4 b6 b7 b8 : Option Value} {x0 : Int64} : pm_ev 46 75 [b0, b1, b2, b3, b4, some (.long x0), b6, b7, b8] st w = pm_ev 46 77 [b0, b1, b2, b3, b4, some (.long x0), b6, b7, b8] (.long x0 :: st) w := pm_ny pt_46 d46_75 rfl rfl rfl
theorem d46_77 : decode cX4_weightOf 77 = .ok (.aload_n 0, 1) := by decide +kernel
theorem z46_77 {st : List Value} {w : pm_H} {b1 b2 b3 b4 b5 b6 b7 b8 : Option Value} {x0 : Nat} : pm_ev 46 77 [some (.ref x0), b1, b2, b3, b4, b5, b6, b7, b8] st w = pm_ev 46 78 [some (.ref x0), b1, b2, b3, b4, b5, b6, b7, b8] (.ref x0 :: st) w := pm_ny pt_46 d46_77 rfl rfl rfl
theorem d46_78 : decode cX4_weightOf 78 = .ok (.iload 4, 2) := by decide +kernel
theorem z46_78 {st : List Value} {w : pm_H} {b0 b1 b2 b3 b5 b6 b7 b8 : Option Value} {x0 : Int32} : pm_ev 46 78 [b0, b1, b2, b3, some (.int x0), b5, b6, b7, b8] st w = pm_ev 46 80 [b0, b1, b2, b3, some (.int x0), b5, b6, b7, b8] (.int x0 :: st) w := pm_ny pt_46 d46_78 rfl rfl rfl
theorem d46_80 : decode cX4_weightOf 80 = .ok (.invokevirtual 79, 3) := by decide +kernel
theorem z46_80 {w : pm_H} {b0 b1 b2 b3 b4 b5 b6 b7 b8 : Option Value} {x0 : Int32} {x1 : Nat} {x2 : Int64} : pm_ev 46 80 [b0, b1, b2, b3, b4, b5, b6, b7, b8] [.int x0, .ref x1, .long x2] w = pm_k 46 83 [b0, b1, b2, b3, b4, b5, b6, b7, b8] [.long x2] (pm_vc (w x1) 4 (pm_call 40 [.ref x1, .int x0] w)) := pm_nv pt_46 pt_40 pt_M_4_79 d46_80 ⟨rfl, rfl⟩ ⟨⟨rfl, Nat.le_of_ble_eq_true rfl, Nat.le_of_ble_eq_true rfl, Nat.le_of_ble_eq_true rfl, Nat.le_of_ble_eq_true rfl⟩, rfl⟩
theorem d46_83 : decode cX4_weightOf 83 = .ok (.i2l, 1) := by decide +kernel
theorem z46_83 {st : List Value} {w : pm_H} {pl : pm_L} {x0 : Int32} : pm_ev 46 83 pl (.int x0 :: st) w = pm_ev 46 84 pl (.long x0.toInt64 :: st) w := pm_ny pt_46 d46_83 rfl rfl rfl
theorem d46_84 : decode cX4_weightOf 84 = .ok (.iload_n 3, 1) := by decide +kernel
theorem z46_84 {st : List Value} {w : pm_H} {b0 b1 b2 b4 b5 b6 b7 b8 : Option Value} {x0 : Int32} : pm_ev 46 84 [b0, b1, b2, some (.int x0), b4, b5, b6, b7, b8] st w = pm_ev 46 85 [b0, b1, b2, some (.int x0), b4, b5, b6, b7, b8] (.int x0 :: st) w := pm_ny pt_46 d46_84 rfl rfl rfl
theorem d46_85 : decode cX4_weightOf 85 = .ok (.iload 4, 2) := by decide +kernel
theorem z46_85 {st : List Value} {w : pm_H} {b0 b1 b2 b3 b5 b6 b7 b8 : Option Value} {x0 : Int32} : pm_ev 46 85 [b0, b1, b2, b3, some (.int x0), b5, b6, b7, b8] st w = pm_ev 46 87 [b0, b1, b2, b3, some (.int x0), b5, b6, b7, b8] (.int x0 :: st) w := pm_ny pt_46 d46_85 rfl rfl rfl
theorem d46_87 : decode cX4_weightOf 87 = .ok (.isub, 1) := by decide +kernel
theorem z46_87 {st : List Value} {w : pm_H} {pl : pm_L} {x0 x1 : Int32} : pm_ev 46 87 pl (.int x1 :: .int x0 :: st) w = pm_ev 46 88 pl (.int (x0 - x1) :: st) w := pm_ny pt_46 d46_87 rfl rfl rfl
theorem d46_88 : decode cX4_weightOf 88 = .ok (.i2l, 1) := by decide +kernel
theorem z46_88 {st : List Value} {w : pm_H} {pl : pm_L} {x0 : Int32} : pm_ev 46 88 pl (.int x0 :: st) w = pm_ev 46 89 pl (.long x0.toInt64 :: st) w := pm_ny pt_46 d46_88 rfl rfl rfl
theorem d46_89 : decode cX4_weightOf 89 = .ok (.lmul, 1) := by decide +kernel
theorem z46_89 {st : List Value} {w : pm_H} {pl : pm_L} {x0 x1 : Int64} : pm_ev 46 89 pl (.long x1 :: .long x0 :: st) w = pm_ev 46 90 pl (.long (x0 * x1) :: st) w := pm_ny pt_46 d46_89 rfl rfl rfl
theorem d46_90 : decode cX4_weightOf 90 = .ok (.ladd, 1) := by decide +kernel
theorem z46_90 {st : List Value} {w : pm_H} {pl : pm_L} {x0 x1 : Int64} : pm_ev 46 90 pl (.long x1 :: .long x0 :: st) w = pm_ev 46 91 pl (.long (x0 + x1) :: st) w := pm_ny pt_46 d46_90 rfl rfl rfl
theorem d46_91 : decode cX4_weightOf 91 = .ok (.lreturn, 1) := by decide +kernel
theorem z46_91 {w : pm_H} {pl : pm_L} {x0 : Int64} : pm_ev 46 91 pl [.long x0] w = some (some (.long x0), w) := pm_nr pt_46 d46_91 rfl
theorem d47_0 : decode cX4_dayBehind 0 = .ok (.iload_n 0, 1) := by decide +kernel
theorem z47_0 {st : List Value} {w : pm_H}  {x0 : Int32} : pm_ev 47 0 [some (.int x0)] st w = pm_ev 47 1 [some (.int x0)] (.int x0 :: st) w := pm_ny pt_47 d47_0 rfl rfl rfl
theorem d47_1 : decode cX4_dayBehind 1 = .ok (.iconst 1, 1) := by decide +kernel
theorem z47_1 {st : List Value} {w : pm_H} {pl : pm_L} : pm_ev 47 1 pl st w = pm_ev 47 2 pl (.int 1 :: st) w := pm_ny pt_47 d47_1 rfl rfl rfl
theorem d47_2 : decode cX4_dayBehind 2 = .ok (.iadd, 1) := by decide +kernel
theorem z47_2 {st : List Value} {w : pm_H} {pl : pm_L} {x0 x1 : Int32} : pm_ev 47 2 pl (.int x1 :: .int x0 :: st) w = pm_ev 47 3 pl (.int (x0 + x1) :: st) w := pm_ny pt_47 d47_2 rfl rfl rfl
theorem d47_3 : decode cX4_dayBehind 3 = .ok (.bipush 90, 2) := by decide +kernel
theorem z47_3 {st : List Value} {w : pm_H} {pl : pm_L} : pm_ev 47 3 pl st w = pm_ev 47 5 pl (.int 90 :: st) w := pm_ny pt_47 d47_3 rfl rfl rfl
theorem d47_5 : decode cX4_dayBehind 5 = .ok (.imul, 1) := by decide +kernel
theorem z47_5 {st : List Value} {w : pm_H} {pl : pm_L} {x0 x1 : Int32} : pm_ev 47 5 pl (.int x1 :: .int x0 :: st) w = pm_ev 47 6 pl (.int (x0 * x1) :: st) w := pm_ny pt_47 d47_5 rfl rfl rfl
theorem d47_6 : decode cX4_dayBehind 6 = .ok (.ireturn, 1) := by decide +kernel
theorem z47_6 {w : pm_H} {pl : pm_L} {x0 : Int32} : pm_ev 47 6 pl [.int x0] w = some (some (.int x0), w) := pm_nr pt_47 d47_6 rfl
theorem d48_0 : decode cX4_addedToEarnings 0 = .ok (.aload_n 0, 1) := by decide +kernel
theorem z48_0 {st : List Value} {w : pm_H} {b1 b2 b3 : Option Value} {x0 : Nat} : pm_ev 48 0 [some (.ref x0), b1, b2, b3] st w = pm_ev 48 1 [some (.ref x0), b1, b2, b3] (.ref x0 :: st) w := pm_ny pt_48 d48_0 rfl rfl rfl
theorem d48_1 : decode cX4_addedToEarnings 1 = .ok (.getfield 27, 3) := by decide +kernel
theorem z48_1 {st : List Value} {w : pm_H} {pl : pm_L} {x0 : Nat} : pm_ev 48 1 pl (.ref x0 :: st) w = pm_kv 48 4 pl st w (pm_gf (w x0) 4 8) := pm_ng pt_48 pt_F_4_27 d48_1
theorem d48_4 : decode cX4_addedToEarnings 4 = .ok (.iload_n 1, 1) := by decide +kernel
theorem z48_4 {st : List Value} {w : pm_H} {b0 b2 b3 : Option Value} {x0 : Int32} : pm_ev 48 4 [b0, some (.int x0), b2, b3] st w = pm_ev 48 5 [b0, some (.int x0), b2, b3] (.int x0 :: st) w := pm_ny pt_48 d48_4 rfl rfl rfl
theorem d48_5 : decode cX4_addedToEarnings 5 = .ok (.iaload, 1) := by decide +kernel
theorem z48_5 {st : List Value} {w : pm_H} {pl : pm_L} {x0 : Nat} {x1 : Int32} : pm_ev 48 5 pl (.int x1 :: .ref x0 :: st) w = pm_kv 48 6 pl st w (pm_ia (w x0) 0 x1) := pm_nia pt_48 d48_5
theorem d48_6 : decode cX4_addedToEarnings 6 = .ok (.iconst 1, 1) := by decide +kernel
theorem z48_6 {st : List Value} {w : pm_H} {pl : pm_L} : pm_ev 48 6 pl st w = pm_ev 48 7 pl (.int 1 :: st) w := pm_ny pt_48 d48_6 rfl rfl rfl
theorem d48_7 : decode cX4_addedToEarnings 7 = .ok (.if_icmp .eq 5, 3) := by decide +kernel
theorem z48_7 {st : List Value} {w : pm_H} {pl : pm_L} {x0 x1 : Int32} : pm_ev 48 7 pl (.int x1 :: .int x0 :: st) w = if x0 = x1 then pm_ev 48 12 pl st w else pm_ev 48 10 pl st w := pm_nif pt_48 d48_7 rfl rfl rfl
theorem d48_10 : decode cX4_addedToEarnings 10 = .ok (.lconst 0, 1) := by decide +kernel
theorem z48_10 {st : List Value} {w : pm_H} {pl : pm_L} : pm_ev 48 10 pl st w = pm_ev 48 11 pl (.long 0 :: st) w := pm_ny pt_48 d48_10 rfl rfl rfl
theorem d48_11 : decode cX4_addedToEarnings 11 = .ok (.lreturn, 1) := by decide +kernel
theorem z48_11 {w : pm_H} {pl : pm_L} {x0 : Int64} : pm_ev 48 11 pl [.long x0] w = some (some (.long x0), w) := pm_nr pt_48 d48_11 rfl
theorem d48_12 : decode cX4_addedToEarnings 12 = .ok (.aload_n 0, 1) := by decide +kernel
theorem z48_12 {st : List Value} {w : pm_H} {b1 b2 b3 : Option Value} {x0 : Nat} : pm_ev 48 12 [some (.ref x0), b1, b2, b3] st w = pm_ev 48 13 [some (.ref x0), b1, b2, b3] (.ref x0 :: st) w := pm_ny pt_48 d48_12 rfl rfl rfl
theorem d48_13 : decode cX4_addedToEarnings 13 = .ok (.getfield 36, 3) := by decide +kernel
theorem z48_13 {st : List Value} {w : pm_H} {pl : pm_L} {x0 : Nat} : pm_ev 48 13 pl (.ref x0 :: st) w = pm_kv 48 16 pl st w (pm_gf (w x0) 4 11) := pm_ng pt_48 pt_F_4_36 d48_13
theorem d48_16 : decode cX4_addedToEarnings 16 = .ok (.iload_n 1, 1) := by decide +kernel
theorem z48_16 {st : List Value} {w : pm_H} {b0 b2 b3 : Option Value} {x0 : Int32} : pm_ev 48 16 [b0, some (.int x0), b2, b3] st w = pm_ev 48 17 [b0, some (.int x0), b2, b3] (.int x0 :: st) w := pm_ny pt_48 d48_16 rfl rfl rfl
theorem d48_17 : decode cX4_addedToEarnings 17 = .ok (.iaload, 1) := by decide +kernel
theorem z48_17 {st : List Value} {w : pm_H} {pl : pm_L} {x0 : Nat} {x1 : Int32} : pm_ev 48 17 pl (.int x1 :: .ref x0 :: st) w = pm_kv 48 18 pl st w (pm_ia (w x0) 0 x1) := pm_nia pt_48 d48_17
theorem d48_18 : decode cX4_addedToEarnings 18 = .ok (.i2l, 1) := by decide +kernel
theorem z48_18 {st : List Value} {w : pm_H} {pl : pm_L} {x0 : Int32} : pm_ev 48 18 pl (.int x0 :: st) w = pm_ev 48 19 pl (.long x0.toInt64 :: st) w := pm_ny pt_48 d48_18 rfl rfl rfl
theorem d48_19 : decode cX4_addedToEarnings 19 = .ok (.aload_n 0, 1) := by decide +kernel
theorem z48_19 {st : List Value} {w : pm_H} {b1 b2 b3 : Option Value} {x0 : Nat} : pm_ev 48 19 [some (.ref x0), b1, b2, b3] st w = pm_ev 48 20 [some (.ref x0), b1, b2, b3] (.ref x0 :: st) w := pm_ny pt_48 d48_19 rfl rfl rfl
theorem d48_20 : decode cX4_addedToEarnings 20 = .ok (.iload_n 1, 1) := by decide +kernel
theorem z48_20 {st : List Value} {w : pm_H} {b0 b2 b3 : Option Value} {x0 : Int32} : pm_ev 48 20 [b0, some (.int x0), b2, b3] st w = pm_ev 48 21 [b0, some (.int x0), b2, b3] (.int x0 :: st) w := pm_ny pt_48 d48_20 rfl rfl rfl
theorem d48_21 : decode cX4_addedToEarnings 21 = .ok (.iload_n 2, 1) := by decide +kernel
theorem z48_21 {st : List Value} {w : pm_H} {b0 b1 b3 : Option Value} {x0 : Int32} : pm_ev 48 21 [b0, b1, some (.int x0), b3] st w = pm_ev 48 22 [b0, b1, some (.int x0), b3] (.int x0 :: st) w := pm_ny pt_48 d48_21 rfl rfl rfl
theorem d48_22 : decode cX4_addedToEarnings 22 = .ok (.iload_n 3, 1) := by decide +kernel
theorem z48_22 {st : List Value} {w : pm_H} {b0 b1 b2 : Option Value} {x0 : Int32} : pm_ev 48 22 [b0, b1, b2, some (.int x0)] st w = pm_ev 48 23 [b0, b1, b2, some (.int x0)] (.int x0 :: st) w := pm_ny pt_48 d48_22 rfl rfl rfl
theorem d48_23 : decode cX4_addedToEarnings 23 = .ok (.invokevirtual 94, 3) := by decide +kernel
theorem z48_23 {w : pm_H} {b0 b1 b2 b3 : Option Value} {x0 : Int32} {x1 : Int32} {x2 : Int32} {x3 : Nat} {x4 : Int64} : pm_ev 48 23 [b0, b1, b2, b3] [.int x0, .int x1, .int x2, .ref x3, .long x4] w = pm_k 48 26 [b0, b1, b2, b3] [.long x4] (pm_vc (w x3) 4 (pm_call 49 [.ref x3, .int x2, .int x1, .int x0] w)) := pm_nv pt_48 pt_49 pt_M_4_94 d48_23 ⟨rfl, rfl⟩ ⟨⟨rfl, Nat.le_of_ble_eq_true rfl, Nat.le_of_ble_eq_true rfl, Nat.le_of_ble_eq_true rfl, Nat.le_of_ble_eq_true rfl⟩, rfl⟩
theorem d48_26 : decode cX4_addedToEarnings 26 = .ok (.i2l, 1) := by decide +kernel
theorem z48_26 {st : List Value} {w : pm_H} {pl : pm_L} {x0 : Int32} : pm_ev 48 26 pl (.int x0 :: st) w = pm_ev 48 27 pl (.long x0.toInt64 :: st) w := pm_ny pt_48 d48_26 rfl rfl rfl
theorem d48_27 : decode cX4_addedToEarnings 27 = .ok (.lmul, 1) := by decide +kernel
theorem z48_27 {st : List Value} {w : pm_H} {pl : pm_L} {x0 x1 : Int64} : pm_ev 48 27 pl (.long x1 :: .long x0 :: st) w = pm_ev 48 28 pl (.long (x0 * x1) :: st) w := pm_ny pt_48 d48_27 rfl rfl rfl
theorem d48_28 : decode cX4_addedToEarnings 28 = .ok (.ldc2_w 98, 3) := by decide +kernel
theorem z48_28 {st : List Value} {w : pm_H} {pl : pm_L} : pm_ev 48 28 pl st w = pm_ev 48 31 pl (.long (360) :: st) w := pm_nk2 pt_48 pt_K_4_98 rfl d48_28
theorem d48_31 : decode cX4_addedToEarnings 31 = .ok (.ldiv, 1) := by decide +kernel
theorem z48_31 {st : List Value} {w : pm_H} {pl : pm_L} {x0 x1 : Int64} : pm_ev 48 31 pl (.long x1 :: .long x0 :: st) w = pm_kv 48 32 pl st w (pm_dv x0 x1) := pm_nd pt_48 d48_31
theorem d48_32 : decode cX4_addedToEarnings 32 = .ok (.lreturn, 1) := by decide +kernel
theorem z48_32 {w : pm_H} {pl : pm_L} {x0 : Int64} : pm_ev 48 32 pl [.long x0] w = some (some (.long x0), w) := pm_nr pt_48 d48_32 rfl
theorem d49_0 : decode cX4_daysCounted 0 = .ok (.iload_n 2, 1) := by decide +kernel
theorem z49_0 {st : List Value} {w : pm_H} {b0 b1 b3 b4 : Option Value} {x0 : Int32} : pm_ev 49 0 [b0, b1, some (.int x0), b3, b4] st w = pm_ev 49 1 [b0, b1, some (.int x0), b3, b4] (.int x0 :: st) w := pm_ny pt_49 d49_0 rfl rfl rfl
theorem d49_1 : decode cX4_daysCounted 1 = .ok (.bipush 90, 2) := by decide +kernel
theorem z49_1 {st : List Value} {w : pm_H} {pl : pm_L} : pm_ev 49 1 pl st w = pm_ev 49 3 pl (.int 90 :: st) w := pm_ny pt_49 d49_1 rfl rfl rfl
theorem d49_3 : decode cX4_daysCounted 3 = .ok (.imul, 1) := by decide +kernel
theorem z49_3 {st : List Value} {w : pm_H} {pl : pm_L} {x0 x1 : Int32} : pm_ev 49 3 pl (.int x1 :: .int x0 :: st) w = pm_ev 49 4 pl (.int (x0 * x1) :: st) w := pm_ny pt_49 d49_3 rfl rfl rfl
theorem d49_4 : decode cX4_daysCounted 4 = .ok (.aload_n 0, 1) := by decide +kernel
theorem z49_4 {st : List Value} {w : pm_H} {b1 b2 b3 b4 : Option Value} {x0 : Nat} : pm_ev 49 4 [some (.ref x0), b1, b2, b3, b4] st w = pm_ev 49 5 [some (.ref x0), b1, b2, b3, b4] (.ref x0 :: st) w := pm_ny pt_49 d49_4 rfl rfl rfl
theorem d49_5 : decode cX4_daysCounted 5 = .ok (.getfield 30, 3) := by decide +kernel
theorem z49_5 {st : List Value} {w : pm_H} {pl : pm_L} {x0 : Nat} : pm_ev 49 5 pl (.ref x0 :: st) w = pm_kv 49 8 pl st w (pm_gf (w x0) 4 9) := pm_ng pt_49 pt_F_4_30 d49_5
theorem d49_8 : decode cX4_daysCounted 8 = .ok (.iload_n 1, 1) := by decide +kernel
theorem z49_8 {st : List Value} {w : pm_H} {b0 b2 b3 b4 : Option Value} {x0 : Int32} : pm_ev 49 8 [b0, some (.int x0), b2, b3, b4] st w = pm_ev 49 9 [b0, some (.int x0), b2, b3, b4] (.int x0 :: st) w := pm_ny pt_49 d49_8 rfl rfl rfl
theorem d49_9 : decode cX4_daysCounted 9 = .ok (.iaload, 1) := by decide +kernel
theorem z49_9 {st : List Value} {w : pm_H} {pl : pm_L} {x0 : Nat} {x1 : Int32} : pm_ev 49 9 pl (.int x1 :: .ref x0 :: st) w = pm_kv 49 10 pl st w (pm_ia (w x0) 0 x1) := pm_nia pt_49 d49_9
theorem d49_10 : decode cX4_daysCounted 10 = .ok (.invokestatic 59, 3) := by decide +kernel
theorem z49_10 {w : pm_H} {b0 b1 b2 b3 b4 : Option Value} {x0 : Int32} {x1 : Int32} : pm_ev 49 10 [b0, b1, b2, b3, b4] [.int x0, .int x1] w = pm_k 49 13 [b0, b1, b2, b3, b4] [] (pm_call 166 [.int x1, .int x0] w) := pm_ns pt_49 pt_166 pt_M_4_59 (Or.inl rfl) d49_10 ⟨rfl, rfl⟩ ⟨⟨rfl, Nat.le_of_ble_eq_true rfl, Nat.le_of_ble_eq_true rfl, Nat.le_of_ble_eq_true rfl, Nat.le_of_ble_eq_true rfl⟩, rfl⟩
theorem d49_13 : decode cX4_daysCounted 13 = .ok (.istore 4, 2) := by decide +kernel
theorem z49_13 {st : List Value} {w : pm_H} {b0 b1 b2 b4 : Option Value} {x0 : Int32} {x9 : Int32} : pm_ev 49 13 [b0, b1, b2, some (.int x9), b4] (.int x0 :: st) w = pm_ev 49 15 [b0, b1, b2, some (.int x9), some (.int x0)] st w := pm_ny pt_49 d49_13 rfl rfl rfl
theorem d49_15 : decode cX4_daysCounted 15 = .ok (.iload_n 3, 1) := by decide +kernel
theorem z49_15 {st : List Value} {w : pm_H} {b0 b1 b2 b4 : Option Value} {x0 : Int32} : pm_ev 49 15 [b0, b1, b2, some (.int x0), b4] st w = pm_ev 49 16 [b0, b1, b2, some (.int x0), b4] (.int x0 :: st) w := pm_ny pt_49 d49_15 rfl rfl rfl
theorem d49_16 : decode cX4_daysCounted 16 = .ok (.invokestatic 76, 3) := by decide +kernel
theorem z49_16 {w : pm_H} {b0 b1 b2 b3 b4 : Option Value} {x0 : Int32} : pm_ev 49 16 [b0, b1, b2, b3, b4] [.int x0] w = pm_k 49 19 [b0, b1, b2, b3, b4] [] (pm_call 47 [.int x0] w) := pm_ns pt_49 pt_47 pt_M_4_76 (Or.inl rfl) d49_16 ⟨rfl, rfl⟩ ⟨⟨rfl, Nat.le_of_ble_eq_true rfl, Nat.le_of_ble_eq_true rfl, Nat.le_of_ble_eq_true rfl, Nat.le_of_ble_eq_true rfl⟩, rfl⟩
theorem d49_19 : decode cX4_daysCounted 19 = .ok (.iload 4, 2) := by decide +kernel
theorem z49_19 {st : List Value} {w : pm_H} {b0 b1 b2 b3 : Option Value} {x0 : Int32} : pm_ev 49 19 [b0, b1, b2, b3, some (.int x0)] st w = pm_ev 49 21 [b0, b1, b2, b3, some (.int x0)] (.int x0 :: st) w := pm_ny pt_49 d49_19 rfl rfl rfl
theorem d49_21 : decode cX4_daysCounted 21 = .ok (.isub, 1) := by decide +kernel
theorem z49_21 {st : List Value} {w : pm_H} {pl : pm_L} {x0 x1 : Int32} : pm_ev 49 21 pl (.int x1 :: .int x0 :: st) w = pm_ev 49 22 pl (.int (x0 - x1) :: st) w := pm_ny pt_49 d49_21 rfl rfl rfl
theorem d49_22 : decode cX4_daysCounted 22 = .ok (.iconst 0, 1) := by decide +kernel
theorem z49_22 {st : List Value} {w : pm_H} {pl : pm_L} : pm_ev 49 22 pl st w = pm_ev 49 23 pl (.int 0 :: st) w := pm_ny pt_49 d49_22 rfl rfl rfl
theorem d49_23 : decode cX4_daysCounted 23 = .ok (.invokestatic 59, 3) := by decide +kernel
theorem z49_23 {w : pm_H} {b0 b1 b2 b3 b4 : Option Value} {x0 : Int32} {x1 : Int32} : pm_ev 49 23 [b0, b1, b2, b3, b4] [.int x0, .int x1] w = pm_k 49 26 [b0, b1, b2, b3, b4] [] (pm_call 166 [.int x1, .int x0] w) := pm_ns pt_49 pt_166 pt_M_4_59 (Or.inl rfl) d49_23 ⟨rfl, rfl⟩ ⟨⟨rfl, Nat.le_of_ble_eq_true rfl, Nat.le_of_ble_eq_true rfl, Nat.le_of_ble_eq_true rfl, Nat.le_of_ble_eq_true rfl⟩, rfl⟩
theorem d49_26 : decode cX4_daysCounted 26 = .ok (.ireturn, 1) := by decide +kernel
theorem z49_26 {w : pm_H} {pl : pm_L} {x0 : Int32} : pm_ev 49 26 pl [.int x0] w = some (some (.int x0), w) := pm_nr pt_49 d49_26 rfl
theorem d50_0 : decode cX4_profitFloor 0 = .ok (.aload_n 0, 1) := by decide +kernel
theorem z50_0 {st : List Value} {w : pm_H} {b1 : Option Value} {x0 : Nat} : pm_ev 50 0 [some (.ref x0), b1] st w = pm_ev 50 1 [some (.ref x0), b1] (.ref x0 :: st) w := pm_ny pt_50 d50_0 rfl rfl rfl
theorem d50_1 : decode cX4_profitFloor 1 = .ok (.getfield 27, 3) := by decide +kernel
theorem z50_1 {st : List Value} {w : pm_H} {pl : pm_L} {x0 : Nat} : pm_ev 50 1 pl (.ref x0 :: st) w = pm_kv 50 4 pl st w (pm_gf (w x0) 4 8) := pm_ng pt_50 pt_F_4_27 d50_1
theorem d50_4 : decode cX4_profitFloor 4 = .ok (.iload_n 1, 1) := by decide +kernel
theorem z50_4 {st : List Value} {w : pm_H} {b0 : Option Value} {x0 : Int32} : pm_ev 50 4 [b0, some (.int x0)] st w = pm_ev 50 5 [b0, some (.int x0)] (.int x0 :: st) w := pm_ny pt_50 d50_4 rfl rfl rfl
theorem d50_5 : decode cX4_profitFloor 5 = .ok (.iaload, 1) := by decide +kernel
theorem z50_5 {st : List Value} {w : pm_H} {pl : pm_L} {x0 : Nat} {x1 : Int32} : pm_ev 50 5 pl (.int x1 :: .ref x0 :: st) w = pm_kv 50 6 pl st w (pm_ia (w x0) 0 x1) := pm_nia pt_50 d50_5
theorem d50_6 : decode cX4_profitFloor 6 = .ok (.iconst 2, 1) := by decide +kernel
theorem z50_6 {st : List Value} {w : pm_H} {pl : pm_L} : pm_ev 50 6 pl st w = pm_ev 50 7 pl (.int 2 :: st) w := pm_ny pt_50 d50_6 rfl rfl rfl
theorem d50_7 : decode cX4_profitFloor 7 = .ok (.if_icmp .ne 13, 3) := by decide +kernel
theorem z50_7 {st : List Value} {w : pm_H} {pl : pm_L} {x0 x1 : Int32} : pm_ev 50 7 pl (.int x1 :: .int x0 :: st) w = if x0 = x1 then pm_ev 50 10 pl st w else pm_ev 50 20 pl st w := pm_nin (c := ¬ x0 = x1) pt_50 d50_7 rfl rfl rfl Iff.rfl
theorem d50_10 : decode cX4_profitFloor 10 = .ok (.aload_n 0, 1) := by decide +kernel
theorem z50_10 {st : List Value} {w : pm_H} {b1 : Option Value} {x0 : Nat} : pm_ev 50 10 [some (.ref x0), b1] st w = pm_ev 50 11 [some (.ref x0), b1] (.ref x0 :: st) w := pm_ny pt_50 d50_10 rfl rfl rfl
theorem d50_11 : decode cX4_profitFloor 11 = .ok (.getfield 36, 3) := by decide +kernel
theorem z50_11 {st : List Value} {w : pm_H} {pl : pm_L} {x0 : Nat} : pm_ev 50 11 pl (.ref x0 :: st) w = pm_kv 50 14 pl st w (pm_gf (w x0) 4 11) := pm_ng pt_50 pt_F_4_36 d50_11
theorem d50_14 : decode cX4_profitFloor 14 = .ok (.iload_n 1, 1) := by decide +kernel
theorem z50_14 {st : List Value} {w : pm_H} {b0 : Option Value} {x0 : Int32} : pm_ev 50 14 [b0, some (.int x0)] st w = pm_ev 50 15 [b0, some (.int x0)] (.int x0 :: st) w := pm_ny pt_50 d50_14 rfl rfl rfl
theorem d50_15 : decode cX4_profitFloor 15 = .ok (.iaload, 1) := by decide +kernel
theorem z50_15 {st : List Value} {w : pm_H} {pl : pm_L} {x0 : Nat} {x1 : Int32} : pm_ev 50 15 pl (.int x1 :: .ref x0 :: st) w = pm_kv 50 16 pl st w (pm_ia (w x0) 0 x1) := pm_nia pt_50 d50_15
theorem d50_16 : decode cX4_profitFloor 16 = .ok (.i2l, 1) := by decide +kernel
theorem z50_16 {st : List Value} {w : pm_H} {pl : pm_L} {x0 : Int32} : pm_ev 50 16 pl (.int x0 :: st) w = pm_ev 50 17 pl (.long x0.toInt64 :: st) w := pm_ny pt_50 d50_16 rfl rfl rfl
theorem d50_17 : decode cX4_profitFloor 17 = .ok (.goto 6, 3) := by decide +kernel
theorem z50_17 {st : List Value} {w : pm_H} {pl : pm_L} : pm_ev 50 17 pl st w = pm_ev 50 23 pl st w := pm_ny pt_50 d50_17 rfl rfl rfl
theorem d50_20 : decode cX4_profitFloor 20 = .ok (.ldc2_w 82, 3) := by decide +kernel
theorem z50_20 {st : List Value} {w : pm_H} {pl : pm_L} : pm_ev 50 20 pl st w = pm_ev 50 23 pl (.long (-1000000000) :: st) w := pm_nk2 pt_50 pt_K_4_82 rfl d50_20
theorem d50_23 : decode cX4_profitFloor 23 = .ok (.lreturn, 1) := by decide +kernel
theorem z50_23 {w : pm_H} {pl : pm_L} {x0 : Int64} : pm_ev 50 23 pl [.long x0] w = some (some (.long x0), w) := pm_nr pt_50 d50_23 rfl
theorem d51_0 : decode cX4_earningsOf 0 = .ok (.lconst 0, 1) := by decide +kernel
theorem z51_0 {st : List Value} {w : pm_H} {pl : pm_L} : pm_ev 51 0 pl st w = pm_ev 51 1 pl (.long 0 :: st) w := pm_ny pt_51 d51_0 rfl rfl rfl
theorem d51_1 : decode cX4_earningsOf 1 = .ok (.lstore_n 3, 1) := by decide +kernel
theorem z51_1 {st : List Value} {w : pm_H} {b0 b1 b3 b4 b5 : Option Value} {x0 : Int64} {x9 : Int32} : pm_ev 51 1 [b0, b1, some (.int x9), b3, b4, b5] (.long x0 :: st) w = pm_ev 51 2 [b0, b1, some (.int x9), some (.long x0), none, b5] st w := pm_ny pt_51 d51_1 rfl rfl rfl
theorem d51_2 : decode cX4_earningsOf 2 = .ok (.iload_n 1, 1) := by decide +kernel
theorem z51_2 {st : List Value} {w : pm_H} {b0 b2 b3 b4 b5 : Option Value} {x0 : Int32} : pm_ev 51 2 [b0, some (.int x0), b2, b3, b4, b5] st w = pm_ev 51 3 [b0, some (.int x0), b2, b3, b4, b5] (.int x0 :: st) w := pm_ny pt_51 d51_2 rfl rfl rfl
theorem d51_3 : decode cX4_earningsOf 3 = .ok (.istore 5, 2) := by decide +kernel
theorem z51_3 {st : List Value} {w : pm_H} {b0 b1 b2 b3 b5 : Option Value} {x0 : Int32} : pm_ev 51 3 [b0, b1, b2, b3, none, b5] (.int x0 :: st) w = pm_ev 51 5 [b0, b1, b2, b3, none, some (.int x0)] st w := pm_ny pt_51 d51_3 rfl rfl rfl
theorem d51_5 : decode cX4_earningsOf 5 = .ok (.iload 5, 2) := by decide +kernel
theorem z51_5 {st : List Value} {w : pm_H} {b0 b1 b2 b3 b4 : Option Value} {x0 : Int32} : pm_ev 51 5 [b0, b1, b2, b3, b4, some (.int x0)] st w = pm_ev 51 7 [b0, b1, b2, b3, b4, some (.int x0)] (.int x0 :: st) w := pm_ny pt_51 d51_5 rfl rfl rfl
theorem d51_7 : decode cX4_earningsOf 7 = .ok (.iload_n 2, 1) := by decide +kernel
theorem z51_7 {st : List Value} {w : pm_H} {b0 b1 b3 b4 b5 : Option Value} {x0 : Int32} : pm_ev 51 7 [b0, b1, some (.int x0), b3, b4, b5] st w = pm_ev 51 8 [b0, b1, some (.int x0), b3, b4, b5] (.int x0 :: st) w := pm_ny pt_51 d51_7 rfl rfl rfl
theorem d51_8 : decode cX4_earningsOf 8 = .ok (.if_icmp .gt 20, 3) := by decide +kernel
theorem z51_8 {st : List Value} {w : pm_H} {pl : pm_L} {x0 x1 : Int32} : pm_ev 51 8 pl (.int x1 :: .int x0 :: st) w = if x1 < x0 then pm_ev 51 28 pl st w else pm_ev 51 11 pl st w := pm_nif pt_51 d51_8 rfl rfl rfl
theorem d51_11 : decode cX4_earningsOf 11 = .ok (.lload_n 3, 1) := by decide +kernel
theorem z51_11 {st : List Value} {w : pm_H} {b0 b1 b2 b4 b5 : Option Value} {x0 : Int64} : pm_ev 51 11 [b0, b1, b2, some (.long x0), b4, b5] st w = pm_ev 51 12 [b0, b1, b2, some (.long x0), b4, b5] (.long x0 :: st) w := pm_ny pt_51 d51_11 rfl rfl rfl
theorem d51_12 : decode cX4_earningsOf 12 = .ok (.aload_n 0, 1) := by decide +kernel
theorem z51_12 {st : List Value} {w : pm_H} {b1 b2 b3 b4 b5 : Option Value} {x0 : Nat} : pm_ev 51 12 [some (.ref x0), b1, b2, b3, b4, b5] st w = pm_ev 51 13 [some (.ref x0), b1, b2, b3, b4, b5] (.ref x0 :: st) w := pm_ny pt_51 d51_12 rfl rfl rfl
theorem d51_13 : decode cX4_earningsOf 13 = .ok (.getfield 9, 3) := by decide +kernel
theorem z51_13 {st : List Value} {w : pm_H} {pl : pm_L} {x0 : Nat} : pm_ev 51 13 pl (.ref x0 :: st) w = pm_kv 51 16 pl st w (pm_gf (w x0) 4 1) := pm_ng pt_51 pt_F_4_9 d51_13
theorem d51_16 : decode cX4_earningsOf 16 = .ok (.iload 5, 2) := by decide +kernel
theorem z51_16 {st : List Value} {w : pm_H} {b0 b1 b2 b3 b4 : Option Value} {x0 : Int32} : pm_ev 51 16 [b0, b1, b2, b3, b4, some (.int x0)] st w = pm_ev 51 18 [b0, b1, b2, b3, b4, some (.int x0)] (.int x0 :: st) w := pm_ny pt_51 d51_16 rfl rfl rfl
theorem d51_18 : decode cX4_earningsOf 18 = .ok (.iaload, 1) := by decide +kernel
theorem z51_18 {st : List Value} {w : pm_H} {pl : pm_L} {x0 : Nat} {x1 : Int32} : pm_ev 51 18 pl (.int x1 :: .ref x0 :: st) w = pm_kv 51 19 pl st w (pm_ia (w x0) 0 x1) := pm_nia pt_51 d51_18
theorem d51_19 : decode cX4_earningsOf 19 = .ok (.i2l, 1) := by decide +kernel
theorem z51_19 {st : List Value} {w : pm_H} {pl : pm_L} {x0 : Int32} : pm_ev 51 19 pl (.int x0 :: st) w = pm_ev 51 20 pl (.long x0.toInt64 :: st) w := pm_ny pt_51 d51_19 rfl rfl rfl
theorem d51_20 : decode cX4_earningsOf 20 = .ok (.ladd, 1) := by decide +kernel
theorem z51_20 {st : List Value} {w : pm_H} {pl : pm_L} {x0 x1 : Int64} : pm_ev 51 20 pl (.long x1 :: .long x0 :: st) w = pm_ev 51 21 pl (.long (x0 + x1) :: st) w := pm_ny pt_51 d51_20 rfl rfl rfl
theorem d51_21 : decode cX4_earningsOf 21 = .ok (.lstore_n 3, 1) := by decide +kernel
theorem z51_21 {st : List Value} {w : pm_H} {b0 b1 b3 b4 b5 : Option Value} {x0 : Int64} {x9 : Int32} : pm_ev 51 21 [b0, b1, some (.int x9), b3, b4, b5] (.long x0 :: st) w = pm_ev 51 22 [b0, b1, some (.int x9), some (.long x0), none, b5] st w := pm_ny pt_51 d51_21 rfl rfl rfl
theorem d51_22 : decode cX4_earningsOf 22 = .ok (.iinc 5 1, 3) := by decide +kernel
theorem z51_22 {st : List Value} {w : pm_H} {b0 b1 b2 b3 : Option Value} {x0 : Int32} : pm_ev 51 22 [b0, b1, b2, b3, none, some (.int x0)] st w = pm_ev 51 25 [b0, b1, b2, b3, none, some (.int (x0 + 1))] st w := pm_ny pt_51 d51_22 rfl rfl rfl
theorem d51_25 : decode cX4_earningsOf 25 = .ok (.goto (-20), 3) := by decide +kernel
theorem z51_25 {st : List Value} {w : pm_H} {pl : pm_L} : pm_ev 51 25 pl st w = pm_ev 51 5 pl st w := pm_ny pt_51 d51_25 rfl rfl rfl
theorem d51_28 : decode cX4_earningsOf 28 = .ok (.lload_n 3, 1) := by decide +kernel
theorem z51_28 {st : List Value} {w : pm_H} {b0 b1 b2 b4 b5 : Option Value} {x0 : Int64} : pm_ev 51 28 [b0, b1, b2, some (.long x0), b4, b5] st w = pm_ev 51 29 [b0, b1, b2, some (.long x0), b4, b5] (.long x0 :: st) w := pm_ny pt_51 d51_28 rfl rfl rfl
theorem d51_29 : decode cX4_earningsOf 29 = .ok (.lreturn, 1) := by decide +kernel
theorem z51_29 {w : pm_H} {pl : pm_L} {x0 : Int64} : pm_ev 51 29 pl [.long x0] w = some (some (.long x0), w) := pm_nr pt_51 d51_29 rfl
theorem d52_0 : decode cX4_addedToWeight 0 = .ok (.aload_n 0, 1) := by decide +kernel
theorem z52_0 {st : List Value} {w : pm_H} {b1 b2 b3 b4 b5 b6 b7 : Option Value} {x0 : Nat} : pm_ev 52 0 [some (.ref x0), b1, b2, b3, b4, b5, b6, b7] st w = pm_ev 52 1 [some (.ref x0), b1, b2, b3, b4, b5, b6, b7] (.ref x0 :: st) w := pm_ny pt_52 d52_0 rfl rfl rfl
theorem d52_1 : decode cX4_addedToWeight 1 = .ok (.getfield 27, 3) := by decide +kernel
theorem z52_1 {st : List Value} {w : pm_H} {pl : pm_L} {x0 : Nat} : pm_ev 52 1 pl (.ref x0 :: st) w = pm_kv 52 4 pl st w (pm_gf (w x0) 4 8) := pm_ng pt_52 pt_F_4_27 d52_1
theorem d52_4 : decode cX4_addedToWeight 4 = .ok (.iload_n 1, 1) := by decide +kernel
theorem z52_4 {st : List Value} {w : pm_H} {b0 b2 b3 b4 b5 b6 b7 : Option Value} {x0 : Int32} : pm_ev 52 4 [b0, some (.int x0), b2, b3, b4, b5, b6, b7] st w = pm_ev 52 5 [b0, some (.int x0), b2, b3, b4, b5, b6, b7] (.int x0 :: st) w := pm_ny pt_52 d52_4 rfl rfl rfl
theorem d52_5 : decode cX4_addedToWeight 5 = .ok (.iaload, 1) := by decide +kernel
theorem z52_5 {st : List Value} {w : pm_H} {pl : pm_L} {x0 : Nat} {x1 : Int32} : pm_ev 52 5 pl (.int x1 :: .ref x0 :: st) w = pm_kv 52 6 pl st w (pm_ia (w x0) 0 x1) := pm_nia pt_52 d52_5
theorem d52_6 : decode cX4_addedToWeight 6 = .ok (.istore 4, 2) := by decide +kernel
theorem z52_6 {st : List Value} {w : pm_H} {b0 b1 b2 b4 b5 b6 b7 : Option Value} {x0 : Int32} {x9 : Int32} : pm_ev 52 6 [b0, b1, b2, some (.int x9), b4, b5, b6, b7] (.int x0 :: st) w = pm_ev 52 8 [b0, b1, b2, some (.int x9), some (.int x0), b5, b6, b7] st w := pm_ny pt_52 d52_6 rfl rfl rfl
theorem d52_8 : decode cX4_addedToWeight 8 = .ok (.iload 4, 2) := by decide +kernel
theorem z52_8 {st : List Value} {w : pm_H} {b0 b1 b2 b3 b5 b6 b7 : Option Value} {x0 : Int32} : pm_ev 52 8 [b0, b1, b2, b3, some (.int x0), b5, b6, b7] st w = pm_ev 52 10 [b0, b1, b2, b3, some (.int x0), b5, b6, b7] (.int x0 :: st) w := pm_ny pt_52 d52_8 rfl rfl rfl
theorem d52_10 : decode cX4_addedToWeight 10 = .ok (.ifCond .ne 36, 3) := by decide +kernel
theorem z52_10 {st : List Value} {w : pm_H} {pl : pm_L} {x0 : Int32} : pm_ev 52 10 pl (.int x0 :: st) w = if x0 = 0 then pm_ev 52 13 pl st w else pm_ev 52 46 pl st w := pm_nin (c := ¬ x0 = 0) pt_52 d52_10 rfl rfl rfl Iff.rfl
theorem d52_13 : decode cX4_addedToWeight 13 = .ok (.lconst 0, 1) := by decide +kernel
theorem z52_13 {st : List Value} {w : pm_H} {pl : pm_L} : pm_ev 52 13 pl st w = pm_ev 52 14 pl (.long 0 :: st) w := pm_ny pt_52 d52_13 rfl rfl rfl
theorem d52_14 : decode cX4_addedToWeight 14 = .ok (.lstore 5, 2) := by decide +kernel
theorem z52_14 {st : List Value} {w : pm_H} {b0 b1 b2 b3 b5 b6 b7 : Option Value} {x0 : Int64} {x9 : Int32} : pm_ev 52 14 [b0, b1, b2, b3, some (.int x9), b5, b6, b7] (.long x0 :: st) w = pm_ev 52 16 [b0, b1, b2, b3, some (.int x9), some (.long x0), none, b7] st w := pm_ny pt_52 d52_14 rfl rfl rfl
theorem d52_16 : decode cX4_addedToWeight 16 = .ok (.iload_n 2, 1) := by decide +kernel
theorem z52_16 {st : List Value} {w : pm_H} {b0 b1 b3 b4 b5 b6 b7 : Option Value} {x0 : Int32} : pm_ev 52 16 [b0, b1, some (.int x0), b3, b4, b5, b6, b7] st w = pm_ev 52 17 [b0, b1, some (.int x0), b3, b4, b5, b6, b7] (.int x0 :: st) w := pm_ny pt_52 d52_16 rfl rfl rfl
theorem d52_17 : decode cX4_addedToWeight 17 = .ok (.istore 7, 2) := by decide +kernel
theorem z52_17 {st : List Value} {w : pm_H} {b0 b1 b2 b3 b4 b5 b7 : Option Value} {x0 : Int32} : pm_ev 52 17 [b0, b1, b2, b3, b4, b5, none, b7] (.int x0 :: st) w = pm_ev 52 19 [b0, b1, b2, b3, b4, b5, none, some (.int x0)] st w := pm_ny pt_52 d52_17 rfl rfl rfl
theorem d52_19 : decode cX4_addedToWeight 19 = .ok (.iload 7, 2) := by decide +kernel
theorem z52_19 {st : List Value} {w : pm_H} {b0 b1 b2 b3 b4 b5 b6 : Option Value} {x0 : Int32} : pm_ev 52 19 [b0, b1, b2, b3, b4, b5, b6, some (.int x0)] st w = pm_ev 52 21 [b0, b1, b2, b3, b4, b5, b6, some (.int x0)] (.int x0 :: st) w := pm_ny pt_52 d52_19 rfl rfl rfl
theorem d52_21 : decode cX4_addedToWeight 21 = .ok (.iload_n 3, 1) := by decide +kernel
theorem z52_21 {st : List Value} {w : pm_H} {b0 b1 b2 b4 b5 b6 b7 : Option Value} {x0 : Int32} : pm_ev 52 21 [b0, b1, b2, some (.int x0), b4, b5, b6, b7] st w = pm_ev 52 22 [b0, b1, b2, some (.int x0), b4, b5, b6, b7] (.int x0 :: st) w := pm_ny pt_52 d52_21 rfl rfl rfl
theorem d52_22 : decode cX4_addedToWeight 22 = .ok (.if_icmp .gt 21, 3) := by decide +kernel
theorem z52_22 {st : List Value} {w : pm_H} {pl : pm_L} {x0 x1 : Int32} : pm_ev 52 22 pl (.int x1 :: .int x0 :: st) w = if x1 < x0 then pm_ev 52 43 pl st w else pm_ev 52 25 pl st w := pm_nif pt_52 d52_22 rfl rfl rfl
theorem d52_25 : decode cX4_addedToWeight 25 = .ok (.lload 5, 2) := by decide +kernel
theorem z52_25 {st : List Value} {w : pm_H} {b0 b1 b2 b3 b4 b6 b7 : Option Value} {x0 : Int64} : pm_ev 52 25 [b0, b1, b2, b3, b4, some (.long x0), b6, b7] st w = pm_ev 52 27 [b0, b1, b2, b3, b4, some (.long x0), b6, b7] (.long x0 :: st) w := pm_ny pt_52 d52_25 rfl rfl rfl
theorem d52_27 : decode cX4_addedToWeight 27 = .ok (.aload_n 0, 1) := by decide +kernel
theorem z52_27 {st : List Value} {w : pm_H} {b1 b2 b3 b4 b5 b6 b7 : Option Value} {x0 : Nat} : pm_ev 52 27 [some (.ref x0), b1, b2, b3, b4, b5, b6, b7] st w = pm_ev 52 28 [some (.ref x0), b1, b2, b3, b4, b5, b6, b7] (.ref x0 :: st) w := pm_ny pt_52 d52_27 rfl rfl rfl
theorem d52_28 : decode cX4_addedToWeight 28 = .ok (.iload_n 1, 1) := by decide +kernel
theorem z52_28 {st : List Value} {w : pm_H} {b0 b2 b3 b4 b5 b6 b7 : Option Value} {x0 : Int32} : pm_ev 52 28 [b0, some (.int x0), b2, b3, b4, b5, b6, b7] st w = pm_ev 52 29 [b0, some (.int x0), b2, b3, b4, b5, b6, b7] (.int x0 :: st) w := pm_ny pt_52 d52_28 rfl rfl rfl
theorem d52_29 : decode cX4_addedToWeight 29 = .ok (.iload 7, 2) := by decide +kernel
theorem z52_29 {st : List Value} {w : pm_H} {b0 b1 b2 b3 b4 b5 b6 : Option Value} {x0 : Int32} : pm_ev 52 29 [b0, b1, b2, b3, b4, b5, b6, some (.int x0)] st w = pm_ev 52 31 [b0, b1, b2, b3, b4, b5, b6, some (.int x0)] (.int x0 :: st) w := pm_ny pt_52 d52_29 rfl rfl rfl
theorem d52_31 : decode cX4_addedToWeight 31 = .ok (.invokevirtual 84, 3) := by decide +kernel
theorem z52_31 {w : pm_H} {b0 b1 b2 b3 b4 b5 b6 b7 : Option Value} {x0 : Int32} {x1 : Int32} {x2 : Nat} {x3 : Int64} : pm_ev 52 31 [b0, b1, b2, b3, b4, b5, b6, b7] [.int x0, .int x1, .ref x2, .long x3] w = pm_k 52 34 [b0, b1, b2, b3, b4, b5, b6, b7] [.long x3] (pm_vc (w x2) 4 (pm_call 53 [.ref x2, .int x1, .int x0] w)) := pm_nv pt_52 pt_53 pt_M_4_84 d52_31 ⟨rfl, rfl⟩ ⟨⟨rfl, Nat.le_of_ble_eq_true rfl, Nat.le_of_ble_eq_true rfl, Nat.le_of_ble_eq_true rfl, Nat.le_of_ble_eq_true rfl⟩, rfl⟩
theorem d52_34 : decode cX4_addedToWeight 34 = .ok (.ladd, 1) := by decide +kernel
theorem z52_34 {st : List Value} {w : pm_H} {pl : pm_L} {x0 x1 : Int64} : pm_ev 52 34 pl (.long x1 :: .long x0 :: st) w = pm_ev 52 35 pl (.long (x0 + x1) :: st) w := pm_ny pt_52 d52_34 rfl rfl rfl
theorem d52_35 : decode cX4_addedToWeight 35 = .ok (.lstore 5, 2) := by decide +kernel
theorem z52_35 {st : List Value} {w : pm_H} {b0 b1 b2 b3 b5 b6 b7 : Option Value} {x0 : Int64} {x9 : Int32} : pm_ev 52 35 [b0, b1, b2, b3, some (.int x9), b5, b6, b7] (.long x0 :: st) w = pm_ev 52 37 [b0, b1, b2, b3, some (.int x9), some (.long x0), none, b7] st w := pm_ny pt_52 d52_35 rfl rfl rfl
theorem d52_37 : decode cX4_addedToWeight 37 = .ok (.iinc 7 1, 3) := by decide +kernel
theorem z52_37 {st : List Value} {w : pm_H} {b0 b1 b2 b3 b4 b5 : Option Value} {x0 : Int32} : pm_ev 52 37 [b0, b1, b2, b3, b4, b5, none, some (.int x0)] st w = pm_ev 52 40 [b0, b1, b2, b3, b4, b5, none, some (.int (x0 + 1))] st w := pm_ny pt_52 d52_37 rfl rfl rfl
theorem d52_40 : decode cX4_addedToWeight 40 = .ok (.goto (-21), 3) := by decide +kernel
theorem z52_40 {st : List Value} {w : pm_H} {pl : pm_L} : pm_ev 52 40 pl st w = pm_ev 52 19 pl st w := pm_ny pt_52 d52_40 rfl rfl rfl
theorem d52_43 : decode cX4_addedToWeight 43 = .ok (.lload 5, 2) := by decide +kernel
theorem z52_43 {st : List Value} {w : pm_H} {b0 b1 b2 b3 b4 b6 b7 : Option Value} {x0 : Int64} : pm_ev 52 43 [b0, b1, b2, b3, b4, some (.long x0), b6, b7] st w = pm_ev 52 45 [b0, b1, b2, b3, b4, some (.long x0), b6, b7] (.long x0 :: st) w := pm_ny pt_52 d52_43 rfl rfl rfl
theorem d52_45 : decode cX4_addedToWeight 45 = .ok (.lreturn, 1) := by decide +kernel
theorem z52_45 {w : pm_H} {pl : pm_L} {x0 : Int64} : pm_ev 52 45 pl [.long x0] w = some (some (.long x0), w) := pm_nr pt_52 d52_45 rfl
theorem d52_46 : decode cX4_addedToWeight 46 = .ok (.iload 4, 2) := by decide +kernel
theorem z52_46 {st : List Value} {w : pm_H} {b0 b1 b2 b3 b5 b6 b7 : Option Value} {x0 : Int32} : pm_ev 52 46 [b0, b1, b2, b3, some (.int x0), b5, b6, b7] st w = pm_ev 52 48 [b0, b1, b2, b3, some (.int x0), b5, b6, b7] (.int x0 :: st) w := pm_ny pt_52 d52_46 rfl rfl rfl
theorem d52_48 : decode cX4_addedToWeight 48 = .ok (.iconst 3, 1) := by decide +kernel
theorem z52_48 {st : List Value} {w : pm_H} {pl : pm_L} : pm_ev 52 48 pl st w = pm_ev 52 49 pl (.int 3 :: st) w := pm_ny pt_52 d52_48 rfl rfl rfl
theorem d52_49 : decode cX4_addedToWeight 49 = .ok (.if_icmp .ne 20, 3) := by decide +kernel
theorem z52_49 {st : List Value} {w : pm_H} {pl : pm_L} {x0 x1 : Int32} : pm_ev 52 49 pl (.int x1 :: .int x0 :: st) w = if x0 = x1 then pm_ev 52 52 pl st w else pm_ev 52 69 pl st w := pm_nin (c := ¬ x0 = x1) pt_52 d52_49 rfl rfl rfl Iff.rfl
theorem d52_52 : decode cX4_addedToWeight 52 = .ok (.aload_n 0, 1) := by decide +kernel
theorem z52_52 {st : List Value} {w : pm_H} {b1 b2 b3 b4 b5 b6 b7 : Option Value} {x0 : Nat} : pm_ev 52 52 [some (.ref x0), b1, b2, b3, b4, b5, b6, b7] st w = pm_ev 52 53 [some (.ref x0), b1, b2, b3, b4, b5, b6, b7] (.ref x0 :: st) w := pm_ny pt_52 d52_52 rfl rfl rfl
theorem d52_53 : decode cX4_addedToWeight 53 = .ok (.iload_n 1, 1) := by decide +kernel
theorem z52_53 {st : List Value} {w : pm_H} {b0 b2 b3 b4 b5 b6 b7 : Option Value} {x0 : Int32} : pm_ev 52 53 [b0, some (.int x0), b2, b3, b4, b5, b6, b7] st w = pm_ev 52 54 [b0, some (.int x0), b2, b3, b4, b5, b6, b7] (.int x0 :: st) w := pm_ny pt_52 d52_53 rfl rfl rfl
theorem d52_54 : decode cX4_addedToWeight 54 = .ok (.iload_n 3, 1) := by decide +kernel
theorem z52_54 {st : List Value} {w : pm_H} {b0 b1 b2 b4 b5 b6 b7 : Option Value} {x0 : Int32} : pm_ev 52 54 [b0, b1, b2, some (.int x0), b4, b5, b6, b7] st w = pm_ev 52 55 [b0, b1, b2, some (.int x0), b4, b5, b6, b7] (.int x0 :: st) w := pm_ny pt_52 d52_54 rfl rfl rfl
theorem d52_55 : decode cX4_addedToWeight 55 = .ok (.invokevirtual 88, 3) := by decide +kernel
theorem z52_55 {w : pm_H} {b0 b1 b2 b3 b4 b5 b6 b7 : Option Value} {x0 : Int32} {x1 : Int32} {x2 : Nat} : pm_ev 52 55 [b0, b1, b2, b3, b4, b5, b6, b7] [.int x0, .int x1, .ref x2] w = pm_k 52 58 [b0, b1, b2, b3, b4, b5, b6, b7] [] (pm_vc (w x2) 4 (pm_call 54 [.ref x2, .int x1, .int x0] w)) := pm_nv pt_52 pt_54 pt_M_4_88 d52_55 ⟨rfl, rfl⟩ ⟨⟨rfl, Nat.le_of_ble_eq_true rfl, Nat.le_of_ble_eq_true rfl, Nat.le_of_ble_eq_true rfl, Nat.le_of_ble_eq_true rfl⟩, rfl⟩
theorem d52_58 : decode cX4_addedToWeight 58 = .ok (.aload_n 0, 1) := by decide +kernel
theorem z52_58 {st : List Value} {w : pm_H} {b1 b2 b3 b4 b5 b6 b7 : Option Value} {x0 : Nat} : pm_ev 52 58 [some (.ref x0), b1, b2, b3, b4, b5, b6, b7] st w = pm_ev 52 59 [some (.ref x0), b1, b2, b3, b4, b5, b6, b7] (.ref x0 :: st) w := pm_ny pt_52 d52_58 rfl rfl rfl
theorem d52_59 : decode cX4_addedToWeight 59 = .ok (.getfield 36, 3) := by decide +kernel
theorem z52_59 {st : List Value} {w : pm_H} {pl : pm_L} {x0 : Nat} : pm_ev 52 59 pl (.ref x0 :: st) w = pm_kv 52 62 pl st w (pm_gf (w x0) 4 11) := pm_ng pt_52 pt_F_4_36 d52_59
theorem d52_62 : decode cX4_addedToWeight 62 = .ok (.iload_n 1, 1) := by decide +kernel
theorem z52_62 {st : List Value} {w : pm_H} {b0 b2 b3 b4 b5 b6 b7 : Option Value} {x0 : Int32} : pm_ev 52 62 [b0, some (.int x0), b2, b3, b4, b5, b6, b7] st w = pm_ev 52 63 [b0, some (.int x0), b2, b3, b4, b5, b6, b7] (.int x0 :: st) w := pm_ny pt_52 d52_62 rfl rfl rfl
theorem d52_63 : decode cX4_addedToWeight 63 = .ok (.iaload, 1) := by decide +kernel
theorem z52_63 {st : List Value} {w : pm_H} {pl : pm_L} {x0 : Nat} {x1 : Int32} : pm_ev 52 63 pl (.int x1 :: .ref x0 :: st) w = pm_kv 52 64 pl st w (pm_ia (w x0) 0 x1) := pm_nia pt_52 d52_63
theorem d52_64 : decode cX4_addedToWeight 64 = .ok (.if_icmp .ge 5, 3) := by decide +kernel
theorem z52_64 {st : List Value} {w : pm_H} {pl : pm_L} {x0 x1 : Int32} : pm_ev 52 64 pl (.int x1 :: .int x0 :: st) w = if x0 < x1 then pm_ev 52 67 pl st w else pm_ev 52 69 pl st w := pm_nin (c := x1 ≤ x0) pt_52 d52_64 rfl rfl rfl pm_ge
theorem d52_67 : decode cX4_addedToWeight 67 = .ok (.lconst 0, 1) := by decide +kernel
theorem z52_67 {st : List Value} {w : pm_H} {pl : pm_L} : pm_ev 52 67 pl st w = pm_ev 52 68 pl (.long 0 :: st) w := pm_ny pt_52 d52_67 rfl rfl rfl
theorem d52_68 : decode cX4_addedToWeight 68 = .ok (.lreturn, 1) := by decide +kernel
theorem z52_68 {w : pm_H} {pl : pm_L} {x0 : Int64} : pm_ev 52 68 pl [.long x0] w = some (some (.long x0), w) := pm_nr pt_52 d52_68 rfl
theorem d52_69 : decode cX4_addedToWeight 69 = .ok (.aload_n 0, 1) := by decide +kernel
theorem z52_69 {st : List Value} {w : pm_H} {b1 b2 b3 b4 b5 b6 b7 : Option Value} {x0 : Nat} : pm_ev 52 69 [some (.ref x0), b1, b2, b3, b4, b5, b6, b7] st w = pm_ev 52 70 [some (.ref x0), b1, b2, b3, b4, b5, b6, b7] (.ref x0 :: st) w := pm_ny pt_52 d52_69 rfl rfl rfl
theorem d52_70 : decode cX4_addedToWeight 70 = .ok (.iload_n 1, 1) := by decide +kernel
theorem z52_70 {st : List Value} {w : pm_H} {b0 b2 b3 b4 b5 b6 b7 : Option Value} {x0 : Int32} : pm_ev 52 70 [b0, some (.int x0), b2, b3, b4, b5, b6, b7] st w = pm_ev 52 71 [b0, some (.int x0), b2, b3, b4, b5, b6, b7] (.int x0 :: st) w := pm_ny pt_52 d52_70 rfl rfl rfl
theorem d52_71 : decode cX4_addedToWeight 71 = .ok (.invokevirtual 91, 3) := by decide +kernel
theorem z52_71 {w : pm_H} {b0 b1 b2 b3 b4 b5 b6 b7 : Option Value} {x0 : Int32} {x1 : Nat} : pm_ev 52 71 [b0, b1, b2, b3, b4, b5, b6, b7] [.int x0, .ref x1] w = pm_k 52 74 [b0, b1, b2, b3, b4, b5, b6, b7] [] (pm_vc (w x1) 4 (pm_call 43 [.ref x1, .int x0] w)) := pm_nv pt_52 pt_43 pt_M_4_91 d52_71 ⟨rfl, rfl⟩ ⟨⟨rfl, Nat.le_of_ble_eq_true rfl, Nat.le_of_ble_eq_true rfl, Nat.le_of_ble_eq_true rfl, Nat.le_of_ble_eq_true rfl⟩, rfl⟩
theorem d52_74 : decode cX4_addedToWeight 74 = .ok (.i2l, 1) := by decide +kernel
theorem z52_74 {st : List Value} {w : pm_H} {pl : pm_L} {x0 : Int32} : pm_ev 52 74 pl (.int x0 :: st) w = pm_ev 52 75 pl (.long x0.toInt64 :: st) w := pm_ny pt_52 d52_74 rfl rfl rfl
theorem d52_75 : decode cX4_addedToWeight 75 = .ok (.aload_n 0, 1) := by decide +kernel
theorem z52_75 {st : List Value} {w : pm_H} {b1 b2 b3 b4 b5 b6 b7 : Option Value} {x0 : Nat} : pm_ev 52 75 [some (.ref x0), b1, b2, b3, b4, b5, b6, b7] st w = pm_ev 52 76 [some (.ref x0), b1, b2, b3, b4, b5, b6, b7] (.ref x0 :: st) w := pm_ny pt_52 d52_75 rfl rfl rfl
theorem d52_76 : decode cX4_addedToWeight 76 = .ok (.iload_n 1, 1) := by decide +kernel
theorem z52_76 {st : List Value} {w : pm_H} {b0 b2 b3 b4 b5 b6 b7 : Option Value} {x0 : Int32} : pm_ev 52 76 [b0, some (.int x0), b2, b3, b4, b5, b6, b7] st w = pm_ev 52 77 [b0, some (.int x0), b2, b3, b4, b5, b6, b7] (.int x0 :: st) w := pm_ny pt_52 d52_76 rfl rfl rfl
theorem d52_77 : decode cX4_addedToWeight 77 = .ok (.iload_n 2, 1) := by decide +kernel
theorem z52_77 {st : List Value} {w : pm_H} {b0 b1 b3 b4 b5 b6 b7 : Option Value} {x0 : Int32} : pm_ev 52 77 [b0, b1, some (.int x0), b3, b4, b5, b6, b7] st w = pm_ev 52 78 [b0, b1, some (.int x0), b3, b4, b5, b6, b7] (.int x0 :: st) w := pm_ny pt_52 d52_77 rfl rfl rfl
theorem d52_78 : decode cX4_addedToWeight 78 = .ok (.iload_n 3, 1) := by decide +kernel
theorem z52_78 {st : List Value} {w : pm_H} {b0 b1 b2 b4 b5 b6 b7 : Option Value} {x0 : Int32} : pm_ev 52 78 [b0, b1, b2, some (.int x0), b4, b5, b6, b7] st w = pm_ev 52 79 [b0, b1, b2, some (.int x0), b4, b5, b6, b7] (.int x0 :: st) w := pm_ny pt_52 d52_78 rfl rfl rfl
theorem d52_79 : decode cX4_addedToWeight 79 = .ok (.invokevirtual 94, 3) := by decide +kernel
theorem z52_79 {w : pm_H} {b0 b1 b2 b3 b4 b5 b6 b7 : Option Value} {x0 : Int32} {x1 : Int32} {x2 : Int32} {x3 : Nat} {x4 : Int64} : pm_ev 52 79 [b0, b1, b2, b3, b4, b5, b6, b7] [.int x0, .int x1, .int x2, .ref x3, .long x4] w = pm_k 52 82 [b0, b1, b2, b3, b4, b5, b6, b7] [.long x4] (pm_vc (w x3) 4 (pm_call 49 [.ref x3, .int x2, .int x1, .int x0] w)) := pm_nv pt_52 pt_49 pt_M_4_94 d52_79 ⟨rfl, rfl⟩ ⟨⟨rfl, Nat.le_of_ble_eq_true rfl, Nat.le_of_ble_eq_true rfl, Nat.le_of_ble_eq_true rfl, Nat.le_of_ble_eq_true rfl⟩, rfl⟩
theorem d52_82 : decode cX4_addedToWeight 82 = .ok (.i2l, 1) := by decide +kernel
theorem z52_82 {st : List Value} {w : pm_H} {pl : pm_L} {x0 : Int32} : pm_ev 52 82 pl (.int x0 :: st) w = pm_ev 52 83 pl (.long x0.toInt64 :: st) w := pm_ny pt_52 d52_82 rfl rfl rfl
theorem d52_83 : decode cX4_addedToWeight 83 = .ok (.lmul, 1) := by decide +kernel
theorem z52_83 {st : List Value} {w : pm_H} {pl : pm_L} {x0 x1 : Int64} : pm_ev 52 83 pl (.long x1 :: .long x0 :: st) w = pm_ev 52 84 pl (.long (x0 * x1) :: st) w := pm_ny pt_52 d52_83 rfl rfl rfl
theorem d52_84 : decode cX4_addedToWeight 84 = .ok (.lreturn, 1) := by decide +kernel
theorem z52_84 {w : pm_H} {pl : pm_L} {x0 : Int64} : pm_ev 52 84 pl [.long x0] w = some (some (.long x0), w) := pm_nr pt_52 d52_84 rfl
theorem d53_0 : decode cX4_addedByOption 0 = .ok (.aload_n 0, 1) := by decide +kernel
theorem z53_0 {st : List Value} {w : pm_H} {b1 b2 b3 b4 b5 b6 : Option Value} {x0 : Nat} : pm_ev 53 0 [some (.ref x0), b1, b2, b3, b4, b5, b6] st w = pm_ev 53 1 [some (.ref x0), b1, b2, b3, b4, b5, b6] (.ref x0 :: st) w := pm_ny pt_53 d53_0 rfl rfl rfl
theorem d53_1 : decode cX4_addedByOption 1 = .ok (.iload_n 1, 1) := by decide +kernel
theorem z53_1 {st : List Value} {w : pm_H} {b0 b2 b3 b4 b5 b6 : Option Value} {x0 : Int32} : pm_ev 53 1 [b0, some (.int x0), b2, b3, b4, b5, b6] st w = pm_ev 53 2 [b0, some (.int x0), b2, b3, b4, b5, b6] (.int x0 :: st) w := pm_ny pt_53 d53_1 rfl rfl rfl
theorem d53_2 : decode cX4_addedByOption 2 = .ok (.iload_n 2, 1) := by decide +kernel
theorem z53_2 {st : List Value} {w : pm_H} {b0 b1 b3 b4 b5 b6 : Option Value} {x0 : Int32} : pm_ev 53 2 [b0, b1, some (.int x0), b3, b4, b5, b6] st w = pm_ev 53 3 [b0, b1, some (.int x0), b3, b4, b5, b6] (.int x0 :: st) w := pm_ny pt_53 d53_2 rfl rfl rfl
theorem d53_3 : decode cX4_addedByOption 3 = .ok (.invokevirtual 88, 3) := by decide +kernel
theorem z53_3 {w : pm_H} {b0 b1 b2 b3 b4 b5 b6 : Option Value} {x0 : Int32} {x1 : Int32} {x2 : Nat} : pm_ev 53 3 [b0, b1, b2, b3, b4, b5, b6] [.int x0, .int x1, .ref x2] w = pm_k 53 6 [b0, b1, b2, b3, b4, b5, b6] [] (pm_vc (w x2) 4 (pm_call 54 [.ref x2, .int x1, .int x0] w)) := pm_nv pt_53 pt_54 pt_M_4_88 d53_3 ⟨rfl, rfl⟩ ⟨⟨rfl, Nat.le_of_ble_eq_true rfl, Nat.le_of_ble_eq_true rfl, Nat.le_of_ble_eq_true rfl, Nat.le_of_ble_eq_true rfl⟩, rfl⟩
theorem d53_6 : decode cX4_addedByOption 6 = .ok (.i2l, 1) := by decide +kernel
theorem z53_6 {st : List Value} {w : pm_H} {pl : pm_L} {x0 : Int32} : pm_ev 53 6 pl (.int x0 :: st) w = pm_ev 53 7 pl (.long x0.toInt64 :: st) w := pm_ny pt_53 d53_6 rfl rfl rfl
theorem d53_7 : decode cX4_addedByOption 7 = .ok (.lstore_n 3, 1) := by decide +kernel
theorem z53_7 {st : List Value} {w : pm_H} {b0 b1 b3 b4 b5 b6 : Option Value} {x0 : Int64} {x9 : Int32} : pm_ev 53 7 [b0, b1, some (.int x9), b3, b4, b5, b6] (.long x0 :: st) w = pm_ev 53 8 [b0, b1, some (.int x9), some (.long x0), none, b5, b6] st w := pm_ny pt_53 d53_7 rfl rfl rfl
theorem d53_8 : decode cX4_addedByOption 8 = .ok (.lload_n 3, 1) := by decide +kernel
theorem z53_8 {st : List Value} {w : pm_H} {b0 b1 b2 b4 b5 b6 : Option Value} {x0 : Int64} : pm_ev 53 8 [b0, b1, b2, some (.long x0), b4, b5, b6] st w = pm_ev 53 9 [b0, b1, b2, some (.long x0), b4, b5, b6] (.long x0 :: st) w := pm_ny pt_53 d53_8 rfl rfl rfl
theorem d53_9 : decode cX4_addedByOption 9 = .ok (.aload_n 0, 1) := by decide +kernel
theorem z53_9 {st : List Value} {w : pm_H} {b1 b2 b3 b4 b5 b6 : Option Value} {x0 : Nat} : pm_ev 53 9 [some (.ref x0), b1, b2, b3, b4, b5, b6] st w = pm_ev 53 10 [some (.ref x0), b1, b2, b3, b4, b5, b6] (.ref x0 :: st) w := pm_ny pt_53 d53_9 rfl rfl rfl
theorem d53_10 : decode cX4_addedByOption 10 = .ok (.getfield 36, 3) := by decide +kernel
theorem z53_10 {st : List Value} {w : pm_H} {pl : pm_L} {x0 : Nat} : pm_ev 53 10 pl (.ref x0 :: st) w = pm_kv 53 13 pl st w (pm_gf (w x0) 4 11) := pm_ng pt_53 pt_F_4_36 d53_10
theorem d53_13 : decode cX4_addedByOption 13 = .ok (.iload_n 1, 1) := by decide +kernel
theorem z53_13 {st : List Value} {w : pm_H} {b0 b2 b3 b4 b5 b6 : Option Value} {x0 : Int32} : pm_ev 53 13 [b0, some (.int x0), b2, b3, b4, b5, b6] st w = pm_ev 53 14 [b0, some (.int x0), b2, b3, b4, b5, b6] (.int x0 :: st) w := pm_ny pt_53 d53_13 rfl rfl rfl
theorem d53_14 : decode cX4_addedByOption 14 = .ok (.iaload, 1) := by decide +kernel
theorem z53_14 {st : List Value} {w : pm_H} {pl : pm_L} {x0 : Nat} {x1 : Int32} : pm_ev 53 14 pl (.int x1 :: .ref x0 :: st) w = pm_kv 53 15 pl st w (pm_ia (w x0) 0 x1) := pm_nia pt_53 d53_14
theorem d53_15 : decode cX4_addedByOption 15 = .ok (.i2l, 1) := by decide +kernel
theorem z53_15 {st : List Value} {w : pm_H} {pl : pm_L} {x0 : Int32} : pm_ev 53 15 pl (.int x0 :: st) w = pm_ev 53 16 pl (.long x0.toInt64 :: st) w := pm_ny pt_53 d53_15 rfl rfl rfl
theorem d53_16 : decode cX4_addedByOption 16 = .ok (.lsub, 1) := by decide +kernel
theorem z53_16 {st : List Value} {w : pm_H} {pl : pm_L} {x0 x1 : Int64} : pm_ev 53 16 pl (.long x1 :: .long x0 :: st) w = pm_ev 53 17 pl (.long (x0 - x1) :: st) w := pm_ny pt_53 d53_16 rfl rfl rfl
theorem d53_17 : decode cX4_addedByOption 17 = .ok (.lstore 5, 2) := by decide +kernel
theorem z53_17 {st : List Value} {w : pm_H} {b0 b1 b2 b3 b5 b6 : Option Value} {x0 : Int64} : pm_ev 53 17 [b0, b1, b2, b3, none, b5, b6] (.long x0 :: st) w = pm_ev 53 19 [b0, b1, b2, b3, none, some (.long x0), none] st w := pm_ny pt_53 d53_17 rfl rfl rfl
theorem d53_19 : decode cX4_addedByOption 19 = .ok (.lload 5, 2) := by decide +kernel
theorem z53_19 {st : List Value} {w : pm_H} {b0 b1 b2 b3 b4 b6 : Option Value} {x0 : Int64} : pm_ev 53 19 [b0, b1, b2, b3, b4, some (.long x0), b6] st w = pm_ev 53 21 [b0, b1, b2, b3, b4, some (.long x0), b6] (.long x0 :: st) w := pm_ny pt_53 d53_19 rfl rfl rfl
theorem d53_21 : decode cX4_addedByOption 21 = .ok (.lconst 0, 1) := by decide +kernel
theorem z53_21 {st : List Value} {w : pm_H} {pl : pm_L} : pm_ev 53 21 pl st w = pm_ev 53 22 pl (.long 0 :: st) w := pm_ny pt_53 d53_21 rfl rfl rfl
theorem d53_22 : decode cX4_addedByOption 22 = .ok (.lcmp, 1) := by decide +kernel
theorem z53_22 {st : List Value} {w : pm_H} {pl : pm_L} {x0 x1 : Int64} : pm_ev 53 22 pl (.long x1 :: .long x0 :: st) w = pm_ev 53 23 pl (.int (lg_cmp x0 x1) :: st) w := pm_ny pt_53 d53_22 rfl rfl rfl
theorem d53_23 : decode cX4_addedByOption 23 = .ok (.ifCond .le 9, 3) := by decide +kernel
theorem z53_23 {st : List Value} {w : pm_H} {pl : pm_L} {x0 : Int32} : pm_ev 53 23 pl (.int x0 :: st) w = if 0 < x0 then pm_ev 53 26 pl st w else pm_ev 53 32 pl st w := pm_nin (c := x0 ≤ 0) pt_53 d53_23 rfl rfl rfl pm_ge
theorem d53_26 : decode cX4_addedByOption 26 = .ok (.lload_n 3, 1) := by decide +kernel
theorem z53_26 {st : List Value} {w : pm_H} {b0 b1 b2 b4 b5 b6 : Option Value} {x0 : Int64} : pm_ev 53 26 [b0, b1, b2, some (.long x0), b4, b5, b6] st w = pm_ev 53 27 [b0, b1, b2, some (.long x0), b4, b5, b6] (.long x0 :: st) w := pm_ny pt_53 d53_26 rfl rfl rfl
theorem d53_27 : decode cX4_addedByOption 27 = .ok (.lconst 0, 1) := by decide +kernel
theorem z53_27 {st : List Value} {w : pm_H} {pl : pm_L} : pm_ev 53 27 pl st w = pm_ev 53 28 pl (.long 0 :: st) w := pm_ny pt_53 d53_27 rfl rfl rfl
theorem d53_28 : decode cX4_addedByOption 28 = .ok (.lcmp, 1) := by decide +kernel
theorem z53_28 {st : List Value} {w : pm_H} {pl : pm_L} {x0 x1 : Int64} : pm_ev 53 28 pl (.long x1 :: .long x0 :: st) w = pm_ev 53 29 pl (.int (lg_cmp x0 x1) :: st) w := pm_ny pt_53 d53_28 rfl rfl rfl
theorem d53_29 : decode cX4_addedByOption 29 = .ok (.ifCond .gt 5, 3) := by decide +kernel
theorem z53_29 {st : List Value} {w : pm_H} {pl : pm_L} {x0 : Int32} : pm_ev 53 29 pl (.int x0 :: st) w = if 0 < x0 then pm_ev 53 34 pl st w else pm_ev 53 32 pl st w := pm_nif pt_53 d53_29 rfl rfl rfl
theorem d53_32 : decode cX4_addedByOption 32 = .ok (.lconst 0, 1) := by decide +kernel
theorem z53_32 {st : List Value} {w : pm_H} {pl : pm_L} : pm_ev 53 32 pl st w = pm_ev 53 33 pl (.long 0 :: st) w := pm_ny pt_53 d53_32 rfl rfl rfl
theorem d53_33 : decode cX4_addedByOption 33 = .ok (.lreturn, 1) := by decide +kernel
theorem z53_33 {w : pm_H} {pl : pm_L} {x0 : Int64} : pm_ev 53 33 pl [.long x0] w = some (some (.long x0), w) := pm_nr pt_53 d53_33 rfl
theorem d53_34 : decode cX4_addedByOption 34 = .ok (.aload_n 0, 1) := by decide +kernel
theorem z53_34 {st : List Value} {w : pm_H} {b1 b2 b3 b4 b5 b6 : Option Value} {x0 : Nat} : pm_ev 53 34 [some (.ref x0), b1, b2, b3, b4, b5, b6] st w = pm_ev 53 35 [some (.ref x0), b1, b2, b3, b4, b5, b6] (.ref x0 :: st) w := pm_ny pt_53 d53_34 rfl rfl rfl
theorem d53_35 : decode cX4_addedByOption 35 = .ok (.iload_n 1, 1) := by decide +kernel
theorem z53_35 {st : List Value} {w : pm_H} {b0 b2 b3 b4 b5 b6 : Option Value} {x0 : Int32} : pm_ev 53 35 [b0, some (.int x0), b2, b3, b4, b5, b6] st w = pm_ev 53 36 [b0, some (.int x0), b2, b3, b4, b5, b6] (.int x0 :: st) w := pm_ny pt_53 d53_35 rfl rfl rfl
theorem d53_36 : decode cX4_addedByOption 36 = .ok (.invokevirtual 91, 3) := by decide +kernel
theorem z53_36 {w : pm_H} {b0 b1 b2 b3 b4 b5 b6 : Option Value} {x0 : Int32} {x1 : Nat} : pm_ev 53 36 [b0, b1, b2, b3, b4, b5, b6] [.int x0, .ref x1] w = pm_k 53 39 [b0, b1, b2, b3, b4, b5, b6] [] (pm_vc (w x1) 4 (pm_call 43 [.ref x1, .int x0] w)) := pm_nv pt_53 pt_43 pt_M_4_91 d53_36 ⟨rfl, rfl⟩ ⟨⟨rfl, Nat.le_of_ble_eq_true rfl, Nat.le_of_ble_eq_true rfl, Nat.le_of_ble_eq_true rfl, Nat.le_of_ble_eq_true rfl⟩, rfl⟩
theorem d53_39 : decode cX4_addedByOption 39 = .ok (.i2l, 1) := by decide +kernel
theorem z53_39 {st : List Value} {w : pm_H} {pl : pm_L} {x0 : Int32} : pm_ev 53 39 pl (.int x0 :: st) w = pm_ev 53 40 pl (.long x0.toInt64 :: st) w := pm_ny pt_53 d53_39 rfl rfl rfl
theorem d53_40 : decode cX4_addedByOption 40 = .ok (.aload_n 0, 1) := by decide +kernel
theorem z53_40 {st : List Value} {w : pm_H} {b1 b2 b3 b4 b5 b6 : Option Value} {x0 : Nat} : pm_ev 53 40 [some (.ref x0), b1, b2, b3, b4, b5, b6] st w = pm_ev 53 41 [some (.ref x0), b1, b2, b3, b4, b5, b6] (.ref x0 :: st) w := pm_ny pt_53 d53_40 rfl rfl rfl
theorem d53_41 : decode cX4_addedByOption 41 = .ok (.iload_n 1, 1) := by decide +kernel
theorem z53_41 {st : List Value} {w : pm_H} {b0 b2 b3 b4 b5 b6 : Option Value} {x0 : Int32} : pm_ev 53 41 [b0, some (.int x0), b2, b3, b4, b5, b6] st w = pm_ev 53 42 [b0, some (.int x0), b2, b3, b4, b5, b6] (.int x0 :: st) w := pm_ny pt_53 d53_41 rfl rfl rfl
theorem d53_42 : decode cX4_addedByOption 42 = .ok (.iload_n 2, 1) := by decide +kernel
theorem z53_42 {st : List Value} {w : pm_H} {b0 b1 b3 b4 b5 b6 : Option Value} {x0 : Int32} : pm_ev 53 42 [b0, b1, some (.int x0), b3, b4, b5, b6] st w = pm_ev 53 43 [b0, b1, some (.int x0), b3, b4, b5, b6] (.int x0 :: st) w := pm_ny pt_53 d53_42 rfl rfl rfl
theorem d53_43 : decode cX4_addedByOption 43 = .ok (.iload_n 2, 1) := by decide +kernel
theorem z53_43 {st : List Value} {w : pm_H} {b0 b1 b3 b4 b5 b6 : Option Value} {x0 : Int32} : pm_ev 53 43 [b0, b1, some (.int x0), b3, b4, b5, b6] st w = pm_ev 53 44 [b0, b1, some (.int x0), b3, b4, b5, b6] (.int x0 :: st) w := pm_ny pt_53 d53_43 rfl rfl rfl
theorem d53_44 : decode cX4_addedByOption 44 = .ok (.invokevirtual 94, 3) := by decide +kernel
theorem z53_44 {w : pm_H} {b0 b1 b2 b3 b4 b5 b6 : Option Value} {x0 : Int32} {x1 : Int32} {x2 : Int32} {x3 : Nat} {x4 : Int64} : pm_ev 53 44 [b0, b1, b2, b3, b4, b5, b6] [.int x0, .int x1, .int x2, .ref x3, .long x4] w = pm_k 53 47 [b0, b1, b2, b3, b4, b5, b6] [.long x4] (pm_vc (w x3) 4 (pm_call 49 [.ref x3, .int x2, .int x1, .int x0] w)) := pm_nv pt_53 pt_49 pt_M_4_94 d53_44 ⟨rfl, rfl⟩ ⟨⟨rfl, Nat.le_of_ble_eq_true rfl, Nat.le_of_ble_eq_true rfl, Nat.le_of_ble_eq_true rfl, Nat.le_of_ble_eq_true rfl⟩, rfl⟩
theorem d53_47 : decode cX4_addedByOption 47 = .ok (.i2l, 1) := by decide +kernel
theorem z53_47 {st : List Value} {w : pm_H} {pl : pm_L} {x0 : Int32} : pm_ev 53 47 pl (.int x0 :: st) w = pm_ev 53 48 pl (.long x0.toInt64 :: st) w := pm_ny pt_53 d53_47 rfl rfl rfl
theorem d53_48 : decode cX4_addedByOption 48 = .ok (.lmul, 1) := by decide +kernel
theorem z53_48 {st : List Value} {w : pm_H} {pl : pm_L} {x0 x1 : Int64} : pm_ev 53 48 pl (.long x1 :: .long x0 :: st) w = pm_ev 53 49 pl (.long (x0 * x1) :: st) w := pm_ny pt_53 d53_48 rfl rfl rfl
theorem d53_49 : decode cX4_addedByOption 49 = .ok (.lload 5, 2) := by decide +kernel
theorem z53_49 {st : List Value} {w : pm_H} {b0 b1 b2 b3 b4 b6 : Option Value} {x0 : Int64} : pm_ev 53 49 [b0, b1, b2, b3, b4, some (.long x0), b6] st w = pm_ev 53 51 [b0, b1, b2, b3, b4, some (.long x0), b6] (.long x0 :: st) w := pm_ny pt_53 d53_49 rfl rfl rfl
theorem d53_51 : decode cX4_addedByOption 51 = .ok (.lmul, 1) := by decide +kernel
theorem z53_51 {st : List Value} {w : pm_H} {pl : pm_L} {x0 x1 : Int64} : pm_ev 53 51 pl (.long x1 :: .long x0 :: st) w = pm_ev 53 52 pl (.long (x0 * x1) :: st) w := pm_ny pt_53 d53_51 rfl rfl rfl
theorem d53_52 : decode cX4_addedByOption 52 = .ok (.lload_n 3, 1) := by decide +kernel
theorem z53_52 {st : List Value} {w : pm_H} {b0 b1 b2 b4 b5 b6 : Option Value} {x0 : Int64} : pm_ev 53 52 [b0, b1, b2, some (.long x0), b4, b5, b6] st w = pm_ev 53 53 [b0, b1, b2, some (.long x0), b4, b5, b6] (.long x0 :: st) w := pm_ny pt_53 d53_52 rfl rfl rfl
theorem d53_53 : decode cX4_addedByOption 53 = .ok (.ldiv, 1) := by decide +kernel
theorem z53_53 {st : List Value} {w : pm_H} {pl : pm_L} {x0 x1 : Int64} : pm_ev 53 53 pl (.long x1 :: .long x0 :: st) w = pm_kv 53 54 pl st w (pm_dv x0 x1) := pm_nd pt_53 d53_53
theorem d53_54 : decode cX4_addedByOption 54 = .ok (.lreturn, 1) := by decide +kernel
theorem z53_54 {w : pm_H} {pl : pm_L} {x0 : Int64} : pm_ev 53 54 pl [.long x0] w = some (some (.long x0), w) := pm_nr pt_53 d53_54 rfl
theorem d54_0 : decode cX4_scaledPrice 0 = .ok (.aload_n 0, 1) := by decide +kernel
theorem z54_0 {st : List Value} {w : pm_H} {b1 b2 : Option Value} {x0 : Nat} : pm_ev 54 0 [some (.ref x0), b1, b2] st w = pm_ev 54 1 [some (.ref x0), b1, b2] (.ref x0 :: st) w := pm_ny pt_54 d54_0 rfl rfl rfl
theorem d54_1 : decode cX4_scaledPrice 1 = .ok (.getfield 15, 3) := by decide +kernel
theorem z54_1 {st : List Value} {w : pm_H} {pl : pm_L} {x0 : Nat} : pm_ev 54 1 pl (.ref x0 :: st) w = pm_kv 54 4 pl st w (pm_gf (w x0) 4 2) := pm_ng pt_54 pt_F_4_15 d54_1
theorem d54_4 : decode cX4_scaledPrice 4 = .ok (.iload_n 2, 1) := by decide +kernel
theorem z54_4 {st : List Value} {w : pm_H} {b0 b1 : Option Value} {x0 : Int32} : pm_ev 54 4 [b0, b1, some (.int x0)] st w = pm_ev 54 5 [b0, b1, some (.int x0)] (.int x0 :: st) w := pm_ny pt_54 d54_4 rfl rfl rfl
theorem d54_5 : decode cX4_scaledPrice 5 = .ok (.iaload, 1) := by decide +kernel
theorem z54_5 {st : List Value} {w : pm_H} {pl : pm_L} {x0 : Nat} {x1 : Int32} : pm_ev 54 5 pl (.int x1 :: .ref x0 :: st) w = pm_kv 54 6 pl st w (pm_ia (w x0) 0 x1) := pm_nia pt_54 d54_5
theorem d54_6 : decode cX4_scaledPrice 6 = .ok (.aload_n 0, 1) := by decide +kernel
theorem z54_6 {st : List Value} {w : pm_H} {b1 b2 : Option Value} {x0 : Nat} : pm_ev 54 6 [some (.ref x0), b1, b2] st w = pm_ev 54 7 [some (.ref x0), b1, b2] (.ref x0 :: st) w := pm_ny pt_54 d54_6 rfl rfl rfl
theorem d54_7 : decode cX4_scaledPrice 7 = .ok (.aload_n 0, 1) := by decide +kernel
theorem z54_7 {st : List Value} {w : pm_H} {b1 b2 : Option Value} {x0 : Nat} : pm_ev 54 7 [some (.ref x0), b1, b2] st w = pm_ev 54 8 [some (.ref x0), b1, b2] (.ref x0 :: st) w := pm_ny pt_54 d54_7 rfl rfl rfl
theorem d54_8 : decode cX4_scaledPrice 8 = .ok (.getfield 30, 3) := by decide +kernel
theorem z54_8 {st : List Value} {w : pm_H} {pl : pm_L} {x0 : Nat} : pm_ev 54 8 pl (.ref x0 :: st) w = pm_kv 54 11 pl st w (pm_gf (w x0) 4 9) := pm_ng pt_54 pt_F_4_30 d54_8
theorem d54_11 : decode cX4_scaledPrice 11 = .ok (.iload_n 1, 1) := by decide +kernel
theorem z54_11 {st : List Value} {w : pm_H} {b0 b2 : Option Value} {x0 : Int32} : pm_ev 54 11 [b0, some (.int x0), b2] st w = pm_ev 54 12 [b0, some (.int x0), b2] (.int x0 :: st) w := pm_ny pt_54 d54_11 rfl rfl rfl
theorem d54_12 : decode cX4_scaledPrice 12 = .ok (.iaload, 1) := by decide +kernel
theorem z54_12 {st : List Value} {w : pm_H} {pl : pm_L} {x0 : Nat} {x1 : Int32} : pm_ev 54 12 pl (.int x1 :: .ref x0 :: st) w = pm_kv 54 13 pl st w (pm_ia (w x0) 0 x1) := pm_nia pt_54 d54_12
theorem d54_13 : decode cX4_scaledPrice 13 = .ok (.iload_n 2, 1) := by decide +kernel
theorem z54_13 {st : List Value} {w : pm_H} {b0 b1 : Option Value} {x0 : Int32} : pm_ev 54 13 [b0, b1, some (.int x0)] st w = pm_ev 54 14 [b0, b1, some (.int x0)] (.int x0 :: st) w := pm_ny pt_54 d54_13 rfl rfl rfl
theorem d54_14 : decode cX4_scaledPrice 14 = .ok (.invokestatic 76, 3) := by decide +kernel
theorem z54_14 {w : pm_H} {b0 b1 b2 : Option Value} {x0 : Int32} {x1 : Int32} {x2 : Nat} {x3 : Int32} : pm_ev 54 14 [b0, b1, b2] [.int x0, .int x1, .ref x2, .int x3] w = pm_k 54 17 [b0, b1, b2] [.int x1, .ref x2, .int x3] (pm_call 47 [.int x0] w) := pm_ns pt_54 pt_47 pt_M_4_76 (Or.inl rfl) d54_14 ⟨rfl, rfl⟩ ⟨⟨rfl, Nat.le_of_ble_eq_true rfl, Nat.le_of_ble_eq_true rfl, Nat.le_of_ble_eq_true rfl, Nat.le_of_ble_eq_true rfl⟩, rfl⟩
theorem d54_17 : decode cX4_scaledPrice 17 = .ok (.iconst 1, 1) := by decide +kernel
theorem z54_17 {st : List Value} {w : pm_H} {pl : pm_L} : pm_ev 54 17 pl st w = pm_ev 54 18 pl (.int 1 :: st) w := pm_ny pt_54 d54_17 rfl rfl rfl
theorem d54_18 : decode cX4_scaledPrice 18 = .ok (.isub, 1) := by decide +kernel
theorem z54_18 {st : List Value} {w : pm_H} {pl : pm_L} {x0 x1 : Int32} : pm_ev 54 18 pl (.int x1 :: .int x0 :: st) w = pm_ev 54 19 pl (.int (x0 - x1) :: st) w := pm_ny pt_54 d54_18 rfl rfl rfl
theorem d54_19 : decode cX4_scaledPrice 19 = .ok (.invokevirtual 73, 3) := by decide +kernel
theorem z54_19 {w : pm_H} {b0 b1 b2 : Option Value} {x0 : Int32} {x1 : Int32} {x2 : Nat} {x3 : Int32} : pm_ev 54 19 [b0, b1, b2] [.int x0, .int x1, .ref x2, .int x3] w = pm_k 54 22 [b0, b1, b2] [.int x3] (pm_vc (w x2) 4 (pm_call 41 [.ref x2, .int x1, .int x0] w)) := pm_nv pt_54 pt_41 pt_M_4_73 d54_19 ⟨rfl, rfl⟩ ⟨⟨rfl, Nat.le_of_ble_eq_true rfl, Nat.le_of_ble_eq_true rfl, Nat.le_of_ble_eq_true rfl, Nat.le_of_ble_eq_true rfl⟩, rfl⟩
theorem d54_22 : decode cX4_scaledPrice 22 = .ok (.imul, 1) := by decide +kernel
theorem z54_22 {st : List Value} {w : pm_H} {pl : pm_L} {x0 x1 : Int32} : pm_ev 54 22 pl (.int x1 :: .int x0 :: st) w = pm_ev 54 23 pl (.int (x0 * x1) :: st) w := pm_ny pt_54 d54_22 rfl rfl rfl
theorem d54_23 : decode cX4_scaledPrice 23 = .ok (.ireturn, 1) := by decide +kernel
theorem z54_23 {w : pm_H} {pl : pm_L} {x0 : Int32} : pm_ev 54 23 pl [.int x0] w = some (some (.int x0), w) := pm_nr pt_54 d54_23 rfl
