theorem d12_0 : decode cX2_read 0 = .ok (.aload_n 1, 1) := by decide +kernel
theorem z12_0 {st : List Value} {w : pm_H} {b0 b2 b3 : Option Value} {x0 : Nat} : pm_ev 12 0 [b0, some (.ref x0), b2, b3] st w = pm_ev 12 1 [b0, some (.ref x0), b2, b3] (.ref x0 :: st) w := pm_ny pt_12 d12_0 rfl rfl rfl
theorem d12_1 : decode cX2_read 1 = .ok (.invokevirtual 15, 3) := by decide +kernel
theorem z12_1 {w : pm_H} {b0 b1 b2 b3 : Option Value} {x0 : Nat} : pm_ev 12 1 [b0, b1, b2, b3] [.ref x0] w = pm_k 12 4 [b0, b1, b2, b3] [] (pm_vc (w x0) 4 (pm_call 29 [.ref x0] w)) := pm_nv pt_12 pt_29 pt_M_2_15 d12_1 ⟨rfl, rfl⟩ ⟨⟨rfl, Nat.le_of_ble_eq_true rfl, Nat.le_of_ble_eq_true rfl, Nat.le_of_ble_eq_true rfl, Nat.le_of_ble_eq_true rfl⟩, rfl⟩
theorem d12_4 : decode cX2_read 4 = .ok (.aload_n 0, 1) := by decide +kernel
theorem z12_4 {st : List Value} {w : pm_H} {b1 b2 b3 : Option Value} {x0 : Nat} : pm_ev 12 4 [some (.ref x0), b1, b2, b3] st w = pm_ev 12 5 [some (.ref x0), b1, b2, b3] (.ref x0 :: st) w := pm_ny pt_12 d12_4 rfl rfl rfl
theorem d12_5 : decode cX2_read 5 = .ok (.iconst 0, 1) := by decide +kernel
theorem z12_5 {st : List Value} {w : pm_H} {pl : pm_L} : pm_ev 12 5 pl st w = pm_ev 12 6 pl (.int 0 :: st) w := pm_ny pt_12 d12_5 rfl rfl rfl
theorem d12_6 : decode cX2_read 6 = .ok (.putfield 20, 3) := by decide +kernel
theorem z12_6 {st : List Value} {w : pm_H} {pl : pm_L} {x0 : Nat} {x1 : Int32} : pm_ev 12 6 pl (.int x1 :: .ref x0 :: st) w = pm_kw 12 9 pl st (pm_pf w x0 (w x0) 2 1 0 (.int x1)) := pm_np pt_12 pt_F_2_20 d12_6
theorem d12_9 : decode cX2_read 9 = .ok (.aload_n 0, 1) := by decide +kernel
theorem z12_9 {st : List Value} {w : pm_H} {b1 b2 b3 : Option Value} {x0 : Nat} : pm_ev 12 9 [some (.ref x0), b1, b2, b3] st w = pm_ev 12 10 [some (.ref x0), b1, b2, b3] (.ref x0 :: st) w := pm_ny pt_12 d12_9 rfl rfl rfl
theorem d12_10 : decode cX2_read 10 = .ok (.iconst 0, 1) := by decide +kernel
theorem z12_10 {st : List Value} {w : pm_H} {pl : pm_L} : pm_ev 12 10 pl st w = pm_ev 12 11 pl (.int 0 :: st) w := pm_ny pt_12 d12_10 rfl rfl rfl
theorem d12_11 : decode cX2_read 11 = .ok (.putfield 24, 3) := by decide +kernel
theorem z12_11 {st : List Value} {w : pm_H} {pl : pm_L} {x0 : Nat} {x1 : Int32} : pm_ev 12 11 pl (.int x1 :: .ref x0 :: st) w = pm_kw 12 14 pl st (pm_pf w x0 (w x0) 2 2 0 (.int x1)) := pm_np pt_12 pt_F_2_24 d12_11
theorem d12_14 : decode cX2_read 14 = .ok (.aload_n 0, 1) := by decide +kernel
theorem z12_14 {st : List Value} {w : pm_H} {b1 b2 b3 : Option Value} {x0 : Nat} : pm_ev 12 14 [some (.ref x0), b1, b2, b3] st w = pm_ev 12 15 [some (.ref x0), b1, b2, b3] (.ref x0 :: st) w := pm_ny pt_12 d12_14 rfl rfl rfl
theorem d12_15 : decode cX2_read 15 = .ok (.iconst 0, 1) := by decide +kernel
theorem z12_15 {st : List Value} {w : pm_H} {pl : pm_L} : pm_ev 12 15 pl st w = pm_ev 12 16 pl (.int 0 :: st) w := pm_ny pt_12 d12_15 rfl rfl rfl
theorem d12_16 : decode cX2_read 16 = .ok (.putfield 27, 3) := by decide +kernel
theorem z12_16 {st : List Value} {w : pm_H} {pl : pm_L} {x0 : Nat} {x1 : Int32} : pm_ev 12 16 pl (.int x1 :: .ref x0 :: st) w = pm_kw 12 19 pl st (pm_pf w x0 (w x0) 2 4 0 (.int x1)) := pm_np pt_12 pt_F_2_27 d12_16
theorem d12_19 : decode cX2_read 19 = .ok (.aload_n 0, 1) := by decide +kernel
theorem z12_19 {st : List Value} {w : pm_H} {b1 b2 b3 : Option Value} {x0 : Nat} : pm_ev 12 19 [some (.ref x0), b1, b2, b3] st w = pm_ev 12 20 [some (.ref x0), b1, b2, b3] (.ref x0 :: st) w := pm_ny pt_12 d12_19 rfl rfl rfl
theorem d12_20 : decode cX2_read 20 = .ok (.invokevirtual 30, 3) := by decide +kernel
theorem z12_20 {w : pm_H} {b0 b1 b2 b3 : Option Value} {x0 : Nat} : pm_ev 12 20 [b0, b1, b2, b3] [.ref x0] w = pm_k 12 23 [b0, b1, b2, b3] [] (pm_vc (w x0) 2 (pm_call 13 [.ref x0] w)) := pm_nv pt_12 pt_13 pt_M_2_30 d12_20 ⟨rfl, rfl⟩ ⟨⟨rfl, Nat.le_of_ble_eq_true rfl, Nat.le_of_ble_eq_true rfl, Nat.le_of_ble_eq_true rfl, Nat.le_of_ble_eq_true rfl⟩, rfl⟩
theorem d12_23 : decode cX2_read 23 = .ok (.aload_n 0, 1) := by decide +kernel
theorem z12_23 {st : List Value} {w : pm_H} {b1 b2 b3 : Option Value} {x0 : Nat} : pm_ev 12 23 [some (.ref x0), b1, b2, b3] st w = pm_ev 12 24 [some (.ref x0), b1, b2, b3] (.ref x0 :: st) w := pm_ny pt_12 d12_23 rfl rfl rfl
theorem d12_24 : decode cX2_read 24 = .ok (.getfield 33, 3) := by decide +kernel
theorem z12_24 {st : List Value} {w : pm_H} {pl : pm_L} {x0 : Nat} : pm_ev 12 24 pl (.ref x0 :: st) w = pm_kv 12 27 pl st w (pm_gf (w x0) 2 5) := pm_ng pt_12 pt_F_2_33 d12_24
theorem d12_27 : decode cX2_read 27 = .ok (.ifCond .ne 9, 3) := by decide +kernel
theorem z12_27 {st : List Value} {w : pm_H} {pl : pm_L} {x0 : Int32} : pm_ev 12 27 pl (.int x0 :: st) w = if x0 = 0 then pm_ev 12 30 pl st w else pm_ev 12 36 pl st w := pm_nin (c := ¬ x0 = 0) pt_12 d12_27 rfl rfl rfl Iff.rfl
theorem d12_30 : decode cX2_read 30 = .ok (.aload_n 0, 1) := by decide +kernel
theorem z12_30 {st : List Value} {w : pm_H} {b1 b2 b3 : Option Value} {x0 : Nat} : pm_ev 12 30 [some (.ref x0), b1, b2, b3] st w = pm_ev 12 31 [some (.ref x0), b1, b2, b3] (.ref x0 :: st) w := pm_ny pt_12 d12_30 rfl rfl rfl
theorem d12_31 : decode cX2_read 31 = .ok (.iconst 0, 1) := by decide +kernel
theorem z12_31 {st : List Value} {w : pm_H} {pl : pm_L} : pm_ev 12 31 pl st w = pm_ev 12 32 pl (.int 0 :: st) w := pm_ny pt_12 d12_31 rfl rfl rfl
theorem d12_32 : decode cX2_read 32 = .ok (.invokevirtual 36, 3) := by decide +kernel
theorem z12_32 {w : pm_H} {b0 b1 b2 b3 : Option Value} {x0 : Int32} {x1 : Nat} : pm_ev 12 32 [b0, b1, b2, b3] [.int x0, .ref x1] w = pm_k 12 35 [b0, b1, b2, b3] [] (pm_vc (w x1) 2 (pm_call 15 [.ref x1, .int x0] w)) := pm_nv pt_12 pt_15 pt_M_2_36 d12_32 ⟨rfl, rfl⟩ ⟨⟨rfl, Nat.le_of_ble_eq_true rfl, Nat.le_of_ble_eq_true rfl, Nat.le_of_ble_eq_true rfl, Nat.le_of_ble_eq_true rfl⟩, rfl⟩
theorem d12_35 : decode cX2_read 35 = .ok (.ireturn, 1) := by decide +kernel
theorem z12_35 {w : pm_H} {pl : pm_L} {x0 : Int32} : pm_ev 12 35 pl [.int x0] w = some (some (.int x0), w) := pm_nr pt_12 d12_35 rfl
theorem d12_36 : decode cX2_read 36 = .ok (.aload_n 0, 1) := by decide +kernel
theorem z12_36 {st : List Value} {w : pm_H} {b1 b2 b3 : Option Value} {x0 : Nat} : pm_ev 12 36 [some (.ref x0), b1, b2, b3] st w = pm_ev 12 37 [some (.ref x0), b1, b2, b3] (.ref x0 :: st) w := pm_ny pt_12 d12_36 rfl rfl rfl
theorem d12_37 : decode cX2_read 37 = .ok (.aload_n 1, 1) := by decide +kernel
theorem z12_37 {st : List Value} {w : pm_H} {b0 b2 b3 : Option Value} {x0 : Nat} : pm_ev 12 37 [b0, some (.ref x0), b2, b3] st w = pm_ev 12 38 [b0, some (.ref x0), b2, b3] (.ref x0 :: st) w := pm_ny pt_12 d12_37 rfl rfl rfl
theorem d12_38 : decode cX2_read 38 = .ok (.invokevirtual 40, 3) := by decide +kernel
theorem z12_38 {w : pm_H} {b0 b1 b2 b3 : Option Value} {x0 : Nat} {x1 : Nat} : pm_ev 12 38 [b0, b1, b2, b3] [.ref x0, .ref x1] w = pm_k 12 41 [b0, b1, b2, b3] [] (pm_vc (w x1) 2 (pm_call 17 [.ref x1, .ref x0] w)) := pm_nv pt_12 pt_17 pt_M_2_40 d12_38 ⟨rfl, rfl⟩ ⟨⟨rfl, Nat.le_of_ble_eq_true rfl, Nat.le_of_ble_eq_true rfl, Nat.le_of_ble_eq_true rfl, Nat.le_of_ble_eq_true rfl⟩, rfl⟩
theorem d12_41 : decode cX2_read 41 = .ok (.istore_n 2, 1) := by decide +kernel
theorem z12_41 {st : List Value} {w : pm_H} {b0 b2 b3 : Option Value} {x0 : Int32} {x9 : Nat} : pm_ev 12 41 [b0, some (.ref x9), b2, b3] (.int x0 :: st) w = pm_ev 12 42 [b0, some (.ref x9), some (.int x0), b3] st w := pm_ny pt_12 d12_41 rfl rfl rfl
theorem d12_42 : decode cX2_read 42 = .ok (.iconst 0, 1) := by decide +kernel
theorem z12_42 {st : List Value} {w : pm_H} {pl : pm_L} : pm_ev 12 42 pl st w = pm_ev 12 43 pl (.int 0 :: st) w := pm_ny pt_12 d12_42 rfl rfl rfl
theorem d12_43 : decode cX2_read 43 = .ok (.istore_n 3, 1) := by decide +kernel
theorem z12_43 {st : List Value} {w : pm_H} {b0 b1 b3 : Option Value} {x0 : Int32} {x9 : Int32} : pm_ev 12 43 [b0, b1, some (.int x9), b3] (.int x0 :: st) w = pm_ev 12 44 [b0, b1, some (.int x9), some (.int x0)] st w := pm_ny pt_12 d12_43 rfl rfl rfl
theorem d12_44 : decode cX2_read 44 = .ok (.iload_n 3, 1) := by decide +kernel
theorem z12_44 {st : List Value} {w : pm_H} {b0 b1 b2 : Option Value} {x0 : Int32} : pm_ev 12 44 [b0, b1, b2, some (.int x0)] st w = pm_ev 12 45 [b0, b1, b2, some (.int x0)] (.int x0 :: st) w := pm_ny pt_12 d12_44 rfl rfl rfl
theorem d12_45 : decode cX2_read 45 = .ok (.iconst 4, 1) := by decide +kernel
theorem z12_45 {st : List Value} {w : pm_H} {pl : pm_L} : pm_ev 12 45 pl st w = pm_ev 12 46 pl (.int 4 :: st) w := pm_ny pt_12 d12_45 rfl rfl rfl
theorem d12_46 : decode cX2_read 46 = .ok (.if_icmp .ge 20, 3) := by decide +kernel
theorem z12_46 {st : List Value} {w : pm_H} {pl : pm_L} {x0 x1 : Int32} : pm_ev 12 46 pl (.int x1 :: .int x0 :: st) w = if x0 < x1 then pm_ev 12 49 pl st w else pm_ev 12 66 pl st w := pm_nin (c := x1 ≤ x0) pt_12 d12_46 rfl rfl rfl pm_ge
theorem d12_49 : decode cX2_read 49 = .ok (.iload_n 2, 1) := by decide +kernel
theorem z12_49 {st : List Value} {w : pm_H} {b0 b1 b3 : Option Value} {x0 : Int32} : pm_ev 12 49 [b0, b1, some (.int x0), b3] st w = pm_ev 12 50 [b0, b1, some (.int x0), b3] (.int x0 :: st) w := pm_ny pt_12 d12_49 rfl rfl rfl
theorem d12_50 : decode cX2_read 50 = .ok (.ifCond .eq 16, 3) := by decide +kernel
theorem z12_50 {st : List Value} {w : pm_H} {pl : pm_L} {x0 : Int32} : pm_ev 12 50 pl (.int x0 :: st) w = if x0 = 0 then pm_ev 12 66 pl st w else pm_ev 12 53 pl st w := pm_nif pt_12 d12_50 rfl rfl rfl
theorem d12_53 : decode cX2_read 53 = .ok (.aload_n 0, 1) := by decide +kernel
theorem z12_53 {st : List Value} {w : pm_H} {b1 b2 b3 : Option Value} {x0 : Nat} : pm_ev 12 53 [some (.ref x0), b1, b2, b3] st w = pm_ev 12 54 [some (.ref x0), b1, b2, b3] (.ref x0 :: st) w := pm_ny pt_12 d12_53 rfl rfl rfl
theorem d12_54 : decode cX2_read 54 = .ok (.aload_n 1, 1) := by decide +kernel
theorem z12_54 {st : List Value} {w : pm_H} {b0 b2 b3 : Option Value} {x0 : Nat} : pm_ev 12 54 [b0, some (.ref x0), b2, b3] st w = pm_ev 12 55 [b0, some (.ref x0), b2, b3] (.ref x0 :: st) w := pm_ny pt_12 d12_54 rfl rfl rfl
theorem d12_55 : decode cX2_read 55 = .ok (.iload_n 3, 1) := by decide +kernel
theorem z12_55 {st : List Value} {w : pm_H} {b0 b1 b2 : Option Value} {x0 : Int32} : pm_ev 12 55 [b0, b1, b2, some (.int x0)] st w = pm_ev 12 56 [b0, b1, b2, some (.int x0)] (.int x0 :: st) w := pm_ny pt_12 d12_55 rfl rfl rfl
theorem d12_56 : decode cX2_read 56 = .ok (.invokevirtual 44, 3) := by decide +kernel
theorem z12_56 {w : pm_H} {b0 b1 b2 b3 : Option Value} {x0 : Int32} {x1 : Nat} {x2 : Nat} : pm_ev 12 56 [b0, b1, b2, b3] [.int x0, .ref x1, .ref x2] w = pm_k 12 59 [b0, b1, b2, b3] [] (pm_vc (w x2) 2 (pm_call 21 [.ref x2, .ref x1, .int x0] w)) := pm_nv pt_12 pt_21 pt_M_2_44 d12_56 ⟨rfl, rfl⟩ ⟨⟨rfl, Nat.le_of_ble_eq_true rfl, Nat.le_of_ble_eq_true rfl, Nat.le_of_ble_eq_true rfl, Nat.le_of_ble_eq_true rfl⟩, rfl⟩
theorem d12_59 : decode cX2_read 59 = .ok (.istore_n 2, 1) := by decide +kernel
theorem z12_59 {st : List Value} {w : pm_H} {b0 b2 b3 : Option Value} {x0 : Int32} {x9 : Nat} : pm_ev 12 59 [b0, some (.ref x9), b2, b3] (.int x0 :: st) w = pm_ev 12 60 [b0, some (.ref x9), some (.int x0), b3] st w := pm_ny pt_12 d12_59 rfl rfl rfl
theorem d12_60 : decode cX2_read 60 = .ok (.iinc 3 1, 3) := by decide +kernel
theorem z12_60 {st : List Value} {w : pm_H} {b0 b1 : Option Value} {x0 : Int32} {x9 : Int32} : pm_ev 12 60 [b0, b1, some (.int x9), some (.int x0)] st w = pm_ev 12 63 [b0, b1, some (.int x9), some (.int (x0 + 1))] st w := pm_ny pt_12 d12_60 rfl rfl rfl
theorem d12_63 : decode cX2_read 63 = .ok (.goto (-19), 3) := by decide +kernel
theorem z12_63 {st : List Value} {w : pm_H} {pl : pm_L} : pm_ev 12 63 pl st w = pm_ev 12 44 pl st w := pm_ny pt_12 d12_63 rfl rfl rfl
theorem d12_66 : decode cX2_read 66 = .ok (.iload_n 2, 1) := by decide +kernel
theorem z12_66 {st : List Value} {w : pm_H} {b0 b1 b3 : Option Value} {x0 : Int32} : pm_ev 12 66 [b0, b1, some (.int x0), b3] st w = pm_ev 12 67 [b0, b1, some (.int x0), b3] (.int x0 :: st) w := pm_ny pt_12 d12_66 rfl rfl rfl
theorem d12_67 : decode cX2_read 67 = .ok (.ifCond .eq 11, 3) := by decide +kernel
theorem z12_67 {st : List Value} {w : pm_H} {pl : pm_L} {x0 : Int32} : pm_ev 12 67 pl (.int x0 :: st) w = if x0 = 0 then pm_ev 12 78 pl st w else pm_ev 12 70 pl st w := pm_nif pt_12 d12_67 rfl rfl rfl
theorem d12_70 : decode cX2_read 70 = .ok (.aload_n 0, 1) := by decide +kernel
theorem z12_70 {st : List Value} {w : pm_H} {b1 b2 b3 : Option Value} {x0 : Nat} : pm_ev 12 70 [some (.ref x0), b1, b2, b3] st w = pm_ev 12 71 [some (.ref x0), b1, b2, b3] (.ref x0 :: st) w := pm_ny pt_12 d12_70 rfl rfl rfl
theorem d12_71 : decode cX2_read 71 = .ok (.aload_n 1, 1) := by decide +kernel
theorem z12_71 {st : List Value} {w : pm_H} {b0 b2 b3 : Option Value} {x0 : Nat} : pm_ev 12 71 [b0, some (.ref x0), b2, b3] st w = pm_ev 12 72 [b0, some (.ref x0), b2, b3] (.ref x0 :: st) w := pm_ny pt_12 d12_71 rfl rfl rfl
theorem d12_72 : decode cX2_read 72 = .ok (.invokevirtual 48, 3) := by decide +kernel
theorem z12_72 {w : pm_H} {b0 b1 b2 b3 : Option Value} {x0 : Nat} {x1 : Nat} : pm_ev 12 72 [b0, b1, b2, b3] [.ref x0, .ref x1] w = pm_k 12 75 [b0, b1, b2, b3] [] (pm_vc (w x1) 2 (pm_call 23 [.ref x1, .ref x0] w)) := pm_nv pt_12 pt_23 pt_M_2_48 d12_72 ⟨rfl, rfl⟩ ⟨⟨rfl, Nat.le_of_ble_eq_true rfl, Nat.le_of_ble_eq_true rfl, Nat.le_of_ble_eq_true rfl, Nat.le_of_ble_eq_true rfl⟩, rfl⟩
theorem d12_75 : decode cX2_read 75 = .ok (.goto 4, 3) := by decide +kernel
theorem z12_75 {st : List Value} {w : pm_H} {pl : pm_L} : pm_ev 12 75 pl st w = pm_ev 12 79 pl st w := pm_ny pt_12 d12_75 rfl rfl rfl
theorem d12_78 : decode cX2_read 78 = .ok (.iconst 0, 1) := by decide +kernel
theorem z12_78 {st : List Value} {w : pm_H} {pl : pm_L} : pm_ev 12 78 pl st w = pm_ev 12 79 pl (.int 0 :: st) w := pm_ny pt_12 d12_78 rfl rfl rfl
theorem d12_79 : decode cX2_read 79 = .ok (.ireturn, 1) := by decide +kernel
theorem z12_79 {w : pm_H} {pl : pm_L} {x0 : Int32} : pm_ev 12 79 pl [.int x0] w = some (some (.int x0), w) := pm_nr pt_12 d12_79 rfl
theorem d13_0 : decode cX2_step 0 = .ok (.aload_n 0, 1) := by decide +kernel
theorem z13_0 {st : List Value} {w : pm_H} {b1 : Option Value} {x0 : Nat} : pm_ev 13 0 [some (.ref x0), b1] st w = pm_ev 13 1 [some (.ref x0), b1] (.ref x0 :: st) w := pm_ny pt_13 d13_0 rfl rfl rfl
theorem d13_1 : decode cX2_step 1 = .ok (.getfield 9, 3) := by decide +kernel
theorem z13_1 {st : List Value} {w : pm_H} {pl : pm_L} {x0 : Nat} : pm_ev 13 1 pl (.ref x0 :: st) w = pm_kv 13 4 pl st w (pm_gf (w x0) 2 0) := pm_ng pt_13 pt_F_2_9 d13_1
theorem d13_4 : decode cX2_step 4 = .ok (.getfield 55, 3) := by decide +kernel
theorem z13_4 {st : List Value} {w : pm_H} {pl : pm_L} {x0 : Nat} : pm_ev 13 4 pl (.ref x0 :: st) w = pm_kv 13 7 pl st w (pm_gf (w x0) 3 1) := pm_ng pt_13 pt_F_2_55 d13_4
theorem d13_7 : decode cX2_step 7 = .ok (.sipush 700, 3) := by decide +kernel
theorem z13_7 {st : List Value} {w : pm_H} {pl : pm_L} : pm_ev 13 7 pl st w = pm_ev 13 10 pl (.int 700 :: st) w := pm_ny pt_13 d13_7 rfl rfl rfl
theorem d13_10 : decode cX2_step 10 = .ok (.invokestatic 166, 3) := by decide +kernel
theorem z13_10 {w : pm_H} {b0 b1 : Option Value} {x0 : Int32} {x1 : Int32} : pm_ev 13 10 [b0, b1] [.int x0, .int x1] w = pm_k 13 13 [b0, b1] [] (pm_call 165 [.int x1, .int x0] w) := pm_ns pt_13 pt_165 pt_M_2_166 (Or.inl rfl) d13_10 ⟨rfl, rfl⟩ ⟨⟨rfl, Nat.le_of_ble_eq_true rfl, Nat.le_of_ble_eq_true rfl, Nat.le_of_ble_eq_true rfl, Nat.le_of_ble_eq_true rfl⟩, rfl⟩
theorem d13_13 : decode cX2_step 13 = .ok (.istore_n 1, 1) := by decide +kernel
theorem z13_13 {st : List Value} {w : pm_H} {b1 : Option Value} {x0 : Int32} {x9 : Nat} : pm_ev 13 13 [some (.ref x9), b1] (.int x0 :: st) w = pm_ev 13 14 [some (.ref x9), some (.int x0)] st w := pm_ny pt_13 d13_13 rfl rfl rfl
theorem d13_14 : decode cX2_step 14 = .ok (.aload_n 0, 1) := by decide +kernel
theorem z13_14 {st : List Value} {w : pm_H} {b1 : Option Value} {x0 : Nat} : pm_ev 13 14 [some (.ref x0), b1] st w = pm_ev 13 15 [some (.ref x0), b1] (.ref x0 :: st) w := pm_ny pt_13 d13_14 rfl rfl rfl
theorem d13_15 : decode cX2_step 15 = .ok (.getfield 27, 3) := by decide +kernel
theorem z13_15 {st : List Value} {w : pm_H} {pl : pm_L} {x0 : Nat} : pm_ev 13 15 pl (.ref x0 :: st) w = pm_kv 13 18 pl st w (pm_gf (w x0) 2 4) := pm_ng pt_13 pt_F_2_27 d13_15
theorem d13_18 : decode cX2_step 18 = .ok (.iload_n 1, 1) := by decide +kernel
theorem z13_18 {st : List Value} {w : pm_H} {b0 : Option Value} {x0 : Int32} : pm_ev 13 18 [b0, some (.int x0)] st w = pm_ev 13 19 [b0, some (.int x0)] (.int x0 :: st) w := pm_ny pt_13 d13_18 rfl rfl rfl
theorem d13_19 : decode cX2_step 19 = .ok (.if_icmp .ge 50, 3) := by decide +kernel
theorem z13_19 {st : List Value} {w : pm_H} {pl : pm_L} {x0 x1 : Int32} : pm_ev 13 19 pl (.int x1 :: .int x0 :: st) w = if x0 < x1 then pm_ev 13 22 pl st w else pm_ev 13 69 pl st w := pm_nin (c := x1 ≤ x0) pt_13 d13_19 rfl rfl rfl pm_ge
theorem d13_22 : decode cX2_step 22 = .ok (.aload_n 0, 1) := by decide +kernel
theorem z13_22 {st : List Value} {w : pm_H} {b1 : Option Value} {x0 : Nat} : pm_ev 13 22 [some (.ref x0), b1] st w = pm_ev 13 23 [some (.ref x0), b1] (.ref x0 :: st) w := pm_ny pt_13 d13_22 rfl rfl rfl
theorem d13_23 : decode cX2_step 23 = .ok (.getfield 9, 3) := by decide +kernel
theorem z13_23 {st : List Value} {w : pm_H} {pl : pm_L} {x0 : Nat} : pm_ev 13 23 pl (.ref x0 :: st) w = pm_kv 13 26 pl st w (pm_gf (w x0) 2 0) := pm_ng pt_13 pt_F_2_9 d13_23
theorem d13_26 : decode cX2_step 26 = .ok (.getfield 158, 3) := by decide +kernel
theorem z13_26 {st : List Value} {w : pm_H} {pl : pm_L} {x0 : Nat} : pm_ev 13 26 pl (.ref x0 :: st) w = pm_kv 13 29 pl st w (pm_gf (w x0) 3 0) := pm_ng pt_13 pt_F_2_158 d13_26
theorem d13_29 : decode cX2_step 29 = .ok (.aload_n 0, 1) := by decide +kernel
theorem z13_29 {st : List Value} {w : pm_H} {b1 : Option Value} {x0 : Nat} : pm_ev 13 29 [some (.ref x0), b1] st w = pm_ev 13 30 [some (.ref x0), b1] (.ref x0 :: st) w := pm_ny pt_13 d13_29 rfl rfl rfl
theorem d13_30 : decode cX2_step 30 = .ok (.getfield 27, 3) := by decide +kernel
theorem z13_30 {st : List Value} {w : pm_H} {pl : pm_L} {x0 : Nat} : pm_ev 13 30 pl (.ref x0 :: st) w = pm_kv 13 33 pl st w (pm_gf (w x0) 2 4) := pm_ng pt_13 pt_F_2_27 d13_30
theorem d13_33 : decode cX2_step 33 = .ok (.baload, 1) := by decide +kernel
theorem z13_33 {st : List Value} {w : pm_H} {pl : pm_L} {x0 : Nat} {x1 : Int32} : pm_ev 13 33 pl (.int x1 :: .ref x0 :: st) w = pm_kv 13 34 pl st w (pm_ia (w x0) 2 x1) := pm_nba pt_13 d13_33
theorem d13_34 : decode cX2_step 34 = .ok (.bipush 32, 2) := by decide +kernel
theorem z13_34 {st : List Value} {w : pm_H} {pl : pm_L} : pm_ev 13 34 pl st w = pm_ev 13 36 pl (.int 32 :: st) w := pm_ny pt_13 d13_34 rfl rfl rfl
theorem d13_36 : decode cX2_step 36 = .ok (.if_icmp .eq 20, 3) := by decide +kernel
theorem z13_36 {st : List Value} {w : pm_H} {pl : pm_L} {x0 x1 : Int32} : pm_ev 13 36 pl (.int x1 :: .int x0 :: st) w = if x0 = x1 then pm_ev 13 56 pl st w else pm_ev 13 39 pl st w := pm_nif pt_13 d13_36 rfl rfl rfl
theorem d13_39 : decode cX2_step 39 = .ok (.aload_n 0, 1) := by decide +kernel
theorem z13_39 {st : List Value} {w : pm_H} {b1 : Option Value} {x0 : Nat} : pm_ev 13 39 [some (.ref x0), b1] st w = pm_ev 13 40 [some (.ref x0), b1] (.ref x0 :: st) w := pm_ny pt_13 d13_39 rfl rfl rfl
theorem d13_40 : decode cX2_step 40 = .ok (.getfield 9, 3) := by decide +kernel
theorem z13_40 {st : List Value} {w : pm_H} {pl : pm_L} {x0 : Nat} : pm_ev 13 40 pl (.ref x0 :: st) w = pm_kv 13 43 pl st w (pm_gf (w x0) 2 0) := pm_ng pt_13 pt_F_2_9 d13_40
theorem d13_43 : decode cX2_step 43 = .ok (.getfield 158, 3) := by decide +kernel
theorem z13_43 {st : List Value} {w : pm_H} {pl : pm_L} {x0 : Nat} : pm_ev 13 43 pl (.ref x0 :: st) w = pm_kv 13 46 pl st w (pm_gf (w x0) 3 0) := pm_ng pt_13 pt_F_2_158 d13_43
theorem d13_46 : decode cX2_step 46 = .ok (.aload_n 0, 1) := by decide +kernel
theorem z13_46 {st : List Value} {w : pm_H} {b1 : Option Value} {x0 : Nat} : pm_ev 13 46 [some (.ref x0), b1] st w = pm_ev 13 47 [some (.ref x0), b1] (.ref x0 :: st) w := pm_ny pt_13 d13_46 rfl rfl rfl
theorem d13_47 : decode cX2_step 47 = .ok (.getfield 27, 3) := by decide +kernel
theorem z13_47 {st : List Value} {w : pm_H} {pl : pm_L} {x0 : Nat} : pm_ev 13 47 pl (.ref x0 :: st) w = pm_kv 13 50 pl st w (pm_gf (w x0) 2 4) := pm_ng pt_13 pt_F_2_27 d13_47
theorem d13_50 : decode cX2_step 50 = .ok (.baload, 1) := by decide +kernel
theorem z13_50 {st : List Value} {w : pm_H} {pl : pm_L} {x0 : Nat} {x1 : Int32} : pm_ev 13 50 pl (.int x1 :: .ref x0 :: st) w = pm_kv 13 51 pl st w (pm_ia (w x0) 2 x1) := pm_nba pt_13 d13_50
theorem d13_51 : decode cX2_step 51 = .ok (.bipush 10, 2) := by decide +kernel
theorem z13_51 {st : List Value} {w : pm_H} {pl : pm_L} : pm_ev 13 51 pl st w = pm_ev 13 53 pl (.int 10 :: st) w := pm_ny pt_13 d13_51 rfl rfl rfl
theorem d13_53 : decode cX2_step 53 = .ok (.if_icmp .ne 16, 3) := by decide +kernel
theorem z13_53 {st : List Value} {w : pm_H} {pl : pm_L} {x0 x1 : Int32} : pm_ev 13 53 pl (.int x1 :: .int x0 :: st) w = if x0 = x1 then pm_ev 13 56 pl st w else pm_ev 13 69 pl st w := pm_nin (c := ¬ x0 = x1) pt_13 d13_53 rfl rfl rfl Iff.rfl
theorem d13_56 : decode cX2_step 56 = .ok (.aload_n 0, 1) := by decide +kernel
theorem z13_56 {st : List Value} {w : pm_H} {b1 : Option Value} {x0 : Nat} : pm_ev 13 56 [some (.ref x0), b1] st w = pm_ev 13 57 [some (.ref x0), b1] (.ref x0 :: st) w := pm_ny pt_13 d13_56 rfl rfl rfl
theorem d13_57 : decode cX2_step 57 = .ok (.dup, 1) := by decide +kernel
theorem z13_57 {st : List Value} {w : pm_H} {pl : pm_L} {x0 : Nat} : pm_ev 13 57 pl (.ref x0 :: st) w = pm_ev 13 58 pl (.ref x0 :: .ref x0 :: st) w := pm_ny pt_13 d13_57 rfl rfl rfl
theorem d13_58 : decode cX2_step 58 = .ok (.getfield 27, 3) := by decide +kernel
theorem z13_58 {st : List Value} {w : pm_H} {pl : pm_L} {x0 : Nat} : pm_ev 13 58 pl (.ref x0 :: st) w = pm_kv 13 61 pl st w (pm_gf (w x0) 2 4) := pm_ng pt_13 pt_F_2_27 d13_58
theorem d13_61 : decode cX2_step 61 = .ok (.iconst 1, 1) := by decide +kernel
theorem z13_61 {st : List Value} {w : pm_H} {pl : pm_L} : pm_ev 13 61 pl st w = pm_ev 13 62 pl (.int 1 :: st) w := pm_ny pt_13 d13_61 rfl rfl rfl
theorem d13_62 : decode cX2_step 62 = .ok (.iadd, 1) := by decide +kernel
theorem z13_62 {st : List Value} {w : pm_H} {pl : pm_L} {x0 x1 : Int32} : pm_ev 13 62 pl (.int x1 :: .int x0 :: st) w = pm_ev 13 63 pl (.int (x0 + x1) :: st) w := pm_ny pt_13 d13_62 rfl rfl rfl
theorem d13_63 : decode cX2_step 63 = .ok (.putfield 27, 3) := by decide +kernel
theorem z13_63 {st : List Value} {w : pm_H} {pl : pm_L} {x0 : Nat} {x1 : Int32} : pm_ev 13 63 pl (.int x1 :: .ref x0 :: st) w = pm_kw 13 66 pl st (pm_pf w x0 (w x0) 2 4 0 (.int x1)) := pm_np pt_13 pt_F_2_27 d13_63
theorem d13_66 : decode cX2_step 66 = .ok (.goto (-52), 3) := by decide +kernel
theorem z13_66 {st : List Value} {w : pm_H} {pl : pm_L} : pm_ev 13 66 pl st w = pm_ev 13 14 pl st w := pm_ny pt_13 d13_66 rfl rfl rfl
theorem d13_69 : decode cX2_step 69 = .ok (.aload_n 0, 1) := by decide +kernel
theorem z13_69 {st : List Value} {w : pm_H} {b1 : Option Value} {x0 : Nat} : pm_ev 13 69 [some (.ref x0), b1] st w = pm_ev 13 70 [some (.ref x0), b1] (.ref x0 :: st) w := pm_ny pt_13 d13_69 rfl rfl rfl
theorem d13_70 : decode cX2_step 70 = .ok (.getfield 27, 3) := by decide +kernel
theorem z13_70 {st : List Value} {w : pm_H} {pl : pm_L} {x0 : Nat} : pm_ev 13 70 pl (.ref x0 :: st) w = pm_kv 13 73 pl st w (pm_gf (w x0) 2 4) := pm_ng pt_13 pt_F_2_27 d13_70
theorem d13_73 : decode cX2_step 73 = .ok (.iload_n 1, 1) := by decide +kernel
theorem z13_73 {st : List Value} {w : pm_H} {b0 : Option Value} {x0 : Int32} : pm_ev 13 73 [b0, some (.int x0)] st w = pm_ev 13 74 [b0, some (.int x0)] (.int x0 :: st) w := pm_ny pt_13 d13_73 rfl rfl rfl
theorem d13_74 : decode cX2_step 74 = .ok (.if_icmp .lt 14, 3) := by decide +kernel
theorem z13_74 {st : List Value} {w : pm_H} {pl : pm_L} {x0 x1 : Int32} : pm_ev 13 74 pl (.int x1 :: .int x0 :: st) w = if x0 < x1 then pm_ev 13 88 pl st w else pm_ev 13 77 pl st w := pm_nif pt_13 d13_74 rfl rfl rfl
theorem d13_77 : decode cX2_step 77 = .ok (.aload_n 0, 1) := by decide +kernel
theorem z13_77 {st : List Value} {w : pm_H} {b1 : Option Value} {x0 : Nat} : pm_ev 13 77 [some (.ref x0), b1] st w = pm_ev 13 78 [some (.ref x0), b1] (.ref x0 :: st) w := pm_ny pt_13 d13_77 rfl rfl rfl
theorem d13_78 : decode cX2_step 78 = .ok (.iload_n 1, 1) := by decide +kernel
theorem z13_78 {st : List Value} {w : pm_H} {b0 : Option Value} {x0 : Int32} : pm_ev 13 78 [b0, some (.int x0)] st w = pm_ev 13 79 [b0, some (.int x0)] (.int x0 :: st) w := pm_ny pt_13 d13_78 rfl rfl rfl
theorem d13_79 : decode cX2_step 79 = .ok (.putfield 151, 3) := by decide +kernel
theorem z13_79 {st : List Value} {w : pm_H} {pl : pm_L} {x0 : Nat} {x1 : Int32} : pm_ev 13 79 pl (.int x1 :: .ref x0 :: st) w = pm_kw 13 82 pl st (pm_pf w x0 (w x0) 2 3 0 (.int x1)) := pm_np pt_13 pt_F_2_151 d13_79
theorem d13_82 : decode cX2_step 82 = .ok (.aload_n 0, 1) := by decide +kernel
theorem z13_82 {st : List Value} {w : pm_H} {b1 : Option Value} {x0 : Nat} : pm_ev 13 82 [some (.ref x0), b1] st w = pm_ev 13 83 [some (.ref x0), b1] (.ref x0 :: st) w := pm_ny pt_13 d13_82 rfl rfl rfl
theorem d13_83 : decode cX2_step 83 = .ok (.iconst 0, 1) := by decide +kernel
theorem z13_83 {st : List Value} {w : pm_H} {pl : pm_L} : pm_ev 13 83 pl st w = pm_ev 13 84 pl (.int 0 :: st) w := pm_ny pt_13 d13_83 rfl rfl rfl
theorem d13_84 : decode cX2_step 84 = .ok (.putfield 33, 3) := by decide +kernel
theorem z13_84 {st : List Value} {w : pm_H} {pl : pm_L} {x0 : Nat} {x1 : Int32} : pm_ev 13 84 pl (.int x1 :: .ref x0 :: st) w = pm_kw 13 87 pl st (pm_pf w x0 (w x0) 2 5 0 (.int x1)) := pm_np pt_13 pt_F_2_33 d13_84
theorem d13_87 : decode cX2_step 87 = .ok (.return_, 1) := by decide +kernel
theorem z13_87 {w : pm_H} {pl : pm_L} : pm_ev 13 87 pl [] w = some (none, w) := pm_nr pt_13 d13_87 rfl
theorem d13_88 : decode cX2_step 88 = .ok (.aload_n 0, 1) := by decide +kernel
theorem z13_88 {st : List Value} {w : pm_H} {b1 : Option Value} {x0 : Nat} : pm_ev 13 88 [some (.ref x0), b1] st w = pm_ev 13 89 [some (.ref x0), b1] (.ref x0 :: st) w := pm_ny pt_13 d13_88 rfl rfl rfl
theorem d13_89 : decode cX2_step 89 = .ok (.aload_n 0, 1) := by decide +kernel
theorem z13_89 {st : List Value} {w : pm_H} {b1 : Option Value} {x0 : Nat} : pm_ev 13 89 [some (.ref x0), b1] st w = pm_ev 13 90 [some (.ref x0), b1] (.ref x0 :: st) w := pm_ny pt_13 d13_89 rfl rfl rfl
theorem d13_90 : decode cX2_step 90 = .ok (.getfield 27, 3) := by decide +kernel
theorem z13_90 {st : List Value} {w : pm_H} {pl : pm_L} {x0 : Nat} : pm_ev 13 90 pl (.ref x0 :: st) w = pm_kv 13 93 pl st w (pm_gf (w x0) 2 4) := pm_ng pt_13 pt_F_2_27 d13_90
theorem d13_93 : decode cX2_step 93 = .ok (.putfield 151, 3) := by decide +kernel
theorem z13_93 {st : List Value} {w : pm_H} {pl : pm_L} {x0 : Nat} {x1 : Int32} : pm_ev 13 93 pl (.int x1 :: .ref x0 :: st) w = pm_kw 13 96 pl st (pm_pf w x0 (w x0) 2 3 0 (.int x1)) := pm_np pt_13 pt_F_2_151 d13_93
theorem d13_96 : decode cX2_step 96 = .ok (.aload_n 0, 1) := by decide +kernel
theorem z13_96 {st : List Value} {w : pm_H} {b1 : Option Value} {x0 : Nat} : pm_ev 13 96 [some (.ref x0), b1] st w = pm_ev 13 97 [some (.ref x0), b1] (.ref x0 :: st) w := pm_ny pt_13 d13_96 rfl rfl rfl
theorem d13_97 : decode cX2_step 97 = .ok (.getfield 9, 3) := by decide +kernel
theorem z13_97 {st : List Value} {w : pm_H} {pl : pm_L} {x0 : Nat} : pm_ev 13 97 pl (.ref x0 :: st) w = pm_kv 13 100 pl st w (pm_gf (w x0) 2 0) := pm_ng pt_13 pt_F_2_9 d13_97
theorem d13_100 : decode cX2_step 100 = .ok (.getfield 158, 3) := by decide +kernel
theorem z13_100 {st : List Value} {w : pm_H} {pl : pm_L} {x0 : Nat} : pm_ev 13 100 pl (.ref x0 :: st) w = pm_kv 13 103 pl st w (pm_gf (w x0) 3 0) := pm_ng pt_13 pt_F_2_158 d13_100
theorem d13_103 : decode cX2_step 103 = .ok (.aload_n 0, 1) := by decide +kernel
theorem z13_103 {st : List Value} {w : pm_H} {b1 : Option Value} {x0 : Nat} : pm_ev 13 103 [some (.ref x0), b1] st w = pm_ev 13 104 [some (.ref x0), b1] (.ref x0 :: st) w := pm_ny pt_13 d13_103 rfl rfl rfl
theorem d13_104 : decode cX2_step 104 = .ok (.getfield 27, 3) := by decide +kernel
theorem z13_104 {st : List Value} {w : pm_H} {pl : pm_L} {x0 : Nat} : pm_ev 13 104 pl (.ref x0 :: st) w = pm_kv 13 107 pl st w (pm_gf (w x0) 2 4) := pm_ng pt_13 pt_F_2_27 d13_104
theorem d13_107 : decode cX2_step 107 = .ok (.baload, 1) := by decide +kernel
theorem z13_107 {st : List Value} {w : pm_H} {pl : pm_L} {x0 : Nat} {x1 : Int32} : pm_ev 13 107 pl (.int x1 :: .ref x0 :: st) w = pm_kv 13 108 pl st w (pm_ia (w x0) 2 x1) := pm_nba pt_13 d13_107
theorem d13_108 : decode cX2_step 108 = .ok (.bipush 59, 2) := by decide +kernel
theorem z13_108 {st : List Value} {w : pm_H} {pl : pm_L} : pm_ev 13 108 pl st w = pm_ev 13 110 pl (.int 59 :: st) w := pm_ny pt_13 d13_108 rfl rfl rfl
theorem d13_110 : decode cX2_step 110 = .ok (.if_icmp .ne 19, 3) := by decide +kernel
theorem z13_110 {st : List Value} {w : pm_H} {pl : pm_L} {x0 x1 : Int32} : pm_ev 13 110 pl (.int x1 :: .int x0 :: st) w = if x0 = x1 then pm_ev 13 113 pl st w else pm_ev 13 129 pl st w := pm_nin (c := ¬ x0 = x1) pt_13 d13_110 rfl rfl rfl Iff.rfl
theorem d13_113 : decode cX2_step 113 = .ok (.aload_n 0, 1) := by decide +kernel
theorem z13_113 {st : List Value} {w : pm_H} {b1 : Option Value} {x0 : Nat} : pm_ev 13 113 [some (.ref x0), b1] st w = pm_ev 13 114 [some (.ref x0), b1] (.ref x0 :: st) w := pm_ny pt_13 d13_113 rfl rfl rfl
theorem d13_114 : decode cX2_step 114 = .ok (.dup, 1) := by decide +kernel
theorem z13_114 {st : List Value} {w : pm_H} {pl : pm_L} {x0 : Nat} : pm_ev 13 114 pl (.ref x0 :: st) w = pm_ev 13 115 pl (.ref x0 :: .ref x0 :: st) w := pm_ny pt_13 d13_114 rfl rfl rfl
theorem d13_115 : decode cX2_step 115 = .ok (.getfield 27, 3) := by decide +kernel
theorem z13_115 {st : List Value} {w : pm_H} {pl : pm_L} {x0 : Nat} : pm_ev 13 115 pl (.ref x0 :: st) w = pm_kv 13 118 pl st w (pm_gf (w x0) 2 4) := pm_ng pt_13 pt_F_2_27 d13_115
theorem d13_118 : decode cX2_step 118 = .ok (.iconst 1, 1) := by decide +kernel
theorem z13_118 {st : List Value} {w : pm_H} {pl : pm_L} : pm_ev 13 118 pl st w = pm_ev 13 119 pl (.int 1 :: st) w := pm_ny pt_13 d13_118 rfl rfl rfl
theorem d13_119 : decode cX2_step 119 = .ok (.iadd, 1) := by decide +kernel
theorem z13_119 {st : List Value} {w : pm_H} {pl : pm_L} {x0 x1 : Int32} : pm_ev 13 119 pl (.int x1 :: .int x0 :: st) w = pm_ev 13 120 pl (.int (x0 + x1) :: st) w := pm_ny pt_13 d13_119 rfl rfl rfl
theorem d13_120 : decode cX2_step 120 = .ok (.putfield 27, 3) := by decide +kernel
theorem z13_120 {st : List Value} {w : pm_H} {pl : pm_L} {x0 : Nat} {x1 : Int32} : pm_ev 13 120 pl (.int x1 :: .ref x0 :: st) w = pm_kw 13 123 pl st (pm_pf w x0 (w x0) 2 4 0 (.int x1)) := pm_np pt_13 pt_F_2_27 d13_120
theorem d13_123 : decode cX2_step 123 = .ok (.aload_n 0, 1) := by decide +kernel
theorem z13_123 {st : List Value} {w : pm_H} {b1 : Option Value} {x0 : Nat} : pm_ev 13 123 [some (.ref x0), b1] st w = pm_ev 13 124 [some (.ref x0), b1] (.ref x0 :: st) w := pm_ny pt_13 d13_123 rfl rfl rfl
theorem d13_124 : decode cX2_step 124 = .ok (.iconst 3, 1) := by decide +kernel
theorem z13_124 {st : List Value} {w : pm_H} {pl : pm_L} : pm_ev 13 124 pl st w = pm_ev 13 125 pl (.int 3 :: st) w := pm_ny pt_13 d13_124 rfl rfl rfl
theorem d13_125 : decode cX2_step 125 = .ok (.putfield 33, 3) := by decide +kernel
theorem z13_125 {st : List Value} {w : pm_H} {pl : pm_L} {x0 : Nat} {x1 : Int32} : pm_ev 13 125 pl (.int x1 :: .ref x0 :: st) w = pm_kw 13 128 pl st (pm_pf w x0 (w x0) 2 5 0 (.int x1)) := pm_np pt_13 pt_F_2_33 d13_125
theorem d13_128 : decode cX2_step 128 = .ok (.return_, 1) := by decide +kernel
theorem z13_128 {w : pm_H} {pl : pm_L} : pm_ev 13 128 pl [] w = some (none, w) := pm_nr pt_13 d13_128 rfl
theorem d13_129 : decode cX2_step 129 = .ok (.aload_n 0, 1) := by decide +kernel
theorem z13_129 {st : List Value} {w : pm_H} {b1 : Option Value} {x0 : Nat} : pm_ev 13 129 [some (.ref x0), b1] st w = pm_ev 13 130 [some (.ref x0), b1] (.ref x0 :: st) w := pm_ny pt_13 d13_129 rfl rfl rfl
theorem d13_130 : decode cX2_step 130 = .ok (.invokevirtual 172, 3) := by decide +kernel
theorem z13_130 {w : pm_H} {b0 b1 : Option Value} {x0 : Nat} : pm_ev 13 130 [b0, b1] [.ref x0] w = pm_k 13 133 [b0, b1] [] (pm_vc (w x0) 2 (pm_call 14 [.ref x0] w)) := pm_nv pt_13 pt_14 pt_M_2_172 d13_130 ⟨rfl, rfl⟩ ⟨⟨rfl, Nat.le_of_ble_eq_true rfl, Nat.le_of_ble_eq_true rfl, Nat.le_of_ble_eq_true rfl, Nat.le_of_ble_eq_true rfl⟩, rfl⟩
theorem d13_133 : decode cX2_step 133 = .ok (.return_, 1) := by decide +kernel
theorem z13_133 {w : pm_H} {pl : pm_L} : pm_ev 13 133 pl [] w = some (none, w) := pm_nr pt_13 d13_133 rfl
theorem d14_0 : decode cX2_stepLettersAndDigits 0 = .ok (.iconst 0, 1) := by decide +kernel
theorem z14_0 {st : List Value} {w : pm_H} {pl : pm_L} : pm_ev 14 0 pl st w = pm_ev 14 1 pl (.int 0 :: st) w := pm_ny pt_14 d14_0 rfl rfl rfl
theorem d14_1 : decode cX2_stepLettersAndDigits 1 = .ok (.istore_n 1, 1) := by decide +kernel
theorem z14_1 {st : List Value} {w : pm_H} {b1 b2 b3 b4 : Option Value} {x0 : Int32} {x9 : Nat} : pm_ev 14 1 [some (.ref x9), b1, b2, b3, b4] (.int x0 :: st) w = pm_ev 14 2 [some (.ref x9), some (.int x0), b2, b3, b4] st w := pm_ny pt_14 d14_1 rfl rfl rfl
theorem d14_2 : decode cX2_stepLettersAndDigits 2 = .ok (.iconst 0, 1) := by decide +kernel
theorem z14_2 {st : List Value} {w : pm_H} {pl : pm_L} : pm_ev 14 2 pl st w = pm_ev 14 3 pl (.int 0 :: st) w := pm_ny pt_14 d14_2 rfl rfl rfl
theorem d14_3 : decode cX2_stepLettersAndDigits 3 = .ok (.istore_n 2, 1) := by decide +kernel
theorem z14_3 {st : List Value} {w : pm_H} {b0 b2 b3 b4 : Option Value} {x0 : Int32} {x9 : Int32} : pm_ev 14 3 [b0, some (.int x9), b2, b3, b4] (.int x0 :: st) w = pm_ev 14 4 [b0, some (.int x9), some (.int x0), b3, b4] st w := pm_ny pt_14 d14_3 rfl rfl rfl
theorem d14_4 : decode cX2_stepLettersAndDigits 4 = .ok (.aload_n 0, 1) := by decide +kernel
theorem z14_4 {st : List Value} {w : pm_H} {b1 b2 b3 b4 : Option Value} {x0 : Nat} : pm_ev 14 4 [some (.ref x0), b1, b2, b3, b4] st w = pm_ev 14 5 [some (.ref x0), b1, b2, b3, b4] (.ref x0 :: st) w := pm_ny pt_14 d14_4 rfl rfl rfl
theorem d14_5 : decode cX2_stepLettersAndDigits 5 = .ok (.iconst 0, 1) := by decide +kernel
theorem z14_5 {st : List Value} {w : pm_H} {pl : pm_L} : pm_ev 14 5 pl st w = pm_ev 14 6 pl (.int 0 :: st) w := pm_ny pt_14 d14_5 rfl rfl rfl
theorem d14_6 : decode cX2_stepLettersAndDigits 6 = .ok (.putfield 75, 3) := by decide +kernel
theorem z14_6 {st : List Value} {w : pm_H} {pl : pm_L} {x0 : Nat} {x1 : Int32} : pm_ev 14 6 pl (.int x1 :: .ref x0 :: st) w = pm_kw 14 9 pl st (pm_pf w x0 (w x0) 2 6 0 (.int x1)) := pm_np pt_14 pt_F_2_75 d14_6
theorem d14_9 : decode cX2_stepLettersAndDigits 9 = .ok (.iconst 1, 1) := by decide +kernel
theorem z14_9 {st : List Value} {w : pm_H} {pl : pm_L} : pm_ev 14 9 pl st w = pm_ev 14 10 pl (.int 1 :: st) w := pm_ny pt_14 d14_9 rfl rfl rfl
theorem d14_10 : decode cX2_stepLettersAndDigits 10 = .ok (.istore_n 3, 1) := by decide +kernel
theorem z14_10 {st : List Value} {w : pm_H} {b0 b1 b3 b4 : Option Value} {x0 : Int32} {x9 : Int32} : pm_ev 14 10 [b0, b1, some (.int x9), b3, b4] (.int x0 :: st) w = pm_ev 14 11 [b0, b1, some (.int x9), some (.int x0), b4] st w := pm_ny pt_14 d14_10 rfl rfl rfl
theorem d14_11 : decode cX2_stepLettersAndDigits 11 = .ok (.iload_n 3, 1) := by decide +kernel
theorem z14_11 {st : List Value} {w : pm_H} {b0 b1 b2 b4 : Option Value} {x0 : Int32} : pm_ev 14 11 [b0, b1, b2, some (.int x0), b4] st w = pm_ev 14 12 [b0, b1, b2, some (.int x0), b4] (.int x0 :: st) w := pm_ny pt_14 d14_11 rfl rfl rfl
theorem d14_12 : decode cX2_stepLettersAndDigits 12 = .ok (.ifCond .eq 116, 3) := by decide +kernel
theorem z14_12 {st : List Value} {w : pm_H} {pl : pm_L} {x0 : Int32} : pm_ev 14 12 pl (.int x0 :: st) w = if x0 = 0 then pm_ev 14 128 pl st w else pm_ev 14 15 pl st w := pm_nif pt_14 d14_12 rfl rfl rfl
theorem d14_15 : decode cX2_stepLettersAndDigits 15 = .ok (.aload_n 0, 1) := by decide +kernel
theorem z14_15 {st : List Value} {w : pm_H} {b1 b2 b3 b4 : Option Value} {x0 : Nat} : pm_ev 14 15 [some (.ref x0), b1, b2, b3, b4] st w = pm_ev 14 16 [some (.ref x0), b1, b2, b3, b4] (.ref x0 :: st) w := pm_ny pt_14 d14_15 rfl rfl rfl
theorem d14_16 : decode cX2_stepLettersAndDigits 16 = .ok (.getfield 27, 3) := by decide +kernel
theorem z14_16 {st : List Value} {w : pm_H} {pl : pm_L} {x0 : Nat} : pm_ev 14 16 pl (.ref x0 :: st) w = pm_kv 14 19 pl st w (pm_gf (w x0) 2 4) := pm_ng pt_14 pt_F_2_27 d14_16
theorem d14_19 : decode cX2_stepLettersAndDigits 19 = .ok (.aload_n 0, 1) := by decide +kernel
theorem z14_19 {st : List Value} {w : pm_H} {b1 b2 b3 b4 : Option Value} {x0 : Nat} : pm_ev 14 19 [some (.ref x0), b1, b2, b3, b4] st w = pm_ev 14 20 [some (.ref x0), b1, b2, b3, b4] (.ref x0 :: st) w := pm_ny pt_14 d14_19 rfl rfl rfl
theorem d14_20 : decode cX2_stepLettersAndDigits 20 = .ok (.getfield 9, 3) := by decide +kernel
theorem z14_20 {st : List Value} {w : pm_H} {pl : pm_L} {x0 : Nat} : pm_ev 14 20 pl (.ref x0 :: st) w = pm_kv 14 23 pl st w (pm_gf (w x0) 2 0) := pm_ng pt_14 pt_F_2_9 d14_20
theorem d14_23 : decode cX2_stepLettersAndDigits 23 = .ok (.getfield 55, 3) := by decide +kernel
theorem z14_23 {st : List Value} {w : pm_H} {pl : pm_L} {x0 : Nat} : pm_ev 14 23 pl (.ref x0 :: st) w = pm_kv 14 26 pl st w (pm_gf (w x0) 3 1) := pm_ng pt_14 pt_F_2_55 d14_23
theorem d14_26 : decode cX2_stepLettersAndDigits 26 = .ok (.if_icmp .ge 102, 3) := by decide +kernel
theorem z14_26 {st : List Value} {w : pm_H} {pl : pm_L} {x0 x1 : Int32} : pm_ev 14 26 pl (.int x1 :: .int x0 :: st) w = if x0 < x1 then pm_ev 14 29 pl st w else pm_ev 14 128 pl st w := pm_nin (c := x1 ≤ x0) pt_14 d14_26 rfl rfl rfl pm_ge
theorem d14_29 : decode cX2_stepLettersAndDigits 29 = .ok (.aload_n 0, 1) := by decide +kernel
theorem z14_29 {st : List Value} {w : pm_H} {b1 b2 b3 b4 : Option Value} {x0 : Nat} : pm_ev 14 29 [some (.ref x0), b1, b2, b3, b4] st w = pm_ev 14 30 [some (.ref x0), b1, b2, b3, b4] (.ref x0 :: st) w := pm_ny pt_14 d14_29 rfl rfl rfl
theorem d14_30 : decode cX2_stepLettersAndDigits 30 = .ok (.getfield 9, 3) := by decide +kernel
theorem z14_30 {st : List Value} {w : pm_H} {pl : pm_L} {x0 : Nat} : pm_ev 14 30 pl (.ref x0 :: st) w = pm_kv 14 33 pl st w (pm_gf (w x0) 2 0) := pm_ng pt_14 pt_F_2_9 d14_30
theorem d14_33 : decode cX2_stepLettersAndDigits 33 = .ok (.getfield 158, 3) := by decide +kernel
theorem z14_33 {st : List Value} {w : pm_H} {pl : pm_L} {x0 : Nat} : pm_ev 14 33 pl (.ref x0 :: st) w = pm_kv 14 36 pl st w (pm_gf (w x0) 3 0) := pm_ng pt_14 pt_F_2_158 d14_33
theorem d14_36 : decode cX2_stepLettersAndDigits 36 = .ok (.aload_n 0, 1) := by decide +kernel
theorem z14_36 {st : List Value} {w : pm_H} {b1 b2 b3 b4 : Option Value} {x0 : Nat} : pm_ev 14 36 [some (.ref x0), b1, b2, b3, b4] st w = pm_ev 14 37 [some (.ref x0), b1, b2, b3, b4] (.ref x0 :: st) w := pm_ny pt_14 d14_36 rfl rfl rfl
theorem d14_37 : decode cX2_stepLettersAndDigits 37 = .ok (.getfield 27, 3) := by decide +kernel
theorem z14_37 {st : List Value} {w : pm_H} {pl : pm_L} {x0 : Nat} : pm_ev 14 37 pl (.ref x0 :: st) w = pm_kv 14 40 pl st w (pm_gf (w x0) 2 4) := pm_ng pt_14 pt_F_2_27 d14_37
theorem d14_40 : decode cX2_stepLettersAndDigits 40 = .ok (.baload, 1) := by decide +kernel
theorem z14_40 {st : List Value} {w : pm_H} {pl : pm_L} {x0 : Nat} {x1 : Int32} : pm_ev 14 40 pl (.int x1 :: .ref x0 :: st) w = pm_kv 14 41 pl st w (pm_ia (w x0) 2 x1) := pm_nba pt_14 d14_40
theorem d14_41 : decode cX2_stepLettersAndDigits 41 = .ok (.istore 4, 2) := by decide +kernel
theorem z14_41 {st : List Value} {w : pm_H} {b0 b1 b2 b4 : Option Value} {x0 : Int32} {x9 : Int32} : pm_ev 14 41 [b0, b1, b2, some (.int x9), b4] (.int x0 :: st) w = pm_ev 14 43 [b0, b1, b2, some (.int x9), some (.int x0)] st w := pm_ny pt_14 d14_41 rfl rfl rfl
theorem d14_43 : decode cX2_stepLettersAndDigits 43 = .ok (.iload 4, 2) := by decide +kernel
theorem z14_43 {st : List Value} {w : pm_H} {b0 b1 b2 b3 : Option Value} {x0 : Int32} : pm_ev 14 43 [b0, b1, b2, b3, some (.int x0)] st w = pm_ev 14 45 [b0, b1, b2, b3, some (.int x0)] (.int x0 :: st) w := pm_ny pt_14 d14_43 rfl rfl rfl
theorem d14_45 : decode cX2_stepLettersAndDigits 45 = .ok (.bipush 97, 2) := by decide +kernel
theorem z14_45 {st : List Value} {w : pm_H} {pl : pm_L} : pm_ev 14 45 pl st w = pm_ev 14 47 pl (.int 97 :: st) w := pm_ny pt_14 d14_45 rfl rfl rfl
theorem d14_47 : decode cX2_stepLettersAndDigits 47 = .ok (.if_icmp .lt 16, 3) := by decide +kernel
theorem z14_47 {st : List Value} {w : pm_H} {pl : pm_L} {x0 x1 : Int32} : pm_ev 14 47 pl (.int x1 :: .int x0 :: st) w = if x0 < x1 then pm_ev 14 63 pl st w else pm_ev 14 50 pl st w := pm_nif pt_14 d14_47 rfl rfl rfl
theorem d14_50 : decode cX2_stepLettersAndDigits 50 = .ok (.iload 4, 2) := by decide +kernel
theorem z14_50 {st : List Value} {w : pm_H} {b0 b1 b2 b3 : Option Value} {x0 : Int32} : pm_ev 14 50 [b0, b1, b2, b3, some (.int x0)] st w = pm_ev 14 52 [b0, b1, b2, b3, some (.int x0)] (.int x0 :: st) w := pm_ny pt_14 d14_50 rfl rfl rfl
theorem d14_52 : decode cX2_stepLettersAndDigits 52 = .ok (.bipush 122, 2) := by decide +kernel
theorem z14_52 {st : List Value} {w : pm_H} {pl : pm_L} : pm_ev 14 52 pl st w = pm_ev 14 54 pl (.int 122 :: st) w := pm_ny pt_14 d14_52 rfl rfl rfl
theorem d14_54 : decode cX2_stepLettersAndDigits 54 = .ok (.if_icmp .gt 9, 3) := by decide +kernel
theorem z14_54 {st : List Value} {w : pm_H} {pl : pm_L} {x0 x1 : Int32} : pm_ev 14 54 pl (.int x1 :: .int x0 :: st) w = if x1 < x0 then pm_ev 14 63 pl st w else pm_ev 14 57 pl st w := pm_nif pt_14 d14_54 rfl rfl rfl
theorem d14_57 : decode cX2_stepLettersAndDigits 57 = .ok (.iinc 1 1, 3) := by decide +kernel
theorem z14_57 {st : List Value} {w : pm_H} {b2 b3 b4 : Option Value} {x0 : Int32} {x9 : Nat} : pm_ev 14 57 [some (.ref x9), some (.int x0), b2, b3, b4] st w = pm_ev 14 60 [some (.ref x9), some (.int (x0 + 1)), b2, b3, b4] st w := pm_ny pt_14 d14_57 rfl rfl rfl
theorem d14_60 : decode cX2_stepLettersAndDigits 60 = .ok (.goto 51, 3) := by decide +kernel
theorem z14_60 {st : List Value} {w : pm_H} {pl : pm_L} : pm_ev 14 60 pl st w = pm_ev 14 111 pl st w := pm_ny pt_14 d14_60 rfl rfl rfl
theorem d14_63 : decode cX2_stepLettersAndDigits 63 = .ok (.iload 4, 2) := by decide +kernel
theorem z14_63 {st : List Value} {w : pm_H} {b0 b1 b2 b3 : Option Value} {x0 : Int32} : pm_ev 14 63 [b0, b1, b2, b3, some (.int x0)] st w = pm_ev 14 65 [b0, b1, b2, b3, some (.int x0)] (.int x0 :: st) w := pm_ny pt_14 d14_63 rfl rfl rfl
theorem d14_65 : decode cX2_stepLettersAndDigits 65 = .ok (.bipush 48, 2) := by decide +kernel
theorem z14_65 {st : List Value} {w : pm_H} {pl : pm_L} : pm_ev 14 65 pl st w = pm_ev 14 67 pl (.int 48 :: st) w := pm_ny pt_14 d14_65 rfl rfl rfl
theorem d14_67 : decode cX2_stepLettersAndDigits 67 = .ok (.if_icmp .lt 42, 3) := by decide +kernel
theorem z14_67 {st : List Value} {w : pm_H} {pl : pm_L} {x0 x1 : Int32} : pm_ev 14 67 pl (.int x1 :: .int x0 :: st) w = if x0 < x1 then pm_ev 14 109 pl st w else pm_ev 14 70 pl st w := pm_nif pt_14 d14_67 rfl rfl rfl
theorem d14_70 : decode cX2_stepLettersAndDigits 70 = .ok (.iload 4, 2) := by decide +kernel
theorem z14_70 {st : List Value} {w : pm_H} {b0 b1 b2 b3 : Option Value} {x0 : Int32} : pm_ev 14 70 [b0, b1, b2, b3, some (.int x0)] st w = pm_ev 14 72 [b0, b1, b2, b3, some (.int x0)] (.int x0 :: st) w := pm_ny pt_14 d14_70 rfl rfl rfl
theorem d14_72 : decode cX2_stepLettersAndDigits 72 = .ok (.bipush 57, 2) := by decide +kernel
theorem z14_72 {st : List Value} {w : pm_H} {pl : pm_L} : pm_ev 14 72 pl st w = pm_ev 14 74 pl (.int 57 :: st) w := pm_ny pt_14 d14_72 rfl rfl rfl
theorem d14_74 : decode cX2_stepLettersAndDigits 74 = .ok (.if_icmp .gt 35, 3) := by decide +kernel
theorem z14_74 {st : List Value} {w : pm_H} {pl : pm_L} {x0 x1 : Int32} : pm_ev 14 74 pl (.int x1 :: .int x0 :: st) w = if x1 < x0 then pm_ev 14 109 pl st w else pm_ev 14 77 pl st w := pm_nif pt_14 d14_74 rfl rfl rfl
theorem d14_77 : decode cX2_stepLettersAndDigits 77 = .ok (.iinc 2 1, 3) := by decide +kernel
theorem z14_77 {st : List Value} {w : pm_H} {b0 b3 b4 : Option Value} {x0 : Int32} {x9 : Int32} : pm_ev 14 77 [b0, some (.int x9), some (.int x0), b3, b4] st w = pm_ev 14 80 [b0, some (.int x9), some (.int (x0 + 1)), b3, b4] st w := pm_ny pt_14 d14_77 rfl rfl rfl
theorem d14_80 : decode cX2_stepLettersAndDigits 80 = .ok (.aload_n 0, 1) := by decide +kernel
theorem z14_80 {st : List Value} {w : pm_H} {b1 b2 b3 b4 : Option Value} {x0 : Nat} : pm_ev 14 80 [some (.ref x0), b1, b2, b3, b4] st w = pm_ev 14 81 [some (.ref x0), b1, b2, b3, b4] (.ref x0 :: st) w := pm_ny pt_14 d14_80 rfl rfl rfl
theorem d14_81 : decode cX2_stepLettersAndDigits 81 = .ok (.iload_n 2, 1) := by decide +kernel
theorem z14_81 {st : List Value} {w : pm_H} {b0 b1 b3 b4 : Option Value} {x0 : Int32} : pm_ev 14 81 [b0, b1, some (.int x0), b3, b4] st w = pm_ev 14 82 [b0, b1, some (.int x0), b3, b4] (.int x0 :: st) w := pm_ny pt_14 d14_81 rfl rfl rfl
theorem d14_82 : decode cX2_stepLettersAndDigits 82 = .ok (.iconst 5, 1) := by decide +kernel
theorem z14_82 {st : List Value} {w : pm_H} {pl : pm_L} : pm_ev 14 82 pl st w = pm_ev 14 83 pl (.int 5 :: st) w := pm_ny pt_14 d14_82 rfl rfl rfl
theorem d14_83 : decode cX2_stepLettersAndDigits 83 = .ok (.if_icmp .gt 19, 3) := by decide +kernel
theorem z14_83 {st : List Value} {w : pm_H} {pl : pm_L} {x0 x1 : Int32} : pm_ev 14 83 pl (.int x1 :: .int x0 :: st) w = if x1 < x0 then pm_ev 14 102 pl st w else pm_ev 14 86 pl st w := pm_nif pt_14 d14_83 rfl rfl rfl
theorem d14_86 : decode cX2_stepLettersAndDigits 86 = .ok (.aload_n 0, 1) := by decide +kernel
theorem z14_86 {st : List Value} {w : pm_H} {b1 b2 b3 b4 : Option Value} {x0 : Nat} : pm_ev 14 86 [some (.ref x0), b1, b2, b3, b4] st w = pm_ev 14 87 [some (.ref x0), b1, b2, b3, b4] (.ref x0 :: st) w := pm_ny pt_14 d14_86 rfl rfl rfl
theorem d14_87 : decode cX2_stepLettersAndDigits 87 = .ok (.getfield 75, 3) := by decide +kernel
theorem z14_87 {st : List Value} {w : pm_H} {pl : pm_L} {x0 : Nat} : pm_ev 14 87 pl (.ref x0 :: st) w = pm_kv 14 90 pl st w (pm_gf (w x0) 2 6) := pm_ng pt_14 pt_F_2_75 d14_87
theorem d14_90 : decode cX2_stepLettersAndDigits 90 = .ok (.bipush 10, 2) := by decide +kernel
theorem z14_90 {st : List Value} {w : pm_H} {pl : pm_L} : pm_ev 14 90 pl st w = pm_ev 14 92 pl (.int 10 :: st) w := pm_ny pt_14 d14_90 rfl rfl rfl
theorem d14_92 : decode cX2_stepLettersAndDigits 92 = .ok (.imul, 1) := by decide +kernel
theorem z14_92 {st : List Value} {w : pm_H} {pl : pm_L} {x0 x1 : Int32} : pm_ev 14 92 pl (.int x1 :: .int x0 :: st) w = pm_ev 14 93 pl (.int (x0 * x1) :: st) w := pm_ny pt_14 d14_92 rfl rfl rfl
theorem d14_93 : decode cX2_stepLettersAndDigits 93 = .ok (.iload 4, 2) := by decide +kernel
theorem z14_93 {st : List Value} {w : pm_H} {b0 b1 b2 b3 : Option Value} {x0 : Int32} : pm_ev 14 93 [b0, b1, b2, b3, some (.int x0)] st w = pm_ev 14 95 [b0, b1, b2, b3, some (.int x0)] (.int x0 :: st) w := pm_ny pt_14 d14_93 rfl rfl rfl
theorem d14_95 : decode cX2_stepLettersAndDigits 95 = .ok (.iadd, 1) := by decide +kernel
theorem z14_95 {st : List Value} {w : pm_H} {pl : pm_L} {x0 x1 : Int32} : pm_ev 14 95 pl (.int x1 :: .int x0 :: st) w = pm_ev 14 96 pl (.int (x0 + x1) :: st) w := pm_ny pt_14 d14_95 rfl rfl rfl
theorem d14_96 : decode cX2_stepLettersAndDigits 96 = .ok (.bipush 48, 2) := by decide +kernel
theorem z14_96 {st : List Value} {w : pm_H} {pl : pm_L} : pm_ev 14 96 pl st w = pm_ev 14 98 pl (.int 48 :: st) w := pm_ny pt_14 d14_96 rfl rfl rfl
theorem d14_98 : decode cX2_stepLettersAndDigits 98 = .ok (.isub, 1) := by decide +kernel
theorem z14_98 {st : List Value} {w : pm_H} {pl : pm_L} {x0 x1 : Int32} : pm_ev 14 98 pl (.int x1 :: .int x0 :: st) w = pm_ev 14 99 pl (.int (x0 - x1) :: st) w := pm_ny pt_14 d14_98 rfl rfl rfl
theorem d14_99 : decode cX2_stepLettersAndDigits 99 = .ok (.goto 4, 3) := by decide +kernel
theorem z14_99 {st : List Value} {w : pm_H} {pl : pm_L} : pm_ev 14 99 pl st w = pm_ev 14 103 pl st w := pm_ny pt_14 d14_99 rfl rfl rfl
theorem d14_102 : decode cX2_stepLettersAndDigits 102 = .ok (.iconst 0, 1) := by decide +kernel
theorem z14_102 {st : List Value} {w : pm_H} {pl : pm_L} : pm_ev 14 102 pl st w = pm_ev 14 103 pl (.int 0 :: st) w := pm_ny pt_14 d14_102 rfl rfl rfl
theorem d14_103 : decode cX2_stepLettersAndDigits 103 = .ok (.putfield 75, 3) := by decide +kernel
theorem z14_103 {st : List Value} {w : pm_H} {pl : pm_L} {x0 : Nat} {x1 : Int32} : pm_ev 14 103 pl (.int x1 :: .ref x0 :: st) w = pm_kw 14 106 pl st (pm_pf w x0 (w x0) 2 6 0 (.int x1)) := pm_np pt_14 pt_F_2_75 d14_103
theorem d14_106 : decode cX2_stepLettersAndDigits 106 = .ok (.goto 5, 3) := by decide +kernel
theorem z14_106 {st : List Value} {w : pm_H} {pl : pm_L} : pm_ev 14 106 pl st w = pm_ev 14 111 pl st w := pm_ny pt_14 d14_106 rfl rfl rfl
theorem d14_109 : decode cX2_stepLettersAndDigits 109 = .ok (.iconst 0, 1) := by decide +kernel
theorem z14_109 {st : List Value} {w : pm_H} {pl : pm_L} : pm_ev 14 109 pl st w = pm_ev 14 110 pl (.int 0 :: st) w := pm_ny pt_14 d14_109 rfl rfl rfl
theorem d14_110 : decode cX2_stepLettersAndDigits 110 = .ok (.istore_n 3, 1) := by decide +kernel
theorem z14_110 {st : List Value} {w : pm_H} {b0 b1 b3 b4 : Option Value} {x0 : Int32} {x9 : Int32} : pm_ev 14 110 [b0, b1, some (.int x9), b3, b4] (.int x0 :: st) w = pm_ev 14 111 [b0, b1, some (.int x9), some (.int x0), b4] st w := pm_ny pt_14 d14_110 rfl rfl rfl
theorem d14_111 : decode cX2_stepLettersAndDigits 111 = .ok (.iload_n 3, 1) := by decide +kernel
theorem z14_111 {st : List Value} {w : pm_H} {b0 b1 b2 b4 : Option Value} {x0 : Int32} : pm_ev 14 111 [b0, b1, b2, some (.int x0), b4] st w = pm_ev 14 112 [b0, b1, b2, some (.int x0), b4] (.int x0 :: st) w := pm_ny pt_14 d14_111 rfl rfl rfl
theorem d14_112 : decode cX2_stepLettersAndDigits 112 = .ok (.ifCond .eq 13, 3) := by decide +kernel
theorem z14_112 {st : List Value} {w : pm_H} {pl : pm_L} {x0 : Int32} : pm_ev 14 112 pl (.int x0 :: st) w = if x0 = 0 then pm_ev 14 125 pl st w else pm_ev 14 115 pl st w := pm_nif pt_14 d14_112 rfl rfl rfl
theorem d14_115 : decode cX2_stepLettersAndDigits 115 = .ok (.aload_n 0, 1) := by decide +kernel
theorem z14_115 {st : List Value} {w : pm_H} {b1 b2 b3 b4 : Option Value} {x0 : Nat} : pm_ev 14 115 [some (.ref x0), b1, b2, b3, b4] st w = pm_ev 14 116 [some (.ref x0), b1, b2, b3, b4] (.ref x0 :: st) w := pm_ny pt_14 d14_115 rfl rfl rfl
theorem d14_116 : decode cX2_stepLettersAndDigits 116 = .ok (.dup, 1) := by decide +kernel
theorem z14_116 {st : List Value} {w : pm_H} {pl : pm_L} {x0 : Nat} : pm_ev 14 116 pl (.ref x0 :: st) w = pm_ev 14 117 pl (.ref x0 :: .ref x0 :: st) w := pm_ny pt_14 d14_116 rfl rfl rfl
theorem d14_117 : decode cX2_stepLettersAndDigits 117 = .ok (.getfield 27, 3) := by decide +kernel
theorem z14_117 {st : List Value} {w : pm_H} {pl : pm_L} {x0 : Nat} : pm_ev 14 117 pl (.ref x0 :: st) w = pm_kv 14 120 pl st w (pm_gf (w x0) 2 4) := pm_ng pt_14 pt_F_2_27 d14_117
theorem d14_120 : decode cX2_stepLettersAndDigits 120 = .ok (.iconst 1, 1) := by decide +kernel
theorem z14_120 {st : List Value} {w : pm_H} {pl : pm_L} : pm_ev 14 120 pl st w = pm_ev 14 121 pl (.int 1 :: st) w := pm_ny pt_14 d14_120 rfl rfl rfl
theorem d14_121 : decode cX2_stepLettersAndDigits 121 = .ok (.iadd, 1) := by decide +kernel
theorem z14_121 {st : List Value} {w : pm_H} {pl : pm_L} {x0 x1 : Int32} : pm_ev 14 121 pl (.int x1 :: .int x0 :: st) w = pm_ev 14 122 pl (.int (x0 + x1) :: st) w := pm_ny pt_14 d14_121 rfl rfl rfl
theorem d14_122 : decode cX2_stepLettersAndDigits 122 = .ok (.putfield 27, 3) := by decide +kernel
theorem z14_122 {st : List Value} {w : pm_H} {pl : pm_L} {x0 : Nat} {x1 : Int32} : pm_ev 14 122 pl (.int x1 :: .ref x0 :: st) w = pm_kw 14 125 pl st (pm_pf w x0 (w x0) 2 4 0 (.int x1)) := pm_np pt_14 pt_F_2_27 d14_122
theorem d14_125 : decode cX2_stepLettersAndDigits 125 = .ok (.goto (-114), 3) := by decide +kernel
theorem z14_125 {st : List Value} {w : pm_H} {pl : pm_L} : pm_ev 14 125 pl st w = pm_ev 14 11 pl st w := pm_ny pt_14 d14_125 rfl rfl rfl
theorem d14_128 : decode cX2_stepLettersAndDigits 128 = .ok (.iload_n 1, 1) := by decide +kernel
theorem z14_128 {st : List Value} {w : pm_H} {b0 b2 b3 b4 : Option Value} {x0 : Int32} : pm_ev 14 128 [b0, some (.int x0), b2, b3, b4] st w = pm_ev 14 129 [b0, some (.int x0), b2, b3, b4] (.int x0 :: st) w := pm_ny pt_14 d14_128 rfl rfl rfl
theorem d14_129 : decode cX2_stepLettersAndDigits 129 = .ok (.ifCond .le 15, 3) := by decide +kernel
theorem z14_129 {st : List Value} {w : pm_H} {pl : pm_L} {x0 : Int32} : pm_ev 14 129 pl (.int x0 :: st) w = if 0 < x0 then pm_ev 14 132 pl st w else pm_ev 14 144 pl st w := pm_nin (c := x0 ≤ 0) pt_14 d14_129 rfl rfl rfl pm_ge
theorem d14_132 : decode cX2_stepLettersAndDigits 132 = .ok (.iload_n 2, 1) := by decide +kernel
theorem z14_132 {st : List Value} {w : pm_H} {b0 b1 b3 b4 : Option Value} {x0 : Int32} : pm_ev 14 132 [b0, b1, some (.int x0), b3, b4] st w = pm_ev 14 133 [b0, b1, some (.int x0), b3, b4] (.int x0 :: st) w := pm_ny pt_14 d14_132 rfl rfl rfl
theorem d14_133 : decode cX2_stepLettersAndDigits 133 = .ok (.ifCond .ne 11, 3) := by decide +kernel
theorem z14_133 {st : List Value} {w : pm_H} {pl : pm_L} {x0 : Int32} : pm_ev 14 133 pl (.int x0 :: st) w = if x0 = 0 then pm_ev 14 136 pl st w else pm_ev 14 144 pl st w := pm_nin (c := ¬ x0 = 0) pt_14 d14_133 rfl rfl rfl Iff.rfl
theorem d14_136 : decode cX2_stepLettersAndDigits 136 = .ok (.aload_n 0, 1) := by decide +kernel
theorem z14_136 {st : List Value} {w : pm_H} {b1 b2 b3 b4 : Option Value} {x0 : Nat} : pm_ev 14 136 [some (.ref x0), b1, b2, b3, b4] st w = pm_ev 14 137 [some (.ref x0), b1, b2, b3, b4] (.ref x0 :: st) w := pm_ny pt_14 d14_136 rfl rfl rfl
theorem d14_137 : decode cX2_stepLettersAndDigits 137 = .ok (.iconst 1, 1) := by decide +kernel
theorem z14_137 {st : List Value} {w : pm_H} {pl : pm_L} : pm_ev 14 137 pl st w = pm_ev 14 138 pl (.int 1 :: st) w := pm_ny pt_14 d14_137 rfl rfl rfl
theorem d14_138 : decode cX2_stepLettersAndDigits 138 = .ok (.putfield 33, 3) := by decide +kernel
theorem z14_138 {st : List Value} {w : pm_H} {pl : pm_L} {x0 : Nat} {x1 : Int32} : pm_ev 14 138 pl (.int x1 :: .ref x0 :: st) w = pm_kw 14 141 pl st (pm_pf w x0 (w x0) 2 5 0 (.int x1)) := pm_np pt_14 pt_F_2_33 d14_138
theorem d14_141 : decode cX2_stepLettersAndDigits 141 = .ok (.goto 30, 3) := by decide +kernel
theorem z14_141 {st : List Value} {w : pm_H} {pl : pm_L} : pm_ev 14 141 pl st w = pm_ev 14 171 pl st w := pm_ny pt_14 d14_141 rfl rfl rfl
theorem d14_144 : decode cX2_stepLettersAndDigits 144 = .ok (.iload_n 1, 1) := by decide +kernel
theorem z14_144 {st : List Value} {w : pm_H} {b0 b2 b3 b4 : Option Value} {x0 : Int32} : pm_ev 14 144 [b0, some (.int x0), b2, b3, b4] st w = pm_ev 14 145 [b0, some (.int x0), b2, b3, b4] (.int x0 :: st) w := pm_ny pt_14 d14_144 rfl rfl rfl
theorem d14_145 : decode cX2_stepLettersAndDigits 145 = .ok (.ifCond .ne 21, 3) := by decide +kernel
theorem z14_145 {st : List Value} {w : pm_H} {pl : pm_L} {x0 : Int32} : pm_ev 14 145 pl (.int x0 :: st) w = if x0 = 0 then pm_ev 14 148 pl st w else pm_ev 14 166 pl st w := pm_nin (c := ¬ x0 = 0) pt_14 d14_145 rfl rfl rfl Iff.rfl
theorem d14_148 : decode cX2_stepLettersAndDigits 148 = .ok (.iload_n 2, 1) := by decide +kernel
theorem z14_148 {st : List Value} {w : pm_H} {b0 b1 b3 b4 : Option Value} {x0 : Int32} : pm_ev 14 148 [b0, b1, some (.int x0), b3, b4] st w = pm_ev 14 149 [b0, b1, some (.int x0), b3, b4] (.int x0 :: st) w := pm_ny pt_14 d14_148 rfl rfl rfl
theorem d14_149 : decode cX2_stepLettersAndDigits 149 = .ok (.iconst 1, 1) := by decide +kernel
theorem z14_149 {st : List Value} {w : pm_H} {pl : pm_L} : pm_ev 14 149 pl st w = pm_ev 14 150 pl (.int 1 :: st) w := pm_ny pt_14 d14_149 rfl rfl rfl
theorem d14_150 : decode cX2_stepLettersAndDigits 150 = .ok (.if_icmp .lt 16, 3) := by decide +kernel
theorem z14_150 {st : List Value} {w : pm_H} {pl : pm_L} {x0 x1 : Int32} : pm_ev 14 150 pl (.int x1 :: .int x0 :: st) w = if x0 < x1 then pm_ev 14 166 pl st w else pm_ev 14 153 pl st w := pm_nif pt_14 d14_150 rfl rfl rfl
theorem d14_153 : decode cX2_stepLettersAndDigits 153 = .ok (.iload_n 2, 1) := by decide +kernel
theorem z14_153 {st : List Value} {w : pm_H} {b0 b1 b3 b4 : Option Value} {x0 : Int32} : pm_ev 14 153 [b0, b1, some (.int x0), b3, b4] st w = pm_ev 14 154 [b0, b1, some (.int x0), b3, b4] (.int x0 :: st) w := pm_ny pt_14 d14_153 rfl rfl rfl
theorem d14_154 : decode cX2_stepLettersAndDigits 154 = .ok (.iconst 5, 1) := by decide +kernel
theorem z14_154 {st : List Value} {w : pm_H} {pl : pm_L} : pm_ev 14 154 pl st w = pm_ev 14 155 pl (.int 5 :: st) w := pm_ny pt_14 d14_154 rfl rfl rfl
theorem d14_155 : decode cX2_stepLettersAndDigits 155 = .ok (.if_icmp .gt 11, 3) := by decide +kernel
theorem z14_155 {st : List Value} {w : pm_H} {pl : pm_L} {x0 x1 : Int32} : pm_ev 14 155 pl (.int x1 :: .int x0 :: st) w = if x1 < x0 then pm_ev 14 166 pl st w else pm_ev 14 158 pl st w := pm_nif pt_14 d14_155 rfl rfl rfl
theorem d14_158 : decode cX2_stepLettersAndDigits 158 = .ok (.aload_n 0, 1) := by decide +kernel
theorem z14_158 {st : List Value} {w : pm_H} {b1 b2 b3 b4 : Option Value} {x0 : Nat} : pm_ev 14 158 [some (.ref x0), b1, b2, b3, b4] st w = pm_ev 14 159 [some (.ref x0), b1, b2, b3, b4] (.ref x0 :: st) w := pm_ny pt_14 d14_158 rfl rfl rfl
theorem d14_159 : decode cX2_stepLettersAndDigits 159 = .ok (.iconst 2, 1) := by decide +kernel
theorem z14_159 {st : List Value} {w : pm_H} {pl : pm_L} : pm_ev 14 159 pl st w = pm_ev 14 160 pl (.int 2 :: st) w := pm_ny pt_14 d14_159 rfl rfl rfl
theorem d14_160 : decode cX2_stepLettersAndDigits 160 = .ok (.putfield 33, 3) := by decide +kernel
theorem z14_160 {st : List Value} {w : pm_H} {pl : pm_L} {x0 : Nat} {x1 : Int32} : pm_ev 14 160 pl (.int x1 :: .ref x0 :: st) w = pm_kw 14 163 pl st (pm_pf w x0 (w x0) 2 5 0 (.int x1)) := pm_np pt_14 pt_F_2_33 d14_160
theorem d14_163 : decode cX2_stepLettersAndDigits 163 = .ok (.goto 8, 3) := by decide +kernel
theorem z14_163 {st : List Value} {w : pm_H} {pl : pm_L} : pm_ev 14 163 pl st w = pm_ev 14 171 pl st w := pm_ny pt_14 d14_163 rfl rfl rfl
theorem d14_166 : decode cX2_stepLettersAndDigits 166 = .ok (.aload_n 0, 1) := by decide +kernel
theorem z14_166 {st : List Value} {w : pm_H} {b1 b2 b3 b4 : Option Value} {x0 : Nat} : pm_ev 14 166 [some (.ref x0), b1, b2, b3, b4] st w = pm_ev 14 167 [some (.ref x0), b1, b2, b3, b4] (.ref x0 :: st) w := pm_ny pt_14 d14_166 rfl rfl rfl
theorem d14_167 : decode cX2_stepLettersAndDigits 167 = .ok (.iconst 4, 1) := by decide +kernel
theorem z14_167 {st : List Value} {w : pm_H} {pl : pm_L} : pm_ev 14 167 pl st w = pm_ev 14 168 pl (.int 4 :: st) w := pm_ny pt_14 d14_167 rfl rfl rfl
theorem d14_168 : decode cX2_stepLettersAndDigits 168 = .ok (.putfield 33, 3) := by decide +kernel
theorem z14_168 {st : List Value} {w : pm_H} {pl : pm_L} {x0 : Nat} {x1 : Int32} : pm_ev 14 168 pl (.int x1 :: .ref x0 :: st) w = pm_kw 14 171 pl st (pm_pf w x0 (w x0) 2 5 0 (.int x1)) := pm_np pt_14 pt_F_2_33 d14_168
theorem d14_171 : decode cX2_stepLettersAndDigits 171 = .ok (.return_, 1) := by decide +kernel
theorem z14_171 {w : pm_H} {pl : pm_L} : pm_ev 14 171 pl [] w = some (none, w) := pm_nr pt_14 d14_171 rfl
theorem d15_0 : decode cX2_atEnd 0 = .ok (.aload_n 0, 1) := by decide +kernel
theorem z15_0 {st : List Value} {w : pm_H} {b1 : Option Value} {x0 : Nat} : pm_ev 15 0 [some (.ref x0), b1] st w = pm_ev 15 1 [some (.ref x0), b1] (.ref x0 :: st) w := pm_ny pt_15 d15_0 rfl rfl rfl
theorem d15_1 : decode cX2_atEnd 1 = .ok (.getfield 9, 3) := by decide +kernel
theorem z15_1 {st : List Value} {w : pm_H} {pl : pm_L} {x0 : Nat} : pm_ev 15 1 pl (.ref x0 :: st) w = pm_kv 15 4 pl st w (pm_gf (w x0) 2 0) := pm_ng pt_15 pt_F_2_9 d15_1
theorem d15_4 : decode cX2_atEnd 4 = .ok (.getfield 55, 3) := by decide +kernel
theorem z15_4 {st : List Value} {w : pm_H} {pl : pm_L} {x0 : Nat} : pm_ev 15 4 pl (.ref x0 :: st) w = pm_kv 15 7 pl st w (pm_gf (w x0) 3 1) := pm_ng pt_15 pt_F_2_55 d15_4
theorem d15_7 : decode cX2_atEnd 7 = .ok (.sipush 700, 3) := by decide +kernel
theorem z15_7 {st : List Value} {w : pm_H} {pl : pm_L} : pm_ev 15 7 pl st w = pm_ev 15 10 pl (.int 700 :: st) w := pm_ny pt_15 d15_7 rfl rfl rfl
theorem d15_10 : decode cX2_atEnd 10 = .ok (.if_icmp .le 9, 3) := by decide +kernel
theorem z15_10 {st : List Value} {w : pm_H} {pl : pm_L} {x0 x1 : Int32} : pm_ev 15 10 pl (.int x1 :: .int x0 :: st) w = if x1 < x0 then pm_ev 15 13 pl st w else pm_ev 15 19 pl st w := pm_nin (c := x0 ≤ x1) pt_15 d15_10 rfl rfl rfl pm_ge
theorem d15_13 : decode cX2_atEnd 13 = .ok (.aload_n 0, 1) := by decide +kernel
theorem z15_13 {st : List Value} {w : pm_H} {b1 : Option Value} {x0 : Nat} : pm_ev 15 13 [some (.ref x0), b1] st w = pm_ev 15 14 [some (.ref x0), b1] (.ref x0 :: st) w := pm_ny pt_15 d15_13 rfl rfl rfl
theorem d15_14 : decode cX2_atEnd 14 = .ok (.iconst 1, 1) := by decide +kernel
theorem z15_14 {st : List Value} {w : pm_H} {pl : pm_L} : pm_ev 15 14 pl st w = pm_ev 15 15 pl (.int 1 :: st) w := pm_ny pt_15 d15_14 rfl rfl rfl
theorem d15_15 : decode cX2_atEnd 15 = .ok (.invokevirtual 60, 3) := by decide +kernel
theorem z15_15 {w : pm_H} {b0 b1 : Option Value} {x0 : Int32} {x1 : Nat} : pm_ev 15 15 [b0, b1] [.int x0, .ref x1] w = pm_k 15 18 [b0, b1] [] (pm_vc (w x1) 2 (pm_call 16 [.ref x1, .int x0] w)) := pm_nv pt_15 pt_16 pt_M_2_60 d15_15 ⟨rfl, rfl⟩ ⟨⟨rfl, Nat.le_of_ble_eq_true rfl, Nat.le_of_ble_eq_true rfl, Nat.le_of_ble_eq_true rfl, Nat.le_of_ble_eq_true rfl⟩, rfl⟩
theorem d15_18 : decode cX2_atEnd 18 = .ok (.pop, 1) := by decide +kernel
theorem z15_18 {st : List Value} {w : pm_H} {pl : pm_L} {x0 : Int32} : pm_ev 15 18 pl (.int x0 :: st) w = pm_ev 15 19 pl st w := pm_ny pt_15 d15_18 rfl rfl rfl
theorem d15_19 : decode cX2_atEnd 19 = .ok (.iload_n 1, 1) := by decide +kernel
theorem z15_19 {st : List Value} {w : pm_H} {b0 : Option Value} {x0 : Int32} : pm_ev 15 19 [b0, some (.int x0)] st w = pm_ev 15 20 [b0, some (.int x0)] (.int x0 :: st) w := pm_ny pt_15 d15_19 rfl rfl rfl
theorem d15_20 : decode cX2_atEnd 20 = .ok (.ireturn, 1) := by decide +kernel
theorem z15_20 {w : pm_H} {pl : pm_L} {x0 : Int32} : pm_ev 15 20 pl [.int x0] w = some (some (.int x0), w) := pm_nr pt_15 d15_20 rfl
theorem d16_0 : decode cX2_fail 0 = .ok (.aload_n 0, 1) := by decide +kernel
theorem z16_0 {st : List Value} {w : pm_H} {b1 : Option Value} {x0 : Nat} : pm_ev 16 0 [some (.ref x0), b1] st w = pm_ev 16 1 [some (.ref x0), b1] (.ref x0 :: st) w := pm_ny pt_16 d16_0 rfl rfl rfl
theorem d16_1 : decode cX2_fail 1 = .ok (.iload_n 1, 1) := by decide +kernel
theorem z16_1 {st : List Value} {w : pm_H} {b0 : Option Value} {x0 : Int32} : pm_ev 16 1 [b0, some (.int x0)] st w = pm_ev 16 2 [b0, some (.int x0)] (.int x0 :: st) w := pm_ny pt_16 d16_1 rfl rfl rfl
theorem d16_2 : decode cX2_fail 2 = .ok (.putfield 20, 3) := by decide +kernel
theorem z16_2 {st : List Value} {w : pm_H} {pl : pm_L} {x0 : Nat} {x1 : Int32} : pm_ev 16 2 pl (.int x1 :: .ref x0 :: st) w = pm_kw 16 5 pl st (pm_pf w x0 (w x0) 2 1 0 (.int x1)) := pm_np pt_16 pt_F_2_20 d16_2
theorem d16_5 : decode cX2_fail 5 = .ok (.aload_n 0, 1) := by decide +kernel
theorem z16_5 {st : List Value} {w : pm_H} {b1 : Option Value} {x0 : Nat} : pm_ev 16 5 [some (.ref x0), b1] st w = pm_ev 16 6 [some (.ref x0), b1] (.ref x0 :: st) w := pm_ny pt_16 d16_5 rfl rfl rfl
theorem d16_6 : decode cX2_fail 6 = .ok (.aload_n 0, 1) := by decide +kernel
theorem z16_6 {st : List Value} {w : pm_H} {b1 : Option Value} {x0 : Nat} : pm_ev 16 6 [some (.ref x0), b1] st w = pm_ev 16 7 [some (.ref x0), b1] (.ref x0 :: st) w := pm_ny pt_16 d16_6 rfl rfl rfl
theorem d16_7 : decode cX2_fail 7 = .ok (.getfield 151, 3) := by decide +kernel
theorem z16_7 {st : List Value} {w : pm_H} {pl : pm_L} {x0 : Nat} : pm_ev 16 7 pl (.ref x0 :: st) w = pm_kv 16 10 pl st w (pm_gf (w x0) 2 3) := pm_ng pt_16 pt_F_2_151 d16_7
theorem d16_10 : decode cX2_fail 10 = .ok (.putfield 24, 3) := by decide +kernel
theorem z16_10 {st : List Value} {w : pm_H} {pl : pm_L} {x0 : Nat} {x1 : Int32} : pm_ev 16 10 pl (.int x1 :: .ref x0 :: st) w = pm_kw 16 13 pl st (pm_pf w x0 (w x0) 2 2 0 (.int x1)) := pm_np pt_16 pt_F_2_24 d16_10
theorem d16_13 : decode cX2_fail 13 = .ok (.iconst 0, 1) := by decide +kernel
theorem z16_13 {st : List Value} {w : pm_H} {pl : pm_L} : pm_ev 16 13 pl st w = pm_ev 16 14 pl (.int 0 :: st) w := pm_ny pt_16 d16_13 rfl rfl rfl
theorem d16_14 : decode cX2_fail 14 = .ok (.ireturn, 1) := by decide +kernel
theorem z16_14 {w : pm_H} {pl : pm_L} {x0 : Int32} : pm_ev 16 14 pl [.int x0] w = pm_zr x0 w := pm_nz pt_16 d16_14
theorem d17_0 : decode cX2_readShares 0 = .ok (.aload_n 0, 1) := by decide +kernel
theorem z17_0 {st : List Value} {w : pm_H} {b1 : Option Value} {x0 : Nat} : pm_ev 17 0 [some (.ref x0), b1] st w = pm_ev 17 1 [some (.ref x0), b1] (.ref x0 :: st) w := pm_ny pt_17 d17_0 rfl rfl rfl
theorem d17_1 : decode cX2_readShares 1 = .ok (.ldc 64, 2) := by decide +kernel
theorem z17_1 {st : List Value} {w : pm_H} {pl : pm_L} : pm_ev 17 1 pl st w = pm_ev 17 3 pl (.ref 1000 :: st) w := pm_nk pt_17 pt_K_2_64 (by decide) d17_1
theorem d17_3 : decode cX2_readShares 3 = .ok (.invokevirtual 66, 3) := by decide +kernel
theorem z17_3 {w : pm_H} {b0 b1 : Option Value} {x0 : Nat} {x1 : Nat} : pm_ev 17 3 [b0, b1] [.ref x0, .ref x1] w = pm_k 17 6 [b0, b1] [] (pm_vc (w x1) 2 (pm_call 18 [.ref x1, .ref x0] w)) := pm_nv pt_17 pt_18 pt_M_2_66 d17_3 ⟨rfl, rfl⟩ ⟨⟨rfl, Nat.le_of_ble_eq_true rfl, Nat.le_of_ble_eq_true rfl, Nat.le_of_ble_eq_true rfl, Nat.le_of_ble_eq_true rfl⟩, rfl⟩
theorem d17_6 : decode cX2_readShares 6 = .ok (.ifCond .ne 9, 3) := by decide +kernel
theorem z17_6 {st : List Value} {w : pm_H} {pl : pm_L} {x0 : Int32} : pm_ev 17 6 pl (.int x0 :: st) w = if x0 = 0 then pm_ev 17 9 pl st w else pm_ev 17 15 pl st w := pm_nin (c := ¬ x0 = 0) pt_17 d17_6 rfl rfl rfl Iff.rfl
theorem d17_9 : decode cX2_readShares 9 = .ok (.aload_n 0, 1) := by decide +kernel
theorem z17_9 {st : List Value} {w : pm_H} {b1 : Option Value} {x0 : Nat} : pm_ev 17 9 [some (.ref x0), b1] st w = pm_ev 17 10 [some (.ref x0), b1] (.ref x0 :: st) w := pm_ny pt_17 d17_9 rfl rfl rfl
theorem d17_10 : decode cX2_readShares 10 = .ok (.iconst 1, 1) := by decide +kernel
theorem z17_10 {st : List Value} {w : pm_H} {pl : pm_L} : pm_ev 17 10 pl st w = pm_ev 17 11 pl (.int 1 :: st) w := pm_ny pt_17 d17_10 rfl rfl rfl
theorem d17_11 : decode cX2_readShares 11 = .ok (.invokevirtual 60, 3) := by decide +kernel
theorem z17_11 {w : pm_H} {b0 b1 : Option Value} {x0 : Int32} {x1 : Nat} : pm_ev 17 11 [b0, b1] [.int x0, .ref x1] w = pm_k 17 14 [b0, b1] [] (pm_vc (w x1) 2 (pm_call 16 [.ref x1, .int x0] w)) := pm_nv pt_17 pt_16 pt_M_2_60 d17_11 ⟨rfl, rfl⟩ ⟨⟨rfl, Nat.le_of_ble_eq_true rfl, Nat.le_of_ble_eq_true rfl, Nat.le_of_ble_eq_true rfl, Nat.le_of_ble_eq_true rfl⟩, rfl⟩
theorem d17_14 : decode cX2_readShares 14 = .ok (.ireturn, 1) := by decide +kernel
theorem z17_14 {w : pm_H} {pl : pm_L} {x0 : Int32} : pm_ev 17 14 pl [.int x0] w = pm_zr x0 w := pm_nz pt_17 d17_14
theorem d17_15 : decode cX2_readShares 15 = .ok (.aload_n 0, 1) := by decide +kernel
theorem z17_15 {st : List Value} {w : pm_H} {b1 : Option Value} {x0 : Nat} : pm_ev 17 15 [some (.ref x0), b1] st w = pm_ev 17 16 [some (.ref x0), b1] (.ref x0 :: st) w := pm_ny pt_17 d17_15 rfl rfl rfl
theorem d17_16 : decode cX2_readShares 16 = .ok (.iconst 1, 1) := by decide +kernel
theorem z17_16 {st : List Value} {w : pm_H} {pl : pm_L} : pm_ev 17 16 pl st w = pm_ev 17 17 pl (.int 1 :: st) w := pm_ny pt_17 d17_16 rfl rfl rfl
theorem d17_17 : decode cX2_readShares 17 = .ok (.ldc 70, 2) := by decide +kernel
theorem z17_17 {st : List Value} {w : pm_H} {pl : pm_L} : pm_ev 17 17 pl st w = pm_ev 17 19 pl (.int (99999) :: st) w := pm_nk pt_17 pt_K_2_70 (by decide) d17_17
theorem d17_19 : decode cX2_readShares 19 = .ok (.invokevirtual 71, 3) := by decide +kernel
theorem z17_19 {w : pm_H} {b0 b1 : Option Value} {x0 : Int32} {x1 : Int32} {x2 : Nat} : pm_ev 17 19 [b0, b1] [.int x0, .int x1, .ref x2] w = pm_k 17 22 [b0, b1] [] (pm_vc (w x2) 2 (pm_call 19 [.ref x2, .int x1, .int x0] w)) := pm_nv pt_17 pt_19 pt_M_2_71 d17_19 ⟨rfl, rfl⟩ ⟨⟨rfl, Nat.le_of_ble_eq_true rfl, Nat.le_of_ble_eq_true rfl, Nat.le_of_ble_eq_true rfl, Nat.le_of_ble_eq_true rfl⟩, rfl⟩
theorem d17_22 : decode cX2_readShares 22 = .ok (.ifCond .ne 5, 3) := by decide +kernel
theorem z17_22 {st : List Value} {w : pm_H} {pl : pm_L} {x0 : Int32} : pm_ev 17 22 pl (.int x0 :: st) w = if x0 = 0 then pm_ev 17 25 pl st w else pm_ev 17 27 pl st w := pm_nin (c := ¬ x0 = 0) pt_17 d17_22 rfl rfl rfl Iff.rfl
theorem d17_25 : decode cX2_readShares 25 = .ok (.iconst 0, 1) := by decide +kernel
theorem z17_25 {st : List Value} {w : pm_H} {pl : pm_L} : pm_ev 17 25 pl st w = pm_ev 17 26 pl (.int 0 :: st) w := pm_ny pt_17 d17_25 rfl rfl rfl
theorem d17_26 : decode cX2_readShares 26 = .ok (.ireturn, 1) := by decide +kernel
theorem z17_26 {w : pm_H} {pl : pm_L} {x0 : Int32} : pm_ev 17 26 pl [.int x0] w = pm_zr x0 w := pm_nz pt_17 d17_26
theorem d17_27 : decode cX2_readShares 27 = .ok (.aload_n 1, 1) := by decide +kernel
theorem z17_27 {st : List Value} {w : pm_H} {b0 : Option Value} {x0 : Nat} : pm_ev 17 27 [b0, some (.ref x0)] st w = pm_ev 17 28 [b0, some (.ref x0)] (.ref x0 :: st) w := pm_ny pt_17 d17_27 rfl rfl rfl
theorem d17_28 : decode cX2_readShares 28 = .ok (.aload_n 0, 1) := by decide +kernel
theorem z17_28 {st : List Value} {w : pm_H} {b1 : Option Value} {x0 : Nat} : pm_ev 17 28 [some (.ref x0), b1] st w = pm_ev 17 29 [some (.ref x0), b1] (.ref x0 :: st) w := pm_ny pt_17 d17_28 rfl rfl rfl
theorem d17_29 : decode cX2_readShares 29 = .ok (.getfield 75, 3) := by decide +kernel
theorem z17_29 {st : List Value} {w : pm_H} {pl : pm_L} {x0 : Nat} : pm_ev 17 29 pl (.ref x0 :: st) w = pm_kv 17 32 pl st w (pm_gf (w x0) 2 6) := pm_ng pt_17 pt_F_2_75 d17_29
theorem d17_32 : decode cX2_readShares 32 = .ok (.putfield 78, 3) := by decide +kernel
theorem z17_32 {st : List Value} {w : pm_H} {pl : pm_L} {x0 : Nat} {x1 : Int32} : pm_ev 17 32 pl (.int x1 :: .ref x0 :: st) w = pm_kw 17 35 pl st (pm_pf w x0 (w x0) 4 0 0 (.int x1)) := pm_np pt_17 pt_F_2_78 d17_32
theorem d17_35 : decode cX2_readShares 35 = .ok (.aload_n 0, 1) := by decide +kernel
theorem z17_35 {st : List Value} {w : pm_H} {b1 : Option Value} {x0 : Nat} : pm_ev 17 35 [some (.ref x0), b1] st w = pm_ev 17 36 [some (.ref x0), b1] (.ref x0 :: st) w := pm_ny pt_17 d17_35 rfl rfl rfl
theorem d17_36 : decode cX2_readShares 36 = .ok (.invokevirtual 81, 3) := by decide +kernel
theorem z17_36 {w : pm_H} {b0 b1 : Option Value} {x0 : Nat} : pm_ev 17 36 [b0, b1] [.ref x0] w = pm_k 17 39 [b0, b1] [] (pm_vc (w x0) 2 (pm_call 20 [.ref x0] w)) := pm_nv pt_17 pt_20 pt_M_2_81 d17_36 ⟨rfl, rfl⟩ ⟨⟨rfl, Nat.le_of_ble_eq_true rfl, Nat.le_of_ble_eq_true rfl, Nat.le_of_ble_eq_true rfl, Nat.le_of_ble_eq_true rfl⟩, rfl⟩
theorem d17_39 : decode cX2_readShares 39 = .ok (.ireturn, 1) := by decide +kernel
theorem z17_39 {w : pm_H} {pl : pm_L} {x0 : Int32} : pm_ev 17 39 pl [.int x0] w = pm_zr x0 w := pm_nz pt_17 d17_39
theorem d18_0 : decode cX2_isWord 0 = .ok (.aload_n 0, 1) := by decide +kernel
theorem z18_0 {st : List Value} {w : pm_H} {b1 b2 : Option Value} {x0 : Nat} : pm_ev 18 0 [some (.ref x0), b1, b2] st w = pm_ev 18 1 [some (.ref x0), b1, b2] (.ref x0 :: st) w := pm_ny pt_18 d18_0 rfl rfl rfl
theorem d18_1 : decode cX2_isWord 1 = .ok (.getfield 33, 3) := by decide +kernel
theorem z18_1 {st : List Value} {w : pm_H} {pl : pm_L} {x0 : Nat} : pm_ev 18 1 pl (.ref x0 :: st) w = pm_kv 18 4 pl st w (pm_gf (w x0) 2 5) := pm_ng pt_18 pt_F_2_33 d18_1
theorem d18_4 : decode cX2_isWord 4 = .ok (.iconst 1, 1) := by decide +kernel
theorem z18_4 {st : List Value} {w : pm_H} {pl : pm_L} : pm_ev 18 4 pl st w = pm_ev 18 5 pl (.int 1 :: st) w := pm_ny pt_18 d18_4 rfl rfl rfl
theorem d18_5 : decode cX2_isWord 5 = .ok (.if_icmp .ne 19, 3) := by decide +kernel
theorem z18_5 {st : List Value} {w : pm_H} {pl : pm_L} {x0 x1 : Int32} : pm_ev 18 5 pl (.int x1 :: .int x0 :: st) w = if x0 = x1 then pm_ev 18 8 pl st w else pm_ev 18 24 pl st w := pm_nin (c := ¬ x0 = x1) pt_18 d18_5 rfl rfl rfl Iff.rfl
theorem d18_8 : decode cX2_isWord 8 = .ok (.aload_n 0, 1) := by decide +kernel
theorem z18_8 {st : List Value} {w : pm_H} {b1 b2 : Option Value} {x0 : Nat} : pm_ev 18 8 [some (.ref x0), b1, b2] st w = pm_ev 18 9 [some (.ref x0), b1, b2] (.ref x0 :: st) w := pm_ny pt_18 d18_8 rfl rfl rfl
theorem d18_9 : decode cX2_isWord 9 = .ok (.getfield 27, 3) := by decide +kernel
theorem z18_9 {st : List Value} {w : pm_H} {pl : pm_L} {x0 : Nat} : pm_ev 18 9 pl (.ref x0 :: st) w = pm_kv 18 12 pl st w (pm_gf (w x0) 2 4) := pm_ng pt_18 pt_F_2_27 d18_9
theorem d18_12 : decode cX2_isWord 12 = .ok (.aload_n 0, 1) := by decide +kernel
theorem z18_12 {st : List Value} {w : pm_H} {b1 b2 : Option Value} {x0 : Nat} : pm_ev 18 12 [some (.ref x0), b1, b2] st w = pm_ev 18 13 [some (.ref x0), b1, b2] (.ref x0 :: st) w := pm_ny pt_18 d18_12 rfl rfl rfl
theorem d18_13 : decode cX2_isWord 13 = .ok (.getfield 151, 3) := by decide +kernel
theorem z18_13 {st : List Value} {w : pm_H} {pl : pm_L} {x0 : Nat} : pm_ev 18 13 pl (.ref x0 :: st) w = pm_kv 18 16 pl st w (pm_gf (w x0) 2 3) := pm_ng pt_18 pt_F_2_151 d18_13
theorem d18_16 : decode cX2_isWord 16 = .ok (.isub, 1) := by decide +kernel
theorem z18_16 {st : List Value} {w : pm_H} {pl : pm_L} {x0 x1 : Int32} : pm_ev 18 16 pl (.int x1 :: .int x0 :: st) w = pm_ev 18 17 pl (.int (x0 - x1) :: st) w := pm_ny pt_18 d18_16 rfl rfl rfl
theorem d18_17 : decode cX2_isWord 17 = .ok (.aload_n 1, 1) := by decide +kernel
theorem z18_17 {st : List Value} {w : pm_H} {b0 b2 : Option Value} {x0 : Nat} : pm_ev 18 17 [b0, some (.ref x0), b2] st w = pm_ev 18 18 [b0, some (.ref x0), b2] (.ref x0 :: st) w := pm_ny pt_18 d18_17 rfl rfl rfl
theorem d18_18 : decode cX2_isWord 18 = .ok (.invokevirtual 154, 3) := by decide +kernel
theorem z18_18 {w : pm_H} {b0 b1 b2 : Option Value} {x0 : Nat} {x1 : Int32} : pm_ev 18 18 [b0, b1, b2] [.ref x0, .int x1] w = pm_kv 18 21 [b0, b1, b2] [.int x1] w (pm_sc 3 [.ref x0]) := pm_nsc pt_18 pt_M_2_154 (Or.inl rfl) d18_18 ⟨rfl, rfl⟩ ⟨rfl, Nat.le_of_ble_eq_true rfl, Nat.le_of_ble_eq_true rfl, Nat.le_of_ble_eq_true rfl⟩
theorem d18_21 : decode cX2_isWord 21 = .ok (.if_icmp .eq 5, 3) := by decide +kernel
theorem z18_21 {st : List Value} {w : pm_H} {pl : pm_L} {x0 x1 : Int32} : pm_ev 18 21 pl (.int x1 :: .int x0 :: st) w = if x0 = x1 then pm_ev 18 26 pl st w else pm_ev 18 24 pl st w := pm_nif pt_18 d18_21 rfl rfl rfl
theorem d18_24 : decode cX2_isWord 24 = .ok (.iconst 0, 1) := by decide +kernel
theorem z18_24 {st : List Value} {w : pm_H} {pl : pm_L} : pm_ev 18 24 pl st w = pm_ev 18 25 pl (.int 0 :: st) w := pm_ny pt_18 d18_24 rfl rfl rfl
theorem d18_25 : decode cX2_isWord 25 = .ok (.ireturn, 1) := by decide +kernel
theorem z18_25 {w : pm_H} {pl : pm_L} {x0 : Int32} : pm_ev 18 25 pl [.int x0] w = pm_zr x0 w := pm_nz pt_18 d18_25
theorem d18_26 : decode cX2_isWord 26 = .ok (.iconst 0, 1) := by decide +kernel
theorem z18_26 {st : List Value} {w : pm_H} {pl : pm_L} : pm_ev 18 26 pl st w = pm_ev 18 27 pl (.int 0 :: st) w := pm_ny pt_18 d18_26 rfl rfl rfl
theorem d18_27 : decode cX2_isWord 27 = .ok (.istore_n 2, 1) := by decide +kernel
theorem z18_27 {st : List Value} {w : pm_H} {b0 b2 : Option Value} {x0 : Int32} {x9 : Nat} : pm_ev 18 27 [b0, some (.ref x9), b2] (.int x0 :: st) w = pm_ev 18 28 [b0, some (.ref x9), some (.int x0)] st w := pm_ny pt_18 d18_27 rfl rfl rfl
theorem d18_28 : decode cX2_isWord 28 = .ok (.iload_n 2, 1) := by decide +kernel
theorem z18_28 {st : List Value} {w : pm_H} {b0 b1 : Option Value} {x0 : Int32} : pm_ev 18 28 [b0, b1, some (.int x0)] st w = pm_ev 18 29 [b0, b1, some (.int x0)] (.int x0 :: st) w := pm_ny pt_18 d18_28 rfl rfl rfl
theorem d18_29 : decode cX2_isWord 29 = .ok (.aload_n 1, 1) := by decide +kernel
theorem z18_29 {st : List Value} {w : pm_H} {b0 b2 : Option Value} {x0 : Nat} : pm_ev 18 29 [b0, some (.ref x0), b2] st w = pm_ev 18 30 [b0, some (.ref x0), b2] (.ref x0 :: st) w := pm_ny pt_18 d18_29 rfl rfl rfl
theorem d18_30 : decode cX2_isWord 30 = .ok (.invokevirtual 154, 3) := by decide +kernel
theorem z18_30 {w : pm_H} {b0 b1 b2 : Option Value} {x0 : Nat} {x1 : Int32} : pm_ev 18 30 [b0, b1, b2] [.ref x0, .int x1] w = pm_kv 18 33 [b0, b1, b2] [.int x1] w (pm_sc 3 [.ref x0]) := pm_nsc pt_18 pt_M_2_154 (Or.inl rfl) d18_30 ⟨rfl, rfl⟩ ⟨rfl, Nat.le_of_ble_eq_true rfl, Nat.le_of_ble_eq_true rfl, Nat.le_of_ble_eq_true rfl⟩
theorem d18_33 : decode cX2_isWord 33 = .ok (.if_icmp .ge 33, 3) := by decide +kernel
theorem z18_33 {st : List Value} {w : pm_H} {pl : pm_L} {x0 x1 : Int32} : pm_ev 18 33 pl (.int x1 :: .int x0 :: st) w = if x0 < x1 then pm_ev 18 36 pl st w else pm_ev 18 66 pl st w := pm_nin (c := x1 ≤ x0) pt_18 d18_33 rfl rfl rfl pm_ge
theorem d18_36 : decode cX2_isWord 36 = .ok (.aload_n 0, 1) := by decide +kernel
theorem z18_36 {st : List Value} {w : pm_H} {b1 b2 : Option Value} {x0 : Nat} : pm_ev 18 36 [some (.ref x0), b1, b2] st w = pm_ev 18 37 [some (.ref x0), b1, b2] (.ref x0 :: st) w := pm_ny pt_18 d18_36 rfl rfl rfl
theorem d18_37 : decode cX2_isWord 37 = .ok (.getfield 9, 3) := by decide +kernel
theorem z18_37 {st : List Value} {w : pm_H} {pl : pm_L} {x0 : Nat} : pm_ev 18 37 pl (.ref x0 :: st) w = pm_kv 18 40 pl st w (pm_gf (w x0) 2 0) := pm_ng pt_18 pt_F_2_9 d18_37
theorem d18_40 : decode cX2_isWord 40 = .ok (.getfield 158, 3) := by decide +kernel
theorem z18_40 {st : List Value} {w : pm_H} {pl : pm_L} {x0 : Nat} : pm_ev 18 40 pl (.ref x0 :: st) w = pm_kv 18 43 pl st w (pm_gf (w x0) 3 0) := pm_ng pt_18 pt_F_2_158 d18_40
theorem d18_43 : decode cX2_isWord 43 = .ok (.aload_n 0, 1) := by decide +kernel
theorem z18_43 {st : List Value} {w : pm_H} {b1 b2 : Option Value} {x0 : Nat} : pm_ev 18 43 [some (.ref x0), b1, b2] st w = pm_ev 18 44 [some (.ref x0), b1, b2] (.ref x0 :: st) w := pm_ny pt_18 d18_43 rfl rfl rfl
theorem d18_44 : decode cX2_isWord 44 = .ok (.getfield 151, 3) := by decide +kernel
theorem z18_44 {st : List Value} {w : pm_H} {pl : pm_L} {x0 : Nat} : pm_ev 18 44 pl (.ref x0 :: st) w = pm_kv 18 47 pl st w (pm_gf (w x0) 2 3) := pm_ng pt_18 pt_F_2_151 d18_44
theorem d18_47 : decode cX2_isWord 47 = .ok (.iload_n 2, 1) := by decide +kernel
theorem z18_47 {st : List Value} {w : pm_H} {b0 b1 : Option Value} {x0 : Int32} : pm_ev 18 47 [b0, b1, some (.int x0)] st w = pm_ev 18 48 [b0, b1, some (.int x0)] (.int x0 :: st) w := pm_ny pt_18 d18_47 rfl rfl rfl
theorem d18_48 : decode cX2_isWord 48 = .ok (.iadd, 1) := by decide +kernel
theorem z18_48 {st : List Value} {w : pm_H} {pl : pm_L} {x0 x1 : Int32} : pm_ev 18 48 pl (.int x1 :: .int x0 :: st) w = pm_ev 18 49 pl (.int (x0 + x1) :: st) w := pm_ny pt_18 d18_48 rfl rfl rfl
theorem d18_49 : decode cX2_isWord 49 = .ok (.baload, 1) := by decide +kernel
theorem z18_49 {st : List Value} {w : pm_H} {pl : pm_L} {x0 : Nat} {x1 : Int32} : pm_ev 18 49 pl (.int x1 :: .ref x0 :: st) w = pm_kv 18 50 pl st w (pm_ia (w x0) 2 x1) := pm_nba pt_18 d18_49
theorem d18_50 : decode cX2_isWord 50 = .ok (.aload_n 1, 1) := by decide +kernel
theorem z18_50 {st : List Value} {w : pm_H} {b0 b2 : Option Value} {x0 : Nat} : pm_ev 18 50 [b0, some (.ref x0), b2] st w = pm_ev 18 51 [b0, some (.ref x0), b2] (.ref x0 :: st) w := pm_ny pt_18 d18_50 rfl rfl rfl
theorem d18_51 : decode cX2_isWord 51 = .ok (.iload_n 2, 1) := by decide +kernel
theorem z18_51 {st : List Value} {w : pm_H} {b0 b1 : Option Value} {x0 : Int32} : pm_ev 18 51 [b0, b1, some (.int x0)] st w = pm_ev 18 52 [b0, b1, some (.int x0)] (.int x0 :: st) w := pm_ny pt_18 d18_51 rfl rfl rfl
theorem d18_52 : decode cX2_isWord 52 = .ok (.invokevirtual 162, 3) := by decide +kernel
theorem z18_52 {w : pm_H} {b0 b1 b2 : Option Value} {x0 : Int32} {x1 : Nat} {x2 : Int32} : pm_ev 18 52 [b0, b1, b2] [.int x0, .ref x1, .int x2] w = pm_kv 18 55 [b0, b1, b2] [.int x2] w (pm_sc 4 [.ref x1, .int x0]) := pm_nsc pt_18 pt_M_2_162 (Or.inr rfl) d18_52 ⟨rfl, rfl⟩ ⟨rfl, Nat.le_of_ble_eq_true rfl, Nat.le_of_ble_eq_true rfl, Nat.le_of_ble_eq_true rfl⟩
theorem d18_55 : decode cX2_isWord 55 = .ok (.if_icmp .eq 5, 3) := by decide +kernel
theorem z18_55 {st : List Value} {w : pm_H} {pl : pm_L} {x0 x1 : Int32} : pm_ev 18 55 pl (.int x1 :: .int x0 :: st) w = if x0 = x1 then pm_ev 18 60 pl st w else pm_ev 18 58 pl st w := pm_nif pt_18 d18_55 rfl rfl rfl
theorem d18_58 : decode cX2_isWord 58 = .ok (.iconst 0, 1) := by decide +kernel
theorem z18_58 {st : List Value} {w : pm_H} {pl : pm_L} : pm_ev 18 58 pl st w = pm_ev 18 59 pl (.int 0 :: st) w := pm_ny pt_18 d18_58 rfl rfl rfl
theorem d18_59 : decode cX2_isWord 59 = .ok (.ireturn, 1) := by decide +kernel
theorem z18_59 {w : pm_H} {pl : pm_L} {x0 : Int32} : pm_ev 18 59 pl [.int x0] w = pm_zr x0 w := pm_nz pt_18 d18_59
theorem d18_60 : decode cX2_isWord 60 = .ok (.iinc 2 1, 3) := by decide +kernel
theorem z18_60 {st : List Value} {w : pm_H} {b0 : Option Value} {x0 : Int32} {x9 : Nat} : pm_ev 18 60 [b0, some (.ref x9), some (.int x0)] st w = pm_ev 18 63 [b0, some (.ref x9), some (.int (x0 + 1))] st w := pm_ny pt_18 d18_60 rfl rfl rfl
theorem d18_63 : decode cX2_isWord 63 = .ok (.goto (-35), 3) := by decide +kernel
theorem z18_63 {st : List Value} {w : pm_H} {pl : pm_L} : pm_ev 18 63 pl st w = pm_ev 18 28 pl st w := pm_ny pt_18 d18_63 rfl rfl rfl
theorem d18_66 : decode cX2_isWord 66 = .ok (.iconst 1, 1) := by decide +kernel
theorem z18_66 {st : List Value} {w : pm_H} {pl : pm_L} : pm_ev 18 66 pl st w = pm_ev 18 67 pl (.int 1 :: st) w := pm_ny pt_18 d18_66 rfl rfl rfl
theorem d18_67 : decode cX2_isWord 67 = .ok (.ireturn, 1) := by decide +kernel
theorem z18_67 {w : pm_H} {pl : pm_L} {x0 : Int32} : pm_ev 18 67 pl [.int x0] w = pm_zr x0 w := pm_nz pt_18 d18_67
theorem d19_0 : decode cX2_number 0 = .ok (.aload_n 0, 1) := by decide +kernel
theorem z19_0 {st : List Value} {w : pm_H} {b1 b2 : Option Value} {x0 : Nat} : pm_ev 19 0 [some (.ref x0), b1, b2] st w = pm_ev 19 1 [some (.ref x0), b1, b2] (.ref x0 :: st) w := pm_ny pt_19 d19_0 rfl rfl rfl
theorem d19_1 : decode cX2_number 1 = .ok (.invokevirtual 30, 3) := by decide +kernel
theorem z19_1 {w : pm_H} {b0 b1 b2 : Option Value} {x0 : Nat} : pm_ev 19 1 [b0, b1, b2] [.ref x0] w = pm_k 19 4 [b0, b1, b2] [] (pm_vc (w x0) 2 (pm_call 13 [.ref x0] w)) := pm_nv pt_19 pt_13 pt_M_2_30 d19_1 ⟨rfl, rfl⟩ ⟨⟨rfl, Nat.le_of_ble_eq_true rfl, Nat.le_of_ble_eq_true rfl, Nat.le_of_ble_eq_true rfl, Nat.le_of_ble_eq_true rfl⟩, rfl⟩
theorem d19_4 : decode cX2_number 4 = .ok (.aload_n 0, 1) := by decide +kernel
theorem z19_4 {st : List Value} {w : pm_H} {b1 b2 : Option Value} {x0 : Nat} : pm_ev 19 4 [some (.ref x0), b1, b2] st w = pm_ev 19 5 [some (.ref x0), b1, b2] (.ref x0 :: st) w := pm_ny pt_19 d19_4 rfl rfl rfl
theorem d19_5 : decode cX2_number 5 = .ok (.getfield 33, 3) := by decide +kernel
theorem z19_5 {st : List Value} {w : pm_H} {pl : pm_L} {x0 : Nat} : pm_ev 19 5 pl (.ref x0 :: st) w = pm_kv 19 8 pl st w (pm_gf (w x0) 2 5) := pm_ng pt_19 pt_F_2_33 d19_5
theorem d19_8 : decode cX2_number 8 = .ok (.iconst 2, 1) := by decide +kernel
theorem z19_8 {st : List Value} {w : pm_H} {pl : pm_L} : pm_ev 19 8 pl st w = pm_ev 19 9 pl (.int 2 :: st) w := pm_ny pt_19 d19_8 rfl rfl rfl
theorem d19_9 : decode cX2_number 9 = .ok (.if_icmp .eq 9, 3) := by decide +kernel
theorem z19_9 {st : List Value} {w : pm_H} {pl : pm_L} {x0 x1 : Int32} : pm_ev 19 9 pl (.int x1 :: .int x0 :: st) w = if x0 = x1 then pm_ev 19 18 pl st w else pm_ev 19 12 pl st w := pm_nif pt_19 d19_9 rfl rfl rfl
theorem d19_12 : decode cX2_number 12 = .ok (.aload_n 0, 1) := by decide +kernel
theorem z19_12 {st : List Value} {w : pm_H} {b1 b2 : Option Value} {x0 : Nat} : pm_ev 19 12 [some (.ref x0), b1, b2] st w = pm_ev 19 13 [some (.ref x0), b1, b2] (.ref x0 :: st) w := pm_ny pt_19 d19_12 rfl rfl rfl
theorem d19_13 : decode cX2_number 13 = .ok (.iconst 1, 1) := by decide +kernel
theorem z19_13 {st : List Value} {w : pm_H} {pl : pm_L} : pm_ev 19 13 pl st w = pm_ev 19 14 pl (.int 1 :: st) w := pm_ny pt_19 d19_13 rfl rfl rfl
theorem d19_14 : decode cX2_number 14 = .ok (.invokevirtual 60, 3) := by decide +kernel
theorem z19_14 {w : pm_H} {b0 b1 b2 : Option Value} {x0 : Int32} {x1 : Nat} : pm_ev 19 14 [b0, b1, b2] [.int x0, .ref x1] w = pm_k 19 17 [b0, b1, b2] [] (pm_vc (w x1) 2 (pm_call 16 [.ref x1, .int x0] w)) := pm_nv pt_19 pt_16 pt_M_2_60 d19_14 ⟨rfl, rfl⟩ ⟨⟨rfl, Nat.le_of_ble_eq_true rfl, Nat.le_of_ble_eq_true rfl, Nat.le_of_ble_eq_true rfl, Nat.le_of_ble_eq_true rfl⟩, rfl⟩
theorem d19_17 : decode cX2_number 17 = .ok (.ireturn, 1) := by decide +kernel
theorem z19_17 {w : pm_H} {pl : pm_L} {x0 : Int32} : pm_ev 19 17 pl [.int x0] w = pm_zr x0 w := pm_nz pt_19 d19_17
theorem d19_18 : decode cX2_number 18 = .ok (.aload_n 0, 1) := by decide +kernel
theorem z19_18 {st : List Value} {w : pm_H} {b1 b2 : Option Value} {x0 : Nat} : pm_ev 19 18 [some (.ref x0), b1, b2] st w = pm_ev 19 19 [some (.ref x0), b1, b2] (.ref x0 :: st) w := pm_ny pt_19 d19_18 rfl rfl rfl
theorem d19_19 : decode cX2_number 19 = .ok (.getfield 75, 3) := by decide +kernel
theorem z19_19 {st : List Value} {w : pm_H} {pl : pm_L} {x0 : Nat} : pm_ev 19 19 pl (.ref x0 :: st) w = pm_kv 19 22 pl st w (pm_gf (w x0) 2 6) := pm_ng pt_19 pt_F_2_75 d19_19
theorem d19_22 : decode cX2_number 22 = .ok (.iload_n 1, 1) := by decide +kernel
theorem z19_22 {st : List Value} {w : pm_H} {b0 b2 : Option Value} {x0 : Int32} : pm_ev 19 22 [b0, some (.int x0), b2] st w = pm_ev 19 23 [b0, some (.int x0), b2] (.int x0 :: st) w := pm_ny pt_19 d19_22 rfl rfl rfl
theorem d19_23 : decode cX2_number 23 = .ok (.if_icmp .lt 11, 3) := by decide +kernel
theorem z19_23 {st : List Value} {w : pm_H} {pl : pm_L} {x0 x1 : Int32} : pm_ev 19 23 pl (.int x1 :: .int x0 :: st) w = if x0 < x1 then pm_ev 19 34 pl st w else pm_ev 19 26 pl st w := pm_nif pt_19 d19_23 rfl rfl rfl
theorem d19_26 : decode cX2_number 26 = .ok (.aload_n 0, 1) := by decide +kernel
theorem z19_26 {st : List Value} {w : pm_H} {b1 b2 : Option Value} {x0 : Nat} : pm_ev 19 26 [some (.ref x0), b1, b2] st w = pm_ev 19 27 [some (.ref x0), b1, b2] (.ref x0 :: st) w := pm_ny pt_19 d19_26 rfl rfl rfl
theorem d19_27 : decode cX2_number 27 = .ok (.getfield 75, 3) := by decide +kernel
theorem z19_27 {st : List Value} {w : pm_H} {pl : pm_L} {x0 : Nat} : pm_ev 19 27 pl (.ref x0 :: st) w = pm_kv 19 30 pl st w (pm_gf (w x0) 2 6) := pm_ng pt_19 pt_F_2_75 d19_27
theorem d19_30 : decode cX2_number 30 = .ok (.iload_n 2, 1) := by decide +kernel
theorem z19_30 {st : List Value} {w : pm_H} {b0 b1 : Option Value} {x0 : Int32} : pm_ev 19 30 [b0, b1, some (.int x0)] st w = pm_ev 19 31 [b0, b1, some (.int x0)] (.int x0 :: st) w := pm_ny pt_19 d19_30 rfl rfl rfl
theorem d19_31 : decode cX2_number 31 = .ok (.if_icmp .le 11, 3) := by decide +kernel
theorem z19_31 {st : List Value} {w : pm_H} {pl : pm_L} {x0 x1 : Int32} : pm_ev 19 31 pl (.int x1 :: .int x0 :: st) w = if x1 < x0 then pm_ev 19 34 pl st w else pm_ev 19 42 pl st w := pm_nin (c := x0 ≤ x1) pt_19 d19_31 rfl rfl rfl pm_ge
theorem d19_34 : decode cX2_number 34 = .ok (.aload_n 0, 1) := by decide +kernel
theorem z19_34 {st : List Value} {w : pm_H} {b1 b2 : Option Value} {x0 : Nat} : pm_ev 19 34 [some (.ref x0), b1, b2] st w = pm_ev 19 35 [some (.ref x0), b1, b2] (.ref x0 :: st) w := pm_ny pt_19 d19_34 rfl rfl rfl
theorem d19_35 : decode cX2_number 35 = .ok (.iconst 2, 1) := by decide +kernel
theorem z19_35 {st : List Value} {w : pm_H} {pl : pm_L} : pm_ev 19 35 pl st w = pm_ev 19 36 pl (.int 2 :: st) w := pm_ny pt_19 d19_35 rfl rfl rfl
theorem d19_36 : decode cX2_number 36 = .ok (.invokevirtual 60, 3) := by decide +kernel
theorem z19_36 {w : pm_H} {b0 b1 b2 : Option Value} {x0 : Int32} {x1 : Nat} : pm_ev 19 36 [b0, b1, b2] [.int x0, .ref x1] w = pm_k 19 39 [b0, b1, b2] [] (pm_vc (w x1) 2 (pm_call 16 [.ref x1, .int x0] w)) := pm_nv pt_19 pt_16 pt_M_2_60 d19_36 ⟨rfl, rfl⟩ ⟨⟨rfl, Nat.le_of_ble_eq_true rfl, Nat.le_of_ble_eq_true rfl, Nat.le_of_ble_eq_true rfl, Nat.le_of_ble_eq_true rfl⟩, rfl⟩
theorem d19_39 : decode cX2_number 39 = .ok (.ifCond .eq 7, 3) := by decide +kernel
theorem z19_39 {st : List Value} {w : pm_H} {pl : pm_L} {x0 : Int32} : pm_ev 19 39 pl (.int x0 :: st) w = if x0 = 0 then pm_ev 19 46 pl st w else pm_ev 19 42 pl st w := pm_nif pt_19 d19_39 rfl rfl rfl
theorem d19_42 : decode cX2_number 42 = .ok (.iconst 1, 1) := by decide +kernel
theorem z19_42 {st : List Value} {w : pm_H} {pl : pm_L} : pm_ev 19 42 pl st w = pm_ev 19 43 pl (.int 1 :: st) w := pm_ny pt_19 d19_42 rfl rfl rfl
theorem d19_43 : decode cX2_number 43 = .ok (.goto 4, 3) := by decide +kernel
theorem z19_43 {st : List Value} {w : pm_H} {pl : pm_L} : pm_ev 19 43 pl st w = pm_ev 19 47 pl st w := pm_ny pt_19 d19_43 rfl rfl rfl
theorem d19_46 : decode cX2_number 46 = .ok (.iconst 0, 1) := by decide +kernel
theorem z19_46 {st : List Value} {w : pm_H} {pl : pm_L} : pm_ev 19 46 pl st w = pm_ev 19 47 pl (.int 0 :: st) w := pm_ny pt_19 d19_46 rfl rfl rfl
theorem d19_47 : decode cX2_number 47 = .ok (.ireturn, 1) := by decide +kernel
theorem z19_47 {w : pm_H} {pl : pm_L} {x0 : Int32} : pm_ev 19 47 pl [.int x0] w = pm_zr x0 w := pm_nz pt_19 d19_47
theorem d20_0 : decode cX2_semicolon 0 = .ok (.aload_n 0, 1) := by decide +kernel
theorem z20_0 {st : List Value} {w : pm_H}  {x0 : Nat} : pm_ev 20 0 [some (.ref x0)] st w = pm_ev 20 1 [some (.ref x0)] (.ref x0 :: st) w := pm_ny pt_20 d20_0 rfl rfl rfl
theorem d20_1 : decode cX2_semicolon 1 = .ok (.invokevirtual 30, 3) := by decide +kernel
theorem z20_1 {w : pm_H} {b0 : Option Value} {x0 : Nat} : pm_ev 20 1 [b0] [.ref x0] w = pm_k 20 4 [b0] [] (pm_vc (w x0) 2 (pm_call 13 [.ref x0] w)) := pm_nv pt_20 pt_13 pt_M_2_30 d20_1 ⟨rfl, rfl⟩ ⟨⟨rfl, Nat.le_of_ble_eq_true rfl, Nat.le_of_ble_eq_true rfl, Nat.le_of_ble_eq_true rfl, Nat.le_of_ble_eq_true rfl⟩, rfl⟩
theorem d20_4 : decode cX2_semicolon 4 = .ok (.aload_n 0, 1) := by decide +kernel
theorem z20_4 {st : List Value} {w : pm_H}  {x0 : Nat} : pm_ev 20 4 [some (.ref x0)] st w = pm_ev 20 5 [some (.ref x0)] (.ref x0 :: st) w := pm_ny pt_20 d20_4 rfl rfl rfl
theorem d20_5 : decode cX2_semicolon 5 = .ok (.getfield 33, 3) := by decide +kernel
theorem z20_5 {st : List Value} {w : pm_H} {pl : pm_L} {x0 : Nat} : pm_ev 20 5 pl (.ref x0 :: st) w = pm_kv 20 8 pl st w (pm_gf (w x0) 2 5) := pm_ng pt_20 pt_F_2_33 d20_5
theorem d20_8 : decode cX2_semicolon 8 = .ok (.iconst 3, 1) := by decide +kernel
theorem z20_8 {st : List Value} {w : pm_H} {pl : pm_L} : pm_ev 20 8 pl st w = pm_ev 20 9 pl (.int 3 :: st) w := pm_ny pt_20 d20_8 rfl rfl rfl
theorem d20_9 : decode cX2_semicolon 9 = .ok (.if_icmp .eq 11, 3) := by decide +kernel
theorem z20_9 {st : List Value} {w : pm_H} {pl : pm_L} {x0 x1 : Int32} : pm_ev 20 9 pl (.int x1 :: .int x0 :: st) w = if x0 = x1 then pm_ev 20 20 pl st w else pm_ev 20 12 pl st w := pm_nif pt_20 d20_9 rfl rfl rfl
theorem d20_12 : decode cX2_semicolon 12 = .ok (.aload_n 0, 1) := by decide +kernel
theorem z20_12 {st : List Value} {w : pm_H}  {x0 : Nat} : pm_ev 20 12 [some (.ref x0)] st w = pm_ev 20 13 [some (.ref x0)] (.ref x0 :: st) w := pm_ny pt_20 d20_12 rfl rfl rfl
theorem d20_13 : decode cX2_semicolon 13 = .ok (.iconst 1, 1) := by decide +kernel
theorem z20_13 {st : List Value} {w : pm_H} {pl : pm_L} : pm_ev 20 13 pl st w = pm_ev 20 14 pl (.int 1 :: st) w := pm_ny pt_20 d20_13 rfl rfl rfl
theorem d20_14 : decode cX2_semicolon 14 = .ok (.invokevirtual 60, 3) := by decide +kernel
theorem z20_14 {w : pm_H} {b0 : Option Value} {x0 : Int32} {x1 : Nat} : pm_ev 20 14 [b0] [.int x0, .ref x1] w = pm_k 20 17 [b0] [] (pm_vc (w x1) 2 (pm_call 16 [.ref x1, .int x0] w)) := pm_nv pt_20 pt_16 pt_M_2_60 d20_14 ⟨rfl, rfl⟩ ⟨⟨rfl, Nat.le_of_ble_eq_true rfl, Nat.le_of_ble_eq_true rfl, Nat.le_of_ble_eq_true rfl, Nat.le_of_ble_eq_true rfl⟩, rfl⟩
theorem d20_17 : decode cX2_semicolon 17 = .ok (.ifCond .eq 7, 3) := by decide +kernel
theorem z20_17 {st : List Value} {w : pm_H} {pl : pm_L} {x0 : Int32} : pm_ev 20 17 pl (.int x0 :: st) w = if x0 = 0 then pm_ev 20 24 pl st w else pm_ev 20 20 pl st w := pm_nif pt_20 d20_17 rfl rfl rfl
theorem d20_20 : decode cX2_semicolon 20 = .ok (.iconst 1, 1) := by decide +kernel
theorem z20_20 {st : List Value} {w : pm_H} {pl : pm_L} : pm_ev 20 20 pl st w = pm_ev 20 21 pl (.int 1 :: st) w := pm_ny pt_20 d20_20 rfl rfl rfl
theorem d20_21 : decode cX2_semicolon 21 = .ok (.goto 4, 3) := by decide +kernel
theorem z20_21 {st : List Value} {w : pm_H} {pl : pm_L} : pm_ev 20 21 pl st w = pm_ev 20 25 pl st w := pm_ny pt_20 d20_21 rfl rfl rfl
theorem d20_24 : decode cX2_semicolon 24 = .ok (.iconst 0, 1) := by decide +kernel
theorem z20_24 {st : List Value} {w : pm_H} {pl : pm_L} : pm_ev 20 24 pl st w = pm_ev 20 25 pl (.int 0 :: st) w := pm_ny pt_20 d20_24 rfl rfl rfl
theorem d20_25 : decode cX2_semicolon 25 = .ok (.ireturn, 1) := by decide +kernel
theorem z20_25 {w : pm_H} {pl : pm_L} {x0 : Int32} : pm_ev 20 25 pl [.int x0] w = pm_zr x0 w := pm_nz pt_20 d20_25
theorem d21_0 : decode cX2_readQuarter 0 = .ok (.aload_n 0, 1) := by decide +kernel
theorem z21_0 {st : List Value} {w : pm_H} {b1 b2 b3 : Option Value} {x0 : Nat} : pm_ev 21 0 [some (.ref x0), b1, b2, b3] st w = pm_ev 21 1 [some (.ref x0), b1, b2, b3] (.ref x0 :: st) w := pm_ny pt_21 d21_0 rfl rfl rfl
theorem d21_1 : decode cX2_readQuarter 1 = .ok (.ldc 85, 2) := by decide +kernel
theorem z21_1 {st : List Value} {w : pm_H} {pl : pm_L} : pm_ev 21 1 pl st w = pm_ev 21 3 pl (.ref 1001 :: st) w := pm_nk pt_21 pt_K_2_85 (by decide) d21_1
theorem d21_3 : decode cX2_readQuarter 3 = .ok (.invokevirtual 87, 3) := by decide +kernel
theorem z21_3 {w : pm_H} {b0 b1 b2 b3 : Option Value} {x0 : Nat} {x1 : Nat} : pm_ev 21 3 [b0, b1, b2, b3] [.ref x0, .ref x1] w = pm_k 21 6 [b0, b1, b2, b3] [] (pm_vc (w x1) 2 (pm_call 22 [.ref x1, .ref x0] w)) := pm_nv pt_21 pt_22 pt_M_2_87 d21_3 ⟨rfl, rfl⟩ ⟨⟨rfl, Nat.le_of_ble_eq_true rfl, Nat.le_of_ble_eq_true rfl, Nat.le_of_ble_eq_true rfl, Nat.le_of_ble_eq_true rfl⟩, rfl⟩
theorem d21_6 : decode cX2_readQuarter 6 = .ok (.ifCond .ne 5, 3) := by decide +kernel
theorem z21_6 {st : List Value} {w : pm_H} {pl : pm_L} {x0 : Int32} : pm_ev 21 6 pl (.int x0 :: st) w = if x0 = 0 then pm_ev 21 9 pl st w else pm_ev 21 11 pl st w := pm_nin (c := ¬ x0 = 0) pt_21 d21_6 rfl rfl rfl Iff.rfl
theorem d21_9 : decode cX2_readQuarter 9 = .ok (.iconst 0, 1) := by decide +kernel
theorem z21_9 {st : List Value} {w : pm_H} {pl : pm_L} : pm_ev 21 9 pl st w = pm_ev 21 10 pl (.int 0 :: st) w := pm_ny pt_21 d21_9 rfl rfl rfl
theorem d21_10 : decode cX2_readQuarter 10 = .ok (.ireturn, 1) := by decide +kernel
theorem z21_10 {w : pm_H} {pl : pm_L} {x0 : Int32} : pm_ev 21 10 pl [.int x0] w = pm_zr x0 w := pm_nz pt_21 d21_10
theorem d21_11 : decode cX2_readQuarter 11 = .ok (.aload_n 0, 1) := by decide +kernel
theorem z21_11 {st : List Value} {w : pm_H} {b1 b2 b3 : Option Value} {x0 : Nat} : pm_ev 21 11 [some (.ref x0), b1, b2, b3] st w = pm_ev 21 12 [some (.ref x0), b1, b2, b3] (.ref x0 :: st) w := pm_ny pt_21 d21_11 rfl rfl rfl
theorem d21_12 : decode cX2_readQuarter 12 = .ok (.invokevirtual 30, 3) := by decide +kernel
theorem z21_12 {w : pm_H} {b0 b1 b2 b3 : Option Value} {x0 : Nat} : pm_ev 21 12 [b0, b1, b2, b3] [.ref x0] w = pm_k 21 15 [b0, b1, b2, b3] [] (pm_vc (w x0) 2 (pm_call 13 [.ref x0] w)) := pm_nv pt_21 pt_13 pt_M_2_30 d21_12 ⟨rfl, rfl⟩ ⟨⟨rfl, Nat.le_of_ble_eq_true rfl, Nat.le_of_ble_eq_true rfl, Nat.le_of_ble_eq_true rfl, Nat.le_of_ble_eq_true rfl⟩, rfl⟩
theorem d21_15 : decode cX2_readQuarter 15 = .ok (.aload_n 0, 1) := by decide +kernel
theorem z21_15 {st : List Value} {w : pm_H} {b1 b2 b3 : Option Value} {x0 : Nat} : pm_ev 21 15 [some (.ref x0), b1, b2, b3] st w = pm_ev 21 16 [some (.ref x0), b1, b2, b3] (.ref x0 :: st) w := pm_ny pt_21 d21_15 rfl rfl rfl
theorem d21_16 : decode cX2_readQuarter 16 = .ok (.ldc 90, 2) := by decide +kernel
theorem z21_16 {st : List Value} {w : pm_H} {pl : pm_L} : pm_ev 21 16 pl st w = pm_ev 21 18 pl (.ref 1002 :: st) w := pm_nk pt_21 pt_K_2_90 (by decide) d21_16
theorem d21_18 : decode cX2_readQuarter 18 = .ok (.invokevirtual 66, 3) := by decide +kernel
theorem z21_18 {w : pm_H} {b0 b1 b2 b3 : Option Value} {x0 : Nat} {x1 : Nat} : pm_ev 21 18 [b0, b1, b2, b3] [.ref x0, .ref x1] w = pm_k 21 21 [b0, b1, b2, b3] [] (pm_vc (w x1) 2 (pm_call 18 [.ref x1, .ref x0] w)) := pm_nv pt_21 pt_18 pt_M_2_66 d21_18 ⟨rfl, rfl⟩ ⟨⟨rfl, Nat.le_of_ble_eq_true rfl, Nat.le_of_ble_eq_true rfl, Nat.le_of_ble_eq_true rfl, Nat.le_of_ble_eq_true rfl⟩, rfl⟩
theorem d21_21 : decode cX2_readQuarter 21 = .ok (.istore_n 3, 1) := by decide +kernel
theorem z21_21 {st : List Value} {w : pm_H} {b0 b1 b3 : Option Value} {x0 : Int32} {x9 : Int32} : pm_ev 21 21 [b0, b1, some (.int x9), b3] (.int x0 :: st) w = pm_ev 21 22 [b0, b1, some (.int x9), some (.int x0)] st w := pm_ny pt_21 d21_21 rfl rfl rfl
theorem d21_22 : decode cX2_readQuarter 22 = .ok (.iload_n 3, 1) := by decide +kernel
theorem z21_22 {st : List Value} {w : pm_H} {b0 b1 b2 : Option Value} {x0 : Int32} : pm_ev 21 22 [b0, b1, b2, some (.int x0)] st w = pm_ev 21 23 [b0, b1, b2, some (.int x0)] (.int x0 :: st) w := pm_ny pt_21 d21_22 rfl rfl rfl
theorem d21_23 : decode cX2_readQuarter 23 = .ok (.ifCond .ne 18, 3) := by decide +kernel
theorem z21_23 {st : List Value} {w : pm_H} {pl : pm_L} {x0 : Int32} : pm_ev 21 23 pl (.int x0 :: st) w = if x0 = 0 then pm_ev 21 26 pl st w else pm_ev 21 41 pl st w := pm_nin (c := ¬ x0 = 0) pt_21 d21_23 rfl rfl rfl Iff.rfl
theorem d21_26 : decode cX2_readQuarter 26 = .ok (.aload_n 0, 1) := by decide +kernel
theorem z21_26 {st : List Value} {w : pm_H} {b1 b2 b3 : Option Value} {x0 : Nat} : pm_ev 21 26 [some (.ref x0), b1, b2, b3] st w = pm_ev 21 27 [some (.ref x0), b1, b2, b3] (.ref x0 :: st) w := pm_ny pt_21 d21_26 rfl rfl rfl
theorem d21_27 : decode cX2_readQuarter 27 = .ok (.ldc 92, 2) := by decide +kernel
theorem z21_27 {st : List Value} {w : pm_H} {pl : pm_L} : pm_ev 21 27 pl st w = pm_ev 21 29 pl (.ref 1003 :: st) w := pm_nk pt_21 pt_K_2_92 (by decide) d21_27
theorem d21_29 : decode cX2_readQuarter 29 = .ok (.invokevirtual 66, 3) := by decide +kernel
theorem z21_29 {w : pm_H} {b0 b1 b2 b3 : Option Value} {x0 : Nat} {x1 : Nat} : pm_ev 21 29 [b0, b1, b2, b3] [.ref x0, .ref x1] w = pm_k 21 32 [b0, b1, b2, b3] [] (pm_vc (w x1) 2 (pm_call 18 [.ref x1, .ref x0] w)) := pm_nv pt_21 pt_18 pt_M_2_66 d21_29 ⟨rfl, rfl⟩ ⟨⟨rfl, Nat.le_of_ble_eq_true rfl, Nat.le_of_ble_eq_true rfl, Nat.le_of_ble_eq_true rfl, Nat.le_of_ble_eq_true rfl⟩, rfl⟩
theorem d21_32 : decode cX2_readQuarter 32 = .ok (.ifCond .ne 9, 3) := by decide +kernel
theorem z21_32 {st : List Value} {w : pm_H} {pl : pm_L} {x0 : Int32} : pm_ev 21 32 pl (.int x0 :: st) w = if x0 = 0 then pm_ev 21 35 pl st w else pm_ev 21 41 pl st w := pm_nin (c := ¬ x0 = 0) pt_21 d21_32 rfl rfl rfl Iff.rfl
theorem d21_35 : decode cX2_readQuarter 35 = .ok (.aload_n 0, 1) := by decide +kernel
theorem z21_35 {st : List Value} {w : pm_H} {b1 b2 b3 : Option Value} {x0 : Nat} : pm_ev 21 35 [some (.ref x0), b1, b2, b3] st w = pm_ev 21 36 [some (.ref x0), b1, b2, b3] (.ref x0 :: st) w := pm_ny pt_21 d21_35 rfl rfl rfl
theorem d21_36 : decode cX2_readQuarter 36 = .ok (.iconst 1, 1) := by decide +kernel
theorem z21_36 {st : List Value} {w : pm_H} {pl : pm_L} : pm_ev 21 36 pl st w = pm_ev 21 37 pl (.int 1 :: st) w := pm_ny pt_21 d21_36 rfl rfl rfl
theorem d21_37 : decode cX2_readQuarter 37 = .ok (.invokevirtual 60, 3) := by decide +kernel
theorem z21_37 {w : pm_H} {b0 b1 b2 b3 : Option Value} {x0 : Int32} {x1 : Nat} : pm_ev 21 37 [b0, b1, b2, b3] [.int x0, .ref x1] w = pm_k 21 40 [b0, b1, b2, b3] [] (pm_vc (w x1) 2 (pm_call 16 [.ref x1, .int x0] w)) := pm_nv pt_21 pt_16 pt_M_2_60 d21_37 ⟨rfl, rfl⟩ ⟨⟨rfl, Nat.le_of_ble_eq_true rfl, Nat.le_of_ble_eq_true rfl, Nat.le_of_ble_eq_true rfl, Nat.le_of_ble_eq_true rfl⟩, rfl⟩
theorem d21_40 : decode cX2_readQuarter 40 = .ok (.ireturn, 1) := by decide +kernel
theorem z21_40 {w : pm_H} {pl : pm_L} {x0 : Int32} : pm_ev 21 40 pl [.int x0] w = pm_zr x0 w := pm_nz pt_21 d21_40
theorem d21_41 : decode cX2_readQuarter 41 = .ok (.aload_n 0, 1) := by decide +kernel
theorem z21_41 {st : List Value} {w : pm_H} {b1 b2 b3 : Option Value} {x0 : Nat} : pm_ev 21 41 [some (.ref x0), b1, b2, b3] st w = pm_ev 21 42 [some (.ref x0), b1, b2, b3] (.ref x0 :: st) w := pm_ny pt_21 d21_41 rfl rfl rfl
theorem d21_42 : decode cX2_readQuarter 42 = .ok (.iconst 0, 1) := by decide +kernel
theorem z21_42 {st : List Value} {w : pm_H} {pl : pm_L} : pm_ev 21 42 pl st w = pm_ev 21 43 pl (.int 0 :: st) w := pm_ny pt_21 d21_42 rfl rfl rfl
theorem d21_43 : decode cX2_readQuarter 43 = .ok (.ldc 70, 2) := by decide +kernel
theorem z21_43 {st : List Value} {w : pm_H} {pl : pm_L} : pm_ev 21 43 pl st w = pm_ev 21 45 pl (.int (99999) :: st) w := pm_nk pt_21 pt_K_2_70 (by decide) d21_43
theorem d21_45 : decode cX2_readQuarter 45 = .ok (.invokevirtual 71, 3) := by decide +kernel
theorem z21_45 {w : pm_H} {b0 b1 b2 b3 : Option Value} {x0 : Int32} {x1 : Int32} {x2 : Nat} : pm_ev 21 45 [b0, b1, b2, b3] [.int x0, .int x1, .ref x2] w = pm_k 21 48 [b0, b1, b2, b3] [] (pm_vc (w x2) 2 (pm_call 19 [.ref x2, .int x1, .int x0] w)) := pm_nv pt_21 pt_19 pt_M_2_71 d21_45 ⟨rfl, rfl⟩ ⟨⟨rfl, Nat.le_of_ble_eq_true rfl, Nat.le_of_ble_eq_true rfl, Nat.le_of_ble_eq_true rfl, Nat.le_of_ble_eq_true rfl⟩, rfl⟩
theorem d21_48 : decode cX2_readQuarter 48 = .ok (.ifCond .ne 5, 3) := by decide +kernel
theorem z21_48 {st : List Value} {w : pm_H} {pl : pm_L} {x0 : Int32} : pm_ev 21 48 pl (.int x0 :: st) w = if x0 = 0 then pm_ev 21 51 pl st w else pm_ev 21 53 pl st w := pm_nin (c := ¬ x0 = 0) pt_21 d21_48 rfl rfl rfl Iff.rfl
theorem d21_51 : decode cX2_readQuarter 51 = .ok (.iconst 0, 1) := by decide +kernel
theorem z21_51 {st : List Value} {w : pm_H} {pl : pm_L} : pm_ev 21 51 pl st w = pm_ev 21 52 pl (.int 0 :: st) w := pm_ny pt_21 d21_51 rfl rfl rfl
theorem d21_52 : decode cX2_readQuarter 52 = .ok (.ireturn, 1) := by decide +kernel
theorem z21_52 {w : pm_H} {pl : pm_L} {x0 : Int32} : pm_ev 21 52 pl [.int x0] w = pm_zr x0 w := pm_nz pt_21 d21_52
theorem d21_53 : decode cX2_readQuarter 53 = .ok (.aload_n 1, 1) := by decide +kernel
theorem z21_53 {st : List Value} {w : pm_H} {b0 b2 b3 : Option Value} {x0 : Nat} : pm_ev 21 53 [b0, some (.ref x0), b2, b3] st w = pm_ev 21 54 [b0, some (.ref x0), b2, b3] (.ref x0 :: st) w := pm_ny pt_21 d21_53 rfl rfl rfl
theorem d21_54 : decode cX2_readQuarter 54 = .ok (.getfield 94, 3) := by decide +kernel
theorem z21_54 {st : List Value} {w : pm_H} {pl : pm_L} {x0 : Nat} : pm_ev 21 54 pl (.ref x0 :: st) w = pm_kv 21 57 pl st w (pm_gf (w x0) 4 1) := pm_ng pt_21 pt_F_2_94 d21_54
theorem d21_57 : decode cX2_readQuarter 57 = .ok (.iload_n 2, 1) := by decide +kernel
theorem z21_57 {st : List Value} {w : pm_H} {b0 b1 b3 : Option Value} {x0 : Int32} : pm_ev 21 57 [b0, b1, some (.int x0), b3] st w = pm_ev 21 58 [b0, b1, some (.int x0), b3] (.int x0 :: st) w := pm_ny pt_21 d21_57 rfl rfl rfl
theorem d21_58 : decode cX2_readQuarter 58 = .ok (.iload_n 3, 1) := by decide +kernel
theorem z21_58 {st : List Value} {w : pm_H} {b0 b1 b2 : Option Value} {x0 : Int32} : pm_ev 21 58 [b0, b1, b2, some (.int x0)] st w = pm_ev 21 59 [b0, b1, b2, some (.int x0)] (.int x0 :: st) w := pm_ny pt_21 d21_58 rfl rfl rfl
theorem d21_59 : decode cX2_readQuarter 59 = .ok (.ifCond .eq 11, 3) := by decide +kernel
theorem z21_59 {st : List Value} {w : pm_H} {pl : pm_L} {x0 : Int32} : pm_ev 21 59 pl (.int x0 :: st) w = if x0 = 0 then pm_ev 21 70 pl st w else pm_ev 21 62 pl st w := pm_nif pt_21 d21_59 rfl rfl rfl
theorem d21_62 : decode cX2_readQuarter 62 = .ok (.aload_n 0, 1) := by decide +kernel
theorem z21_62 {st : List Value} {w : pm_H} {b1 b2 b3 : Option Value} {x0 : Nat} : pm_ev 21 62 [some (.ref x0), b1, b2, b3] st w = pm_ev 21 63 [some (.ref x0), b1, b2, b3] (.ref x0 :: st) w := pm_ny pt_21 d21_62 rfl rfl rfl
theorem d21_63 : decode cX2_readQuarter 63 = .ok (.getfield 75, 3) := by decide +kernel
theorem z21_63 {st : List Value} {w : pm_H} {pl : pm_L} {x0 : Nat} : pm_ev 21 63 pl (.ref x0 :: st) w = pm_kv 21 66 pl st w (pm_gf (w x0) 2 6) := pm_ng pt_21 pt_F_2_75 d21_63
theorem d21_66 : decode cX2_readQuarter 66 = .ok (.ineg, 1) := by decide +kernel
theorem z21_66 {st : List Value} {w : pm_H} {pl : pm_L} {x0 : Int32} : pm_ev 21 66 pl (.int x0 :: st) w = pm_ev 21 67 pl (.int (-x0) :: st) w := pm_ny pt_21 d21_66 rfl rfl rfl
theorem d21_67 : decode cX2_readQuarter 67 = .ok (.goto 7, 3) := by decide +kernel
theorem z21_67 {st : List Value} {w : pm_H} {pl : pm_L} : pm_ev 21 67 pl st w = pm_ev 21 74 pl st w := pm_ny pt_21 d21_67 rfl rfl rfl
theorem d21_70 : decode cX2_readQuarter 70 = .ok (.aload_n 0, 1) := by decide +kernel
theorem z21_70 {st : List Value} {w : pm_H} {b1 b2 b3 : Option Value} {x0 : Nat} : pm_ev 21 70 [some (.ref x0), b1, b2, b3] st w = pm_ev 21 71 [some (.ref x0), b1, b2, b3] (.ref x0 :: st) w := pm_ny pt_21 d21_70 rfl rfl rfl
theorem d21_71 : decode cX2_readQuarter 71 = .ok (.getfield 75, 3) := by decide +kernel
theorem z21_71 {st : List Value} {w : pm_H} {pl : pm_L} {x0 : Nat} : pm_ev 21 71 pl (.ref x0 :: st) w = pm_kv 21 74 pl st w (pm_gf (w x0) 2 6) := pm_ng pt_21 pt_F_2_75 d21_71
theorem d21_74 : decode cX2_readQuarter 74 = .ok (.iastore, 1) := by decide +kernel
theorem z21_74 {st : List Value} {w : pm_H} {pl : pm_L} {x0 : Nat} {x1 : Int32} {x2 : Int32} : pm_ev 21 74 pl (.int x2 :: .int x1 :: .ref x0 :: st) w = pm_kw 21 75 pl st (pm_is w x0 (w x0) x1 x2) := pm_nis pt_21 d21_74
theorem d21_75 : decode cX2_readQuarter 75 = .ok (.aload_n 0, 1) := by decide +kernel
theorem z21_75 {st : List Value} {w : pm_H} {b1 b2 b3 : Option Value} {x0 : Nat} : pm_ev 21 75 [some (.ref x0), b1, b2, b3] st w = pm_ev 21 76 [some (.ref x0), b1, b2, b3] (.ref x0 :: st) w := pm_ny pt_21 d21_75 rfl rfl rfl
theorem d21_76 : decode cX2_readQuarter 76 = .ok (.ldc 98, 2) := by decide +kernel
theorem z21_76 {st : List Value} {w : pm_H} {pl : pm_L} : pm_ev 21 76 pl st w = pm_ev 21 78 pl (.ref 1004 :: st) w := pm_nk pt_21 pt_K_2_98 (by decide) d21_76
theorem d21_78 : decode cX2_readQuarter 78 = .ok (.invokevirtual 87, 3) := by decide +kernel
theorem z21_78 {w : pm_H} {b0 b1 b2 b3 : Option Value} {x0 : Nat} {x1 : Nat} : pm_ev 21 78 [b0, b1, b2, b3] [.ref x0, .ref x1] w = pm_k 21 81 [b0, b1, b2, b3] [] (pm_vc (w x1) 2 (pm_call 22 [.ref x1, .ref x0] w)) := pm_nv pt_21 pt_22 pt_M_2_87 d21_78 ⟨rfl, rfl⟩ ⟨⟨rfl, Nat.le_of_ble_eq_true rfl, Nat.le_of_ble_eq_true rfl, Nat.le_of_ble_eq_true rfl, Nat.le_of_ble_eq_true rfl⟩, rfl⟩
theorem d21_81 : decode cX2_readQuarter 81 = .ok (.ifCond .eq 14, 3) := by decide +kernel
theorem z21_81 {st : List Value} {w : pm_H} {pl : pm_L} {x0 : Int32} : pm_ev 21 81 pl (.int x0 :: st) w = if x0 = 0 then pm_ev 21 95 pl st w else pm_ev 21 84 pl st w := pm_nif pt_21 d21_81 rfl rfl rfl
theorem d21_84 : decode cX2_readQuarter 84 = .ok (.aload_n 0, 1) := by decide +kernel
theorem z21_84 {st : List Value} {w : pm_H} {b1 b2 b3 : Option Value} {x0 : Nat} : pm_ev 21 84 [some (.ref x0), b1, b2, b3] st w = pm_ev 21 85 [some (.ref x0), b1, b2, b3] (.ref x0 :: st) w := pm_ny pt_21 d21_84 rfl rfl rfl
theorem d21_85 : decode cX2_readQuarter 85 = .ok (.iconst 1, 1) := by decide +kernel
theorem z21_85 {st : List Value} {w : pm_H} {pl : pm_L} : pm_ev 21 85 pl st w = pm_ev 21 86 pl (.int 1 :: st) w := pm_ny pt_21 d21_85 rfl rfl rfl
theorem d21_86 : decode cX2_readQuarter 86 = .ok (.sipush 9999, 3) := by decide +kernel
theorem z21_86 {st : List Value} {w : pm_H} {pl : pm_L} : pm_ev 21 86 pl st w = pm_ev 21 89 pl (.int 9999 :: st) w := pm_ny pt_21 d21_86 rfl rfl rfl
theorem d21_89 : decode cX2_readQuarter 89 = .ok (.invokevirtual 71, 3) := by decide +kernel
theorem z21_89 {w : pm_H} {b0 b1 b2 b3 : Option Value} {x0 : Int32} {x1 : Int32} {x2 : Nat} : pm_ev 21 89 [b0, b1, b2, b3] [.int x0, .int x1, .ref x2] w = pm_k 21 92 [b0, b1, b2, b3] [] (pm_vc (w x2) 2 (pm_call 19 [.ref x2, .int x1, .int x0] w)) := pm_nv pt_21 pt_19 pt_M_2_71 d21_89 ⟨rfl, rfl⟩ ⟨⟨rfl, Nat.le_of_ble_eq_true rfl, Nat.le_of_ble_eq_true rfl, Nat.le_of_ble_eq_true rfl, Nat.le_of_ble_eq_true rfl⟩, rfl⟩
theorem d21_92 : decode cX2_readQuarter 92 = .ok (.ifCond .ne 5, 3) := by decide +kernel
theorem z21_92 {st : List Value} {w : pm_H} {pl : pm_L} {x0 : Int32} : pm_ev 21 92 pl (.int x0 :: st) w = if x0 = 0 then pm_ev 21 95 pl st w else pm_ev 21 97 pl st w := pm_nin (c := ¬ x0 = 0) pt_21 d21_92 rfl rfl rfl Iff.rfl
theorem d21_95 : decode cX2_readQuarter 95 = .ok (.iconst 0, 1) := by decide +kernel
theorem z21_95 {st : List Value} {w : pm_H} {pl : pm_L} : pm_ev 21 95 pl st w = pm_ev 21 96 pl (.int 0 :: st) w := pm_ny pt_21 d21_95 rfl rfl rfl
theorem d21_96 : decode cX2_readQuarter 96 = .ok (.ireturn, 1) := by decide +kernel
theorem z21_96 {w : pm_H} {pl : pm_L} {x0 : Int32} : pm_ev 21 96 pl [.int x0] w = pm_zr x0 w := pm_nz pt_21 d21_96
theorem d21_97 : decode cX2_readQuarter 97 = .ok (.aload_n 1, 1) := by decide +kernel
theorem z21_97 {st : List Value} {w : pm_H} {b0 b2 b3 : Option Value} {x0 : Nat} : pm_ev 21 97 [b0, some (.ref x0), b2, b3] st w = pm_ev 21 98 [b0, some (.ref x0), b2, b3] (.ref x0 :: st) w := pm_ny pt_21 d21_97 rfl rfl rfl
theorem d21_98 : decode cX2_readQuarter 98 = .ok (.getfield 100, 3) := by decide +kernel
theorem z21_98 {st : List Value} {w : pm_H} {pl : pm_L} {x0 : Nat} : pm_ev 21 98 pl (.ref x0 :: st) w = pm_kv 21 101 pl st w (pm_gf (w x0) 4 2) := pm_ng pt_21 pt_F_2_100 d21_98
theorem d21_101 : decode cX2_readQuarter 101 = .ok (.iload_n 2, 1) := by decide +kernel
theorem z21_101 {st : List Value} {w : pm_H} {b0 b1 b3 : Option Value} {x0 : Int32} : pm_ev 21 101 [b0, b1, some (.int x0), b3] st w = pm_ev 21 102 [b0, b1, some (.int x0), b3] (.int x0 :: st) w := pm_ny pt_21 d21_101 rfl rfl rfl
theorem d21_102 : decode cX2_readQuarter 102 = .ok (.aload_n 0, 1) := by decide +kernel
theorem z21_102 {st : List Value} {w : pm_H} {b1 b2 b3 : Option Value} {x0 : Nat} : pm_ev 21 102 [some (.ref x0), b1, b2, b3] st w = pm_ev 21 103 [some (.ref x0), b1, b2, b3] (.ref x0 :: st) w := pm_ny pt_21 d21_102 rfl rfl rfl
theorem d21_103 : decode cX2_readQuarter 103 = .ok (.getfield 75, 3) := by decide +kernel
theorem z21_103 {st : List Value} {w : pm_H} {pl : pm_L} {x0 : Nat} : pm_ev 21 103 pl (.ref x0 :: st) w = pm_kv 21 106 pl st w (pm_gf (w x0) 2 6) := pm_ng pt_21 pt_F_2_75 d21_103
theorem d21_106 : decode cX2_readQuarter 106 = .ok (.iastore, 1) := by decide +kernel
theorem z21_106 {st : List Value} {w : pm_H} {pl : pm_L} {x0 : Nat} {x1 : Int32} {x2 : Int32} : pm_ev 21 106 pl (.int x2 :: .int x1 :: .ref x0 :: st) w = pm_kw 21 107 pl st (pm_is w x0 (w x0) x1 x2) := pm_nis pt_21 d21_106
theorem d21_107 : decode cX2_readQuarter 107 = .ok (.aload_n 0, 1) := by decide +kernel
theorem z21_107 {st : List Value} {w : pm_H} {b1 b2 b3 : Option Value} {x0 : Nat} : pm_ev 21 107 [some (.ref x0), b1, b2, b3] st w = pm_ev 21 108 [some (.ref x0), b1, b2, b3] (.ref x0 :: st) w := pm_ny pt_21 d21_107 rfl rfl rfl
theorem d21_108 : decode cX2_readQuarter 108 = .ok (.invokevirtual 81, 3) := by decide +kernel
theorem z21_108 {w : pm_H} {b0 b1 b2 b3 : Option Value} {x0 : Nat} : pm_ev 21 108 [b0, b1, b2, b3] [.ref x0] w = pm_k 21 111 [b0, b1, b2, b3] [] (pm_vc (w x0) 2 (pm_call 20 [.ref x0] w)) := pm_nv pt_21 pt_20 pt_M_2_81 d21_108 ⟨rfl, rfl⟩ ⟨⟨rfl, Nat.le_of_ble_eq_true rfl, Nat.le_of_ble_eq_true rfl, Nat.le_of_ble_eq_true rfl, Nat.le_of_ble_eq_true rfl⟩, rfl⟩
theorem d21_111 : decode cX2_readQuarter 111 = .ok (.ireturn, 1) := by decide +kernel
theorem z21_111 {w : pm_H} {pl : pm_L} {x0 : Int32} : pm_ev 21 111 pl [.int x0] w = pm_zr x0 w := pm_nz pt_21 d21_111
theorem d22_0 : decode cX2_word 0 = .ok (.aload_n 0, 1) := by decide +kernel
theorem z22_0 {st : List Value} {w : pm_H} {b1 : Option Value} {x0 : Nat} : pm_ev 22 0 [some (.ref x0), b1] st w = pm_ev 22 1 [some (.ref x0), b1] (.ref x0 :: st) w := pm_ny pt_22 d22_0 rfl rfl rfl
theorem d22_1 : decode cX2_word 1 = .ok (.invokevirtual 30, 3) := by decide +kernel
theorem z22_1 {w : pm_H} {b0 b1 : Option Value} {x0 : Nat} : pm_ev 22 1 [b0, b1] [.ref x0] w = pm_k 22 4 [b0, b1] [] (pm_vc (w x0) 2 (pm_call 13 [.ref x0] w)) := pm_nv pt_22 pt_13 pt_M_2_30 d22_1 ⟨rfl, rfl⟩ ⟨⟨rfl, Nat.le_of_ble_eq_true rfl, Nat.le_of_ble_eq_true rfl, Nat.le_of_ble_eq_true rfl, Nat.le_of_ble_eq_true rfl⟩, rfl⟩
theorem d22_4 : decode cX2_word 4 = .ok (.aload_n 0, 1) := by decide +kernel
theorem z22_4 {st : List Value} {w : pm_H} {b1 : Option Value} {x0 : Nat} : pm_ev 22 4 [some (.ref x0), b1] st w = pm_ev 22 5 [some (.ref x0), b1] (.ref x0 :: st) w := pm_ny pt_22 d22_4 rfl rfl rfl
theorem d22_5 : decode cX2_word 5 = .ok (.aload_n 1, 1) := by decide +kernel
theorem z22_5 {st : List Value} {w : pm_H} {b0 : Option Value} {x0 : Nat} : pm_ev 22 5 [b0, some (.ref x0)] st w = pm_ev 22 6 [b0, some (.ref x0)] (.ref x0 :: st) w := pm_ny pt_22 d22_5 rfl rfl rfl
theorem d22_6 : decode cX2_word 6 = .ok (.invokevirtual 66, 3) := by decide +kernel
theorem z22_6 {w : pm_H} {b0 b1 : Option Value} {x0 : Nat} {x1 : Nat} : pm_ev 22 6 [b0, b1] [.ref x0, .ref x1] w = pm_k 22 9 [b0, b1] [] (pm_vc (w x1) 2 (pm_call 18 [.ref x1, .ref x0] w)) := pm_nv pt_22 pt_18 pt_M_2_66 d22_6 ⟨rfl, rfl⟩ ⟨⟨rfl, Nat.le_of_ble_eq_true rfl, Nat.le_of_ble_eq_true rfl, Nat.le_of_ble_eq_true rfl, Nat.le_of_ble_eq_true rfl⟩, rfl⟩
theorem d22_9 : decode cX2_word 9 = .ok (.ifCond .ne 11, 3) := by decide +kernel
theorem z22_9 {st : List Value} {w : pm_H} {pl : pm_L} {x0 : Int32} : pm_ev 22 9 pl (.int x0 :: st) w = if x0 = 0 then pm_ev 22 12 pl st w else pm_ev 22 20 pl st w := pm_nin (c := ¬ x0 = 0) pt_22 d22_9 rfl rfl rfl Iff.rfl
theorem d22_12 : decode cX2_word 12 = .ok (.aload_n 0, 1) := by decide +kernel
theorem z22_12 {st : List Value} {w : pm_H} {b1 : Option Value} {x0 : Nat} : pm_ev 22 12 [some (.ref x0), b1] st w = pm_ev 22 13 [some (.ref x0), b1] (.ref x0 :: st) w := pm_ny pt_22 d22_12 rfl rfl rfl
theorem d22_13 : decode cX2_word 13 = .ok (.iconst 1, 1) := by decide +kernel
theorem z22_13 {st : List Value} {w : pm_H} {pl : pm_L} : pm_ev 22 13 pl st w = pm_ev 22 14 pl (.int 1 :: st) w := pm_ny pt_22 d22_13 rfl rfl rfl
theorem d22_14 : decode cX2_word 14 = .ok (.invokevirtual 60, 3) := by decide +kernel
theorem z22_14 {w : pm_H} {b0 b1 : Option Value} {x0 : Int32} {x1 : Nat} : pm_ev 22 14 [b0, b1] [.int x0, .ref x1] w = pm_k 22 17 [b0, b1] [] (pm_vc (w x1) 2 (pm_call 16 [.ref x1, .int x0] w)) := pm_nv pt_22 pt_16 pt_M_2_60 d22_14 ⟨rfl, rfl⟩ ⟨⟨rfl, Nat.le_of_ble_eq_true rfl, Nat.le_of_ble_eq_true rfl, Nat.le_of_ble_eq_true rfl, Nat.le_of_ble_eq_true rfl⟩, rfl⟩
theorem d22_17 : decode cX2_word 17 = .ok (.ifCond .eq 7, 3) := by decide +kernel
theorem z22_17 {st : List Value} {w : pm_H} {pl : pm_L} {x0 : Int32} : pm_ev 22 17 pl (.int x0 :: st) w = if x0 = 0 then pm_ev 22 24 pl st w else pm_ev 22 20 pl st w := pm_nif pt_22 d22_17 rfl rfl rfl
theorem d22_20 : decode cX2_word 20 = .ok (.iconst 1, 1) := by decide +kernel
theorem z22_20 {st : List Value} {w : pm_H} {pl : pm_L} : pm_ev 22 20 pl st w = pm_ev 22 21 pl (.int 1 :: st) w := pm_ny pt_22 d22_20 rfl rfl rfl
theorem d22_21 : decode cX2_word 21 = .ok (.goto 4, 3) := by decide +kernel
theorem z22_21 {st : List Value} {w : pm_H} {pl : pm_L} : pm_ev 22 21 pl st w = pm_ev 22 25 pl st w := pm_ny pt_22 d22_21 rfl rfl rfl
theorem d22_24 : decode cX2_word 24 = .ok (.iconst 0, 1) := by decide +kernel
theorem z22_24 {st : List Value} {w : pm_H} {pl : pm_L} : pm_ev 22 24 pl st w = pm_ev 22 25 pl (.int 0 :: st) w := pm_ny pt_22 d22_24 rfl rfl rfl
theorem d22_25 : decode cX2_word 25 = .ok (.ireturn, 1) := by decide +kernel
theorem z22_25 {w : pm_H} {pl : pm_L} {x0 : Int32} : pm_ev 22 25 pl [.int x0] w = pm_zr x0 w := pm_nz pt_22 d22_25
theorem d23_0 : decode cX2_readOthers 0 = .ok (.iconst 5, 1) := by decide +kernel
theorem z23_0 {st : List Value} {w : pm_H} {pl : pm_L} : pm_ev 23 0 pl st w = pm_ev 23 1 pl (.int 5 :: st) w := pm_ny pt_23 d23_0 rfl rfl rfl
theorem d23_1 : decode cX2_readOthers 1 = .ok (.istore_n 2, 1) := by decide +kernel
theorem z23_1 {st : List Value} {w : pm_H} {b0 b2 : Option Value} {x0 : Int32} {x9 : Nat} : pm_ev 23 1 [b0, some (.ref x9), b2] (.int x0 :: st) w = pm_ev 23 2 [b0, some (.ref x9), some (.int x0)] st w := pm_ny pt_23 d23_1 rfl rfl rfl
theorem d23_2 : decode cX2_readOthers 2 = .ok (.iload_n 2, 1) := by decide +kernel
theorem z23_2 {st : List Value} {w : pm_H} {b0 b1 : Option Value} {x0 : Int32} : pm_ev 23 2 [b0, b1, some (.int x0)] st w = pm_ev 23 3 [b0, b1, some (.int x0)] (.int x0 :: st) w := pm_ny pt_23 d23_2 rfl rfl rfl
theorem d23_3 : decode cX2_readOthers 3 = .ok (.bipush 33, 2) := by decide +kernel
theorem z23_3 {st : List Value} {w : pm_H} {pl : pm_L} : pm_ev 23 3 pl st w = pm_ev 23 5 pl (.int 33 :: st) w := pm_ny pt_23 d23_3 rfl rfl rfl
theorem d23_5 : decode cX2_readOthers 5 = .ok (.if_icmp .gt 36, 3) := by decide +kernel
theorem z23_5 {st : List Value} {w : pm_H} {pl : pm_L} {x0 x1 : Int32} : pm_ev 23 5 pl (.int x1 :: .int x0 :: st) w = if x1 < x0 then pm_ev 23 41 pl st w else pm_ev 23 8 pl st w := pm_nif pt_23 d23_5 rfl rfl rfl
theorem d23_8 : decode cX2_readOthers 8 = .ok (.aload_n 0, 1) := by decide +kernel
theorem z23_8 {st : List Value} {w : pm_H} {b1 b2 : Option Value} {x0 : Nat} : pm_ev 23 8 [some (.ref x0), b1, b2] st w = pm_ev 23 9 [some (.ref x0), b1, b2] (.ref x0 :: st) w := pm_ny pt_23 d23_8 rfl rfl rfl
theorem d23_9 : decode cX2_readOthers 9 = .ok (.invokevirtual 30, 3) := by decide +kernel
theorem z23_9 {w : pm_H} {b0 b1 b2 : Option Value} {x0 : Nat} : pm_ev 23 9 [b0, b1, b2] [.ref x0] w = pm_k 23 12 [b0, b1, b2] [] (pm_vc (w x0) 2 (pm_call 13 [.ref x0] w)) := pm_nv pt_23 pt_13 pt_M_2_30 d23_9 ⟨rfl, rfl⟩ ⟨⟨rfl, Nat.le_of_ble_eq_true rfl, Nat.le_of_ble_eq_true rfl, Nat.le_of_ble_eq_true rfl, Nat.le_of_ble_eq_true rfl⟩, rfl⟩
theorem d23_12 : decode cX2_readOthers 12 = .ok (.aload_n 0, 1) := by decide +kernel
theorem z23_12 {st : List Value} {w : pm_H} {b1 b2 : Option Value} {x0 : Nat} : pm_ev 23 12 [some (.ref x0), b1, b2] st w = pm_ev 23 13 [some (.ref x0), b1, b2] (.ref x0 :: st) w := pm_ny pt_23 d23_12 rfl rfl rfl
theorem d23_13 : decode cX2_readOthers 13 = .ok (.getfield 33, 3) := by decide +kernel
theorem z23_13 {st : List Value} {w : pm_H} {pl : pm_L} {x0 : Nat} : pm_ev 23 13 pl (.ref x0 :: st) w = pm_kv 23 16 pl st w (pm_gf (w x0) 2 5) := pm_ng pt_23 pt_F_2_33 d23_13
theorem d23_16 : decode cX2_readOthers 16 = .ok (.ifCond .ne 9, 3) := by decide +kernel
theorem z23_16 {st : List Value} {w : pm_H} {pl : pm_L} {x0 : Int32} : pm_ev 23 16 pl (.int x0 :: st) w = if x0 = 0 then pm_ev 23 19 pl st w else pm_ev 23 25 pl st w := pm_nin (c := ¬ x0 = 0) pt_23 d23_16 rfl rfl rfl Iff.rfl
theorem d23_19 : decode cX2_readOthers 19 = .ok (.aload_n 0, 1) := by decide +kernel
theorem z23_19 {st : List Value} {w : pm_H} {b1 b2 : Option Value} {x0 : Nat} : pm_ev 23 19 [some (.ref x0), b1, b2] st w = pm_ev 23 20 [some (.ref x0), b1, b2] (.ref x0 :: st) w := pm_ny pt_23 d23_19 rfl rfl rfl
theorem d23_20 : decode cX2_readOthers 20 = .ok (.iload_n 2, 1) := by decide +kernel
theorem z23_20 {st : List Value} {w : pm_H} {b0 b1 : Option Value} {x0 : Int32} : pm_ev 23 20 [b0, b1, some (.int x0)] st w = pm_ev 23 21 [b0, b1, some (.int x0)] (.int x0 :: st) w := pm_ny pt_23 d23_20 rfl rfl rfl
theorem d23_21 : decode cX2_readOthers 21 = .ok (.invokevirtual 36, 3) := by decide +kernel
theorem z23_21 {w : pm_H} {b0 b1 b2 : Option Value} {x0 : Int32} {x1 : Nat} : pm_ev 23 21 [b0, b1, b2] [.int x0, .ref x1] w = pm_k 23 24 [b0, b1, b2] [] (pm_vc (w x1) 2 (pm_call 15 [.ref x1, .int x0] w)) := pm_nv pt_23 pt_15 pt_M_2_36 d23_21 ⟨rfl, rfl⟩ ⟨⟨rfl, Nat.le_of_ble_eq_true rfl, Nat.le_of_ble_eq_true rfl, Nat.le_of_ble_eq_true rfl, Nat.le_of_ble_eq_true rfl⟩, rfl⟩
theorem d23_24 : decode cX2_readOthers 24 = .ok (.ireturn, 1) := by decide +kernel
theorem z23_24 {w : pm_H} {pl : pm_L} {x0 : Int32} : pm_ev 23 24 pl [.int x0] w = some (some (.int x0), w) := pm_nr pt_23 d23_24 rfl
theorem d23_25 : decode cX2_readOthers 25 = .ok (.aload_n 0, 1) := by decide +kernel
theorem z23_25 {st : List Value} {w : pm_H} {b1 b2 : Option Value} {x0 : Nat} : pm_ev 23 25 [some (.ref x0), b1, b2] st w = pm_ev 23 26 [some (.ref x0), b1, b2] (.ref x0 :: st) w := pm_ny pt_23 d23_25 rfl rfl rfl
theorem d23_26 : decode cX2_readOthers 26 = .ok (.aload_n 1, 1) := by decide +kernel
theorem z23_26 {st : List Value} {w : pm_H} {b0 b2 : Option Value} {x0 : Nat} : pm_ev 23 26 [b0, some (.ref x0), b2] st w = pm_ev 23 27 [b0, some (.ref x0), b2] (.ref x0 :: st) w := pm_ny pt_23 d23_26 rfl rfl rfl
theorem d23_27 : decode cX2_readOthers 27 = .ok (.invokevirtual 52, 3) := by decide +kernel
theorem z23_27 {w : pm_H} {b0 b1 b2 : Option Value} {x0 : Nat} {x1 : Nat} : pm_ev 23 27 [b0, b1, b2] [.ref x0, .ref x1] w = pm_k 23 30 [b0, b1, b2] [] (pm_vc (w x1) 2 (pm_call 24 [.ref x1, .ref x0] w)) := pm_nv pt_23 pt_24 pt_M_2_52 d23_27 ⟨rfl, rfl⟩ ⟨⟨rfl, Nat.le_of_ble_eq_true rfl, Nat.le_of_ble_eq_true rfl, Nat.le_of_ble_eq_true rfl, Nat.le_of_ble_eq_true rfl⟩, rfl⟩
theorem d23_30 : decode cX2_readOthers 30 = .ok (.ifCond .ne 5, 3) := by decide +kernel
theorem z23_30 {st : List Value} {w : pm_H} {pl : pm_L} {x0 : Int32} : pm_ev 23 30 pl (.int x0 :: st) w = if x0 = 0 then pm_ev 23 33 pl st w else pm_ev 23 35 pl st w := pm_nin (c := ¬ x0 = 0) pt_23 d23_30 rfl rfl rfl Iff.rfl
theorem d23_33 : decode cX2_readOthers 33 = .ok (.iload_n 2, 1) := by decide +kernel
theorem z23_33 {st : List Value} {w : pm_H} {b0 b1 : Option Value} {x0 : Int32} : pm_ev 23 33 [b0, b1, some (.int x0)] st w = pm_ev 23 34 [b0, b1, some (.int x0)] (.int x0 :: st) w := pm_ny pt_23 d23_33 rfl rfl rfl
theorem d23_34 : decode cX2_readOthers 34 = .ok (.ireturn, 1) := by decide +kernel
theorem z23_34 {w : pm_H} {pl : pm_L} {x0 : Int32} : pm_ev 23 34 pl [.int x0] w = some (some (.int x0), w) := pm_nr pt_23 d23_34 rfl
theorem d23_35 : decode cX2_readOthers 35 = .ok (.iinc 2 1, 3) := by decide +kernel
theorem z23_35 {st : List Value} {w : pm_H} {b0 : Option Value} {x0 : Int32} {x9 : Nat} : pm_ev 23 35 [b0, some (.ref x9), some (.int x0)] st w = pm_ev 23 38 [b0, some (.ref x9), some (.int (x0 + 1))] st w := pm_ny pt_23 d23_35 rfl rfl rfl
theorem d23_38 : decode cX2_readOthers 38 = .ok (.goto (-36), 3) := by decide +kernel
theorem z23_38 {st : List Value} {w : pm_H} {pl : pm_L} : pm_ev 23 38 pl st w = pm_ev 23 2 pl st w := pm_ny pt_23 d23_38 rfl rfl rfl
theorem d23_41 : decode cX2_readOthers 41 = .ok (.iload_n 2, 1) := by decide +kernel
theorem z23_41 {st : List Value} {w : pm_H} {b0 b1 : Option Value} {x0 : Int32} : pm_ev 23 41 [b0, b1, some (.int x0)] st w = pm_ev 23 42 [b0, b1, some (.int x0)] (.int x0 :: st) w := pm_ny pt_23 d23_41 rfl rfl rfl
theorem d23_42 : decode cX2_readOthers 42 = .ok (.ireturn, 1) := by decide +kernel
theorem z23_42 {w : pm_H} {pl : pm_L} {x0 : Int32} : pm_ev 23 42 pl [.int x0] w = some (some (.int x0), w) := pm_nr pt_23 d23_42 rfl
theorem d24_0 : decode cX2_readOther 0 = .ok (.aload_n 0, 1) := by decide +kernel
theorem z24_0 {st : List Value} {w : pm_H} {b1 : Option Value} {x0 : Nat} : pm_ev 24 0 [some (.ref x0), b1] st w = pm_ev 24 1 [some (.ref x0), b1] (.ref x0 :: st) w := pm_ny pt_24 d24_0 rfl rfl rfl
theorem d24_1 : decode cX2_readOther 1 = .ok (.ldc 103, 2) := by decide +kernel
theorem z24_1 {st : List Value} {w : pm_H} {pl : pm_L} : pm_ev 24 1 pl st w = pm_ev 24 3 pl (.ref 1005 :: st) w := pm_nk pt_24 pt_K_2_103 (by decide) d24_1
theorem d24_3 : decode cX2_readOther 3 = .ok (.invokevirtual 66, 3) := by decide +kernel
theorem z24_3 {w : pm_H} {b0 b1 : Option Value} {x0 : Nat} {x1 : Nat} : pm_ev 24 3 [b0, b1] [.ref x0, .ref x1] w = pm_k 24 6 [b0, b1] [] (pm_vc (w x1) 2 (pm_call 18 [.ref x1, .ref x0] w)) := pm_nv pt_24 pt_18 pt_M_2_66 d24_3 ⟨rfl, rfl⟩ ⟨⟨rfl, Nat.le_of_ble_eq_true rfl, Nat.le_of_ble_eq_true rfl, Nat.le_of_ble_eq_true rfl, Nat.le_of_ble_eq_true rfl⟩, rfl⟩
theorem d24_6 : decode cX2_readOther 6 = .ok (.ifCond .eq 10, 3) := by decide +kernel
theorem z24_6 {st : List Value} {w : pm_H} {pl : pm_L} {x0 : Int32} : pm_ev 24 6 pl (.int x0 :: st) w = if x0 = 0 then pm_ev 24 16 pl st w else pm_ev 24 9 pl st w := pm_nif pt_24 d24_6 rfl rfl rfl
theorem d24_9 : decode cX2_readOther 9 = .ok (.aload_n 0, 1) := by decide +kernel
theorem z24_9 {st : List Value} {w : pm_H} {b1 : Option Value} {x0 : Nat} : pm_ev 24 9 [some (.ref x0), b1] st w = pm_ev 24 10 [some (.ref x0), b1] (.ref x0 :: st) w := pm_ny pt_24 d24_9 rfl rfl rfl
theorem d24_10 : decode cX2_readOther 10 = .ok (.aload_n 1, 1) := by decide +kernel
theorem z24_10 {st : List Value} {w : pm_H} {b0 : Option Value} {x0 : Nat} : pm_ev 24 10 [b0, some (.ref x0)] st w = pm_ev 24 11 [b0, some (.ref x0)] (.ref x0 :: st) w := pm_ny pt_24 d24_10 rfl rfl rfl
theorem d24_11 : decode cX2_readOther 11 = .ok (.iconst 0, 1) := by decide +kernel
theorem z24_11 {st : List Value} {w : pm_H} {pl : pm_L} : pm_ev 24 11 pl st w = pm_ev 24 12 pl (.int 0 :: st) w := pm_ny pt_24 d24_11 rfl rfl rfl
theorem d24_12 : decode cX2_readOther 12 = .ok (.invokevirtual 105, 3) := by decide +kernel
theorem z24_12 {w : pm_H} {b0 b1 : Option Value} {x0 : Int32} {x1 : Nat} {x2 : Nat} : pm_ev 24 12 [b0, b1] [.int x0, .ref x1, .ref x2] w = pm_k 24 15 [b0, b1] [] (pm_vc (w x2) 2 (pm_call 25 [.ref x2, .ref x1, .int x0] w)) := pm_nv pt_24 pt_25 pt_M_2_105 d24_12 ⟨rfl, rfl⟩ ⟨⟨rfl, Nat.le_of_ble_eq_true rfl, Nat.le_of_ble_eq_true rfl, Nat.le_of_ble_eq_true rfl, Nat.le_of_ble_eq_true rfl⟩, rfl⟩
theorem d24_15 : decode cX2_readOther 15 = .ok (.ireturn, 1) := by decide +kernel
theorem z24_15 {w : pm_H} {pl : pm_L} {x0 : Int32} : pm_ev 24 15 pl [.int x0] w = pm_zr x0 w := pm_nz pt_24 d24_15
theorem d24_16 : decode cX2_readOther 16 = .ok (.aload_n 0, 1) := by decide +kernel
theorem z24_16 {st : List Value} {w : pm_H} {b1 : Option Value} {x0 : Nat} : pm_ev 24 16 [some (.ref x0), b1] st w = pm_ev 24 17 [some (.ref x0), b1] (.ref x0 :: st) w := pm_ny pt_24 d24_16 rfl rfl rfl
theorem d24_17 : decode cX2_readOther 17 = .ok (.ldc 108, 2) := by decide +kernel
theorem z24_17 {st : List Value} {w : pm_H} {pl : pm_L} : pm_ev 24 17 pl st w = pm_ev 24 19 pl (.ref 1006 :: st) w := pm_nk pt_24 pt_K_2_108 (by decide) d24_17
theorem d24_19 : decode cX2_readOther 19 = .ok (.invokevirtual 66, 3) := by decide +kernel
theorem z24_19 {w : pm_H} {b0 b1 : Option Value} {x0 : Nat} {x1 : Nat} : pm_ev 24 19 [b0, b1] [.ref x0, .ref x1] w = pm_k 24 22 [b0, b1] [] (pm_vc (w x1) 2 (pm_call 18 [.ref x1, .ref x0] w)) := pm_nv pt_24 pt_18 pt_M_2_66 d24_19 ⟨rfl, rfl⟩ ⟨⟨rfl, Nat.le_of_ble_eq_true rfl, Nat.le_of_ble_eq_true rfl, Nat.le_of_ble_eq_true rfl, Nat.le_of_ble_eq_true rfl⟩, rfl⟩
theorem d24_22 : decode cX2_readOther 22 = .ok (.ifCond .eq 10, 3) := by decide +kernel
theorem z24_22 {st : List Value} {w : pm_H} {pl : pm_L} {x0 : Int32} : pm_ev 24 22 pl (.int x0 :: st) w = if x0 = 0 then pm_ev 24 32 pl st w else pm_ev 24 25 pl st w := pm_nif pt_24 d24_22 rfl rfl rfl
theorem d24_25 : decode cX2_readOther 25 = .ok (.aload_n 0, 1) := by decide +kernel
theorem z24_25 {st : List Value} {w : pm_H} {b1 : Option Value} {x0 : Nat} : pm_ev 24 25 [some (.ref x0), b1] st w = pm_ev 24 26 [some (.ref x0), b1] (.ref x0 :: st) w := pm_ny pt_24 d24_25 rfl rfl rfl
theorem d24_26 : decode cX2_readOther 26 = .ok (.aload_n 1, 1) := by decide +kernel
theorem z24_26 {st : List Value} {w : pm_H} {b0 : Option Value} {x0 : Nat} : pm_ev 24 26 [b0, some (.ref x0)] st w = pm_ev 24 27 [b0, some (.ref x0)] (.ref x0 :: st) w := pm_ny pt_24 d24_26 rfl rfl rfl
theorem d24_27 : decode cX2_readOther 27 = .ok (.iconst 1, 1) := by decide +kernel
theorem z24_27 {st : List Value} {w : pm_H} {pl : pm_L} : pm_ev 24 27 pl st w = pm_ev 24 28 pl (.int 1 :: st) w := pm_ny pt_24 d24_27 rfl rfl rfl
theorem d24_28 : decode cX2_readOther 28 = .ok (.invokevirtual 105, 3) := by decide +kernel
theorem z24_28 {w : pm_H} {b0 b1 : Option Value} {x0 : Int32} {x1 : Nat} {x2 : Nat} : pm_ev 24 28 [b0, b1] [.int x0, .ref x1, .ref x2] w = pm_k 24 31 [b0, b1] [] (pm_vc (w x2) 2 (pm_call 25 [.ref x2, .ref x1, .int x0] w)) := pm_nv pt_24 pt_25 pt_M_2_105 d24_28 ⟨rfl, rfl⟩ ⟨⟨rfl, Nat.le_of_ble_eq_true rfl, Nat.le_of_ble_eq_true rfl, Nat.le_of_ble_eq_true rfl, Nat.le_of_ble_eq_true rfl⟩, rfl⟩
theorem d24_31 : decode cX2_readOther 31 = .ok (.ireturn, 1) := by decide +kernel
theorem z24_31 {w : pm_H} {pl : pm_L} {x0 : Int32} : pm_ev 24 31 pl [.int x0] w = pm_zr x0 w := pm_nz pt_24 d24_31
theorem d24_32 : decode cX2_readOther 32 = .ok (.aload_n 0, 1) := by decide +kernel
theorem z24_32 {st : List Value} {w : pm_H} {b1 : Option Value} {x0 : Nat} : pm_ev 24 32 [some (.ref x0), b1] st w = pm_ev 24 33 [some (.ref x0), b1] (.ref x0 :: st) w := pm_ny pt_24 d24_32 rfl rfl rfl
theorem d24_33 : decode cX2_readOther 33 = .ok (.ldc 110, 2) := by decide +kernel
theorem z24_33 {st : List Value} {w : pm_H} {pl : pm_L} : pm_ev 24 33 pl st w = pm_ev 24 35 pl (.ref 1007 :: st) w := pm_nk pt_24 pt_K_2_110 (by decide) d24_33
theorem d24_35 : decode cX2_readOther 35 = .ok (.invokevirtual 66, 3) := by decide +kernel
theorem z24_35 {w : pm_H} {b0 b1 : Option Value} {x0 : Nat} {x1 : Nat} : pm_ev 24 35 [b0, b1] [.ref x0, .ref x1] w = pm_k 24 38 [b0, b1] [] (pm_vc (w x1) 2 (pm_call 18 [.ref x1, .ref x0] w)) := pm_nv pt_24 pt_18 pt_M_2_66 d24_35 ⟨rfl, rfl⟩ ⟨⟨rfl, Nat.le_of_ble_eq_true rfl, Nat.le_of_ble_eq_true rfl, Nat.le_of_ble_eq_true rfl, Nat.le_of_ble_eq_true rfl⟩, rfl⟩
theorem d24_38 : decode cX2_readOther 38 = .ok (.ifCond .eq 10, 3) := by decide +kernel
theorem z24_38 {st : List Value} {w : pm_H} {pl : pm_L} {x0 : Int32} : pm_ev 24 38 pl (.int x0 :: st) w = if x0 = 0 then pm_ev 24 48 pl st w else pm_ev 24 41 pl st w := pm_nif pt_24 d24_38 rfl rfl rfl
theorem d24_41 : decode cX2_readOther 41 = .ok (.aload_n 0, 1) := by decide +kernel
theorem z24_41 {st : List Value} {w : pm_H} {b1 : Option Value} {x0 : Nat} : pm_ev 24 41 [some (.ref x0), b1] st w = pm_ev 24 42 [some (.ref x0), b1] (.ref x0 :: st) w := pm_ny pt_24 d24_41 rfl rfl rfl
theorem d24_42 : decode cX2_readOther 42 = .ok (.aload_n 1, 1) := by decide +kernel
theorem z24_42 {st : List Value} {w : pm_H} {b0 : Option Value} {x0 : Nat} : pm_ev 24 42 [b0, some (.ref x0)] st w = pm_ev 24 43 [b0, some (.ref x0)] (.ref x0 :: st) w := pm_ny pt_24 d24_42 rfl rfl rfl
theorem d24_43 : decode cX2_readOther 43 = .ok (.iconst 2, 1) := by decide +kernel
theorem z24_43 {st : List Value} {w : pm_H} {pl : pm_L} : pm_ev 24 43 pl st w = pm_ev 24 44 pl (.int 2 :: st) w := pm_ny pt_24 d24_43 rfl rfl rfl
theorem d24_44 : decode cX2_readOther 44 = .ok (.invokevirtual 105, 3) := by decide +kernel
theorem z24_44 {w : pm_H} {b0 b1 : Option Value} {x0 : Int32} {x1 : Nat} {x2 : Nat} : pm_ev 24 44 [b0, b1] [.int x0, .ref x1, .ref x2] w = pm_k 24 47 [b0, b1] [] (pm_vc (w x2) 2 (pm_call 25 [.ref x2, .ref x1, .int x0] w)) := pm_nv pt_24 pt_25 pt_M_2_105 d24_44 ⟨rfl, rfl⟩ ⟨⟨rfl, Nat.le_of_ble_eq_true rfl, Nat.le_of_ble_eq_true rfl, Nat.le_of_ble_eq_true rfl, Nat.le_of_ble_eq_true rfl⟩, rfl⟩
theorem d24_47 : decode cX2_readOther 47 = .ok (.ireturn, 1) := by decide +kernel
theorem z24_47 {w : pm_H} {pl : pm_L} {x0 : Int32} : pm_ev 24 47 pl [.int x0] w = pm_zr x0 w := pm_nz pt_24 d24_47
theorem d24_48 : decode cX2_readOther 48 = .ok (.aload_n 0, 1) := by decide +kernel
theorem z24_48 {st : List Value} {w : pm_H} {b1 : Option Value} {x0 : Nat} : pm_ev 24 48 [some (.ref x0), b1] st w = pm_ev 24 49 [some (.ref x0), b1] (.ref x0 :: st) w := pm_ny pt_24 d24_48 rfl rfl rfl
theorem d24_49 : decode cX2_readOther 49 = .ok (.ldc 112, 2) := by decide +kernel
theorem z24_49 {st : List Value} {w : pm_H} {pl : pm_L} : pm_ev 24 49 pl st w = pm_ev 24 51 pl (.ref 1008 :: st) w := pm_nk pt_24 pt_K_2_112 (by decide) d24_49
theorem d24_51 : decode cX2_readOther 51 = .ok (.invokevirtual 66, 3) := by decide +kernel
theorem z24_51 {w : pm_H} {b0 b1 : Option Value} {x0 : Nat} {x1 : Nat} : pm_ev 24 51 [b0, b1] [.ref x0, .ref x1] w = pm_k 24 54 [b0, b1] [] (pm_vc (w x1) 2 (pm_call 18 [.ref x1, .ref x0] w)) := pm_nv pt_24 pt_18 pt_M_2_66 d24_51 ⟨rfl, rfl⟩ ⟨⟨rfl, Nat.le_of_ble_eq_true rfl, Nat.le_of_ble_eq_true rfl, Nat.le_of_ble_eq_true rfl, Nat.le_of_ble_eq_true rfl⟩, rfl⟩
theorem d24_54 : decode cX2_readOther 54 = .ok (.ifCond .eq 10, 3) := by decide +kernel
theorem z24_54 {st : List Value} {w : pm_H} {pl : pm_L} {x0 : Int32} : pm_ev 24 54 pl (.int x0 :: st) w = if x0 = 0 then pm_ev 24 64 pl st w else pm_ev 24 57 pl st w := pm_nif pt_24 d24_54 rfl rfl rfl
theorem d24_57 : decode cX2_readOther 57 = .ok (.aload_n 0, 1) := by decide +kernel
theorem z24_57 {st : List Value} {w : pm_H} {b1 : Option Value} {x0 : Nat} : pm_ev 24 57 [some (.ref x0), b1] st w = pm_ev 24 58 [some (.ref x0), b1] (.ref x0 :: st) w := pm_ny pt_24 d24_57 rfl rfl rfl
theorem d24_58 : decode cX2_readOther 58 = .ok (.aload_n 1, 1) := by decide +kernel
theorem z24_58 {st : List Value} {w : pm_H} {b0 : Option Value} {x0 : Nat} : pm_ev 24 58 [b0, some (.ref x0)] st w = pm_ev 24 59 [b0, some (.ref x0)] (.ref x0 :: st) w := pm_ny pt_24 d24_58 rfl rfl rfl
theorem d24_59 : decode cX2_readOther 59 = .ok (.iconst 0, 1) := by decide +kernel
theorem z24_59 {st : List Value} {w : pm_H} {pl : pm_L} : pm_ev 24 59 pl st w = pm_ev 24 60 pl (.int 0 :: st) w := pm_ny pt_24 d24_59 rfl rfl rfl
theorem d24_60 : decode cX2_readOther 60 = .ok (.invokevirtual 114, 3) := by decide +kernel
theorem z24_60 {w : pm_H} {b0 b1 : Option Value} {x0 : Int32} {x1 : Nat} {x2 : Nat} : pm_ev 24 60 [b0, b1] [.int x0, .ref x1, .ref x2] w = pm_k 24 63 [b0, b1] [] (pm_vc (w x2) 2 (pm_call 26 [.ref x2, .ref x1, .int x0] w)) := pm_nv pt_24 pt_26 pt_M_2_114 d24_60 ⟨rfl, rfl⟩ ⟨⟨rfl, Nat.le_of_ble_eq_true rfl, Nat.le_of_ble_eq_true rfl, Nat.le_of_ble_eq_true rfl, Nat.le_of_ble_eq_true rfl⟩, rfl⟩
theorem d24_63 : decode cX2_readOther 63 = .ok (.ireturn, 1) := by decide +kernel
theorem z24_63 {w : pm_H} {pl : pm_L} {x0 : Int32} : pm_ev 24 63 pl [.int x0] w = pm_zr x0 w := pm_nz pt_24 d24_63
theorem d24_64 : decode cX2_readOther 64 = .ok (.aload_n 0, 1) := by decide +kernel
theorem z24_64 {st : List Value} {w : pm_H} {b1 : Option Value} {x0 : Nat} : pm_ev 24 64 [some (.ref x0), b1] st w = pm_ev 24 65 [some (.ref x0), b1] (.ref x0 :: st) w := pm_ny pt_24 d24_64 rfl rfl rfl
theorem d24_65 : decode cX2_readOther 65 = .ok (.ldc 117, 2) := by decide +kernel
theorem z24_65 {st : List Value} {w : pm_H} {pl : pm_L} : pm_ev 24 65 pl st w = pm_ev 24 67 pl (.ref 1009 :: st) w := pm_nk pt_24 pt_K_2_117 (by decide) d24_65
theorem d24_67 : decode cX2_readOther 67 = .ok (.invokevirtual 66, 3) := by decide +kernel
theorem z24_67 {w : pm_H} {b0 b1 : Option Value} {x0 : Nat} {x1 : Nat} : pm_ev 24 67 [b0, b1] [.ref x0, .ref x1] w = pm_k 24 70 [b0, b1] [] (pm_vc (w x1) 2 (pm_call 18 [.ref x1, .ref x0] w)) := pm_nv pt_24 pt_18 pt_M_2_66 d24_67 ⟨rfl, rfl⟩ ⟨⟨rfl, Nat.le_of_ble_eq_true rfl, Nat.le_of_ble_eq_true rfl, Nat.le_of_ble_eq_true rfl, Nat.le_of_ble_eq_true rfl⟩, rfl⟩
theorem d24_70 : decode cX2_readOther 70 = .ok (.ifCond .eq 10, 3) := by decide +kernel
theorem z24_70 {st : List Value} {w : pm_H} {pl : pm_L} {x0 : Int32} : pm_ev 24 70 pl (.int x0 :: st) w = if x0 = 0 then pm_ev 24 80 pl st w else pm_ev 24 73 pl st w := pm_nif pt_24 d24_70 rfl rfl rfl
theorem d24_73 : decode cX2_readOther 73 = .ok (.aload_n 0, 1) := by decide +kernel
theorem z24_73 {st : List Value} {w : pm_H} {b1 : Option Value} {x0 : Nat} : pm_ev 24 73 [some (.ref x0), b1] st w = pm_ev 24 74 [some (.ref x0), b1] (.ref x0 :: st) w := pm_ny pt_24 d24_73 rfl rfl rfl
theorem d24_74 : decode cX2_readOther 74 = .ok (.aload_n 1, 1) := by decide +kernel
theorem z24_74 {st : List Value} {w : pm_H} {b0 : Option Value} {x0 : Nat} : pm_ev 24 74 [b0, some (.ref x0)] st w = pm_ev 24 75 [b0, some (.ref x0)] (.ref x0 :: st) w := pm_ny pt_24 d24_74 rfl rfl rfl
theorem d24_75 : decode cX2_readOther 75 = .ok (.iconst 1, 1) := by decide +kernel
theorem z24_75 {st : List Value} {w : pm_H} {pl : pm_L} : pm_ev 24 75 pl st w = pm_ev 24 76 pl (.int 1 :: st) w := pm_ny pt_24 d24_75 rfl rfl rfl
theorem d24_76 : decode cX2_readOther 76 = .ok (.invokevirtual 114, 3) := by decide +kernel
theorem z24_76 {w : pm_H} {b0 b1 : Option Value} {x0 : Int32} {x1 : Nat} {x2 : Nat} : pm_ev 24 76 [b0, b1] [.int x0, .ref x1, .ref x2] w = pm_k 24 79 [b0, b1] [] (pm_vc (w x2) 2 (pm_call 26 [.ref x2, .ref x1, .int x0] w)) := pm_nv pt_24 pt_26 pt_M_2_114 d24_76 ⟨rfl, rfl⟩ ⟨⟨rfl, Nat.le_of_ble_eq_true rfl, Nat.le_of_ble_eq_true rfl, Nat.le_of_ble_eq_true rfl, Nat.le_of_ble_eq_true rfl⟩, rfl⟩
theorem d24_79 : decode cX2_readOther 79 = .ok (.ireturn, 1) := by decide +kernel
theorem z24_79 {w : pm_H} {pl : pm_L} {x0 : Int32} : pm_ev 24 79 pl [.int x0] w = pm_zr x0 w := pm_nz pt_24 d24_79
theorem d24_80 : decode cX2_readOther 80 = .ok (.aload_n 0, 1) := by decide +kernel
theorem z24_80 {st : List Value} {w : pm_H} {b1 : Option Value} {x0 : Nat} : pm_ev 24 80 [some (.ref x0), b1] st w = pm_ev 24 81 [some (.ref x0), b1] (.ref x0 :: st) w := pm_ny pt_24 d24_80 rfl rfl rfl
theorem d24_81 : decode cX2_readOther 81 = .ok (.ldc 119, 2) := by decide +kernel
theorem z24_81 {st : List Value} {w : pm_H} {pl : pm_L} : pm_ev 24 81 pl st w = pm_ev 24 83 pl (.ref 1010 :: st) w := pm_nk pt_24 pt_K_2_119 (by decide) d24_81
theorem d24_83 : decode cX2_readOther 83 = .ok (.invokevirtual 66, 3) := by decide +kernel
theorem z24_83 {w : pm_H} {b0 b1 : Option Value} {x0 : Nat} {x1 : Nat} : pm_ev 24 83 [b0, b1] [.ref x0, .ref x1] w = pm_k 24 86 [b0, b1] [] (pm_vc (w x1) 2 (pm_call 18 [.ref x1, .ref x0] w)) := pm_nv pt_24 pt_18 pt_M_2_66 d24_83 ⟨rfl, rfl⟩ ⟨⟨rfl, Nat.le_of_ble_eq_true rfl, Nat.le_of_ble_eq_true rfl, Nat.le_of_ble_eq_true rfl, Nat.le_of_ble_eq_true rfl⟩, rfl⟩
theorem d24_86 : decode cX2_readOther 86 = .ok (.ifCond .eq 10, 3) := by decide +kernel
theorem z24_86 {st : List Value} {w : pm_H} {pl : pm_L} {x0 : Int32} : pm_ev 24 86 pl (.int x0 :: st) w = if x0 = 0 then pm_ev 24 96 pl st w else pm_ev 24 89 pl st w := pm_nif pt_24 d24_86 rfl rfl rfl
theorem d24_89 : decode cX2_readOther 89 = .ok (.aload_n 0, 1) := by decide +kernel
theorem z24_89 {st : List Value} {w : pm_H} {b1 : Option Value} {x0 : Nat} : pm_ev 24 89 [some (.ref x0), b1] st w = pm_ev 24 90 [some (.ref x0), b1] (.ref x0 :: st) w := pm_ny pt_24 d24_89 rfl rfl rfl
theorem d24_90 : decode cX2_readOther 90 = .ok (.aload_n 1, 1) := by decide +kernel
theorem z24_90 {st : List Value} {w : pm_H} {b0 : Option Value} {x0 : Nat} : pm_ev 24 90 [b0, some (.ref x0)] st w = pm_ev 24 91 [b0, some (.ref x0)] (.ref x0 :: st) w := pm_ny pt_24 d24_90 rfl rfl rfl
theorem d24_91 : decode cX2_readOther 91 = .ok (.iconst 2, 1) := by decide +kernel
theorem z24_91 {st : List Value} {w : pm_H} {pl : pm_L} : pm_ev 24 91 pl st w = pm_ev 24 92 pl (.int 2 :: st) w := pm_ny pt_24 d24_91 rfl rfl rfl
theorem d24_92 : decode cX2_readOther 92 = .ok (.invokevirtual 114, 3) := by decide +kernel
theorem z24_92 {w : pm_H} {b0 b1 : Option Value} {x0 : Int32} {x1 : Nat} {x2 : Nat} : pm_ev 24 92 [b0, b1] [.int x0, .ref x1, .ref x2] w = pm_k 24 95 [b0, b1] [] (pm_vc (w x2) 2 (pm_call 26 [.ref x2, .ref x1, .int x0] w)) := pm_nv pt_24 pt_26 pt_M_2_114 d24_92 ⟨rfl, rfl⟩ ⟨⟨rfl, Nat.le_of_ble_eq_true rfl, Nat.le_of_ble_eq_true rfl, Nat.le_of_ble_eq_true rfl, Nat.le_of_ble_eq_true rfl⟩, rfl⟩
theorem d24_95 : decode cX2_readOther 95 = .ok (.ireturn, 1) := by decide +kernel
theorem z24_95 {w : pm_H} {pl : pm_L} {x0 : Int32} : pm_ev 24 95 pl [.int x0] w = pm_zr x0 w := pm_nz pt_24 d24_95
theorem d24_96 : decode cX2_readOther 96 = .ok (.aload_n 0, 1) := by decide +kernel
theorem z24_96 {st : List Value} {w : pm_H} {b1 : Option Value} {x0 : Nat} : pm_ev 24 96 [some (.ref x0), b1] st w = pm_ev 24 97 [some (.ref x0), b1] (.ref x0 :: st) w := pm_ny pt_24 d24_96 rfl rfl rfl
theorem d24_97 : decode cX2_readOther 97 = .ok (.iconst 1, 1) := by decide +kernel
theorem z24_97 {st : List Value} {w : pm_H} {pl : pm_L} : pm_ev 24 97 pl st w = pm_ev 24 98 pl (.int 1 :: st) w := pm_ny pt_24 d24_97 rfl rfl rfl
theorem d24_98 : decode cX2_readOther 98 = .ok (.invokevirtual 60, 3) := by decide +kernel
theorem z24_98 {w : pm_H} {b0 b1 : Option Value} {x0 : Int32} {x1 : Nat} : pm_ev 24 98 [b0, b1] [.int x0, .ref x1] w = pm_k 24 101 [b0, b1] [] (pm_vc (w x1) 2 (pm_call 16 [.ref x1, .int x0] w)) := pm_nv pt_24 pt_16 pt_M_2_60 d24_98 ⟨rfl, rfl⟩ ⟨⟨rfl, Nat.le_of_ble_eq_true rfl, Nat.le_of_ble_eq_true rfl, Nat.le_of_ble_eq_true rfl, Nat.le_of_ble_eq_true rfl⟩, rfl⟩
theorem d24_101 : decode cX2_readOther 101 = .ok (.ireturn, 1) := by decide +kernel
theorem z24_101 {w : pm_H} {pl : pm_L} {x0 : Int32} : pm_ev 24 101 pl [.int x0] w = pm_zr x0 w := pm_nz pt_24 d24_101
theorem d25_0 : decode cX2_readEvent 0 = .ok (.aload_n 1, 1) := by decide +kernel
theorem z25_0 {st : List Value} {w : pm_H} {b0 b2 b3 : Option Value} {x0 : Nat} : pm_ev 25 0 [b0, some (.ref x0), b2, b3] st w = pm_ev 25 1 [b0, some (.ref x0), b2, b3] (.ref x0 :: st) w := pm_ny pt_25 d25_0 rfl rfl rfl
theorem d25_1 : decode cX2_readEvent 1 = .ok (.iload_n 2, 1) := by decide +kernel
theorem z25_1 {st : List Value} {w : pm_H} {b0 b1 b3 : Option Value} {x0 : Int32} : pm_ev 25 1 [b0, b1, some (.int x0), b3] st w = pm_ev 25 2 [b0, b1, some (.int x0), b3] (.int x0 :: st) w := pm_ny pt_25 d25_1 rfl rfl rfl
theorem d25_2 : decode cX2_readEvent 2 = .ok (.invokevirtual 121, 3) := by decide +kernel
theorem z25_2 {w : pm_H} {b0 b1 b2 b3 : Option Value} {x0 : Int32} {x1 : Nat} : pm_ev 25 2 [b0, b1, b2, b3] [.int x0, .ref x1] w = pm_k 25 5 [b0, b1, b2, b3] [] (pm_vc (w x1) 4 (pm_call 30 [.ref x1, .int x0] w)) := pm_nv pt_25 pt_30 pt_M_2_121 d25_2 ⟨rfl, rfl⟩ ⟨⟨rfl, Nat.le_of_ble_eq_true rfl, Nat.le_of_ble_eq_true rfl, Nat.le_of_ble_eq_true rfl, Nat.le_of_ble_eq_true rfl⟩, rfl⟩
theorem d25_5 : decode cX2_readEvent 5 = .ok (.ifCond .ne 9, 3) := by decide +kernel
theorem z25_5 {st : List Value} {w : pm_H} {pl : pm_L} {x0 : Int32} : pm_ev 25 5 pl (.int x0 :: st) w = if x0 = 0 then pm_ev 25 8 pl st w else pm_ev 25 14 pl st w := pm_nin (c := ¬ x0 = 0) pt_25 d25_5 rfl rfl rfl Iff.rfl
theorem d25_8 : decode cX2_readEvent 8 = .ok (.aload_n 0, 1) := by decide +kernel
theorem z25_8 {st : List Value} {w : pm_H} {b1 b2 b3 : Option Value} {x0 : Nat} : pm_ev 25 8 [some (.ref x0), b1, b2, b3] st w = pm_ev 25 9 [some (.ref x0), b1, b2, b3] (.ref x0 :: st) w := pm_ny pt_25 d25_8 rfl rfl rfl
theorem d25_9 : decode cX2_readEvent 9 = .ok (.iconst 3, 1) := by decide +kernel
theorem z25_9 {st : List Value} {w : pm_H} {pl : pm_L} : pm_ev 25 9 pl st w = pm_ev 25 10 pl (.int 3 :: st) w := pm_ny pt_25 d25_9 rfl rfl rfl
theorem d25_10 : decode cX2_readEvent 10 = .ok (.invokevirtual 60, 3) := by decide +kernel
theorem z25_10 {w : pm_H} {b0 b1 b2 b3 : Option Value} {x0 : Int32} {x1 : Nat} : pm_ev 25 10 [b0, b1, b2, b3] [.int x0, .ref x1] w = pm_k 25 13 [b0, b1, b2, b3] [] (pm_vc (w x1) 2 (pm_call 16 [.ref x1, .int x0] w)) := pm_nv pt_25 pt_16 pt_M_2_60 d25_10 ⟨rfl, rfl⟩ ⟨⟨rfl, Nat.le_of_ble_eq_true rfl, Nat.le_of_ble_eq_true rfl, Nat.le_of_ble_eq_true rfl, Nat.le_of_ble_eq_true rfl⟩, rfl⟩
theorem d25_13 : decode cX2_readEvent 13 = .ok (.ireturn, 1) := by decide +kernel
theorem z25_13 {w : pm_H} {pl : pm_L} {x0 : Int32} : pm_ev 25 13 pl [.int x0] w = pm_zr x0 w := pm_nz pt_25 d25_13
theorem d25_14 : decode cX2_readEvent 14 = .ok (.aload_n 0, 1) := by decide +kernel
theorem z25_14 {st : List Value} {w : pm_H} {b1 b2 b3 : Option Value} {x0 : Nat} : pm_ev 25 14 [some (.ref x0), b1, b2, b3] st w = pm_ev 25 15 [some (.ref x0), b1, b2, b3] (.ref x0 :: st) w := pm_ny pt_25 d25_14 rfl rfl rfl
theorem d25_15 : decode cX2_readEvent 15 = .ok (.aload_n 1, 1) := by decide +kernel
theorem z25_15 {st : List Value} {w : pm_H} {b0 b2 b3 : Option Value} {x0 : Nat} : pm_ev 25 15 [b0, some (.ref x0), b2, b3] st w = pm_ev 25 16 [b0, some (.ref x0), b2, b3] (.ref x0 :: st) w := pm_ny pt_25 d25_15 rfl rfl rfl
theorem d25_16 : decode cX2_readEvent 16 = .ok (.invokevirtual 124, 3) := by decide +kernel
theorem z25_16 {w : pm_H} {b0 b1 b2 b3 : Option Value} {x0 : Nat} {x1 : Nat} : pm_ev 25 16 [b0, b1, b2, b3] [.ref x0, .ref x1] w = pm_k 25 19 [b0, b1, b2, b3] [.ref x1] (pm_vc (w x0) 4 (pm_call 32 [.ref x0] w)) := pm_nv pt_25 pt_32 pt_M_2_124 d25_16 ⟨rfl, rfl⟩ ⟨⟨rfl, Nat.le_of_ble_eq_true rfl, Nat.le_of_ble_eq_true rfl, Nat.le_of_ble_eq_true rfl, Nat.le_of_ble_eq_true rfl⟩, rfl⟩
theorem d25_19 : decode cX2_readEvent 19 = .ok (.sipush 359, 3) := by decide +kernel
theorem z25_19 {st : List Value} {w : pm_H} {pl : pm_L} : pm_ev 25 19 pl st w = pm_ev 25 22 pl (.int 359 :: st) w := pm_ny pt_25 d25_19 rfl rfl rfl
theorem d25_22 : decode cX2_readEvent 22 = .ok (.invokevirtual 71, 3) := by decide +kernel
theorem z25_22 {w : pm_H} {b0 b1 b2 b3 : Option Value} {x0 : Int32} {x1 : Int32} {x2 : Nat} : pm_ev 25 22 [b0, b1, b2, b3] [.int x0, .int x1, .ref x2] w = pm_k 25 25 [b0, b1, b2, b3] [] (pm_vc (w x2) 2 (pm_call 19 [.ref x2, .int x1, .int x0] w)) := pm_nv pt_25 pt_19 pt_M_2_71 d25_22 ⟨rfl, rfl⟩ ⟨⟨rfl, Nat.le_of_ble_eq_true rfl, Nat.le_of_ble_eq_true rfl, Nat.le_of_ble_eq_true rfl, Nat.le_of_ble_eq_true rfl⟩, rfl⟩
theorem d25_25 : decode cX2_readEvent 25 = .ok (.ifCond .ne 5, 3) := by decide +kernel
theorem z25_25 {st : List Value} {w : pm_H} {pl : pm_L} {x0 : Int32} : pm_ev 25 25 pl (.int x0 :: st) w = if x0 = 0 then pm_ev 25 28 pl st w else pm_ev 25 30 pl st w := pm_nin (c := ¬ x0 = 0) pt_25 d25_25 rfl rfl rfl Iff.rfl
theorem d25_28 : decode cX2_readEvent 28 = .ok (.iconst 0, 1) := by decide +kernel
theorem z25_28 {st : List Value} {w : pm_H} {pl : pm_L} : pm_ev 25 28 pl st w = pm_ev 25 29 pl (.int 0 :: st) w := pm_ny pt_25 d25_28 rfl rfl rfl
theorem d25_29 : decode cX2_readEvent 29 = .ok (.ireturn, 1) := by decide +kernel
theorem z25_29 {w : pm_H} {pl : pm_L} {x0 : Int32} : pm_ev 25 29 pl [.int x0] w = pm_zr x0 w := pm_nz pt_25 d25_29
theorem d25_30 : decode cX2_readEvent 30 = .ok (.aload_n 0, 1) := by decide +kernel
theorem z25_30 {st : List Value} {w : pm_H} {b1 b2 b3 : Option Value} {x0 : Nat} : pm_ev 25 30 [some (.ref x0), b1, b2, b3] st w = pm_ev 25 31 [some (.ref x0), b1, b2, b3] (.ref x0 :: st) w := pm_ny pt_25 d25_30 rfl rfl rfl
theorem d25_31 : decode cX2_readEvent 31 = .ok (.getfield 75, 3) := by decide +kernel
theorem z25_31 {st : List Value} {w : pm_H} {pl : pm_L} {x0 : Nat} : pm_ev 25 31 pl (.ref x0 :: st) w = pm_kv 25 34 pl st w (pm_gf (w x0) 2 6) := pm_ng pt_25 pt_F_2_75 d25_31
theorem d25_34 : decode cX2_readEvent 34 = .ok (.istore_n 3, 1) := by decide +kernel
theorem z25_34 {st : List Value} {w : pm_H} {b0 b1 b3 : Option Value} {x0 : Int32} {x9 : Int32} : pm_ev 25 34 [b0, b1, some (.int x9), b3] (.int x0 :: st) w = pm_ev 25 35 [b0, b1, some (.int x9), some (.int x0)] st w := pm_ny pt_25 d25_34 rfl rfl rfl
theorem d25_35 : decode cX2_readEvent 35 = .ok (.aload_n 0, 1) := by decide +kernel
theorem z25_35 {st : List Value} {w : pm_H} {b1 b2 b3 : Option Value} {x0 : Nat} : pm_ev 25 35 [some (.ref x0), b1, b2, b3] st w = pm_ev 25 36 [some (.ref x0), b1, b2, b3] (.ref x0 :: st) w := pm_ny pt_25 d25_35 rfl rfl rfl
theorem d25_36 : decode cX2_readEvent 36 = .ok (.aload_n 1, 1) := by decide +kernel
theorem z25_36 {st : List Value} {w : pm_H} {b0 b2 b3 : Option Value} {x0 : Nat} : pm_ev 25 36 [b0, some (.ref x0), b2, b3] st w = pm_ev 25 37 [b0, some (.ref x0), b2, b3] (.ref x0 :: st) w := pm_ny pt_25 d25_36 rfl rfl rfl
theorem d25_37 : decode cX2_readEvent 37 = .ok (.iload_n 2, 1) := by decide +kernel
theorem z25_37 {st : List Value} {w : pm_H} {b0 b1 b3 : Option Value} {x0 : Int32} : pm_ev 25 37 [b0, b1, some (.int x0), b3] st w = pm_ev 25 38 [b0, b1, some (.int x0), b3] (.int x0 :: st) w := pm_ny pt_25 d25_37 rfl rfl rfl
theorem d25_38 : decode cX2_readEvent 38 = .ok (.invokevirtual 128, 3) := by decide +kernel
theorem z25_38 {w : pm_H} {b0 b1 b2 b3 : Option Value} {x0 : Int32} {x1 : Nat} {x2 : Nat} : pm_ev 25 38 [b0, b1, b2, b3] [.int x0, .ref x1, .ref x2] w = pm_k 25 41 [b0, b1, b2, b3] [.ref x2] (pm_vc (w x1) 4 (pm_call 34 [.ref x1, .int x0] w)) := pm_nv pt_25 pt_34 pt_M_2_128 d25_38 ⟨rfl, rfl⟩ ⟨⟨rfl, Nat.le_of_ble_eq_true rfl, Nat.le_of_ble_eq_true rfl, Nat.le_of_ble_eq_true rfl, Nat.le_of_ble_eq_true rfl⟩, rfl⟩
theorem d25_41 : decode cX2_readEvent 41 = .ok (.aload_n 1, 1) := by decide +kernel
theorem z25_41 {st : List Value} {w : pm_H} {b0 b2 b3 : Option Value} {x0 : Nat} : pm_ev 25 41 [b0, some (.ref x0), b2, b3] st w = pm_ev 25 42 [b0, some (.ref x0), b2, b3] (.ref x0 :: st) w := pm_ny pt_25 d25_41 rfl rfl rfl
theorem d25_42 : decode cX2_readEvent 42 = .ok (.iload_n 2, 1) := by decide +kernel
theorem z25_42 {st : List Value} {w : pm_H} {b0 b1 b3 : Option Value} {x0 : Int32} : pm_ev 25 42 [b0, b1, some (.int x0), b3] st w = pm_ev 25 43 [b0, b1, some (.int x0), b3] (.int x0 :: st) w := pm_ny pt_25 d25_42 rfl rfl rfl
theorem d25_43 : decode cX2_readEvent 43 = .ok (.invokevirtual 131, 3) := by decide +kernel
theorem z25_43 {w : pm_H} {b0 b1 b2 b3 : Option Value} {x0 : Int32} {x1 : Nat} {x2 : Int32} {x3 : Nat} : pm_ev 25 43 [b0, b1, b2, b3] [.int x0, .ref x1, .int x2, .ref x3] w = pm_k 25 46 [b0, b1, b2, b3] [.int x2, .ref x3] (pm_vc (w x1) 4 (pm_call 35 [.ref x1, .int x0] w)) := pm_nv pt_25 pt_35 pt_M_2_131 d25_43 ⟨rfl, rfl⟩ ⟨⟨rfl, Nat.le_of_ble_eq_true rfl, Nat.le_of_ble_eq_true rfl, Nat.le_of_ble_eq_true rfl, Nat.le_of_ble_eq_true rfl⟩, rfl⟩
theorem d25_46 : decode cX2_readEvent 46 = .ok (.invokevirtual 71, 3) := by decide +kernel
theorem z25_46 {w : pm_H} {b0 b1 b2 b3 : Option Value} {x0 : Int32} {x1 : Int32} {x2 : Nat} : pm_ev 25 46 [b0, b1, b2, b3] [.int x0, .int x1, .ref x2] w = pm_k 25 49 [b0, b1, b2, b3] [] (pm_vc (w x2) 2 (pm_call 19 [.ref x2, .int x1, .int x0] w)) := pm_nv pt_25 pt_19 pt_M_2_71 d25_46 ⟨rfl, rfl⟩ ⟨⟨rfl, Nat.le_of_ble_eq_true rfl, Nat.le_of_ble_eq_true rfl, Nat.le_of_ble_eq_true rfl, Nat.le_of_ble_eq_true rfl⟩, rfl⟩
theorem d25_49 : decode cX2_readEvent 49 = .ok (.ifCond .ne 5, 3) := by decide +kernel
theorem z25_49 {st : List Value} {w : pm_H} {pl : pm_L} {x0 : Int32} : pm_ev 25 49 pl (.int x0 :: st) w = if x0 = 0 then pm_ev 25 52 pl st w else pm_ev 25 54 pl st w := pm_nin (c := ¬ x0 = 0) pt_25 d25_49 rfl rfl rfl Iff.rfl
theorem d25_52 : decode cX2_readEvent 52 = .ok (.iconst 0, 1) := by decide +kernel
theorem z25_52 {st : List Value} {w : pm_H} {pl : pm_L} : pm_ev 25 52 pl st w = pm_ev 25 53 pl (.int 0 :: st) w := pm_ny pt_25 d25_52 rfl rfl rfl
theorem d25_53 : decode cX2_readEvent 53 = .ok (.ireturn, 1) := by decide +kernel
theorem z25_53 {w : pm_H} {pl : pm_L} {x0 : Int32} : pm_ev 25 53 pl [.int x0] w = pm_zr x0 w := pm_nz pt_25 d25_53
theorem d25_54 : decode cX2_readEvent 54 = .ok (.aload_n 1, 1) := by decide +kernel
theorem z25_54 {st : List Value} {w : pm_H} {b0 b2 b3 : Option Value} {x0 : Nat} : pm_ev 25 54 [b0, some (.ref x0), b2, b3] st w = pm_ev 25 55 [b0, some (.ref x0), b2, b3] (.ref x0 :: st) w := pm_ny pt_25 d25_54 rfl rfl rfl
theorem d25_55 : decode cX2_readEvent 55 = .ok (.iload_n 2, 1) := by decide +kernel
theorem z25_55 {st : List Value} {w : pm_H} {b0 b1 b3 : Option Value} {x0 : Int32} : pm_ev 25 55 [b0, b1, some (.int x0), b3] st w = pm_ev 25 56 [b0, b1, some (.int x0), b3] (.int x0 :: st) w := pm_ny pt_25 d25_55 rfl rfl rfl
theorem d25_56 : decode cX2_readEvent 56 = .ok (.iload_n 3, 1) := by decide +kernel
theorem z25_56 {st : List Value} {w : pm_H} {b0 b1 b2 : Option Value} {x0 : Int32} : pm_ev 25 56 [b0, b1, b2, some (.int x0)] st w = pm_ev 25 57 [b0, b1, b2, some (.int x0)] (.int x0 :: st) w := pm_ny pt_25 d25_56 rfl rfl rfl
theorem d25_57 : decode cX2_readEvent 57 = .ok (.aload_n 0, 1) := by decide +kernel
theorem z25_57 {st : List Value} {w : pm_H} {b1 b2 b3 : Option Value} {x0 : Nat} : pm_ev 25 57 [some (.ref x0), b1, b2, b3] st w = pm_ev 25 58 [some (.ref x0), b1, b2, b3] (.ref x0 :: st) w := pm_ny pt_25 d25_57 rfl rfl rfl
theorem d25_58 : decode cX2_readEvent 58 = .ok (.getfield 75, 3) := by decide +kernel
theorem z25_58 {st : List Value} {w : pm_H} {pl : pm_L} {x0 : Nat} : pm_ev 25 58 pl (.ref x0 :: st) w = pm_kv 25 61 pl st w (pm_gf (w x0) 2 6) := pm_ng pt_25 pt_F_2_75 d25_58
theorem d25_61 : decode cX2_readEvent 61 = .ok (.invokevirtual 134, 3) := by decide +kernel
theorem z25_61 {w : pm_H} {b0 b1 b2 b3 : Option Value} {x0 : Int32} {x1 : Int32} {x2 : Int32} {x3 : Nat} : pm_ev 25 61 [b0, b1, b2, b3] [.int x0, .int x1, .int x2, .ref x3] w = pm_k 25 64 [b0, b1, b2, b3] [] (pm_vc (w x3) 4 (pm_call 37 [.ref x3, .int x2, .int x1, .int x0] w)) := pm_nv pt_25 pt_37 pt_M_2_134 d25_61 ⟨rfl, rfl⟩ ⟨⟨rfl, Nat.le_of_ble_eq_true rfl, Nat.le_of_ble_eq_true rfl, Nat.le_of_ble_eq_true rfl, Nat.le_of_ble_eq_true rfl⟩, rfl⟩
theorem d25_64 : decode cX2_readEvent 64 = .ok (.aload_n 0, 1) := by decide +kernel
theorem z25_64 {st : List Value} {w : pm_H} {b1 b2 b3 : Option Value} {x0 : Nat} : pm_ev 25 64 [some (.ref x0), b1, b2, b3] st w = pm_ev 25 65 [some (.ref x0), b1, b2, b3] (.ref x0 :: st) w := pm_ny pt_25 d25_64 rfl rfl rfl
theorem d25_65 : decode cX2_readEvent 65 = .ok (.invokevirtual 81, 3) := by decide +kernel
theorem z25_65 {w : pm_H} {b0 b1 b2 b3 : Option Value} {x0 : Nat} : pm_ev 25 65 [b0, b1, b2, b3] [.ref x0] w = pm_k 25 68 [b0, b1, b2, b3] [] (pm_vc (w x0) 2 (pm_call 20 [.ref x0] w)) := pm_nv pt_25 pt_20 pt_M_2_81 d25_65 ⟨rfl, rfl⟩ ⟨⟨rfl, Nat.le_of_ble_eq_true rfl, Nat.le_of_ble_eq_true rfl, Nat.le_of_ble_eq_true rfl, Nat.le_of_ble_eq_true rfl⟩, rfl⟩
theorem d25_68 : decode cX2_readEvent 68 = .ok (.ireturn, 1) := by decide +kernel
theorem z25_68 {w : pm_H} {pl : pm_L} {x0 : Int32} : pm_ev 25 68 pl [.int x0] w = pm_zr x0 w := pm_nz pt_25 d25_68
theorem d26_0 : decode cX2_readInstrument 0 = .ok (.iload_n 2, 1) := by decide +kernel
theorem z26_0 {st : List Value} {w : pm_H} {b0 b1 b3 b4 b5 : Option Value} {x0 : Int32} : pm_ev 26 0 [b0, b1, some (.int x0), b3, b4, b5] st w = pm_ev 26 1 [b0, b1, some (.int x0), b3, b4, b5] (.int x0 :: st) w := pm_ny pt_26 d26_0 rfl rfl rfl
theorem d26_1 : decode cX2_readInstrument 1 = .ok (.istore_n 3, 1) := by decide +kernel
theorem z26_1 {st : List Value} {w : pm_H} {b0 b1 b3 b4 b5 : Option Value} {x0 : Int32} {x9 : Int32} : pm_ev 26 1 [b0, b1, some (.int x9), b3, b4, b5] (.int x0 :: st) w = pm_ev 26 2 [b0, b1, some (.int x9), some (.int x0), b4, b5] st w := pm_ny pt_26 d26_1 rfl rfl rfl
theorem d26_2 : decode cX2_readInstrument 2 = .ok (.aload_n 1, 1) := by decide +kernel
theorem z26_2 {st : List Value} {w : pm_H} {b0 b2 b3 b4 b5 : Option Value} {x0 : Nat} : pm_ev 26 2 [b0, some (.ref x0), b2, b3, b4, b5] st w = pm_ev 26 3 [b0, some (.ref x0), b2, b3, b4, b5] (.ref x0 :: st) w := pm_ny pt_26 d26_2 rfl rfl rfl
theorem d26_3 : decode cX2_readInstrument 3 = .ok (.invokevirtual 138, 3) := by decide +kernel
theorem z26_3 {w : pm_H} {b0 b1 b2 b3 b4 b5 : Option Value} {x0 : Nat} : pm_ev 26 3 [b0, b1, b2, b3, b4, b5] [.ref x0] w = pm_k 26 6 [b0, b1, b2, b3, b4, b5] [] (pm_vc (w x0) 4 (pm_call 38 [.ref x0] w)) := pm_nv pt_26 pt_38 pt_M_2_138 d26_3 ⟨rfl, rfl⟩ ⟨⟨rfl, Nat.le_of_ble_eq_true rfl, Nat.le_of_ble_eq_true rfl, Nat.le_of_ble_eq_true rfl, Nat.le_of_ble_eq_true rfl⟩, rfl⟩
theorem d26_6 : decode cX2_readInstrument 6 = .ok (.ifCond .ne 9, 3) := by decide +kernel
theorem z26_6 {st : List Value} {w : pm_H} {pl : pm_L} {x0 : Int32} : pm_ev 26 6 pl (.int x0 :: st) w = if x0 = 0 then pm_ev 26 9 pl st w else pm_ev 26 15 pl st w := pm_nin (c := ¬ x0 = 0) pt_26 d26_6 rfl rfl rfl Iff.rfl
theorem d26_9 : decode cX2_readInstrument 9 = .ok (.aload_n 0, 1) := by decide +kernel
theorem z26_9 {st : List Value} {w : pm_H} {b1 b2 b3 b4 b5 : Option Value} {x0 : Nat} : pm_ev 26 9 [some (.ref x0), b1, b2, b3, b4, b5] st w = pm_ev 26 10 [some (.ref x0), b1, b2, b3, b4, b5] (.ref x0 :: st) w := pm_ny pt_26 d26_9 rfl rfl rfl
theorem d26_10 : decode cX2_readInstrument 10 = .ok (.iconst 3, 1) := by decide +kernel
theorem z26_10 {st : List Value} {w : pm_H} {pl : pm_L} : pm_ev 26 10 pl st w = pm_ev 26 11 pl (.int 3 :: st) w := pm_ny pt_26 d26_10 rfl rfl rfl
theorem d26_11 : decode cX2_readInstrument 11 = .ok (.invokevirtual 60, 3) := by decide +kernel
theorem z26_11 {w : pm_H} {b0 b1 b2 b3 b4 b5 : Option Value} {x0 : Int32} {x1 : Nat} : pm_ev 26 11 [b0, b1, b2, b3, b4, b5] [.int x0, .ref x1] w = pm_k 26 14 [b0, b1, b2, b3, b4, b5] [] (pm_vc (w x1) 2 (pm_call 16 [.ref x1, .int x0] w)) := pm_nv pt_26 pt_16 pt_M_2_60 d26_11 ⟨rfl, rfl⟩ ⟨⟨rfl, Nat.le_of_ble_eq_true rfl, Nat.le_of_ble_eq_true rfl, Nat.le_of_ble_eq_true rfl, Nat.le_of_ble_eq_true rfl⟩, rfl⟩
theorem d26_14 : decode cX2_readInstrument 14 = .ok (.ireturn, 1) := by decide +kernel
theorem z26_14 {w : pm_H} {pl : pm_L} {x0 : Int32} : pm_ev 26 14 pl [.int x0] w = pm_zr x0 w := pm_nz pt_26 d26_14
theorem d26_15 : decode cX2_readInstrument 15 = .ok (.aload_n 0, 1) := by decide +kernel
theorem z26_15 {st : List Value} {w : pm_H} {b1 b2 b3 b4 b5 : Option Value} {x0 : Nat} : pm_ev 26 15 [some (.ref x0), b1, b2, b3, b4, b5] st w = pm_ev 26 16 [some (.ref x0), b1, b2, b3, b4, b5] (.ref x0 :: st) w := pm_ny pt_26 d26_15 rfl rfl rfl
theorem d26_16 : decode cX2_readInstrument 16 = .ok (.iconst 0, 1) := by decide +kernel
theorem z26_16 {st : List Value} {w : pm_H} {pl : pm_L} : pm_ev 26 16 pl st w = pm_ev 26 17 pl (.int 0 :: st) w := pm_ny pt_26 d26_16 rfl rfl rfl
theorem d26_17 : decode cX2_readInstrument 17 = .ok (.sipush 359, 3) := by decide +kernel
theorem z26_17 {st : List Value} {w : pm_H} {pl : pm_L} : pm_ev 26 17 pl st w = pm_ev 26 20 pl (.int 359 :: st) w := pm_ny pt_26 d26_17 rfl rfl rfl
theorem d26_20 : decode cX2_readInstrument 20 = .ok (.invokevirtual 71, 3) := by decide +kernel
theorem z26_20 {w : pm_H} {b0 b1 b2 b3 b4 b5 : Option Value} {x0 : Int32} {x1 : Int32} {x2 : Nat} : pm_ev 26 20 [b0, b1, b2, b3, b4, b5] [.int x0, .int x1, .ref x2] w = pm_k 26 23 [b0, b1, b2, b3, b4, b5] [] (pm_vc (w x2) 2 (pm_call 19 [.ref x2, .int x1, .int x0] w)) := pm_nv pt_26 pt_19 pt_M_2_71 d26_20 ⟨rfl, rfl⟩ ⟨⟨rfl, Nat.le_of_ble_eq_true rfl, Nat.le_of_ble_eq_true rfl, Nat.le_of_ble_eq_true rfl, Nat.le_of_ble_eq_true rfl⟩, rfl⟩
theorem d26_23 : decode cX2_readInstrument 23 = .ok (.ifCond .ne 5, 3) := by decide +kernel
theorem z26_23 {st : List Value} {w : pm_H} {pl : pm_L} {x0 : Int32} : pm_ev 26 23 pl (.int x0 :: st) w = if x0 = 0 then pm_ev 26 26 pl st w else pm_ev 26 28 pl st w := pm_nin (c := ¬ x0 = 0) pt_26 d26_23 rfl rfl rfl Iff.rfl
theorem d26_26 : decode cX2_readInstrument 26 = .ok (.iconst 0, 1) := by decide +kernel
theorem z26_26 {st : List Value} {w : pm_H} {pl : pm_L} : pm_ev 26 26 pl st w = pm_ev 26 27 pl (.int 0 :: st) w := pm_ny pt_26 d26_26 rfl rfl rfl
theorem d26_27 : decode cX2_readInstrument 27 = .ok (.ireturn, 1) := by decide +kernel
theorem z26_27 {w : pm_H} {pl : pm_L} {x0 : Int32} : pm_ev 26 27 pl [.int x0] w = pm_zr x0 w := pm_nz pt_26 d26_27
theorem d26_28 : decode cX2_readInstrument 28 = .ok (.aload_n 0, 1) := by decide +kernel
theorem z26_28 {st : List Value} {w : pm_H} {b1 b2 b3 b4 b5 : Option Value} {x0 : Nat} : pm_ev 26 28 [some (.ref x0), b1, b2, b3, b4, b5] st w = pm_ev 26 29 [some (.ref x0), b1, b2, b3, b4, b5] (.ref x0 :: st) w := pm_ny pt_26 d26_28 rfl rfl rfl
theorem d26_29 : decode cX2_readInstrument 29 = .ok (.getfield 75, 3) := by decide +kernel
theorem z26_29 {st : List Value} {w : pm_H} {pl : pm_L} {x0 : Nat} : pm_ev 26 29 pl (.ref x0 :: st) w = pm_kv 26 32 pl st w (pm_gf (w x0) 2 6) := pm_ng pt_26 pt_F_2_75 d26_29
theorem d26_32 : decode cX2_readInstrument 32 = .ok (.istore 4, 2) := by decide +kernel
theorem z26_32 {st : List Value} {w : pm_H} {b0 b1 b2 b4 b5 : Option Value} {x0 : Int32} {x9 : Int32} : pm_ev 26 32 [b0, b1, b2, some (.int x9), b4, b5] (.int x0 :: st) w = pm_ev 26 34 [b0, b1, b2, some (.int x9), some (.int x0), b5] st w := pm_ny pt_26 d26_32 rfl rfl rfl
theorem d26_34 : decode cX2_readInstrument 34 = .ok (.aload_n 0, 1) := by decide +kernel
theorem z26_34 {st : List Value} {w : pm_H} {b1 b2 b3 b4 b5 : Option Value} {x0 : Nat} : pm_ev 26 34 [some (.ref x0), b1, b2, b3, b4, b5] st w = pm_ev 26 35 [some (.ref x0), b1, b2, b3, b4, b5] (.ref x0 :: st) w := pm_ny pt_26 d26_34 rfl rfl rfl
theorem d26_35 : decode cX2_readInstrument 35 = .ok (.iconst 1, 1) := by decide +kernel
theorem z26_35 {st : List Value} {w : pm_H} {pl : pm_L} : pm_ev 26 35 pl st w = pm_ev 26 36 pl (.int 1 :: st) w := pm_ny pt_26 d26_35 rfl rfl rfl
theorem d26_36 : decode cX2_readInstrument 36 = .ok (.sipush 9999, 3) := by decide +kernel
theorem z26_36 {st : List Value} {w : pm_H} {pl : pm_L} : pm_ev 26 36 pl st w = pm_ev 26 39 pl (.int 9999 :: st) w := pm_ny pt_26 d26_36 rfl rfl rfl
theorem d26_39 : decode cX2_readInstrument 39 = .ok (.invokevirtual 71, 3) := by decide +kernel
theorem z26_39 {w : pm_H} {b0 b1 b2 b3 b4 b5 : Option Value} {x0 : Int32} {x1 : Int32} {x2 : Nat} : pm_ev 26 39 [b0, b1, b2, b3, b4, b5] [.int x0, .int x1, .ref x2] w = pm_k 26 42 [b0, b1, b2, b3, b4, b5] [] (pm_vc (w x2) 2 (pm_call 19 [.ref x2, .int x1, .int x0] w)) := pm_nv pt_26 pt_19 pt_M_2_71 d26_39 ⟨rfl, rfl⟩ ⟨⟨rfl, Nat.le_of_ble_eq_true rfl, Nat.le_of_ble_eq_true rfl, Nat.le_of_ble_eq_true rfl, Nat.le_of_ble_eq_true rfl⟩, rfl⟩
theorem d26_42 : decode cX2_readInstrument 42 = .ok (.ifCond .ne 5, 3) := by decide +kernel
theorem z26_42 {st : List Value} {w : pm_H} {pl : pm_L} {x0 : Int32} : pm_ev 26 42 pl (.int x0 :: st) w = if x0 = 0 then pm_ev 26 45 pl st w else pm_ev 26 47 pl st w := pm_nin (c := ¬ x0 = 0) pt_26 d26_42 rfl rfl rfl Iff.rfl
theorem d26_45 : decode cX2_readInstrument 45 = .ok (.iconst 0, 1) := by decide +kernel
theorem z26_45 {st : List Value} {w : pm_H} {pl : pm_L} : pm_ev 26 45 pl st w = pm_ev 26 46 pl (.int 0 :: st) w := pm_ny pt_26 d26_45 rfl rfl rfl
theorem d26_46 : decode cX2_readInstrument 46 = .ok (.ireturn, 1) := by decide +kernel
theorem z26_46 {w : pm_H} {pl : pm_L} {x0 : Int32} : pm_ev 26 46 pl [.int x0] w = pm_zr x0 w := pm_nz pt_26 d26_46
theorem d26_47 : decode cX2_readInstrument 47 = .ok (.aload_n 0, 1) := by decide +kernel
theorem z26_47 {st : List Value} {w : pm_H} {b1 b2 b3 b4 b5 : Option Value} {x0 : Nat} : pm_ev 26 47 [some (.ref x0), b1, b2, b3, b4, b5] st w = pm_ev 26 48 [some (.ref x0), b1, b2, b3, b4, b5] (.ref x0 :: st) w := pm_ny pt_26 d26_47 rfl rfl rfl
theorem d26_48 : decode cX2_readInstrument 48 = .ok (.getfield 75, 3) := by decide +kernel
theorem z26_48 {st : List Value} {w : pm_H} {pl : pm_L} {x0 : Nat} : pm_ev 26 48 pl (.ref x0 :: st) w = pm_kv 26 51 pl st w (pm_gf (w x0) 2 6) := pm_ng pt_26 pt_F_2_75 d26_48
theorem d26_51 : decode cX2_readInstrument 51 = .ok (.istore 5, 2) := by decide +kernel
theorem z26_51 {st : List Value} {w : pm_H} {b0 b1 b2 b3 b5 : Option Value} {x0 : Int32} {x9 : Int32} : pm_ev 26 51 [b0, b1, b2, b3, some (.int x9), b5] (.int x0 :: st) w = pm_ev 26 53 [b0, b1, b2, b3, some (.int x9), some (.int x0)] st w := pm_ny pt_26 d26_51 rfl rfl rfl
theorem d26_53 : decode cX2_readInstrument 53 = .ok (.iload_n 3, 1) := by decide +kernel
theorem z26_53 {st : List Value} {w : pm_H} {b0 b1 b2 b4 b5 : Option Value} {x0 : Int32} : pm_ev 26 53 [b0, b1, b2, some (.int x0), b4, b5] st w = pm_ev 26 54 [b0, b1, b2, some (.int x0), b4, b5] (.int x0 :: st) w := pm_ny pt_26 d26_53 rfl rfl rfl
theorem d26_54 : decode cX2_readInstrument 54 = .ok (.iconst 2, 1) := by decide +kernel
theorem z26_54 {st : List Value} {w : pm_H} {pl : pm_L} : pm_ev 26 54 pl st w = pm_ev 26 55 pl (.int 2 :: st) w := pm_ny pt_26 d26_54 rfl rfl rfl
theorem d26_55 : decode cX2_readInstrument 55 = .ok (.if_icmp .ne 36, 3) := by decide +kernel
theorem z26_55 {st : List Value} {w : pm_H} {pl : pm_L} {x0 x1 : Int32} : pm_ev 26 55 pl (.int x1 :: .int x0 :: st) w = if x0 = x1 then pm_ev 26 58 pl st w else pm_ev 26 91 pl st w := pm_nin (c := ¬ x0 = x1) pt_26 d26_55 rfl rfl rfl Iff.rfl
theorem d26_58 : decode cX2_readInstrument 58 = .ok (.aload_n 0, 1) := by decide +kernel
theorem z26_58 {st : List Value} {w : pm_H} {b1 b2 b3 b4 b5 : Option Value} {x0 : Nat} : pm_ev 26 58 [some (.ref x0), b1, b2, b3, b4, b5] st w = pm_ev 26 59 [some (.ref x0), b1, b2, b3, b4, b5] (.ref x0 :: st) w := pm_ny pt_26 d26_58 rfl rfl rfl
theorem d26_59 : decode cX2_readInstrument 59 = .ok (.invokevirtual 30, 3) := by decide +kernel
theorem z26_59 {w : pm_H} {b0 b1 b2 b3 b4 b5 : Option Value} {x0 : Nat} : pm_ev 26 59 [b0, b1, b2, b3, b4, b5] [.ref x0] w = pm_k 26 62 [b0, b1, b2, b3, b4, b5] [] (pm_vc (w x0) 2 (pm_call 13 [.ref x0] w)) := pm_nv pt_26 pt_13 pt_M_2_30 d26_59 ⟨rfl, rfl⟩ ⟨⟨rfl, Nat.le_of_ble_eq_true rfl, Nat.le_of_ble_eq_true rfl, Nat.le_of_ble_eq_true rfl, Nat.le_of_ble_eq_true rfl⟩, rfl⟩
theorem d26_62 : decode cX2_readInstrument 62 = .ok (.aload_n 0, 1) := by decide +kernel
theorem z26_62 {st : List Value} {w : pm_H} {b1 b2 b3 b4 b5 : Option Value} {x0 : Nat} : pm_ev 26 62 [some (.ref x0), b1, b2, b3, b4, b5] st w = pm_ev 26 63 [some (.ref x0), b1, b2, b3, b4, b5] (.ref x0 :: st) w := pm_ny pt_26 d26_62 rfl rfl rfl
theorem d26_63 : decode cX2_readInstrument 63 = .ok (.ldc 98, 2) := by decide +kernel
theorem z26_63 {st : List Value} {w : pm_H} {pl : pm_L} : pm_ev 26 63 pl st w = pm_ev 26 65 pl (.ref 1004 :: st) w := pm_nk pt_26 pt_K_2_98 (by decide) d26_63
theorem d26_65 : decode cX2_readInstrument 65 = .ok (.invokevirtual 66, 3) := by decide +kernel
theorem z26_65 {w : pm_H} {b0 b1 b2 b3 b4 b5 : Option Value} {x0 : Nat} {x1 : Nat} : pm_ev 26 65 [b0, b1, b2, b3, b4, b5] [.ref x0, .ref x1] w = pm_k 26 68 [b0, b1, b2, b3, b4, b5] [] (pm_vc (w x1) 2 (pm_call 18 [.ref x1, .ref x0] w)) := pm_nv pt_26 pt_18 pt_M_2_66 d26_65 ⟨rfl, rfl⟩ ⟨⟨rfl, Nat.le_of_ble_eq_true rfl, Nat.le_of_ble_eq_true rfl, Nat.le_of_ble_eq_true rfl, Nat.le_of_ble_eq_true rfl⟩, rfl⟩
theorem d26_68 : decode cX2_readInstrument 68 = .ok (.ifCond .eq 8, 3) := by decide +kernel
theorem z26_68 {st : List Value} {w : pm_H} {pl : pm_L} {x0 : Int32} : pm_ev 26 68 pl (.int x0 :: st) w = if x0 = 0 then pm_ev 26 76 pl st w else pm_ev 26 71 pl st w := pm_nif pt_26 d26_68 rfl rfl rfl
theorem d26_71 : decode cX2_readInstrument 71 = .ok (.iconst 3, 1) := by decide +kernel
theorem z26_71 {st : List Value} {w : pm_H} {pl : pm_L} : pm_ev 26 71 pl st w = pm_ev 26 72 pl (.int 3 :: st) w := pm_ny pt_26 d26_71 rfl rfl rfl
theorem d26_72 : decode cX2_readInstrument 72 = .ok (.istore_n 3, 1) := by decide +kernel
theorem z26_72 {st : List Value} {w : pm_H} {b0 b1 b3 b4 b5 : Option Value} {x0 : Int32} {x9 : Int32} : pm_ev 26 72 [b0, b1, some (.int x9), b3, b4, b5] (.int x0 :: st) w = pm_ev 26 73 [b0, b1, some (.int x9), some (.int x0), b4, b5] st w := pm_ny pt_26 d26_72 rfl rfl rfl
theorem d26_73 : decode cX2_readInstrument 73 = .ok (.goto 18, 3) := by decide +kernel
theorem z26_73 {st : List Value} {w : pm_H} {pl : pm_L} : pm_ev 26 73 pl st w = pm_ev 26 91 pl st w := pm_ny pt_26 d26_73 rfl rfl rfl
theorem d26_76 : decode cX2_readInstrument 76 = .ok (.aload_n 0, 1) := by decide +kernel
theorem z26_76 {st : List Value} {w : pm_H} {b1 b2 b3 b4 b5 : Option Value} {x0 : Nat} : pm_ev 26 76 [some (.ref x0), b1, b2, b3, b4, b5] st w = pm_ev 26 77 [some (.ref x0), b1, b2, b3, b4, b5] (.ref x0 :: st) w := pm_ny pt_26 d26_76 rfl rfl rfl
theorem d26_77 : decode cX2_readInstrument 77 = .ok (.ldc 92, 2) := by decide +kernel
theorem z26_77 {st : List Value} {w : pm_H} {pl : pm_L} : pm_ev 26 77 pl st w = pm_ev 26 79 pl (.ref 1003 :: st) w := pm_nk pt_26 pt_K_2_92 (by decide) d26_77
theorem d26_79 : decode cX2_readInstrument 79 = .ok (.invokevirtual 66, 3) := by decide +kernel
theorem z26_79 {w : pm_H} {b0 b1 b2 b3 b4 b5 : Option Value} {x0 : Nat} {x1 : Nat} : pm_ev 26 79 [b0, b1, b2, b3, b4, b5] [.ref x0, .ref x1] w = pm_k 26 82 [b0, b1, b2, b3, b4, b5] [] (pm_vc (w x1) 2 (pm_call 18 [.ref x1, .ref x0] w)) := pm_nv pt_26 pt_18 pt_M_2_66 d26_79 ⟨rfl, rfl⟩ ⟨⟨rfl, Nat.le_of_ble_eq_true rfl, Nat.le_of_ble_eq_true rfl, Nat.le_of_ble_eq_true rfl, Nat.le_of_ble_eq_true rfl⟩, rfl⟩
theorem d26_82 : decode cX2_readInstrument 82 = .ok (.ifCond .ne 9, 3) := by decide +kernel
theorem z26_82 {st : List Value} {w : pm_H} {pl : pm_L} {x0 : Int32} : pm_ev 26 82 pl (.int x0 :: st) w = if x0 = 0 then pm_ev 26 85 pl st w else pm_ev 26 91 pl st w := pm_nin (c := ¬ x0 = 0) pt_26 d26_82 rfl rfl rfl Iff.rfl
theorem d26_85 : decode cX2_readInstrument 85 = .ok (.aload_n 0, 1) := by decide +kernel
theorem z26_85 {st : List Value} {w : pm_H} {b1 b2 b3 b4 b5 : Option Value} {x0 : Nat} : pm_ev 26 85 [some (.ref x0), b1, b2, b3, b4, b5] st w = pm_ev 26 86 [some (.ref x0), b1, b2, b3, b4, b5] (.ref x0 :: st) w := pm_ny pt_26 d26_85 rfl rfl rfl
theorem d26_86 : decode cX2_readInstrument 86 = .ok (.iconst 1, 1) := by decide +kernel
theorem z26_86 {st : List Value} {w : pm_H} {pl : pm_L} : pm_ev 26 86 pl st w = pm_ev 26 87 pl (.int 1 :: st) w := pm_ny pt_26 d26_86 rfl rfl rfl
theorem d26_87 : decode cX2_readInstrument 87 = .ok (.invokevirtual 60, 3) := by decide +kernel
theorem z26_87 {w : pm_H} {b0 b1 b2 b3 b4 b5 : Option Value} {x0 : Int32} {x1 : Nat} : pm_ev 26 87 [b0, b1, b2, b3, b4, b5] [.int x0, .ref x1] w = pm_k 26 90 [b0, b1, b2, b3, b4, b5] [] (pm_vc (w x1) 2 (pm_call 16 [.ref x1, .int x0] w)) := pm_nv pt_26 pt_16 pt_M_2_60 d26_87 ⟨rfl, rfl⟩ ⟨⟨rfl, Nat.le_of_ble_eq_true rfl, Nat.le_of_ble_eq_true rfl, Nat.le_of_ble_eq_true rfl, Nat.le_of_ble_eq_true rfl⟩, rfl⟩
theorem d26_90 : decode cX2_readInstrument 90 = .ok (.ireturn, 1) := by decide +kernel
theorem z26_90 {w : pm_H} {pl : pm_L} {x0 : Int32} : pm_ev 26 90 pl [.int x0] w = pm_zr x0 w := pm_nz pt_26 d26_90
theorem d26_91 : decode cX2_readInstrument 91 = .ok (.aload_n 0, 1) := by decide +kernel
theorem z26_91 {st : List Value} {w : pm_H} {b1 b2 b3 b4 b5 : Option Value} {x0 : Nat} : pm_ev 26 91 [some (.ref x0), b1, b2, b3, b4, b5] st w = pm_ev 26 92 [some (.ref x0), b1, b2, b3, b4, b5] (.ref x0 :: st) w := pm_ny pt_26 d26_91 rfl rfl rfl
theorem d26_92 : decode cX2_readInstrument 92 = .ok (.iload_n 3, 1) := by decide +kernel
theorem z26_92 {st : List Value} {w : pm_H} {b0 b1 b2 b4 b5 : Option Value} {x0 : Int32} : pm_ev 26 92 [b0, b1, b2, some (.int x0), b4, b5] st w = pm_ev 26 93 [b0, b1, b2, some (.int x0), b4, b5] (.int x0 :: st) w := pm_ny pt_26 d26_92 rfl rfl rfl
theorem d26_93 : decode cX2_readInstrument 93 = .ok (.invokestatic 141, 3) := by decide +kernel
theorem z26_93 {w : pm_H} {b0 b1 b2 b3 b4 b5 : Option Value} {x0 : Int32} {x1 : Nat} : pm_ev 26 93 [b0, b1, b2, b3, b4, b5] [.int x0, .ref x1] w = pm_k 26 96 [b0, b1, b2, b3, b4, b5] [.ref x1] (pm_call 58 [.int x0] w) := pm_ns pt_26 pt_58 pt_M_2_141 (Or.inr rfl) d26_93 ⟨rfl, rfl⟩ ⟨⟨rfl, Nat.le_of_ble_eq_true rfl, Nat.le_of_ble_eq_true rfl, Nat.le_of_ble_eq_true rfl, Nat.le_of_ble_eq_true rfl⟩, rfl⟩
theorem d26_96 : decode cX2_readInstrument 96 = .ok (.iload_n 3, 1) := by decide +kernel
theorem z26_96 {st : List Value} {w : pm_H} {b0 b1 b2 b4 b5 : Option Value} {x0 : Int32} : pm_ev 26 96 [b0, b1, b2, some (.int x0), b4, b5] st w = pm_ev 26 97 [b0, b1, b2, some (.int x0), b4, b5] (.int x0 :: st) w := pm_ny pt_26 d26_96 rfl rfl rfl
theorem d26_97 : decode cX2_readInstrument 97 = .ok (.invokestatic 144, 3) := by decide +kernel
theorem z26_97 {w : pm_H} {b0 b1 b2 b3 b4 b5 : Option Value} {x0 : Int32} {x1 : Int32} {x2 : Nat} : pm_ev 26 97 [b0, b1, b2, b3, b4, b5] [.int x0, .int x1, .ref x2] w = pm_k 26 100 [b0, b1, b2, b3, b4, b5] [.int x1, .ref x2] (pm_call 59 [.int x0] w) := pm_ns pt_26 pt_59 pt_M_2_144 (Or.inr rfl) d26_97 ⟨rfl, rfl⟩ ⟨⟨rfl, Nat.le_of_ble_eq_true rfl, Nat.le_of_ble_eq_true rfl, Nat.le_of_ble_eq_true rfl, Nat.le_of_ble_eq_true rfl⟩, rfl⟩
theorem d26_100 : decode cX2_readInstrument 100 = .ok (.invokevirtual 71, 3) := by decide +kernel
theorem z26_100 {w : pm_H} {b0 b1 b2 b3 b4 b5 : Option Value} {x0 : Int32} {x1 : Int32} {x2 : Nat} : pm_ev 26 100 [b0, b1, b2, b3, b4, b5] [.int x0, .int x1, .ref x2] w = pm_k 26 103 [b0, b1, b2, b3, b4, b5] [] (pm_vc (w x2) 2 (pm_call 19 [.ref x2, .int x1, .int x0] w)) := pm_nv pt_26 pt_19 pt_M_2_71 d26_100 ⟨rfl, rfl⟩ ⟨⟨rfl, Nat.le_of_ble_eq_true rfl, Nat.le_of_ble_eq_true rfl, Nat.le_of_ble_eq_true rfl, Nat.le_of_ble_eq_true rfl⟩, rfl⟩
theorem d26_103 : decode cX2_readInstrument 103 = .ok (.ifCond .ne 5, 3) := by decide +kernel
theorem z26_103 {st : List Value} {w : pm_H} {pl : pm_L} {x0 : Int32} : pm_ev 26 103 pl (.int x0 :: st) w = if x0 = 0 then pm_ev 26 106 pl st w else pm_ev 26 108 pl st w := pm_nin (c := ¬ x0 = 0) pt_26 d26_103 rfl rfl rfl Iff.rfl
theorem d26_106 : decode cX2_readInstrument 106 = .ok (.iconst 0, 1) := by decide +kernel
theorem z26_106 {st : List Value} {w : pm_H} {pl : pm_L} : pm_ev 26 106 pl st w = pm_ev 26 107 pl (.int 0 :: st) w := pm_ny pt_26 d26_106 rfl rfl rfl
theorem d26_107 : decode cX2_readInstrument 107 = .ok (.ireturn, 1) := by decide +kernel
theorem z26_107 {w : pm_H} {pl : pm_L} {x0 : Int32} : pm_ev 26 107 pl [.int x0] w = pm_zr x0 w := pm_nz pt_26 d26_107
theorem d26_108 : decode cX2_readInstrument 108 = .ok (.aload_n 1, 1) := by decide +kernel
theorem z26_108 {st : List Value} {w : pm_H} {b0 b2 b3 b4 b5 : Option Value} {x0 : Nat} : pm_ev 26 108 [b0, some (.ref x0), b2, b3, b4, b5] st w = pm_ev 26 109 [b0, some (.ref x0), b2, b3, b4, b5] (.ref x0 :: st) w := pm_ny pt_26 d26_108 rfl rfl rfl
theorem d26_109 : decode cX2_readInstrument 109 = .ok (.iload_n 3, 1) := by decide +kernel
theorem z26_109 {st : List Value} {w : pm_H} {b0 b1 b2 b4 b5 : Option Value} {x0 : Int32} : pm_ev 26 109 [b0, b1, b2, some (.int x0), b4, b5] st w = pm_ev 26 110 [b0, b1, b2, some (.int x0), b4, b5] (.int x0 :: st) w := pm_ny pt_26 d26_109 rfl rfl rfl
theorem d26_110 : decode cX2_readInstrument 110 = .ok (.iload 4, 2) := by decide +kernel
theorem z26_110 {st : List Value} {w : pm_H} {b0 b1 b2 b3 b5 : Option Value} {x0 : Int32} : pm_ev 26 110 [b0, b1, b2, b3, some (.int x0), b5] st w = pm_ev 26 112 [b0, b1, b2, b3, some (.int x0), b5] (.int x0 :: st) w := pm_ny pt_26 d26_110 rfl rfl rfl
theorem d26_112 : decode cX2_readInstrument 112 = .ok (.iload 5, 2) := by decide +kernel
theorem z26_112 {st : List Value} {w : pm_H} {b0 b1 b2 b3 b4 : Option Value} {x0 : Int32} : pm_ev 26 112 [b0, b1, b2, b3, b4, some (.int x0)] st w = pm_ev 26 114 [b0, b1, b2, b3, b4, some (.int x0)] (.int x0 :: st) w := pm_ny pt_26 d26_112 rfl rfl rfl
theorem d26_114 : decode cX2_readInstrument 114 = .ok (.aload_n 0, 1) := by decide +kernel
theorem z26_114 {st : List Value} {w : pm_H} {b1 b2 b3 b4 b5 : Option Value} {x0 : Nat} : pm_ev 26 114 [some (.ref x0), b1, b2, b3, b4, b5] st w = pm_ev 26 115 [some (.ref x0), b1, b2, b3, b4, b5] (.ref x0 :: st) w := pm_ny pt_26 d26_114 rfl rfl rfl
theorem d26_115 : decode cX2_readInstrument 115 = .ok (.getfield 75, 3) := by decide +kernel
theorem z26_115 {st : List Value} {w : pm_H} {pl : pm_L} {x0 : Nat} : pm_ev 26 115 pl (.ref x0 :: st) w = pm_kv 26 118 pl st w (pm_gf (w x0) 2 6) := pm_ng pt_26 pt_F_2_75 d26_115
theorem d26_118 : decode cX2_readInstrument 118 = .ok (.invokevirtual 147, 3) := by decide +kernel
theorem z26_118 {w : pm_H} {b0 b1 b2 b3 b4 b5 : Option Value} {x0 : Int32} {x1 : Int32} {x2 : Int32} {x3 : Int32} {x4 : Nat} : pm_ev 26 118 [b0, b1, b2, b3, b4, b5] [.int x0, .int x1, .int x2, .int x3, .ref x4] w = pm_k 26 121 [b0, b1, b2, b3, b4, b5] [] (pm_vc (w x4) 4 (pm_call 39 [.ref x4, .int x3, .int x2, .int x1, .int x0] w)) := pm_nv pt_26 pt_39 pt_M_2_147 d26_118 ⟨rfl, rfl⟩ ⟨⟨rfl, Nat.le_of_ble_eq_true rfl, Nat.le_of_ble_eq_true rfl, Nat.le_of_ble_eq_true rfl, Nat.le_of_ble_eq_true rfl⟩, rfl⟩
theorem d26_121 : decode cX2_readInstrument 121 = .ok (.aload_n 0, 1) := by decide +kernel
theorem z26_121 {st : List Value} {w : pm_H} {b1 b2 b3 b4 b5 : Option Value} {x0 : Nat} : pm_ev 26 121 [some (.ref x0), b1, b2, b3, b4, b5] st w = pm_ev 26 122 [some (.ref x0), b1, b2, b3, b4, b5] (.ref x0 :: st) w := pm_ny pt_26 d26_121 rfl rfl rfl
theorem d26_122 : decode cX2_readInstrument 122 = .ok (.invokevirtual 81, 3) := by decide +kernel
theorem z26_122 {w : pm_H} {b0 b1 b2 b3 b4 b5 : Option Value} {x0 : Nat} : pm_ev 26 122 [b0, b1, b2, b3, b4, b5] [.ref x0] w = pm_k 26 125 [b0, b1, b2, b3, b4, b5] [] (pm_vc (w x0) 2 (pm_call 20 [.ref x0] w)) := pm_nv pt_26 pt_20 pt_M_2_81 d26_122 ⟨rfl, rfl⟩ ⟨⟨rfl, Nat.le_of_ble_eq_true rfl, Nat.le_of_ble_eq_true rfl, Nat.le_of_ble_eq_true rfl, Nat.le_of_ble_eq_true rfl⟩, rfl⟩
theorem d26_125 : decode cX2_readInstrument 125 = .ok (.ireturn, 1) := by decide +kernel
theorem z26_125 {w : pm_H} {pl : pm_L} {x0 : Int32} : pm_ev 26 125 pl [.int x0] w = pm_zr x0 w := pm_nz pt_26 d26_125
