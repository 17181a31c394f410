theorem d0_0 : decode cX0_judge 0 = .ok (.aload_n 0, 1) := by decide +kernel
theorem z0_0 {st : List Value} {w : pm_H} {b1 b2 b3 b4 : Option Value} {x0 : Nat} : pm_ev 0 0 [some (.ref x0), b1, b2, b3, b4] st w = pm_ev 0 1 [some (.ref x0), b1, b2, b3, b4] (.ref x0 :: st) w := pm_ny pt_0 d0_0 rfl rfl rfl
theorem d0_1 : decode cX0_judge 1 = .ok (.aload_n 1, 1) := by decide +kernel
theorem z0_1 {st : List Value} {w : pm_H} {b0 b2 b3 b4 : Option Value} {x0 : Nat} : pm_ev 0 1 [b0, some (.ref x0), b2, b3, b4] st w = pm_ev 0 2 [b0, some (.ref x0), b2, b3, b4] (.ref x0 :: st) w := pm_ny pt_0 d0_1 rfl rfl rfl
theorem d0_2 : decode cX0_judge 2 = .ok (.iload_n 2, 1) := by decide +kernel
theorem z0_2 {st : List Value} {w : pm_H} {b0 b1 b3 b4 : Option Value} {x0 : Int32} : pm_ev 0 2 [b0, b1, some (.int x0), b3, b4] st w = pm_ev 0 3 [b0, b1, some (.int x0), b3, b4] (.int x0 :: st) w := pm_ny pt_0 d0_2 rfl rfl rfl
theorem d0_3 : decode cX0_judge 3 = .ok (.iload_n 3, 1) := by decide +kernel
theorem z0_3 {st : List Value} {w : pm_H} {b0 b1 b2 b4 : Option Value} {x0 : Int32} : pm_ev 0 3 [b0, b1, b2, some (.int x0), b4] st w = pm_ev 0 4 [b0, b1, b2, some (.int x0), b4] (.int x0 :: st) w := pm_ny pt_0 d0_3 rfl rfl rfl
theorem d0_4 : decode cX0_judge 4 = .ok (.iload 4, 2) := by decide +kernel
theorem z0_4 {st : List Value} {w : pm_H} {b0 b1 b2 b3 : Option Value} {x0 : Int32} : pm_ev 0 4 [b0, b1, b2, b3, some (.int x0)] st w = pm_ev 0 6 [b0, b1, b2, b3, some (.int x0)] (.int x0 :: st) w := pm_ny pt_0 d0_4 rfl rfl rfl
theorem d0_6 : decode cX0_judge 6 = .ok (.invokevirtual 28, 3) := by decide +kernel
theorem z0_6 {w : pm_H} {b0 b1 b2 b3 b4 : Option Value} {x0 : Int32} {x1 : Int32} {x2 : Int32} {x3 : Nat} {x4 : Nat} : pm_ev 0 6 [b0, b1, b2, b3, b4] [.int x0, .int x1, .int x2, .ref x3, .ref x4] w = pm_k 0 9 [b0, b1, b2, b3, b4] [] (pm_vc (w x4) 0 (pm_call 1 [.ref x4, .ref x3, .int x2, .int x1, .int x0] w)) := pm_nv pt_0 pt_1 pt_M_0_28 d0_6 ⟨rfl, rfl⟩ ⟨⟨rfl, Nat.le_of_ble_eq_true rfl, Nat.le_of_ble_eq_true rfl, Nat.le_of_ble_eq_true rfl, Nat.le_of_ble_eq_true rfl⟩, rfl⟩
theorem d0_9 : decode cX0_judge 9 = .ok (.aload_n 0, 1) := by decide +kernel
theorem z0_9 {st : List Value} {w : pm_H} {b1 b2 b3 b4 : Option Value} {x0 : Nat} : pm_ev 0 9 [some (.ref x0), b1, b2, b3, b4] st w = pm_ev 0 10 [some (.ref x0), b1, b2, b3, b4] (.ref x0 :: st) w := pm_ny pt_0 d0_9 rfl rfl rfl
theorem d0_10 : decode cX0_judge 10 = .ok (.aload_n 1, 1) := by decide +kernel
theorem z0_10 {st : List Value} {w : pm_H} {b0 b2 b3 b4 : Option Value} {x0 : Nat} : pm_ev 0 10 [b0, some (.ref x0), b2, b3, b4] st w = pm_ev 0 11 [b0, some (.ref x0), b2, b3, b4] (.ref x0 :: st) w := pm_ny pt_0 d0_10 rfl rfl rfl
theorem d0_11 : decode cX0_judge 11 = .ok (.iload_n 2, 1) := by decide +kernel
theorem z0_11 {st : List Value} {w : pm_H} {b0 b1 b3 b4 : Option Value} {x0 : Int32} : pm_ev 0 11 [b0, b1, some (.int x0), b3, b4] st w = pm_ev 0 12 [b0, b1, some (.int x0), b3, b4] (.int x0 :: st) w := pm_ny pt_0 d0_11 rfl rfl rfl
theorem d0_12 : decode cX0_judge 12 = .ok (.iload_n 3, 1) := by decide +kernel
theorem z0_12 {st : List Value} {w : pm_H} {b0 b1 b2 b4 : Option Value} {x0 : Int32} : pm_ev 0 12 [b0, b1, b2, some (.int x0), b4] st w = pm_ev 0 13 [b0, b1, b2, some (.int x0), b4] (.int x0 :: st) w := pm_ny pt_0 d0_12 rfl rfl rfl
theorem d0_13 : decode cX0_judge 13 = .ok (.invokevirtual 32, 3) := by decide +kernel
theorem z0_13 {w : pm_H} {b0 b1 b2 b3 b4 : Option Value} {x0 : Int32} {x1 : Int32} {x2 : Nat} {x3 : Nat} : pm_ev 0 13 [b0, b1, b2, b3, b4] [.int x0, .int x1, .ref x2, .ref x3] w = pm_k 0 16 [b0, b1, b2, b3, b4] [.ref x3] (pm_vc (w x2) 4 (pm_call 51 [.ref x2, .int x1, .int x0] w)) := pm_nv pt_0 pt_51 pt_M_0_32 d0_13 ⟨rfl, rfl⟩ ⟨⟨rfl, Nat.le_of_ble_eq_true rfl, Nat.le_of_ble_eq_true rfl, Nat.le_of_ble_eq_true rfl, Nat.le_of_ble_eq_true rfl⟩, rfl⟩
theorem d0_16 : decode cX0_judge 16 = .ok (.aload_n 1, 1) := by decide +kernel
theorem z0_16 {st : List Value} {w : pm_H} {b0 b2 b3 b4 : Option Value} {x0 : Nat} : pm_ev 0 16 [b0, some (.ref x0), b2, b3, b4] st w = pm_ev 0 17 [b0, some (.ref x0), b2, b3, b4] (.ref x0 :: st) w := pm_ny pt_0 d0_16 rfl rfl rfl
theorem d0_17 : decode cX0_judge 17 = .ok (.iconst 0, 1) := by decide +kernel
theorem z0_17 {st : List Value} {w : pm_H} {pl : pm_L} : pm_ev 0 17 pl st w = pm_ev 0 18 pl (.int 0 :: st) w := pm_ny pt_0 d0_17 rfl rfl rfl
theorem d0_18 : decode cX0_judge 18 = .ok (.iload_n 3, 1) := by decide +kernel
theorem z0_18 {st : List Value} {w : pm_H} {b0 b1 b2 b4 : Option Value} {x0 : Int32} : pm_ev 0 18 [b0, b1, b2, some (.int x0), b4] st w = pm_ev 0 19 [b0, b1, b2, some (.int x0), b4] (.int x0 :: st) w := pm_ny pt_0 d0_18 rfl rfl rfl
theorem d0_19 : decode cX0_judge 19 = .ok (.invokevirtual 32, 3) := by decide +kernel
theorem z0_19 {w : pm_H} {b0 b1 b2 b3 b4 : Option Value} {x0 : Int32} {x1 : Int32} {x2 : Nat} {x3 : Int64} {x4 : Nat} : pm_ev 0 19 [b0, b1, b2, b3, b4] [.int x0, .int x1, .ref x2, .long x3, .ref x4] w = pm_k 0 22 [b0, b1, b2, b3, b4] [.long x3, .ref x4] (pm_vc (w x2) 4 (pm_call 51 [.ref x2, .int x1, .int x0] w)) := pm_nv pt_0 pt_51 pt_M_0_32 d0_19 ⟨rfl, rfl⟩ ⟨⟨rfl, Nat.le_of_ble_eq_true rfl, Nat.le_of_ble_eq_true rfl, Nat.le_of_ble_eq_true rfl, Nat.le_of_ble_eq_true rfl⟩, rfl⟩
theorem d0_22 : decode cX0_judge 22 = .ok (.invokevirtual 38, 3) := by decide +kernel
theorem z0_22 {w : pm_H} {b0 b1 b2 b3 b4 : Option Value} {x0 : Int64} {x1 : Int64} {x2 : Nat} : pm_ev 0 22 [b0, b1, b2, b3, b4] [.long x0, .long x1, .ref x2] w = pm_k 0 25 [b0, b1, b2, b3, b4] [] (pm_vc (w x2) 0 (pm_call 4 [.ref x2, .long x1, .long x0] w)) := pm_nv pt_0 pt_4 pt_M_0_38 d0_22 ⟨rfl, rfl⟩ ⟨⟨rfl, Nat.le_of_ble_eq_true rfl, Nat.le_of_ble_eq_true rfl, Nat.le_of_ble_eq_true rfl, Nat.le_of_ble_eq_true rfl⟩, rfl⟩
theorem d0_25 : decode cX0_judge 25 = .ok (.return_, 1) := by decide +kernel
theorem z0_25 {w : pm_H} {pl : pm_L} : pm_ev 0 25 pl [] w = some (none, w) := pm_nr pt_0 d0_25 rfl
theorem d1_0 : decode cX0_gather 0 = .ok (.aload_n 0, 1) := by decide +kernel
theorem z1_0 {st : List Value} {w : pm_H} {b1 b2 b3 b4 b5 : Option Value} {x0 : Nat} : pm_ev 1 0 [some (.ref x0), b1, b2, b3, b4, b5] st w = pm_ev 1 1 [some (.ref x0), b1, b2, b3, b4, b5] (.ref x0 :: st) w := pm_ny pt_1 d1_0 rfl rfl rfl
theorem d1_1 : decode cX0_gather 1 = .ok (.iload_n 3, 1) := by decide +kernel
theorem z1_1 {st : List Value} {w : pm_H} {b0 b1 b2 b4 b5 : Option Value} {x0 : Int32} : pm_ev 1 1 [b0, b1, b2, some (.int x0), b4, b5] st w = pm_ev 1 2 [b0, b1, b2, some (.int x0), b4, b5] (.int x0 :: st) w := pm_ny pt_1 d1_1 rfl rfl rfl
theorem d1_2 : decode cX0_gather 2 = .ok (.iload_n 2, 1) := by decide +kernel
theorem z1_2 {st : List Value} {w : pm_H} {b0 b1 b3 b4 b5 : Option Value} {x0 : Int32} : pm_ev 1 2 [b0, b1, some (.int x0), b3, b4, b5] st w = pm_ev 1 3 [b0, b1, some (.int x0), b3, b4, b5] (.int x0 :: st) w := pm_ny pt_1 d1_2 rfl rfl rfl
theorem d1_3 : decode cX0_gather 3 = .ok (.isub, 1) := by decide +kernel
theorem z1_3 {st : List Value} {w : pm_H} {pl : pm_L} {x0 x1 : Int32} : pm_ev 1 3 pl (.int x1 :: .int x0 :: st) w = pm_ev 1 4 pl (.int (x0 - x1) :: st) w := pm_ny pt_1 d1_3 rfl rfl rfl
theorem d1_4 : decode cX0_gather 4 = .ok (.iconst 1, 1) := by decide +kernel
theorem z1_4 {st : List Value} {w : pm_H} {pl : pm_L} : pm_ev 1 4 pl st w = pm_ev 1 5 pl (.int 1 :: st) w := pm_ny pt_1 d1_4 rfl rfl rfl
theorem d1_5 : decode cX0_gather 5 = .ok (.iadd, 1) := by decide +kernel
theorem z1_5 {st : List Value} {w : pm_H} {pl : pm_L} {x0 x1 : Int32} : pm_ev 1 5 pl (.int x1 :: .int x0 :: st) w = pm_ev 1 6 pl (.int (x0 + x1) :: st) w := pm_ny pt_1 d1_5 rfl rfl rfl
theorem d1_6 : decode cX0_gather 6 = .ok (.bipush 90, 2) := by decide +kernel
theorem z1_6 {st : List Value} {w : pm_H} {pl : pm_L} : pm_ev 1 6 pl st w = pm_ev 1 8 pl (.int 90 :: st) w := pm_ny pt_1 d1_6 rfl rfl rfl
theorem d1_8 : decode cX0_gather 8 = .ok (.imul, 1) := by decide +kernel
theorem z1_8 {st : List Value} {w : pm_H} {pl : pm_L} {x0 x1 : Int32} : pm_ev 1 8 pl (.int x1 :: .int x0 :: st) w = pm_ev 1 9 pl (.int (x0 * x1) :: st) w := pm_ny pt_1 d1_8 rfl rfl rfl
theorem d1_9 : decode cX0_gather 9 = .ok (.putfield 42, 3) := by decide +kernel
theorem z1_9 {st : List Value} {w : pm_H} {pl : pm_L} {x0 : Nat} {x1 : Int32} : pm_ev 1 9 pl (.int x1 :: .ref x0 :: st) w = pm_kw 1 12 pl st (pm_pf w x0 (w x0) 0 9 0 (.int x1)) := pm_np pt_1 pt_F_0_42 d1_9
theorem d1_12 : decode cX0_gather 12 = .ok (.aload_n 0, 1) := by decide +kernel
theorem z1_12 {st : List Value} {w : pm_H} {b1 b2 b3 b4 b5 : Option Value} {x0 : Nat} : pm_ev 1 12 [some (.ref x0), b1, b2, b3, b4, b5] st w = pm_ev 1 13 [some (.ref x0), b1, b2, b3, b4, b5] (.ref x0 :: st) w := pm_ny pt_1 d1_12 rfl rfl rfl
theorem d1_13 : decode cX0_gather 13 = .ok (.aload_n 1, 1) := by decide +kernel
theorem z1_13 {st : List Value} {w : pm_H} {b0 b2 b3 b4 b5 : Option Value} {x0 : Nat} : pm_ev 1 13 [b0, some (.ref x0), b2, b3, b4, b5] st w = pm_ev 1 14 [b0, some (.ref x0), b2, b3, b4, b5] (.ref x0 :: st) w := pm_ny pt_1 d1_13 rfl rfl rfl
theorem d1_14 : decode cX0_gather 14 = .ok (.iload_n 2, 1) := by decide +kernel
theorem z1_14 {st : List Value} {w : pm_H} {b0 b1 b3 b4 b5 : Option Value} {x0 : Int32} : pm_ev 1 14 [b0, b1, some (.int x0), b3, b4, b5] st w = pm_ev 1 15 [b0, b1, some (.int x0), b3, b4, b5] (.int x0 :: st) w := pm_ny pt_1 d1_14 rfl rfl rfl
theorem d1_15 : decode cX0_gather 15 = .ok (.iload_n 3, 1) := by decide +kernel
theorem z1_15 {st : List Value} {w : pm_H} {b0 b1 b2 b4 b5 : Option Value} {x0 : Int32} : pm_ev 1 15 [b0, b1, b2, some (.int x0), b4, b5] st w = pm_ev 1 16 [b0, b1, b2, some (.int x0), b4, b5] (.int x0 :: st) w := pm_ny pt_1 d1_15 rfl rfl rfl
theorem d1_16 : decode cX0_gather 16 = .ok (.invokevirtual 46, 3) := by decide +kernel
theorem z1_16 {w : pm_H} {b0 b1 b2 b3 b4 b5 : Option Value} {x0 : Int32} {x1 : Int32} {x2 : Nat} {x3 : Nat} : pm_ev 1 16 [b0, b1, b2, b3, b4, b5] [.int x0, .int x1, .ref x2, .ref x3] w = pm_k 1 19 [b0, b1, b2, b3, b4, b5] [.ref x3] (pm_vc (w x2) 4 (pm_call 46 [.ref x2, .int x1, .int x0] w)) := pm_nv pt_1 pt_46 pt_M_0_46 d1_16 ⟨rfl, rfl⟩ ⟨⟨rfl, Nat.le_of_ble_eq_true rfl, Nat.le_of_ble_eq_true rfl, Nat.le_of_ble_eq_true rfl, Nat.le_of_ble_eq_true rfl⟩, rfl⟩
theorem d1_19 : decode cX0_gather 19 = .ok (.putfield 49, 3) := by decide +kernel
theorem z1_19 {st : List Value} {w : pm_H} {pl : pm_L} {x0 : Nat} {x1 : Int64} : pm_ev 1 19 pl (.long x1 :: .ref x0 :: st) w = pm_kw 1 22 pl st (pm_pf w x0 (w x0) 0 10 1 (.long x1)) := pm_np pt_1 pt_F_0_49 d1_19
theorem d1_22 : decode cX0_gather 22 = .ok (.aload_n 0, 1) := by decide +kernel
theorem z1_22 {st : List Value} {w : pm_H} {b1 b2 b3 b4 b5 : Option Value} {x0 : Nat} : pm_ev 1 22 [some (.ref x0), b1, b2, b3, b4, b5] st w = pm_ev 1 23 [some (.ref x0), b1, b2, b3, b4, b5] (.ref x0 :: st) w := pm_ny pt_1 d1_22 rfl rfl rfl
theorem d1_23 : decode cX0_gather 23 = .ok (.iconst 0, 1) := by decide +kernel
theorem z1_23 {st : List Value} {w : pm_H} {pl : pm_L} : pm_ev 1 23 pl st w = pm_ev 1 24 pl (.int 0 :: st) w := pm_ny pt_1 d1_23 rfl rfl rfl
theorem d1_24 : decode cX0_gather 24 = .ok (.putfield 53, 3) := by decide +kernel
theorem z1_24 {st : List Value} {w : pm_H} {pl : pm_L} {x0 : Nat} {x1 : Int32} : pm_ev 1 24 pl (.int x1 :: .ref x0 :: st) w = pm_kw 1 27 pl st (pm_pf w x0 (w x0) 0 8 0 (.int x1)) := pm_np pt_1 pt_F_0_53 d1_24
theorem d1_27 : decode cX0_gather 27 = .ok (.iconst 0, 1) := by decide +kernel
theorem z1_27 {st : List Value} {w : pm_H} {pl : pm_L} : pm_ev 1 27 pl st w = pm_ev 1 28 pl (.int 0 :: st) w := pm_ny pt_1 d1_27 rfl rfl rfl
theorem d1_28 : decode cX0_gather 28 = .ok (.istore 5, 2) := by decide +kernel
theorem z1_28 {st : List Value} {w : pm_H} {b0 b1 b2 b3 b5 : Option Value} {x0 : Int32} {x9 : Int32} : pm_ev 1 28 [b0, b1, b2, b3, some (.int x9), b5] (.int x0 :: st) w = pm_ev 1 30 [b0, b1, b2, b3, some (.int x9), some (.int x0)] st w := pm_ny pt_1 d1_28 rfl rfl rfl
theorem d1_30 : decode cX0_gather 30 = .ok (.iload 5, 2) := by decide +kernel
theorem z1_30 {st : List Value} {w : pm_H} {b0 b1 b2 b3 b4 : Option Value} {x0 : Int32} : pm_ev 1 30 [b0, b1, b2, b3, b4, some (.int x0)] st w = pm_ev 1 32 [b0, b1, b2, b3, b4, some (.int x0)] (.int x0 :: st) w := pm_ny pt_1 d1_30 rfl rfl rfl
theorem d1_32 : decode cX0_gather 32 = .ok (.aload_n 1, 1) := by decide +kernel
theorem z1_32 {st : List Value} {w : pm_H} {b0 b2 b3 b4 b5 : Option Value} {x0 : Nat} : pm_ev 1 32 [b0, some (.ref x0), b2, b3, b4, b5] st w = pm_ev 1 33 [b0, some (.ref x0), b2, b3, b4, b5] (.ref x0 :: st) w := pm_ny pt_1 d1_32 rfl rfl rfl
theorem d1_33 : decode cX0_gather 33 = .ok (.getfield 56, 3) := by decide +kernel
theorem z1_33 {st : List Value} {w : pm_H} {pl : pm_L} {x0 : Nat} : pm_ev 1 33 pl (.ref x0 :: st) w = pm_kv 1 36 pl st w (pm_gf (w x0) 4 7) := pm_ng pt_1 pt_F_0_56 d1_33
theorem d1_36 : decode cX0_gather 36 = .ok (.if_icmp .ge 77, 3) := by decide +kernel
theorem z1_36 {st : List Value} {w : pm_H} {pl : pm_L} {x0 x1 : Int32} : pm_ev 1 36 pl (.int x1 :: .int x0 :: st) w = if x0 < x1 then pm_ev 1 39 pl st w else pm_ev 1 113 pl st w := pm_nin (c := x1 ≤ x0) pt_1 d1_36 rfl rfl rfl pm_ge
theorem d1_39 : decode cX0_gather 39 = .ok (.aload_n 0, 1) := by decide +kernel
theorem z1_39 {st : List Value} {w : pm_H} {b1 b2 b3 b4 b5 : Option Value} {x0 : Nat} : pm_ev 1 39 [some (.ref x0), b1, b2, b3, b4, b5] st w = pm_ev 1 40 [some (.ref x0), b1, b2, b3, b4, b5] (.ref x0 :: st) w := pm_ny pt_1 d1_39 rfl rfl rfl
theorem d1_40 : decode cX0_gather 40 = .ok (.getfield 15, 3) := by decide +kernel
theorem z1_40 {st : List Value} {w : pm_H} {pl : pm_L} {x0 : Nat} : pm_ev 1 40 pl (.ref x0 :: st) w = pm_kv 1 43 pl st w (pm_gf (w x0) 0 4) := pm_ng pt_1 pt_F_0_15 d1_40
theorem d1_43 : decode cX0_gather 43 = .ok (.iload 5, 2) := by decide +kernel
theorem z1_43 {st : List Value} {w : pm_H} {b0 b1 b2 b3 b4 : Option Value} {x0 : Int32} : pm_ev 1 43 [b0, b1, b2, b3, b4, some (.int x0)] st w = pm_ev 1 45 [b0, b1, b2, b3, b4, some (.int x0)] (.int x0 :: st) w := pm_ny pt_1 d1_43 rfl rfl rfl
theorem d1_45 : decode cX0_gather 45 = .ok (.aload_n 1, 1) := by decide +kernel
theorem z1_45 {st : List Value} {w : pm_H} {b0 b2 b3 b4 b5 : Option Value} {x0 : Nat} : pm_ev 1 45 [b0, some (.ref x0), b2, b3, b4, b5] st w = pm_ev 1 46 [b0, some (.ref x0), b2, b3, b4, b5] (.ref x0 :: st) w := pm_ny pt_1 d1_45 rfl rfl rfl
theorem d1_46 : decode cX0_gather 46 = .ok (.iload 5, 2) := by decide +kernel
theorem z1_46 {st : List Value} {w : pm_H} {b0 b1 b2 b3 b4 : Option Value} {x0 : Int32} : pm_ev 1 46 [b0, b1, b2, b3, b4, some (.int x0)] st w = pm_ev 1 48 [b0, b1, b2, b3, b4, some (.int x0)] (.int x0 :: st) w := pm_ny pt_1 d1_46 rfl rfl rfl
theorem d1_48 : decode cX0_gather 48 = .ok (.iload_n 2, 1) := by decide +kernel
theorem z1_48 {st : List Value} {w : pm_H} {b0 b1 b3 b4 b5 : Option Value} {x0 : Int32} : pm_ev 1 48 [b0, b1, some (.int x0), b3, b4, b5] st w = pm_ev 1 49 [b0, b1, some (.int x0), b3, b4, b5] (.int x0 :: st) w := pm_ny pt_1 d1_48 rfl rfl rfl
theorem d1_49 : decode cX0_gather 49 = .ok (.iload_n 3, 1) := by decide +kernel
theorem z1_49 {st : List Value} {w : pm_H} {b0 b1 b2 b4 b5 : Option Value} {x0 : Int32} : pm_ev 1 49 [b0, b1, b2, some (.int x0), b4, b5] st w = pm_ev 1 50 [b0, b1, b2, some (.int x0), b4, b5] (.int x0 :: st) w := pm_ny pt_1 d1_49 rfl rfl rfl
theorem d1_50 : decode cX0_gather 50 = .ok (.invokevirtual 59, 3) := by decide +kernel
theorem z1_50 {w : pm_H} {b0 b1 b2 b3 b4 b5 : Option Value} {x0 : Int32} {x1 : Int32} {x2 : Int32} {x3 : Nat} {x4 : Int32} {x5 : Nat} : pm_ev 1 50 [b0, b1, b2, b3, b4, b5] [.int x0, .int x1, .int x2, .ref x3, .int x4, .ref x5] w = pm_k 1 53 [b0, b1, b2, b3, b4, b5] [.int x4, .ref x5] (pm_vc (w x3) 4 (pm_call 52 [.ref x3, .int x2, .int x1, .int x0] w)) := pm_nv pt_1 pt_52 pt_M_0_59 d1_50 ⟨rfl, rfl⟩ ⟨⟨rfl, Nat.le_of_ble_eq_true rfl, Nat.le_of_ble_eq_true rfl, Nat.le_of_ble_eq_true rfl, Nat.le_of_ble_eq_true rfl⟩, rfl⟩
theorem d1_53 : decode cX0_gather 53 = .ok (.lastore, 1) := by decide +kernel
theorem z1_53 {st : List Value} {w : pm_H} {pl : pm_L} {x0 : Nat} {x1 : Int32} {x2 : Int64} : pm_ev 1 53 pl (.long x2 :: .int x1 :: .ref x0 :: st) w = pm_kw 1 54 pl st (pm_ls w x0 (w x0) x1 x2) := pm_nls pt_1 d1_53
theorem d1_54 : decode cX0_gather 54 = .ok (.aload_n 0, 1) := by decide +kernel
theorem z1_54 {st : List Value} {w : pm_H} {b1 b2 b3 b4 b5 : Option Value} {x0 : Nat} : pm_ev 1 54 [some (.ref x0), b1, b2, b3, b4, b5] st w = pm_ev 1 55 [some (.ref x0), b1, b2, b3, b4, b5] (.ref x0 :: st) w := pm_ny pt_1 d1_54 rfl rfl rfl
theorem d1_55 : decode cX0_gather 55 = .ok (.getfield 19, 3) := by decide +kernel
theorem z1_55 {st : List Value} {w : pm_H} {pl : pm_L} {x0 : Nat} : pm_ev 1 55 pl (.ref x0 :: st) w = pm_kv 1 58 pl st w (pm_gf (w x0) 0 5) := pm_ng pt_1 pt_F_0_19 d1_55
theorem d1_58 : decode cX0_gather 58 = .ok (.iload 5, 2) := by decide +kernel
theorem z1_58 {st : List Value} {w : pm_H} {b0 b1 b2 b3 b4 : Option Value} {x0 : Int32} : pm_ev 1 58 [b0, b1, b2, b3, b4, some (.int x0)] st w = pm_ev 1 60 [b0, b1, b2, b3, b4, some (.int x0)] (.int x0 :: st) w := pm_ny pt_1 d1_58 rfl rfl rfl
theorem d1_60 : decode cX0_gather 60 = .ok (.aload_n 1, 1) := by decide +kernel
theorem z1_60 {st : List Value} {w : pm_H} {b0 b2 b3 b4 b5 : Option Value} {x0 : Nat} : pm_ev 1 60 [b0, some (.ref x0), b2, b3, b4, b5] st w = pm_ev 1 61 [b0, some (.ref x0), b2, b3, b4, b5] (.ref x0 :: st) w := pm_ny pt_1 d1_60 rfl rfl rfl
theorem d1_61 : decode cX0_gather 61 = .ok (.iload 5, 2) := by decide +kernel
theorem z1_61 {st : List Value} {w : pm_H} {b0 b1 b2 b3 b4 : Option Value} {x0 : Int32} : pm_ev 1 61 [b0, b1, b2, b3, b4, some (.int x0)] st w = pm_ev 1 63 [b0, b1, b2, b3, b4, some (.int x0)] (.int x0 :: st) w := pm_ny pt_1 d1_61 rfl rfl rfl
theorem d1_63 : decode cX0_gather 63 = .ok (.iload_n 2, 1) := by decide +kernel
theorem z1_63 {st : List Value} {w : pm_H} {b0 b1 b3 b4 b5 : Option Value} {x0 : Int32} : pm_ev 1 63 [b0, b1, some (.int x0), b3, b4, b5] st w = pm_ev 1 64 [b0, b1, some (.int x0), b3, b4, b5] (.int x0 :: st) w := pm_ny pt_1 d1_63 rfl rfl rfl
theorem d1_64 : decode cX0_gather 64 = .ok (.iload_n 3, 1) := by decide +kernel
theorem z1_64 {st : List Value} {w : pm_H} {b0 b1 b2 b4 b5 : Option Value} {x0 : Int32} : pm_ev 1 64 [b0, b1, b2, some (.int x0), b4, b5] st w = pm_ev 1 65 [b0, b1, b2, some (.int x0), b4, b5] (.int x0 :: st) w := pm_ny pt_1 d1_64 rfl rfl rfl
theorem d1_65 : decode cX0_gather 65 = .ok (.invokevirtual 63, 3) := by decide +kernel
theorem z1_65 {w : pm_H} {b0 b1 b2 b3 b4 b5 : Option Value} {x0 : Int32} {x1 : Int32} {x2 : Int32} {x3 : Nat} {x4 : Int32} {x5 : Nat} : pm_ev 1 65 [b0, b1, b2, b3, b4, b5] [.int x0, .int x1, .int x2, .ref x3, .int x4, .ref x5] w = pm_k 1 68 [b0, b1, b2, b3, b4, b5] [.int x4, .ref x5] (pm_vc (w x3) 4 (pm_call 48 [.ref x3, .int x2, .int x1, .int x0] w)) := pm_nv pt_1 pt_48 pt_M_0_63 d1_65 ⟨rfl, rfl⟩ ⟨⟨rfl, Nat.le_of_ble_eq_true rfl, Nat.le_of_ble_eq_true rfl, Nat.le_of_ble_eq_true rfl, Nat.le_of_ble_eq_true rfl⟩, rfl⟩
theorem d1_68 : decode cX0_gather 68 = .ok (.lastore, 1) := by decide +kernel
theorem z1_68 {st : List Value} {w : pm_H} {pl : pm_L} {x0 : Nat} {x1 : Int32} {x2 : Int64} : pm_ev 1 68 pl (.long x2 :: .int x1 :: .ref x0 :: st) w = pm_kw 1 69 pl st (pm_ls w x0 (w x0) x1 x2) := pm_nls pt_1 d1_68
theorem d1_69 : decode cX0_gather 69 = .ok (.aload_n 0, 1) := by decide +kernel
theorem z1_69 {st : List Value} {w : pm_H} {b1 b2 b3 b4 b5 : Option Value} {x0 : Nat} : pm_ev 1 69 [some (.ref x0), b1, b2, b3, b4, b5] st w = pm_ev 1 70 [some (.ref x0), b1, b2, b3, b4, b5] (.ref x0 :: st) w := pm_ny pt_1 d1_69 rfl rfl rfl
theorem d1_70 : decode cX0_gather 70 = .ok (.getfield 22, 3) := by decide +kernel
theorem z1_70 {st : List Value} {w : pm_H} {pl : pm_L} {x0 : Nat} : pm_ev 1 70 pl (.ref x0 :: st) w = pm_kv 1 73 pl st w (pm_gf (w x0) 0 6) := pm_ng pt_1 pt_F_0_22 d1_70
theorem d1_73 : decode cX0_gather 73 = .ok (.iload 5, 2) := by decide +kernel
theorem z1_73 {st : List Value} {w : pm_H} {b0 b1 b2 b3 b4 : Option Value} {x0 : Int32} : pm_ev 1 73 [b0, b1, b2, b3, b4, some (.int x0)] st w = pm_ev 1 75 [b0, b1, b2, b3, b4, some (.int x0)] (.int x0 :: st) w := pm_ny pt_1 d1_73 rfl rfl rfl
theorem d1_75 : decode cX0_gather 75 = .ok (.aload_n 1, 1) := by decide +kernel
theorem z1_75 {st : List Value} {w : pm_H} {b0 b2 b3 b4 b5 : Option Value} {x0 : Nat} : pm_ev 1 75 [b0, some (.ref x0), b2, b3, b4, b5] st w = pm_ev 1 76 [b0, some (.ref x0), b2, b3, b4, b5] (.ref x0 :: st) w := pm_ny pt_1 d1_75 rfl rfl rfl
theorem d1_76 : decode cX0_gather 76 = .ok (.iload 5, 2) := by decide +kernel
theorem z1_76 {st : List Value} {w : pm_H} {b0 b1 b2 b3 b4 : Option Value} {x0 : Int32} : pm_ev 1 76 [b0, b1, b2, b3, b4, some (.int x0)] st w = pm_ev 1 78 [b0, b1, b2, b3, b4, some (.int x0)] (.int x0 :: st) w := pm_ny pt_1 d1_76 rfl rfl rfl
theorem d1_78 : decode cX0_gather 78 = .ok (.invokevirtual 66, 3) := by decide +kernel
theorem z1_78 {w : pm_H} {b0 b1 b2 b3 b4 b5 : Option Value} {x0 : Int32} {x1 : Nat} {x2 : Int32} {x3 : Nat} : pm_ev 1 78 [b0, b1, b2, b3, b4, b5] [.int x0, .ref x1, .int x2, .ref x3] w = pm_k 1 81 [b0, b1, b2, b3, b4, b5] [.int x2, .ref x3] (pm_vc (w x1) 4 (pm_call 50 [.ref x1, .int x0] w)) := pm_nv pt_1 pt_50 pt_M_0_66 d1_78 ⟨rfl, rfl⟩ ⟨⟨rfl, Nat.le_of_ble_eq_true rfl, Nat.le_of_ble_eq_true rfl, Nat.le_of_ble_eq_true rfl, Nat.le_of_ble_eq_true rfl⟩, rfl⟩
theorem d1_81 : decode cX0_gather 81 = .ok (.lastore, 1) := by decide +kernel
theorem z1_81 {st : List Value} {w : pm_H} {pl : pm_L} {x0 : Nat} {x1 : Int32} {x2 : Int64} : pm_ev 1 81 pl (.long x2 :: .int x1 :: .ref x0 :: st) w = pm_kw 1 82 pl st (pm_ls w x0 (w x0) x1 x2) := pm_nls pt_1 d1_81
theorem d1_82 : decode cX0_gather 82 = .ok (.iload 5, 2) := by decide +kernel
theorem z1_82 {st : List Value} {w : pm_H} {b0 b1 b2 b3 b4 : Option Value} {x0 : Int32} : pm_ev 1 82 [b0, b1, b2, b3, b4, some (.int x0)] st w = pm_ev 1 84 [b0, b1, b2, b3, b4, some (.int x0)] (.int x0 :: st) w := pm_ny pt_1 d1_82 rfl rfl rfl
theorem d1_84 : decode cX0_gather 84 = .ok (.iload 4, 2) := by decide +kernel
theorem z1_84 {st : List Value} {w : pm_H} {b0 b1 b2 b3 b5 : Option Value} {x0 : Int32} : pm_ev 1 84 [b0, b1, b2, b3, some (.int x0), b5] st w = pm_ev 1 86 [b0, b1, b2, b3, some (.int x0), b5] (.int x0 :: st) w := pm_ny pt_1 d1_84 rfl rfl rfl
theorem d1_86 : decode cX0_gather 86 = .ok (.if_icmp .eq 21, 3) := by decide +kernel
theorem z1_86 {st : List Value} {w : pm_H} {pl : pm_L} {x0 x1 : Int32} : pm_ev 1 86 pl (.int x1 :: .int x0 :: st) w = if x0 = x1 then pm_ev 1 107 pl st w else pm_ev 1 89 pl st w := pm_nif pt_1 d1_86 rfl rfl rfl
theorem d1_89 : decode cX0_gather 89 = .ok (.aload_n 0, 1) := by decide +kernel
theorem z1_89 {st : List Value} {w : pm_H} {b1 b2 b3 b4 b5 : Option Value} {x0 : Nat} : pm_ev 1 89 [some (.ref x0), b1, b2, b3, b4, b5] st w = pm_ev 1 90 [some (.ref x0), b1, b2, b3, b4, b5] (.ref x0 :: st) w := pm_ny pt_1 d1_89 rfl rfl rfl
theorem d1_90 : decode cX0_gather 90 = .ok (.getfield 15, 3) := by decide +kernel
theorem z1_90 {st : List Value} {w : pm_H} {pl : pm_L} {x0 : Nat} : pm_ev 1 90 pl (.ref x0 :: st) w = pm_kv 1 93 pl st w (pm_gf (w x0) 0 4) := pm_ng pt_1 pt_F_0_15 d1_90
theorem d1_93 : decode cX0_gather 93 = .ok (.iload 5, 2) := by decide +kernel
theorem z1_93 {st : List Value} {w : pm_H} {b0 b1 b2 b3 b4 : Option Value} {x0 : Int32} : pm_ev 1 93 [b0, b1, b2, b3, b4, some (.int x0)] st w = pm_ev 1 95 [b0, b1, b2, b3, b4, some (.int x0)] (.int x0 :: st) w := pm_ny pt_1 d1_93 rfl rfl rfl
theorem d1_95 : decode cX0_gather 95 = .ok (.laload, 1) := by decide +kernel
theorem z1_95 {st : List Value} {w : pm_H} {pl : pm_L} {x0 : Nat} {x1 : Int32} : pm_ev 1 95 pl (.int x1 :: .ref x0 :: st) w = pm_kv 1 96 pl st w (pm_la (w x0) x1) := pm_nla pt_1 d1_95
theorem d1_96 : decode cX0_gather 96 = .ok (.lconst 0, 1) := by decide +kernel
theorem z1_96 {st : List Value} {w : pm_H} {pl : pm_L} : pm_ev 1 96 pl st w = pm_ev 1 97 pl (.long 0 :: st) w := pm_ny pt_1 d1_96 rfl rfl rfl
theorem d1_97 : decode cX0_gather 97 = .ok (.lcmp, 1) := by decide +kernel
theorem z1_97 {st : List Value} {w : pm_H} {pl : pm_L} {x0 x1 : Int64} : pm_ev 1 97 pl (.long x1 :: .long x0 :: st) w = pm_ev 1 98 pl (.int (lg_cmp x0 x1) :: st) w := pm_ny pt_1 d1_97 rfl rfl rfl
theorem d1_98 : decode cX0_gather 98 = .ok (.ifCond .le 9, 3) := by decide +kernel
theorem z1_98 {st : List Value} {w : pm_H} {pl : pm_L} {x0 : Int32} : pm_ev 1 98 pl (.int x0 :: st) w = if 0 < x0 then pm_ev 1 101 pl st w else pm_ev 1 107 pl st w := pm_nin (c := x0 ≤ 0) pt_1 d1_98 rfl rfl rfl pm_ge
theorem d1_101 : decode cX0_gather 101 = .ok (.aload_n 0, 1) := by decide +kernel
theorem z1_101 {st : List Value} {w : pm_H} {b1 b2 b3 b4 b5 : Option Value} {x0 : Nat} : pm_ev 1 101 [some (.ref x0), b1, b2, b3, b4, b5] st w = pm_ev 1 102 [some (.ref x0), b1, b2, b3, b4, b5] (.ref x0 :: st) w := pm_ny pt_1 d1_101 rfl rfl rfl
theorem d1_102 : decode cX0_gather 102 = .ok (.iload 5, 2) := by decide +kernel
theorem z1_102 {st : List Value} {w : pm_H} {b0 b1 b2 b3 b4 : Option Value} {x0 : Int32} : pm_ev 1 102 [b0, b1, b2, b3, b4, some (.int x0)] st w = pm_ev 1 104 [b0, b1, b2, b3, b4, some (.int x0)] (.int x0 :: st) w := pm_ny pt_1 d1_102 rfl rfl rfl
theorem d1_104 : decode cX0_gather 104 = .ok (.invokevirtual 70, 3) := by decide +kernel
theorem z1_104 {w : pm_H} {b0 b1 b2 b3 b4 b5 : Option Value} {x0 : Int32} {x1 : Nat} : pm_ev 1 104 [b0, b1, b2, b3, b4, b5] [.int x0, .ref x1] w = pm_k 1 107 [b0, b1, b2, b3, b4, b5] [] (pm_vc (w x1) 0 (pm_call 2 [.ref x1, .int x0] w)) := pm_nv pt_1 pt_2 pt_M_0_70 d1_104 ⟨rfl, rfl⟩ ⟨⟨rfl, Nat.le_of_ble_eq_true rfl, Nat.le_of_ble_eq_true rfl, Nat.le_of_ble_eq_true rfl, Nat.le_of_ble_eq_true rfl⟩, rfl⟩
theorem d1_107 : decode cX0_gather 107 = .ok (.iinc 5 1, 3) := by decide +kernel
theorem z1_107 {st : List Value} {w : pm_H} {b0 b1 b2 b3 : Option Value} {x0 : Int32} {x9 : Int32} : pm_ev 1 107 [b0, b1, b2, b3, some (.int x9), some (.int x0)] st w = pm_ev 1 110 [b0, b1, b2, b3, some (.int x9), some (.int (x0 + 1))] st w := pm_ny pt_1 d1_107 rfl rfl rfl
theorem d1_110 : decode cX0_gather 110 = .ok (.goto (-80), 3) := by decide +kernel
theorem z1_110 {st : List Value} {w : pm_H} {pl : pm_L} : pm_ev 1 110 pl st w = pm_ev 1 30 pl st w := pm_ny pt_1 d1_110 rfl rfl rfl
theorem d1_113 : decode cX0_gather 113 = .ok (.return_, 1) := by decide +kernel
theorem z1_113 {w : pm_H} {pl : pm_L} : pm_ev 1 113 pl [] w = some (none, w) := pm_nr pt_1 d1_113 rfl
theorem d2_0 : decode cX0_placeByHarm 0 = .ok (.aload_n 0, 1) := by decide +kernel
theorem z2_0 {st : List Value} {w : pm_H} {b1 b2 : Option Value} {x0 : Nat} : pm_ev 2 0 [some (.ref x0), b1, b2] st w = pm_ev 2 1 [some (.ref x0), b1, b2] (.ref x0 :: st) w := pm_ny pt_2 d2_0 rfl rfl rfl
theorem d2_1 : decode cX0_placeByHarm 1 = .ok (.getfield 53, 3) := by decide +kernel
theorem z2_1 {st : List Value} {w : pm_H} {pl : pm_L} {x0 : Nat} : pm_ev 2 1 pl (.ref x0 :: st) w = pm_kv 2 4 pl st w (pm_gf (w x0) 0 8) := pm_ng pt_2 pt_F_0_53 d2_1
theorem d2_4 : decode cX0_placeByHarm 4 = .ok (.istore_n 2, 1) := by decide +kernel
theorem z2_4 {st : List Value} {w : pm_H} {b0 b2 : Option Value} {x0 : Int32} {x9 : Int32} : pm_ev 2 4 [b0, some (.int x9), b2] (.int x0 :: st) w = pm_ev 2 5 [b0, some (.int x9), some (.int x0)] st w := pm_ny pt_2 d2_4 rfl rfl rfl
theorem d2_5 : decode cX0_placeByHarm 5 = .ok (.iload_n 2, 1) := by decide +kernel
theorem z2_5 {st : List Value} {w : pm_H} {b0 b1 : Option Value} {x0 : Int32} : pm_ev 2 5 [b0, b1, some (.int x0)] st w = pm_ev 2 6 [b0, b1, some (.int x0)] (.int x0 :: st) w := pm_ny pt_2 d2_5 rfl rfl rfl
theorem d2_6 : decode cX0_placeByHarm 6 = .ok (.ifCond .le 39, 3) := by decide +kernel
theorem z2_6 {st : List Value} {w : pm_H} {pl : pm_L} {x0 : Int32} : pm_ev 2 6 pl (.int x0 :: st) w = if 0 < x0 then pm_ev 2 9 pl st w else pm_ev 2 45 pl st w := pm_nin (c := x0 ≤ 0) pt_2 d2_6 rfl rfl rfl pm_ge
theorem d2_9 : decode cX0_placeByHarm 9 = .ok (.aload_n 0, 1) := by decide +kernel
theorem z2_9 {st : List Value} {w : pm_H} {b1 b2 : Option Value} {x0 : Nat} : pm_ev 2 9 [some (.ref x0), b1, b2] st w = pm_ev 2 10 [some (.ref x0), b1, b2] (.ref x0 :: st) w := pm_ny pt_2 d2_9 rfl rfl rfl
theorem d2_10 : decode cX0_placeByHarm 10 = .ok (.iload_n 1, 1) := by decide +kernel
theorem z2_10 {st : List Value} {w : pm_H} {b0 b2 : Option Value} {x0 : Int32} : pm_ev 2 10 [b0, some (.int x0), b2] st w = pm_ev 2 11 [b0, some (.int x0), b2] (.int x0 :: st) w := pm_ny pt_2 d2_10 rfl rfl rfl
theorem d2_11 : decode cX0_placeByHarm 11 = .ok (.aload_n 0, 1) := by decide +kernel
theorem z2_11 {st : List Value} {w : pm_H} {b1 b2 : Option Value} {x0 : Nat} : pm_ev 2 11 [some (.ref x0), b1, b2] st w = pm_ev 2 12 [some (.ref x0), b1, b2] (.ref x0 :: st) w := pm_ny pt_2 d2_11 rfl rfl rfl
theorem d2_12 : decode cX0_placeByHarm 12 = .ok (.getfield 25, 3) := by decide +kernel
theorem z2_12 {st : List Value} {w : pm_H} {pl : pm_L} {x0 : Nat} : pm_ev 2 12 pl (.ref x0 :: st) w = pm_kv 2 15 pl st w (pm_gf (w x0) 0 7) := pm_ng pt_2 pt_F_0_25 d2_12
theorem d2_15 : decode cX0_placeByHarm 15 = .ok (.iload_n 2, 1) := by decide +kernel
theorem z2_15 {st : List Value} {w : pm_H} {b0 b1 : Option Value} {x0 : Int32} : pm_ev 2 15 [b0, b1, some (.int x0)] st w = pm_ev 2 16 [b0, b1, some (.int x0)] (.int x0 :: st) w := pm_ny pt_2 d2_15 rfl rfl rfl
theorem d2_16 : decode cX0_placeByHarm 16 = .ok (.iconst 1, 1) := by decide +kernel
theorem z2_16 {st : List Value} {w : pm_H} {pl : pm_L} : pm_ev 2 16 pl st w = pm_ev 2 17 pl (.int 1 :: st) w := pm_ny pt_2 d2_16 rfl rfl rfl
theorem d2_17 : decode cX0_placeByHarm 17 = .ok (.isub, 1) := by decide +kernel
theorem z2_17 {st : List Value} {w : pm_H} {pl : pm_L} {x0 x1 : Int32} : pm_ev 2 17 pl (.int x1 :: .int x0 :: st) w = pm_ev 2 18 pl (.int (x0 - x1) :: st) w := pm_ny pt_2 d2_17 rfl rfl rfl
theorem d2_18 : decode cX0_placeByHarm 18 = .ok (.iaload, 1) := by decide +kernel
theorem z2_18 {st : List Value} {w : pm_H} {pl : pm_L} {x0 : Nat} {x1 : Int32} : pm_ev 2 18 pl (.int x1 :: .ref x0 :: st) w = pm_kv 2 19 pl st w (pm_ia (w x0) 0 x1) := pm_nia pt_2 d2_18
theorem d2_19 : decode cX0_placeByHarm 19 = .ok (.invokevirtual 101, 3) := by decide +kernel
theorem z2_19 {w : pm_H} {b0 b1 b2 : Option Value} {x0 : Int32} {x1 : Int32} {x2 : Nat} : pm_ev 2 19 [b0, b1, b2] [.int x0, .int x1, .ref x2] w = pm_k 2 22 [b0, b1, b2] [] (pm_vc (w x2) 0 (pm_call 3 [.ref x2, .int x1, .int x0] w)) := pm_nv pt_2 pt_3 pt_M_0_101 d2_19 ⟨rfl, rfl⟩ ⟨⟨rfl, Nat.le_of_ble_eq_true rfl, Nat.le_of_ble_eq_true rfl, Nat.le_of_ble_eq_true rfl, Nat.le_of_ble_eq_true rfl⟩, rfl⟩
theorem d2_22 : decode cX0_placeByHarm 22 = .ok (.ifCond .eq 23, 3) := by decide +kernel
theorem z2_22 {st : List Value} {w : pm_H} {pl : pm_L} {x0 : Int32} : pm_ev 2 22 pl (.int x0 :: st) w = if x0 = 0 then pm_ev 2 45 pl st w else pm_ev 2 25 pl st w := pm_nif pt_2 d2_22 rfl rfl rfl
theorem d2_25 : decode cX0_placeByHarm 25 = .ok (.aload_n 0, 1) := by decide +kernel
theorem z2_25 {st : List Value} {w : pm_H} {b1 b2 : Option Value} {x0 : Nat} : pm_ev 2 25 [some (.ref x0), b1, b2] st w = pm_ev 2 26 [some (.ref x0), b1, b2] (.ref x0 :: st) w := pm_ny pt_2 d2_25 rfl rfl rfl
theorem d2_26 : decode cX0_placeByHarm 26 = .ok (.getfield 25, 3) := by decide +kernel
theorem z2_26 {st : List Value} {w : pm_H} {pl : pm_L} {x0 : Nat} : pm_ev 2 26 pl (.ref x0 :: st) w = pm_kv 2 29 pl st w (pm_gf (w x0) 0 7) := pm_ng pt_2 pt_F_0_25 d2_26
theorem d2_29 : decode cX0_placeByHarm 29 = .ok (.iload_n 2, 1) := by decide +kernel
theorem z2_29 {st : List Value} {w : pm_H} {b0 b1 : Option Value} {x0 : Int32} : pm_ev 2 29 [b0, b1, some (.int x0)] st w = pm_ev 2 30 [b0, b1, some (.int x0)] (.int x0 :: st) w := pm_ny pt_2 d2_29 rfl rfl rfl
theorem d2_30 : decode cX0_placeByHarm 30 = .ok (.aload_n 0, 1) := by decide +kernel
theorem z2_30 {st : List Value} {w : pm_H} {b1 b2 : Option Value} {x0 : Nat} : pm_ev 2 30 [some (.ref x0), b1, b2] st w = pm_ev 2 31 [some (.ref x0), b1, b2] (.ref x0 :: st) w := pm_ny pt_2 d2_30 rfl rfl rfl
theorem d2_31 : decode cX0_placeByHarm 31 = .ok (.getfield 25, 3) := by decide +kernel
theorem z2_31 {st : List Value} {w : pm_H} {pl : pm_L} {x0 : Nat} : pm_ev 2 31 pl (.ref x0 :: st) w = pm_kv 2 34 pl st w (pm_gf (w x0) 0 7) := pm_ng pt_2 pt_F_0_25 d2_31
theorem d2_34 : decode cX0_placeByHarm 34 = .ok (.iload_n 2, 1) := by decide +kernel
theorem z2_34 {st : List Value} {w : pm_H} {b0 b1 : Option Value} {x0 : Int32} : pm_ev 2 34 [b0, b1, some (.int x0)] st w = pm_ev 2 35 [b0, b1, some (.int x0)] (.int x0 :: st) w := pm_ny pt_2 d2_34 rfl rfl rfl
theorem d2_35 : decode cX0_placeByHarm 35 = .ok (.iconst 1, 1) := by decide +kernel
theorem z2_35 {st : List Value} {w : pm_H} {pl : pm_L} : pm_ev 2 35 pl st w = pm_ev 2 36 pl (.int 1 :: st) w := pm_ny pt_2 d2_35 rfl rfl rfl
theorem d2_36 : decode cX0_placeByHarm 36 = .ok (.isub, 1) := by decide +kernel
theorem z2_36 {st : List Value} {w : pm_H} {pl : pm_L} {x0 x1 : Int32} : pm_ev 2 36 pl (.int x1 :: .int x0 :: st) w = pm_ev 2 37 pl (.int (x0 - x1) :: st) w := pm_ny pt_2 d2_36 rfl rfl rfl
theorem d2_37 : decode cX0_placeByHarm 37 = .ok (.iaload, 1) := by decide +kernel
theorem z2_37 {st : List Value} {w : pm_H} {pl : pm_L} {x0 : Nat} {x1 : Int32} : pm_ev 2 37 pl (.int x1 :: .ref x0 :: st) w = pm_kv 2 38 pl st w (pm_ia (w x0) 0 x1) := pm_nia pt_2 d2_37
theorem d2_38 : decode cX0_placeByHarm 38 = .ok (.iastore, 1) := by decide +kernel
theorem z2_38 {st : List Value} {w : pm_H} {pl : pm_L} {x0 : Nat} {x1 : Int32} {x2 : Int32} : pm_ev 2 38 pl (.int x2 :: .int x1 :: .ref x0 :: st) w = pm_kw 2 39 pl st (pm_is w x0 (w x0) x1 x2) := pm_nis pt_2 d2_38
theorem d2_39 : decode cX0_placeByHarm 39 = .ok (.iinc 2 (-1), 3) := by decide +kernel
theorem z2_39 {st : List Value} {w : pm_H} {b0 : Option Value} {x0 : Int32} {x9 : Int32} : pm_ev 2 39 [b0, some (.int x9), some (.int x0)] st w = pm_ev 2 42 [b0, some (.int x9), some (.int (x0 + (-1)))] st w := pm_ny pt_2 d2_39 rfl rfl rfl
theorem d2_42 : decode cX0_placeByHarm 42 = .ok (.goto (-37), 3) := by decide +kernel
theorem z2_42 {st : List Value} {w : pm_H} {pl : pm_L} : pm_ev 2 42 pl st w = pm_ev 2 5 pl st w := pm_ny pt_2 d2_42 rfl rfl rfl
theorem d2_45 : decode cX0_placeByHarm 45 = .ok (.aload_n 0, 1) := by decide +kernel
theorem z2_45 {st : List Value} {w : pm_H} {b1 b2 : Option Value} {x0 : Nat} : pm_ev 2 45 [some (.ref x0), b1, b2] st w = pm_ev 2 46 [some (.ref x0), b1, b2] (.ref x0 :: st) w := pm_ny pt_2 d2_45 rfl rfl rfl
theorem d2_46 : decode cX0_placeByHarm 46 = .ok (.getfield 25, 3) := by decide +kernel
theorem z2_46 {st : List Value} {w : pm_H} {pl : pm_L} {x0 : Nat} : pm_ev 2 46 pl (.ref x0 :: st) w = pm_kv 2 49 pl st w (pm_gf (w x0) 0 7) := pm_ng pt_2 pt_F_0_25 d2_46
theorem d2_49 : decode cX0_placeByHarm 49 = .ok (.iload_n 2, 1) := by decide +kernel
theorem z2_49 {st : List Value} {w : pm_H} {b0 b1 : Option Value} {x0 : Int32} : pm_ev 2 49 [b0, b1, some (.int x0)] st w = pm_ev 2 50 [b0, b1, some (.int x0)] (.int x0 :: st) w := pm_ny pt_2 d2_49 rfl rfl rfl
theorem d2_50 : decode cX0_placeByHarm 50 = .ok (.iload_n 1, 1) := by decide +kernel
theorem z2_50 {st : List Value} {w : pm_H} {b0 b2 : Option Value} {x0 : Int32} : pm_ev 2 50 [b0, some (.int x0), b2] st w = pm_ev 2 51 [b0, some (.int x0), b2] (.int x0 :: st) w := pm_ny pt_2 d2_50 rfl rfl rfl
theorem d2_51 : decode cX0_placeByHarm 51 = .ok (.iastore, 1) := by decide +kernel
theorem z2_51 {st : List Value} {w : pm_H} {pl : pm_L} {x0 : Nat} {x1 : Int32} {x2 : Int32} : pm_ev 2 51 pl (.int x2 :: .int x1 :: .ref x0 :: st) w = pm_kw 2 52 pl st (pm_is w x0 (w x0) x1 x2) := pm_nis pt_2 d2_51
theorem d2_52 : decode cX0_placeByHarm 52 = .ok (.aload_n 0, 1) := by decide +kernel
theorem z2_52 {st : List Value} {w : pm_H} {b1 b2 : Option Value} {x0 : Nat} : pm_ev 2 52 [some (.ref x0), b1, b2] st w = pm_ev 2 53 [some (.ref x0), b1, b2] (.ref x0 :: st) w := pm_ny pt_2 d2_52 rfl rfl rfl
theorem d2_53 : decode cX0_placeByHarm 53 = .ok (.dup, 1) := by decide +kernel
theorem z2_53 {st : List Value} {w : pm_H} {pl : pm_L} {x0 : Nat} : pm_ev 2 53 pl (.ref x0 :: st) w = pm_ev 2 54 pl (.ref x0 :: .ref x0 :: st) w := pm_ny pt_2 d2_53 rfl rfl rfl
theorem d2_54 : decode cX0_placeByHarm 54 = .ok (.getfield 53, 3) := by decide +kernel
theorem z2_54 {st : List Value} {w : pm_H} {pl : pm_L} {x0 : Nat} : pm_ev 2 54 pl (.ref x0 :: st) w = pm_kv 2 57 pl st w (pm_gf (w x0) 0 8) := pm_ng pt_2 pt_F_0_53 d2_54
theorem d2_57 : decode cX0_placeByHarm 57 = .ok (.iconst 1, 1) := by decide +kernel
theorem z2_57 {st : List Value} {w : pm_H} {pl : pm_L} : pm_ev 2 57 pl st w = pm_ev 2 58 pl (.int 1 :: st) w := pm_ny pt_2 d2_57 rfl rfl rfl
theorem d2_58 : decode cX0_placeByHarm 58 = .ok (.iadd, 1) := by decide +kernel
theorem z2_58 {st : List Value} {w : pm_H} {pl : pm_L} {x0 x1 : Int32} : pm_ev 2 58 pl (.int x1 :: .int x0 :: st) w = pm_ev 2 59 pl (.int (x0 + x1) :: st) w := pm_ny pt_2 d2_58 rfl rfl rfl
theorem d2_59 : decode cX0_placeByHarm 59 = .ok (.putfield 53, 3) := by decide +kernel
theorem z2_59 {st : List Value} {w : pm_H} {pl : pm_L} {x0 : Nat} {x1 : Int32} : pm_ev 2 59 pl (.int x1 :: .ref x0 :: st) w = pm_kw 2 62 pl st (pm_pf w x0 (w x0) 0 8 0 (.int x1)) := pm_np pt_2 pt_F_0_53 d2_59
theorem d2_62 : decode cX0_placeByHarm 62 = .ok (.return_, 1) := by decide +kernel
theorem z2_62 {w : pm_H} {pl : pm_L} : pm_ev 2 62 pl [] w = some (none, w) := pm_nr pt_2 d2_62 rfl
theorem d3_0 : decode cX0_harmsLess 0 = .ok (.aload_n 0, 1) := by decide +kernel
theorem z3_0 {st : List Value} {w : pm_H} {b1 b2 : Option Value} {x0 : Nat} : pm_ev 3 0 [some (.ref x0), b1, b2] st w = pm_ev 3 1 [some (.ref x0), b1, b2] (.ref x0 :: st) w := pm_ny pt_3 d3_0 rfl rfl rfl
theorem d3_1 : decode cX0_harmsLess 1 = .ok (.getfield 19, 3) := by decide +kernel
theorem z3_1 {st : List Value} {w : pm_H} {pl : pm_L} {x0 : Nat} : pm_ev 3 1 pl (.ref x0 :: st) w = pm_kv 3 4 pl st w (pm_gf (w x0) 0 5) := pm_ng pt_3 pt_F_0_19 d3_1
theorem d3_4 : decode cX0_harmsLess 4 = .ok (.iload_n 1, 1) := by decide +kernel
theorem z3_4 {st : List Value} {w : pm_H} {b0 b2 : Option Value} {x0 : Int32} : pm_ev 3 4 [b0, some (.int x0), b2] st w = pm_ev 3 5 [b0, some (.int x0), b2] (.int x0 :: st) w := pm_ny pt_3 d3_4 rfl rfl rfl
theorem d3_5 : decode cX0_harmsLess 5 = .ok (.laload, 1) := by decide +kernel
theorem z3_5 {st : List Value} {w : pm_H} {pl : pm_L} {x0 : Nat} {x1 : Int32} : pm_ev 3 5 pl (.int x1 :: .ref x0 :: st) w = pm_kv 3 6 pl st w (pm_la (w x0) x1) := pm_nla pt_3 d3_5
theorem d3_6 : decode cX0_harmsLess 6 = .ok (.aload_n 0, 1) := by decide +kernel
theorem z3_6 {st : List Value} {w : pm_H} {b1 b2 : Option Value} {x0 : Nat} : pm_ev 3 6 [some (.ref x0), b1, b2] st w = pm_ev 3 7 [some (.ref x0), b1, b2] (.ref x0 :: st) w := pm_ny pt_3 d3_6 rfl rfl rfl
theorem d3_7 : decode cX0_harmsLess 7 = .ok (.getfield 15, 3) := by decide +kernel
theorem z3_7 {st : List Value} {w : pm_H} {pl : pm_L} {x0 : Nat} : pm_ev 3 7 pl (.ref x0 :: st) w = pm_kv 3 10 pl st w (pm_gf (w x0) 0 4) := pm_ng pt_3 pt_F_0_15 d3_7
theorem d3_10 : decode cX0_harmsLess 10 = .ok (.iload_n 2, 1) := by decide +kernel
theorem z3_10 {st : List Value} {w : pm_H} {b0 b1 : Option Value} {x0 : Int32} : pm_ev 3 10 [b0, b1, some (.int x0)] st w = pm_ev 3 11 [b0, b1, some (.int x0)] (.int x0 :: st) w := pm_ny pt_3 d3_10 rfl rfl rfl
theorem d3_11 : decode cX0_harmsLess 11 = .ok (.laload, 1) := by decide +kernel
theorem z3_11 {st : List Value} {w : pm_H} {pl : pm_L} {x0 : Nat} {x1 : Int32} : pm_ev 3 11 pl (.int x1 :: .ref x0 :: st) w = pm_kv 3 12 pl st w (pm_la (w x0) x1) := pm_nla pt_3 d3_11
theorem d3_12 : decode cX0_harmsLess 12 = .ok (.lmul, 1) := by decide +kernel
theorem z3_12 {st : List Value} {w : pm_H} {pl : pm_L} {x0 x1 : Int64} : pm_ev 3 12 pl (.long x1 :: .long x0 :: st) w = pm_ev 3 13 pl (.long (x0 * x1) :: st) w := pm_ny pt_3 d3_12 rfl rfl rfl
theorem d3_13 : decode cX0_harmsLess 13 = .ok (.aload_n 0, 1) := by decide +kernel
theorem z3_13 {st : List Value} {w : pm_H} {b1 b2 : Option Value} {x0 : Nat} : pm_ev 3 13 [some (.ref x0), b1, b2] st w = pm_ev 3 14 [some (.ref x0), b1, b2] (.ref x0 :: st) w := pm_ny pt_3 d3_13 rfl rfl rfl
theorem d3_14 : decode cX0_harmsLess 14 = .ok (.getfield 19, 3) := by decide +kernel
theorem z3_14 {st : List Value} {w : pm_H} {pl : pm_L} {x0 : Nat} : pm_ev 3 14 pl (.ref x0 :: st) w = pm_kv 3 17 pl st w (pm_gf (w x0) 0 5) := pm_ng pt_3 pt_F_0_19 d3_14
theorem d3_17 : decode cX0_harmsLess 17 = .ok (.iload_n 2, 1) := by decide +kernel
theorem z3_17 {st : List Value} {w : pm_H} {b0 b1 : Option Value} {x0 : Int32} : pm_ev 3 17 [b0, b1, some (.int x0)] st w = pm_ev 3 18 [b0, b1, some (.int x0)] (.int x0 :: st) w := pm_ny pt_3 d3_17 rfl rfl rfl
theorem d3_18 : decode cX0_harmsLess 18 = .ok (.laload, 1) := by decide +kernel
theorem z3_18 {st : List Value} {w : pm_H} {pl : pm_L} {x0 : Nat} {x1 : Int32} : pm_ev 3 18 pl (.int x1 :: .ref x0 :: st) w = pm_kv 3 19 pl st w (pm_la (w x0) x1) := pm_nla pt_3 d3_18
theorem d3_19 : decode cX0_harmsLess 19 = .ok (.aload_n 0, 1) := by decide +kernel
theorem z3_19 {st : List Value} {w : pm_H} {b1 b2 : Option Value} {x0 : Nat} : pm_ev 3 19 [some (.ref x0), b1, b2] st w = pm_ev 3 20 [some (.ref x0), b1, b2] (.ref x0 :: st) w := pm_ny pt_3 d3_19 rfl rfl rfl
theorem d3_20 : decode cX0_harmsLess 20 = .ok (.getfield 15, 3) := by decide +kernel
theorem z3_20 {st : List Value} {w : pm_H} {pl : pm_L} {x0 : Nat} : pm_ev 3 20 pl (.ref x0 :: st) w = pm_kv 3 23 pl st w (pm_gf (w x0) 0 4) := pm_ng pt_3 pt_F_0_15 d3_20
theorem d3_23 : decode cX0_harmsLess 23 = .ok (.iload_n 1, 1) := by decide +kernel
theorem z3_23 {st : List Value} {w : pm_H} {b0 b2 : Option Value} {x0 : Int32} : pm_ev 3 23 [b0, some (.int x0), b2] st w = pm_ev 3 24 [b0, some (.int x0), b2] (.int x0 :: st) w := pm_ny pt_3 d3_23 rfl rfl rfl
theorem d3_24 : decode cX0_harmsLess 24 = .ok (.laload, 1) := by decide +kernel
theorem z3_24 {st : List Value} {w : pm_H} {pl : pm_L} {x0 : Nat} {x1 : Int32} : pm_ev 3 24 pl (.int x1 :: .ref x0 :: st) w = pm_kv 3 25 pl st w (pm_la (w x0) x1) := pm_nla pt_3 d3_24
theorem d3_25 : decode cX0_harmsLess 25 = .ok (.lmul, 1) := by decide +kernel
theorem z3_25 {st : List Value} {w : pm_H} {pl : pm_L} {x0 x1 : Int64} : pm_ev 3 25 pl (.long x1 :: .long x0 :: st) w = pm_ev 3 26 pl (.long (x0 * x1) :: st) w := pm_ny pt_3 d3_25 rfl rfl rfl
theorem d3_26 : decode cX0_harmsLess 26 = .ok (.lcmp, 1) := by decide +kernel
theorem z3_26 {st : List Value} {w : pm_H} {pl : pm_L} {x0 x1 : Int64} : pm_ev 3 26 pl (.long x1 :: .long x0 :: st) w = pm_ev 3 27 pl (.int (lg_cmp x0 x1) :: st) w := pm_ny pt_3 d3_26 rfl rfl rfl
theorem d3_27 : decode cX0_harmsLess 27 = .ok (.ifCond .ge 7, 3) := by decide +kernel
theorem z3_27 {st : List Value} {w : pm_H} {pl : pm_L} {x0 : Int32} : pm_ev 3 27 pl (.int x0 :: st) w = if x0 < 0 then pm_ev 3 30 pl st w else pm_ev 3 34 pl st w := pm_nin (c := 0 ≤ x0) pt_3 d3_27 rfl rfl rfl pm_ge
theorem d3_30 : decode cX0_harmsLess 30 = .ok (.iconst 1, 1) := by decide +kernel
theorem z3_30 {st : List Value} {w : pm_H} {pl : pm_L} : pm_ev 3 30 pl st w = pm_ev 3 31 pl (.int 1 :: st) w := pm_ny pt_3 d3_30 rfl rfl rfl
theorem d3_31 : decode cX0_harmsLess 31 = .ok (.goto 4, 3) := by decide +kernel
theorem z3_31 {st : List Value} {w : pm_H} {pl : pm_L} : pm_ev 3 31 pl st w = pm_ev 3 35 pl st w := pm_ny pt_3 d3_31 rfl rfl rfl
theorem d3_34 : decode cX0_harmsLess 34 = .ok (.iconst 0, 1) := by decide +kernel
theorem z3_34 {st : List Value} {w : pm_H} {pl : pm_L} : pm_ev 3 34 pl st w = pm_ev 3 35 pl (.int 0 :: st) w := pm_ny pt_3 d3_34 rfl rfl rfl
theorem d3_35 : decode cX0_harmsLess 35 = .ok (.ireturn, 1) := by decide +kernel
theorem z3_35 {w : pm_H} {pl : pm_L} {x0 : Int32} : pm_ev 3 35 pl [.int x0] w = pm_zr x0 w := pm_nz pt_3 d3_35
theorem d4_0 : decode cX0_settle 0 = .ok (.aload_n 0, 1) := by decide +kernel
theorem z4_0 {st : List Value} {w : pm_H} {b1 b2 b3 b4 b5 b6 : Option Value} {x0 : Nat} : pm_ev 4 0 [some (.ref x0), b1, b2, b3, b4, b5, b6] st w = pm_ev 4 1 [some (.ref x0), b1, b2, b3, b4, b5, b6] (.ref x0 :: st) w := pm_ny pt_4 d4_0 rfl rfl rfl
theorem d4_1 : decode cX0_settle 1 = .ok (.lload_n 1, 1) := by decide +kernel
theorem z4_1 {st : List Value} {w : pm_H} {b0 b2 b3 b4 b5 b6 : Option Value} {x0 : Int64} : pm_ev 4 1 [b0, some (.long x0), b2, b3, b4, b5, b6] st w = pm_ev 4 2 [b0, some (.long x0), b2, b3, b4, b5, b6] (.long x0 :: st) w := pm_ny pt_4 d4_1 rfl rfl rfl
theorem d4_2 : decode cX0_settle 2 = .ok (.putfield 74, 3) := by decide +kernel
theorem z4_2 {st : List Value} {w : pm_H} {pl : pm_L} {x0 : Nat} {x1 : Int64} : pm_ev 4 2 pl (.long x1 :: .ref x0 :: st) w = pm_kw 4 5 pl st (pm_pf w x0 (w x0) 0 11 1 (.long x1)) := pm_np pt_4 pt_F_0_74 d4_2
theorem d4_5 : decode cX0_settle 5 = .ok (.aload_n 0, 1) := by decide +kernel
theorem z4_5 {st : List Value} {w : pm_H} {b1 b2 b3 b4 b5 b6 : Option Value} {x0 : Nat} : pm_ev 4 5 [some (.ref x0), b1, b2, b3, b4, b5, b6] st w = pm_ev 4 6 [some (.ref x0), b1, b2, b3, b4, b5, b6] (.ref x0 :: st) w := pm_ny pt_4 d4_5 rfl rfl rfl
theorem d4_6 : decode cX0_settle 6 = .ok (.iconst 0, 1) := by decide +kernel
theorem z4_6 {st : List Value} {w : pm_H} {pl : pm_L} : pm_ev 4 6 pl st w = pm_ev 4 7 pl (.int 0 :: st) w := pm_ny pt_4 d4_6 rfl rfl rfl
theorem d4_7 : decode cX0_settle 7 = .ok (.putfield 77, 3) := by decide +kernel
theorem z4_7 {st : List Value} {w : pm_H} {pl : pm_L} {x0 : Nat} {x1 : Int32} : pm_ev 4 7 pl (.int x1 :: .ref x0 :: st) w = pm_kw 4 10 pl st (pm_pf w x0 (w x0) 0 1 0 (.int x1)) := pm_np pt_4 pt_F_0_77 d4_7
theorem d4_10 : decode cX0_settle 10 = .ok (.iconst 0, 1) := by decide +kernel
theorem z4_10 {st : List Value} {w : pm_H} {pl : pm_L} : pm_ev 4 10 pl st w = pm_ev 4 11 pl (.int 0 :: st) w := pm_ny pt_4 d4_10 rfl rfl rfl
theorem d4_11 : decode cX0_settle 11 = .ok (.istore 5, 2) := by decide +kernel
theorem z4_11 {st : List Value} {w : pm_H} {b0 b1 b2 b3 b5 b6 : Option Value} {x0 : Int32} : pm_ev 4 11 [b0, b1, b2, b3, none, b5, b6] (.int x0 :: st) w = pm_ev 4 13 [b0, b1, b2, b3, none, some (.int x0), b6] st w := pm_ny pt_4 d4_11 rfl rfl rfl
theorem d4_13 : decode cX0_settle 13 = .ok (.iload 5, 2) := by decide +kernel
theorem z4_13 {st : List Value} {w : pm_H} {b0 b1 b2 b3 b4 b6 : Option Value} {x0 : Int32} : pm_ev 4 13 [b0, b1, b2, b3, b4, some (.int x0), b6] st w = pm_ev 4 15 [b0, b1, b2, b3, b4, some (.int x0), b6] (.int x0 :: st) w := pm_ny pt_4 d4_13 rfl rfl rfl
theorem d4_15 : decode cX0_settle 15 = .ok (.aload_n 0, 1) := by decide +kernel
theorem z4_15 {st : List Value} {w : pm_H} {b1 b2 b3 b4 b5 b6 : Option Value} {x0 : Nat} : pm_ev 4 15 [some (.ref x0), b1, b2, b3, b4, b5, b6] st w = pm_ev 4 16 [some (.ref x0), b1, b2, b3, b4, b5, b6] (.ref x0 :: st) w := pm_ny pt_4 d4_15 rfl rfl rfl
theorem d4_16 : decode cX0_settle 16 = .ok (.getfield 53, 3) := by decide +kernel
theorem z4_16 {st : List Value} {w : pm_H} {pl : pm_L} {x0 : Nat} : pm_ev 4 16 pl (.ref x0 :: st) w = pm_kv 4 19 pl st w (pm_gf (w x0) 0 8) := pm_ng pt_4 pt_F_0_53 d4_16
theorem d4_19 : decode cX0_settle 19 = .ok (.if_icmp .ge 51, 3) := by decide +kernel
theorem z4_19 {st : List Value} {w : pm_H} {pl : pm_L} {x0 x1 : Int32} : pm_ev 4 19 pl (.int x1 :: .int x0 :: st) w = if x0 < x1 then pm_ev 4 22 pl st w else pm_ev 4 70 pl st w := pm_nin (c := x1 ≤ x0) pt_4 d4_19 rfl rfl rfl pm_ge
theorem d4_22 : decode cX0_settle 22 = .ok (.aload_n 0, 1) := by decide +kernel
theorem z4_22 {st : List Value} {w : pm_H} {b1 b2 b3 b4 b5 b6 : Option Value} {x0 : Nat} : pm_ev 4 22 [some (.ref x0), b1, b2, b3, b4, b5, b6] st w = pm_ev 4 23 [some (.ref x0), b1, b2, b3, b4, b5, b6] (.ref x0 :: st) w := pm_ny pt_4 d4_22 rfl rfl rfl
theorem d4_23 : decode cX0_settle 23 = .ok (.getfield 25, 3) := by decide +kernel
theorem z4_23 {st : List Value} {w : pm_H} {pl : pm_L} {x0 : Nat} : pm_ev 4 23 pl (.ref x0 :: st) w = pm_kv 4 26 pl st w (pm_gf (w x0) 0 7) := pm_ng pt_4 pt_F_0_25 d4_23
theorem d4_26 : decode cX0_settle 26 = .ok (.iload 5, 2) := by decide +kernel
theorem z4_26 {st : List Value} {w : pm_H} {b0 b1 b2 b3 b4 b6 : Option Value} {x0 : Int32} : pm_ev 4 26 [b0, b1, b2, b3, b4, some (.int x0), b6] st w = pm_ev 4 28 [b0, b1, b2, b3, b4, some (.int x0), b6] (.int x0 :: st) w := pm_ny pt_4 d4_26 rfl rfl rfl
theorem d4_28 : decode cX0_settle 28 = .ok (.iaload, 1) := by decide +kernel
theorem z4_28 {st : List Value} {w : pm_H} {pl : pm_L} {x0 : Nat} {x1 : Int32} : pm_ev 4 28 pl (.int x1 :: .ref x0 :: st) w = pm_kv 4 29 pl st w (pm_ia (w x0) 0 x1) := pm_nia pt_4 d4_28
theorem d4_29 : decode cX0_settle 29 = .ok (.istore 6, 2) := by decide +kernel
theorem z4_29 {st : List Value} {w : pm_H} {b0 b1 b2 b3 b4 b6 : Option Value} {x0 : Int32} {x9 : Int32} : pm_ev 4 29 [b0, b1, b2, b3, b4, some (.int x9), b6] (.int x0 :: st) w = pm_ev 4 31 [b0, b1, b2, b3, b4, some (.int x9), some (.int x0)] st w := pm_ny pt_4 d4_29 rfl rfl rfl
theorem d4_31 : decode cX0_settle 31 = .ok (.aload_n 0, 1) := by decide +kernel
theorem z4_31 {st : List Value} {w : pm_H} {b1 b2 b3 b4 b5 b6 : Option Value} {x0 : Nat} : pm_ev 4 31 [some (.ref x0), b1, b2, b3, b4, b5, b6] st w = pm_ev 4 32 [some (.ref x0), b1, b2, b3, b4, b5, b6] (.ref x0 :: st) w := pm_ny pt_4 d4_31 rfl rfl rfl
theorem d4_32 : decode cX0_settle 32 = .ok (.getfield 22, 3) := by decide +kernel
theorem z4_32 {st : List Value} {w : pm_H} {pl : pm_L} {x0 : Nat} : pm_ev 4 32 pl (.ref x0 :: st) w = pm_kv 4 35 pl st w (pm_gf (w x0) 0 6) := pm_ng pt_4 pt_F_0_22 d4_32
theorem d4_35 : decode cX0_settle 35 = .ok (.iload 6, 2) := by decide +kernel
theorem z4_35 {st : List Value} {w : pm_H} {b0 b1 b2 b3 b4 b5 : Option Value} {x0 : Int32} : pm_ev 4 35 [b0, b1, b2, b3, b4, b5, some (.int x0)] st w = pm_ev 4 37 [b0, b1, b2, b3, b4, b5, some (.int x0)] (.int x0 :: st) w := pm_ny pt_4 d4_35 rfl rfl rfl
theorem d4_37 : decode cX0_settle 37 = .ok (.laload, 1) := by decide +kernel
theorem z4_37 {st : List Value} {w : pm_H} {pl : pm_L} {x0 : Nat} {x1 : Int32} : pm_ev 4 37 pl (.int x1 :: .ref x0 :: st) w = pm_kv 4 38 pl st w (pm_la (w x0) x1) := pm_nla pt_4 d4_37
theorem d4_38 : decode cX0_settle 38 = .ok (.lload_n 3, 1) := by decide +kernel
theorem z4_38 {st : List Value} {w : pm_H} {b0 b1 b2 b4 b5 b6 : Option Value} {x0 : Int64} : pm_ev 4 38 [b0, b1, b2, some (.long x0), b4, b5, b6] st w = pm_ev 4 39 [b0, b1, b2, some (.long x0), b4, b5, b6] (.long x0 :: st) w := pm_ny pt_4 d4_38 rfl rfl rfl
theorem d4_39 : decode cX0_settle 39 = .ok (.lcmp, 1) := by decide +kernel
theorem z4_39 {st : List Value} {w : pm_H} {pl : pm_L} {x0 x1 : Int64} : pm_ev 4 39 pl (.long x1 :: .long x0 :: st) w = pm_ev 4 40 pl (.int (lg_cmp x0 x1) :: st) w := pm_ny pt_4 d4_39 rfl rfl rfl
theorem d4_40 : decode cX0_settle 40 = .ok (.ifCond .gt 24, 3) := by decide +kernel
theorem z4_40 {st : List Value} {w : pm_H} {pl : pm_L} {x0 : Int32} : pm_ev 4 40 pl (.int x0 :: st) w = if 0 < x0 then pm_ev 4 64 pl st w else pm_ev 4 43 pl st w := pm_nif pt_4 d4_40 rfl rfl rfl
theorem d4_43 : decode cX0_settle 43 = .ok (.aload_n 0, 1) := by decide +kernel
theorem z4_43 {st : List Value} {w : pm_H} {b1 b2 b3 b4 b5 b6 : Option Value} {x0 : Nat} : pm_ev 4 43 [some (.ref x0), b1, b2, b3, b4, b5, b6] st w = pm_ev 4 44 [some (.ref x0), b1, b2, b3, b4, b5, b6] (.ref x0 :: st) w := pm_ny pt_4 d4_43 rfl rfl rfl
theorem d4_44 : decode cX0_settle 44 = .ok (.getfield 9, 3) := by decide +kernel
theorem z4_44 {st : List Value} {w : pm_H} {pl : pm_L} {x0 : Nat} : pm_ev 4 44 pl (.ref x0 :: st) w = pm_kv 4 47 pl st w (pm_gf (w x0) 0 0) := pm_ng pt_4 pt_F_0_9 d4_44
theorem d4_47 : decode cX0_settle 47 = .ok (.aload_n 0, 1) := by decide +kernel
theorem z4_47 {st : List Value} {w : pm_H} {b1 b2 b3 b4 b5 b6 : Option Value} {x0 : Nat} : pm_ev 4 47 [some (.ref x0), b1, b2, b3, b4, b5, b6] st w = pm_ev 4 48 [some (.ref x0), b1, b2, b3, b4, b5, b6] (.ref x0 :: st) w := pm_ny pt_4 d4_47 rfl rfl rfl
theorem d4_48 : decode cX0_settle 48 = .ok (.getfield 77, 3) := by decide +kernel
theorem z4_48 {st : List Value} {w : pm_H} {pl : pm_L} {x0 : Nat} : pm_ev 4 48 pl (.ref x0 :: st) w = pm_kv 4 51 pl st w (pm_gf (w x0) 0 1) := pm_ng pt_4 pt_F_0_77 d4_48
theorem d4_51 : decode cX0_settle 51 = .ok (.iload 6, 2) := by decide +kernel
theorem z4_51 {st : List Value} {w : pm_H} {b0 b1 b2 b3 b4 b5 : Option Value} {x0 : Int32} : pm_ev 4 51 [b0, b1, b2, b3, b4, b5, some (.int x0)] st w = pm_ev 4 53 [b0, b1, b2, b3, b4, b5, some (.int x0)] (.int x0 :: st) w := pm_ny pt_4 d4_51 rfl rfl rfl
theorem d4_53 : decode cX0_settle 53 = .ok (.iastore, 1) := by decide +kernel
theorem z4_53 {st : List Value} {w : pm_H} {pl : pm_L} {x0 : Nat} {x1 : Int32} {x2 : Int32} : pm_ev 4 53 pl (.int x2 :: .int x1 :: .ref x0 :: st) w = pm_kw 4 54 pl st (pm_is w x0 (w x0) x1 x2) := pm_nis pt_4 d4_53
theorem d4_54 : decode cX0_settle 54 = .ok (.aload_n 0, 1) := by decide +kernel
theorem z4_54 {st : List Value} {w : pm_H} {b1 b2 b3 b4 b5 b6 : Option Value} {x0 : Nat} : pm_ev 4 54 [some (.ref x0), b1, b2, b3, b4, b5, b6] st w = pm_ev 4 55 [some (.ref x0), b1, b2, b3, b4, b5, b6] (.ref x0 :: st) w := pm_ny pt_4 d4_54 rfl rfl rfl
theorem d4_55 : decode cX0_settle 55 = .ok (.dup, 1) := by decide +kernel
theorem z4_55 {st : List Value} {w : pm_H} {pl : pm_L} {x0 : Nat} : pm_ev 4 55 pl (.ref x0 :: st) w = pm_ev 4 56 pl (.ref x0 :: .ref x0 :: st) w := pm_ny pt_4 d4_55 rfl rfl rfl
theorem d4_56 : decode cX0_settle 56 = .ok (.getfield 77, 3) := by decide +kernel
theorem z4_56 {st : List Value} {w : pm_H} {pl : pm_L} {x0 : Nat} : pm_ev 4 56 pl (.ref x0 :: st) w = pm_kv 4 59 pl st w (pm_gf (w x0) 0 1) := pm_ng pt_4 pt_F_0_77 d4_56
theorem d4_59 : decode cX0_settle 59 = .ok (.iconst 1, 1) := by decide +kernel
theorem z4_59 {st : List Value} {w : pm_H} {pl : pm_L} : pm_ev 4 59 pl st w = pm_ev 4 60 pl (.int 1 :: st) w := pm_ny pt_4 d4_59 rfl rfl rfl
theorem d4_60 : decode cX0_settle 60 = .ok (.iadd, 1) := by decide +kernel
theorem z4_60 {st : List Value} {w : pm_H} {pl : pm_L} {x0 x1 : Int32} : pm_ev 4 60 pl (.int x1 :: .int x0 :: st) w = pm_ev 4 61 pl (.int (x0 + x1) :: st) w := pm_ny pt_4 d4_60 rfl rfl rfl
theorem d4_61 : decode cX0_settle 61 = .ok (.putfield 77, 3) := by decide +kernel
theorem z4_61 {st : List Value} {w : pm_H} {pl : pm_L} {x0 : Nat} {x1 : Int32} : pm_ev 4 61 pl (.int x1 :: .ref x0 :: st) w = pm_kw 4 64 pl st (pm_pf w x0 (w x0) 0 1 0 (.int x1)) := pm_np pt_4 pt_F_0_77 d4_61
theorem d4_64 : decode cX0_settle 64 = .ok (.iinc 5 1, 3) := by decide +kernel
theorem z4_64 {st : List Value} {w : pm_H} {b0 b1 b2 b3 b6 : Option Value} {x0 : Int32} : pm_ev 4 64 [b0, b1, b2, b3, none, some (.int x0), b6] st w = pm_ev 4 67 [b0, b1, b2, b3, none, some (.int (x0 + 1)), b6] st w := pm_ny pt_4 d4_64 rfl rfl rfl
theorem d4_67 : decode cX0_settle 67 = .ok (.goto (-54), 3) := by decide +kernel
theorem z4_67 {st : List Value} {w : pm_H} {pl : pm_L} : pm_ev 4 67 pl st w = pm_ev 4 13 pl st w := pm_ny pt_4 d4_67 rfl rfl rfl
theorem d4_70 : decode cX0_settle 70 = .ok (.aload_n 0, 1) := by decide +kernel
theorem z4_70 {st : List Value} {w : pm_H} {b1 b2 b3 b4 b5 b6 : Option Value} {x0 : Nat} : pm_ev 4 70 [some (.ref x0), b1, b2, b3, b4, b5, b6] st w = pm_ev 4 71 [some (.ref x0), b1, b2, b3, b4, b5, b6] (.ref x0 :: st) w := pm_ny pt_4 d4_70 rfl rfl rfl
theorem d4_71 : decode cX0_settle 71 = .ok (.invokevirtual 80, 3) := by decide +kernel
theorem z4_71 {w : pm_H} {b0 b1 b2 b3 b4 b5 b6 : Option Value} {x0 : Nat} : pm_ev 4 71 [b0, b1, b2, b3, b4, b5, b6] [.ref x0] w = pm_k 4 74 [b0, b1, b2, b3, b4, b5, b6] [] (pm_vc (w x0) 0 (pm_call 5 [.ref x0] w)) := pm_nv pt_4 pt_5 pt_M_0_80 d4_71 ⟨rfl, rfl⟩ ⟨⟨rfl, Nat.le_of_ble_eq_true rfl, Nat.le_of_ble_eq_true rfl, Nat.le_of_ble_eq_true rfl, Nat.le_of_ble_eq_true rfl⟩, rfl⟩
theorem d4_74 : decode cX0_settle 74 = .ok (.return_, 1) := by decide +kernel
theorem z4_74 {w : pm_H} {pl : pm_L} : pm_ev 4 74 pl [] w = some (none, w) := pm_nr pt_4 d4_74 rfl
theorem d5_0 : decode cX0_takeIn 0 = .ok (.aload_n 0, 1) := by decide +kernel
theorem z5_0 {st : List Value} {w : pm_H} {b1 b2 b3 b4 b5 b6 b7 b8 b9 b10 : Option Value} {x0 : Nat} : pm_ev 5 0 [some (.ref x0), b1, b2, b3, b4, b5, b6, b7, b8, b9, b10] st w = pm_ev 5 1 [some (.ref x0), b1, b2, b3, b4, b5, b6, b7, b8, b9, b10] (.ref x0 :: st) w := pm_ny pt_5 d5_0 rfl rfl rfl
theorem d5_1 : decode cX0_takeIn 1 = .ok (.getfield 74, 3) := by decide +kernel
theorem z5_1 {st : List Value} {w : pm_H} {pl : pm_L} {x0 : Nat} : pm_ev 5 1 pl (.ref x0 :: st) w = pm_kv 5 4 pl st w (pm_gf (w x0) 0 11) := pm_ng pt_5 pt_F_0_74 d5_1
theorem d5_4 : decode cX0_takeIn 4 = .ok (.lstore_n 1, 1) := by decide +kernel
theorem z5_4 {st : List Value} {w : pm_H} {b1 b2 b3 b4 b5 b6 b7 b8 b9 b10 : Option Value} {x0 : Int64} {x9 : Nat} : pm_ev 5 4 [some (.ref x9), b1, b2, b3, b4, b5, b6, b7, b8, b9, b10] (.long x0 :: st) w = pm_ev 5 5 [some (.ref x9), some (.long x0), none, b3, b4, b5, b6, b7, b8, b9, b10] st w := pm_ny pt_5 d5_4 rfl rfl rfl
theorem d5_5 : decode cX0_takeIn 5 = .ok (.aload_n 0, 1) := by decide +kernel
theorem z5_5 {st : List Value} {w : pm_H} {b1 b2 b3 b4 b5 b6 b7 b8 b9 b10 : Option Value} {x0 : Nat} : pm_ev 5 5 [some (.ref x0), b1, b2, b3, b4, b5, b6, b7, b8, b9, b10] st w = pm_ev 5 6 [some (.ref x0), b1, b2, b3, b4, b5, b6, b7, b8, b9, b10] (.ref x0 :: st) w := pm_ny pt_5 d5_5 rfl rfl rfl
theorem d5_6 : decode cX0_takeIn 6 = .ok (.getfield 49, 3) := by decide +kernel
theorem z5_6 {st : List Value} {w : pm_H} {pl : pm_L} {x0 : Nat} : pm_ev 5 6 pl (.ref x0 :: st) w = pm_kv 5 9 pl st w (pm_gf (w x0) 0 10) := pm_ng pt_5 pt_F_0_49 d5_6
theorem d5_9 : decode cX0_takeIn 9 = .ok (.lstore_n 3, 1) := by decide +kernel
theorem z5_9 {st : List Value} {w : pm_H} {b0 b1 b3 b4 b5 b6 b7 b8 b9 b10 : Option Value} {x0 : Int64} : pm_ev 5 9 [b0, b1, none, b3, b4, b5, b6, b7, b8, b9, b10] (.long x0 :: st) w = pm_ev 5 10 [b0, b1, none, some (.long x0), none, b5, b6, b7, b8, b9, b10] st w := pm_ny pt_5 d5_9 rfl rfl rfl
theorem d5_10 : decode cX0_takeIn 10 = .ok (.aload_n 0, 1) := by decide +kernel
theorem z5_10 {st : List Value} {w : pm_H} {b1 b2 b3 b4 b5 b6 b7 b8 b9 b10 : Option Value} {x0 : Nat} : pm_ev 5 10 [some (.ref x0), b1, b2, b3, b4, b5, b6, b7, b8, b9, b10] st w = pm_ev 5 11 [some (.ref x0), b1, b2, b3, b4, b5, b6, b7, b8, b9, b10] (.ref x0 :: st) w := pm_ny pt_5 d5_10 rfl rfl rfl
theorem d5_11 : decode cX0_takeIn 11 = .ok (.iconst 0, 1) := by decide +kernel
theorem z5_11 {st : List Value} {w : pm_H} {pl : pm_L} : pm_ev 5 11 pl st w = pm_ev 5 12 pl (.int 0 :: st) w := pm_ny pt_5 d5_11 rfl rfl rfl
theorem d5_12 : decode cX0_takeIn 12 = .ok (.putfield 83, 3) := by decide +kernel
theorem z5_12 {st : List Value} {w : pm_H} {pl : pm_L} {x0 : Nat} {x1 : Int32} : pm_ev 5 12 pl (.int x1 :: .ref x0 :: st) w = pm_kw 5 15 pl st (pm_pf w x0 (w x0) 0 2 0 (.int x1)) := pm_np pt_5 pt_F_0_83 d5_12
theorem d5_15 : decode cX0_takeIn 15 = .ok (.aload_n 0, 1) := by decide +kernel
theorem z5_15 {st : List Value} {w : pm_H} {b1 b2 b3 b4 b5 b6 b7 b8 b9 b10 : Option Value} {x0 : Nat} : pm_ev 5 15 [some (.ref x0), b1, b2, b3, b4, b5, b6, b7, b8, b9, b10] st w = pm_ev 5 16 [some (.ref x0), b1, b2, b3, b4, b5, b6, b7, b8, b9, b10] (.ref x0 :: st) w := pm_ny pt_5 d5_15 rfl rfl rfl
theorem d5_16 : decode cX0_takeIn 16 = .ok (.iconst (-1), 1) := by decide +kernel
theorem z5_16 {st : List Value} {w : pm_H} {pl : pm_L} : pm_ev 5 16 pl st w = pm_ev 5 17 pl (.int (-1) :: st) w := pm_ny pt_5 d5_16 rfl rfl rfl
theorem d5_17 : decode cX0_takeIn 17 = .ok (.putfield 98, 3) := by decide +kernel
theorem z5_17 {st : List Value} {w : pm_H} {pl : pm_L} {x0 : Nat} {x1 : Int32} : pm_ev 5 17 pl (.int x1 :: .ref x0 :: st) w = pm_kw 5 20 pl st (pm_pf w x0 (w x0) 0 3 0 (.int x1)) := pm_np pt_5 pt_F_0_98 d5_17
theorem d5_20 : decode cX0_takeIn 20 = .ok (.iconst 0, 1) := by decide +kernel
theorem z5_20 {st : List Value} {w : pm_H} {pl : pm_L} : pm_ev 5 20 pl st w = pm_ev 5 21 pl (.int 0 :: st) w := pm_ny pt_5 d5_20 rfl rfl rfl
theorem d5_21 : decode cX0_takeIn 21 = .ok (.istore 5, 2) := by decide +kernel
theorem z5_21 {st : List Value} {w : pm_H} {b0 b1 b2 b3 b5 b6 b7 b8 b9 b10 : Option Value} {x0 : Int32} : pm_ev 5 21 [b0, b1, b2, b3, none, b5, b6, b7, b8, b9, b10] (.int x0 :: st) w = pm_ev 5 23 [b0, b1, b2, b3, none, some (.int x0), b6, b7, b8, b9, b10] st w := pm_ny pt_5 d5_21 rfl rfl rfl
theorem d5_23 : decode cX0_takeIn 23 = .ok (.iload 5, 2) := by decide +kernel
theorem z5_23 {st : List Value} {w : pm_H} {b0 b1 b2 b3 b4 b6 b7 b8 b9 b10 : Option Value} {x0 : Int32} : pm_ev 5 23 [b0, b1, b2, b3, b4, some (.int x0), b6, b7, b8, b9, b10] st w = pm_ev 5 25 [b0, b1, b2, b3, b4, some (.int x0), b6, b7, b8, b9, b10] (.int x0 :: st) w := pm_ny pt_5 d5_23 rfl rfl rfl
theorem d5_25 : decode cX0_takeIn 25 = .ok (.aload_n 0, 1) := by decide +kernel
theorem z5_25 {st : List Value} {w : pm_H} {b1 b2 b3 b4 b5 b6 b7 b8 b9 b10 : Option Value} {x0 : Nat} : pm_ev 5 25 [some (.ref x0), b1, b2, b3, b4, b5, b6, b7, b8, b9, b10] st w = pm_ev 5 26 [some (.ref x0), b1, b2, b3, b4, b5, b6, b7, b8, b9, b10] (.ref x0 :: st) w := pm_ny pt_5 d5_25 rfl rfl rfl
theorem d5_26 : decode cX0_takeIn 26 = .ok (.getfield 77, 3) := by decide +kernel
theorem z5_26 {st : List Value} {w : pm_H} {pl : pm_L} {x0 : Nat} : pm_ev 5 26 pl (.ref x0 :: st) w = pm_kv 5 29 pl st w (pm_gf (w x0) 0 1) := pm_ng pt_5 pt_F_0_77 d5_26
theorem d5_29 : decode cX0_takeIn 29 = .ok (.if_icmp .ge 88, 3) := by decide +kernel
theorem z5_29 {st : List Value} {w : pm_H} {pl : pm_L} {x0 x1 : Int32} : pm_ev 5 29 pl (.int x1 :: .int x0 :: st) w = if x0 < x1 then pm_ev 5 32 pl st w else pm_ev 5 117 pl st w := pm_nin (c := x1 ≤ x0) pt_5 d5_29 rfl rfl rfl pm_ge
theorem d5_32 : decode cX0_takeIn 32 = .ok (.aload_n 0, 1) := by decide +kernel
theorem z5_32 {st : List Value} {w : pm_H} {b1 b2 b3 b4 b5 b6 b7 b8 b9 b10 : Option Value} {x0 : Nat} : pm_ev 5 32 [some (.ref x0), b1, b2, b3, b4, b5, b6, b7, b8, b9, b10] st w = pm_ev 5 33 [some (.ref x0), b1, b2, b3, b4, b5, b6, b7, b8, b9, b10] (.ref x0 :: st) w := pm_ny pt_5 d5_32 rfl rfl rfl
theorem d5_33 : decode cX0_takeIn 33 = .ok (.getfield 98, 3) := by decide +kernel
theorem z5_33 {st : List Value} {w : pm_H} {pl : pm_L} {x0 : Nat} : pm_ev 5 33 pl (.ref x0 :: st) w = pm_kv 5 36 pl st w (pm_gf (w x0) 0 3) := pm_ng pt_5 pt_F_0_98 d5_33
theorem d5_36 : decode cX0_takeIn 36 = .ok (.iconst (-1), 1) := by decide +kernel
theorem z5_36 {st : List Value} {w : pm_H} {pl : pm_L} : pm_ev 5 36 pl st w = pm_ev 5 37 pl (.int (-1) :: st) w := pm_ny pt_5 d5_36 rfl rfl rfl
theorem d5_37 : decode cX0_takeIn 37 = .ok (.if_icmp .ne 80, 3) := by decide +kernel
theorem z5_37 {st : List Value} {w : pm_H} {pl : pm_L} {x0 x1 : Int32} : pm_ev 5 37 pl (.int x1 :: .int x0 :: st) w = if x0 = x1 then pm_ev 5 40 pl st w else pm_ev 5 117 pl st w := pm_nin (c := ¬ x0 = x1) pt_5 d5_37 rfl rfl rfl Iff.rfl
theorem d5_40 : decode cX0_takeIn 40 = .ok (.aload_n 0, 1) := by decide +kernel
theorem z5_40 {st : List Value} {w : pm_H} {b1 b2 b3 b4 b5 b6 b7 b8 b9 b10 : Option Value} {x0 : Nat} : pm_ev 5 40 [some (.ref x0), b1, b2, b3, b4, b5, b6, b7, b8, b9, b10] st w = pm_ev 5 41 [some (.ref x0), b1, b2, b3, b4, b5, b6, b7, b8, b9, b10] (.ref x0 :: st) w := pm_ny pt_5 d5_40 rfl rfl rfl
theorem d5_41 : decode cX0_takeIn 41 = .ok (.getfield 9, 3) := by decide +kernel
theorem z5_41 {st : List Value} {w : pm_H} {pl : pm_L} {x0 : Nat} : pm_ev 5 41 pl (.ref x0 :: st) w = pm_kv 5 44 pl st w (pm_gf (w x0) 0 0) := pm_ng pt_5 pt_F_0_9 d5_41
theorem d5_44 : decode cX0_takeIn 44 = .ok (.iload 5, 2) := by decide +kernel
theorem z5_44 {st : List Value} {w : pm_H} {b0 b1 b2 b3 b4 b6 b7 b8 b9 b10 : Option Value} {x0 : Int32} : pm_ev 5 44 [b0, b1, b2, b3, b4, some (.int x0), b6, b7, b8, b9, b10] st w = pm_ev 5 46 [b0, b1, b2, b3, b4, some (.int x0), b6, b7, b8, b9, b10] (.int x0 :: st) w := pm_ny pt_5 d5_44 rfl rfl rfl
theorem d5_46 : decode cX0_takeIn 46 = .ok (.iaload, 1) := by decide +kernel
theorem z5_46 {st : List Value} {w : pm_H} {pl : pm_L} {x0 : Nat} {x1 : Int32} : pm_ev 5 46 pl (.int x1 :: .ref x0 :: st) w = pm_kv 5 47 pl st w (pm_ia (w x0) 0 x1) := pm_nia pt_5 d5_46
theorem d5_47 : decode cX0_takeIn 47 = .ok (.istore 6, 2) := by decide +kernel
theorem z5_47 {st : List Value} {w : pm_H} {b0 b1 b2 b3 b4 b6 b7 b8 b9 b10 : Option Value} {x0 : Int32} {x9 : Int32} : pm_ev 5 47 [b0, b1, b2, b3, b4, some (.int x9), b6, b7, b8, b9, b10] (.int x0 :: st) w = pm_ev 5 49 [b0, b1, b2, b3, b4, some (.int x9), some (.int x0), b7, b8, b9, b10] st w := pm_ny pt_5 d5_47 rfl rfl rfl
theorem d5_49 : decode cX0_takeIn 49 = .ok (.lload_n 1, 1) := by decide +kernel
theorem z5_49 {st : List Value} {w : pm_H} {b0 b2 b3 b4 b5 b6 b7 b8 b9 b10 : Option Value} {x0 : Int64} : pm_ev 5 49 [b0, some (.long x0), b2, b3, b4, b5, b6, b7, b8, b9, b10] st w = pm_ev 5 50 [b0, some (.long x0), b2, b3, b4, b5, b6, b7, b8, b9, b10] (.long x0 :: st) w := pm_ny pt_5 d5_49 rfl rfl rfl
theorem d5_50 : decode cX0_takeIn 50 = .ok (.aload_n 0, 1) := by decide +kernel
theorem z5_50 {st : List Value} {w : pm_H} {b1 b2 b3 b4 b5 b6 b7 b8 b9 b10 : Option Value} {x0 : Nat} : pm_ev 5 50 [some (.ref x0), b1, b2, b3, b4, b5, b6, b7, b8, b9, b10] st w = pm_ev 5 51 [some (.ref x0), b1, b2, b3, b4, b5, b6, b7, b8, b9, b10] (.ref x0 :: st) w := pm_ny pt_5 d5_50 rfl rfl rfl
theorem d5_51 : decode cX0_takeIn 51 = .ok (.getfield 19, 3) := by decide +kernel
theorem z5_51 {st : List Value} {w : pm_H} {pl : pm_L} {x0 : Nat} : pm_ev 5 51 pl (.ref x0 :: st) w = pm_kv 5 54 pl st w (pm_gf (w x0) 0 5) := pm_ng pt_5 pt_F_0_19 d5_51
theorem d5_54 : decode cX0_takeIn 54 = .ok (.iload 6, 2) := by decide +kernel
theorem z5_54 {st : List Value} {w : pm_H} {b0 b1 b2 b3 b4 b5 b7 b8 b9 b10 : Option Value} {x0 : Int32} : pm_ev 5 54 [b0, b1, b2, b3, b4, b5, some (.int x0), b7, b8, b9, b10] st w = pm_ev 5 56 [b0, b1, b2, b3, b4, b5, some (.int x0), b7, b8, b9, b10] (.int x0 :: st) w := pm_ny pt_5 d5_54 rfl rfl rfl
theorem d5_56 : decode cX0_takeIn 56 = .ok (.laload, 1) := by decide +kernel
theorem z5_56 {st : List Value} {w : pm_H} {pl : pm_L} {x0 : Nat} {x1 : Int32} : pm_ev 5 56 pl (.int x1 :: .ref x0 :: st) w = pm_kv 5 57 pl st w (pm_la (w x0) x1) := pm_nla pt_5 d5_56
theorem d5_57 : decode cX0_takeIn 57 = .ok (.ladd, 1) := by decide +kernel
theorem z5_57 {st : List Value} {w : pm_H} {pl : pm_L} {x0 x1 : Int64} : pm_ev 5 57 pl (.long x1 :: .long x0 :: st) w = pm_ev 5 58 pl (.long (x0 + x1) :: st) w := pm_ny pt_5 d5_57 rfl rfl rfl
theorem d5_58 : decode cX0_takeIn 58 = .ok (.lstore 7, 2) := by decide +kernel
theorem z5_58 {st : List Value} {w : pm_H} {b0 b1 b2 b3 b4 b5 b7 b8 b9 b10 : Option Value} {x0 : Int64} {x9 : Int32} : pm_ev 5 58 [b0, b1, b2, b3, b4, b5, some (.int x9), b7, b8, b9, b10] (.long x0 :: st) w = pm_ev 5 60 [b0, b1, b2, b3, b4, b5, some (.int x9), some (.long x0), none, b9, b10] st w := pm_ny pt_5 d5_58 rfl rfl rfl
theorem d5_60 : decode cX0_takeIn 60 = .ok (.lload_n 3, 1) := by decide +kernel
theorem z5_60 {st : List Value} {w : pm_H} {b0 b1 b2 b4 b5 b6 b7 b8 b9 b10 : Option Value} {x0 : Int64} : pm_ev 5 60 [b0, b1, b2, some (.long x0), b4, b5, b6, b7, b8, b9, b10] st w = pm_ev 5 61 [b0, b1, b2, some (.long x0), b4, b5, b6, b7, b8, b9, b10] (.long x0 :: st) w := pm_ny pt_5 d5_60 rfl rfl rfl
theorem d5_61 : decode cX0_takeIn 61 = .ok (.aload_n 0, 1) := by decide +kernel
theorem z5_61 {st : List Value} {w : pm_H} {b1 b2 b3 b4 b5 b6 b7 b8 b9 b10 : Option Value} {x0 : Nat} : pm_ev 5 61 [some (.ref x0), b1, b2, b3, b4, b5, b6, b7, b8, b9, b10] st w = pm_ev 5 62 [some (.ref x0), b1, b2, b3, b4, b5, b6, b7, b8, b9, b10] (.ref x0 :: st) w := pm_ny pt_5 d5_61 rfl rfl rfl
theorem d5_62 : decode cX0_takeIn 62 = .ok (.getfield 15, 3) := by decide +kernel
theorem z5_62 {st : List Value} {w : pm_H} {pl : pm_L} {x0 : Nat} : pm_ev 5 62 pl (.ref x0 :: st) w = pm_kv 5 65 pl st w (pm_gf (w x0) 0 4) := pm_ng pt_5 pt_F_0_15 d5_62
theorem d5_65 : decode cX0_takeIn 65 = .ok (.iload 6, 2) := by decide +kernel
theorem z5_65 {st : List Value} {w : pm_H} {b0 b1 b2 b3 b4 b5 b7 b8 b9 b10 : Option Value} {x0 : Int32} : pm_ev 5 65 [b0, b1, b2, b3, b4, b5, some (.int x0), b7, b8, b9, b10] st w = pm_ev 5 67 [b0, b1, b2, b3, b4, b5, some (.int x0), b7, b8, b9, b10] (.int x0 :: st) w := pm_ny pt_5 d5_65 rfl rfl rfl
theorem d5_67 : decode cX0_takeIn 67 = .ok (.laload, 1) := by decide +kernel
theorem z5_67 {st : List Value} {w : pm_H} {pl : pm_L} {x0 : Nat} {x1 : Int32} : pm_ev 5 67 pl (.int x1 :: .ref x0 :: st) w = pm_kv 5 68 pl st w (pm_la (w x0) x1) := pm_nla pt_5 d5_67
theorem d5_68 : decode cX0_takeIn 68 = .ok (.ladd, 1) := by decide +kernel
theorem z5_68 {st : List Value} {w : pm_H} {pl : pm_L} {x0 x1 : Int64} : pm_ev 5 68 pl (.long x1 :: .long x0 :: st) w = pm_ev 5 69 pl (.long (x0 + x1) :: st) w := pm_ny pt_5 d5_68 rfl rfl rfl
theorem d5_69 : decode cX0_takeIn 69 = .ok (.lstore 9, 2) := by decide +kernel
theorem z5_69 {st : List Value} {w : pm_H} {b0 b1 b2 b3 b4 b5 b6 b7 b9 b10 : Option Value} {x0 : Int64} : pm_ev 5 69 [b0, b1, b2, b3, b4, b5, b6, b7, none, b9, b10] (.long x0 :: st) w = pm_ev 5 71 [b0, b1, b2, b3, b4, b5, b6, b7, none, some (.long x0), none] st w := pm_ny pt_5 d5_69 rfl rfl rfl
theorem d5_71 : decode cX0_takeIn 71 = .ok (.lload 7, 2) := by decide +kernel
theorem z5_71 {st : List Value} {w : pm_H} {b0 b1 b2 b3 b4 b5 b6 b8 b9 b10 : Option Value} {x0 : Int64} : pm_ev 5 71 [b0, b1, b2, b3, b4, b5, b6, some (.long x0), b8, b9, b10] st w = pm_ev 5 73 [b0, b1, b2, b3, b4, b5, b6, some (.long x0), b8, b9, b10] (.long x0 :: st) w := pm_ny pt_5 d5_71 rfl rfl rfl
theorem d5_73 : decode cX0_takeIn 73 = .ok (.lload_n 3, 1) := by decide +kernel
theorem z5_73 {st : List Value} {w : pm_H} {b0 b1 b2 b4 b5 b6 b7 b8 b9 b10 : Option Value} {x0 : Int64} : pm_ev 5 73 [b0, b1, b2, some (.long x0), b4, b5, b6, b7, b8, b9, b10] st w = pm_ev 5 74 [b0, b1, b2, some (.long x0), b4, b5, b6, b7, b8, b9, b10] (.long x0 :: st) w := pm_ny pt_5 d5_73 rfl rfl rfl
theorem d5_74 : decode cX0_takeIn 74 = .ok (.lmul, 1) := by decide +kernel
theorem z5_74 {st : List Value} {w : pm_H} {pl : pm_L} {x0 x1 : Int64} : pm_ev 5 74 pl (.long x1 :: .long x0 :: st) w = pm_ev 5 75 pl (.long (x0 * x1) :: st) w := pm_ny pt_5 d5_74 rfl rfl rfl
theorem d5_75 : decode cX0_takeIn 75 = .ok (.lload_n 1, 1) := by decide +kernel
theorem z5_75 {st : List Value} {w : pm_H} {b0 b2 b3 b4 b5 b6 b7 b8 b9 b10 : Option Value} {x0 : Int64} : pm_ev 5 75 [b0, some (.long x0), b2, b3, b4, b5, b6, b7, b8, b9, b10] st w = pm_ev 5 76 [b0, some (.long x0), b2, b3, b4, b5, b6, b7, b8, b9, b10] (.long x0 :: st) w := pm_ny pt_5 d5_75 rfl rfl rfl
theorem d5_76 : decode cX0_takeIn 76 = .ok (.lload 9, 2) := by decide +kernel
theorem z5_76 {st : List Value} {w : pm_H} {b0 b1 b2 b3 b4 b5 b6 b7 b8 b10 : Option Value} {x0 : Int64} : pm_ev 5 76 [b0, b1, b2, b3, b4, b5, b6, b7, b8, some (.long x0), b10] st w = pm_ev 5 78 [b0, b1, b2, b3, b4, b5, b6, b7, b8, some (.long x0), b10] (.long x0 :: st) w := pm_ny pt_5 d5_76 rfl rfl rfl
theorem d5_78 : decode cX0_takeIn 78 = .ok (.lmul, 1) := by decide +kernel
theorem z5_78 {st : List Value} {w : pm_H} {pl : pm_L} {x0 x1 : Int64} : pm_ev 5 78 pl (.long x1 :: .long x0 :: st) w = pm_ev 5 79 pl (.long (x0 * x1) :: st) w := pm_ny pt_5 d5_78 rfl rfl rfl
theorem d5_79 : decode cX0_takeIn 79 = .ok (.lcmp, 1) := by decide +kernel
theorem z5_79 {st : List Value} {w : pm_H} {pl : pm_L} {x0 x1 : Int64} : pm_ev 5 79 pl (.long x1 :: .long x0 :: st) w = pm_ev 5 80 pl (.int (lg_cmp x0 x1) :: st) w := pm_ny pt_5 d5_79 rfl rfl rfl
theorem d5_80 : decode cX0_takeIn 80 = .ok (.ifCond .ge 25, 3) := by decide +kernel
theorem z5_80 {st : List Value} {w : pm_H} {pl : pm_L} {x0 : Int32} : pm_ev 5 80 pl (.int x0 :: st) w = if x0 < 0 then pm_ev 5 83 pl st w else pm_ev 5 105 pl st w := pm_nin (c := 0 ≤ x0) pt_5 d5_80 rfl rfl rfl pm_ge
theorem d5_83 : decode cX0_takeIn 83 = .ok (.lload 7, 2) := by decide +kernel
theorem z5_83 {st : List Value} {w : pm_H} {b0 b1 b2 b3 b4 b5 b6 b8 b9 b10 : Option Value} {x0 : Int64} : pm_ev 5 83 [b0, b1, b2, b3, b4, b5, b6, some (.long x0), b8, b9, b10] st w = pm_ev 5 85 [b0, b1, b2, b3, b4, b5, b6, some (.long x0), b8, b9, b10] (.long x0 :: st) w := pm_ny pt_5 d5_83 rfl rfl rfl
theorem d5_85 : decode cX0_takeIn 85 = .ok (.lstore_n 1, 1) := by decide +kernel
theorem z5_85 {st : List Value} {w : pm_H} {b1 b2 b3 b4 b5 b6 b7 b8 b9 b10 : Option Value} {x0 : Int64} {x9 : Nat} : pm_ev 5 85 [some (.ref x9), b1, b2, b3, b4, b5, b6, b7, b8, b9, b10] (.long x0 :: st) w = pm_ev 5 86 [some (.ref x9), some (.long x0), none, b3, b4, b5, b6, b7, b8, b9, b10] st w := pm_ny pt_5 d5_85 rfl rfl rfl
theorem d5_86 : decode cX0_takeIn 86 = .ok (.lload 9, 2) := by decide +kernel
theorem z5_86 {st : List Value} {w : pm_H} {b0 b1 b2 b3 b4 b5 b6 b7 b8 b10 : Option Value} {x0 : Int64} : pm_ev 5 86 [b0, b1, b2, b3, b4, b5, b6, b7, b8, some (.long x0), b10] st w = pm_ev 5 88 [b0, b1, b2, b3, b4, b5, b6, b7, b8, some (.long x0), b10] (.long x0 :: st) w := pm_ny pt_5 d5_86 rfl rfl rfl
theorem d5_88 : decode cX0_takeIn 88 = .ok (.lstore_n 3, 1) := by decide +kernel
theorem z5_88 {st : List Value} {w : pm_H} {b0 b1 b3 b4 b5 b6 b7 b8 b9 b10 : Option Value} {x0 : Int64} : pm_ev 5 88 [b0, b1, none, b3, b4, b5, b6, b7, b8, b9, b10] (.long x0 :: st) w = pm_ev 5 89 [b0, b1, none, some (.long x0), none, b5, b6, b7, b8, b9, b10] st w := pm_ny pt_5 d5_88 rfl rfl rfl
theorem d5_89 : decode cX0_takeIn 89 = .ok (.aload_n 0, 1) := by decide +kernel
theorem z5_89 {st : List Value} {w : pm_H} {b1 b2 b3 b4 b5 b6 b7 b8 b9 b10 : Option Value} {x0 : Nat} : pm_ev 5 89 [some (.ref x0), b1, b2, b3, b4, b5, b6, b7, b8, b9, b10] st w = pm_ev 5 90 [some (.ref x0), b1, b2, b3, b4, b5, b6, b7, b8, b9, b10] (.ref x0 :: st) w := pm_ny pt_5 d5_89 rfl rfl rfl
theorem d5_90 : decode cX0_takeIn 90 = .ok (.dup, 1) := by decide +kernel
theorem z5_90 {st : List Value} {w : pm_H} {pl : pm_L} {x0 : Nat} : pm_ev 5 90 pl (.ref x0 :: st) w = pm_ev 5 91 pl (.ref x0 :: .ref x0 :: st) w := pm_ny pt_5 d5_90 rfl rfl rfl
theorem d5_91 : decode cX0_takeIn 91 = .ok (.getfield 83, 3) := by decide +kernel
theorem z5_91 {st : List Value} {w : pm_H} {pl : pm_L} {x0 : Nat} : pm_ev 5 91 pl (.ref x0 :: st) w = pm_kv 5 94 pl st w (pm_gf (w x0) 0 2) := pm_ng pt_5 pt_F_0_83 d5_91
theorem d5_94 : decode cX0_takeIn 94 = .ok (.iconst 1, 1) := by decide +kernel
theorem z5_94 {st : List Value} {w : pm_H} {pl : pm_L} : pm_ev 5 94 pl st w = pm_ev 5 95 pl (.int 1 :: st) w := pm_ny pt_5 d5_94 rfl rfl rfl
theorem d5_95 : decode cX0_takeIn 95 = .ok (.iload 6, 2) := by decide +kernel
theorem z5_95 {st : List Value} {w : pm_H} {b0 b1 b2 b3 b4 b5 b7 b8 b9 b10 : Option Value} {x0 : Int32} : pm_ev 5 95 [b0, b1, b2, b3, b4, b5, some (.int x0), b7, b8, b9, b10] st w = pm_ev 5 97 [b0, b1, b2, b3, b4, b5, some (.int x0), b7, b8, b9, b10] (.int x0 :: st) w := pm_ny pt_5 d5_95 rfl rfl rfl
theorem d5_97 : decode cX0_takeIn 97 = .ok (.ishl, 1) := by decide +kernel
theorem z5_97 {st : List Value} {w : pm_H} {pl : pm_L} {x0 x1 : Int32} : pm_ev 5 97 pl (.int x1 :: .int x0 :: st) w = pm_ev 5 98 pl (.int (x0 <<< (x1 &&& 31)) :: st) w := pm_ny pt_5 d5_97 rfl rfl rfl
theorem d5_98 : decode cX0_takeIn 98 = .ok (.ior, 1) := by decide +kernel
theorem z5_98 {st : List Value} {w : pm_H} {pl : pm_L} {x0 x1 : Int32} : pm_ev 5 98 pl (.int x1 :: .int x0 :: st) w = pm_ev 5 99 pl (.int (x0 ||| x1) :: st) w := pm_ny pt_5 d5_98 rfl rfl rfl
theorem d5_99 : decode cX0_takeIn 99 = .ok (.putfield 83, 3) := by decide +kernel
theorem z5_99 {st : List Value} {w : pm_H} {pl : pm_L} {x0 : Nat} {x1 : Int32} : pm_ev 5 99 pl (.int x1 :: .ref x0 :: st) w = pm_kw 5 102 pl st (pm_pf w x0 (w x0) 0 2 0 (.int x1)) := pm_np pt_5 pt_F_0_83 d5_99
theorem d5_102 : decode cX0_takeIn 102 = .ok (.goto 9, 3) := by decide +kernel
theorem z5_102 {st : List Value} {w : pm_H} {pl : pm_L} : pm_ev 5 102 pl st w = pm_ev 5 111 pl st w := pm_ny pt_5 d5_102 rfl rfl rfl
theorem d5_105 : decode cX0_takeIn 105 = .ok (.aload_n 0, 1) := by decide +kernel
theorem z5_105 {st : List Value} {w : pm_H} {b1 b2 b3 b4 b5 b6 b7 b8 b9 b10 : Option Value} {x0 : Nat} : pm_ev 5 105 [some (.ref x0), b1, b2, b3, b4, b5, b6, b7, b8, b9, b10] st w = pm_ev 5 106 [some (.ref x0), b1, b2, b3, b4, b5, b6, b7, b8, b9, b10] (.ref x0 :: st) w := pm_ny pt_5 d5_105 rfl rfl rfl
theorem d5_106 : decode cX0_takeIn 106 = .ok (.iload 6, 2) := by decide +kernel
theorem z5_106 {st : List Value} {w : pm_H} {b0 b1 b2 b3 b4 b5 b7 b8 b9 b10 : Option Value} {x0 : Int32} : pm_ev 5 106 [b0, b1, b2, b3, b4, b5, some (.int x0), b7, b8, b9, b10] st w = pm_ev 5 108 [b0, b1, b2, b3, b4, b5, some (.int x0), b7, b8, b9, b10] (.int x0 :: st) w := pm_ny pt_5 d5_106 rfl rfl rfl
theorem d5_108 : decode cX0_takeIn 108 = .ok (.putfield 98, 3) := by decide +kernel
theorem z5_108 {st : List Value} {w : pm_H} {pl : pm_L} {x0 : Nat} {x1 : Int32} : pm_ev 5 108 pl (.int x1 :: .ref x0 :: st) w = pm_kw 5 111 pl st (pm_pf w x0 (w x0) 0 3 0 (.int x1)) := pm_np pt_5 pt_F_0_98 d5_108
theorem d5_111 : decode cX0_takeIn 111 = .ok (.iinc 5 1, 3) := by decide +kernel
theorem z5_111 {st : List Value} {w : pm_H} {b0 b1 b2 b3 b6 b7 b8 b9 b10 : Option Value} {x0 : Int32} : pm_ev 5 111 [b0, b1, b2, b3, none, some (.int x0), b6, b7, b8, b9, b10] st w = pm_ev 5 114 [b0, b1, b2, b3, none, some (.int (x0 + 1)), b6, b7, b8, b9, b10] st w := pm_ny pt_5 d5_111 rfl rfl rfl
theorem d5_114 : decode cX0_takeIn 114 = .ok (.goto (-91), 3) := by decide +kernel
theorem z5_114 {st : List Value} {w : pm_H} {pl : pm_L} : pm_ev 5 114 pl st w = pm_ev 5 23 pl st w := pm_ny pt_5 d5_114 rfl rfl rfl
theorem d5_117 : decode cX0_takeIn 117 = .ok (.return_, 1) := by decide +kernel
theorem z5_117 {w : pm_H} {pl : pm_L} : pm_ev 5 117 pl [] w = some (none, w) := pm_nr pt_5 d5_117 rfl
theorem d6_0 : decode cX0_aShareWith 0 = .ok (.lload_n 2, 1) := by decide +kernel
theorem z6_0 {st : List Value} {w : pm_H} {b0 b1 b3 b4 b5 b6 b7 b8 : Option Value} {x0 : Int64} : pm_ev 6 0 [b0, b1, some (.long x0), b3, b4, b5, b6, b7, b8] st w = pm_ev 6 1 [b0, b1, some (.long x0), b3, b4, b5, b6, b7, b8] (.long x0 :: st) w := pm_ny pt_6 d6_0 rfl rfl rfl
theorem d6_1 : decode cX0_aShareWith 1 = .ok (.lstore 4, 2) := by decide +kernel
theorem z6_1 {st : List Value} {w : pm_H} {b0 b1 b2 b4 b5 b6 b7 b8 : Option Value} {x0 : Int64} : pm_ev 6 1 [b0, b1, b2, none, b4, b5, b6, b7, b8] (.long x0 :: st) w = pm_ev 6 3 [b0, b1, b2, none, some (.long x0), none, b6, b7, b8] st w := pm_ny pt_6 d6_1 rfl rfl rfl
theorem d6_3 : decode cX0_aShareWith 3 = .ok (.aload_n 0, 1) := by decide +kernel
theorem z6_3 {st : List Value} {w : pm_H} {b1 b2 b3 b4 b5 b6 b7 b8 : Option Value} {x0 : Nat} : pm_ev 6 3 [some (.ref x0), b1, b2, b3, b4, b5, b6, b7, b8] st w = pm_ev 6 4 [some (.ref x0), b1, b2, b3, b4, b5, b6, b7, b8] (.ref x0 :: st) w := pm_ny pt_6 d6_3 rfl rfl rfl
theorem d6_4 : decode cX0_aShareWith 4 = .ok (.getfield 49, 3) := by decide +kernel
theorem z6_4 {st : List Value} {w : pm_H} {pl : pm_L} {x0 : Nat} : pm_ev 6 4 pl (.ref x0 :: st) w = pm_kv 6 7 pl st w (pm_gf (w x0) 0 10) := pm_ng pt_6 pt_F_0_49 d6_4
theorem d6_7 : decode cX0_aShareWith 7 = .ok (.lstore 6, 2) := by decide +kernel
theorem z6_7 {st : List Value} {w : pm_H} {b0 b1 b2 b3 b4 b6 b7 b8 : Option Value} {x0 : Int64} : pm_ev 6 7 [b0, b1, b2, b3, b4, none, b6, b7, b8] (.long x0 :: st) w = pm_ev 6 9 [b0, b1, b2, b3, b4, none, some (.long x0), none, b8] st w := pm_ny pt_6 d6_7 rfl rfl rfl
theorem d6_9 : decode cX0_aShareWith 9 = .ok (.iconst 0, 1) := by decide +kernel
theorem z6_9 {st : List Value} {w : pm_H} {pl : pm_L} : pm_ev 6 9 pl st w = pm_ev 6 10 pl (.int 0 :: st) w := pm_ny pt_6 d6_9 rfl rfl rfl
theorem d6_10 : decode cX0_aShareWith 10 = .ok (.istore 8, 2) := by decide +kernel
theorem z6_10 {st : List Value} {w : pm_H} {b0 b1 b2 b3 b4 b5 b6 b8 : Option Value} {x0 : Int32} : pm_ev 6 10 [b0, b1, b2, b3, b4, b5, b6, none, b8] (.int x0 :: st) w = pm_ev 6 12 [b0, b1, b2, b3, b4, b5, b6, none, some (.int x0)] st w := pm_ny pt_6 d6_10 rfl rfl rfl
theorem d6_12 : decode cX0_aShareWith 12 = .ok (.iload 8, 2) := by decide +kernel
theorem z6_12 {st : List Value} {w : pm_H} {b0 b1 b2 b3 b4 b5 b6 b7 : Option Value} {x0 : Int32} : pm_ev 6 12 [b0, b1, b2, b3, b4, b5, b6, b7, some (.int x0)] st w = pm_ev 6 14 [b0, b1, b2, b3, b4, b5, b6, b7, some (.int x0)] (.int x0 :: st) w := pm_ny pt_6 d6_12 rfl rfl rfl
theorem d6_14 : decode cX0_aShareWith 14 = .ok (.bipush 8, 2) := by decide +kernel
theorem z6_14 {st : List Value} {w : pm_H} {pl : pm_L} : pm_ev 6 14 pl st w = pm_ev 6 16 pl (.int 8 :: st) w := pm_ny pt_6 d6_14 rfl rfl rfl
theorem d6_16 : decode cX0_aShareWith 16 = .ok (.if_icmp .ge 43, 3) := by decide +kernel
theorem z6_16 {st : List Value} {w : pm_H} {pl : pm_L} {x0 x1 : Int32} : pm_ev 6 16 pl (.int x1 :: .int x0 :: st) w = if x0 < x1 then pm_ev 6 19 pl st w else pm_ev 6 59 pl st w := pm_nin (c := x1 ≤ x0) pt_6 d6_16 rfl rfl rfl pm_ge
theorem d6_19 : decode cX0_aShareWith 19 = .ok (.iload_n 1, 1) := by decide +kernel
theorem z6_19 {st : List Value} {w : pm_H} {b0 b2 b3 b4 b5 b6 b7 b8 : Option Value} {x0 : Int32} : pm_ev 6 19 [b0, some (.int x0), b2, b3, b4, b5, b6, b7, b8] st w = pm_ev 6 20 [b0, some (.int x0), b2, b3, b4, b5, b6, b7, b8] (.int x0 :: st) w := pm_ny pt_6 d6_19 rfl rfl rfl
theorem d6_20 : decode cX0_aShareWith 20 = .ok (.iload 8, 2) := by decide +kernel
theorem z6_20 {st : List Value} {w : pm_H} {b0 b1 b2 b3 b4 b5 b6 b7 : Option Value} {x0 : Int32} : pm_ev 6 20 [b0, b1, b2, b3, b4, b5, b6, b7, some (.int x0)] st w = pm_ev 6 22 [b0, b1, b2, b3, b4, b5, b6, b7, some (.int x0)] (.int x0 :: st) w := pm_ny pt_6 d6_20 rfl rfl rfl
theorem d6_22 : decode cX0_aShareWith 22 = .ok (.ishr, 1) := by decide +kernel
theorem z6_22 {st : List Value} {w : pm_H} {pl : pm_L} {x0 x1 : Int32} : pm_ev 6 22 pl (.int x1 :: .int x0 :: st) w = pm_ev 6 23 pl (.int (x0 >>> (x1 &&& 31)) :: st) w := pm_ny pt_6 d6_22 rfl rfl rfl
theorem d6_23 : decode cX0_aShareWith 23 = .ok (.iconst 1, 1) := by decide +kernel
theorem z6_23 {st : List Value} {w : pm_H} {pl : pm_L} : pm_ev 6 23 pl st w = pm_ev 6 24 pl (.int 1 :: st) w := pm_ny pt_6 d6_23 rfl rfl rfl
theorem d6_24 : decode cX0_aShareWith 24 = .ok (.iand, 1) := by decide +kernel
theorem z6_24 {st : List Value} {w : pm_H} {pl : pm_L} {x0 x1 : Int32} : pm_ev 6 24 pl (.int x1 :: .int x0 :: st) w = pm_ev 6 25 pl (.int (x0 &&& x1) :: st) w := pm_ny pt_6 d6_24 rfl rfl rfl
theorem d6_25 : decode cX0_aShareWith 25 = .ok (.iconst 1, 1) := by decide +kernel
theorem z6_25 {st : List Value} {w : pm_H} {pl : pm_L} : pm_ev 6 25 pl st w = pm_ev 6 26 pl (.int 1 :: st) w := pm_ny pt_6 d6_25 rfl rfl rfl
theorem d6_26 : decode cX0_aShareWith 26 = .ok (.if_icmp .ne 27, 3) := by decide +kernel
theorem z6_26 {st : List Value} {w : pm_H} {pl : pm_L} {x0 x1 : Int32} : pm_ev 6 26 pl (.int x1 :: .int x0 :: st) w = if x0 = x1 then pm_ev 6 29 pl st w else pm_ev 6 53 pl st w := pm_nin (c := ¬ x0 = x1) pt_6 d6_26 rfl rfl rfl Iff.rfl
theorem d6_29 : decode cX0_aShareWith 29 = .ok (.lload 4, 2) := by decide +kernel
theorem z6_29 {st : List Value} {w : pm_H} {b0 b1 b2 b3 b5 b6 b7 b8 : Option Value} {x0 : Int64} : pm_ev 6 29 [b0, b1, b2, b3, some (.long x0), b5, b6, b7, b8] st w = pm_ev 6 31 [b0, b1, b2, b3, some (.long x0), b5, b6, b7, b8] (.long x0 :: st) w := pm_ny pt_6 d6_29 rfl rfl rfl
theorem d6_31 : decode cX0_aShareWith 31 = .ok (.aload_n 0, 1) := by decide +kernel
theorem z6_31 {st : List Value} {w : pm_H} {b1 b2 b3 b4 b5 b6 b7 b8 : Option Value} {x0 : Nat} : pm_ev 6 31 [some (.ref x0), b1, b2, b3, b4, b5, b6, b7, b8] st w = pm_ev 6 32 [some (.ref x0), b1, b2, b3, b4, b5, b6, b7, b8] (.ref x0 :: st) w := pm_ny pt_6 d6_31 rfl rfl rfl
theorem d6_32 : decode cX0_aShareWith 32 = .ok (.getfield 19, 3) := by decide +kernel
theorem z6_32 {st : List Value} {w : pm_H} {pl : pm_L} {x0 : Nat} : pm_ev 6 32 pl (.ref x0 :: st) w = pm_kv 6 35 pl st w (pm_gf (w x0) 0 5) := pm_ng pt_6 pt_F_0_19 d6_32
theorem d6_35 : decode cX0_aShareWith 35 = .ok (.iload 8, 2) := by decide +kernel
theorem z6_35 {st : List Value} {w : pm_H} {b0 b1 b2 b3 b4 b5 b6 b7 : Option Value} {x0 : Int32} : pm_ev 6 35 [b0, b1, b2, b3, b4, b5, b6, b7, some (.int x0)] st w = pm_ev 6 37 [b0, b1, b2, b3, b4, b5, b6, b7, some (.int x0)] (.int x0 :: st) w := pm_ny pt_6 d6_35 rfl rfl rfl
theorem d6_37 : decode cX0_aShareWith 37 = .ok (.laload, 1) := by decide +kernel
theorem z6_37 {st : List Value} {w : pm_H} {pl : pm_L} {x0 : Nat} {x1 : Int32} : pm_ev 6 37 pl (.int x1 :: .ref x0 :: st) w = pm_kv 6 38 pl st w (pm_la (w x0) x1) := pm_nla pt_6 d6_37
theorem d6_38 : decode cX0_aShareWith 38 = .ok (.ladd, 1) := by decide +kernel
theorem z6_38 {st : List Value} {w : pm_H} {pl : pm_L} {x0 x1 : Int64} : pm_ev 6 38 pl (.long x1 :: .long x0 :: st) w = pm_ev 6 39 pl (.long (x0 + x1) :: st) w := pm_ny pt_6 d6_38 rfl rfl rfl
theorem d6_39 : decode cX0_aShareWith 39 = .ok (.lstore 4, 2) := by decide +kernel
theorem z6_39 {st : List Value} {w : pm_H} {b0 b1 b2 b4 b5 b6 b7 b8 : Option Value} {x0 : Int64} : pm_ev 6 39 [b0, b1, b2, none, b4, b5, b6, b7, b8] (.long x0 :: st) w = pm_ev 6 41 [b0, b1, b2, none, some (.long x0), none, b6, b7, b8] st w := pm_ny pt_6 d6_39 rfl rfl rfl
theorem d6_41 : decode cX0_aShareWith 41 = .ok (.lload 6, 2) := by decide +kernel
theorem z6_41 {st : List Value} {w : pm_H} {b0 b1 b2 b3 b4 b5 b7 b8 : Option Value} {x0 : Int64} : pm_ev 6 41 [b0, b1, b2, b3, b4, b5, some (.long x0), b7, b8] st w = pm_ev 6 43 [b0, b1, b2, b3, b4, b5, some (.long x0), b7, b8] (.long x0 :: st) w := pm_ny pt_6 d6_41 rfl rfl rfl
theorem d6_43 : decode cX0_aShareWith 43 = .ok (.aload_n 0, 1) := by decide +kernel
theorem z6_43 {st : List Value} {w : pm_H} {b1 b2 b3 b4 b5 b6 b7 b8 : Option Value} {x0 : Nat} : pm_ev 6 43 [some (.ref x0), b1, b2, b3, b4, b5, b6, b7, b8] st w = pm_ev 6 44 [some (.ref x0), b1, b2, b3, b4, b5, b6, b7, b8] (.ref x0 :: st) w := pm_ny pt_6 d6_43 rfl rfl rfl
theorem d6_44 : decode cX0_aShareWith 44 = .ok (.getfield 15, 3) := by decide +kernel
theorem z6_44 {st : List Value} {w : pm_H} {pl : pm_L} {x0 : Nat} : pm_ev 6 44 pl (.ref x0 :: st) w = pm_kv 6 47 pl st w (pm_gf (w x0) 0 4) := pm_ng pt_6 pt_F_0_15 d6_44
theorem d6_47 : decode cX0_aShareWith 47 = .ok (.iload 8, 2) := by decide +kernel
theorem z6_47 {st : List Value} {w : pm_H} {b0 b1 b2 b3 b4 b5 b6 b7 : Option Value} {x0 : Int32} : pm_ev 6 47 [b0, b1, b2, b3, b4, b5, b6, b7, some (.int x0)] st w = pm_ev 6 49 [b0, b1, b2, b3, b4, b5, b6, b7, some (.int x0)] (.int x0 :: st) w := pm_ny pt_6 d6_47 rfl rfl rfl
theorem d6_49 : decode cX0_aShareWith 49 = .ok (.laload, 1) := by decide +kernel
theorem z6_49 {st : List Value} {w : pm_H} {pl : pm_L} {x0 : Nat} {x1 : Int32} : pm_ev 6 49 pl (.int x1 :: .ref x0 :: st) w = pm_kv 6 50 pl st w (pm_la (w x0) x1) := pm_nla pt_6 d6_49
theorem d6_50 : decode cX0_aShareWith 50 = .ok (.ladd, 1) := by decide +kernel
theorem z6_50 {st : List Value} {w : pm_H} {pl : pm_L} {x0 x1 : Int64} : pm_ev 6 50 pl (.long x1 :: .long x0 :: st) w = pm_ev 6 51 pl (.long (x0 + x1) :: st) w := pm_ny pt_6 d6_50 rfl rfl rfl
theorem d6_51 : decode cX0_aShareWith 51 = .ok (.lstore 6, 2) := by decide +kernel
theorem z6_51 {st : List Value} {w : pm_H} {b0 b1 b2 b3 b4 b6 b7 b8 : Option Value} {x0 : Int64} : pm_ev 6 51 [b0, b1, b2, b3, b4, none, b6, b7, b8] (.long x0 :: st) w = pm_ev 6 53 [b0, b1, b2, b3, b4, none, some (.long x0), none, b8] st w := pm_ny pt_6 d6_51 rfl rfl rfl
theorem d6_53 : decode cX0_aShareWith 53 = .ok (.iinc 8 1, 3) := by decide +kernel
theorem z6_53 {st : List Value} {w : pm_H} {b0 b1 b2 b3 b4 b5 b6 : Option Value} {x0 : Int32} : pm_ev 6 53 [b0, b1, b2, b3, b4, b5, b6, none, some (.int x0)] st w = pm_ev 6 56 [b0, b1, b2, b3, b4, b5, b6, none, some (.int (x0 + 1))] st w := pm_ny pt_6 d6_53 rfl rfl rfl
theorem d6_56 : decode cX0_aShareWith 56 = .ok (.goto (-44), 3) := by decide +kernel
theorem z6_56 {st : List Value} {w : pm_H} {pl : pm_L} : pm_ev 6 56 pl st w = pm_ev 6 12 pl st w := pm_ny pt_6 d6_56 rfl rfl rfl
theorem d6_59 : decode cX0_aShareWith 59 = .ok (.lload 6, 2) := by decide +kernel
theorem z6_59 {st : List Value} {w : pm_H} {b0 b1 b2 b3 b4 b5 b7 b8 : Option Value} {x0 : Int64} : pm_ev 6 59 [b0, b1, b2, b3, b4, b5, some (.long x0), b7, b8] st w = pm_ev 6 61 [b0, b1, b2, b3, b4, b5, some (.long x0), b7, b8] (.long x0 :: st) w := pm_ny pt_6 d6_59 rfl rfl rfl
theorem d6_61 : decode cX0_aShareWith 61 = .ok (.lconst 0, 1) := by decide +kernel
theorem z6_61 {st : List Value} {w : pm_H} {pl : pm_L} : pm_ev 6 61 pl st w = pm_ev 6 62 pl (.long 0 :: st) w := pm_ny pt_6 d6_61 rfl rfl rfl
theorem d6_62 : decode cX0_aShareWith 62 = .ok (.lcmp, 1) := by decide +kernel
theorem z6_62 {st : List Value} {w : pm_H} {pl : pm_L} {x0 x1 : Int64} : pm_ev 6 62 pl (.long x1 :: .long x0 :: st) w = pm_ev 6 63 pl (.int (lg_cmp x0 x1) :: st) w := pm_ny pt_6 d6_62 rfl rfl rfl
theorem d6_63 : decode cX0_aShareWith 63 = .ok (.ifCond .gt 7, 3) := by decide +kernel
theorem z6_63 {st : List Value} {w : pm_H} {pl : pm_L} {x0 : Int32} : pm_ev 6 63 pl (.int x0 :: st) w = if 0 < x0 then pm_ev 6 70 pl st w else pm_ev 6 66 pl st w := pm_nif pt_6 d6_63 rfl rfl rfl
theorem d6_66 : decode cX0_aShareWith 66 = .ok (.iconst 0, 1) := by decide +kernel
theorem z6_66 {st : List Value} {w : pm_H} {pl : pm_L} : pm_ev 6 66 pl st w = pm_ev 6 67 pl (.int 0 :: st) w := pm_ny pt_6 d6_66 rfl rfl rfl
theorem d6_67 : decode cX0_aShareWith 67 = .ok (.goto 21, 3) := by decide +kernel
theorem z6_67 {st : List Value} {w : pm_H} {pl : pm_L} : pm_ev 6 67 pl st w = pm_ev 6 88 pl st w := pm_ny pt_6 d6_67 rfl rfl rfl
theorem d6_70 : decode cX0_aShareWith 70 = .ok (.lload 4, 2) := by decide +kernel
theorem z6_70 {st : List Value} {w : pm_H} {b0 b1 b2 b3 b5 b6 b7 b8 : Option Value} {x0 : Int64} : pm_ev 6 70 [b0, b1, b2, b3, some (.long x0), b5, b6, b7, b8] st w = pm_ev 6 72 [b0, b1, b2, b3, some (.long x0), b5, b6, b7, b8] (.long x0 :: st) w := pm_ny pt_6 d6_70 rfl rfl rfl
theorem d6_72 : decode cX0_aShareWith 72 = .ok (.ldc2_w 90, 3) := by decide +kernel
theorem z6_72 {st : List Value} {w : pm_H} {pl : pm_L} : pm_ev 6 72 pl st w = pm_ev 6 75 pl (.long (1000) :: st) w := pm_nk2 pt_6 pt_K_0_90 rfl d6_72
theorem d6_75 : decode cX0_aShareWith 75 = .ok (.lmul, 1) := by decide +kernel
theorem z6_75 {st : List Value} {w : pm_H} {pl : pm_L} {x0 x1 : Int64} : pm_ev 6 75 pl (.long x1 :: .long x0 :: st) w = pm_ev 6 76 pl (.long (x0 * x1) :: st) w := pm_ny pt_6 d6_75 rfl rfl rfl
theorem d6_76 : decode cX0_aShareWith 76 = .ok (.aload_n 0, 1) := by decide +kernel
theorem z6_76 {st : List Value} {w : pm_H} {b1 b2 b3 b4 b5 b6 b7 b8 : Option Value} {x0 : Nat} : pm_ev 6 76 [some (.ref x0), b1, b2, b3, b4, b5, b6, b7, b8] st w = pm_ev 6 77 [some (.ref x0), b1, b2, b3, b4, b5, b6, b7, b8] (.ref x0 :: st) w := pm_ny pt_6 d6_76 rfl rfl rfl
theorem d6_77 : decode cX0_aShareWith 77 = .ok (.getfield 42, 3) := by decide +kernel
theorem z6_77 {st : List Value} {w : pm_H} {pl : pm_L} {x0 : Nat} : pm_ev 6 77 pl (.ref x0 :: st) w = pm_kv 6 80 pl st w (pm_gf (w x0) 0 9) := pm_ng pt_6 pt_F_0_42 d6_77
theorem d6_80 : decode cX0_aShareWith 80 = .ok (.i2l, 1) := by decide +kernel
theorem z6_80 {st : List Value} {w : pm_H} {pl : pm_L} {x0 : Int32} : pm_ev 6 80 pl (.int x0 :: st) w = pm_ev 6 81 pl (.long x0.toInt64 :: st) w := pm_ny pt_6 d6_80 rfl rfl rfl
theorem d6_81 : decode cX0_aShareWith 81 = .ok (.lmul, 1) := by decide +kernel
theorem z6_81 {st : List Value} {w : pm_H} {pl : pm_L} {x0 x1 : Int64} : pm_ev 6 81 pl (.long x1 :: .long x0 :: st) w = pm_ev 6 82 pl (.long (x0 * x1) :: st) w := pm_ny pt_6 d6_81 rfl rfl rfl
theorem d6_82 : decode cX0_aShareWith 82 = .ok (.lload 6, 2) := by decide +kernel
theorem z6_82 {st : List Value} {w : pm_H} {b0 b1 b2 b3 b4 b5 b7 b8 : Option Value} {x0 : Int64} : pm_ev 6 82 [b0, b1, b2, b3, b4, b5, some (.long x0), b7, b8] st w = pm_ev 6 84 [b0, b1, b2, b3, b4, b5, some (.long x0), b7, b8] (.long x0 :: st) w := pm_ny pt_6 d6_82 rfl rfl rfl
theorem d6_84 : decode cX0_aShareWith 84 = .ok (.invokestatic 92, 3) := by decide +kernel
theorem z6_84 {w : pm_H} {b0 b1 b2 b3 b4 b5 b6 b7 b8 : Option Value} {x0 : Int64} {x1 : Int64} : pm_ev 6 84 [b0, b1, b2, b3, b4, b5, b6, b7, b8] [.long x0, .long x1] w = pm_k 6 87 [b0, b1, b2, b3, b4, b5, b6, b7, b8] [] (pm_call 167 [.long x1, .long x0] w) := pm_ns pt_6 pt_167 pt_M_0_92 (Or.inl rfl) d6_84 ⟨rfl, rfl⟩ ⟨⟨rfl, Nat.le_of_ble_eq_true rfl, Nat.le_of_ble_eq_true rfl, Nat.le_of_ble_eq_true rfl, Nat.le_of_ble_eq_true rfl⟩, rfl⟩
theorem d6_87 : decode cX0_aShareWith 87 = .ok (.l2i, 1) := by decide +kernel
theorem z6_87 {st : List Value} {w : pm_H} {pl : pm_L} {x0 : Int64} : pm_ev 6 87 pl (.long x0 :: st) w = pm_ev 6 88 pl (.int x0.toInt32 :: st) w := pm_ny pt_6 d6_87 rfl rfl rfl
theorem d6_88 : decode cX0_aShareWith 88 = .ok (.ireturn, 1) := by decide +kernel
theorem z6_88 {w : pm_H} {pl : pm_L} {x0 : Int32} : pm_ev 6 88 pl [.int x0] w = some (some (.int x0), w) := pm_nr pt_6 d6_88 rfl
theorem d7_0 : decode cX0_diluted 0 = .ok (.aload_n 0, 1) := by decide +kernel
theorem z7_0 {st : List Value} {w : pm_H}  {x0 : Nat} : pm_ev 7 0 [some (.ref x0)] st w = pm_ev 7 1 [some (.ref x0)] (.ref x0 :: st) w := pm_ny pt_7 d7_0 rfl rfl rfl
theorem d7_1 : decode cX0_diluted 1 = .ok (.aload_n 0, 1) := by decide +kernel
theorem z7_1 {st : List Value} {w : pm_H}  {x0 : Nat} : pm_ev 7 1 [some (.ref x0)] st w = pm_ev 7 2 [some (.ref x0)] (.ref x0 :: st) w := pm_ny pt_7 d7_1 rfl rfl rfl
theorem d7_2 : decode cX0_diluted 2 = .ok (.getfield 83, 3) := by decide +kernel
theorem z7_2 {st : List Value} {w : pm_H} {pl : pm_L} {x0 : Nat} : pm_ev 7 2 pl (.ref x0 :: st) w = pm_kv 7 5 pl st w (pm_gf (w x0) 0 2) := pm_ng pt_7 pt_F_0_83 d7_2
theorem d7_5 : decode cX0_diluted 5 = .ok (.aload_n 0, 1) := by decide +kernel
theorem z7_5 {st : List Value} {w : pm_H}  {x0 : Nat} : pm_ev 7 5 [some (.ref x0)] st w = pm_ev 7 6 [some (.ref x0)] (.ref x0 :: st) w := pm_ny pt_7 d7_5 rfl rfl rfl
theorem d7_6 : decode cX0_diluted 6 = .ok (.getfield 74, 3) := by decide +kernel
theorem z7_6 {st : List Value} {w : pm_H} {pl : pm_L} {x0 : Nat} : pm_ev 7 6 pl (.ref x0 :: st) w = pm_kv 7 9 pl st w (pm_gf (w x0) 0 11) := pm_ng pt_7 pt_F_0_74 d7_6
theorem d7_9 : decode cX0_diluted 9 = .ok (.invokevirtual 86, 3) := by decide +kernel
theorem z7_9 {w : pm_H} {b0 : Option Value} {x0 : Int64} {x1 : Int32} {x2 : Nat} : pm_ev 7 9 [b0] [.long x0, .int x1, .ref x2] w = pm_k 7 12 [b0] [] (pm_vc (w x2) 0 (pm_call 6 [.ref x2, .int x1, .long x0] w)) := pm_nv pt_7 pt_6 pt_M_0_86 d7_9 ⟨rfl, rfl⟩ ⟨⟨rfl, Nat.le_of_ble_eq_true rfl, Nat.le_of_ble_eq_true rfl, Nat.le_of_ble_eq_true rfl, Nat.le_of_ble_eq_true rfl⟩, rfl⟩
theorem d7_12 : decode cX0_diluted 12 = .ok (.ireturn, 1) := by decide +kernel
theorem z7_12 {w : pm_H} {pl : pm_L} {x0 : Int32} : pm_ev 7 12 pl [.int x0] w = some (some (.int x0), w) := pm_nr pt_7 d7_12 rfl
theorem d8_0 : decode cX0_rankedSet 0 = .ok (.iconst 0, 1) := by decide +kernel
theorem z8_0 {st : List Value} {w : pm_H} {pl : pm_L} : pm_ev 8 0 pl st w = pm_ev 8 1 pl (.int 0 :: st) w := pm_ny pt_8 d8_0 rfl rfl rfl
theorem d8_1 : decode cX0_rankedSet 1 = .ok (.istore_n 1, 1) := by decide +kernel
theorem z8_1 {st : List Value} {w : pm_H} {b1 b2 : Option Value} {x0 : Int32} {x9 : Nat} : pm_ev 8 1 [some (.ref x9), b1, b2] (.int x0 :: st) w = pm_ev 8 2 [some (.ref x9), some (.int x0), b2] st w := pm_ny pt_8 d8_1 rfl rfl rfl
theorem d8_2 : decode cX0_rankedSet 2 = .ok (.iconst 0, 1) := by decide +kernel
theorem z8_2 {st : List Value} {w : pm_H} {pl : pm_L} : pm_ev 8 2 pl st w = pm_ev 8 3 pl (.int 0 :: st) w := pm_ny pt_8 d8_2 rfl rfl rfl
theorem d8_3 : decode cX0_rankedSet 3 = .ok (.istore_n 2, 1) := by decide +kernel
theorem z8_3 {st : List Value} {w : pm_H} {b0 b2 : Option Value} {x0 : Int32} {x9 : Int32} : pm_ev 8 3 [b0, some (.int x9), b2] (.int x0 :: st) w = pm_ev 8 4 [b0, some (.int x9), some (.int x0)] st w := pm_ny pt_8 d8_3 rfl rfl rfl
theorem d8_4 : decode cX0_rankedSet 4 = .ok (.iload_n 2, 1) := by decide +kernel
theorem z8_4 {st : List Value} {w : pm_H} {b0 b1 : Option Value} {x0 : Int32} : pm_ev 8 4 [b0, b1, some (.int x0)] st w = pm_ev 8 5 [b0, b1, some (.int x0)] (.int x0 :: st) w := pm_ny pt_8 d8_4 rfl rfl rfl
theorem d8_5 : decode cX0_rankedSet 5 = .ok (.aload_n 0, 1) := by decide +kernel
theorem z8_5 {st : List Value} {w : pm_H} {b1 b2 : Option Value} {x0 : Nat} : pm_ev 8 5 [some (.ref x0), b1, b2] st w = pm_ev 8 6 [some (.ref x0), b1, b2] (.ref x0 :: st) w := pm_ny pt_8 d8_5 rfl rfl rfl
theorem d8_6 : decode cX0_rankedSet 6 = .ok (.getfield 77, 3) := by decide +kernel
theorem z8_6 {st : List Value} {w : pm_H} {pl : pm_L} {x0 : Nat} : pm_ev 8 6 pl (.ref x0 :: st) w = pm_kv 8 9 pl st w (pm_gf (w x0) 0 1) := pm_ng pt_8 pt_F_0_77 d8_6
theorem d8_9 : decode cX0_rankedSet 9 = .ok (.if_icmp .ge 20, 3) := by decide +kernel
theorem z8_9 {st : List Value} {w : pm_H} {pl : pm_L} {x0 x1 : Int32} : pm_ev 8 9 pl (.int x1 :: .int x0 :: st) w = if x0 < x1 then pm_ev 8 12 pl st w else pm_ev 8 29 pl st w := pm_nin (c := x1 ≤ x0) pt_8 d8_9 rfl rfl rfl pm_ge
theorem d8_12 : decode cX0_rankedSet 12 = .ok (.iload_n 1, 1) := by decide +kernel
theorem z8_12 {st : List Value} {w : pm_H} {b0 b2 : Option Value} {x0 : Int32} : pm_ev 8 12 [b0, some (.int x0), b2] st w = pm_ev 8 13 [b0, some (.int x0), b2] (.int x0 :: st) w := pm_ny pt_8 d8_12 rfl rfl rfl
theorem d8_13 : decode cX0_rankedSet 13 = .ok (.iconst 1, 1) := by decide +kernel
theorem z8_13 {st : List Value} {w : pm_H} {pl : pm_L} : pm_ev 8 13 pl st w = pm_ev 8 14 pl (.int 1 :: st) w := pm_ny pt_8 d8_13 rfl rfl rfl
theorem d8_14 : decode cX0_rankedSet 14 = .ok (.aload_n 0, 1) := by decide +kernel
theorem z8_14 {st : List Value} {w : pm_H} {b1 b2 : Option Value} {x0 : Nat} : pm_ev 8 14 [some (.ref x0), b1, b2] st w = pm_ev 8 15 [some (.ref x0), b1, b2] (.ref x0 :: st) w := pm_ny pt_8 d8_14 rfl rfl rfl
theorem d8_15 : decode cX0_rankedSet 15 = .ok (.getfield 9, 3) := by decide +kernel
theorem z8_15 {st : List Value} {w : pm_H} {pl : pm_L} {x0 : Nat} : pm_ev 8 15 pl (.ref x0 :: st) w = pm_kv 8 18 pl st w (pm_gf (w x0) 0 0) := pm_ng pt_8 pt_F_0_9 d8_15
theorem d8_18 : decode cX0_rankedSet 18 = .ok (.iload_n 2, 1) := by decide +kernel
theorem z8_18 {st : List Value} {w : pm_H} {b0 b1 : Option Value} {x0 : Int32} : pm_ev 8 18 [b0, b1, some (.int x0)] st w = pm_ev 8 19 [b0, b1, some (.int x0)] (.int x0 :: st) w := pm_ny pt_8 d8_18 rfl rfl rfl
theorem d8_19 : decode cX0_rankedSet 19 = .ok (.iaload, 1) := by decide +kernel
theorem z8_19 {st : List Value} {w : pm_H} {pl : pm_L} {x0 : Nat} {x1 : Int32} : pm_ev 8 19 pl (.int x1 :: .ref x0 :: st) w = pm_kv 8 20 pl st w (pm_ia (w x0) 0 x1) := pm_nia pt_8 d8_19
theorem d8_20 : decode cX0_rankedSet 20 = .ok (.ishl, 1) := by decide +kernel
theorem z8_20 {st : List Value} {w : pm_H} {pl : pm_L} {x0 x1 : Int32} : pm_ev 8 20 pl (.int x1 :: .int x0 :: st) w = pm_ev 8 21 pl (.int (x0 <<< (x1 &&& 31)) :: st) w := pm_ny pt_8 d8_20 rfl rfl rfl
theorem d8_21 : decode cX0_rankedSet 21 = .ok (.ior, 1) := by decide +kernel
theorem z8_21 {st : List Value} {w : pm_H} {pl : pm_L} {x0 x1 : Int32} : pm_ev 8 21 pl (.int x1 :: .int x0 :: st) w = pm_ev 8 22 pl (.int (x0 ||| x1) :: st) w := pm_ny pt_8 d8_21 rfl rfl rfl
theorem d8_22 : decode cX0_rankedSet 22 = .ok (.istore_n 1, 1) := by decide +kernel
theorem z8_22 {st : List Value} {w : pm_H} {b1 b2 : Option Value} {x0 : Int32} {x9 : Nat} : pm_ev 8 22 [some (.ref x9), b1, b2] (.int x0 :: st) w = pm_ev 8 23 [some (.ref x9), some (.int x0), b2] st w := pm_ny pt_8 d8_22 rfl rfl rfl
theorem d8_23 : decode cX0_rankedSet 23 = .ok (.iinc 2 1, 3) := by decide +kernel
theorem z8_23 {st : List Value} {w : pm_H} {b0 : Option Value} {x0 : Int32} {x9 : Int32} : pm_ev 8 23 [b0, some (.int x9), some (.int x0)] st w = pm_ev 8 26 [b0, some (.int x9), some (.int (x0 + 1))] st w := pm_ny pt_8 d8_23 rfl rfl rfl
theorem d8_26 : decode cX0_rankedSet 26 = .ok (.goto (-22), 3) := by decide +kernel
theorem z8_26 {st : List Value} {w : pm_H} {pl : pm_L} : pm_ev 8 26 pl st w = pm_ev 8 4 pl st w := pm_ny pt_8 d8_26 rfl rfl rfl
theorem d8_29 : decode cX0_rankedSet 29 = .ok (.iload_n 1, 1) := by decide +kernel
theorem z8_29 {st : List Value} {w : pm_H} {b0 b2 : Option Value} {x0 : Int32} : pm_ev 8 29 [b0, some (.int x0), b2] st w = pm_ev 8 30 [b0, some (.int x0), b2] (.int x0 :: st) w := pm_ny pt_8 d8_29 rfl rfl rfl
theorem d8_30 : decode cX0_rankedSet 30 = .ok (.ireturn, 1) := by decide +kernel
theorem z8_30 {w : pm_H} {pl : pm_L} {x0 : Int32} : pm_ev 8 30 pl [.int x0] w = some (some (.int x0), w) := pm_nr pt_8 d8_30 rfl
