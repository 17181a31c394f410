theorem d55_0 : decode cX5_feed 0 = .ok (.aload_n 0, 1) := by decide +kernel
theorem z55_0 {st : List Value} {w : pm_H} {b1 b2 b3 b4 b5 : Option Value} {x0 : Nat} : pm_ev 55 0 [some (.ref x0), b1, b2, b3, b4, b5] st w = pm_ev 55 1 [some (.ref x0), b1, b2, b3, b4, b5] (.ref x0 :: st) w := pm_ny pt_55 d55_0 rfl rfl rfl
theorem d55_1 : decode cX5_feed 1 = .ok (.getfield 12, 3) := by decide +kernel
theorem z55_1 {st : List Value} {w : pm_H} {pl : pm_L} {x0 : Nat} : pm_ev 55 1 pl (.ref x0 :: st) w = pm_kv 55 4 pl st w (pm_gf (w x0) 5 0) := pm_ng pt_55 pt_F_5_12 d55_1
theorem d55_4 : decode cX5_feed 4 = .ok (.invokevirtual 53, 3) := by decide +kernel
theorem z55_4 {w : pm_H} {b0 b1 b2 b3 b4 b5 : Option Value} {x0 : Nat} : pm_ev 55 4 [b0, b1, b2, b3, b4, b5] [.ref x0] w = pm_k 55 7 [b0, b1, b2, b3, b4, b5] [] (pm_vc (w x0) 3 (pm_call 27 [.ref x0] w)) := pm_nv pt_55 pt_27 pt_M_5_53 d55_4 ⟨rfl, rfl⟩ ⟨⟨rfl, Nat.le_of_ble_eq_true rfl, Nat.le_of_ble_eq_true rfl, Nat.le_of_ble_eq_true rfl, Nat.le_of_ble_eq_true rfl⟩, rfl⟩
theorem d55_7 : decode cX5_feed 7 = .ok (.ifCond .ne 5, 3) := by decide +kernel
theorem z55_7 {st : List Value} {w : pm_H} {pl : pm_L} {x0 : Int32} : pm_ev 55 7 pl (.int x0 :: st) w = if x0 = 0 then pm_ev 55 10 pl st w else pm_ev 55 12 pl st w := pm_nin (c := ¬ x0 = 0) pt_55 d55_7 rfl rfl rfl Iff.rfl
theorem d55_10 : decode cX5_feed 10 = .ok (.iconst (-1), 1) := by decide +kernel
theorem z55_10 {st : List Value} {w : pm_H} {pl : pm_L} : pm_ev 55 10 pl st w = pm_ev 55 11 pl (.int (-1) :: st) w := pm_ny pt_55 d55_10 rfl rfl rfl
theorem d55_11 : decode cX5_feed 11 = .ok (.ireturn, 1) := by decide +kernel
theorem z55_11 {w : pm_H} {pl : pm_L} {x0 : Int32} : pm_ev 55 11 pl [.int x0] w = some (some (.int x0), w) := pm_nr pt_55 d55_11 rfl
theorem d55_12 : decode cX5_feed 12 = .ok (.aload_n 0, 1) := by decide +kernel
theorem z55_12 {st : List Value} {w : pm_H} {b1 b2 b3 b4 b5 : Option Value} {x0 : Nat} : pm_ev 55 12 [some (.ref x0), b1, b2, b3, b4, b5] st w = pm_ev 55 13 [some (.ref x0), b1, b2, b3, b4, b5] (.ref x0 :: st) w := pm_ny pt_55 d55_12 rfl rfl rfl
theorem d55_13 : decode cX5_feed 13 = .ok (.getfield 12, 3) := by decide +kernel
theorem z55_13 {st : List Value} {w : pm_H} {pl : pm_L} {x0 : Nat} : pm_ev 55 13 pl (.ref x0 :: st) w = pm_kv 55 16 pl st w (pm_gf (w x0) 5 0) := pm_ng pt_55 pt_F_5_12 d55_13
theorem d55_16 : decode cX5_feed 16 = .ok (.iload_n 1, 1) := by decide +kernel
theorem z55_16 {st : List Value} {w : pm_H} {b0 b2 b3 b4 b5 : Option Value} {x0 : Int32} : pm_ev 55 16 [b0, some (.int x0), b2, b3, b4, b5] st w = pm_ev 55 17 [b0, some (.int x0), b2, b3, b4, b5] (.int x0 :: st) w := pm_ny pt_55 d55_16 rfl rfl rfl
theorem d55_17 : decode cX5_feed 17 = .ok (.invokevirtual 57, 3) := by decide +kernel
theorem z55_17 {w : pm_H} {b0 b1 b2 b3 b4 b5 : Option Value} {x0 : Int32} {x1 : Nat} : pm_ev 55 17 [b0, b1, b2, b3, b4, b5] [.int x0, .ref x1] w = pm_k 55 20 [b0, b1, b2, b3, b4, b5] [] (pm_vc (w x1) 3 (pm_call 28 [.ref x1, .int x0] w)) := pm_nv pt_55 pt_28 pt_M_5_57 d55_17 ⟨rfl, rfl⟩ ⟨⟨rfl, Nat.le_of_ble_eq_true rfl, Nat.le_of_ble_eq_true rfl, Nat.le_of_ble_eq_true rfl, Nat.le_of_ble_eq_true rfl⟩, rfl⟩
theorem d55_20 : decode cX5_feed 20 = .ok (.aload_n 0, 1) := by decide +kernel
theorem z55_20 {st : List Value} {w : pm_H} {b1 b2 b3 b4 b5 : Option Value} {x0 : Nat} : pm_ev 55 20 [some (.ref x0), b1, b2, b3, b4, b5] st w = pm_ev 55 21 [some (.ref x0), b1, b2, b3, b4, b5] (.ref x0 :: st) w := pm_ny pt_55 d55_20 rfl rfl rfl
theorem d55_21 : decode cX5_feed 21 = .ok (.getfield 12, 3) := by decide +kernel
theorem z55_21 {st : List Value} {w : pm_H} {pl : pm_L} {x0 : Nat} : pm_ev 55 21 pl (.ref x0 :: st) w = pm_kv 55 24 pl st w (pm_gf (w x0) 5 0) := pm_ng pt_55 pt_F_5_12 d55_21
theorem d55_24 : decode cX5_feed 24 = .ok (.iload_n 2, 1) := by decide +kernel
theorem z55_24 {st : List Value} {w : pm_H} {b0 b1 b3 b4 b5 : Option Value} {x0 : Int32} : pm_ev 55 24 [b0, b1, some (.int x0), b3, b4, b5] st w = pm_ev 55 25 [b0, b1, some (.int x0), b3, b4, b5] (.int x0 :: st) w := pm_ny pt_55 d55_24 rfl rfl rfl
theorem d55_25 : decode cX5_feed 25 = .ok (.invokevirtual 57, 3) := by decide +kernel
theorem z55_25 {w : pm_H} {b0 b1 b2 b3 b4 b5 : Option Value} {x0 : Int32} {x1 : Nat} : pm_ev 55 25 [b0, b1, b2, b3, b4, b5] [.int x0, .ref x1] w = pm_k 55 28 [b0, b1, b2, b3, b4, b5] [] (pm_vc (w x1) 3 (pm_call 28 [.ref x1, .int x0] w)) := pm_nv pt_55 pt_28 pt_M_5_57 d55_25 ⟨rfl, rfl⟩ ⟨⟨rfl, Nat.le_of_ble_eq_true rfl, Nat.le_of_ble_eq_true rfl, Nat.le_of_ble_eq_true rfl, Nat.le_of_ble_eq_true rfl⟩, rfl⟩
theorem d55_28 : decode cX5_feed 28 = .ok (.aload_n 0, 1) := by decide +kernel
theorem z55_28 {st : List Value} {w : pm_H} {b1 b2 b3 b4 b5 : Option Value} {x0 : Nat} : pm_ev 55 28 [some (.ref x0), b1, b2, b3, b4, b5] st w = pm_ev 55 29 [some (.ref x0), b1, b2, b3, b4, b5] (.ref x0 :: st) w := pm_ny pt_55 d55_28 rfl rfl rfl
theorem d55_29 : decode cX5_feed 29 = .ok (.getfield 12, 3) := by decide +kernel
theorem z55_29 {st : List Value} {w : pm_H} {pl : pm_L} {x0 : Nat} : pm_ev 55 29 pl (.ref x0 :: st) w = pm_kv 55 32 pl st w (pm_gf (w x0) 5 0) := pm_ng pt_55 pt_F_5_12 d55_29
theorem d55_32 : decode cX5_feed 32 = .ok (.iload_n 3, 1) := by decide +kernel
theorem z55_32 {st : List Value} {w : pm_H} {b0 b1 b2 b4 b5 : Option Value} {x0 : Int32} : pm_ev 55 32 [b0, b1, b2, some (.int x0), b4, b5] st w = pm_ev 55 33 [b0, b1, b2, some (.int x0), b4, b5] (.int x0 :: st) w := pm_ny pt_55 d55_32 rfl rfl rfl
theorem d55_33 : decode cX5_feed 33 = .ok (.invokevirtual 57, 3) := by decide +kernel
theorem z55_33 {w : pm_H} {b0 b1 b2 b3 b4 b5 : Option Value} {x0 : Int32} {x1 : Nat} : pm_ev 55 33 [b0, b1, b2, b3, b4, b5] [.int x0, .ref x1] w = pm_k 55 36 [b0, b1, b2, b3, b4, b5] [] (pm_vc (w x1) 3 (pm_call 28 [.ref x1, .int x0] w)) := pm_nv pt_55 pt_28 pt_M_5_57 d55_33 ⟨rfl, rfl⟩ ⟨⟨rfl, Nat.le_of_ble_eq_true rfl, Nat.le_of_ble_eq_true rfl, Nat.le_of_ble_eq_true rfl, Nat.le_of_ble_eq_true rfl⟩, rfl⟩
theorem d55_36 : decode cX5_feed 36 = .ok (.aload_n 0, 1) := by decide +kernel
theorem z55_36 {st : List Value} {w : pm_H} {b1 b2 b3 b4 b5 : Option Value} {x0 : Nat} : pm_ev 55 36 [some (.ref x0), b1, b2, b3, b4, b5] st w = pm_ev 55 37 [some (.ref x0), b1, b2, b3, b4, b5] (.ref x0 :: st) w := pm_ny pt_55 d55_36 rfl rfl rfl
theorem d55_37 : decode cX5_feed 37 = .ok (.getfield 12, 3) := by decide +kernel
theorem z55_37 {st : List Value} {w : pm_H} {pl : pm_L} {x0 : Nat} : pm_ev 55 37 pl (.ref x0 :: st) w = pm_kv 55 40 pl st w (pm_gf (w x0) 5 0) := pm_ng pt_55 pt_F_5_12 d55_37
theorem d55_40 : decode cX5_feed 40 = .ok (.iload 4, 2) := by decide +kernel
theorem z55_40 {st : List Value} {w : pm_H} {b0 b1 b2 b3 b5 : Option Value} {x0 : Int32} : pm_ev 55 40 [b0, b1, b2, b3, some (.int x0), b5] st w = pm_ev 55 42 [b0, b1, b2, b3, some (.int x0), b5] (.int x0 :: st) w := pm_ny pt_55 d55_40 rfl rfl rfl
theorem d55_42 : decode cX5_feed 42 = .ok (.invokevirtual 57, 3) := by decide +kernel
theorem z55_42 {w : pm_H} {b0 b1 b2 b3 b4 b5 : Option Value} {x0 : Int32} {x1 : Nat} : pm_ev 55 42 [b0, b1, b2, b3, b4, b5] [.int x0, .ref x1] w = pm_k 55 45 [b0, b1, b2, b3, b4, b5] [] (pm_vc (w x1) 3 (pm_call 28 [.ref x1, .int x0] w)) := pm_nv pt_55 pt_28 pt_M_5_57 d55_42 ⟨rfl, rfl⟩ ⟨⟨rfl, Nat.le_of_ble_eq_true rfl, Nat.le_of_ble_eq_true rfl, Nat.le_of_ble_eq_true rfl, Nat.le_of_ble_eq_true rfl⟩, rfl⟩
theorem d55_45 : decode cX5_feed 45 = .ok (.aload_n 0, 1) := by decide +kernel
theorem z55_45 {st : List Value} {w : pm_H} {b1 b2 b3 b4 b5 : Option Value} {x0 : Nat} : pm_ev 55 45 [some (.ref x0), b1, b2, b3, b4, b5] st w = pm_ev 55 46 [some (.ref x0), b1, b2, b3, b4, b5] (.ref x0 :: st) w := pm_ny pt_55 d55_45 rfl rfl rfl
theorem d55_46 : decode cX5_feed 46 = .ok (.getfield 12, 3) := by decide +kernel
theorem z55_46 {st : List Value} {w : pm_H} {pl : pm_L} {x0 : Nat} : pm_ev 55 46 pl (.ref x0 :: st) w = pm_kv 55 49 pl st w (pm_gf (w x0) 5 0) := pm_ng pt_55 pt_F_5_12 d55_46
theorem d55_49 : decode cX5_feed 49 = .ok (.iload 5, 2) := by decide +kernel
theorem z55_49 {st : List Value} {w : pm_H} {b0 b1 b2 b3 b4 : Option Value} {x0 : Int32} : pm_ev 55 49 [b0, b1, b2, b3, b4, some (.int x0)] st w = pm_ev 55 51 [b0, b1, b2, b3, b4, some (.int x0)] (.int x0 :: st) w := pm_ny pt_55 d55_49 rfl rfl rfl
theorem d55_51 : decode cX5_feed 51 = .ok (.invokevirtual 57, 3) := by decide +kernel
theorem z55_51 {w : pm_H} {b0 b1 b2 b3 b4 b5 : Option Value} {x0 : Int32} {x1 : Nat} : pm_ev 55 51 [b0, b1, b2, b3, b4, b5] [.int x0, .ref x1] w = pm_k 55 54 [b0, b1, b2, b3, b4, b5] [] (pm_vc (w x1) 3 (pm_call 28 [.ref x1, .int x0] w)) := pm_nv pt_55 pt_28 pt_M_5_57 d55_51 ⟨rfl, rfl⟩ ⟨⟨rfl, Nat.le_of_ble_eq_true rfl, Nat.le_of_ble_eq_true rfl, Nat.le_of_ble_eq_true rfl, Nat.le_of_ble_eq_true rfl⟩, rfl⟩
theorem d55_54 : decode cX5_feed 54 = .ok (.aload_n 0, 1) := by decide +kernel
theorem z55_54 {st : List Value} {w : pm_H} {b1 b2 b3 b4 b5 : Option Value} {x0 : Nat} : pm_ev 55 54 [some (.ref x0), b1, b2, b3, b4, b5] st w = pm_ev 55 55 [some (.ref x0), b1, b2, b3, b4, b5] (.ref x0 :: st) w := pm_ny pt_55 d55_54 rfl rfl rfl
theorem d55_55 : decode cX5_feed 55 = .ok (.getfield 12, 3) := by decide +kernel
theorem z55_55 {st : List Value} {w : pm_H} {pl : pm_L} {x0 : Nat} : pm_ev 55 55 pl (.ref x0 :: st) w = pm_kv 55 58 pl st w (pm_gf (w x0) 5 0) := pm_ng pt_55 pt_F_5_12 d55_55
theorem d55_58 : decode cX5_feed 58 = .ok (.getfield 61, 3) := by decide +kernel
theorem z55_58 {st : List Value} {w : pm_H} {pl : pm_L} {x0 : Nat} : pm_ev 55 58 pl (.ref x0 :: st) w = pm_kv 55 61 pl st w (pm_gf (w x0) 3 1) := pm_ng pt_55 pt_F_5_61 d55_58
theorem d55_61 : decode cX5_feed 61 = .ok (.ireturn, 1) := by decide +kernel
theorem z55_61 {w : pm_H} {pl : pm_L} {x0 : Int32} : pm_ev 55 61 pl [.int x0] w = some (some (.int x0), w) := pm_nr pt_55 d55_61 rfl
theorem d56_0 : decode cX5_end 0 = .ok (.iload_n 1, 1) := by decide +kernel
theorem z56_0 {st : List Value} {w : pm_H} {b0 : Option Value} {x0 : Int32} : pm_ev 56 0 [b0, some (.int x0)] st w = pm_ev 56 1 [b0, some (.int x0)] (.int x0 :: st) w := pm_ny pt_56 d56_0 rfl rfl rfl
theorem d56_1 : decode cX5_end 1 = .ok (.ifCond .lt 14, 3) := by decide +kernel
theorem z56_1 {st : List Value} {w : pm_H} {pl : pm_L} {x0 : Int32} : pm_ev 56 1 pl (.int x0 :: st) w = if x0 < 0 then pm_ev 56 15 pl st w else pm_ev 56 4 pl st w := pm_nif pt_56 d56_1 rfl rfl rfl
theorem d56_4 : decode cX5_end 4 = .ok (.iload_n 1, 1) := by decide +kernel
theorem z56_4 {st : List Value} {w : pm_H} {b0 : Option Value} {x0 : Int32} : pm_ev 56 4 [b0, some (.int x0)] st w = pm_ev 56 5 [b0, some (.int x0)] (.int x0 :: st) w := pm_ny pt_56 d56_4 rfl rfl rfl
theorem d56_5 : decode cX5_end 5 = .ok (.aload_n 0, 1) := by decide +kernel
theorem z56_5 {st : List Value} {w : pm_H} {b1 : Option Value} {x0 : Nat} : pm_ev 56 5 [some (.ref x0), b1] st w = pm_ev 56 6 [some (.ref x0), b1] (.ref x0 :: st) w := pm_ny pt_56 d56_5 rfl rfl rfl
theorem d56_6 : decode cX5_end 6 = .ok (.getfield 12, 3) := by decide +kernel
theorem z56_6 {st : List Value} {w : pm_H} {pl : pm_L} {x0 : Nat} : pm_ev 56 6 pl (.ref x0 :: st) w = pm_kv 56 9 pl st w (pm_gf (w x0) 5 0) := pm_ng pt_56 pt_F_5_12 d56_6
theorem d56_9 : decode cX5_end 9 = .ok (.getfield 61, 3) := by decide +kernel
theorem z56_9 {st : List Value} {w : pm_H} {pl : pm_L} {x0 : Nat} : pm_ev 56 9 pl (.ref x0 :: st) w = pm_kv 56 12 pl st w (pm_gf (w x0) 3 1) := pm_ng pt_56 pt_F_5_61 d56_9
theorem d56_12 : decode cX5_end 12 = .ok (.if_icmp .le 5, 3) := by decide +kernel
theorem z56_12 {st : List Value} {w : pm_H} {pl : pm_L} {x0 x1 : Int32} : pm_ev 56 12 pl (.int x1 :: .int x0 :: st) w = if x1 < x0 then pm_ev 56 15 pl st w else pm_ev 56 17 pl st w := pm_nin (c := x0 ≤ x1) pt_56 d56_12 rfl rfl rfl pm_ge
theorem d56_15 : decode cX5_end 15 = .ok (.iconst 0, 1) := by decide +kernel
theorem z56_15 {st : List Value} {w : pm_H} {pl : pm_L} : pm_ev 56 15 pl st w = pm_ev 56 16 pl (.int 0 :: st) w := pm_ny pt_56 d56_15 rfl rfl rfl
theorem d56_16 : decode cX5_end 16 = .ok (.ireturn, 1) := by decide +kernel
theorem z56_16 {w : pm_H} {pl : pm_L} {x0 : Int32} : pm_ev 56 16 pl [.int x0] w = pm_zr x0 w := pm_nz pt_56 d56_16
theorem d56_17 : decode cX5_end 17 = .ok (.aload_n 0, 1) := by decide +kernel
theorem z56_17 {st : List Value} {w : pm_H} {b1 : Option Value} {x0 : Nat} : pm_ev 56 17 [some (.ref x0), b1] st w = pm_ev 56 18 [some (.ref x0), b1] (.ref x0 :: st) w := pm_ny pt_56 d56_17 rfl rfl rfl
theorem d56_18 : decode cX5_end 18 = .ok (.getfield 12, 3) := by decide +kernel
theorem z56_18 {st : List Value} {w : pm_H} {pl : pm_L} {x0 : Nat} : pm_ev 56 18 pl (.ref x0 :: st) w = pm_kv 56 21 pl st w (pm_gf (w x0) 5 0) := pm_ng pt_56 pt_F_5_12 d56_18
theorem d56_21 : decode cX5_end 21 = .ok (.iload_n 1, 1) := by decide +kernel
theorem z56_21 {st : List Value} {w : pm_H} {b0 : Option Value} {x0 : Int32} : pm_ev 56 21 [b0, some (.int x0)] st w = pm_ev 56 22 [b0, some (.int x0)] (.int x0 :: st) w := pm_ny pt_56 d56_21 rfl rfl rfl
theorem d56_22 : decode cX5_end 22 = .ok (.putfield 61, 3) := by decide +kernel
theorem z56_22 {st : List Value} {w : pm_H} {pl : pm_L} {x0 : Nat} {x1 : Int32} : pm_ev 56 22 pl (.int x1 :: .ref x0 :: st) w = pm_kw 56 25 pl st (pm_pf w x0 (w x0) 3 1 0 (.int x1)) := pm_np pt_56 pt_F_5_61 d56_22
theorem d56_25 : decode cX5_end 25 = .ok (.iconst 1, 1) := by decide +kernel
theorem z56_25 {st : List Value} {w : pm_H} {pl : pm_L} : pm_ev 56 25 pl st w = pm_ev 56 26 pl (.int 1 :: st) w := pm_ny pt_56 d56_25 rfl rfl rfl
theorem d56_26 : decode cX5_end 26 = .ok (.ireturn, 1) := by decide +kernel
theorem z56_26 {w : pm_H} {pl : pm_L} {x0 : Int32} : pm_ev 56 26 pl [.int x0] w = pm_zr x0 w := pm_nz pt_56 d56_26
theorem d57_0 : decode cX5_text 0 = .ok (.aload_n 0, 1) := by decide +kernel
theorem z57_0 {st : List Value} {w : pm_H} {b1 b2 : Option Value} {x0 : Nat} : pm_ev 57 0 [some (.ref x0), b1, b2] st w = pm_ev 57 1 [some (.ref x0), b1, b2] (.ref x0 :: st) w := pm_ny pt_57 d57_0 rfl rfl rfl
theorem d57_1 : decode cX5_text 1 = .ok (.getfield 21, 3) := by decide +kernel
theorem z57_1 {st : List Value} {w : pm_H} {pl : pm_L} {x0 : Nat} : pm_ev 57 1 pl (.ref x0 :: st) w = pm_kv 57 4 pl st w (pm_gf (w x0) 5 1) := pm_ng pt_57 pt_F_5_21 d57_1
theorem d57_4 : decode cX5_text 4 = .ok (.aload_n 0, 1) := by decide +kernel
theorem z57_4 {st : List Value} {w : pm_H} {b1 b2 : Option Value} {x0 : Nat} : pm_ev 57 4 [some (.ref x0), b1, b2] st w = pm_ev 57 5 [some (.ref x0), b1, b2] (.ref x0 :: st) w := pm_ny pt_57 d57_4 rfl rfl rfl
theorem d57_5 : decode cX5_text 5 = .ok (.getfield 46, 3) := by decide +kernel
theorem z57_5 {st : List Value} {w : pm_H} {pl : pm_L} {x0 : Nat} : pm_ev 57 5 pl (.ref x0 :: st) w = pm_kv 57 8 pl st w (pm_gf (w x0) 5 5) := pm_ng pt_57 pt_F_5_46 d57_5
theorem d57_8 : decode cX5_text 8 = .ok (.invokevirtual 64, 3) := by decide +kernel
theorem z57_8 {w : pm_H} {b0 b1 b2 : Option Value} {x0 : Nat} {x1 : Nat} : pm_ev 57 8 [b0, b1, b2] [.ref x0, .ref x1] w = pm_k 57 11 [b0, b1, b2] [] (pm_vc (w x1) 2 (pm_call 12 [.ref x1, .ref x0] w)) := pm_nv pt_57 pt_12 pt_M_5_64 d57_8 ⟨rfl, rfl⟩ ⟨⟨rfl, Nat.le_of_ble_eq_true rfl, Nat.le_of_ble_eq_true rfl, Nat.le_of_ble_eq_true rfl, Nat.le_of_ble_eq_true rfl⟩, rfl⟩
theorem d57_11 : decode cX5_text 11 = .ok (.istore_n 1, 1) := by decide +kernel
theorem z57_11 {st : List Value} {w : pm_H} {b1 b2 : Option Value} {x0 : Int32} {x9 : Nat} : pm_ev 57 11 [some (.ref x9), b1, b2] (.int x0 :: st) w = pm_ev 57 12 [some (.ref x9), some (.int x0), b2] st w := pm_ny pt_57 d57_11 rfl rfl rfl
theorem d57_12 : decode cX5_text 12 = .ok (.aload_n 0, 1) := by decide +kernel
theorem z57_12 {st : List Value} {w : pm_H} {b1 b2 : Option Value} {x0 : Nat} : pm_ev 57 12 [some (.ref x0), b1, b2] st w = pm_ev 57 13 [some (.ref x0), b1, b2] (.ref x0 :: st) w := pm_ny pt_57 d57_12 rfl rfl rfl
theorem d57_13 : decode cX5_text 13 = .ok (.aload_n 0, 1) := by decide +kernel
theorem z57_13 {st : List Value} {w : pm_H} {b1 b2 : Option Value} {x0 : Nat} : pm_ev 57 13 [some (.ref x0), b1, b2] st w = pm_ev 57 14 [some (.ref x0), b1, b2] (.ref x0 :: st) w := pm_ny pt_57 d57_13 rfl rfl rfl
theorem d57_14 : decode cX5_text 14 = .ok (.getfield 21, 3) := by decide +kernel
theorem z57_14 {st : List Value} {w : pm_H} {pl : pm_L} {x0 : Nat} : pm_ev 57 14 pl (.ref x0 :: st) w = pm_kv 57 17 pl st w (pm_gf (w x0) 5 1) := pm_ng pt_57 pt_F_5_21 d57_14
theorem d57_17 : decode cX5_text 17 = .ok (.getfield 68, 3) := by decide +kernel
theorem z57_17 {st : List Value} {w : pm_H} {pl : pm_L} {x0 : Nat} : pm_ev 57 17 pl (.ref x0 :: st) w = pm_kv 57 20 pl st w (pm_gf (w x0) 2 1) := pm_ng pt_57 pt_F_5_68 d57_17
theorem d57_20 : decode cX5_text 20 = .ok (.putfield 49, 3) := by decide +kernel
theorem z57_20 {st : List Value} {w : pm_H} {pl : pm_L} {x0 : Nat} {x1 : Int32} : pm_ev 57 20 pl (.int x1 :: .ref x0 :: st) w = pm_kw 57 23 pl st (pm_pf w x0 (w x0) 5 6 0 (.int x1)) := pm_np pt_57 pt_F_5_49 d57_20
theorem d57_23 : decode cX5_text 23 = .ok (.aload_n 0, 1) := by decide +kernel
theorem z57_23 {st : List Value} {w : pm_H} {b1 b2 : Option Value} {x0 : Nat} : pm_ev 57 23 [some (.ref x0), b1, b2] st w = pm_ev 57 24 [some (.ref x0), b1, b2] (.ref x0 :: st) w := pm_ny pt_57 d57_23 rfl rfl rfl
theorem d57_24 : decode cX5_text 24 = .ok (.getfield 12, 3) := by decide +kernel
theorem z57_24 {st : List Value} {w : pm_H} {pl : pm_L} {x0 : Nat} : pm_ev 57 24 pl (.ref x0 :: st) w = pm_kv 57 27 pl st w (pm_gf (w x0) 5 0) := pm_ng pt_57 pt_F_5_12 d57_24
theorem d57_27 : decode cX5_text 27 = .ok (.iconst 0, 1) := by decide +kernel
theorem z57_27 {st : List Value} {w : pm_H} {pl : pm_L} : pm_ev 57 27 pl st w = pm_ev 57 28 pl (.int 0 :: st) w := pm_ny pt_57 d57_27 rfl rfl rfl
theorem d57_28 : decode cX5_text 28 = .ok (.putfield 61, 3) := by decide +kernel
theorem z57_28 {st : List Value} {w : pm_H} {pl : pm_L} {x0 : Nat} {x1 : Int32} : pm_ev 57 28 pl (.int x1 :: .ref x0 :: st) w = pm_kw 57 31 pl st (pm_pf w x0 (w x0) 3 1 0 (.int x1)) := pm_np pt_57 pt_F_5_61 d57_28
theorem d57_31 : decode cX5_text 31 = .ok (.aload_n 0, 1) := by decide +kernel
theorem z57_31 {st : List Value} {w : pm_H} {b1 b2 : Option Value} {x0 : Nat} : pm_ev 57 31 [some (.ref x0), b1, b2] st w = pm_ev 57 32 [some (.ref x0), b1, b2] (.ref x0 :: st) w := pm_ny pt_57 d57_31 rfl rfl rfl
theorem d57_32 : decode cX5_text 32 = .ok (.getfield 49, 3) := by decide +kernel
theorem z57_32 {st : List Value} {w : pm_H} {pl : pm_L} {x0 : Nat} : pm_ev 57 32 pl (.ref x0 :: st) w = pm_kv 57 35 pl st w (pm_gf (w x0) 5 6) := pm_ng pt_57 pt_F_5_49 d57_32
theorem d57_35 : decode cX5_text 35 = .ok (.ifCond .eq 13, 3) := by decide +kernel
theorem z57_35 {st : List Value} {w : pm_H} {pl : pm_L} {x0 : Int32} : pm_ev 57 35 pl (.int x0 :: st) w = if x0 = 0 then pm_ev 57 48 pl st w else pm_ev 57 38 pl st w := pm_nif pt_57 d57_35 rfl rfl rfl
theorem d57_38 : decode cX5_text 38 = .ok (.iconst (-1), 1) := by decide +kernel
theorem z57_38 {st : List Value} {w : pm_H} {pl : pm_L} : pm_ev 57 38 pl st w = pm_ev 57 39 pl (.int (-1) :: st) w := pm_ny pt_57 d57_38 rfl rfl rfl
theorem d57_39 : decode cX5_text 39 = .ok (.aload_n 0, 1) := by decide +kernel
theorem z57_39 {st : List Value} {w : pm_H} {b1 b2 : Option Value} {x0 : Nat} : pm_ev 57 39 [some (.ref x0), b1, b2] st w = pm_ev 57 40 [some (.ref x0), b1, b2] (.ref x0 :: st) w := pm_ny pt_57 d57_39 rfl rfl rfl
theorem d57_40 : decode cX5_text 40 = .ok (.getfield 21, 3) := by decide +kernel
theorem z57_40 {st : List Value} {w : pm_H} {pl : pm_L} {x0 : Nat} : pm_ev 57 40 pl (.ref x0 :: st) w = pm_kv 57 43 pl st w (pm_gf (w x0) 5 1) := pm_ng pt_57 pt_F_5_21 d57_40
theorem d57_43 : decode cX5_text 43 = .ok (.getfield 69, 3) := by decide +kernel
theorem z57_43 {st : List Value} {w : pm_H} {pl : pm_L} {x0 : Nat} : pm_ev 57 43 pl (.ref x0 :: st) w = pm_kv 57 46 pl st w (pm_gf (w x0) 2 2) := pm_ng pt_57 pt_F_5_69 d57_43
theorem d57_46 : decode cX5_text 46 = .ok (.isub, 1) := by decide +kernel
theorem z57_46 {st : List Value} {w : pm_H} {pl : pm_L} {x0 x1 : Int32} : pm_ev 57 46 pl (.int x1 :: .int x0 :: st) w = pm_ev 57 47 pl (.int (x0 - x1) :: st) w := pm_ny pt_57 d57_46 rfl rfl rfl
theorem d57_47 : decode cX5_text 47 = .ok (.ireturn, 1) := by decide +kernel
theorem z57_47 {w : pm_H} {pl : pm_L} {x0 : Int32} : pm_ev 57 47 pl [.int x0] w = some (some (.int x0), w) := pm_nr pt_57 d57_47 rfl
theorem d57_48 : decode cX5_text 48 = .ok (.aload_n 0, 1) := by decide +kernel
theorem z57_48 {st : List Value} {w : pm_H} {b1 b2 : Option Value} {x0 : Nat} : pm_ev 57 48 [some (.ref x0), b1, b2] st w = pm_ev 57 49 [some (.ref x0), b1, b2] (.ref x0 :: st) w := pm_ny pt_57 d57_48 rfl rfl rfl
theorem d57_49 : decode cX5_text 49 = .ok (.getfield 46, 3) := by decide +kernel
theorem z57_49 {st : List Value} {w : pm_H} {pl : pm_L} {x0 : Nat} : pm_ev 57 49 pl (.ref x0 :: st) w = pm_kv 57 52 pl st w (pm_gf (w x0) 5 5) := pm_ng pt_57 pt_F_5_46 d57_49
theorem d57_52 : decode cX5_text 52 = .ok (.astore_n 2, 1) := by decide +kernel
theorem z57_52 {st : List Value} {w : pm_H} {b0 b2 : Option Value} {x0 : Nat} {x9 : Int32} : pm_ev 57 52 [b0, some (.int x9), b2] (.ref x0 :: st) w = pm_ev 57 53 [b0, some (.int x9), some (.ref x0)] st w := pm_ny pt_57 d57_52 rfl rfl rfl
theorem d57_53 : decode cX5_text 53 = .ok (.aload_n 0, 1) := by decide +kernel
theorem z57_53 {st : List Value} {w : pm_H} {b1 b2 : Option Value} {x0 : Nat} : pm_ev 57 53 [some (.ref x0), b1, b2] st w = pm_ev 57 54 [some (.ref x0), b1, b2] (.ref x0 :: st) w := pm_ny pt_57 d57_53 rfl rfl rfl
theorem d57_54 : decode cX5_text 54 = .ok (.aload_n 0, 1) := by decide +kernel
theorem z57_54 {st : List Value} {w : pm_H} {b1 b2 : Option Value} {x0 : Nat} : pm_ev 57 54 [some (.ref x0), b1, b2] st w = pm_ev 57 55 [some (.ref x0), b1, b2] (.ref x0 :: st) w := pm_ny pt_57 d57_54 rfl rfl rfl
theorem d57_55 : decode cX5_text 55 = .ok (.getfield 42, 3) := by decide +kernel
theorem z57_55 {st : List Value} {w : pm_H} {pl : pm_L} {x0 : Nat} : pm_ev 57 55 pl (.ref x0 :: st) w = pm_kv 57 58 pl st w (pm_gf (w x0) 5 4) := pm_ng pt_57 pt_F_5_42 d57_55
theorem d57_58 : decode cX5_text 58 = .ok (.putfield 46, 3) := by decide +kernel
theorem z57_58 {st : List Value} {w : pm_H} {pl : pm_L} {x0 : Nat} {x1 : Nat} : pm_ev 57 58 pl (.ref x1 :: .ref x0 :: st) w = pm_kw 57 61 pl st (pm_pf w x0 (w x0) 5 5 2 (.ref x1)) := pm_np pt_57 pt_F_5_46 d57_58
theorem d57_61 : decode cX5_text 61 = .ok (.aload_n 0, 1) := by decide +kernel
theorem z57_61 {st : List Value} {w : pm_H} {b1 b2 : Option Value} {x0 : Nat} : pm_ev 57 61 [some (.ref x0), b1, b2] st w = pm_ev 57 62 [some (.ref x0), b1, b2] (.ref x0 :: st) w := pm_ny pt_57 d57_61 rfl rfl rfl
theorem d57_62 : decode cX5_text 62 = .ok (.aload_n 2, 1) := by decide +kernel
theorem z57_62 {st : List Value} {w : pm_H} {b0 b1 : Option Value} {x0 : Nat} : pm_ev 57 62 [b0, b1, some (.ref x0)] st w = pm_ev 57 63 [b0, b1, some (.ref x0)] (.ref x0 :: st) w := pm_ny pt_57 d57_62 rfl rfl rfl
theorem d57_63 : decode cX5_text 63 = .ok (.putfield 42, 3) := by decide +kernel
theorem z57_63 {st : List Value} {w : pm_H} {pl : pm_L} {x0 : Nat} {x1 : Nat} : pm_ev 57 63 pl (.ref x1 :: .ref x0 :: st) w = pm_kw 57 66 pl st (pm_pf w x0 (w x0) 5 4 2 (.ref x1)) := pm_np pt_57 pt_F_5_42 d57_63
theorem d57_66 : decode cX5_text 66 = .ok (.aload_n 0, 1) := by decide +kernel
theorem z57_66 {st : List Value} {w : pm_H} {b1 b2 : Option Value} {x0 : Nat} : pm_ev 57 66 [some (.ref x0), b1, b2] st w = pm_ev 57 67 [some (.ref x0), b1, b2] (.ref x0 :: st) w := pm_ny pt_57 d57_66 rfl rfl rfl
theorem d57_67 : decode cX5_text 67 = .ok (.getfield 35, 3) := by decide +kernel
theorem z57_67 {st : List Value} {w : pm_H} {pl : pm_L} {x0 : Nat} : pm_ev 57 67 pl (.ref x0 :: st) w = pm_kv 57 70 pl st w (pm_gf (w x0) 5 3) := pm_ng pt_57 pt_F_5_35 d57_67
theorem d57_70 : decode cX5_text 70 = .ok (.iconst 0, 1) := by decide +kernel
theorem z57_70 {st : List Value} {w : pm_H} {pl : pm_L} : pm_ev 57 70 pl st w = pm_ev 57 71 pl (.int 0 :: st) w := pm_ny pt_57 d57_70 rfl rfl rfl
theorem d57_71 : decode cX5_text 71 = .ok (.putfield 72, 3) := by decide +kernel
theorem z57_71 {st : List Value} {w : pm_H} {pl : pm_L} {x0 : Nat} {x1 : Int32} : pm_ev 57 71 pl (.int x1 :: .ref x0 :: st) w = pm_kw 57 74 pl st (pm_pf w x0 (w x0) 1 0 0 (.int x1)) := pm_np pt_57 pt_F_5_72 d57_71
theorem d57_74 : decode cX5_text 74 = .ok (.iload_n 1, 1) := by decide +kernel
theorem z57_74 {st : List Value} {w : pm_H} {b0 b2 : Option Value} {x0 : Int32} : pm_ev 57 74 [b0, some (.int x0), b2] st w = pm_ev 57 75 [b0, some (.int x0), b2] (.int x0 :: st) w := pm_ny pt_57 d57_74 rfl rfl rfl
theorem d57_75 : decode cX5_text 75 = .ok (.ireturn, 1) := by decide +kernel
theorem z57_75 {w : pm_H} {pl : pm_L} {x0 : Int32} : pm_ev 57 75 pl [.int x0] w = some (some (.int x0), w) := pm_nr pt_57 d57_75 rfl
theorem d58_0 : decode cX5_leastTerm 0 = .ok (.iload_n 0, 1) := by decide +kernel
theorem z58_0 {st : List Value} {w : pm_H}  {x0 : Int32} : pm_ev 58 0 [some (.int x0)] st w = pm_ev 58 1 [some (.int x0)] (.int x0 :: st) w := pm_ny pt_58 d58_0 rfl rfl rfl
theorem d58_1 : decode cX5_leastTerm 1 = .ok (.ifCond .ne 7, 3) := by decide +kernel
theorem z58_1 {st : List Value} {w : pm_H} {pl : pm_L} {x0 : Int32} : pm_ev 58 1 pl (.int x0 :: st) w = if x0 = 0 then pm_ev 58 4 pl st w else pm_ev 58 8 pl st w := pm_nin (c := ¬ x0 = 0) pt_58 d58_1 rfl rfl rfl Iff.rfl
theorem d58_4 : decode cX5_leastTerm 4 = .ok (.iconst 1, 1) := by decide +kernel
theorem z58_4 {st : List Value} {w : pm_H} {pl : pm_L} : pm_ev 58 4 pl st w = pm_ev 58 5 pl (.int 1 :: st) w := pm_ny pt_58 d58_4 rfl rfl rfl
theorem d58_5 : decode cX5_leastTerm 5 = .ok (.goto 4, 3) := by decide +kernel
theorem z58_5 {st : List Value} {w : pm_H} {pl : pm_L} : pm_ev 58 5 pl st w = pm_ev 58 9 pl st w := pm_ny pt_58 d58_5 rfl rfl rfl
theorem d58_8 : decode cX5_leastTerm 8 = .ok (.iconst 0, 1) := by decide +kernel
theorem z58_8 {st : List Value} {w : pm_H} {pl : pm_L} : pm_ev 58 8 pl st w = pm_ev 58 9 pl (.int 0 :: st) w := pm_ny pt_58 d58_8 rfl rfl rfl
theorem d58_9 : decode cX5_leastTerm 9 = .ok (.ireturn, 1) := by decide +kernel
theorem z58_9 {w : pm_H} {pl : pm_L} {x0 : Int32} : pm_ev 58 9 pl [.int x0] w = some (some (.int x0), w) := pm_nr pt_58 d58_9 rfl
theorem d59_0 : decode cX5_mostTerm 0 = .ok (.iload_n 0, 1) := by decide +kernel
theorem z59_0 {st : List Value} {w : pm_H}  {x0 : Int32} : pm_ev 59 0 [some (.int x0)] st w = pm_ev 59 1 [some (.int x0)] (.int x0 :: st) w := pm_ny pt_59 d59_0 rfl rfl rfl
theorem d59_1 : decode cX5_mostTerm 1 = .ok (.ifCond .ne 9, 3) := by decide +kernel
theorem z59_1 {st : List Value} {w : pm_H} {pl : pm_L} {x0 : Int32} : pm_ev 59 1 pl (.int x0 :: st) w = if x0 = 0 then pm_ev 59 4 pl st w else pm_ev 59 10 pl st w := pm_nin (c := ¬ x0 = 0) pt_59 d59_1 rfl rfl rfl Iff.rfl
theorem d59_4 : decode cX5_mostTerm 4 = .ok (.sipush 9999, 3) := by decide +kernel
theorem z59_4 {st : List Value} {w : pm_H} {pl : pm_L} : pm_ev 59 4 pl st w = pm_ev 59 7 pl (.int 9999 :: st) w := pm_ny pt_59 d59_4 rfl rfl rfl
theorem d59_7 : decode cX5_mostTerm 7 = .ok (.goto 5, 3) := by decide +kernel
theorem z59_7 {st : List Value} {w : pm_H} {pl : pm_L} : pm_ev 59 7 pl st w = pm_ev 59 12 pl st w := pm_ny pt_59 d59_7 rfl rfl rfl
theorem d59_10 : decode cX5_mostTerm 10 = .ok (.ldc 245, 2) := by decide +kernel
theorem z59_10 {st : List Value} {w : pm_H} {pl : pm_L} : pm_ev 59 10 pl st w = pm_ev 59 12 pl (.int (99999) :: st) w := pm_nk pt_59 pt_K_5_245 (by decide) d59_10
theorem d59_12 : decode cX5_mostTerm 12 = .ok (.ireturn, 1) := by decide +kernel
theorem z59_12 {w : pm_H} {pl : pm_L} {x0 : Int32} : pm_ev 59 12 pl [.int x0] w = some (some (.int x0), w) := pm_nr pt_59 d59_12 rfl
theorem d60_0 : decode cX5_fault 0 = .ok (.aload_n 0, 1) := by decide +kernel
theorem z60_0 {st : List Value} {w : pm_H}  {x0 : Nat} : pm_ev 60 0 [some (.ref x0)] st w = pm_ev 60 1 [some (.ref x0)] (.ref x0 :: st) w := pm_ny pt_60 d60_0 rfl rfl rfl
theorem d60_1 : decode cX5_fault 1 = .ok (.getfield 49, 3) := by decide +kernel
theorem z60_1 {st : List Value} {w : pm_H} {pl : pm_L} {x0 : Nat} : pm_ev 60 1 pl (.ref x0 :: st) w = pm_kv 60 4 pl st w (pm_gf (w x0) 5 6) := pm_ng pt_60 pt_F_5_49 d60_1
theorem d60_4 : decode cX5_fault 4 = .ok (.ireturn, 1) := by decide +kernel
theorem z60_4 {w : pm_H} {pl : pm_L} {x0 : Int32} : pm_ev 60 4 pl [.int x0] w = some (some (.int x0), w) := pm_nr pt_60 d60_4 rfl
theorem d61_0 : decode cX5_now 0 = .ok (.iload_n 1, 1) := by decide +kernel
theorem z61_0 {st : List Value} {w : pm_H} {b0 : Option Value} {x0 : Int32} : pm_ev 61 0 [b0, some (.int x0)] st w = pm_ev 61 1 [b0, some (.int x0)] (.int x0 :: st) w := pm_ny pt_61 d61_0 rfl rfl rfl
theorem d61_1 : decode cX5_now 1 = .ok (.tableswitch 102 0 6 #[43, 51, 59, 67, 78, 86, 94], 43) := by decide +kernel
theorem z61_1 {st : List Value} {w : pm_H} {pl : pm_L} {x0 : Int32} : pm_ev 61 1 pl (.int x0 :: st) w = if x0 = 0 then pm_ev 61 44 pl st w else if x0 = 1 then pm_ev 61 52 pl st w else if x0 = 2 then pm_ev 61 60 pl st w else if x0 = 3 then pm_ev 61 68 pl st w else if x0 = 4 then pm_ev 61 79 pl st w else if x0 = 5 then pm_ev 61 87 pl st w else if x0 = 6 then pm_ev 61 95 pl st w else pm_ev 61 103 pl st w := by
  by_cases h0 : x0 = 0
  · subst h0; exact pm_ny pt_61 d61_1 rfl rfl rfl
  by_cases h1 : x0 = 1
  · subst h1; exact pm_ny pt_61 d61_1 rfl rfl rfl
  by_cases h2 : x0 = 2
  · subst h2; exact pm_ny pt_61 d61_1 rfl rfl rfl
  by_cases h3 : x0 = 3
  · subst h3; exact pm_ny pt_61 d61_1 rfl rfl rfl
  by_cases h4 : x0 = 4
  · subst h4; exact pm_ny pt_61 d61_1 rfl rfl rfl
  by_cases h5 : x0 = 5
  · subst h5; exact pm_ny pt_61 d61_1 rfl rfl rfl
  by_cases h6 : x0 = 6
  · subst h6; exact pm_ny pt_61 d61_1 rfl rfl rfl
  rw [if_neg h0, if_neg h1, if_neg h2, if_neg h3, if_neg h4, if_neg h5, if_neg h6]
  have hx : x0.toInt < 0 ∨ 6 < x0.toInt := by
    have e0 : x0.toInt ≠ 0 := fun h => h0 (Int32.toInt_inj.mp (h.trans (by decide)))
    have e1 : x0.toInt ≠ 1 := fun h => h1 (Int32.toInt_inj.mp (h.trans (by decide)))
    have e2 : x0.toInt ≠ 2 := fun h => h2 (Int32.toInt_inj.mp (h.trans (by decide)))
    have e3 : x0.toInt ≠ 3 := fun h => h3 (Int32.toInt_inj.mp (h.trans (by decide)))
    have e4 : x0.toInt ≠ 4 := fun h => h4 (Int32.toInt_inj.mp (h.trans (by decide)))
    have e5 : x0.toInt ≠ 5 := fun h => h5 (Int32.toInt_inj.mp (h.trans (by decide)))
    have e6 : x0.toInt ≠ 6 := fun h => h6 (Int32.toInt_inj.mp (h.trans (by decide)))
    omega
  exact pm_ny (pc' := 103) (pl' := pl) (st' := st) (w' := w) pt_61 d61_1 rfl rfl (show pm_or (if x0.toInt < 0 ∨ 6 < x0.toInt then some (103, pl, st, w) else _) _ = _ by rw [if_pos hx]; rfl)
theorem d61_44 : decode cX5_now 44 = .ok (.aload_n 0, 1) := by decide +kernel
theorem z61_44 {st : List Value} {w : pm_H} {b1 : Option Value} {x0 : Nat} : pm_ev 61 44 [some (.ref x0), b1] st w = pm_ev 61 45 [some (.ref x0), b1] (.ref x0 :: st) w := pm_ny pt_61 d61_44 rfl rfl rfl
theorem d61_45 : decode cX5_now 45 = .ok (.getfield 42, 3) := by decide +kernel
theorem z61_45 {st : List Value} {w : pm_H} {pl : pm_L} {x0 : Nat} : pm_ev 61 45 pl (.ref x0 :: st) w = pm_kv 61 48 pl st w (pm_gf (w x0) 5 4) := pm_ng pt_61 pt_F_5_42 d61_45
theorem d61_48 : decode cX5_now 48 = .ok (.getfield 75, 3) := by decide +kernel
theorem z61_48 {st : List Value} {w : pm_H} {pl : pm_L} {x0 : Nat} : pm_ev 61 48 pl (.ref x0 :: st) w = pm_kv 61 51 pl st w (pm_gf (w x0) 4 3) := pm_ng pt_61 pt_F_5_75 d61_48
theorem d61_51 : decode cX5_now 51 = .ok (.ireturn, 1) := by decide +kernel
theorem z61_51 {w : pm_H} {pl : pm_L} {x0 : Int32} : pm_ev 61 51 pl [.int x0] w = some (some (.int x0), w) := pm_nr pt_61 d61_51 rfl
theorem d61_52 : decode cX5_now 52 = .ok (.aload_n 0, 1) := by decide +kernel
theorem z61_52 {st : List Value} {w : pm_H} {b1 : Option Value} {x0 : Nat} : pm_ev 61 52 [some (.ref x0), b1] st w = pm_ev 61 53 [some (.ref x0), b1] (.ref x0 :: st) w := pm_ny pt_61 d61_52 rfl rfl rfl
theorem d61_53 : decode cX5_now 53 = .ok (.getfield 42, 3) := by decide +kernel
theorem z61_53 {st : List Value} {w : pm_H} {pl : pm_L} {x0 : Nat} : pm_ev 61 53 pl (.ref x0 :: st) w = pm_kv 61 56 pl st w (pm_gf (w x0) 5 4) := pm_ng pt_61 pt_F_5_42 d61_53
theorem d61_56 : decode cX5_now 56 = .ok (.getfield 78, 3) := by decide +kernel
theorem z61_56 {st : List Value} {w : pm_H} {pl : pm_L} {x0 : Nat} : pm_ev 61 56 pl (.ref x0 :: st) w = pm_kv 61 59 pl st w (pm_gf (w x0) 4 7) := pm_ng pt_61 pt_F_5_78 d61_56
theorem d61_59 : decode cX5_now 59 = .ok (.ireturn, 1) := by decide +kernel
theorem z61_59 {w : pm_H} {pl : pm_L} {x0 : Int32} : pm_ev 61 59 pl [.int x0] w = some (some (.int x0), w) := pm_nr pt_61 d61_59 rfl
theorem d61_60 : decode cX5_now 60 = .ok (.aload_n 0, 1) := by decide +kernel
theorem z61_60 {st : List Value} {w : pm_H} {b1 : Option Value} {x0 : Nat} : pm_ev 61 60 [some (.ref x0), b1] st w = pm_ev 61 61 [some (.ref x0), b1] (.ref x0 :: st) w := pm_ny pt_61 d61_60 rfl rfl rfl
theorem d61_61 : decode cX5_now 61 = .ok (.getfield 42, 3) := by decide +kernel
theorem z61_61 {st : List Value} {w : pm_H} {pl : pm_L} {x0 : Nat} : pm_ev 61 61 pl (.ref x0 :: st) w = pm_kv 61 64 pl st w (pm_gf (w x0) 5 4) := pm_ng pt_61 pt_F_5_42 d61_61
theorem d61_64 : decode cX5_now 64 = .ok (.invokevirtual 81, 3) := by decide +kernel
theorem z61_64 {w : pm_H} {b0 b1 : Option Value} {x0 : Nat} : pm_ev 61 64 [b0, b1] [.ref x0] w = pm_k 61 67 [b0, b1] [] (pm_vc (w x0) 4 (pm_call 31 [.ref x0] w)) := pm_nv pt_61 pt_31 pt_M_5_81 d61_64 ⟨rfl, rfl⟩ ⟨⟨rfl, Nat.le_of_ble_eq_true rfl, Nat.le_of_ble_eq_true rfl, Nat.le_of_ble_eq_true rfl, Nat.le_of_ble_eq_true rfl⟩, rfl⟩
theorem d61_67 : decode cX5_now 67 = .ok (.ireturn, 1) := by decide +kernel
theorem z61_67 {w : pm_H} {pl : pm_L} {x0 : Int32} : pm_ev 61 67 pl [.int x0] w = some (some (.int x0), w) := pm_nr pt_61 d61_67 rfl
theorem d61_68 : decode cX5_now 68 = .ok (.aload_n 0, 1) := by decide +kernel
theorem z61_68 {st : List Value} {w : pm_H} {b1 : Option Value} {x0 : Nat} : pm_ev 61 68 [some (.ref x0), b1] st w = pm_ev 61 69 [some (.ref x0), b1] (.ref x0 :: st) w := pm_ny pt_61 d61_68 rfl rfl rfl
theorem d61_69 : decode cX5_now 69 = .ok (.getfield 42, 3) := by decide +kernel
theorem z61_69 {st : List Value} {w : pm_H} {pl : pm_L} {x0 : Nat} : pm_ev 61 69 pl (.ref x0 :: st) w = pm_kv 61 72 pl st w (pm_gf (w x0) 5 4) := pm_ng pt_61 pt_F_5_42 d61_69
theorem d61_72 : decode cX5_now 72 = .ok (.sipush 359, 3) := by decide +kernel
theorem z61_72 {st : List Value} {w : pm_H} {pl : pm_L} : pm_ev 61 72 pl st w = pm_ev 61 75 pl (.int 359 :: st) w := pm_ny pt_61 d61_72 rfl rfl rfl
theorem d61_75 : decode cX5_now 75 = .ok (.invokevirtual 85, 3) := by decide +kernel
theorem z61_75 {w : pm_H} {b0 b1 : Option Value} {x0 : Int32} {x1 : Nat} : pm_ev 61 75 [b0, b1] [.int x0, .ref x1] w = pm_k 61 78 [b0, b1] [] (pm_vc (w x1) 4 (pm_call 36 [.ref x1, .int x0] w)) := pm_nv pt_61 pt_36 pt_M_5_85 d61_75 ⟨rfl, rfl⟩ ⟨⟨rfl, Nat.le_of_ble_eq_true rfl, Nat.le_of_ble_eq_true rfl, Nat.le_of_ble_eq_true rfl, Nat.le_of_ble_eq_true rfl⟩, rfl⟩
theorem d61_78 : decode cX5_now 78 = .ok (.ireturn, 1) := by decide +kernel
theorem z61_78 {w : pm_H} {pl : pm_L} {x0 : Int32} : pm_ev 61 78 pl [.int x0] w = some (some (.int x0), w) := pm_nr pt_61 d61_78 rfl
theorem d61_79 : decode cX5_now 79 = .ok (.aload_n 0, 1) := by decide +kernel
theorem z61_79 {st : List Value} {w : pm_H} {b1 : Option Value} {x0 : Nat} : pm_ev 61 79 [some (.ref x0), b1] st w = pm_ev 61 80 [some (.ref x0), b1] (.ref x0 :: st) w := pm_ny pt_61 d61_79 rfl rfl rfl
theorem d61_80 : decode cX5_now 80 = .ok (.getfield 42, 3) := by decide +kernel
theorem z61_80 {st : List Value} {w : pm_H} {pl : pm_L} {x0 : Nat} : pm_ev 61 80 pl (.ref x0 :: st) w = pm_kv 61 83 pl st w (pm_gf (w x0) 5 4) := pm_ng pt_61 pt_F_5_42 d61_80
theorem d61_83 : decode cX5_now 83 = .ok (.invokevirtual 89, 3) := by decide +kernel
theorem z61_83 {w : pm_H} {b0 b1 : Option Value} {x0 : Nat} : pm_ev 61 83 [b0, b1] [.ref x0] w = pm_k 61 86 [b0, b1] [] (pm_vc (w x0) 4 (pm_call 33 [.ref x0] w)) := pm_nv pt_61 pt_33 pt_M_5_89 d61_83 ⟨rfl, rfl⟩ ⟨⟨rfl, Nat.le_of_ble_eq_true rfl, Nat.le_of_ble_eq_true rfl, Nat.le_of_ble_eq_true rfl, Nat.le_of_ble_eq_true rfl⟩, rfl⟩
theorem d61_86 : decode cX5_now 86 = .ok (.ireturn, 1) := by decide +kernel
theorem z61_86 {w : pm_H} {pl : pm_L} {x0 : Int32} : pm_ev 61 86 pl [.int x0] w = some (some (.int x0), w) := pm_nr pt_61 d61_86 rfl
theorem d61_87 : decode cX5_now 87 = .ok (.aload_n 0, 1) := by decide +kernel
theorem z61_87 {st : List Value} {w : pm_H} {b1 : Option Value} {x0 : Nat} : pm_ev 61 87 [some (.ref x0), b1] st w = pm_ev 61 88 [some (.ref x0), b1] (.ref x0 :: st) w := pm_ny pt_61 d61_87 rfl rfl rfl
theorem d61_88 : decode cX5_now 88 = .ok (.getfield 35, 3) := by decide +kernel
theorem z61_88 {st : List Value} {w : pm_H} {pl : pm_L} {x0 : Nat} : pm_ev 61 88 pl (.ref x0 :: st) w = pm_kv 61 91 pl st w (pm_gf (w x0) 5 3) := pm_ng pt_61 pt_F_5_35 d61_88
theorem d61_91 : decode cX5_now 91 = .ok (.getfield 72, 3) := by decide +kernel
theorem z61_91 {st : List Value} {w : pm_H} {pl : pm_L} {x0 : Nat} : pm_ev 61 91 pl (.ref x0 :: st) w = pm_kv 61 94 pl st w (pm_gf (w x0) 1 0) := pm_ng pt_61 pt_F_5_72 d61_91
theorem d61_94 : decode cX5_now 94 = .ok (.ireturn, 1) := by decide +kernel
theorem z61_94 {w : pm_H} {pl : pm_L} {x0 : Int32} : pm_ev 61 94 pl [.int x0] w = some (some (.int x0), w) := pm_nr pt_61 d61_94 rfl
theorem d61_95 : decode cX5_now 95 = .ok (.aload_n 0, 1) := by decide +kernel
theorem z61_95 {st : List Value} {w : pm_H} {b1 : Option Value} {x0 : Nat} : pm_ev 61 95 [some (.ref x0), b1] st w = pm_ev 61 96 [some (.ref x0), b1] (.ref x0 :: st) w := pm_ny pt_61 d61_95 rfl rfl rfl
theorem d61_96 : decode cX5_now 96 = .ok (.getfield 12, 3) := by decide +kernel
theorem z61_96 {st : List Value} {w : pm_H} {pl : pm_L} {x0 : Nat} : pm_ev 61 96 pl (.ref x0 :: st) w = pm_kv 61 99 pl st w (pm_gf (w x0) 5 0) := pm_ng pt_61 pt_F_5_12 d61_96
theorem d61_99 : decode cX5_now 99 = .ok (.getfield 61, 3) := by decide +kernel
theorem z61_99 {st : List Value} {w : pm_H} {pl : pm_L} {x0 : Nat} : pm_ev 61 99 pl (.ref x0 :: st) w = pm_kv 61 102 pl st w (pm_gf (w x0) 3 1) := pm_ng pt_61 pt_F_5_61 d61_99
theorem d61_102 : decode cX5_now 102 = .ok (.ireturn, 1) := by decide +kernel
theorem z61_102 {w : pm_H} {pl : pm_L} {x0 : Int32} : pm_ev 61 102 pl [.int x0] w = some (some (.int x0), w) := pm_nr pt_61 d61_102 rfl
theorem d61_103 : decode cX5_now 103 = .ok (.iconst (-1), 1) := by decide +kernel
theorem z61_103 {st : List Value} {w : pm_H} {pl : pm_L} : pm_ev 61 103 pl st w = pm_ev 61 104 pl (.int (-1) :: st) w := pm_ny pt_61 d61_103 rfl rfl rfl
theorem d61_104 : decode cX5_now 104 = .ok (.ireturn, 1) := by decide +kernel
theorem z61_104 {w : pm_H} {pl : pm_L} {x0 : Int32} : pm_ev 61 104 pl [.int x0] w = some (some (.int x0), w) := pm_nr pt_61 d61_104 rfl
theorem d62_0 : decode cX5_shares 0 = .ok (.iload_n 1, 1) := by decide +kernel
theorem z62_0 {st : List Value} {w : pm_H} {b0 b2 : Option Value} {x0 : Int32} : pm_ev 62 0 [b0, some (.int x0), b2] st w = pm_ev 62 1 [b0, some (.int x0), b2] (.int x0 :: st) w := pm_ny pt_62 d62_0 rfl rfl rfl
theorem d62_1 : decode cX5_shares 1 = .ok (.invokestatic 92, 3) := by decide +kernel
theorem z62_1 {w : pm_H} {b0 b1 b2 : Option Value} {x0 : Int32} : pm_ev 62 1 [b0, b1, b2] [.int x0] w = pm_k 62 4 [b0, b1, b2] [] (pm_call 63 [.int x0] w) := pm_ns pt_62 pt_63 pt_M_5_92 (Or.inl rfl) d62_1 ⟨rfl, rfl⟩ ⟨⟨rfl, Nat.le_of_ble_eq_true rfl, Nat.le_of_ble_eq_true rfl, Nat.le_of_ble_eq_true rfl, Nat.le_of_ble_eq_true rfl⟩, rfl⟩
theorem d62_4 : decode cX5_shares 4 = .ok (.ifCond .ne 5, 3) := by decide +kernel
theorem z62_4 {st : List Value} {w : pm_H} {pl : pm_L} {x0 : Int32} : pm_ev 62 4 pl (.int x0 :: st) w = if x0 = 0 then pm_ev 62 7 pl st w else pm_ev 62 9 pl st w := pm_nin (c := ¬ x0 = 0) pt_62 d62_4 rfl rfl rfl Iff.rfl
theorem d62_7 : decode cX5_shares 7 = .ok (.iconst (-1), 1) := by decide +kernel
theorem z62_7 {st : List Value} {w : pm_H} {pl : pm_L} : pm_ev 62 7 pl st w = pm_ev 62 8 pl (.int (-1) :: st) w := pm_ny pt_62 d62_7 rfl rfl rfl
theorem d62_8 : decode cX5_shares 8 = .ok (.ireturn, 1) := by decide +kernel
theorem z62_8 {w : pm_H} {pl : pm_L} {x0 : Int32} : pm_ev 62 8 pl [.int x0] w = some (some (.int x0), w) := pm_nr pt_62 d62_8 rfl
theorem d62_9 : decode cX5_shares 9 = .ok (.iload_n 2, 1) := by decide +kernel
theorem z62_9 {st : List Value} {w : pm_H} {b0 b1 : Option Value} {x0 : Int32} : pm_ev 62 9 [b0, b1, some (.int x0)] st w = pm_ev 62 10 [b0, b1, some (.int x0)] (.int x0 :: st) w := pm_ny pt_62 d62_9 rfl rfl rfl
theorem d62_10 : decode cX5_shares 10 = .ok (.ifCond .eq 14, 3) := by decide +kernel
theorem z62_10 {st : List Value} {w : pm_H} {pl : pm_L} {x0 : Int32} : pm_ev 62 10 pl (.int x0 :: st) w = if x0 = 0 then pm_ev 62 24 pl st w else pm_ev 62 13 pl st w := pm_nif pt_62 d62_10 rfl rfl rfl
theorem d62_13 : decode cX5_shares 13 = .ok (.aload_n 0, 1) := by decide +kernel
theorem z62_13 {st : List Value} {w : pm_H} {b1 b2 : Option Value} {x0 : Nat} : pm_ev 62 13 [some (.ref x0), b1, b2] st w = pm_ev 62 14 [some (.ref x0), b1, b2] (.ref x0 :: st) w := pm_ny pt_62 d62_13 rfl rfl rfl
theorem d62_14 : decode cX5_shares 14 = .ok (.getfield 42, 3) := by decide +kernel
theorem z62_14 {st : List Value} {w : pm_H} {pl : pm_L} {x0 : Nat} : pm_ev 62 14 pl (.ref x0 :: st) w = pm_kv 62 17 pl st w (pm_gf (w x0) 5 4) := pm_ng pt_62 pt_F_5_42 d62_14
theorem d62_17 : decode cX5_shares 17 = .ok (.iload_n 1, 1) := by decide +kernel
theorem z62_17 {st : List Value} {w : pm_H} {b0 b2 : Option Value} {x0 : Int32} : pm_ev 62 17 [b0, some (.int x0), b2] st w = pm_ev 62 18 [b0, some (.int x0), b2] (.int x0 :: st) w := pm_ny pt_62 d62_17 rfl rfl rfl
theorem d62_18 : decode cX5_shares 18 = .ok (.invokevirtual 96, 3) := by decide +kernel
theorem z62_18 {w : pm_H} {b0 b1 b2 : Option Value} {x0 : Int32} {x1 : Nat} : pm_ev 62 18 [b0, b1, b2] [.int x0, .ref x1] w = pm_k 62 21 [b0, b1, b2] [] (pm_vc (w x1) 4 (pm_call 40 [.ref x1, .int x0] w)) := pm_nv pt_62 pt_40 pt_M_5_96 d62_18 ⟨rfl, rfl⟩ ⟨⟨rfl, Nat.le_of_ble_eq_true rfl, Nat.le_of_ble_eq_true rfl, Nat.le_of_ble_eq_true rfl, Nat.le_of_ble_eq_true rfl⟩, rfl⟩
theorem d62_21 : decode cX5_shares 21 = .ok (.goto 11, 3) := by decide +kernel
theorem z62_21 {st : List Value} {w : pm_H} {pl : pm_L} : pm_ev 62 21 pl st w = pm_ev 62 32 pl st w := pm_ny pt_62 d62_21 rfl rfl rfl
theorem d62_24 : decode cX5_shares 24 = .ok (.aload_n 0, 1) := by decide +kernel
theorem z62_24 {st : List Value} {w : pm_H} {b1 b2 : Option Value} {x0 : Nat} : pm_ev 62 24 [some (.ref x0), b1, b2] st w = pm_ev 62 25 [some (.ref x0), b1, b2] (.ref x0 :: st) w := pm_ny pt_62 d62_24 rfl rfl rfl
theorem d62_25 : decode cX5_shares 25 = .ok (.getfield 42, 3) := by decide +kernel
theorem z62_25 {st : List Value} {w : pm_H} {pl : pm_L} {x0 : Nat} : pm_ev 62 25 pl (.ref x0 :: st) w = pm_kv 62 28 pl st w (pm_gf (w x0) 5 4) := pm_ng pt_62 pt_F_5_42 d62_25
theorem d62_28 : decode cX5_shares 28 = .ok (.iload_n 1, 1) := by decide +kernel
theorem z62_28 {st : List Value} {w : pm_H} {b0 b2 : Option Value} {x0 : Int32} : pm_ev 62 28 [b0, some (.int x0), b2] st w = pm_ev 62 29 [b0, some (.int x0), b2] (.int x0 :: st) w := pm_ny pt_62 d62_28 rfl rfl rfl
theorem d62_29 : decode cX5_shares 29 = .ok (.invokevirtual 85, 3) := by decide +kernel
theorem z62_29 {w : pm_H} {b0 b1 b2 : Option Value} {x0 : Int32} {x1 : Nat} : pm_ev 62 29 [b0, b1, b2] [.int x0, .ref x1] w = pm_k 62 32 [b0, b1, b2] [] (pm_vc (w x1) 4 (pm_call 36 [.ref x1, .int x0] w)) := pm_nv pt_62 pt_36 pt_M_5_85 d62_29 ⟨rfl, rfl⟩ ⟨⟨rfl, Nat.le_of_ble_eq_true rfl, Nat.le_of_ble_eq_true rfl, Nat.le_of_ble_eq_true rfl, Nat.le_of_ble_eq_true rfl⟩, rfl⟩
theorem d62_32 : decode cX5_shares 32 = .ok (.ireturn, 1) := by decide +kernel
theorem z62_32 {w : pm_H} {pl : pm_L} {x0 : Int32} : pm_ev 62 32 pl [.int x0] w = some (some (.int x0), w) := pm_nr pt_62 d62_32 rfl
theorem d63_0 : decode cX5_isDay 0 = .ok (.iload_n 0, 1) := by decide +kernel
theorem z63_0 {st : List Value} {w : pm_H}  {x0 : Int32} : pm_ev 63 0 [some (.int x0)] st w = pm_ev 63 1 [some (.int x0)] (.int x0 :: st) w := pm_ny pt_63 d63_0 rfl rfl rfl
theorem d63_1 : decode cX5_isDay 1 = .ok (.ifCond .lt 14, 3) := by decide +kernel
theorem z63_1 {st : List Value} {w : pm_H} {pl : pm_L} {x0 : Int32} : pm_ev 63 1 pl (.int x0 :: st) w = if x0 < 0 then pm_ev 63 15 pl st w else pm_ev 63 4 pl st w := pm_nif pt_63 d63_1 rfl rfl rfl
theorem d63_4 : decode cX5_isDay 4 = .ok (.iload_n 0, 1) := by decide +kernel
theorem z63_4 {st : List Value} {w : pm_H}  {x0 : Int32} : pm_ev 63 4 [some (.int x0)] st w = pm_ev 63 5 [some (.int x0)] (.int x0 :: st) w := pm_ny pt_63 d63_4 rfl rfl rfl
theorem d63_5 : decode cX5_isDay 5 = .ok (.sipush 359, 3) := by decide +kernel
theorem z63_5 {st : List Value} {w : pm_H} {pl : pm_L} : pm_ev 63 5 pl st w = pm_ev 63 8 pl (.int 359 :: st) w := pm_ny pt_63 d63_5 rfl rfl rfl
theorem d63_8 : decode cX5_isDay 8 = .ok (.if_icmp .gt 7, 3) := by decide +kernel
theorem z63_8 {st : List Value} {w : pm_H} {pl : pm_L} {x0 x1 : Int32} : pm_ev 63 8 pl (.int x1 :: .int x0 :: st) w = if x1 < x0 then pm_ev 63 15 pl st w else pm_ev 63 11 pl st w := pm_nif pt_63 d63_8 rfl rfl rfl
theorem d63_11 : decode cX5_isDay 11 = .ok (.iconst 1, 1) := by decide +kernel
theorem z63_11 {st : List Value} {w : pm_H} {pl : pm_L} : pm_ev 63 11 pl st w = pm_ev 63 12 pl (.int 1 :: st) w := pm_ny pt_63 d63_11 rfl rfl rfl
theorem d63_12 : decode cX5_isDay 12 = .ok (.goto 4, 3) := by decide +kernel
theorem z63_12 {st : List Value} {w : pm_H} {pl : pm_L} : pm_ev 63 12 pl st w = pm_ev 63 16 pl st w := pm_ny pt_63 d63_12 rfl rfl rfl
theorem d63_15 : decode cX5_isDay 15 = .ok (.iconst 0, 1) := by decide +kernel
theorem z63_15 {st : List Value} {w : pm_H} {pl : pm_L} : pm_ev 63 15 pl st w = pm_ev 63 16 pl (.int 0 :: st) w := pm_ny pt_63 d63_15 rfl rfl rfl
theorem d63_16 : decode cX5_isDay 16 = .ok (.ireturn, 1) := by decide +kernel
theorem z63_16 {w : pm_H} {pl : pm_L} {x0 : Int32} : pm_ev 63 16 pl [.int x0] w = pm_zr x0 w := pm_nz pt_63 d63_16
theorem d64_0 : decode cX5_event 0 = .ok (.iload_n 1, 1) := by decide +kernel
theorem z64_0 {st : List Value} {w : pm_H} {b0 b2 : Option Value} {x0 : Int32} : pm_ev 64 0 [b0, some (.int x0), b2] st w = pm_ev 64 1 [b0, some (.int x0), b2] (.int x0 :: st) w := pm_ny pt_64 d64_0 rfl rfl rfl
theorem d64_1 : decode cX5_event 1 = .ok (.ifCond .lt 14, 3) := by decide +kernel
theorem z64_1 {st : List Value} {w : pm_H} {pl : pm_L} {x0 : Int32} : pm_ev 64 1 pl (.int x0 :: st) w = if x0 < 0 then pm_ev 64 15 pl st w else pm_ev 64 4 pl st w := pm_nif pt_64 d64_1 rfl rfl rfl
theorem d64_4 : decode cX5_event 4 = .ok (.iload_n 1, 1) := by decide +kernel
theorem z64_4 {st : List Value} {w : pm_H} {b0 b2 : Option Value} {x0 : Int32} : pm_ev 64 4 [b0, some (.int x0), b2] st w = pm_ev 64 5 [b0, some (.int x0), b2] (.int x0 :: st) w := pm_ny pt_64 d64_4 rfl rfl rfl
theorem d64_5 : decode cX5_event 5 = .ok (.aload_n 0, 1) := by decide +kernel
theorem z64_5 {st : List Value} {w : pm_H} {b1 b2 : Option Value} {x0 : Nat} : pm_ev 64 5 [some (.ref x0), b1, b2] st w = pm_ev 64 6 [some (.ref x0), b1, b2] (.ref x0 :: st) w := pm_ny pt_64 d64_5 rfl rfl rfl
theorem d64_6 : decode cX5_event 6 = .ok (.getfield 42, 3) := by decide +kernel
theorem z64_6 {st : List Value} {w : pm_H} {pl : pm_L} {x0 : Nat} : pm_ev 64 6 pl (.ref x0 :: st) w = pm_kv 64 9 pl st w (pm_gf (w x0) 5 4) := pm_ng pt_64 pt_F_5_42 d64_6
theorem d64_9 : decode cX5_event 9 = .ok (.getfield 75, 3) := by decide +kernel
theorem z64_9 {st : List Value} {w : pm_H} {pl : pm_L} {x0 : Nat} : pm_ev 64 9 pl (.ref x0 :: st) w = pm_kv 64 12 pl st w (pm_gf (w x0) 4 3) := pm_ng pt_64 pt_F_5_75 d64_9
theorem d64_12 : decode cX5_event 12 = .ok (.if_icmp .lt 5, 3) := by decide +kernel
theorem z64_12 {st : List Value} {w : pm_H} {pl : pm_L} {x0 x1 : Int32} : pm_ev 64 12 pl (.int x1 :: .int x0 :: st) w = if x0 < x1 then pm_ev 64 17 pl st w else pm_ev 64 15 pl st w := pm_nif pt_64 d64_12 rfl rfl rfl
theorem d64_15 : decode cX5_event 15 = .ok (.iconst (-1), 1) := by decide +kernel
theorem z64_15 {st : List Value} {w : pm_H} {pl : pm_L} : pm_ev 64 15 pl st w = pm_ev 64 16 pl (.int (-1) :: st) w := pm_ny pt_64 d64_15 rfl rfl rfl
theorem d64_16 : decode cX5_event 16 = .ok (.ireturn, 1) := by decide +kernel
theorem z64_16 {w : pm_H} {pl : pm_L} {x0 : Int32} : pm_ev 64 16 pl [.int x0] w = some (some (.int x0), w) := pm_nr pt_64 d64_16 rfl
theorem d64_17 : decode cX5_event 17 = .ok (.iload_n 2, 1) := by decide +kernel
theorem z64_17 {st : List Value} {w : pm_H} {b0 b1 : Option Value} {x0 : Int32} : pm_ev 64 17 [b0, b1, some (.int x0)] st w = pm_ev 64 18 [b0, b1, some (.int x0)] (.int x0 :: st) w := pm_ny pt_64 d64_17 rfl rfl rfl
theorem d64_18 : decode cX5_event 18 = .ok (.tableswitch 56 0 2 #[26, 36, 46], 26) := by decide +kernel
theorem z64_18 {st : List Value} {w : pm_H} {pl : pm_L} {x0 : Int32} : pm_ev 64 18 pl (.int x0 :: st) w = if x0 = 0 then pm_ev 64 44 pl st w else if x0 = 1 then pm_ev 64 54 pl st w else if x0 = 2 then pm_ev 64 64 pl st w else pm_ev 64 74 pl st w := by
  by_cases h0 : x0 = 0
  · subst h0; exact pm_ny pt_64 d64_18 rfl rfl rfl
  by_cases h1 : x0 = 1
  · subst h1; exact pm_ny pt_64 d64_18 rfl rfl rfl
  by_cases h2 : x0 = 2
  · subst h2; exact pm_ny pt_64 d64_18 rfl rfl rfl
  rw [if_neg h0, if_neg h1, if_neg h2]
  have hx : x0.toInt < 0 ∨ 2 < x0.toInt := by
    have e0 : x0.toInt ≠ 0 := fun h => h0 (Int32.toInt_inj.mp (h.trans (by decide)))
    have e1 : x0.toInt ≠ 1 := fun h => h1 (Int32.toInt_inj.mp (h.trans (by decide)))
    have e2 : x0.toInt ≠ 2 := fun h => h2 (Int32.toInt_inj.mp (h.trans (by decide)))
    omega
  exact pm_ny (pc' := 74) (pl' := pl) (st' := st) (w' := w) pt_64 d64_18 rfl rfl (show pm_or (if x0.toInt < 0 ∨ 2 < x0.toInt then some (74, pl, st, w) else _) _ = _ by rw [if_pos hx]; rfl)
theorem d64_44 : decode cX5_event 44 = .ok (.aload_n 0, 1) := by decide +kernel
theorem z64_44 {st : List Value} {w : pm_H} {b1 b2 : Option Value} {x0 : Nat} : pm_ev 64 44 [some (.ref x0), b1, b2] st w = pm_ev 64 45 [some (.ref x0), b1, b2] (.ref x0 :: st) w := pm_ny pt_64 d64_44 rfl rfl rfl
theorem d64_45 : decode cX5_event 45 = .ok (.getfield 42, 3) := by decide +kernel
theorem z64_45 {st : List Value} {w : pm_H} {pl : pm_L} {x0 : Nat} : pm_ev 64 45 pl (.ref x0 :: st) w = pm_kv 64 48 pl st w (pm_gf (w x0) 5 4) := pm_ng pt_64 pt_F_5_42 d64_45
theorem d64_48 : decode cX5_event 48 = .ok (.getfield 118, 3) := by decide +kernel
theorem z64_48 {st : List Value} {w : pm_H} {pl : pm_L} {x0 : Nat} : pm_ev 64 48 pl (.ref x0 :: st) w = pm_kv 64 51 pl st w (pm_gf (w x0) 4 4) := pm_ng pt_64 pt_F_5_118 d64_48
theorem d64_51 : decode cX5_event 51 = .ok (.iload_n 1, 1) := by decide +kernel
theorem z64_51 {st : List Value} {w : pm_H} {b0 b2 : Option Value} {x0 : Int32} : pm_ev 64 51 [b0, some (.int x0), b2] st w = pm_ev 64 52 [b0, some (.int x0), b2] (.int x0 :: st) w := pm_ny pt_64 d64_51 rfl rfl rfl
theorem d64_52 : decode cX5_event 52 = .ok (.iaload, 1) := by decide +kernel
theorem z64_52 {st : List Value} {w : pm_H} {pl : pm_L} {x0 : Nat} {x1 : Int32} : pm_ev 64 52 pl (.int x1 :: .ref x0 :: st) w = pm_kv 64 53 pl st w (pm_ia (w x0) 0 x1) := pm_nia pt_64 d64_52
theorem d64_53 : decode cX5_event 53 = .ok (.ireturn, 1) := by decide +kernel
theorem z64_53 {w : pm_H} {pl : pm_L} {x0 : Int32} : pm_ev 64 53 pl [.int x0] w = some (some (.int x0), w) := pm_nr pt_64 d64_53 rfl
theorem d64_54 : decode cX5_event 54 = .ok (.aload_n 0, 1) := by decide +kernel
theorem z64_54 {st : List Value} {w : pm_H} {b1 b2 : Option Value} {x0 : Nat} : pm_ev 64 54 [some (.ref x0), b1, b2] st w = pm_ev 64 55 [some (.ref x0), b1, b2] (.ref x0 :: st) w := pm_ny pt_64 d64_54 rfl rfl rfl
theorem d64_55 : decode cX5_event 55 = .ok (.getfield 42, 3) := by decide +kernel
theorem z64_55 {st : List Value} {w : pm_H} {pl : pm_L} {x0 : Nat} : pm_ev 64 55 pl (.ref x0 :: st) w = pm_kv 64 58 pl st w (pm_gf (w x0) 5 4) := pm_ng pt_64 pt_F_5_42 d64_55
theorem d64_58 : decode cX5_event 58 = .ok (.getfield 121, 3) := by decide +kernel
theorem z64_58 {st : List Value} {w : pm_H} {pl : pm_L} {x0 : Nat} : pm_ev 64 58 pl (.ref x0 :: st) w = pm_kv 64 61 pl st w (pm_gf (w x0) 4 5) := pm_ng pt_64 pt_F_5_121 d64_58
theorem d64_61 : decode cX5_event 61 = .ok (.iload_n 1, 1) := by decide +kernel
theorem z64_61 {st : List Value} {w : pm_H} {b0 b2 : Option Value} {x0 : Int32} : pm_ev 64 61 [b0, some (.int x0), b2] st w = pm_ev 64 62 [b0, some (.int x0), b2] (.int x0 :: st) w := pm_ny pt_64 d64_61 rfl rfl rfl
theorem d64_62 : decode cX5_event 62 = .ok (.iaload, 1) := by decide +kernel
theorem z64_62 {st : List Value} {w : pm_H} {pl : pm_L} {x0 : Nat} {x1 : Int32} : pm_ev 64 62 pl (.int x1 :: .ref x0 :: st) w = pm_kv 64 63 pl st w (pm_ia (w x0) 0 x1) := pm_nia pt_64 d64_62
theorem d64_63 : decode cX5_event 63 = .ok (.ireturn, 1) := by decide +kernel
theorem z64_63 {w : pm_H} {pl : pm_L} {x0 : Int32} : pm_ev 64 63 pl [.int x0] w = some (some (.int x0), w) := pm_nr pt_64 d64_63 rfl
theorem d64_64 : decode cX5_event 64 = .ok (.aload_n 0, 1) := by decide +kernel
theorem z64_64 {st : List Value} {w : pm_H} {b1 b2 : Option Value} {x0 : Nat} : pm_ev 64 64 [some (.ref x0), b1, b2] st w = pm_ev 64 65 [some (.ref x0), b1, b2] (.ref x0 :: st) w := pm_ny pt_64 d64_64 rfl rfl rfl
theorem d64_65 : decode cX5_event 65 = .ok (.getfield 42, 3) := by decide +kernel
theorem z64_65 {st : List Value} {w : pm_H} {pl : pm_L} {x0 : Nat} : pm_ev 64 65 pl (.ref x0 :: st) w = pm_kv 64 68 pl st w (pm_gf (w x0) 5 4) := pm_ng pt_64 pt_F_5_42 d64_65
theorem d64_68 : decode cX5_event 68 = .ok (.getfield 124, 3) := by decide +kernel
theorem z64_68 {st : List Value} {w : pm_H} {pl : pm_L} {x0 : Nat} : pm_ev 64 68 pl (.ref x0 :: st) w = pm_kv 64 71 pl st w (pm_gf (w x0) 4 6) := pm_ng pt_64 pt_F_5_124 d64_68
theorem d64_71 : decode cX5_event 71 = .ok (.iload_n 1, 1) := by decide +kernel
theorem z64_71 {st : List Value} {w : pm_H} {b0 b2 : Option Value} {x0 : Int32} : pm_ev 64 71 [b0, some (.int x0), b2] st w = pm_ev 64 72 [b0, some (.int x0), b2] (.int x0 :: st) w := pm_ny pt_64 d64_71 rfl rfl rfl
theorem d64_72 : decode cX5_event 72 = .ok (.iaload, 1) := by decide +kernel
theorem z64_72 {st : List Value} {w : pm_H} {pl : pm_L} {x0 : Nat} {x1 : Int32} : pm_ev 64 72 pl (.int x1 :: .ref x0 :: st) w = pm_kv 64 73 pl st w (pm_ia (w x0) 0 x1) := pm_nia pt_64 d64_72
theorem d64_73 : decode cX5_event 73 = .ok (.ireturn, 1) := by decide +kernel
theorem z64_73 {w : pm_H} {pl : pm_L} {x0 : Int32} : pm_ev 64 73 pl [.int x0] w = some (some (.int x0), w) := pm_nr pt_64 d64_73 rfl
theorem d64_74 : decode cX5_event 74 = .ok (.iconst (-1), 1) := by decide +kernel
theorem z64_74 {st : List Value} {w : pm_H} {pl : pm_L} : pm_ev 64 74 pl st w = pm_ev 64 75 pl (.int (-1) :: st) w := pm_ny pt_64 d64_74 rfl rfl rfl
theorem d64_75 : decode cX5_event 75 = .ok (.ireturn, 1) := by decide +kernel
theorem z64_75 {w : pm_H} {pl : pm_L} {x0 : Int32} : pm_ev 64 75 pl [.int x0] w = some (some (.int x0), w) := pm_nr pt_64 d64_75 rfl
theorem d65_0 : decode cX5_instrument 0 = .ok (.aload_n 0, 1) := by decide +kernel
theorem z65_0 {st : List Value} {w : pm_H} {b1 b2 : Option Value} {x0 : Nat} : pm_ev 65 0 [some (.ref x0), b1, b2] st w = pm_ev 65 1 [some (.ref x0), b1, b2] (.ref x0 :: st) w := pm_ny pt_65 d65_0 rfl rfl rfl
theorem d65_1 : decode cX5_instrument 1 = .ok (.getfield 42, 3) := by decide +kernel
theorem z65_1 {st : List Value} {w : pm_H} {pl : pm_L} {x0 : Nat} : pm_ev 65 1 pl (.ref x0 :: st) w = pm_kv 65 4 pl st w (pm_gf (w x0) 5 4) := pm_ng pt_65 pt_F_5_42 d65_1
theorem d65_4 : decode cX5_instrument 4 = .ok (.iload_n 1, 1) := by decide +kernel
theorem z65_4 {st : List Value} {w : pm_H} {b0 b2 : Option Value} {x0 : Int32} : pm_ev 65 4 [b0, some (.int x0), b2] st w = pm_ev 65 5 [b0, some (.int x0), b2] (.int x0 :: st) w := pm_ny pt_65 d65_4 rfl rfl rfl
theorem d65_5 : decode cX5_instrument 5 = .ok (.invokevirtual 127, 3) := by decide +kernel
theorem z65_5 {w : pm_H} {b0 b1 b2 : Option Value} {x0 : Int32} {x1 : Nat} : pm_ev 65 5 [b0, b1, b2] [.int x0, .ref x1] w = pm_k 65 8 [b0, b1, b2] [] (pm_vc (w x1) 4 (pm_call 42 [.ref x1, .int x0] w)) := pm_nv pt_65 pt_42 pt_M_5_127 d65_5 ⟨rfl, rfl⟩ ⟨⟨rfl, Nat.le_of_ble_eq_true rfl, Nat.le_of_ble_eq_true rfl, Nat.le_of_ble_eq_true rfl, Nat.le_of_ble_eq_true rfl⟩, rfl⟩
theorem d65_8 : decode cX5_instrument 8 = .ok (.ifCond .ne 5, 3) := by decide +kernel
theorem z65_8 {st : List Value} {w : pm_H} {pl : pm_L} {x0 : Int32} : pm_ev 65 8 pl (.int x0 :: st) w = if x0 = 0 then pm_ev 65 11 pl st w else pm_ev 65 13 pl st w := pm_nin (c := ¬ x0 = 0) pt_65 d65_8 rfl rfl rfl Iff.rfl
theorem d65_11 : decode cX5_instrument 11 = .ok (.iconst (-1), 1) := by decide +kernel
theorem z65_11 {st : List Value} {w : pm_H} {pl : pm_L} : pm_ev 65 11 pl st w = pm_ev 65 12 pl (.int (-1) :: st) w := pm_ny pt_65 d65_11 rfl rfl rfl
theorem d65_12 : decode cX5_instrument 12 = .ok (.ireturn, 1) := by decide +kernel
theorem z65_12 {w : pm_H} {pl : pm_L} {x0 : Int32} : pm_ev 65 12 pl [.int x0] w = some (some (.int x0), w) := pm_nr pt_65 d65_12 rfl
theorem d65_13 : decode cX5_instrument 13 = .ok (.iload_n 2, 1) := by decide +kernel
theorem z65_13 {st : List Value} {w : pm_H} {b0 b1 : Option Value} {x0 : Int32} : pm_ev 65 13 [b0, b1, some (.int x0)] st w = pm_ev 65 14 [b0, b1, some (.int x0)] (.int x0 :: st) w := pm_ny pt_65 d65_13 rfl rfl rfl
theorem d65_14 : decode cX5_instrument 14 = .ok (.tableswitch 83 0 4 #[34, 44, 54, 64, 74], 34) := by decide +kernel
theorem z65_14 {st : List Value} {w : pm_H} {pl : pm_L} {x0 : Int32} : pm_ev 65 14 pl (.int x0 :: st) w = if x0 = 0 then pm_ev 65 48 pl st w else if x0 = 1 then pm_ev 65 58 pl st w else if x0 = 2 then pm_ev 65 68 pl st w else if x0 = 3 then pm_ev 65 78 pl st w else if x0 = 4 then pm_ev 65 88 pl st w else pm_ev 65 97 pl st w := by
  by_cases h0 : x0 = 0
  · subst h0; exact pm_ny pt_65 d65_14 rfl rfl rfl
  by_cases h1 : x0 = 1
  · subst h1; exact pm_ny pt_65 d65_14 rfl rfl rfl
  by_cases h2 : x0 = 2
  · subst h2; exact pm_ny pt_65 d65_14 rfl rfl rfl
  by_cases h3 : x0 = 3
  · subst h3; exact pm_ny pt_65 d65_14 rfl rfl rfl
  by_cases h4 : x0 = 4
  · subst h4; exact pm_ny pt_65 d65_14 rfl rfl rfl
  rw [if_neg h0, if_neg h1, if_neg h2, if_neg h3, if_neg h4]
  have hx : x0.toInt < 0 ∨ 4 < x0.toInt := by
    have e0 : x0.toInt ≠ 0 := fun h => h0 (Int32.toInt_inj.mp (h.trans (by decide)))
    have e1 : x0.toInt ≠ 1 := fun h => h1 (Int32.toInt_inj.mp (h.trans (by decide)))
    have e2 : x0.toInt ≠ 2 := fun h => h2 (Int32.toInt_inj.mp (h.trans (by decide)))
    have e3 : x0.toInt ≠ 3 := fun h => h3 (Int32.toInt_inj.mp (h.trans (by decide)))
    have e4 : x0.toInt ≠ 4 := fun h => h4 (Int32.toInt_inj.mp (h.trans (by decide)))
    omega
  exact pm_ny (pc' := 97) (pl' := pl) (st' := st) (w' := w) pt_65 d65_14 rfl rfl (show pm_or (if x0.toInt < 0 ∨ 4 < x0.toInt then some (97, pl, st, w) else _) _ = _ by rw [if_pos hx]; rfl)
theorem d65_48 : decode cX5_instrument 48 = .ok (.aload_n 0, 1) := by decide +kernel
theorem z65_48 {st : List Value} {w : pm_H} {b1 b2 : Option Value} {x0 : Nat} : pm_ev 65 48 [some (.ref x0), b1, b2] st w = pm_ev 65 49 [some (.ref x0), b1, b2] (.ref x0 :: st) w := pm_ny pt_65 d65_48 rfl rfl rfl
theorem d65_49 : decode cX5_instrument 49 = .ok (.getfield 42, 3) := by decide +kernel
theorem z65_49 {st : List Value} {w : pm_H} {pl : pm_L} {x0 : Nat} : pm_ev 65 49 pl (.ref x0 :: st) w = pm_kv 65 52 pl st w (pm_gf (w x0) 5 4) := pm_ng pt_65 pt_F_5_42 d65_49
theorem d65_52 : decode cX5_instrument 52 = .ok (.getfield 130, 3) := by decide +kernel
theorem z65_52 {st : List Value} {w : pm_H} {pl : pm_L} {x0 : Nat} : pm_ev 65 52 pl (.ref x0 :: st) w = pm_kv 65 55 pl st w (pm_gf (w x0) 4 8) := pm_ng pt_65 pt_F_5_130 d65_52
theorem d65_55 : decode cX5_instrument 55 = .ok (.iload_n 1, 1) := by decide +kernel
theorem z65_55 {st : List Value} {w : pm_H} {b0 b2 : Option Value} {x0 : Int32} : pm_ev 65 55 [b0, some (.int x0), b2] st w = pm_ev 65 56 [b0, some (.int x0), b2] (.int x0 :: st) w := pm_ny pt_65 d65_55 rfl rfl rfl
theorem d65_56 : decode cX5_instrument 56 = .ok (.iaload, 1) := by decide +kernel
theorem z65_56 {st : List Value} {w : pm_H} {pl : pm_L} {x0 : Nat} {x1 : Int32} : pm_ev 65 56 pl (.int x1 :: .ref x0 :: st) w = pm_kv 65 57 pl st w (pm_ia (w x0) 0 x1) := pm_nia pt_65 d65_56
theorem d65_57 : decode cX5_instrument 57 = .ok (.ireturn, 1) := by decide +kernel
theorem z65_57 {w : pm_H} {pl : pm_L} {x0 : Int32} : pm_ev 65 57 pl [.int x0] w = some (some (.int x0), w) := pm_nr pt_65 d65_57 rfl
theorem d65_58 : decode cX5_instrument 58 = .ok (.aload_n 0, 1) := by decide +kernel
theorem z65_58 {st : List Value} {w : pm_H} {b1 b2 : Option Value} {x0 : Nat} : pm_ev 65 58 [some (.ref x0), b1, b2] st w = pm_ev 65 59 [some (.ref x0), b1, b2] (.ref x0 :: st) w := pm_ny pt_65 d65_58 rfl rfl rfl
theorem d65_59 : decode cX5_instrument 59 = .ok (.getfield 42, 3) := by decide +kernel
theorem z65_59 {st : List Value} {w : pm_H} {pl : pm_L} {x0 : Nat} : pm_ev 65 59 pl (.ref x0 :: st) w = pm_kv 65 62 pl st w (pm_gf (w x0) 5 4) := pm_ng pt_65 pt_F_5_42 d65_59
theorem d65_62 : decode cX5_instrument 62 = .ok (.getfield 133, 3) := by decide +kernel
theorem z65_62 {st : List Value} {w : pm_H} {pl : pm_L} {x0 : Nat} : pm_ev 65 62 pl (.ref x0 :: st) w = pm_kv 65 65 pl st w (pm_gf (w x0) 4 9) := pm_ng pt_65 pt_F_5_133 d65_62
theorem d65_65 : decode cX5_instrument 65 = .ok (.iload_n 1, 1) := by decide +kernel
theorem z65_65 {st : List Value} {w : pm_H} {b0 b2 : Option Value} {x0 : Int32} : pm_ev 65 65 [b0, some (.int x0), b2] st w = pm_ev 65 66 [b0, some (.int x0), b2] (.int x0 :: st) w := pm_ny pt_65 d65_65 rfl rfl rfl
theorem d65_66 : decode cX5_instrument 66 = .ok (.iaload, 1) := by decide +kernel
theorem z65_66 {st : List Value} {w : pm_H} {pl : pm_L} {x0 : Nat} {x1 : Int32} : pm_ev 65 66 pl (.int x1 :: .ref x0 :: st) w = pm_kv 65 67 pl st w (pm_ia (w x0) 0 x1) := pm_nia pt_65 d65_66
theorem d65_67 : decode cX5_instrument 67 = .ok (.ireturn, 1) := by decide +kernel
theorem z65_67 {w : pm_H} {pl : pm_L} {x0 : Int32} : pm_ev 65 67 pl [.int x0] w = some (some (.int x0), w) := pm_nr pt_65 d65_67 rfl
theorem d65_68 : decode cX5_instrument 68 = .ok (.aload_n 0, 1) := by decide +kernel
theorem z65_68 {st : List Value} {w : pm_H} {b1 b2 : Option Value} {x0 : Nat} : pm_ev 65 68 [some (.ref x0), b1, b2] st w = pm_ev 65 69 [some (.ref x0), b1, b2] (.ref x0 :: st) w := pm_ny pt_65 d65_68 rfl rfl rfl
theorem d65_69 : decode cX5_instrument 69 = .ok (.getfield 42, 3) := by decide +kernel
theorem z65_69 {st : List Value} {w : pm_H} {pl : pm_L} {x0 : Nat} : pm_ev 65 69 pl (.ref x0 :: st) w = pm_kv 65 72 pl st w (pm_gf (w x0) 5 4) := pm_ng pt_65 pt_F_5_42 d65_69
theorem d65_72 : decode cX5_instrument 72 = .ok (.getfield 136, 3) := by decide +kernel
theorem z65_72 {st : List Value} {w : pm_H} {pl : pm_L} {x0 : Nat} : pm_ev 65 72 pl (.ref x0 :: st) w = pm_kv 65 75 pl st w (pm_gf (w x0) 4 10) := pm_ng pt_65 pt_F_5_136 d65_72
theorem d65_75 : decode cX5_instrument 75 = .ok (.iload_n 1, 1) := by decide +kernel
theorem z65_75 {st : List Value} {w : pm_H} {b0 b2 : Option Value} {x0 : Int32} : pm_ev 65 75 [b0, some (.int x0), b2] st w = pm_ev 65 76 [b0, some (.int x0), b2] (.int x0 :: st) w := pm_ny pt_65 d65_75 rfl rfl rfl
theorem d65_76 : decode cX5_instrument 76 = .ok (.iaload, 1) := by decide +kernel
theorem z65_76 {st : List Value} {w : pm_H} {pl : pm_L} {x0 : Nat} {x1 : Int32} : pm_ev 65 76 pl (.int x1 :: .ref x0 :: st) w = pm_kv 65 77 pl st w (pm_ia (w x0) 0 x1) := pm_nia pt_65 d65_76
theorem d65_77 : decode cX5_instrument 77 = .ok (.ireturn, 1) := by decide +kernel
theorem z65_77 {w : pm_H} {pl : pm_L} {x0 : Int32} : pm_ev 65 77 pl [.int x0] w = some (some (.int x0), w) := pm_nr pt_65 d65_77 rfl
theorem d65_78 : decode cX5_instrument 78 = .ok (.aload_n 0, 1) := by decide +kernel
theorem z65_78 {st : List Value} {w : pm_H} {b1 b2 : Option Value} {x0 : Nat} : pm_ev 65 78 [some (.ref x0), b1, b2] st w = pm_ev 65 79 [some (.ref x0), b1, b2] (.ref x0 :: st) w := pm_ny pt_65 d65_78 rfl rfl rfl
theorem d65_79 : decode cX5_instrument 79 = .ok (.getfield 42, 3) := by decide +kernel
theorem z65_79 {st : List Value} {w : pm_H} {pl : pm_L} {x0 : Nat} : pm_ev 65 79 pl (.ref x0 :: st) w = pm_kv 65 82 pl st w (pm_gf (w x0) 5 4) := pm_ng pt_65 pt_F_5_42 d65_79
theorem d65_82 : decode cX5_instrument 82 = .ok (.getfield 139, 3) := by decide +kernel
theorem z65_82 {st : List Value} {w : pm_H} {pl : pm_L} {x0 : Nat} : pm_ev 65 82 pl (.ref x0 :: st) w = pm_kv 65 85 pl st w (pm_gf (w x0) 4 11) := pm_ng pt_65 pt_F_5_139 d65_82
theorem d65_85 : decode cX5_instrument 85 = .ok (.iload_n 1, 1) := by decide +kernel
theorem z65_85 {st : List Value} {w : pm_H} {b0 b2 : Option Value} {x0 : Int32} : pm_ev 65 85 [b0, some (.int x0), b2] st w = pm_ev 65 86 [b0, some (.int x0), b2] (.int x0 :: st) w := pm_ny pt_65 d65_85 rfl rfl rfl
theorem d65_86 : decode cX5_instrument 86 = .ok (.iaload, 1) := by decide +kernel
theorem z65_86 {st : List Value} {w : pm_H} {pl : pm_L} {x0 : Nat} {x1 : Int32} : pm_ev 65 86 pl (.int x1 :: .ref x0 :: st) w = pm_kv 65 87 pl st w (pm_ia (w x0) 0 x1) := pm_nia pt_65 d65_86
theorem d65_87 : decode cX5_instrument 87 = .ok (.ireturn, 1) := by decide +kernel
theorem z65_87 {w : pm_H} {pl : pm_L} {x0 : Int32} : pm_ev 65 87 pl [.int x0] w = some (some (.int x0), w) := pm_nr pt_65 d65_87 rfl
theorem d65_88 : decode cX5_instrument 88 = .ok (.aload_n 0, 1) := by decide +kernel
theorem z65_88 {st : List Value} {w : pm_H} {b1 b2 : Option Value} {x0 : Nat} : pm_ev 65 88 [some (.ref x0), b1, b2] st w = pm_ev 65 89 [some (.ref x0), b1, b2] (.ref x0 :: st) w := pm_ny pt_65 d65_88 rfl rfl rfl
theorem d65_89 : decode cX5_instrument 89 = .ok (.getfield 42, 3) := by decide +kernel
theorem z65_89 {st : List Value} {w : pm_H} {pl : pm_L} {x0 : Nat} : pm_ev 65 89 pl (.ref x0 :: st) w = pm_kv 65 92 pl st w (pm_gf (w x0) 5 4) := pm_ng pt_65 pt_F_5_42 d65_89
theorem d65_92 : decode cX5_instrument 92 = .ok (.iload_n 1, 1) := by decide +kernel
theorem z65_92 {st : List Value} {w : pm_H} {b0 b2 : Option Value} {x0 : Int32} : pm_ev 65 92 [b0, some (.int x0), b2] st w = pm_ev 65 93 [b0, some (.int x0), b2] (.int x0 :: st) w := pm_ny pt_65 d65_92 rfl rfl rfl
theorem d65_93 : decode cX5_instrument 93 = .ok (.invokevirtual 142, 3) := by decide +kernel
theorem z65_93 {w : pm_H} {b0 b1 b2 : Option Value} {x0 : Int32} {x1 : Nat} : pm_ev 65 93 [b0, b1, b2] [.int x0, .ref x1] w = pm_k 65 96 [b0, b1, b2] [] (pm_vc (w x1) 4 (pm_call 43 [.ref x1, .int x0] w)) := pm_nv pt_65 pt_43 pt_M_5_142 d65_93 ⟨rfl, rfl⟩ ⟨⟨rfl, Nat.le_of_ble_eq_true rfl, Nat.le_of_ble_eq_true rfl, Nat.le_of_ble_eq_true rfl, Nat.le_of_ble_eq_true rfl⟩, rfl⟩
theorem d65_96 : decode cX5_instrument 96 = .ok (.ireturn, 1) := by decide +kernel
theorem z65_96 {w : pm_H} {pl : pm_L} {x0 : Int32} : pm_ev 65 96 pl [.int x0] w = some (some (.int x0), w) := pm_nr pt_65 d65_96 rfl
theorem d65_97 : decode cX5_instrument 97 = .ok (.iconst (-1), 1) := by decide +kernel
theorem z65_97 {st : List Value} {w : pm_H} {pl : pm_L} : pm_ev 65 97 pl st w = pm_ev 65 98 pl (.int (-1) :: st) w := pm_ny pt_65 d65_97 rfl rfl rfl
theorem d65_98 : decode cX5_instrument 98 = .ok (.ireturn, 1) := by decide +kernel
theorem z65_98 {w : pm_H} {pl : pm_L} {x0 : Int32} : pm_ev 65 98 pl [.int x0] w = some (some (.int x0), w) := pm_nr pt_65 d65_98 rfl
theorem d66_0 : decode cX5_tells 0 = .ok (.iload_n 1, 1) := by decide +kernel
theorem z66_0 {st : List Value} {w : pm_H} {b0 b2 b3 : Option Value} {x0 : Int32} : pm_ev 66 0 [b0, some (.int x0), b2, b3] st w = pm_ev 66 1 [b0, some (.int x0), b2, b3] (.int x0 :: st) w := pm_ny pt_66 d66_0 rfl rfl rfl
theorem d66_1 : decode cX5_tells 1 = .ok (.ifCond .lt 26, 3) := by decide +kernel
theorem z66_1 {st : List Value} {w : pm_H} {pl : pm_L} {x0 : Int32} : pm_ev 66 1 pl (.int x0 :: st) w = if x0 < 0 then pm_ev 66 27 pl st w else pm_ev 66 4 pl st w := pm_nif pt_66 d66_1 rfl rfl rfl
theorem d66_4 : decode cX5_tells 4 = .ok (.iload_n 1, 1) := by decide +kernel
theorem z66_4 {st : List Value} {w : pm_H} {b0 b2 b3 : Option Value} {x0 : Int32} : pm_ev 66 4 [b0, some (.int x0), b2, b3] st w = pm_ev 66 5 [b0, some (.int x0), b2, b3] (.int x0 :: st) w := pm_ny pt_66 d66_4 rfl rfl rfl
theorem d66_5 : decode cX5_tells 5 = .ok (.iconst 2, 1) := by decide +kernel
theorem z66_5 {st : List Value} {w : pm_H} {pl : pm_L} : pm_ev 66 5 pl st w = pm_ev 66 6 pl (.int 2 :: st) w := pm_ny pt_66 d66_5 rfl rfl rfl
theorem d66_6 : decode cX5_tells 6 = .ok (.if_icmp .gt 21, 3) := by decide +kernel
theorem z66_6 {st : List Value} {w : pm_H} {pl : pm_L} {x0 x1 : Int32} : pm_ev 66 6 pl (.int x1 :: .int x0 :: st) w = if x1 < x0 then pm_ev 66 27 pl st w else pm_ev 66 9 pl st w := pm_nif pt_66 d66_6 rfl rfl rfl
theorem d66_9 : decode cX5_tells 9 = .ok (.iload_n 2, 1) := by decide +kernel
theorem z66_9 {st : List Value} {w : pm_H} {b0 b1 b3 : Option Value} {x0 : Int32} : pm_ev 66 9 [b0, b1, some (.int x0), b3] st w = pm_ev 66 10 [b0, b1, some (.int x0), b3] (.int x0 :: st) w := pm_ny pt_66 d66_9 rfl rfl rfl
theorem d66_10 : decode cX5_tells 10 = .ok (.invokestatic 92, 3) := by decide +kernel
theorem z66_10 {w : pm_H} {b0 b1 b2 b3 : Option Value} {x0 : Int32} : pm_ev 66 10 [b0, b1, b2, b3] [.int x0] w = pm_k 66 13 [b0, b1, b2, b3] [] (pm_call 63 [.int x0] w) := pm_ns pt_66 pt_63 pt_M_5_92 (Or.inl rfl) d66_10 ⟨rfl, rfl⟩ ⟨⟨rfl, Nat.le_of_ble_eq_true rfl, Nat.le_of_ble_eq_true rfl, Nat.le_of_ble_eq_true rfl, Nat.le_of_ble_eq_true rfl⟩, rfl⟩
theorem d66_13 : decode cX5_tells 13 = .ok (.ifCond .eq 14, 3) := by decide +kernel
theorem z66_13 {st : List Value} {w : pm_H} {pl : pm_L} {x0 : Int32} : pm_ev 66 13 pl (.int x0 :: st) w = if x0 = 0 then pm_ev 66 27 pl st w else pm_ev 66 16 pl st w := pm_nif pt_66 d66_13 rfl rfl rfl
theorem d66_16 : decode cX5_tells 16 = .ok (.iload_n 2, 1) := by decide +kernel
theorem z66_16 {st : List Value} {w : pm_H} {b0 b1 b3 : Option Value} {x0 : Int32} : pm_ev 66 16 [b0, b1, some (.int x0), b3] st w = pm_ev 66 17 [b0, b1, some (.int x0), b3] (.int x0 :: st) w := pm_ny pt_66 d66_16 rfl rfl rfl
theorem d66_17 : decode cX5_tells 17 = .ok (.aload_n 0, 1) := by decide +kernel
theorem z66_17 {st : List Value} {w : pm_H} {b1 b2 b3 : Option Value} {x0 : Nat} : pm_ev 66 17 [some (.ref x0), b1, b2, b3] st w = pm_ev 66 18 [some (.ref x0), b1, b2, b3] (.ref x0 :: st) w := pm_ny pt_66 d66_17 rfl rfl rfl
theorem d66_18 : decode cX5_tells 18 = .ok (.getfield 42, 3) := by decide +kernel
theorem z66_18 {st : List Value} {w : pm_H} {pl : pm_L} {x0 : Nat} : pm_ev 66 18 pl (.ref x0 :: st) w = pm_kv 66 21 pl st w (pm_gf (w x0) 5 4) := pm_ng pt_66 pt_F_5_42 d66_18
theorem d66_21 : decode cX5_tells 21 = .ok (.invokevirtual 212, 3) := by decide +kernel
theorem z66_21 {w : pm_H} {b0 b1 b2 b3 : Option Value} {x0 : Nat} {x1 : Int32} : pm_ev 66 21 [b0, b1, b2, b3] [.ref x0, .int x1] w = pm_k 66 24 [b0, b1, b2, b3] [.int x1] (pm_vc (w x0) 4 (pm_call 32 [.ref x0] w)) := pm_nv pt_66 pt_32 pt_M_5_212 d66_21 ⟨rfl, rfl⟩ ⟨⟨rfl, Nat.le_of_ble_eq_true rfl, Nat.le_of_ble_eq_true rfl, Nat.le_of_ble_eq_true rfl, Nat.le_of_ble_eq_true rfl⟩, rfl⟩
theorem d66_24 : decode cX5_tells 24 = .ok (.if_icmp .ge 5, 3) := by decide +kernel
theorem z66_24 {st : List Value} {w : pm_H} {pl : pm_L} {x0 x1 : Int32} : pm_ev 66 24 pl (.int x1 :: .int x0 :: st) w = if x0 < x1 then pm_ev 66 27 pl st w else pm_ev 66 29 pl st w := pm_nin (c := x1 ≤ x0) pt_66 d66_24 rfl rfl rfl pm_ge
theorem d66_27 : decode cX5_tells 27 = .ok (.iconst (-1), 1) := by decide +kernel
theorem z66_27 {st : List Value} {w : pm_H} {pl : pm_L} : pm_ev 66 27 pl st w = pm_ev 66 28 pl (.int (-1) :: st) w := pm_ny pt_66 d66_27 rfl rfl rfl
theorem d66_28 : decode cX5_tells 28 = .ok (.ireturn, 1) := by decide +kernel
theorem z66_28 {w : pm_H} {pl : pm_L} {x0 : Int32} : pm_ev 66 28 pl [.int x0] w = some (some (.int x0), w) := pm_nr pt_66 d66_28 rfl
theorem d66_29 : decode cX5_tells 29 = .ok (.iload_n 3, 1) := by decide +kernel
theorem z66_29 {st : List Value} {w : pm_H} {b0 b1 b2 : Option Value} {x0 : Int32} : pm_ev 66 29 [b0, b1, b2, some (.int x0)] st w = pm_ev 66 30 [b0, b1, b2, some (.int x0)] (.int x0 :: st) w := pm_ny pt_66 d66_29 rfl rfl rfl
theorem d66_30 : decode cX5_tells 30 = .ok (.aload_n 0, 1) := by decide +kernel
theorem z66_30 {st : List Value} {w : pm_H} {b1 b2 b3 : Option Value} {x0 : Nat} : pm_ev 66 30 [some (.ref x0), b1, b2, b3] st w = pm_ev 66 31 [some (.ref x0), b1, b2, b3] (.ref x0 :: st) w := pm_ny pt_66 d66_30 rfl rfl rfl
theorem d66_31 : decode cX5_tells 31 = .ok (.getfield 42, 3) := by decide +kernel
theorem z66_31 {st : List Value} {w : pm_H} {pl : pm_L} {x0 : Nat} : pm_ev 66 31 pl (.ref x0 :: st) w = pm_kv 66 34 pl st w (pm_gf (w x0) 5 4) := pm_ng pt_66 pt_F_5_42 d66_31
theorem d66_34 : decode cX5_tells 34 = .ok (.iload_n 1, 1) := by decide +kernel
theorem z66_34 {st : List Value} {w : pm_H} {b0 b2 b3 : Option Value} {x0 : Int32} : pm_ev 66 34 [b0, some (.int x0), b2, b3] st w = pm_ev 66 35 [b0, some (.int x0), b2, b3] (.int x0 :: st) w := pm_ny pt_66 d66_34 rfl rfl rfl
theorem d66_35 : decode cX5_tells 35 = .ok (.invokevirtual 222, 3) := by decide +kernel
theorem z66_35 {w : pm_H} {b0 b1 b2 b3 : Option Value} {x0 : Int32} {x1 : Nat} {x2 : Int32} : pm_ev 66 35 [b0, b1, b2, b3] [.int x0, .ref x1, .int x2] w = pm_k 66 38 [b0, b1, b2, b3] [.int x2] (pm_vc (w x1) 4 (pm_call 34 [.ref x1, .int x0] w)) := pm_nv pt_66 pt_34 pt_M_5_222 d66_35 ⟨rfl, rfl⟩ ⟨⟨rfl, Nat.le_of_ble_eq_true rfl, Nat.le_of_ble_eq_true rfl, Nat.le_of_ble_eq_true rfl, Nat.le_of_ble_eq_true rfl⟩, rfl⟩
theorem d66_38 : decode cX5_tells 38 = .ok (.if_icmp .lt 15, 3) := by decide +kernel
theorem z66_38 {st : List Value} {w : pm_H} {pl : pm_L} {x0 x1 : Int32} : pm_ev 66 38 pl (.int x1 :: .int x0 :: st) w = if x0 < x1 then pm_ev 66 53 pl st w else pm_ev 66 41 pl st w := pm_nif pt_66 d66_38 rfl rfl rfl
theorem d66_41 : decode cX5_tells 41 = .ok (.iload_n 3, 1) := by decide +kernel
theorem z66_41 {st : List Value} {w : pm_H} {b0 b1 b2 : Option Value} {x0 : Int32} : pm_ev 66 41 [b0, b1, b2, some (.int x0)] st w = pm_ev 66 42 [b0, b1, b2, some (.int x0)] (.int x0 :: st) w := pm_ny pt_66 d66_41 rfl rfl rfl
theorem d66_42 : decode cX5_tells 42 = .ok (.aload_n 0, 1) := by decide +kernel
theorem z66_42 {st : List Value} {w : pm_H} {b1 b2 b3 : Option Value} {x0 : Nat} : pm_ev 66 42 [some (.ref x0), b1, b2, b3] st w = pm_ev 66 43 [some (.ref x0), b1, b2, b3] (.ref x0 :: st) w := pm_ny pt_66 d66_42 rfl rfl rfl
theorem d66_43 : decode cX5_tells 43 = .ok (.getfield 42, 3) := by decide +kernel
theorem z66_43 {st : List Value} {w : pm_H} {pl : pm_L} {x0 : Nat} : pm_ev 66 43 pl (.ref x0 :: st) w = pm_kv 66 46 pl st w (pm_gf (w x0) 5 4) := pm_ng pt_66 pt_F_5_42 d66_43
theorem d66_46 : decode cX5_tells 46 = .ok (.iload_n 1, 1) := by decide +kernel
theorem z66_46 {st : List Value} {w : pm_H} {b0 b2 b3 : Option Value} {x0 : Int32} : pm_ev 66 46 [b0, some (.int x0), b2, b3] st w = pm_ev 66 47 [b0, some (.int x0), b2, b3] (.int x0 :: st) w := pm_ny pt_66 d66_46 rfl rfl rfl
theorem d66_47 : decode cX5_tells 47 = .ok (.invokevirtual 225, 3) := by decide +kernel
theorem z66_47 {w : pm_H} {b0 b1 b2 b3 : Option Value} {x0 : Int32} {x1 : Nat} {x2 : Int32} : pm_ev 66 47 [b0, b1, b2, b3] [.int x0, .ref x1, .int x2] w = pm_k 66 50 [b0, b1, b2, b3] [.int x2] (pm_vc (w x1) 4 (pm_call 35 [.ref x1, .int x0] w)) := pm_nv pt_66 pt_35 pt_M_5_225 d66_47 ⟨rfl, rfl⟩ ⟨⟨rfl, Nat.le_of_ble_eq_true rfl, Nat.le_of_ble_eq_true rfl, Nat.le_of_ble_eq_true rfl, Nat.le_of_ble_eq_true rfl⟩, rfl⟩
theorem d66_50 : decode cX5_tells 50 = .ok (.if_icmp .le 5, 3) := by decide +kernel
theorem z66_50 {st : List Value} {w : pm_H} {pl : pm_L} {x0 x1 : Int32} : pm_ev 66 50 pl (.int x1 :: .int x0 :: st) w = if x1 < x0 then pm_ev 66 53 pl st w else pm_ev 66 55 pl st w := pm_nin (c := x0 ≤ x1) pt_66 d66_50 rfl rfl rfl pm_ge
theorem d66_53 : decode cX5_tells 53 = .ok (.iconst (-1), 1) := by decide +kernel
theorem z66_53 {st : List Value} {w : pm_H} {pl : pm_L} : pm_ev 66 53 pl st w = pm_ev 66 54 pl (.int (-1) :: st) w := pm_ny pt_66 d66_53 rfl rfl rfl
theorem d66_54 : decode cX5_tells 54 = .ok (.ireturn, 1) := by decide +kernel
theorem z66_54 {w : pm_H} {pl : pm_L} {x0 : Int32} : pm_ev 66 54 pl [.int x0] w = some (some (.int x0), w) := pm_nr pt_66 d66_54 rfl
theorem d66_55 : decode cX5_tells 55 = .ok (.aload_n 0, 1) := by decide +kernel
theorem z66_55 {st : List Value} {w : pm_H} {b1 b2 b3 : Option Value} {x0 : Nat} : pm_ev 66 55 [some (.ref x0), b1, b2, b3] st w = pm_ev 66 56 [some (.ref x0), b1, b2, b3] (.ref x0 :: st) w := pm_ny pt_66 d66_55 rfl rfl rfl
theorem d66_56 : decode cX5_tells 56 = .ok (.getfield 42, 3) := by decide +kernel
theorem z66_56 {st : List Value} {w : pm_H} {pl : pm_L} {x0 : Nat} : pm_ev 66 56 pl (.ref x0 :: st) w = pm_kv 66 59 pl st w (pm_gf (w x0) 5 4) := pm_ng pt_66 pt_F_5_42 d66_56
theorem d66_59 : decode cX5_tells 59 = .ok (.iload_n 1, 1) := by decide +kernel
theorem z66_59 {st : List Value} {w : pm_H} {b0 b2 b3 : Option Value} {x0 : Int32} : pm_ev 66 59 [b0, some (.int x0), b2, b3] st w = pm_ev 66 60 [b0, some (.int x0), b2, b3] (.int x0 :: st) w := pm_ny pt_66 d66_59 rfl rfl rfl
theorem d66_60 : decode cX5_tells 60 = .ok (.invokevirtual 209, 3) := by decide +kernel
theorem z66_60 {w : pm_H} {b0 b1 b2 b3 : Option Value} {x0 : Int32} {x1 : Nat} : pm_ev 66 60 [b0, b1, b2, b3] [.int x0, .ref x1] w = pm_k 66 63 [b0, b1, b2, b3] [] (pm_vc (w x1) 4 (pm_call 30 [.ref x1, .int x0] w)) := pm_nv pt_66 pt_30 pt_M_5_209 d66_60 ⟨rfl, rfl⟩ ⟨⟨rfl, Nat.le_of_ble_eq_true rfl, Nat.le_of_ble_eq_true rfl, Nat.le_of_ble_eq_true rfl, Nat.le_of_ble_eq_true rfl⟩, rfl⟩
theorem d66_63 : decode cX5_tells 63 = .ok (.ifCond .ne 6, 3) := by decide +kernel
theorem z66_63 {st : List Value} {w : pm_H} {pl : pm_L} {x0 : Int32} : pm_ev 66 63 pl (.int x0 :: st) w = if x0 = 0 then pm_ev 66 66 pl st w else pm_ev 66 69 pl st w := pm_nin (c := ¬ x0 = 0) pt_66 d66_63 rfl rfl rfl Iff.rfl
theorem d66_66 : decode cX5_tells 66 = .ok (.bipush (-2), 2) := by decide +kernel
theorem z66_66 {st : List Value} {w : pm_H} {pl : pm_L} : pm_ev 66 66 pl st w = pm_ev 66 68 pl (.int (-2) :: st) w := pm_ny pt_66 d66_66 rfl rfl rfl
theorem d66_68 : decode cX5_tells 68 = .ok (.ireturn, 1) := by decide +kernel
theorem z66_68 {w : pm_H} {pl : pm_L} {x0 : Int32} : pm_ev 66 68 pl [.int x0] w = some (some (.int x0), w) := pm_nr pt_66 d66_68 rfl
theorem d66_69 : decode cX5_tells 69 = .ok (.aload_n 0, 1) := by decide +kernel
theorem z66_69 {st : List Value} {w : pm_H} {b1 b2 b3 : Option Value} {x0 : Nat} : pm_ev 66 69 [some (.ref x0), b1, b2, b3] st w = pm_ev 66 70 [some (.ref x0), b1, b2, b3] (.ref x0 :: st) w := pm_ny pt_66 d66_69 rfl rfl rfl
theorem d66_70 : decode cX5_tells 70 = .ok (.getfield 42, 3) := by decide +kernel
theorem z66_70 {st : List Value} {w : pm_H} {pl : pm_L} {x0 : Nat} : pm_ev 66 70 pl (.ref x0 :: st) w = pm_kv 66 73 pl st w (pm_gf (w x0) 5 4) := pm_ng pt_66 pt_F_5_42 d66_70
theorem d66_73 : decode cX5_tells 73 = .ok (.iload_n 1, 1) := by decide +kernel
theorem z66_73 {st : List Value} {w : pm_H} {b0 b2 b3 : Option Value} {x0 : Int32} : pm_ev 66 73 [b0, some (.int x0), b2, b3] st w = pm_ev 66 74 [b0, some (.int x0), b2, b3] (.int x0 :: st) w := pm_ny pt_66 d66_73 rfl rfl rfl
theorem d66_74 : decode cX5_tells 74 = .ok (.iload_n 2, 1) := by decide +kernel
theorem z66_74 {st : List Value} {w : pm_H} {b0 b1 b3 : Option Value} {x0 : Int32} : pm_ev 66 74 [b0, b1, some (.int x0), b3] st w = pm_ev 66 75 [b0, b1, some (.int x0), b3] (.int x0 :: st) w := pm_ny pt_66 d66_74 rfl rfl rfl
theorem d66_75 : decode cX5_tells 75 = .ok (.iload_n 3, 1) := by decide +kernel
theorem z66_75 {st : List Value} {w : pm_H} {b0 b1 b2 : Option Value} {x0 : Int32} : pm_ev 66 75 [b0, b1, b2, some (.int x0)] st w = pm_ev 66 76 [b0, b1, b2, some (.int x0)] (.int x0 :: st) w := pm_ny pt_66 d66_75 rfl rfl rfl
theorem d66_76 : decode cX5_tells 76 = .ok (.invokevirtual 215, 3) := by decide +kernel
theorem z66_76 {w : pm_H} {b0 b1 b2 b3 : Option Value} {x0 : Int32} {x1 : Int32} {x2 : Int32} {x3 : Nat} : pm_ev 66 76 [b0, b1, b2, b3] [.int x0, .int x1, .int x2, .ref x3] w = pm_k 66 79 [b0, b1, b2, b3] [] (pm_vc (w x3) 4 (pm_call 37 [.ref x3, .int x2, .int x1, .int x0] w)) := pm_nv pt_66 pt_37 pt_M_5_215 d66_76 ⟨rfl, rfl⟩ ⟨⟨rfl, Nat.le_of_ble_eq_true rfl, Nat.le_of_ble_eq_true rfl, Nat.le_of_ble_eq_true rfl, Nat.le_of_ble_eq_true rfl⟩, rfl⟩
theorem d66_79 : decode cX5_tells 79 = .ok (.aload_n 0, 1) := by decide +kernel
theorem z66_79 {st : List Value} {w : pm_H} {b1 b2 b3 : Option Value} {x0 : Nat} : pm_ev 66 79 [some (.ref x0), b1, b2, b3] st w = pm_ev 66 80 [some (.ref x0), b1, b2, b3] (.ref x0 :: st) w := pm_ny pt_66 d66_79 rfl rfl rfl
theorem d66_80 : decode cX5_tells 80 = .ok (.getfield 35, 3) := by decide +kernel
theorem z66_80 {st : List Value} {w : pm_H} {pl : pm_L} {x0 : Nat} : pm_ev 66 80 pl (.ref x0 :: st) w = pm_kv 66 83 pl st w (pm_gf (w x0) 5 3) := pm_ng pt_66 pt_F_5_35 d66_80
theorem d66_83 : decode cX5_tells 83 = .ok (.iconst 0, 1) := by decide +kernel
theorem z66_83 {st : List Value} {w : pm_H} {pl : pm_L} : pm_ev 66 83 pl st w = pm_ev 66 84 pl (.int 0 :: st) w := pm_ny pt_66 d66_83 rfl rfl rfl
theorem d66_84 : decode cX5_tells 84 = .ok (.iconst 0, 1) := by decide +kernel
theorem z66_84 {st : List Value} {w : pm_H} {pl : pm_L} : pm_ev 66 84 pl st w = pm_ev 66 85 pl (.int 0 :: st) w := pm_ny pt_66 d66_84 rfl rfl rfl
theorem d66_85 : decode cX5_tells 85 = .ok (.iconst 0, 1) := by decide +kernel
theorem z66_85 {st : List Value} {w : pm_H} {pl : pm_L} : pm_ev 66 85 pl st w = pm_ev 66 86 pl (.int 0 :: st) w := pm_ny pt_66 d66_85 rfl rfl rfl
theorem d66_86 : decode cX5_tells 86 = .ok (.invokevirtual 228, 3) := by decide +kernel
theorem z66_86 {w : pm_H} {b0 b1 b2 b3 : Option Value} {x0 : Int32} {x1 : Int32} {x2 : Int32} {x3 : Nat} : pm_ev 66 86 [b0, b1, b2, b3] [.int x0, .int x1, .int x2, .ref x3] w = pm_k 66 89 [b0, b1, b2, b3] [] (pm_vc (w x3) 1 (pm_call 9 [.ref x3, .int x2, .int x1, .int x0] w)) := pm_nv pt_66 pt_9 pt_M_5_228 d66_86 ⟨rfl, rfl⟩ ⟨⟨rfl, Nat.le_of_ble_eq_true rfl, Nat.le_of_ble_eq_true rfl, Nat.le_of_ble_eq_true rfl, Nat.le_of_ble_eq_true rfl⟩, rfl⟩
theorem d66_89 : decode cX5_tells 89 = .ok (.aload_n 0, 1) := by decide +kernel
theorem z66_89 {st : List Value} {w : pm_H} {b1 b2 b3 : Option Value} {x0 : Nat} : pm_ev 66 89 [some (.ref x0), b1, b2, b3] st w = pm_ev 66 90 [some (.ref x0), b1, b2, b3] (.ref x0 :: st) w := pm_ny pt_66 d66_89 rfl rfl rfl
theorem d66_90 : decode cX5_tells 90 = .ok (.getfield 42, 3) := by decide +kernel
theorem z66_90 {st : List Value} {w : pm_H} {pl : pm_L} {x0 : Nat} : pm_ev 66 90 pl (.ref x0 :: st) w = pm_kv 66 93 pl st w (pm_gf (w x0) 5 4) := pm_ng pt_66 pt_F_5_42 d66_90
theorem d66_93 : decode cX5_tells 93 = .ok (.getfield 75, 3) := by decide +kernel
theorem z66_93 {st : List Value} {w : pm_H} {pl : pm_L} {x0 : Nat} : pm_ev 66 93 pl (.ref x0 :: st) w = pm_kv 66 96 pl st w (pm_gf (w x0) 4 3) := pm_ng pt_66 pt_F_5_75 d66_93
theorem d66_96 : decode cX5_tells 96 = .ok (.ireturn, 1) := by decide +kernel
theorem z66_96 {w : pm_H} {pl : pm_L} {x0 : Int32} : pm_ev 66 96 pl [.int x0] w = some (some (.int x0), w) := pm_nr pt_66 d66_96 rfl
theorem d67_0 : decode cX5_grants 0 = .ok (.iload_n 1, 1) := by decide +kernel
theorem z67_0 {st : List Value} {w : pm_H} {b0 b2 b3 b4 : Option Value} {x0 : Int32} : pm_ev 67 0 [b0, some (.int x0), b2, b3, b4] st w = pm_ev 67 1 [b0, some (.int x0), b2, b3, b4] (.int x0 :: st) w := pm_ny pt_67 d67_0 rfl rfl rfl
theorem d67_1 : decode cX5_grants 1 = .ok (.ifCond .lt 27, 3) := by decide +kernel
theorem z67_1 {st : List Value} {w : pm_H} {pl : pm_L} {x0 : Int32} : pm_ev 67 1 pl (.int x0 :: st) w = if x0 < 0 then pm_ev 67 28 pl st w else pm_ev 67 4 pl st w := pm_nif pt_67 d67_1 rfl rfl rfl
theorem d67_4 : decode cX5_grants 4 = .ok (.iload_n 1, 1) := by decide +kernel
theorem z67_4 {st : List Value} {w : pm_H} {b0 b2 b3 b4 : Option Value} {x0 : Int32} : pm_ev 67 4 [b0, some (.int x0), b2, b3, b4] st w = pm_ev 67 5 [b0, some (.int x0), b2, b3, b4] (.int x0 :: st) w := pm_ny pt_67 d67_4 rfl rfl rfl
theorem d67_5 : decode cX5_grants 5 = .ok (.iconst 3, 1) := by decide +kernel
theorem z67_5 {st : List Value} {w : pm_H} {pl : pm_L} : pm_ev 67 5 pl st w = pm_ev 67 6 pl (.int 3 :: st) w := pm_ny pt_67 d67_5 rfl rfl rfl
theorem d67_6 : decode cX5_grants 6 = .ok (.if_icmp .gt 22, 3) := by decide +kernel
theorem z67_6 {st : List Value} {w : pm_H} {pl : pm_L} {x0 x1 : Int32} : pm_ev 67 6 pl (.int x1 :: .int x0 :: st) w = if x1 < x0 then pm_ev 67 28 pl st w else pm_ev 67 9 pl st w := pm_nif pt_67 d67_6 rfl rfl rfl
theorem d67_9 : decode cX5_grants 9 = .ok (.iload_n 2, 1) := by decide +kernel
theorem z67_9 {st : List Value} {w : pm_H} {b0 b1 b3 b4 : Option Value} {x0 : Int32} : pm_ev 67 9 [b0, b1, some (.int x0), b3, b4] st w = pm_ev 67 10 [b0, b1, some (.int x0), b3, b4] (.int x0 :: st) w := pm_ny pt_67 d67_9 rfl rfl rfl
theorem d67_10 : decode cX5_grants 10 = .ok (.invokestatic 92, 3) := by decide +kernel
theorem z67_10 {w : pm_H} {b0 b1 b2 b3 b4 : Option Value} {x0 : Int32} : pm_ev 67 10 [b0, b1, b2, b3, b4] [.int x0] w = pm_k 67 13 [b0, b1, b2, b3, b4] [] (pm_call 63 [.int x0] w) := pm_ns pt_67 pt_63 pt_M_5_92 (Or.inl rfl) d67_10 ⟨rfl, rfl⟩ ⟨⟨rfl, Nat.le_of_ble_eq_true rfl, Nat.le_of_ble_eq_true rfl, Nat.le_of_ble_eq_true rfl, Nat.le_of_ble_eq_true rfl⟩, rfl⟩
theorem d67_13 : decode cX5_grants 13 = .ok (.ifCond .eq 15, 3) := by decide +kernel
theorem z67_13 {st : List Value} {w : pm_H} {pl : pm_L} {x0 : Int32} : pm_ev 67 13 pl (.int x0 :: st) w = if x0 = 0 then pm_ev 67 28 pl st w else pm_ev 67 16 pl st w := pm_nif pt_67 d67_13 rfl rfl rfl
theorem d67_16 : decode cX5_grants 16 = .ok (.iload_n 3, 1) := by decide +kernel
theorem z67_16 {st : List Value} {w : pm_H} {b0 b1 b2 b4 : Option Value} {x0 : Int32} : pm_ev 67 16 [b0, b1, b2, some (.int x0), b4] st w = pm_ev 67 17 [b0, b1, b2, some (.int x0), b4] (.int x0 :: st) w := pm_ny pt_67 d67_16 rfl rfl rfl
theorem d67_17 : decode cX5_grants 17 = .ok (.iconst 1, 1) := by decide +kernel
theorem z67_17 {st : List Value} {w : pm_H} {pl : pm_L} : pm_ev 67 17 pl st w = pm_ev 67 18 pl (.int 1 :: st) w := pm_ny pt_67 d67_17 rfl rfl rfl
theorem d67_18 : decode cX5_grants 18 = .ok (.if_icmp .lt 10, 3) := by decide +kernel
theorem z67_18 {st : List Value} {w : pm_H} {pl : pm_L} {x0 x1 : Int32} : pm_ev 67 18 pl (.int x1 :: .int x0 :: st) w = if x0 < x1 then pm_ev 67 28 pl st w else pm_ev 67 21 pl st w := pm_nif pt_67 d67_18 rfl rfl rfl
theorem d67_21 : decode cX5_grants 21 = .ok (.iload_n 3, 1) := by decide +kernel
theorem z67_21 {st : List Value} {w : pm_H} {b0 b1 b2 b4 : Option Value} {x0 : Int32} : pm_ev 67 21 [b0, b1, b2, some (.int x0), b4] st w = pm_ev 67 22 [b0, b1, b2, some (.int x0), b4] (.int x0 :: st) w := pm_ny pt_67 d67_21 rfl rfl rfl
theorem d67_22 : decode cX5_grants 22 = .ok (.sipush 9999, 3) := by decide +kernel
theorem z67_22 {st : List Value} {w : pm_H} {pl : pm_L} : pm_ev 67 22 pl st w = pm_ev 67 25 pl (.int 9999 :: st) w := pm_ny pt_67 d67_22 rfl rfl rfl
theorem d67_25 : decode cX5_grants 25 = .ok (.if_icmp .le 5, 3) := by decide +kernel
theorem z67_25 {st : List Value} {w : pm_H} {pl : pm_L} {x0 x1 : Int32} : pm_ev 67 25 pl (.int x1 :: .int x0 :: st) w = if x1 < x0 then pm_ev 67 28 pl st w else pm_ev 67 30 pl st w := pm_nin (c := x0 ≤ x1) pt_67 d67_25 rfl rfl rfl pm_ge
theorem d67_28 : decode cX5_grants 28 = .ok (.iconst (-1), 1) := by decide +kernel
theorem z67_28 {st : List Value} {w : pm_H} {pl : pm_L} : pm_ev 67 28 pl st w = pm_ev 67 29 pl (.int (-1) :: st) w := pm_ny pt_67 d67_28 rfl rfl rfl
theorem d67_29 : decode cX5_grants 29 = .ok (.ireturn, 1) := by decide +kernel
theorem z67_29 {w : pm_H} {pl : pm_L} {x0 : Int32} : pm_ev 67 29 pl [.int x0] w = some (some (.int x0), w) := pm_nr pt_67 d67_29 rfl
theorem d67_30 : decode cX5_grants 30 = .ok (.iload 4, 2) := by decide +kernel
theorem z67_30 {st : List Value} {w : pm_H} {b0 b1 b2 b3 : Option Value} {x0 : Int32} : pm_ev 67 30 [b0, b1, b2, b3, some (.int x0)] st w = pm_ev 67 32 [b0, b1, b2, b3, some (.int x0)] (.int x0 :: st) w := pm_ny pt_67 d67_30 rfl rfl rfl
theorem d67_32 : decode cX5_grants 32 = .ok (.iload_n 1, 1) := by decide +kernel
theorem z67_32 {st : List Value} {w : pm_H} {b0 b2 b3 b4 : Option Value} {x0 : Int32} : pm_ev 67 32 [b0, some (.int x0), b2, b3, b4] st w = pm_ev 67 33 [b0, some (.int x0), b2, b3, b4] (.int x0 :: st) w := pm_ny pt_67 d67_32 rfl rfl rfl
theorem d67_33 : decode cX5_grants 33 = .ok (.invokestatic 231, 3) := by decide +kernel
theorem z67_33 {w : pm_H} {b0 b1 b2 b3 b4 : Option Value} {x0 : Int32} {x1 : Int32} : pm_ev 67 33 [b0, b1, b2, b3, b4] [.int x0, .int x1] w = pm_k 67 36 [b0, b1, b2, b3, b4] [.int x1] (pm_call 58 [.int x0] w) := pm_ns pt_67 pt_58 pt_M_5_231 (Or.inl rfl) d67_33 ⟨rfl, rfl⟩ ⟨⟨rfl, Nat.le_of_ble_eq_true rfl, Nat.le_of_ble_eq_true rfl, Nat.le_of_ble_eq_true rfl, Nat.le_of_ble_eq_true rfl⟩, rfl⟩
theorem d67_36 : decode cX5_grants 36 = .ok (.if_icmp .lt 12, 3) := by decide +kernel
theorem z67_36 {st : List Value} {w : pm_H} {pl : pm_L} {x0 x1 : Int32} : pm_ev 67 36 pl (.int x1 :: .int x0 :: st) w = if x0 < x1 then pm_ev 67 48 pl st w else pm_ev 67 39 pl st w := pm_nif pt_67 d67_36 rfl rfl rfl
theorem d67_39 : decode cX5_grants 39 = .ok (.iload 4, 2) := by decide +kernel
theorem z67_39 {st : List Value} {w : pm_H} {b0 b1 b2 b3 : Option Value} {x0 : Int32} : pm_ev 67 39 [b0, b1, b2, b3, some (.int x0)] st w = pm_ev 67 41 [b0, b1, b2, b3, some (.int x0)] (.int x0 :: st) w := pm_ny pt_67 d67_39 rfl rfl rfl
theorem d67_41 : decode cX5_grants 41 = .ok (.iload_n 1, 1) := by decide +kernel
theorem z67_41 {st : List Value} {w : pm_H} {b0 b2 b3 b4 : Option Value} {x0 : Int32} : pm_ev 67 41 [b0, some (.int x0), b2, b3, b4] st w = pm_ev 67 42 [b0, some (.int x0), b2, b3, b4] (.int x0 :: st) w := pm_ny pt_67 d67_41 rfl rfl rfl
theorem d67_42 : decode cX5_grants 42 = .ok (.invokestatic 234, 3) := by decide +kernel
theorem z67_42 {w : pm_H} {b0 b1 b2 b3 b4 : Option Value} {x0 : Int32} {x1 : Int32} : pm_ev 67 42 [b0, b1, b2, b3, b4] [.int x0, .int x1] w = pm_k 67 45 [b0, b1, b2, b3, b4] [.int x1] (pm_call 59 [.int x0] w) := pm_ns pt_67 pt_59 pt_M_5_234 (Or.inl rfl) d67_42 ⟨rfl, rfl⟩ ⟨⟨rfl, Nat.le_of_ble_eq_true rfl, Nat.le_of_ble_eq_true rfl, Nat.le_of_ble_eq_true rfl, Nat.le_of_ble_eq_true rfl⟩, rfl⟩
theorem d67_45 : decode cX5_grants 45 = .ok (.if_icmp .le 5, 3) := by decide +kernel
theorem z67_45 {st : List Value} {w : pm_H} {pl : pm_L} {x0 x1 : Int32} : pm_ev 67 45 pl (.int x1 :: .int x0 :: st) w = if x1 < x0 then pm_ev 67 48 pl st w else pm_ev 67 50 pl st w := pm_nin (c := x0 ≤ x1) pt_67 d67_45 rfl rfl rfl pm_ge
theorem d67_48 : decode cX5_grants 48 = .ok (.iconst (-1), 1) := by decide +kernel
theorem z67_48 {st : List Value} {w : pm_H} {pl : pm_L} : pm_ev 67 48 pl st w = pm_ev 67 49 pl (.int (-1) :: st) w := pm_ny pt_67 d67_48 rfl rfl rfl
theorem d67_49 : decode cX5_grants 49 = .ok (.ireturn, 1) := by decide +kernel
theorem z67_49 {w : pm_H} {pl : pm_L} {x0 : Int32} : pm_ev 67 49 pl [.int x0] w = some (some (.int x0), w) := pm_nr pt_67 d67_49 rfl
theorem d67_50 : decode cX5_grants 50 = .ok (.aload_n 0, 1) := by decide +kernel
theorem z67_50 {st : List Value} {w : pm_H} {b1 b2 b3 b4 : Option Value} {x0 : Nat} : pm_ev 67 50 [some (.ref x0), b1, b2, b3, b4] st w = pm_ev 67 51 [some (.ref x0), b1, b2, b3, b4] (.ref x0 :: st) w := pm_ny pt_67 d67_50 rfl rfl rfl
theorem d67_51 : decode cX5_grants 51 = .ok (.getfield 42, 3) := by decide +kernel
theorem z67_51 {st : List Value} {w : pm_H} {pl : pm_L} {x0 : Nat} : pm_ev 67 51 pl (.ref x0 :: st) w = pm_kv 67 54 pl st w (pm_gf (w x0) 5 4) := pm_ng pt_67 pt_F_5_42 d67_51
theorem d67_54 : decode cX5_grants 54 = .ok (.invokevirtual 237, 3) := by decide +kernel
theorem z67_54 {w : pm_H} {b0 b1 b2 b3 b4 : Option Value} {x0 : Nat} : pm_ev 67 54 [b0, b1, b2, b3, b4] [.ref x0] w = pm_k 67 57 [b0, b1, b2, b3, b4] [] (pm_vc (w x0) 4 (pm_call 38 [.ref x0] w)) := pm_nv pt_67 pt_38 pt_M_5_237 d67_54 ⟨rfl, rfl⟩ ⟨⟨rfl, Nat.le_of_ble_eq_true rfl, Nat.le_of_ble_eq_true rfl, Nat.le_of_ble_eq_true rfl, Nat.le_of_ble_eq_true rfl⟩, rfl⟩
theorem d67_57 : decode cX5_grants 57 = .ok (.ifCond .ne 6, 3) := by decide +kernel
theorem z67_57 {st : List Value} {w : pm_H} {pl : pm_L} {x0 : Int32} : pm_ev 67 57 pl (.int x0 :: st) w = if x0 = 0 then pm_ev 67 60 pl st w else pm_ev 67 63 pl st w := pm_nin (c := ¬ x0 = 0) pt_67 d67_57 rfl rfl rfl Iff.rfl
theorem d67_60 : decode cX5_grants 60 = .ok (.bipush (-2), 2) := by decide +kernel
theorem z67_60 {st : List Value} {w : pm_H} {pl : pm_L} : pm_ev 67 60 pl st w = pm_ev 67 62 pl (.int (-2) :: st) w := pm_ny pt_67 d67_60 rfl rfl rfl
theorem d67_62 : decode cX5_grants 62 = .ok (.ireturn, 1) := by decide +kernel
theorem z67_62 {w : pm_H} {pl : pm_L} {x0 : Int32} : pm_ev 67 62 pl [.int x0] w = some (some (.int x0), w) := pm_nr pt_67 d67_62 rfl
theorem d67_63 : decode cX5_grants 63 = .ok (.aload_n 0, 1) := by decide +kernel
theorem z67_63 {st : List Value} {w : pm_H} {b1 b2 b3 b4 : Option Value} {x0 : Nat} : pm_ev 67 63 [some (.ref x0), b1, b2, b3, b4] st w = pm_ev 67 64 [some (.ref x0), b1, b2, b3, b4] (.ref x0 :: st) w := pm_ny pt_67 d67_63 rfl rfl rfl
theorem d67_64 : decode cX5_grants 64 = .ok (.getfield 42, 3) := by decide +kernel
theorem z67_64 {st : List Value} {w : pm_H} {pl : pm_L} {x0 : Nat} : pm_ev 67 64 pl (.ref x0 :: st) w = pm_kv 67 67 pl st w (pm_gf (w x0) 5 4) := pm_ng pt_67 pt_F_5_42 d67_64
theorem d67_67 : decode cX5_grants 67 = .ok (.iload_n 1, 1) := by decide +kernel
theorem z67_67 {st : List Value} {w : pm_H} {b0 b2 b3 b4 : Option Value} {x0 : Int32} : pm_ev 67 67 [b0, some (.int x0), b2, b3, b4] st w = pm_ev 67 68 [b0, some (.int x0), b2, b3, b4] (.int x0 :: st) w := pm_ny pt_67 d67_67 rfl rfl rfl
theorem d67_68 : decode cX5_grants 68 = .ok (.iload_n 2, 1) := by decide +kernel
theorem z67_68 {st : List Value} {w : pm_H} {b0 b1 b3 b4 : Option Value} {x0 : Int32} : pm_ev 67 68 [b0, b1, some (.int x0), b3, b4] st w = pm_ev 67 69 [b0, b1, some (.int x0), b3, b4] (.int x0 :: st) w := pm_ny pt_67 d67_68 rfl rfl rfl
theorem d67_69 : decode cX5_grants 69 = .ok (.iload_n 3, 1) := by decide +kernel
theorem z67_69 {st : List Value} {w : pm_H} {b0 b1 b2 b4 : Option Value} {x0 : Int32} : pm_ev 67 69 [b0, b1, b2, some (.int x0), b4] st w = pm_ev 67 70 [b0, b1, b2, some (.int x0), b4] (.int x0 :: st) w := pm_ny pt_67 d67_69 rfl rfl rfl
theorem d67_70 : decode cX5_grants 70 = .ok (.iload 4, 2) := by decide +kernel
theorem z67_70 {st : List Value} {w : pm_H} {b0 b1 b2 b3 : Option Value} {x0 : Int32} : pm_ev 67 70 [b0, b1, b2, b3, some (.int x0)] st w = pm_ev 67 72 [b0, b1, b2, b3, some (.int x0)] (.int x0 :: st) w := pm_ny pt_67 d67_70 rfl rfl rfl
theorem d67_72 : decode cX5_grants 72 = .ok (.invokevirtual 240, 3) := by decide +kernel
theorem z67_72 {w : pm_H} {b0 b1 b2 b3 b4 : Option Value} {x0 : Int32} {x1 : Int32} {x2 : Int32} {x3 : Int32} {x4 : Nat} : pm_ev 67 72 [b0, b1, b2, b3, b4] [.int x0, .int x1, .int x2, .int x3, .ref x4] w = pm_k 67 75 [b0, b1, b2, b3, b4] [] (pm_vc (w x4) 4 (pm_call 39 [.ref x4, .int x3, .int x2, .int x1, .int x0] w)) := pm_nv pt_67 pt_39 pt_M_5_240 d67_72 ⟨rfl, rfl⟩ ⟨⟨rfl, Nat.le_of_ble_eq_true rfl, Nat.le_of_ble_eq_true rfl, Nat.le_of_ble_eq_true rfl, Nat.le_of_ble_eq_true rfl⟩, rfl⟩
theorem d67_75 : decode cX5_grants 75 = .ok (.aload_n 0, 1) := by decide +kernel
theorem z67_75 {st : List Value} {w : pm_H} {b1 b2 b3 b4 : Option Value} {x0 : Nat} : pm_ev 67 75 [some (.ref x0), b1, b2, b3, b4] st w = pm_ev 67 76 [some (.ref x0), b1, b2, b3, b4] (.ref x0 :: st) w := pm_ny pt_67 d67_75 rfl rfl rfl
theorem d67_76 : decode cX5_grants 76 = .ok (.getfield 35, 3) := by decide +kernel
theorem z67_76 {st : List Value} {w : pm_H} {pl : pm_L} {x0 : Nat} : pm_ev 67 76 pl (.ref x0 :: st) w = pm_kv 67 79 pl st w (pm_gf (w x0) 5 3) := pm_ng pt_67 pt_F_5_35 d67_76
theorem d67_79 : decode cX5_grants 79 = .ok (.iconst 1, 1) := by decide +kernel
theorem z67_79 {st : List Value} {w : pm_H} {pl : pm_L} : pm_ev 67 79 pl st w = pm_ev 67 80 pl (.int 1 :: st) w := pm_ny pt_67 d67_79 rfl rfl rfl
theorem d67_80 : decode cX5_grants 80 = .ok (.iconst 0, 1) := by decide +kernel
theorem z67_80 {st : List Value} {w : pm_H} {pl : pm_L} : pm_ev 67 80 pl st w = pm_ev 67 81 pl (.int 0 :: st) w := pm_ny pt_67 d67_80 rfl rfl rfl
theorem d67_81 : decode cX5_grants 81 = .ok (.iconst 0, 1) := by decide +kernel
theorem z67_81 {st : List Value} {w : pm_H} {pl : pm_L} : pm_ev 67 81 pl st w = pm_ev 67 82 pl (.int 0 :: st) w := pm_ny pt_67 d67_81 rfl rfl rfl
theorem d67_82 : decode cX5_grants 82 = .ok (.invokevirtual 228, 3) := by decide +kernel
theorem z67_82 {w : pm_H} {b0 b1 b2 b3 b4 : Option Value} {x0 : Int32} {x1 : Int32} {x2 : Int32} {x3 : Nat} : pm_ev 67 82 [b0, b1, b2, b3, b4] [.int x0, .int x1, .int x2, .ref x3] w = pm_k 67 85 [b0, b1, b2, b3, b4] [] (pm_vc (w x3) 1 (pm_call 9 [.ref x3, .int x2, .int x1, .int x0] w)) := pm_nv pt_67 pt_9 pt_M_5_228 d67_82 ⟨rfl, rfl⟩ ⟨⟨rfl, Nat.le_of_ble_eq_true rfl, Nat.le_of_ble_eq_true rfl, Nat.le_of_ble_eq_true rfl, Nat.le_of_ble_eq_true rfl⟩, rfl⟩
theorem d67_85 : decode cX5_grants 85 = .ok (.aload_n 0, 1) := by decide +kernel
theorem z67_85 {st : List Value} {w : pm_H} {b1 b2 b3 b4 : Option Value} {x0 : Nat} : pm_ev 67 85 [some (.ref x0), b1, b2, b3, b4] st w = pm_ev 67 86 [some (.ref x0), b1, b2, b3, b4] (.ref x0 :: st) w := pm_ny pt_67 d67_85 rfl rfl rfl
theorem d67_86 : decode cX5_grants 86 = .ok (.getfield 42, 3) := by decide +kernel
theorem z67_86 {st : List Value} {w : pm_H} {pl : pm_L} {x0 : Nat} : pm_ev 67 86 pl (.ref x0 :: st) w = pm_kv 67 89 pl st w (pm_gf (w x0) 5 4) := pm_ng pt_67 pt_F_5_42 d67_86
theorem d67_89 : decode cX5_grants 89 = .ok (.getfield 78, 3) := by decide +kernel
theorem z67_89 {st : List Value} {w : pm_H} {pl : pm_L} {x0 : Nat} : pm_ev 67 89 pl (.ref x0 :: st) w = pm_kv 67 92 pl st w (pm_gf (w x0) 4 7) := pm_ng pt_67 pt_F_5_78 d67_89
theorem d67_92 : decode cX5_grants 92 = .ok (.iconst 1, 1) := by decide +kernel
theorem z67_92 {st : List Value} {w : pm_H} {pl : pm_L} : pm_ev 67 92 pl st w = pm_ev 67 93 pl (.int 1 :: st) w := pm_ny pt_67 d67_92 rfl rfl rfl
theorem d67_93 : decode cX5_grants 93 = .ok (.isub, 1) := by decide +kernel
theorem z67_93 {st : List Value} {w : pm_H} {pl : pm_L} {x0 x1 : Int32} : pm_ev 67 93 pl (.int x1 :: .int x0 :: st) w = pm_ev 67 94 pl (.int (x0 - x1) :: st) w := pm_ny pt_67 d67_93 rfl rfl rfl
theorem d67_94 : decode cX5_grants 94 = .ok (.ireturn, 1) := by decide +kernel
theorem z67_94 {w : pm_H} {pl : pm_L} {x0 : Int32} : pm_ev 67 94 pl [.int x0] w = some (some (.int x0), w) := pm_nr pt_67 d67_94 rfl
theorem d68_0 : decode cX5_earns 0 = .ok (.iload_n 1, 1) := by decide +kernel
theorem z68_0 {st : List Value} {w : pm_H} {b0 b2 b3 : Option Value} {x0 : Int32} : pm_ev 68 0 [b0, some (.int x0), b2, b3] st w = pm_ev 68 1 [b0, some (.int x0), b2, b3] (.int x0 :: st) w := pm_ny pt_68 d68_0 rfl rfl rfl
theorem d68_1 : decode cX5_earns 1 = .ok (.invokestatic 99, 3) := by decide +kernel
theorem z68_1 {w : pm_H} {b0 b1 b2 b3 : Option Value} {x0 : Int32} : pm_ev 68 1 [b0, b1, b2, b3] [.int x0] w = pm_k 68 4 [b0, b1, b2, b3] [] (pm_call 69 [.int x0] w) := pm_ns pt_68 pt_69 pt_M_5_99 (Or.inl rfl) d68_1 ⟨rfl, rfl⟩ ⟨⟨rfl, Nat.le_of_ble_eq_true rfl, Nat.le_of_ble_eq_true rfl, Nat.le_of_ble_eq_true rfl, Nat.le_of_ble_eq_true rfl⟩, rfl⟩
theorem d68_4 : decode cX5_earns 4 = .ok (.ifCond .eq 15, 3) := by decide +kernel
theorem z68_4 {st : List Value} {w : pm_H} {pl : pm_L} {x0 : Int32} : pm_ev 68 4 pl (.int x0 :: st) w = if x0 = 0 then pm_ev 68 19 pl st w else pm_ev 68 7 pl st w := pm_nif pt_68 d68_4 rfl rfl rfl
theorem d68_7 : decode cX5_earns 7 = .ok (.iload_n 2, 1) := by decide +kernel
theorem z68_7 {st : List Value} {w : pm_H} {b0 b1 b3 : Option Value} {x0 : Int32} : pm_ev 68 7 [b0, b1, some (.int x0), b3] st w = pm_ev 68 8 [b0, b1, some (.int x0), b3] (.int x0 :: st) w := pm_ny pt_68 d68_7 rfl rfl rfl
theorem d68_8 : decode cX5_earns 8 = .ok (.ldc 244, 2) := by decide +kernel
theorem z68_8 {st : List Value} {w : pm_H} {pl : pm_L} : pm_ev 68 8 pl st w = pm_ev 68 10 pl (.int (-99999) :: st) w := pm_nk pt_68 pt_K_5_244 (by decide) d68_8
theorem d68_10 : decode cX5_earns 10 = .ok (.if_icmp .lt 9, 3) := by decide +kernel
theorem z68_10 {st : List Value} {w : pm_H} {pl : pm_L} {x0 x1 : Int32} : pm_ev 68 10 pl (.int x1 :: .int x0 :: st) w = if x0 < x1 then pm_ev 68 19 pl st w else pm_ev 68 13 pl st w := pm_nif pt_68 d68_10 rfl rfl rfl
theorem d68_13 : decode cX5_earns 13 = .ok (.iload_n 2, 1) := by decide +kernel
theorem z68_13 {st : List Value} {w : pm_H} {b0 b1 b3 : Option Value} {x0 : Int32} : pm_ev 68 13 [b0, b1, some (.int x0), b3] st w = pm_ev 68 14 [b0, b1, some (.int x0), b3] (.int x0 :: st) w := pm_ny pt_68 d68_13 rfl rfl rfl
theorem d68_14 : decode cX5_earns 14 = .ok (.ldc 245, 2) := by decide +kernel
theorem z68_14 {st : List Value} {w : pm_H} {pl : pm_L} : pm_ev 68 14 pl st w = pm_ev 68 16 pl (.int (99999) :: st) w := pm_nk pt_68 pt_K_5_245 (by decide) d68_14
theorem d68_16 : decode cX5_earns 16 = .ok (.if_icmp .le 6, 3) := by decide +kernel
theorem z68_16 {st : List Value} {w : pm_H} {pl : pm_L} {x0 x1 : Int32} : pm_ev 68 16 pl (.int x1 :: .int x0 :: st) w = if x1 < x0 then pm_ev 68 19 pl st w else pm_ev 68 22 pl st w := pm_nin (c := x0 ≤ x1) pt_68 d68_16 rfl rfl rfl pm_ge
theorem d68_19 : decode cX5_earns 19 = .ok (.ldc 194, 2) := by decide +kernel
theorem z68_19 {st : List Value} {w : pm_H} {pl : pm_L} : pm_ev 68 19 pl st w = pm_ev 68 21 pl (.int (-1000000000) :: st) w := pm_nk pt_68 pt_K_5_194 (by decide) d68_19
theorem d68_21 : decode cX5_earns 21 = .ok (.ireturn, 1) := by decide +kernel
theorem z68_21 {w : pm_H} {pl : pm_L} {x0 : Int32} : pm_ev 68 21 pl [.int x0] w = some (some (.int x0), w) := pm_nr pt_68 d68_21 rfl
theorem d68_22 : decode cX5_earns 22 = .ok (.aload_n 0, 1) := by decide +kernel
theorem z68_22 {st : List Value} {w : pm_H} {b1 b2 b3 : Option Value} {x0 : Nat} : pm_ev 68 22 [some (.ref x0), b1, b2, b3] st w = pm_ev 68 23 [some (.ref x0), b1, b2, b3] (.ref x0 :: st) w := pm_ny pt_68 d68_22 rfl rfl rfl
theorem d68_23 : decode cX5_earns 23 = .ok (.getfield 42, 3) := by decide +kernel
theorem z68_23 {st : List Value} {w : pm_H} {pl : pm_L} {x0 : Nat} : pm_ev 68 23 pl (.ref x0 :: st) w = pm_kv 68 26 pl st w (pm_gf (w x0) 5 4) := pm_ng pt_68 pt_F_5_42 d68_23
theorem d68_26 : decode cX5_earns 26 = .ok (.getfield 109, 3) := by decide +kernel
theorem z68_26 {st : List Value} {w : pm_H} {pl : pm_L} {x0 : Nat} : pm_ev 68 26 pl (.ref x0 :: st) w = pm_kv 68 29 pl st w (pm_gf (w x0) 4 1) := pm_ng pt_68 pt_F_5_109 d68_26
theorem d68_29 : decode cX5_earns 29 = .ok (.iload_n 1, 1) := by decide +kernel
theorem z68_29 {st : List Value} {w : pm_H} {b0 b2 b3 : Option Value} {x0 : Int32} : pm_ev 68 29 [b0, some (.int x0), b2, b3] st w = pm_ev 68 30 [b0, some (.int x0), b2, b3] (.int x0 :: st) w := pm_ny pt_68 d68_29 rfl rfl rfl
theorem d68_30 : decode cX5_earns 30 = .ok (.iaload, 1) := by decide +kernel
theorem z68_30 {st : List Value} {w : pm_H} {pl : pm_L} {x0 : Nat} {x1 : Int32} : pm_ev 68 30 pl (.int x1 :: .ref x0 :: st) w = pm_kv 68 31 pl st w (pm_ia (w x0) 0 x1) := pm_nia pt_68 d68_30
theorem d68_31 : decode cX5_earns 31 = .ok (.istore_n 3, 1) := by decide +kernel
theorem z68_31 {st : List Value} {w : pm_H} {b0 b1 b3 : Option Value} {x0 : Int32} {x9 : Int32} : pm_ev 68 31 [b0, b1, some (.int x9), b3] (.int x0 :: st) w = pm_ev 68 32 [b0, b1, some (.int x9), some (.int x0)] st w := pm_ny pt_68 d68_31 rfl rfl rfl
theorem d68_32 : decode cX5_earns 32 = .ok (.aload_n 0, 1) := by decide +kernel
theorem z68_32 {st : List Value} {w : pm_H} {b1 b2 b3 : Option Value} {x0 : Nat} : pm_ev 68 32 [some (.ref x0), b1, b2, b3] st w = pm_ev 68 33 [some (.ref x0), b1, b2, b3] (.ref x0 :: st) w := pm_ny pt_68 d68_32 rfl rfl rfl
theorem d68_33 : decode cX5_earns 33 = .ok (.getfield 42, 3) := by decide +kernel
theorem z68_33 {st : List Value} {w : pm_H} {pl : pm_L} {x0 : Nat} : pm_ev 68 33 pl (.ref x0 :: st) w = pm_kv 68 36 pl st w (pm_gf (w x0) 5 4) := pm_ng pt_68 pt_F_5_42 d68_33
theorem d68_36 : decode cX5_earns 36 = .ok (.getfield 109, 3) := by decide +kernel
theorem z68_36 {st : List Value} {w : pm_H} {pl : pm_L} {x0 : Nat} : pm_ev 68 36 pl (.ref x0 :: st) w = pm_kv 68 39 pl st w (pm_gf (w x0) 4 1) := pm_ng pt_68 pt_F_5_109 d68_36
theorem d68_39 : decode cX5_earns 39 = .ok (.iload_n 1, 1) := by decide +kernel
theorem z68_39 {st : List Value} {w : pm_H} {b0 b2 b3 : Option Value} {x0 : Int32} : pm_ev 68 39 [b0, some (.int x0), b2, b3] st w = pm_ev 68 40 [b0, some (.int x0), b2, b3] (.int x0 :: st) w := pm_ny pt_68 d68_39 rfl rfl rfl
theorem d68_40 : decode cX5_earns 40 = .ok (.iload_n 2, 1) := by decide +kernel
theorem z68_40 {st : List Value} {w : pm_H} {b0 b1 b3 : Option Value} {x0 : Int32} : pm_ev 68 40 [b0, b1, some (.int x0), b3] st w = pm_ev 68 41 [b0, b1, some (.int x0), b3] (.int x0 :: st) w := pm_ny pt_68 d68_40 rfl rfl rfl
theorem d68_41 : decode cX5_earns 41 = .ok (.iastore, 1) := by decide +kernel
theorem z68_41 {st : List Value} {w : pm_H} {pl : pm_L} {x0 : Nat} {x1 : Int32} {x2 : Int32} : pm_ev 68 41 pl (.int x2 :: .int x1 :: .ref x0 :: st) w = pm_kw 68 42 pl st (pm_is w x0 (w x0) x1 x2) := pm_nis pt_68 d68_41
theorem d68_42 : decode cX5_earns 42 = .ok (.aload_n 0, 1) := by decide +kernel
theorem z68_42 {st : List Value} {w : pm_H} {b1 b2 b3 : Option Value} {x0 : Nat} : pm_ev 68 42 [some (.ref x0), b1, b2, b3] st w = pm_ev 68 43 [some (.ref x0), b1, b2, b3] (.ref x0 :: st) w := pm_ny pt_68 d68_42 rfl rfl rfl
theorem d68_43 : decode cX5_earns 43 = .ok (.getfield 35, 3) := by decide +kernel
theorem z68_43 {st : List Value} {w : pm_H} {pl : pm_L} {x0 : Nat} : pm_ev 68 43 pl (.ref x0 :: st) w = pm_kv 68 46 pl st w (pm_gf (w x0) 5 3) := pm_ng pt_68 pt_F_5_35 d68_43
theorem d68_46 : decode cX5_earns 46 = .ok (.iconst 2, 1) := by decide +kernel
theorem z68_46 {st : List Value} {w : pm_H} {pl : pm_L} : pm_ev 68 46 pl st w = pm_ev 68 47 pl (.int 2 :: st) w := pm_ny pt_68 d68_46 rfl rfl rfl
theorem d68_47 : decode cX5_earns 47 = .ok (.iload_n 1, 1) := by decide +kernel
theorem z68_47 {st : List Value} {w : pm_H} {b0 b2 b3 : Option Value} {x0 : Int32} : pm_ev 68 47 [b0, some (.int x0), b2, b3] st w = pm_ev 68 48 [b0, some (.int x0), b2, b3] (.int x0 :: st) w := pm_ny pt_68 d68_47 rfl rfl rfl
theorem d68_48 : decode cX5_earns 48 = .ok (.iload_n 3, 1) := by decide +kernel
theorem z68_48 {st : List Value} {w : pm_H} {b0 b1 b2 : Option Value} {x0 : Int32} : pm_ev 68 48 [b0, b1, b2, some (.int x0)] st w = pm_ev 68 49 [b0, b1, b2, some (.int x0)] (.int x0 :: st) w := pm_ny pt_68 d68_48 rfl rfl rfl
theorem d68_49 : decode cX5_earns 49 = .ok (.invokevirtual 228, 3) := by decide +kernel
theorem z68_49 {w : pm_H} {b0 b1 b2 b3 : Option Value} {x0 : Int32} {x1 : Int32} {x2 : Int32} {x3 : Nat} : pm_ev 68 49 [b0, b1, b2, b3] [.int x0, .int x1, .int x2, .ref x3] w = pm_k 68 52 [b0, b1, b2, b3] [] (pm_vc (w x3) 1 (pm_call 9 [.ref x3, .int x2, .int x1, .int x0] w)) := pm_nv pt_68 pt_9 pt_M_5_228 d68_49 ⟨rfl, rfl⟩ ⟨⟨rfl, Nat.le_of_ble_eq_true rfl, Nat.le_of_ble_eq_true rfl, Nat.le_of_ble_eq_true rfl, Nat.le_of_ble_eq_true rfl⟩, rfl⟩
theorem d68_52 : decode cX5_earns 52 = .ok (.iload_n 3, 1) := by decide +kernel
theorem z68_52 {st : List Value} {w : pm_H} {b0 b1 b2 : Option Value} {x0 : Int32} : pm_ev 68 52 [b0, b1, b2, some (.int x0)] st w = pm_ev 68 53 [b0, b1, b2, some (.int x0)] (.int x0 :: st) w := pm_ny pt_68 d68_52 rfl rfl rfl
theorem d68_53 : decode cX5_earns 53 = .ok (.ireturn, 1) := by decide +kernel
theorem z68_53 {w : pm_H} {pl : pm_L} {x0 : Int32} : pm_ev 68 53 pl [.int x0] w = some (some (.int x0), w) := pm_nr pt_68 d68_53 rfl
theorem d69_0 : decode cX5_isQuarter 0 = .ok (.iload_n 0, 1) := by decide +kernel
theorem z69_0 {st : List Value} {w : pm_H}  {x0 : Int32} : pm_ev 69 0 [some (.int x0)] st w = pm_ev 69 1 [some (.int x0)] (.int x0 :: st) w := pm_ny pt_69 d69_0 rfl rfl rfl
theorem d69_1 : decode cX5_isQuarter 1 = .ok (.ifCond .lt 12, 3) := by decide +kernel
theorem z69_1 {st : List Value} {w : pm_H} {pl : pm_L} {x0 : Int32} : pm_ev 69 1 pl (.int x0 :: st) w = if x0 < 0 then pm_ev 69 13 pl st w else pm_ev 69 4 pl st w := pm_nif pt_69 d69_1 rfl rfl rfl
theorem d69_4 : decode cX5_isQuarter 4 = .ok (.iload_n 0, 1) := by decide +kernel
theorem z69_4 {st : List Value} {w : pm_H}  {x0 : Int32} : pm_ev 69 4 [some (.int x0)] st w = pm_ev 69 5 [some (.int x0)] (.int x0 :: st) w := pm_ny pt_69 d69_4 rfl rfl rfl
theorem d69_5 : decode cX5_isQuarter 5 = .ok (.iconst 4, 1) := by decide +kernel
theorem z69_5 {st : List Value} {w : pm_H} {pl : pm_L} : pm_ev 69 5 pl st w = pm_ev 69 6 pl (.int 4 :: st) w := pm_ny pt_69 d69_5 rfl rfl rfl
theorem d69_6 : decode cX5_isQuarter 6 = .ok (.if_icmp .ge 7, 3) := by decide +kernel
theorem z69_6 {st : List Value} {w : pm_H} {pl : pm_L} {x0 x1 : Int32} : pm_ev 69 6 pl (.int x1 :: .int x0 :: st) w = if x0 < x1 then pm_ev 69 9 pl st w else pm_ev 69 13 pl st w := pm_nin (c := x1 ≤ x0) pt_69 d69_6 rfl rfl rfl pm_ge
theorem d69_9 : decode cX5_isQuarter 9 = .ok (.iconst 1, 1) := by decide +kernel
theorem z69_9 {st : List Value} {w : pm_H} {pl : pm_L} : pm_ev 69 9 pl st w = pm_ev 69 10 pl (.int 1 :: st) w := pm_ny pt_69 d69_9 rfl rfl rfl
theorem d69_10 : decode cX5_isQuarter 10 = .ok (.goto 4, 3) := by decide +kernel
theorem z69_10 {st : List Value} {w : pm_H} {pl : pm_L} : pm_ev 69 10 pl st w = pm_ev 69 14 pl st w := pm_ny pt_69 d69_10 rfl rfl rfl
theorem d69_13 : decode cX5_isQuarter 13 = .ok (.iconst 0, 1) := by decide +kernel
theorem z69_13 {st : List Value} {w : pm_H} {pl : pm_L} : pm_ev 69 13 pl st w = pm_ev 69 14 pl (.int 0 :: st) w := pm_ny pt_69 d69_13 rfl rfl rfl
theorem d69_14 : decode cX5_isQuarter 14 = .ok (.ireturn, 1) := by decide +kernel
theorem z69_14 {w : pm_H} {pl : pm_L} {x0 : Int32} : pm_ev 69 14 pl [.int x0] w = pm_zr x0 w := pm_nz pt_69 d69_14
theorem d70_0 : decode cX5_prices 0 = .ok (.iload_n 1, 1) := by decide +kernel
theorem z70_0 {st : List Value} {w : pm_H} {b0 b2 b3 : Option Value} {x0 : Int32} : pm_ev 70 0 [b0, some (.int x0), b2, b3] st w = pm_ev 70 1 [b0, some (.int x0), b2, b3] (.int x0 :: st) w := pm_ny pt_70 d70_0 rfl rfl rfl
theorem d70_1 : decode cX5_prices 1 = .ok (.invokestatic 99, 3) := by decide +kernel
theorem z70_1 {w : pm_H} {b0 b1 b2 b3 : Option Value} {x0 : Int32} : pm_ev 70 1 [b0, b1, b2, b3] [.int x0] w = pm_k 70 4 [b0, b1, b2, b3] [] (pm_call 69 [.int x0] w) := pm_ns pt_70 pt_69 pt_M_5_99 (Or.inl rfl) d70_1 ⟨rfl, rfl⟩ ⟨⟨rfl, Nat.le_of_ble_eq_true rfl, Nat.le_of_ble_eq_true rfl, Nat.le_of_ble_eq_true rfl, Nat.le_of_ble_eq_true rfl⟩, rfl⟩
theorem d70_4 : decode cX5_prices 4 = .ok (.ifCond .eq 10, 3) := by decide +kernel
theorem z70_4 {st : List Value} {w : pm_H} {pl : pm_L} {x0 : Int32} : pm_ev 70 4 pl (.int x0 :: st) w = if x0 = 0 then pm_ev 70 14 pl st w else pm_ev 70 7 pl st w := pm_nif pt_70 d70_4 rfl rfl rfl
theorem d70_7 : decode cX5_prices 7 = .ok (.iload_n 2, 1) := by decide +kernel
theorem z70_7 {st : List Value} {w : pm_H} {b0 b1 b3 : Option Value} {x0 : Int32} : pm_ev 70 7 [b0, b1, some (.int x0), b3] st w = pm_ev 70 8 [b0, b1, some (.int x0), b3] (.int x0 :: st) w := pm_ny pt_70 d70_7 rfl rfl rfl
theorem d70_8 : decode cX5_prices 8 = .ok (.invokestatic 202, 3) := by decide +kernel
theorem z70_8 {w : pm_H} {b0 b1 b2 b3 : Option Value} {x0 : Int32} : pm_ev 70 8 [b0, b1, b2, b3] [.int x0] w = pm_k 70 11 [b0, b1, b2, b3] [] (pm_call 71 [.int x0] w) := pm_ns pt_70 pt_71 pt_M_5_202 (Or.inl rfl) d70_8 ⟨rfl, rfl⟩ ⟨⟨rfl, Nat.le_of_ble_eq_true rfl, Nat.le_of_ble_eq_true rfl, Nat.le_of_ble_eq_true rfl, Nat.le_of_ble_eq_true rfl⟩, rfl⟩
theorem d70_11 : decode cX5_prices 11 = .ok (.ifCond .ne 5, 3) := by decide +kernel
theorem z70_11 {st : List Value} {w : pm_H} {pl : pm_L} {x0 : Int32} : pm_ev 70 11 pl (.int x0 :: st) w = if x0 = 0 then pm_ev 70 14 pl st w else pm_ev 70 16 pl st w := pm_nin (c := ¬ x0 = 0) pt_70 d70_11 rfl rfl rfl Iff.rfl
theorem d70_14 : decode cX5_prices 14 = .ok (.iconst (-1), 1) := by decide +kernel
theorem z70_14 {st : List Value} {w : pm_H} {pl : pm_L} : pm_ev 70 14 pl st w = pm_ev 70 15 pl (.int (-1) :: st) w := pm_ny pt_70 d70_14 rfl rfl rfl
theorem d70_15 : decode cX5_prices 15 = .ok (.ireturn, 1) := by decide +kernel
theorem z70_15 {w : pm_H} {pl : pm_L} {x0 : Int32} : pm_ev 70 15 pl [.int x0] w = some (some (.int x0), w) := pm_nr pt_70 d70_15 rfl
theorem d70_16 : decode cX5_prices 16 = .ok (.aload_n 0, 1) := by decide +kernel
theorem z70_16 {st : List Value} {w : pm_H} {b1 b2 b3 : Option Value} {x0 : Nat} : pm_ev 70 16 [some (.ref x0), b1, b2, b3] st w = pm_ev 70 17 [some (.ref x0), b1, b2, b3] (.ref x0 :: st) w := pm_ny pt_70 d70_16 rfl rfl rfl
theorem d70_17 : decode cX5_prices 17 = .ok (.getfield 42, 3) := by decide +kernel
theorem z70_17 {st : List Value} {w : pm_H} {pl : pm_L} {x0 : Nat} : pm_ev 70 17 pl (.ref x0 :: st) w = pm_kv 70 20 pl st w (pm_gf (w x0) 5 4) := pm_ng pt_70 pt_F_5_42 d70_17
theorem d70_20 : decode cX5_prices 20 = .ok (.getfield 113, 3) := by decide +kernel
theorem z70_20 {st : List Value} {w : pm_H} {pl : pm_L} {x0 : Nat} : pm_ev 70 20 pl (.ref x0 :: st) w = pm_kv 70 23 pl st w (pm_gf (w x0) 4 2) := pm_ng pt_70 pt_F_5_113 d70_20
theorem d70_23 : decode cX5_prices 23 = .ok (.iload_n 1, 1) := by decide +kernel
theorem z70_23 {st : List Value} {w : pm_H} {b0 b2 b3 : Option Value} {x0 : Int32} : pm_ev 70 23 [b0, some (.int x0), b2, b3] st w = pm_ev 70 24 [b0, some (.int x0), b2, b3] (.int x0 :: st) w := pm_ny pt_70 d70_23 rfl rfl rfl
theorem d70_24 : decode cX5_prices 24 = .ok (.iaload, 1) := by decide +kernel
theorem z70_24 {st : List Value} {w : pm_H} {pl : pm_L} {x0 : Nat} {x1 : Int32} : pm_ev 70 24 pl (.int x1 :: .ref x0 :: st) w = pm_kv 70 25 pl st w (pm_ia (w x0) 0 x1) := pm_nia pt_70 d70_24
theorem d70_25 : decode cX5_prices 25 = .ok (.istore_n 3, 1) := by decide +kernel
theorem z70_25 {st : List Value} {w : pm_H} {b0 b1 b3 : Option Value} {x0 : Int32} {x9 : Int32} : pm_ev 70 25 [b0, b1, some (.int x9), b3] (.int x0 :: st) w = pm_ev 70 26 [b0, b1, some (.int x9), some (.int x0)] st w := pm_ny pt_70 d70_25 rfl rfl rfl
theorem d70_26 : decode cX5_prices 26 = .ok (.aload_n 0, 1) := by decide +kernel
theorem z70_26 {st : List Value} {w : pm_H} {b1 b2 b3 : Option Value} {x0 : Nat} : pm_ev 70 26 [some (.ref x0), b1, b2, b3] st w = pm_ev 70 27 [some (.ref x0), b1, b2, b3] (.ref x0 :: st) w := pm_ny pt_70 d70_26 rfl rfl rfl
theorem d70_27 : decode cX5_prices 27 = .ok (.getfield 42, 3) := by decide +kernel
theorem z70_27 {st : List Value} {w : pm_H} {pl : pm_L} {x0 : Nat} : pm_ev 70 27 pl (.ref x0 :: st) w = pm_kv 70 30 pl st w (pm_gf (w x0) 5 4) := pm_ng pt_70 pt_F_5_42 d70_27
theorem d70_30 : decode cX5_prices 30 = .ok (.getfield 113, 3) := by decide +kernel
theorem z70_30 {st : List Value} {w : pm_H} {pl : pm_L} {x0 : Nat} : pm_ev 70 30 pl (.ref x0 :: st) w = pm_kv 70 33 pl st w (pm_gf (w x0) 4 2) := pm_ng pt_70 pt_F_5_113 d70_30
theorem d70_33 : decode cX5_prices 33 = .ok (.iload_n 1, 1) := by decide +kernel
theorem z70_33 {st : List Value} {w : pm_H} {b0 b2 b3 : Option Value} {x0 : Int32} : pm_ev 70 33 [b0, some (.int x0), b2, b3] st w = pm_ev 70 34 [b0, some (.int x0), b2, b3] (.int x0 :: st) w := pm_ny pt_70 d70_33 rfl rfl rfl
theorem d70_34 : decode cX5_prices 34 = .ok (.iload_n 2, 1) := by decide +kernel
theorem z70_34 {st : List Value} {w : pm_H} {b0 b1 b3 : Option Value} {x0 : Int32} : pm_ev 70 34 [b0, b1, some (.int x0), b3] st w = pm_ev 70 35 [b0, b1, some (.int x0), b3] (.int x0 :: st) w := pm_ny pt_70 d70_34 rfl rfl rfl
theorem d70_35 : decode cX5_prices 35 = .ok (.iastore, 1) := by decide +kernel
theorem z70_35 {st : List Value} {w : pm_H} {pl : pm_L} {x0 : Nat} {x1 : Int32} {x2 : Int32} : pm_ev 70 35 pl (.int x2 :: .int x1 :: .ref x0 :: st) w = pm_kw 70 36 pl st (pm_is w x0 (w x0) x1 x2) := pm_nis pt_70 d70_35
theorem d70_36 : decode cX5_prices 36 = .ok (.aload_n 0, 1) := by decide +kernel
theorem z70_36 {st : List Value} {w : pm_H} {b1 b2 b3 : Option Value} {x0 : Nat} : pm_ev 70 36 [some (.ref x0), b1, b2, b3] st w = pm_ev 70 37 [some (.ref x0), b1, b2, b3] (.ref x0 :: st) w := pm_ny pt_70 d70_36 rfl rfl rfl
theorem d70_37 : decode cX5_prices 37 = .ok (.getfield 35, 3) := by decide +kernel
theorem z70_37 {st : List Value} {w : pm_H} {pl : pm_L} {x0 : Nat} : pm_ev 70 37 pl (.ref x0 :: st) w = pm_kv 70 40 pl st w (pm_gf (w x0) 5 3) := pm_ng pt_70 pt_F_5_35 d70_37
theorem d70_40 : decode cX5_prices 40 = .ok (.iconst 3, 1) := by decide +kernel
theorem z70_40 {st : List Value} {w : pm_H} {pl : pm_L} : pm_ev 70 40 pl st w = pm_ev 70 41 pl (.int 3 :: st) w := pm_ny pt_70 d70_40 rfl rfl rfl
theorem d70_41 : decode cX5_prices 41 = .ok (.iload_n 1, 1) := by decide +kernel
theorem z70_41 {st : List Value} {w : pm_H} {b0 b2 b3 : Option Value} {x0 : Int32} : pm_ev 70 41 [b0, some (.int x0), b2, b3] st w = pm_ev 70 42 [b0, some (.int x0), b2, b3] (.int x0 :: st) w := pm_ny pt_70 d70_41 rfl rfl rfl
theorem d70_42 : decode cX5_prices 42 = .ok (.iload_n 3, 1) := by decide +kernel
theorem z70_42 {st : List Value} {w : pm_H} {b0 b1 b2 : Option Value} {x0 : Int32} : pm_ev 70 42 [b0, b1, b2, some (.int x0)] st w = pm_ev 70 43 [b0, b1, b2, some (.int x0)] (.int x0 :: st) w := pm_ny pt_70 d70_42 rfl rfl rfl
theorem d70_43 : decode cX5_prices 43 = .ok (.invokevirtual 228, 3) := by decide +kernel
theorem z70_43 {w : pm_H} {b0 b1 b2 b3 : Option Value} {x0 : Int32} {x1 : Int32} {x2 : Int32} {x3 : Nat} : pm_ev 70 43 [b0, b1, b2, b3] [.int x0, .int x1, .int x2, .ref x3] w = pm_k 70 46 [b0, b1, b2, b3] [] (pm_vc (w x3) 1 (pm_call 9 [.ref x3, .int x2, .int x1, .int x0] w)) := pm_nv pt_70 pt_9 pt_M_5_228 d70_43 ⟨rfl, rfl⟩ ⟨⟨rfl, Nat.le_of_ble_eq_true rfl, Nat.le_of_ble_eq_true rfl, Nat.le_of_ble_eq_true rfl, Nat.le_of_ble_eq_true rfl⟩, rfl⟩
theorem d70_46 : decode cX5_prices 46 = .ok (.iload_n 3, 1) := by decide +kernel
theorem z70_46 {st : List Value} {w : pm_H} {b0 b1 b2 : Option Value} {x0 : Int32} : pm_ev 70 46 [b0, b1, b2, some (.int x0)] st w = pm_ev 70 47 [b0, b1, b2, some (.int x0)] (.int x0 :: st) w := pm_ny pt_70 d70_46 rfl rfl rfl
theorem d70_47 : decode cX5_prices 47 = .ok (.ireturn, 1) := by decide +kernel
theorem z70_47 {w : pm_H} {pl : pm_L} {x0 : Int32} : pm_ev 70 47 pl [.int x0] w = some (some (.int x0), w) := pm_nr pt_70 d70_47 rfl
theorem d71_0 : decode cX5_isPrice 0 = .ok (.iload_n 0, 1) := by decide +kernel
theorem z71_0 {st : List Value} {w : pm_H}  {x0 : Int32} : pm_ev 71 0 [some (.int x0)] st w = pm_ev 71 1 [some (.int x0)] (.int x0 :: st) w := pm_ny pt_71 d71_0 rfl rfl rfl
theorem d71_1 : decode cX5_isPrice 1 = .ok (.iconst 1, 1) := by decide +kernel
theorem z71_1 {st : List Value} {w : pm_H} {pl : pm_L} : pm_ev 71 1 pl st w = pm_ev 71 2 pl (.int 1 :: st) w := pm_ny pt_71 d71_1 rfl rfl rfl
theorem d71_2 : decode cX5_isPrice 2 = .ok (.if_icmp .lt 14, 3) := by decide +kernel
theorem z71_2 {st : List Value} {w : pm_H} {pl : pm_L} {x0 x1 : Int32} : pm_ev 71 2 pl (.int x1 :: .int x0 :: st) w = if x0 < x1 then pm_ev 71 16 pl st w else pm_ev 71 5 pl st w := pm_nif pt_71 d71_2 rfl rfl rfl
theorem d71_5 : decode cX5_isPrice 5 = .ok (.iload_n 0, 1) := by decide +kernel
theorem z71_5 {st : List Value} {w : pm_H}  {x0 : Int32} : pm_ev 71 5 [some (.int x0)] st w = pm_ev 71 6 [some (.int x0)] (.int x0 :: st) w := pm_ny pt_71 d71_5 rfl rfl rfl
theorem d71_6 : decode cX5_isPrice 6 = .ok (.sipush 9999, 3) := by decide +kernel
theorem z71_6 {st : List Value} {w : pm_H} {pl : pm_L} : pm_ev 71 6 pl st w = pm_ev 71 9 pl (.int 9999 :: st) w := pm_ny pt_71 d71_6 rfl rfl rfl
theorem d71_9 : decode cX5_isPrice 9 = .ok (.if_icmp .gt 7, 3) := by decide +kernel
theorem z71_9 {st : List Value} {w : pm_H} {pl : pm_L} {x0 x1 : Int32} : pm_ev 71 9 pl (.int x1 :: .int x0 :: st) w = if x1 < x0 then pm_ev 71 16 pl st w else pm_ev 71 12 pl st w := pm_nif pt_71 d71_9 rfl rfl rfl
theorem d71_12 : decode cX5_isPrice 12 = .ok (.iconst 1, 1) := by decide +kernel
theorem z71_12 {st : List Value} {w : pm_H} {pl : pm_L} : pm_ev 71 12 pl st w = pm_ev 71 13 pl (.int 1 :: st) w := pm_ny pt_71 d71_12 rfl rfl rfl
theorem d71_13 : decode cX5_isPrice 13 = .ok (.goto 4, 3) := by decide +kernel
theorem z71_13 {st : List Value} {w : pm_H} {pl : pm_L} : pm_ev 71 13 pl st w = pm_ev 71 17 pl st w := pm_ny pt_71 d71_13 rfl rfl rfl
theorem d71_16 : decode cX5_isPrice 16 = .ok (.iconst 0, 1) := by decide +kernel
theorem z71_16 {st : List Value} {w : pm_H} {pl : pm_L} : pm_ev 71 16 pl st w = pm_ev 71 17 pl (.int 0 :: st) w := pm_ny pt_71 d71_16 rfl rfl rfl
theorem d71_17 : decode cX5_isPrice 17 = .ok (.ireturn, 1) := by decide +kernel
theorem z71_17 {w : pm_H} {pl : pm_L} {x0 : Int32} : pm_ev 71 17 pl [.int x0] w = pm_zr x0 w := pm_nz pt_71 d71_17
theorem d72_0 : decode cX5_undo 0 = .ok (.aload_n 0, 1) := by decide +kernel
theorem z72_0 {st : List Value} {w : pm_H}  {x0 : Nat} : pm_ev 72 0 [some (.ref x0)] st w = pm_ev 72 1 [some (.ref x0)] (.ref x0 :: st) w := pm_ny pt_72 d72_0 rfl rfl rfl
theorem d72_1 : decode cX5_undo 1 = .ok (.getfield 35, 3) := by decide +kernel
theorem z72_1 {st : List Value} {w : pm_H} {pl : pm_L} {x0 : Nat} : pm_ev 72 1 pl (.ref x0 :: st) w = pm_kv 72 4 pl st w (pm_gf (w x0) 5 3) := pm_ng pt_72 pt_F_5_35 d72_1
theorem d72_4 : decode cX5_undo 4 = .ok (.getfield 72, 3) := by decide +kernel
theorem z72_4 {st : List Value} {w : pm_H} {pl : pm_L} {x0 : Nat} : pm_ev 72 4 pl (.ref x0 :: st) w = pm_kv 72 7 pl st w (pm_gf (w x0) 1 0) := pm_ng pt_72 pt_F_5_72 d72_4
theorem d72_7 : decode cX5_undo 7 = .ok (.ifCond .gt 5, 3) := by decide +kernel
theorem z72_7 {st : List Value} {w : pm_H} {pl : pm_L} {x0 : Int32} : pm_ev 72 7 pl (.int x0 :: st) w = if 0 < x0 then pm_ev 72 12 pl st w else pm_ev 72 10 pl st w := pm_nif pt_72 d72_7 rfl rfl rfl
theorem d72_10 : decode cX5_undo 10 = .ok (.iconst (-1), 1) := by decide +kernel
theorem z72_10 {st : List Value} {w : pm_H} {pl : pm_L} : pm_ev 72 10 pl st w = pm_ev 72 11 pl (.int (-1) :: st) w := pm_ny pt_72 d72_10 rfl rfl rfl
theorem d72_11 : decode cX5_undo 11 = .ok (.ireturn, 1) := by decide +kernel
theorem z72_11 {w : pm_H} {pl : pm_L} {x0 : Int32} : pm_ev 72 11 pl [.int x0] w = some (some (.int x0), w) := pm_nr pt_72 d72_11 rfl
theorem d72_12 : decode cX5_undo 12 = .ok (.aload_n 0, 1) := by decide +kernel
theorem z72_12 {st : List Value} {w : pm_H}  {x0 : Nat} : pm_ev 72 12 [some (.ref x0)] st w = pm_ev 72 13 [some (.ref x0)] (.ref x0 :: st) w := pm_ny pt_72 d72_12 rfl rfl rfl
theorem d72_13 : decode cX5_undo 13 = .ok (.getfield 35, 3) := by decide +kernel
theorem z72_13 {st : List Value} {w : pm_H} {pl : pm_L} {x0 : Nat} : pm_ev 72 13 pl (.ref x0 :: st) w = pm_kv 72 16 pl st w (pm_gf (w x0) 5 3) := pm_ng pt_72 pt_F_5_35 d72_13
theorem d72_16 : decode cX5_undo 16 = .ok (.aload_n 0, 1) := by decide +kernel
theorem z72_16 {st : List Value} {w : pm_H}  {x0 : Nat} : pm_ev 72 16 [some (.ref x0)] st w = pm_ev 72 17 [some (.ref x0)] (.ref x0 :: st) w := pm_ny pt_72 d72_16 rfl rfl rfl
theorem d72_17 : decode cX5_undo 17 = .ok (.getfield 42, 3) := by decide +kernel
theorem z72_17 {st : List Value} {w : pm_H} {pl : pm_L} {x0 : Nat} : pm_ev 72 17 pl (.ref x0 :: st) w = pm_kv 72 20 pl st w (pm_gf (w x0) 5 4) := pm_ng pt_72 pt_F_5_42 d72_17
theorem d72_20 : decode cX5_undo 20 = .ok (.invokevirtual 246, 3) := by decide +kernel
theorem z72_20 {w : pm_H} {b0 : Option Value} {x0 : Nat} {x1 : Nat} : pm_ev 72 20 [b0] [.ref x0, .ref x1] w = pm_k 72 23 [b0] [] (pm_vc (w x1) 1 (pm_call 11 [.ref x1, .ref x0] w)) := pm_nv pt_72 pt_11 pt_M_5_246 d72_20 ⟨rfl, rfl⟩ ⟨⟨rfl, Nat.le_of_ble_eq_true rfl, Nat.le_of_ble_eq_true rfl, Nat.le_of_ble_eq_true rfl, Nat.le_of_ble_eq_true rfl⟩, rfl⟩
theorem d72_23 : decode cX5_undo 23 = .ok (.aload_n 0, 1) := by decide +kernel
theorem z72_23 {st : List Value} {w : pm_H}  {x0 : Nat} : pm_ev 72 23 [some (.ref x0)] st w = pm_ev 72 24 [some (.ref x0)] (.ref x0 :: st) w := pm_ny pt_72 d72_23 rfl rfl rfl
theorem d72_24 : decode cX5_undo 24 = .ok (.getfield 35, 3) := by decide +kernel
theorem z72_24 {st : List Value} {w : pm_H} {pl : pm_L} {x0 : Nat} : pm_ev 72 24 pl (.ref x0 :: st) w = pm_kv 72 27 pl st w (pm_gf (w x0) 5 3) := pm_ng pt_72 pt_F_5_35 d72_24
theorem d72_27 : decode cX5_undo 27 = .ok (.getfield 72, 3) := by decide +kernel
theorem z72_27 {st : List Value} {w : pm_H} {pl : pm_L} {x0 : Nat} : pm_ev 72 27 pl (.ref x0 :: st) w = pm_kv 72 30 pl st w (pm_gf (w x0) 1 0) := pm_ng pt_72 pt_F_5_72 d72_27
theorem d72_30 : decode cX5_undo 30 = .ok (.ireturn, 1) := by decide +kernel
theorem z72_30 {w : pm_H} {pl : pm_L} {x0 : Int32} : pm_ev 72 30 pl [.int x0] w = some (some (.int x0), w) := pm_nr pt_72 d72_30 rfl
theorem d73_0 : decode cX5_quarter 0 = .ok (.iload_n 1, 1) := by decide +kernel
theorem z73_0 {st : List Value} {w : pm_H} {b0 b2 : Option Value} {x0 : Int32} : pm_ev 73 0 [b0, some (.int x0), b2] st w = pm_ev 73 1 [b0, some (.int x0), b2] (.int x0 :: st) w := pm_ny pt_73 d73_0 rfl rfl rfl
theorem d73_1 : decode cX5_quarter 1 = .ok (.invokestatic 99, 3) := by decide +kernel
theorem z73_1 {w : pm_H} {b0 b1 b2 : Option Value} {x0 : Int32} : pm_ev 73 1 [b0, b1, b2] [.int x0] w = pm_k 73 4 [b0, b1, b2] [] (pm_call 69 [.int x0] w) := pm_ns pt_73 pt_69 pt_M_5_99 (Or.inl rfl) d73_1 ⟨rfl, rfl⟩ ⟨⟨rfl, Nat.le_of_ble_eq_true rfl, Nat.le_of_ble_eq_true rfl, Nat.le_of_ble_eq_true rfl, Nat.le_of_ble_eq_true rfl⟩, rfl⟩
theorem d73_4 : decode cX5_quarter 4 = .ok (.ifCond .ne 13, 3) := by decide +kernel
theorem z73_4 {st : List Value} {w : pm_H} {pl : pm_L} {x0 : Int32} : pm_ev 73 4 pl (.int x0 :: st) w = if x0 = 0 then pm_ev 73 7 pl st w else pm_ev 73 17 pl st w := pm_nin (c := ¬ x0 = 0) pt_73 d73_4 rfl rfl rfl Iff.rfl
theorem d73_17 : decode cX5_quarter 17 = .ok (.iload_n 2, 1) := by decide +kernel
theorem z73_17 {st : List Value} {w : pm_H} {b0 b1 : Option Value} {x0 : Int32} : pm_ev 73 17 [b0, b1, some (.int x0)] st w = pm_ev 73 18 [b0, b1, some (.int x0)] (.int x0 :: st) w := pm_ny pt_73 d73_17 rfl rfl rfl
theorem d73_18 : decode cX5_quarter 18 = .ok (.ifCond .ne 13, 3) := by decide +kernel
theorem z73_18 {st : List Value} {w : pm_H} {pl : pm_L} {x0 : Int32} : pm_ev 73 18 pl (.int x0 :: st) w = if x0 = 0 then pm_ev 73 21 pl st w else pm_ev 73 31 pl st w := pm_nin (c := ¬ x0 = 0) pt_73 d73_18 rfl rfl rfl Iff.rfl
theorem d73_21 : decode cX5_quarter 21 = .ok (.aload_n 0, 1) := by decide +kernel
theorem z73_21 {st : List Value} {w : pm_H} {b1 b2 : Option Value} {x0 : Nat} : pm_ev 73 21 [some (.ref x0), b1, b2] st w = pm_ev 73 22 [some (.ref x0), b1, b2] (.ref x0 :: st) w := pm_ny pt_73 d73_21 rfl rfl rfl
theorem d73_22 : decode cX5_quarter 22 = .ok (.getfield 42, 3) := by decide +kernel
theorem z73_22 {st : List Value} {w : pm_H} {pl : pm_L} {x0 : Nat} : pm_ev 73 22 pl (.ref x0 :: st) w = pm_kv 73 25 pl st w (pm_gf (w x0) 5 4) := pm_ng pt_73 pt_F_5_42 d73_22
theorem d73_25 : decode cX5_quarter 25 = .ok (.getfield 109, 3) := by decide +kernel
theorem z73_25 {st : List Value} {w : pm_H} {pl : pm_L} {x0 : Nat} : pm_ev 73 25 pl (.ref x0 :: st) w = pm_kv 73 28 pl st w (pm_gf (w x0) 4 1) := pm_ng pt_73 pt_F_5_109 d73_25
theorem d73_28 : decode cX5_quarter 28 = .ok (.iload_n 1, 1) := by decide +kernel
theorem z73_28 {st : List Value} {w : pm_H} {b0 b2 : Option Value} {x0 : Int32} : pm_ev 73 28 [b0, some (.int x0), b2] st w = pm_ev 73 29 [b0, some (.int x0), b2] (.int x0 :: st) w := pm_ny pt_73 d73_28 rfl rfl rfl
theorem d73_29 : decode cX5_quarter 29 = .ok (.iaload, 1) := by decide +kernel
theorem z73_29 {st : List Value} {w : pm_H} {pl : pm_L} {x0 : Nat} {x1 : Int32} : pm_ev 73 29 pl (.int x1 :: .ref x0 :: st) w = pm_kv 73 30 pl st w (pm_ia (w x0) 0 x1) := pm_nia pt_73 d73_29
theorem d73_30 : decode cX5_quarter 30 = .ok (.ireturn, 1) := by decide +kernel
theorem z73_30 {w : pm_H} {pl : pm_L} {x0 : Int32} : pm_ev 73 30 pl [.int x0] w = some (some (.int x0), w) := pm_nr pt_73 d73_30 rfl
theorem d73_31 : decode cX5_quarter 31 = .ok (.iload_n 2, 1) := by decide +kernel
theorem z73_31 {st : List Value} {w : pm_H} {b0 b1 : Option Value} {x0 : Int32} : pm_ev 73 31 [b0, b1, some (.int x0)] st w = pm_ev 73 32 [b0, b1, some (.int x0)] (.int x0 :: st) w := pm_ny pt_73 d73_31 rfl rfl rfl
theorem d73_32 : decode cX5_quarter 32 = .ok (.iconst 1, 1) := by decide +kernel
theorem z73_32 {st : List Value} {w : pm_H} {pl : pm_L} : pm_ev 73 32 pl st w = pm_ev 73 33 pl (.int 1 :: st) w := pm_ny pt_73 d73_32 rfl rfl rfl
theorem d73_33 : decode cX5_quarter 33 = .ok (.if_icmp .ne 13, 3) := by decide +kernel
theorem z73_33 {st : List Value} {w : pm_H} {pl : pm_L} {x0 x1 : Int32} : pm_ev 73 33 pl (.int x1 :: .int x0 :: st) w = if x0 = x1 then pm_ev 73 36 pl st w else pm_ev 73 46 pl st w := pm_nin (c := ¬ x0 = x1) pt_73 d73_33 rfl rfl rfl Iff.rfl
theorem d73_36 : decode cX5_quarter 36 = .ok (.aload_n 0, 1) := by decide +kernel
theorem z73_36 {st : List Value} {w : pm_H} {b1 b2 : Option Value} {x0 : Nat} : pm_ev 73 36 [some (.ref x0), b1, b2] st w = pm_ev 73 37 [some (.ref x0), b1, b2] (.ref x0 :: st) w := pm_ny pt_73 d73_36 rfl rfl rfl
theorem d73_37 : decode cX5_quarter 37 = .ok (.getfield 42, 3) := by decide +kernel
theorem z73_37 {st : List Value} {w : pm_H} {pl : pm_L} {x0 : Nat} : pm_ev 73 37 pl (.ref x0 :: st) w = pm_kv 73 40 pl st w (pm_gf (w x0) 5 4) := pm_ng pt_73 pt_F_5_42 d73_37
theorem d73_40 : decode cX5_quarter 40 = .ok (.getfield 113, 3) := by decide +kernel
theorem z73_40 {st : List Value} {w : pm_H} {pl : pm_L} {x0 : Nat} : pm_ev 73 40 pl (.ref x0 :: st) w = pm_kv 73 43 pl st w (pm_gf (w x0) 4 2) := pm_ng pt_73 pt_F_5_113 d73_40
theorem d73_43 : decode cX5_quarter 43 = .ok (.iload_n 1, 1) := by decide +kernel
theorem z73_43 {st : List Value} {w : pm_H} {b0 b2 : Option Value} {x0 : Int32} : pm_ev 73 43 [b0, some (.int x0), b2] st w = pm_ev 73 44 [b0, some (.int x0), b2] (.int x0 :: st) w := pm_ny pt_73 d73_43 rfl rfl rfl
theorem d73_44 : decode cX5_quarter 44 = .ok (.iaload, 1) := by decide +kernel
theorem z73_44 {st : List Value} {w : pm_H} {pl : pm_L} {x0 : Nat} {x1 : Int32} : pm_ev 73 44 pl (.int x1 :: .ref x0 :: st) w = pm_kv 73 45 pl st w (pm_ia (w x0) 0 x1) := pm_nia pt_73 d73_44
theorem d73_45 : decode cX5_quarter 45 = .ok (.ireturn, 1) := by decide +kernel
theorem z73_45 {w : pm_H} {pl : pm_L} {x0 : Int32} : pm_ev 73 45 pl [.int x0] w = some (some (.int x0), w) := pm_nr pt_73 d73_45 rfl
theorem d74_0 : decode cX5_weight 0 = .ok (.iload_n 1, 1) := by decide +kernel
theorem z74_0 {st : List Value} {w : pm_H} {b0 b2 : Option Value} {x0 : Int32} : pm_ev 74 0 [b0, some (.int x0), b2] st w = pm_ev 74 1 [b0, some (.int x0), b2] (.int x0 :: st) w := pm_ny pt_74 d74_0 rfl rfl rfl
theorem d74_1 : decode cX5_weight 1 = .ok (.iload_n 2, 1) := by decide +kernel
theorem z74_1 {st : List Value} {w : pm_H} {b0 b1 : Option Value} {x0 : Int32} : pm_ev 74 1 [b0, b1, some (.int x0)] st w = pm_ev 74 2 [b0, b1, some (.int x0)] (.int x0 :: st) w := pm_ny pt_74 d74_1 rfl rfl rfl
theorem d74_2 : decode cX5_weight 2 = .ok (.invokestatic 145, 3) := by decide +kernel
theorem z74_2 {w : pm_H} {b0 b1 b2 : Option Value} {x0 : Int32} {x1 : Int32} : pm_ev 74 2 [b0, b1, b2] [.int x0, .int x1] w = pm_k 74 5 [b0, b1, b2] [] (pm_call 75 [.int x1, .int x0] w) := pm_ns pt_74 pt_75 pt_M_5_145 (Or.inl rfl) d74_2 ⟨rfl, rfl⟩ ⟨⟨rfl, Nat.le_of_ble_eq_true rfl, Nat.le_of_ble_eq_true rfl, Nat.le_of_ble_eq_true rfl, Nat.le_of_ble_eq_true rfl⟩, rfl⟩
theorem d74_5 : decode cX5_weight 5 = .ok (.aload_n 0, 1) := by decide +kernel
theorem z74_5 {st : List Value} {w : pm_H} {b1 b2 : Option Value} {x0 : Nat} : pm_ev 74 5 [some (.ref x0), b1, b2] st w = pm_ev 74 6 [some (.ref x0), b1, b2] (.ref x0 :: st) w := pm_ny pt_74 d74_5 rfl rfl rfl
theorem d74_6 : decode cX5_weight 6 = .ok (.getfield 42, 3) := by decide +kernel
theorem z74_6 {st : List Value} {w : pm_H} {pl : pm_L} {x0 : Nat} : pm_ev 74 6 pl (.ref x0 :: st) w = pm_kv 74 9 pl st w (pm_gf (w x0) 5 4) := pm_ng pt_74 pt_F_5_42 d74_6
theorem d74_9 : decode cX5_weight 9 = .ok (.iload_n 1, 1) := by decide +kernel
theorem z74_9 {st : List Value} {w : pm_H} {b0 b2 : Option Value} {x0 : Int32} : pm_ev 74 9 [b0, some (.int x0), b2] st w = pm_ev 74 10 [b0, some (.int x0), b2] (.int x0 :: st) w := pm_ny pt_74 d74_9 rfl rfl rfl
theorem d74_10 : decode cX5_weight 10 = .ok (.iload_n 2, 1) := by decide +kernel
theorem z74_10 {st : List Value} {w : pm_H} {b0 b1 : Option Value} {x0 : Int32} : pm_ev 74 10 [b0, b1, some (.int x0)] st w = pm_ev 74 11 [b0, b1, some (.int x0)] (.int x0 :: st) w := pm_ny pt_74 d74_10 rfl rfl rfl
theorem d74_11 : decode cX5_weight 11 = .ok (.invokevirtual 149, 3) := by decide +kernel
theorem z74_11 {w : pm_H} {b0 b1 b2 : Option Value} {x0 : Int32} {x1 : Int32} {x2 : Nat} : pm_ev 74 11 [b0, b1, b2] [.int x0, .int x1, .ref x2] w = pm_k 74 14 [b0, b1, b2] [] (pm_vc (w x2) 4 (pm_call 46 [.ref x2, .int x1, .int x0] w)) := pm_nv pt_74 pt_46 pt_M_5_149 d74_11 ⟨rfl, rfl⟩ ⟨⟨rfl, Nat.le_of_ble_eq_true rfl, Nat.le_of_ble_eq_true rfl, Nat.le_of_ble_eq_true rfl, Nat.le_of_ble_eq_true rfl⟩, rfl⟩
theorem d74_14 : decode cX5_weight 14 = .ok (.lreturn, 1) := by decide +kernel
theorem z74_14 {w : pm_H} {pl : pm_L} {x0 : Int64} : pm_ev 74 14 pl [.long x0] w = some (some (.long x0), w) := pm_nr pt_74 d74_14 rfl
theorem d75_0 : decode cX5_requireRun 0 = .ok (.iload_n 0, 1) := by decide +kernel
theorem z75_0 {st : List Value} {w : pm_H} {b1 : Option Value} {x0 : Int32} : pm_ev 75 0 [some (.int x0), b1] st w = pm_ev 75 1 [some (.int x0), b1] (.int x0 :: st) w := pm_ny pt_75 d75_0 rfl rfl rfl
theorem d75_1 : decode cX5_requireRun 1 = .ok (.ifCond .lt 13, 3) := by decide +kernel
theorem z75_1 {st : List Value} {w : pm_H} {pl : pm_L} {x0 : Int32} : pm_ev 75 1 pl (.int x0 :: st) w = if x0 < 0 then pm_ev 75 14 pl st w else pm_ev 75 4 pl st w := pm_nif pt_75 d75_1 rfl rfl rfl
theorem d75_4 : decode cX5_requireRun 4 = .ok (.iload_n 0, 1) := by decide +kernel
theorem z75_4 {st : List Value} {w : pm_H} {b1 : Option Value} {x0 : Int32} : pm_ev 75 4 [some (.int x0), b1] st w = pm_ev 75 5 [some (.int x0), b1] (.int x0 :: st) w := pm_ny pt_75 d75_4 rfl rfl rfl
theorem d75_5 : decode cX5_requireRun 5 = .ok (.iload_n 1, 1) := by decide +kernel
theorem z75_5 {st : List Value} {w : pm_H} {b0 : Option Value} {x0 : Int32} : pm_ev 75 5 [b0, some (.int x0)] st w = pm_ev 75 6 [b0, some (.int x0)] (.int x0 :: st) w := pm_ny pt_75 d75_5 rfl rfl rfl
theorem d75_6 : decode cX5_requireRun 6 = .ok (.if_icmp .gt 8, 3) := by decide +kernel
theorem z75_6 {st : List Value} {w : pm_H} {pl : pm_L} {x0 x1 : Int32} : pm_ev 75 6 pl (.int x1 :: .int x0 :: st) w = if x1 < x0 then pm_ev 75 14 pl st w else pm_ev 75 9 pl st w := pm_nif pt_75 d75_6 rfl rfl rfl
theorem d75_9 : decode cX5_requireRun 9 = .ok (.iload_n 1, 1) := by decide +kernel
theorem z75_9 {st : List Value} {w : pm_H} {b0 : Option Value} {x0 : Int32} : pm_ev 75 9 [b0, some (.int x0)] st w = pm_ev 75 10 [b0, some (.int x0)] (.int x0 :: st) w := pm_ny pt_75 d75_9 rfl rfl rfl
theorem d75_10 : decode cX5_requireRun 10 = .ok (.iconst 4, 1) := by decide +kernel
theorem z75_10 {st : List Value} {w : pm_H} {pl : pm_L} : pm_ev 75 10 pl st w = pm_ev 75 11 pl (.int 4 :: st) w := pm_ny pt_75 d75_10 rfl rfl rfl
theorem d75_11 : decode cX5_requireRun 11 = .ok (.if_icmp .lt 13, 3) := by decide +kernel
theorem z75_11 {st : List Value} {w : pm_H} {pl : pm_L} {x0 x1 : Int32} : pm_ev 75 11 pl (.int x1 :: .int x0 :: st) w = if x0 < x1 then pm_ev 75 24 pl st w else pm_ev 75 14 pl st w := pm_nif pt_75 d75_11 rfl rfl rfl
theorem d75_24 : decode cX5_requireRun 24 = .ok (.return_, 1) := by decide +kernel
theorem z75_24 {w : pm_H} {pl : pm_L} : pm_ev 75 24 pl [] w = some (none, w) := pm_nr pt_75 d75_24 rfl
theorem d76_0 : decode cX5_adds 0 = .ok (.iload_n 2, 1) := by decide +kernel
theorem z76_0 {st : List Value} {w : pm_H} {b0 b1 b3 b4 : Option Value} {x0 : Int32} : pm_ev 76 0 [b0, b1, some (.int x0), b3, b4] st w = pm_ev 76 1 [b0, b1, some (.int x0), b3, b4] (.int x0 :: st) w := pm_ny pt_76 d76_0 rfl rfl rfl
theorem d76_1 : decode cX5_adds 1 = .ok (.iload_n 3, 1) := by decide +kernel
theorem z76_1 {st : List Value} {w : pm_H} {b0 b1 b2 b4 : Option Value} {x0 : Int32} : pm_ev 76 1 [b0, b1, b2, some (.int x0), b4] st w = pm_ev 76 2 [b0, b1, b2, some (.int x0), b4] (.int x0 :: st) w := pm_ny pt_76 d76_1 rfl rfl rfl
theorem d76_2 : decode cX5_adds 2 = .ok (.invokestatic 145, 3) := by decide +kernel
theorem z76_2 {w : pm_H} {b0 b1 b2 b3 b4 : Option Value} {x0 : Int32} {x1 : Int32} : pm_ev 76 2 [b0, b1, b2, b3, b4] [.int x0, .int x1] w = pm_k 76 5 [b0, b1, b2, b3, b4] [] (pm_call 75 [.int x1, .int x0] w) := pm_ns pt_76 pt_75 pt_M_5_145 (Or.inl rfl) d76_2 ⟨rfl, rfl⟩ ⟨⟨rfl, Nat.le_of_ble_eq_true rfl, Nat.le_of_ble_eq_true rfl, Nat.le_of_ble_eq_true rfl, Nat.le_of_ble_eq_true rfl⟩, rfl⟩
theorem d76_5 : decode cX5_adds 5 = .ok (.aload_n 0, 1) := by decide +kernel
theorem z76_5 {st : List Value} {w : pm_H} {b1 b2 b3 b4 : Option Value} {x0 : Nat} : pm_ev 76 5 [some (.ref x0), b1, b2, b3, b4] st w = pm_ev 76 6 [some (.ref x0), b1, b2, b3, b4] (.ref x0 :: st) w := pm_ny pt_76 d76_5 rfl rfl rfl
theorem d76_6 : decode cX5_adds 6 = .ok (.getfield 42, 3) := by decide +kernel
theorem z76_6 {st : List Value} {w : pm_H} {pl : pm_L} {x0 : Nat} : pm_ev 76 6 pl (.ref x0 :: st) w = pm_kv 76 9 pl st w (pm_gf (w x0) 5 4) := pm_ng pt_76 pt_F_5_42 d76_6
theorem d76_9 : decode cX5_adds 9 = .ok (.iload_n 1, 1) := by decide +kernel
theorem z76_9 {st : List Value} {w : pm_H} {b0 b2 b3 b4 : Option Value} {x0 : Int32} : pm_ev 76 9 [b0, some (.int x0), b2, b3, b4] st w = pm_ev 76 10 [b0, some (.int x0), b2, b3, b4] (.int x0 :: st) w := pm_ny pt_76 d76_9 rfl rfl rfl
theorem d76_10 : decode cX5_adds 10 = .ok (.invokevirtual 127, 3) := by decide +kernel
theorem z76_10 {w : pm_H} {b0 b1 b2 b3 b4 : Option Value} {x0 : Int32} {x1 : Nat} : pm_ev 76 10 [b0, b1, b2, b3, b4] [.int x0, .ref x1] w = pm_k 76 13 [b0, b1, b2, b3, b4] [] (pm_vc (w x1) 4 (pm_call 42 [.ref x1, .int x0] w)) := pm_nv pt_76 pt_42 pt_M_5_127 d76_10 ⟨rfl, rfl⟩ ⟨⟨rfl, Nat.le_of_ble_eq_true rfl, Nat.le_of_ble_eq_true rfl, Nat.le_of_ble_eq_true rfl, Nat.le_of_ble_eq_true rfl⟩, rfl⟩
theorem d76_13 : decode cX5_adds 13 = .ok (.ifCond .ne 13, 3) := by decide +kernel
theorem z76_13 {st : List Value} {w : pm_H} {pl : pm_L} {x0 : Int32} : pm_ev 76 13 pl (.int x0 :: st) w = if x0 = 0 then pm_ev 76 16 pl st w else pm_ev 76 26 pl st w := pm_nin (c := ¬ x0 = 0) pt_76 d76_13 rfl rfl rfl Iff.rfl
theorem d76_26 : decode cX5_adds 26 = .ok (.iload 4, 2) := by decide +kernel
theorem z76_26 {st : List Value} {w : pm_H} {b0 b1 b2 b3 : Option Value} {x0 : Int32} : pm_ev 76 26 [b0, b1, b2, b3, some (.int x0)] st w = pm_ev 76 28 [b0, b1, b2, b3, some (.int x0)] (.int x0 :: st) w := pm_ny pt_76 d76_26 rfl rfl rfl
theorem d76_28 : decode cX5_adds 28 = .ok (.ifCond .eq 14, 3) := by decide +kernel
theorem z76_28 {st : List Value} {w : pm_H} {pl : pm_L} {x0 : Int32} : pm_ev 76 28 pl (.int x0 :: st) w = if x0 = 0 then pm_ev 76 42 pl st w else pm_ev 76 31 pl st w := pm_nif pt_76 d76_28 rfl rfl rfl
theorem d76_31 : decode cX5_adds 31 = .ok (.aload_n 0, 1) := by decide +kernel
theorem z76_31 {st : List Value} {w : pm_H} {b1 b2 b3 b4 : Option Value} {x0 : Nat} : pm_ev 76 31 [some (.ref x0), b1, b2, b3, b4] st w = pm_ev 76 32 [some (.ref x0), b1, b2, b3, b4] (.ref x0 :: st) w := pm_ny pt_76 d76_31 rfl rfl rfl
theorem d76_32 : decode cX5_adds 32 = .ok (.getfield 42, 3) := by decide +kernel
theorem z76_32 {st : List Value} {w : pm_H} {pl : pm_L} {x0 : Nat} : pm_ev 76 32 pl (.ref x0 :: st) w = pm_kv 76 35 pl st w (pm_gf (w x0) 5 4) := pm_ng pt_76 pt_F_5_42 d76_32
theorem d76_35 : decode cX5_adds 35 = .ok (.iload_n 1, 1) := by decide +kernel
theorem z76_35 {st : List Value} {w : pm_H} {b0 b2 b3 b4 : Option Value} {x0 : Int32} : pm_ev 76 35 [b0, some (.int x0), b2, b3, b4] st w = pm_ev 76 36 [b0, some (.int x0), b2, b3, b4] (.int x0 :: st) w := pm_ny pt_76 d76_35 rfl rfl rfl
theorem d76_36 : decode cX5_adds 36 = .ok (.iload_n 2, 1) := by decide +kernel
theorem z76_36 {st : List Value} {w : pm_H} {b0 b1 b3 b4 : Option Value} {x0 : Int32} : pm_ev 76 36 [b0, b1, some (.int x0), b3, b4] st w = pm_ev 76 37 [b0, b1, some (.int x0), b3, b4] (.int x0 :: st) w := pm_ny pt_76 d76_36 rfl rfl rfl
theorem d76_37 : decode cX5_adds 37 = .ok (.iload_n 3, 1) := by decide +kernel
theorem z76_37 {st : List Value} {w : pm_H} {b0 b1 b2 b4 : Option Value} {x0 : Int32} : pm_ev 76 37 [b0, b1, b2, some (.int x0), b4] st w = pm_ev 76 38 [b0, b1, b2, some (.int x0), b4] (.int x0 :: st) w := pm_ny pt_76 d76_37 rfl rfl rfl
theorem d76_38 : decode cX5_adds 38 = .ok (.invokevirtual 155, 3) := by decide +kernel
theorem z76_38 {w : pm_H} {b0 b1 b2 b3 b4 : Option Value} {x0 : Int32} {x1 : Int32} {x2 : Int32} {x3 : Nat} : pm_ev 76 38 [b0, b1, b2, b3, b4] [.int x0, .int x1, .int x2, .ref x3] w = pm_k 76 41 [b0, b1, b2, b3, b4] [] (pm_vc (w x3) 4 (pm_call 48 [.ref x3, .int x2, .int x1, .int x0] w)) := pm_nv pt_76 pt_48 pt_M_5_155 d76_38 ⟨rfl, rfl⟩ ⟨⟨rfl, Nat.le_of_ble_eq_true rfl, Nat.le_of_ble_eq_true rfl, Nat.le_of_ble_eq_true rfl, Nat.le_of_ble_eq_true rfl⟩, rfl⟩
theorem d76_41 : decode cX5_adds 41 = .ok (.lreturn, 1) := by decide +kernel
theorem z76_41 {w : pm_H} {pl : pm_L} {x0 : Int64} : pm_ev 76 41 pl [.long x0] w = some (some (.long x0), w) := pm_nr pt_76 d76_41 rfl
theorem d76_42 : decode cX5_adds 42 = .ok (.aload_n 0, 1) := by decide +kernel
theorem z76_42 {st : List Value} {w : pm_H} {b1 b2 b3 b4 : Option Value} {x0 : Nat} : pm_ev 76 42 [some (.ref x0), b1, b2, b3, b4] st w = pm_ev 76 43 [some (.ref x0), b1, b2, b3, b4] (.ref x0 :: st) w := pm_ny pt_76 d76_42 rfl rfl rfl
theorem d76_43 : decode cX5_adds 43 = .ok (.getfield 42, 3) := by decide +kernel
theorem z76_43 {st : List Value} {w : pm_H} {pl : pm_L} {x0 : Nat} : pm_ev 76 43 pl (.ref x0 :: st) w = pm_kv 76 46 pl st w (pm_gf (w x0) 5 4) := pm_ng pt_76 pt_F_5_42 d76_43
theorem d76_46 : decode cX5_adds 46 = .ok (.iload_n 1, 1) := by decide +kernel
theorem z76_46 {st : List Value} {w : pm_H} {b0 b2 b3 b4 : Option Value} {x0 : Int32} : pm_ev 76 46 [b0, some (.int x0), b2, b3, b4] st w = pm_ev 76 47 [b0, some (.int x0), b2, b3, b4] (.int x0 :: st) w := pm_ny pt_76 d76_46 rfl rfl rfl
theorem d76_47 : decode cX5_adds 47 = .ok (.invokevirtual 159, 3) := by decide +kernel
theorem z76_47 {w : pm_H} {b0 b1 b2 b3 b4 : Option Value} {x0 : Int32} {x1 : Nat} : pm_ev 76 47 [b0, b1, b2, b3, b4] [.int x0, .ref x1] w = pm_k 76 50 [b0, b1, b2, b3, b4] [] (pm_vc (w x1) 4 (pm_call 50 [.ref x1, .int x0] w)) := pm_nv pt_76 pt_50 pt_M_5_159 d76_47 ⟨rfl, rfl⟩ ⟨⟨rfl, Nat.le_of_ble_eq_true rfl, Nat.le_of_ble_eq_true rfl, Nat.le_of_ble_eq_true rfl, Nat.le_of_ble_eq_true rfl⟩, rfl⟩
theorem d76_50 : decode cX5_adds 50 = .ok (.aload_n 0, 1) := by decide +kernel
theorem z76_50 {st : List Value} {w : pm_H} {b1 b2 b3 b4 : Option Value} {x0 : Nat} : pm_ev 76 50 [some (.ref x0), b1, b2, b3, b4] st w = pm_ev 76 51 [some (.ref x0), b1, b2, b3, b4] (.ref x0 :: st) w := pm_ny pt_76 d76_50 rfl rfl rfl
theorem d76_51 : decode cX5_adds 51 = .ok (.getfield 42, 3) := by decide +kernel
theorem z76_51 {st : List Value} {w : pm_H} {pl : pm_L} {x0 : Nat} : pm_ev 76 51 pl (.ref x0 :: st) w = pm_kv 76 54 pl st w (pm_gf (w x0) 5 4) := pm_ng pt_76 pt_F_5_42 d76_51
theorem d76_54 : decode cX5_adds 54 = .ok (.iconst 0, 1) := by decide +kernel
theorem z76_54 {st : List Value} {w : pm_H} {pl : pm_L} : pm_ev 76 54 pl st w = pm_ev 76 55 pl (.int 0 :: st) w := pm_ny pt_76 d76_54 rfl rfl rfl
theorem d76_55 : decode cX5_adds 55 = .ok (.iload_n 3, 1) := by decide +kernel
theorem z76_55 {st : List Value} {w : pm_H} {b0 b1 b2 b4 : Option Value} {x0 : Int32} : pm_ev 76 55 [b0, b1, b2, some (.int x0), b4] st w = pm_ev 76 56 [b0, b1, b2, some (.int x0), b4] (.int x0 :: st) w := pm_ny pt_76 d76_55 rfl rfl rfl
theorem d76_56 : decode cX5_adds 56 = .ok (.invokevirtual 163, 3) := by decide +kernel
theorem z76_56 {w : pm_H} {b0 b1 b2 b3 b4 : Option Value} {x0 : Int32} {x1 : Int32} {x2 : Nat} {x3 : Int64} : pm_ev 76 56 [b0, b1, b2, b3, b4] [.int x0, .int x1, .ref x2, .long x3] w = pm_k 76 59 [b0, b1, b2, b3, b4] [.long x3] (pm_vc (w x2) 4 (pm_call 51 [.ref x2, .int x1, .int x0] w)) := pm_nv pt_76 pt_51 pt_M_5_163 d76_56 ⟨rfl, rfl⟩ ⟨⟨rfl, Nat.le_of_ble_eq_true rfl, Nat.le_of_ble_eq_true rfl, Nat.le_of_ble_eq_true rfl, Nat.le_of_ble_eq_true rfl⟩, rfl⟩
theorem d76_59 : decode cX5_adds 59 = .ok (.lcmp, 1) := by decide +kernel
theorem z76_59 {st : List Value} {w : pm_H} {pl : pm_L} {x0 x1 : Int64} : pm_ev 76 59 pl (.long x1 :: .long x0 :: st) w = pm_ev 76 60 pl (.int (lg_cmp x0 x1) :: st) w := pm_ny pt_76 d76_59 rfl rfl rfl
theorem d76_60 : decode cX5_adds 60 = .ok (.ifCond .le 5, 3) := by decide +kernel
theorem z76_60 {st : List Value} {w : pm_H} {pl : pm_L} {x0 : Int32} : pm_ev 76 60 pl (.int x0 :: st) w = if 0 < x0 then pm_ev 76 63 pl st w else pm_ev 76 65 pl st w := pm_nin (c := x0 ≤ 0) pt_76 d76_60 rfl rfl rfl pm_ge
theorem d76_63 : decode cX5_adds 63 = .ok (.lconst 0, 1) := by decide +kernel
theorem z76_63 {st : List Value} {w : pm_H} {pl : pm_L} : pm_ev 76 63 pl st w = pm_ev 76 64 pl (.long 0 :: st) w := pm_ny pt_76 d76_63 rfl rfl rfl
theorem d76_64 : decode cX5_adds 64 = .ok (.lreturn, 1) := by decide +kernel
theorem z76_64 {w : pm_H} {pl : pm_L} {x0 : Int64} : pm_ev 76 64 pl [.long x0] w = some (some (.long x0), w) := pm_nr pt_76 d76_64 rfl
theorem d76_65 : decode cX5_adds 65 = .ok (.aload_n 0, 1) := by decide +kernel
theorem z76_65 {st : List Value} {w : pm_H} {b1 b2 b3 b4 : Option Value} {x0 : Nat} : pm_ev 76 65 [some (.ref x0), b1, b2, b3, b4] st w = pm_ev 76 66 [some (.ref x0), b1, b2, b3, b4] (.ref x0 :: st) w := pm_ny pt_76 d76_65 rfl rfl rfl
theorem d76_66 : decode cX5_adds 66 = .ok (.getfield 42, 3) := by decide +kernel
theorem z76_66 {st : List Value} {w : pm_H} {pl : pm_L} {x0 : Nat} : pm_ev 76 66 pl (.ref x0 :: st) w = pm_kv 76 69 pl st w (pm_gf (w x0) 5 4) := pm_ng pt_76 pt_F_5_42 d76_66
theorem d76_69 : decode cX5_adds 69 = .ok (.iload_n 1, 1) := by decide +kernel
theorem z76_69 {st : List Value} {w : pm_H} {b0 b2 b3 b4 : Option Value} {x0 : Int32} : pm_ev 76 69 [b0, some (.int x0), b2, b3, b4] st w = pm_ev 76 70 [b0, some (.int x0), b2, b3, b4] (.int x0 :: st) w := pm_ny pt_76 d76_69 rfl rfl rfl
theorem d76_70 : decode cX5_adds 70 = .ok (.iload_n 2, 1) := by decide +kernel
theorem z76_70 {st : List Value} {w : pm_H} {b0 b1 b3 b4 : Option Value} {x0 : Int32} : pm_ev 76 70 [b0, b1, some (.int x0), b3, b4] st w = pm_ev 76 71 [b0, b1, some (.int x0), b3, b4] (.int x0 :: st) w := pm_ny pt_76 d76_70 rfl rfl rfl
theorem d76_71 : decode cX5_adds 71 = .ok (.iload_n 3, 1) := by decide +kernel
theorem z76_71 {st : List Value} {w : pm_H} {b0 b1 b2 b4 : Option Value} {x0 : Int32} : pm_ev 76 71 [b0, b1, b2, some (.int x0), b4] st w = pm_ev 76 72 [b0, b1, b2, some (.int x0), b4] (.int x0 :: st) w := pm_ny pt_76 d76_71 rfl rfl rfl
theorem d76_72 : decode cX5_adds 72 = .ok (.invokevirtual 166, 3) := by decide +kernel
theorem z76_72 {w : pm_H} {b0 b1 b2 b3 b4 : Option Value} {x0 : Int32} {x1 : Int32} {x2 : Int32} {x3 : Nat} : pm_ev 76 72 [b0, b1, b2, b3, b4] [.int x0, .int x1, .int x2, .ref x3] w = pm_k 76 75 [b0, b1, b2, b3, b4] [] (pm_vc (w x3) 4 (pm_call 52 [.ref x3, .int x2, .int x1, .int x0] w)) := pm_nv pt_76 pt_52 pt_M_5_166 d76_72 ⟨rfl, rfl⟩ ⟨⟨rfl, Nat.le_of_ble_eq_true rfl, Nat.le_of_ble_eq_true rfl, Nat.le_of_ble_eq_true rfl, Nat.le_of_ble_eq_true rfl⟩, rfl⟩
theorem d76_75 : decode cX5_adds 75 = .ok (.lreturn, 1) := by decide +kernel
theorem z76_75 {w : pm_H} {pl : pm_L} {x0 : Int64} : pm_ev 76 75 pl [.long x0] w = some (some (.long x0), w) := pm_nr pt_76 d76_75 rfl
theorem d77_0 : decode cX5_run 0 = .ok (.iload_n 1, 1) := by decide +kernel
theorem z77_0 {st : List Value} {w : pm_H} {b0 b2 b3 : Option Value} {x0 : Int32} : pm_ev 77 0 [b0, some (.int x0), b2, b3] st w = pm_ev 77 1 [b0, some (.int x0), b2, b3] (.int x0 :: st) w := pm_ny pt_77 d77_0 rfl rfl rfl
theorem d77_1 : decode cX5_run 1 = .ok (.iload_n 2, 1) := by decide +kernel
theorem z77_1 {st : List Value} {w : pm_H} {b0 b1 b3 : Option Value} {x0 : Int32} : pm_ev 77 1 [b0, b1, some (.int x0), b3] st w = pm_ev 77 2 [b0, b1, some (.int x0), b3] (.int x0 :: st) w := pm_ny pt_77 d77_1 rfl rfl rfl
theorem d77_2 : decode cX5_run 2 = .ok (.invokestatic 145, 3) := by decide +kernel
theorem z77_2 {w : pm_H} {b0 b1 b2 b3 : Option Value} {x0 : Int32} {x1 : Int32} : pm_ev 77 2 [b0, b1, b2, b3] [.int x0, .int x1] w = pm_k 77 5 [b0, b1, b2, b3] [] (pm_call 75 [.int x1, .int x0] w) := pm_ns pt_77 pt_75 pt_M_5_145 (Or.inl rfl) d77_2 ⟨rfl, rfl⟩ ⟨⟨rfl, Nat.le_of_ble_eq_true rfl, Nat.le_of_ble_eq_true rfl, Nat.le_of_ble_eq_true rfl, Nat.le_of_ble_eq_true rfl⟩, rfl⟩
theorem d77_5 : decode cX5_run 5 = .ok (.iload_n 3, 1) := by decide +kernel
theorem z77_5 {st : List Value} {w : pm_H} {b0 b1 b2 : Option Value} {x0 : Int32} : pm_ev 77 5 [b0, b1, b2, some (.int x0)] st w = pm_ev 77 6 [b0, b1, b2, some (.int x0)] (.int x0 :: st) w := pm_ny pt_77 d77_5 rfl rfl rfl
theorem d77_6 : decode cX5_run 6 = .ok (.ifCond .lt 8, 3) := by decide +kernel
theorem z77_6 {st : List Value} {w : pm_H} {pl : pm_L} {x0 : Int32} : pm_ev 77 6 pl (.int x0 :: st) w = if x0 < 0 then pm_ev 77 14 pl st w else pm_ev 77 9 pl st w := pm_nif pt_77 d77_6 rfl rfl rfl
theorem d77_9 : decode cX5_run 9 = .ok (.iload_n 3, 1) := by decide +kernel
theorem z77_9 {st : List Value} {w : pm_H} {b0 b1 b2 : Option Value} {x0 : Int32} : pm_ev 77 9 [b0, b1, b2, some (.int x0)] st w = pm_ev 77 10 [b0, b1, b2, some (.int x0)] (.int x0 :: st) w := pm_ny pt_77 d77_9 rfl rfl rfl
theorem d77_10 : decode cX5_run 10 = .ok (.iconst 5, 1) := by decide +kernel
theorem z77_10 {st : List Value} {w : pm_H} {pl : pm_L} : pm_ev 77 10 pl st w = pm_ev 77 11 pl (.int 5 :: st) w := pm_ny pt_77 d77_10 rfl rfl rfl
theorem d77_11 : decode cX5_run 11 = .ok (.if_icmp .le 13, 3) := by decide +kernel
theorem z77_11 {st : List Value} {w : pm_H} {pl : pm_L} {x0 x1 : Int32} : pm_ev 77 11 pl (.int x1 :: .int x0 :: st) w = if x1 < x0 then pm_ev 77 14 pl st w else pm_ev 77 24 pl st w := pm_nin (c := x0 ≤ x1) pt_77 d77_11 rfl rfl rfl pm_ge
theorem d77_24 : decode cX5_run 24 = .ok (.aload_n 0, 1) := by decide +kernel
theorem z77_24 {st : List Value} {w : pm_H} {b1 b2 b3 : Option Value} {x0 : Nat} : pm_ev 77 24 [some (.ref x0), b1, b2, b3] st w = pm_ev 77 25 [some (.ref x0), b1, b2, b3] (.ref x0 :: st) w := pm_ny pt_77 d77_24 rfl rfl rfl
theorem d77_25 : decode cX5_run 25 = .ok (.getfield 28, 3) := by decide +kernel
theorem z77_25 {st : List Value} {w : pm_H} {pl : pm_L} {x0 : Nat} : pm_ev 77 25 pl (.ref x0 :: st) w = pm_kv 77 28 pl st w (pm_gf (w x0) 5 2) := pm_ng pt_77 pt_F_5_28 d77_25
theorem d77_28 : decode cX5_run 28 = .ok (.aload_n 0, 1) := by decide +kernel
theorem z77_28 {st : List Value} {w : pm_H} {b1 b2 b3 : Option Value} {x0 : Nat} : pm_ev 77 28 [some (.ref x0), b1, b2, b3] st w = pm_ev 77 29 [some (.ref x0), b1, b2, b3] (.ref x0 :: st) w := pm_ny pt_77 d77_28 rfl rfl rfl
theorem d77_29 : decode cX5_run 29 = .ok (.getfield 42, 3) := by decide +kernel
theorem z77_29 {st : List Value} {w : pm_H} {pl : pm_L} {x0 : Nat} : pm_ev 77 29 pl (.ref x0 :: st) w = pm_kv 77 32 pl st w (pm_gf (w x0) 5 4) := pm_ng pt_77 pt_F_5_42 d77_29
theorem d77_32 : decode cX5_run 32 = .ok (.iload_n 1, 1) := by decide +kernel
theorem z77_32 {st : List Value} {w : pm_H} {b0 b2 b3 : Option Value} {x0 : Int32} : pm_ev 77 32 [b0, some (.int x0), b2, b3] st w = pm_ev 77 33 [b0, some (.int x0), b2, b3] (.int x0 :: st) w := pm_ny pt_77 d77_32 rfl rfl rfl
theorem d77_33 : decode cX5_run 33 = .ok (.iload_n 2, 1) := by decide +kernel
theorem z77_33 {st : List Value} {w : pm_H} {b0 b1 b3 : Option Value} {x0 : Int32} : pm_ev 77 33 [b0, b1, some (.int x0), b3] st w = pm_ev 77 34 [b0, b1, some (.int x0), b3] (.int x0 :: st) w := pm_ny pt_77 d77_33 rfl rfl rfl
theorem d77_34 : decode cX5_run 34 = .ok (.iconst (-1), 1) := by decide +kernel
theorem z77_34 {st : List Value} {w : pm_H} {pl : pm_L} : pm_ev 77 34 pl st w = pm_ev 77 35 pl (.int (-1) :: st) w := pm_ny pt_77 d77_34 rfl rfl rfl
theorem d77_35 : decode cX5_run 35 = .ok (.invokevirtual 171, 3) := by decide +kernel
theorem z77_35 {w : pm_H} {b0 b1 b2 b3 : Option Value} {x0 : Int32} {x1 : Int32} {x2 : Int32} {x3 : Nat} {x4 : Nat} : pm_ev 77 35 [b0, b1, b2, b3] [.int x0, .int x1, .int x2, .ref x3, .ref x4] w = pm_k 77 38 [b0, b1, b2, b3] [] (pm_vc (w x4) 0 (pm_call 0 [.ref x4, .ref x3, .int x2, .int x1, .int x0] w)) := pm_nv pt_77 pt_0 pt_M_5_171 d77_35 ⟨rfl, rfl⟩ ⟨⟨rfl, Nat.le_of_ble_eq_true rfl, Nat.le_of_ble_eq_true rfl, Nat.le_of_ble_eq_true rfl, Nat.le_of_ble_eq_true rfl⟩, rfl⟩
theorem d77_38 : decode cX5_run 38 = .ok (.iload_n 3, 1) := by decide +kernel
theorem z77_38 {st : List Value} {w : pm_H} {b0 b1 b2 : Option Value} {x0 : Int32} : pm_ev 77 38 [b0, b1, b2, some (.int x0)] st w = pm_ev 77 39 [b0, b1, b2, some (.int x0)] (.int x0 :: st) w := pm_ny pt_77 d77_38 rfl rfl rfl
theorem d77_39 : decode cX5_run 39 = .ok (.tableswitch 86 0 4 #[33, 44, 62, 70, 78], 33) := by decide +kernel
theorem z77_39 {st : List Value} {w : pm_H} {pl : pm_L} {x0 : Int32} : pm_ev 77 39 pl (.int x0 :: st) w = if x0 = 0 then pm_ev 77 72 pl st w else if x0 = 1 then pm_ev 77 83 pl st w else if x0 = 2 then pm_ev 77 101 pl st w else if x0 = 3 then pm_ev 77 109 pl st w else if x0 = 4 then pm_ev 77 117 pl st w else pm_ev 77 125 pl st w := by
  by_cases h0 : x0 = 0
  · subst h0; exact pm_ny pt_77 d77_39 rfl rfl rfl
  by_cases h1 : x0 = 1
  · subst h1; exact pm_ny pt_77 d77_39 rfl rfl rfl
  by_cases h2 : x0 = 2
  · subst h2; exact pm_ny pt_77 d77_39 rfl rfl rfl
  by_cases h3 : x0 = 3
  · subst h3; exact pm_ny pt_77 d77_39 rfl rfl rfl
  by_cases h4 : x0 = 4
  · subst h4; exact pm_ny pt_77 d77_39 rfl rfl rfl
  rw [if_neg h0, if_neg h1, if_neg h2, if_neg h3, if_neg h4]
  have hx : x0.toInt < 0 ∨ 4 < x0.toInt := by
    have e0 : x0.toInt ≠ 0 := fun h => h0 (Int32.toInt_inj.mp (h.trans (by decide)))
    have e1 : x0.toInt ≠ 1 := fun h => h1 (Int32.toInt_inj.mp (h.trans (by decide)))
    have e2 : x0.toInt ≠ 2 := fun h => h2 (Int32.toInt_inj.mp (h.trans (by decide)))
    have e3 : x0.toInt ≠ 3 := fun h => h3 (Int32.toInt_inj.mp (h.trans (by decide)))
    have e4 : x0.toInt ≠ 4 := fun h => h4 (Int32.toInt_inj.mp (h.trans (by decide)))
    omega
  exact pm_ny (pc' := 125) (pl' := pl) (st' := st) (w' := w) pt_77 d77_39 rfl rfl (show pm_or (if x0.toInt < 0 ∨ 4 < x0.toInt then some (125, pl, st, w) else _) _ = _ by rw [if_pos hx]; rfl)
theorem d77_72 : decode cX5_run 72 = .ok (.aload_n 0, 1) := by decide +kernel
theorem z77_72 {st : List Value} {w : pm_H} {b1 b2 b3 : Option Value} {x0 : Nat} : pm_ev 77 72 [some (.ref x0), b1, b2, b3] st w = pm_ev 77 73 [some (.ref x0), b1, b2, b3] (.ref x0 :: st) w := pm_ny pt_77 d77_72 rfl rfl rfl
theorem d77_73 : decode cX5_run 73 = .ok (.getfield 42, 3) := by decide +kernel
theorem z77_73 {st : List Value} {w : pm_H} {pl : pm_L} {x0 : Nat} : pm_ev 77 73 pl (.ref x0 :: st) w = pm_kv 77 76 pl st w (pm_gf (w x0) 5 4) := pm_ng pt_77 pt_F_5_42 d77_73
theorem d77_76 : decode cX5_run 76 = .ok (.iload_n 1, 1) := by decide +kernel
theorem z77_76 {st : List Value} {w : pm_H} {b0 b2 b3 : Option Value} {x0 : Int32} : pm_ev 77 76 [b0, some (.int x0), b2, b3] st w = pm_ev 77 77 [b0, some (.int x0), b2, b3] (.int x0 :: st) w := pm_ny pt_77 d77_76 rfl rfl rfl
theorem d77_77 : decode cX5_run 77 = .ok (.iload_n 2, 1) := by decide +kernel
theorem z77_77 {st : List Value} {w : pm_H} {b0 b1 b3 : Option Value} {x0 : Int32} : pm_ev 77 77 [b0, b1, some (.int x0), b3] st w = pm_ev 77 78 [b0, b1, some (.int x0), b3] (.int x0 :: st) w := pm_ny pt_77 d77_77 rfl rfl rfl
theorem d77_78 : decode cX5_run 78 = .ok (.invokevirtual 163, 3) := by decide +kernel
theorem z77_78 {w : pm_H} {b0 b1 b2 b3 : Option Value} {x0 : Int32} {x1 : Int32} {x2 : Nat} : pm_ev 77 78 [b0, b1, b2, b3] [.int x0, .int x1, .ref x2] w = pm_k 77 81 [b0, b1, b2, b3] [] (pm_vc (w x2) 4 (pm_call 51 [.ref x2, .int x1, .int x0] w)) := pm_nv pt_77 pt_51 pt_M_5_163 d77_78 ⟨rfl, rfl⟩ ⟨⟨rfl, Nat.le_of_ble_eq_true rfl, Nat.le_of_ble_eq_true rfl, Nat.le_of_ble_eq_true rfl, Nat.le_of_ble_eq_true rfl⟩, rfl⟩
theorem d77_81 : decode cX5_run 81 = .ok (.l2i, 1) := by decide +kernel
theorem z77_81 {st : List Value} {w : pm_H} {pl : pm_L} {x0 : Int64} : pm_ev 77 81 pl (.long x0 :: st) w = pm_ev 77 82 pl (.int x0.toInt32 :: st) w := pm_ny pt_77 d77_81 rfl rfl rfl
theorem d77_82 : decode cX5_run 82 = .ok (.ireturn, 1) := by decide +kernel
theorem z77_82 {w : pm_H} {pl : pm_L} {x0 : Int32} : pm_ev 77 82 pl [.int x0] w = some (some (.int x0), w) := pm_nr pt_77 d77_82 rfl
theorem d77_83 : decode cX5_run 83 = .ok (.aload_n 0, 1) := by decide +kernel
theorem z77_83 {st : List Value} {w : pm_H} {b1 b2 b3 : Option Value} {x0 : Nat} : pm_ev 77 83 [some (.ref x0), b1, b2, b3] st w = pm_ev 77 84 [some (.ref x0), b1, b2, b3] (.ref x0 :: st) w := pm_ny pt_77 d77_83 rfl rfl rfl
theorem d77_84 : decode cX5_run 84 = .ok (.getfield 28, 3) := by decide +kernel
theorem z77_84 {st : List Value} {w : pm_H} {pl : pm_L} {x0 : Nat} : pm_ev 77 84 pl (.ref x0 :: st) w = pm_kv 77 87 pl st w (pm_gf (w x0) 5 2) := pm_ng pt_77 pt_F_5_28 d77_84
theorem d77_87 : decode cX5_run 87 = .ok (.iconst 0, 1) := by decide +kernel
theorem z77_87 {st : List Value} {w : pm_H} {pl : pm_L} : pm_ev 77 87 pl st w = pm_ev 77 88 pl (.int 0 :: st) w := pm_ny pt_77 d77_87 rfl rfl rfl
theorem d77_88 : decode cX5_run 88 = .ok (.aload_n 0, 1) := by decide +kernel
theorem z77_88 {st : List Value} {w : pm_H} {b1 b2 b3 : Option Value} {x0 : Nat} : pm_ev 77 88 [some (.ref x0), b1, b2, b3] st w = pm_ev 77 89 [some (.ref x0), b1, b2, b3] (.ref x0 :: st) w := pm_ny pt_77 d77_88 rfl rfl rfl
theorem d77_89 : decode cX5_run 89 = .ok (.getfield 42, 3) := by decide +kernel
theorem z77_89 {st : List Value} {w : pm_H} {pl : pm_L} {x0 : Nat} : pm_ev 77 89 pl (.ref x0 :: st) w = pm_kv 77 92 pl st w (pm_gf (w x0) 5 4) := pm_ng pt_77 pt_F_5_42 d77_89
theorem d77_92 : decode cX5_run 92 = .ok (.iload_n 1, 1) := by decide +kernel
theorem z77_92 {st : List Value} {w : pm_H} {b0 b2 b3 : Option Value} {x0 : Int32} : pm_ev 77 92 [b0, some (.int x0), b2, b3] st w = pm_ev 77 93 [b0, some (.int x0), b2, b3] (.int x0 :: st) w := pm_ny pt_77 d77_92 rfl rfl rfl
theorem d77_93 : decode cX5_run 93 = .ok (.iload_n 2, 1) := by decide +kernel
theorem z77_93 {st : List Value} {w : pm_H} {b0 b1 b3 : Option Value} {x0 : Int32} : pm_ev 77 93 [b0, b1, some (.int x0), b3] st w = pm_ev 77 94 [b0, b1, some (.int x0), b3] (.int x0 :: st) w := pm_ny pt_77 d77_93 rfl rfl rfl
theorem d77_94 : decode cX5_run 94 = .ok (.invokevirtual 163, 3) := by decide +kernel
theorem z77_94 {w : pm_H} {b0 b1 b2 b3 : Option Value} {x0 : Int32} {x1 : Int32} {x2 : Nat} {x3 : Int32} {x4 : Nat} : pm_ev 77 94 [b0, b1, b2, b3] [.int x0, .int x1, .ref x2, .int x3, .ref x4] w = pm_k 77 97 [b0, b1, b2, b3] [.int x3, .ref x4] (pm_vc (w x2) 4 (pm_call 51 [.ref x2, .int x1, .int x0] w)) := pm_nv pt_77 pt_51 pt_M_5_163 d77_94 ⟨rfl, rfl⟩ ⟨⟨rfl, Nat.le_of_ble_eq_true rfl, Nat.le_of_ble_eq_true rfl, Nat.le_of_ble_eq_true rfl, Nat.le_of_ble_eq_true rfl⟩, rfl⟩
theorem d77_97 : decode cX5_run 97 = .ok (.invokevirtual 175, 3) := by decide +kernel
theorem z77_97 {w : pm_H} {b0 b1 b2 b3 : Option Value} {x0 : Int64} {x1 : Int32} {x2 : Nat} : pm_ev 77 97 [b0, b1, b2, b3] [.long x0, .int x1, .ref x2] w = pm_k 77 100 [b0, b1, b2, b3] [] (pm_vc (w x2) 0 (pm_call 6 [.ref x2, .int x1, .long x0] w)) := pm_nv pt_77 pt_6 pt_M_5_175 d77_97 ⟨rfl, rfl⟩ ⟨⟨rfl, Nat.le_of_ble_eq_true rfl, Nat.le_of_ble_eq_true rfl, Nat.le_of_ble_eq_true rfl, Nat.le_of_ble_eq_true rfl⟩, rfl⟩
theorem d77_100 : decode cX5_run 100 = .ok (.ireturn, 1) := by decide +kernel
theorem z77_100 {w : pm_H} {pl : pm_L} {x0 : Int32} : pm_ev 77 100 pl [.int x0] w = some (some (.int x0), w) := pm_nr pt_77 d77_100 rfl
theorem d77_101 : decode cX5_run 101 = .ok (.aload_n 0, 1) := by decide +kernel
theorem z77_101 {st : List Value} {w : pm_H} {b1 b2 b3 : Option Value} {x0 : Nat} : pm_ev 77 101 [some (.ref x0), b1, b2, b3] st w = pm_ev 77 102 [some (.ref x0), b1, b2, b3] (.ref x0 :: st) w := pm_ny pt_77 d77_101 rfl rfl rfl
theorem d77_102 : decode cX5_run 102 = .ok (.getfield 28, 3) := by decide +kernel
theorem z77_102 {st : List Value} {w : pm_H} {pl : pm_L} {x0 : Nat} : pm_ev 77 102 pl (.ref x0 :: st) w = pm_kv 77 105 pl st w (pm_gf (w x0) 5 2) := pm_ng pt_77 pt_F_5_28 d77_102
theorem d77_105 : decode cX5_run 105 = .ok (.invokevirtual 179, 3) := by decide +kernel
theorem z77_105 {w : pm_H} {b0 b1 b2 b3 : Option Value} {x0 : Nat} : pm_ev 77 105 [b0, b1, b2, b3] [.ref x0] w = pm_k 77 108 [b0, b1, b2, b3] [] (pm_vc (w x0) 0 (pm_call 7 [.ref x0] w)) := pm_nv pt_77 pt_7 pt_M_5_179 d77_105 ⟨rfl, rfl⟩ ⟨⟨rfl, Nat.le_of_ble_eq_true rfl, Nat.le_of_ble_eq_true rfl, Nat.le_of_ble_eq_true rfl, Nat.le_of_ble_eq_true rfl⟩, rfl⟩
theorem d77_108 : decode cX5_run 108 = .ok (.ireturn, 1) := by decide +kernel
theorem z77_108 {w : pm_H} {pl : pm_L} {x0 : Int32} : pm_ev 77 108 pl [.int x0] w = some (some (.int x0), w) := pm_nr pt_77 d77_108 rfl
theorem d77_109 : decode cX5_run 109 = .ok (.aload_n 0, 1) := by decide +kernel
theorem z77_109 {st : List Value} {w : pm_H} {b1 b2 b3 : Option Value} {x0 : Nat} : pm_ev 77 109 [some (.ref x0), b1, b2, b3] st w = pm_ev 77 110 [some (.ref x0), b1, b2, b3] (.ref x0 :: st) w := pm_ny pt_77 d77_109 rfl rfl rfl
theorem d77_110 : decode cX5_run 110 = .ok (.getfield 28, 3) := by decide +kernel
theorem z77_110 {st : List Value} {w : pm_H} {pl : pm_L} {x0 : Nat} : pm_ev 77 110 pl (.ref x0 :: st) w = pm_kv 77 113 pl st w (pm_gf (w x0) 5 2) := pm_ng pt_77 pt_F_5_28 d77_110
theorem d77_113 : decode cX5_run 113 = .ok (.getfield 182, 3) := by decide +kernel
theorem z77_113 {st : List Value} {w : pm_H} {pl : pm_L} {x0 : Nat} : pm_ev 77 113 pl (.ref x0 :: st) w = pm_kv 77 116 pl st w (pm_gf (w x0) 0 2) := pm_ng pt_77 pt_F_5_182 d77_113
theorem d77_116 : decode cX5_run 116 = .ok (.ireturn, 1) := by decide +kernel
theorem z77_116 {w : pm_H} {pl : pm_L} {x0 : Int32} : pm_ev 77 116 pl [.int x0] w = some (some (.int x0), w) := pm_nr pt_77 d77_116 rfl
theorem d77_117 : decode cX5_run 117 = .ok (.aload_n 0, 1) := by decide +kernel
theorem z77_117 {st : List Value} {w : pm_H} {b1 b2 b3 : Option Value} {x0 : Nat} : pm_ev 77 117 [some (.ref x0), b1, b2, b3] st w = pm_ev 77 118 [some (.ref x0), b1, b2, b3] (.ref x0 :: st) w := pm_ny pt_77 d77_117 rfl rfl rfl
theorem d77_118 : decode cX5_run 118 = .ok (.getfield 28, 3) := by decide +kernel
theorem z77_118 {st : List Value} {w : pm_H} {pl : pm_L} {x0 : Nat} : pm_ev 77 118 pl (.ref x0 :: st) w = pm_kv 77 121 pl st w (pm_gf (w x0) 5 2) := pm_ng pt_77 pt_F_5_28 d77_118
theorem d77_121 : decode cX5_run 121 = .ok (.getfield 185, 3) := by decide +kernel
theorem z77_121 {st : List Value} {w : pm_H} {pl : pm_L} {x0 : Nat} : pm_ev 77 121 pl (.ref x0 :: st) w = pm_kv 77 124 pl st w (pm_gf (w x0) 0 1) := pm_ng pt_77 pt_F_5_185 d77_121
theorem d77_124 : decode cX5_run 124 = .ok (.ireturn, 1) := by decide +kernel
theorem z77_124 {w : pm_H} {pl : pm_L} {x0 : Int32} : pm_ev 77 124 pl [.int x0] w = some (some (.int x0), w) := pm_nr pt_77 d77_124 rfl
theorem d77_125 : decode cX5_run 125 = .ok (.aload_n 0, 1) := by decide +kernel
theorem z77_125 {st : List Value} {w : pm_H} {b1 b2 b3 : Option Value} {x0 : Nat} : pm_ev 77 125 [some (.ref x0), b1, b2, b3] st w = pm_ev 77 126 [some (.ref x0), b1, b2, b3] (.ref x0 :: st) w := pm_ny pt_77 d77_125 rfl rfl rfl
theorem d77_126 : decode cX5_run 126 = .ok (.getfield 28, 3) := by decide +kernel
theorem z77_126 {st : List Value} {w : pm_H} {pl : pm_L} {x0 : Nat} : pm_ev 77 126 pl (.ref x0 :: st) w = pm_kv 77 129 pl st w (pm_gf (w x0) 5 2) := pm_ng pt_77 pt_F_5_28 d77_126
theorem d77_129 : decode cX5_run 129 = .ok (.getfield 188, 3) := by decide +kernel
theorem z77_129 {st : List Value} {w : pm_H} {pl : pm_L} {x0 : Nat} : pm_ev 77 129 pl (.ref x0 :: st) w = pm_kv 77 132 pl st w (pm_gf (w x0) 0 3) := pm_ng pt_77 pt_F_5_188 d77_129
theorem d77_132 : decode cX5_run 132 = .ok (.ireturn, 1) := by decide +kernel
theorem z77_132 {w : pm_H} {pl : pm_L} {x0 : Int32} : pm_ev 77 132 pl [.int x0] w = some (some (.int x0), w) := pm_nr pt_77 d77_132 rfl
theorem d78_0 : decode cX5_rank 0 = .ok (.iload_n 1, 1) := by decide +kernel
theorem z78_0 {st : List Value} {w : pm_H} {b0 b2 b3 : Option Value} {x0 : Int32} : pm_ev 78 0 [b0, some (.int x0), b2, b3] st w = pm_ev 78 1 [b0, some (.int x0), b2, b3] (.int x0 :: st) w := pm_ny pt_78 d78_0 rfl rfl rfl
theorem d78_1 : decode cX5_rank 1 = .ok (.iload_n 2, 1) := by decide +kernel
theorem z78_1 {st : List Value} {w : pm_H} {b0 b1 b3 : Option Value} {x0 : Int32} : pm_ev 78 1 [b0, b1, some (.int x0), b3] st w = pm_ev 78 2 [b0, b1, some (.int x0), b3] (.int x0 :: st) w := pm_ny pt_78 d78_1 rfl rfl rfl
theorem d78_2 : decode cX5_rank 2 = .ok (.invokestatic 145, 3) := by decide +kernel
theorem z78_2 {w : pm_H} {b0 b1 b2 b3 : Option Value} {x0 : Int32} {x1 : Int32} : pm_ev 78 2 [b0, b1, b2, b3] [.int x0, .int x1] w = pm_k 78 5 [b0, b1, b2, b3] [] (pm_call 75 [.int x1, .int x0] w) := pm_ns pt_78 pt_75 pt_M_5_145 (Or.inl rfl) d78_2 ⟨rfl, rfl⟩ ⟨⟨rfl, Nat.le_of_ble_eq_true rfl, Nat.le_of_ble_eq_true rfl, Nat.le_of_ble_eq_true rfl, Nat.le_of_ble_eq_true rfl⟩, rfl⟩
theorem d78_5 : decode cX5_rank 5 = .ok (.aload_n 0, 1) := by decide +kernel
theorem z78_5 {st : List Value} {w : pm_H} {b1 b2 b3 : Option Value} {x0 : Nat} : pm_ev 78 5 [some (.ref x0), b1, b2, b3] st w = pm_ev 78 6 [some (.ref x0), b1, b2, b3] (.ref x0 :: st) w := pm_ny pt_78 d78_5 rfl rfl rfl
theorem d78_6 : decode cX5_rank 6 = .ok (.getfield 28, 3) := by decide +kernel
theorem z78_6 {st : List Value} {w : pm_H} {pl : pm_L} {x0 : Nat} : pm_ev 78 6 pl (.ref x0 :: st) w = pm_kv 78 9 pl st w (pm_gf (w x0) 5 2) := pm_ng pt_78 pt_F_5_28 d78_6
theorem d78_9 : decode cX5_rank 9 = .ok (.aload_n 0, 1) := by decide +kernel
theorem z78_9 {st : List Value} {w : pm_H} {b1 b2 b3 : Option Value} {x0 : Nat} : pm_ev 78 9 [some (.ref x0), b1, b2, b3] st w = pm_ev 78 10 [some (.ref x0), b1, b2, b3] (.ref x0 :: st) w := pm_ny pt_78 d78_9 rfl rfl rfl
theorem d78_10 : decode cX5_rank 10 = .ok (.getfield 42, 3) := by decide +kernel
theorem z78_10 {st : List Value} {w : pm_H} {pl : pm_L} {x0 : Nat} : pm_ev 78 10 pl (.ref x0 :: st) w = pm_kv 78 13 pl st w (pm_gf (w x0) 5 4) := pm_ng pt_78 pt_F_5_42 d78_10
theorem d78_13 : decode cX5_rank 13 = .ok (.iload_n 1, 1) := by decide +kernel
theorem z78_13 {st : List Value} {w : pm_H} {b0 b2 b3 : Option Value} {x0 : Int32} : pm_ev 78 13 [b0, some (.int x0), b2, b3] st w = pm_ev 78 14 [b0, some (.int x0), b2, b3] (.int x0 :: st) w := pm_ny pt_78 d78_13 rfl rfl rfl
theorem d78_14 : decode cX5_rank 14 = .ok (.iload_n 2, 1) := by decide +kernel
theorem z78_14 {st : List Value} {w : pm_H} {b0 b1 b3 : Option Value} {x0 : Int32} : pm_ev 78 14 [b0, b1, some (.int x0), b3] st w = pm_ev 78 15 [b0, b1, some (.int x0), b3] (.int x0 :: st) w := pm_ny pt_78 d78_14 rfl rfl rfl
theorem d78_15 : decode cX5_rank 15 = .ok (.iconst (-1), 1) := by decide +kernel
theorem z78_15 {st : List Value} {w : pm_H} {pl : pm_L} : pm_ev 78 15 pl st w = pm_ev 78 16 pl (.int (-1) :: st) w := pm_ny pt_78 d78_15 rfl rfl rfl
theorem d78_16 : decode cX5_rank 16 = .ok (.invokevirtual 171, 3) := by decide +kernel
theorem z78_16 {w : pm_H} {b0 b1 b2 b3 : Option Value} {x0 : Int32} {x1 : Int32} {x2 : Int32} {x3 : Nat} {x4 : Nat} : pm_ev 78 16 [b0, b1, b2, b3] [.int x0, .int x1, .int x2, .ref x3, .ref x4] w = pm_k 78 19 [b0, b1, b2, b3] [] (pm_vc (w x4) 0 (pm_call 0 [.ref x4, .ref x3, .int x2, .int x1, .int x0] w)) := pm_nv pt_78 pt_0 pt_M_5_171 d78_16 ⟨rfl, rfl⟩ ⟨⟨rfl, Nat.le_of_ble_eq_true rfl, Nat.le_of_ble_eq_true rfl, Nat.le_of_ble_eq_true rfl, Nat.le_of_ble_eq_true rfl⟩, rfl⟩
theorem d78_19 : decode cX5_rank 19 = .ok (.iload_n 3, 1) := by decide +kernel
theorem z78_19 {st : List Value} {w : pm_H} {b0 b1 b2 : Option Value} {x0 : Int32} : pm_ev 78 19 [b0, b1, b2, some (.int x0)] st w = pm_ev 78 20 [b0, b1, b2, some (.int x0)] (.int x0 :: st) w := pm_ny pt_78 d78_19 rfl rfl rfl
theorem d78_20 : decode cX5_rank 20 = .ok (.ifCond .lt 14, 3) := by decide +kernel
theorem z78_20 {st : List Value} {w : pm_H} {pl : pm_L} {x0 : Int32} : pm_ev 78 20 pl (.int x0 :: st) w = if x0 < 0 then pm_ev 78 34 pl st w else pm_ev 78 23 pl st w := pm_nif pt_78 d78_20 rfl rfl rfl
theorem d78_23 : decode cX5_rank 23 = .ok (.iload_n 3, 1) := by decide +kernel
theorem z78_23 {st : List Value} {w : pm_H} {b0 b1 b2 : Option Value} {x0 : Int32} : pm_ev 78 23 [b0, b1, b2, some (.int x0)] st w = pm_ev 78 24 [b0, b1, b2, some (.int x0)] (.int x0 :: st) w := pm_ny pt_78 d78_23 rfl rfl rfl
theorem d78_24 : decode cX5_rank 24 = .ok (.aload_n 0, 1) := by decide +kernel
theorem z78_24 {st : List Value} {w : pm_H} {b1 b2 b3 : Option Value} {x0 : Nat} : pm_ev 78 24 [some (.ref x0), b1, b2, b3] st w = pm_ev 78 25 [some (.ref x0), b1, b2, b3] (.ref x0 :: st) w := pm_ny pt_78 d78_24 rfl rfl rfl
theorem d78_25 : decode cX5_rank 25 = .ok (.getfield 28, 3) := by decide +kernel
theorem z78_25 {st : List Value} {w : pm_H} {pl : pm_L} {x0 : Nat} : pm_ev 78 25 pl (.ref x0 :: st) w = pm_kv 78 28 pl st w (pm_gf (w x0) 5 2) := pm_ng pt_78 pt_F_5_28 d78_25
theorem d78_28 : decode cX5_rank 28 = .ok (.getfield 185, 3) := by decide +kernel
theorem z78_28 {st : List Value} {w : pm_H} {pl : pm_L} {x0 : Nat} : pm_ev 78 28 pl (.ref x0 :: st) w = pm_kv 78 31 pl st w (pm_gf (w x0) 0 1) := pm_ng pt_78 pt_F_5_185 d78_28
theorem d78_31 : decode cX5_rank 31 = .ok (.if_icmp .lt 5, 3) := by decide +kernel
theorem z78_31 {st : List Value} {w : pm_H} {pl : pm_L} {x0 x1 : Int32} : pm_ev 78 31 pl (.int x1 :: .int x0 :: st) w = if x0 < x1 then pm_ev 78 36 pl st w else pm_ev 78 34 pl st w := pm_nif pt_78 d78_31 rfl rfl rfl
theorem d78_34 : decode cX5_rank 34 = .ok (.iconst (-1), 1) := by decide +kernel
theorem z78_34 {st : List Value} {w : pm_H} {pl : pm_L} : pm_ev 78 34 pl st w = pm_ev 78 35 pl (.int (-1) :: st) w := pm_ny pt_78 d78_34 rfl rfl rfl
theorem d78_35 : decode cX5_rank 35 = .ok (.ireturn, 1) := by decide +kernel
theorem z78_35 {w : pm_H} {pl : pm_L} {x0 : Int32} : pm_ev 78 35 pl [.int x0] w = some (some (.int x0), w) := pm_nr pt_78 d78_35 rfl
theorem d78_36 : decode cX5_rank 36 = .ok (.aload_n 0, 1) := by decide +kernel
theorem z78_36 {st : List Value} {w : pm_H} {b1 b2 b3 : Option Value} {x0 : Nat} : pm_ev 78 36 [some (.ref x0), b1, b2, b3] st w = pm_ev 78 37 [some (.ref x0), b1, b2, b3] (.ref x0 :: st) w := pm_ny pt_78 d78_36 rfl rfl rfl
theorem d78_37 : decode cX5_rank 37 = .ok (.getfield 28, 3) := by decide +kernel
theorem z78_37 {st : List Value} {w : pm_H} {pl : pm_L} {x0 : Nat} : pm_ev 78 37 pl (.ref x0 :: st) w = pm_kv 78 40 pl st w (pm_gf (w x0) 5 2) := pm_ng pt_78 pt_F_5_28 d78_37
theorem d78_40 : decode cX5_rank 40 = .ok (.getfield 191, 3) := by decide +kernel
theorem z78_40 {st : List Value} {w : pm_H} {pl : pm_L} {x0 : Nat} : pm_ev 78 40 pl (.ref x0 :: st) w = pm_kv 78 43 pl st w (pm_gf (w x0) 0 0) := pm_ng pt_78 pt_F_5_191 d78_40
theorem d78_43 : decode cX5_rank 43 = .ok (.iload_n 3, 1) := by decide +kernel
theorem z78_43 {st : List Value} {w : pm_H} {b0 b1 b2 : Option Value} {x0 : Int32} : pm_ev 78 43 [b0, b1, b2, some (.int x0)] st w = pm_ev 78 44 [b0, b1, b2, some (.int x0)] (.int x0 :: st) w := pm_ny pt_78 d78_43 rfl rfl rfl
theorem d78_44 : decode cX5_rank 44 = .ok (.iaload, 1) := by decide +kernel
theorem z78_44 {st : List Value} {w : pm_H} {pl : pm_L} {x0 : Nat} {x1 : Int32} : pm_ev 78 44 pl (.int x1 :: .ref x0 :: st) w = pm_kv 78 45 pl st w (pm_ia (w x0) 0 x1) := pm_nia pt_78 d78_44
theorem d78_45 : decode cX5_rank 45 = .ok (.ireturn, 1) := by decide +kernel
theorem z78_45 {w : pm_H} {pl : pm_L} {x0 : Int32} : pm_ev 78 45 pl [.int x0] w = some (some (.int x0), w) := pm_nr pt_78 d78_45 rfl
theorem d79_0 : decode cX5_without 0 = .ok (.iload_n 2, 1) := by decide +kernel
theorem z79_0 {st : List Value} {w : pm_H} {b0 b1 b3 : Option Value} {x0 : Int32} : pm_ev 79 0 [b0, b1, some (.int x0), b3] st w = pm_ev 79 1 [b0, b1, some (.int x0), b3] (.int x0 :: st) w := pm_ny pt_79 d79_0 rfl rfl rfl
theorem d79_1 : decode cX5_without 1 = .ok (.iload_n 3, 1) := by decide +kernel
theorem z79_1 {st : List Value} {w : pm_H} {b0 b1 b2 : Option Value} {x0 : Int32} : pm_ev 79 1 [b0, b1, b2, some (.int x0)] st w = pm_ev 79 2 [b0, b1, b2, some (.int x0)] (.int x0 :: st) w := pm_ny pt_79 d79_1 rfl rfl rfl
theorem d79_2 : decode cX5_without 2 = .ok (.invokestatic 145, 3) := by decide +kernel
theorem z79_2 {w : pm_H} {b0 b1 b2 b3 : Option Value} {x0 : Int32} {x1 : Int32} : pm_ev 79 2 [b0, b1, b2, b3] [.int x0, .int x1] w = pm_k 79 5 [b0, b1, b2, b3] [] (pm_call 75 [.int x1, .int x0] w) := pm_ns pt_79 pt_75 pt_M_5_145 (Or.inl rfl) d79_2 ⟨rfl, rfl⟩ ⟨⟨rfl, Nat.le_of_ble_eq_true rfl, Nat.le_of_ble_eq_true rfl, Nat.le_of_ble_eq_true rfl, Nat.le_of_ble_eq_true rfl⟩, rfl⟩
theorem d79_5 : decode cX5_without 5 = .ok (.aload_n 0, 1) := by decide +kernel
theorem z79_5 {st : List Value} {w : pm_H} {b1 b2 b3 : Option Value} {x0 : Nat} : pm_ev 79 5 [some (.ref x0), b1, b2, b3] st w = pm_ev 79 6 [some (.ref x0), b1, b2, b3] (.ref x0 :: st) w := pm_ny pt_79 d79_5 rfl rfl rfl
theorem d79_6 : decode cX5_without 6 = .ok (.getfield 42, 3) := by decide +kernel
theorem z79_6 {st : List Value} {w : pm_H} {pl : pm_L} {x0 : Nat} : pm_ev 79 6 pl (.ref x0 :: st) w = pm_kv 79 9 pl st w (pm_gf (w x0) 5 4) := pm_ng pt_79 pt_F_5_42 d79_6
theorem d79_9 : decode cX5_without 9 = .ok (.iload_n 1, 1) := by decide +kernel
theorem z79_9 {st : List Value} {w : pm_H} {b0 b2 b3 : Option Value} {x0 : Int32} : pm_ev 79 9 [b0, some (.int x0), b2, b3] st w = pm_ev 79 10 [b0, some (.int x0), b2, b3] (.int x0 :: st) w := pm_ny pt_79 d79_9 rfl rfl rfl
theorem d79_10 : decode cX5_without 10 = .ok (.invokevirtual 127, 3) := by decide +kernel
theorem z79_10 {w : pm_H} {b0 b1 b2 b3 : Option Value} {x0 : Int32} {x1 : Nat} : pm_ev 79 10 [b0, b1, b2, b3] [.int x0, .ref x1] w = pm_k 79 13 [b0, b1, b2, b3] [] (pm_vc (w x1) 4 (pm_call 42 [.ref x1, .int x0] w)) := pm_nv pt_79 pt_42 pt_M_5_127 d79_10 ⟨rfl, rfl⟩ ⟨⟨rfl, Nat.le_of_ble_eq_true rfl, Nat.le_of_ble_eq_true rfl, Nat.le_of_ble_eq_true rfl, Nat.le_of_ble_eq_true rfl⟩, rfl⟩
theorem d79_13 : decode cX5_without 13 = .ok (.ifCond .ne 6, 3) := by decide +kernel
theorem z79_13 {st : List Value} {w : pm_H} {pl : pm_L} {x0 : Int32} : pm_ev 79 13 pl (.int x0 :: st) w = if x0 = 0 then pm_ev 79 16 pl st w else pm_ev 79 19 pl st w := pm_nin (c := ¬ x0 = 0) pt_79 d79_13 rfl rfl rfl Iff.rfl
theorem d79_16 : decode cX5_without 16 = .ok (.ldc 194, 2) := by decide +kernel
theorem z79_16 {st : List Value} {w : pm_H} {pl : pm_L} : pm_ev 79 16 pl st w = pm_ev 79 18 pl (.int (-1000000000) :: st) w := pm_nk pt_79 pt_K_5_194 (by decide) d79_16
theorem d79_18 : decode cX5_without 18 = .ok (.ireturn, 1) := by decide +kernel
theorem z79_18 {w : pm_H} {pl : pm_L} {x0 : Int32} : pm_ev 79 18 pl [.int x0] w = some (some (.int x0), w) := pm_nr pt_79 d79_18 rfl
theorem d79_19 : decode cX5_without 19 = .ok (.aload_n 0, 1) := by decide +kernel
theorem z79_19 {st : List Value} {w : pm_H} {b1 b2 b3 : Option Value} {x0 : Nat} : pm_ev 79 19 [some (.ref x0), b1, b2, b3] st w = pm_ev 79 20 [some (.ref x0), b1, b2, b3] (.ref x0 :: st) w := pm_ny pt_79 d79_19 rfl rfl rfl
theorem d79_20 : decode cX5_without 20 = .ok (.iload_n 1, 1) := by decide +kernel
theorem z79_20 {st : List Value} {w : pm_H} {b0 b2 b3 : Option Value} {x0 : Int32} : pm_ev 79 20 [b0, some (.int x0), b2, b3] st w = pm_ev 79 21 [b0, some (.int x0), b2, b3] (.int x0 :: st) w := pm_ny pt_79 d79_20 rfl rfl rfl
theorem d79_21 : decode cX5_without 21 = .ok (.iload_n 2, 1) := by decide +kernel
theorem z79_21 {st : List Value} {w : pm_H} {b0 b1 b3 : Option Value} {x0 : Int32} : pm_ev 79 21 [b0, b1, some (.int x0), b3] st w = pm_ev 79 22 [b0, b1, some (.int x0), b3] (.int x0 :: st) w := pm_ny pt_79 d79_21 rfl rfl rfl
theorem d79_22 : decode cX5_without 22 = .ok (.iload_n 3, 1) := by decide +kernel
theorem z79_22 {st : List Value} {w : pm_H} {b0 b1 b2 : Option Value} {x0 : Int32} : pm_ev 79 22 [b0, b1, b2, some (.int x0)] st w = pm_ev 79 23 [b0, b1, b2, some (.int x0)] (.int x0 :: st) w := pm_ny pt_79 d79_22 rfl rfl rfl
theorem d79_23 : decode cX5_without 23 = .ok (.invokevirtual 195, 3) := by decide +kernel
theorem z79_23 {w : pm_H} {b0 b1 b2 b3 : Option Value} {x0 : Int32} {x1 : Int32} {x2 : Int32} {x3 : Nat} : pm_ev 79 23 [b0, b1, b2, b3] [.int x0, .int x1, .int x2, .ref x3] w = pm_k 79 26 [b0, b1, b2, b3] [] (pm_vc (w x3) 5 (pm_call 80 [.ref x3, .int x2, .int x1, .int x0] w)) := pm_nv pt_79 pt_80 pt_M_5_195 d79_23 ⟨rfl, rfl⟩ ⟨⟨rfl, Nat.le_of_ble_eq_true rfl, Nat.le_of_ble_eq_true rfl, Nat.le_of_ble_eq_true rfl, Nat.le_of_ble_eq_true rfl⟩, rfl⟩
theorem d79_26 : decode cX5_without 26 = .ok (.ireturn, 1) := by decide +kernel
theorem z79_26 {w : pm_H} {pl : pm_L} {x0 : Int32} : pm_ev 79 26 pl [.int x0] w = some (some (.int x0), w) := pm_nr pt_79 d79_26 rfl
theorem d80_0 : decode cX5_dilutedLeavingOut 0 = .ok (.aload_n 0, 1) := by decide +kernel
theorem z80_0 {st : List Value} {w : pm_H} {b1 b2 b3 : Option Value} {x0 : Nat} : pm_ev 80 0 [some (.ref x0), b1, b2, b3] st w = pm_ev 80 1 [some (.ref x0), b1, b2, b3] (.ref x0 :: st) w := pm_ny pt_80 d80_0 rfl rfl rfl
theorem d80_1 : decode cX5_dilutedLeavingOut 1 = .ok (.getfield 28, 3) := by decide +kernel
theorem z80_1 {st : List Value} {w : pm_H} {pl : pm_L} {x0 : Nat} : pm_ev 80 1 pl (.ref x0 :: st) w = pm_kv 80 4 pl st w (pm_gf (w x0) 5 2) := pm_ng pt_80 pt_F_5_28 d80_1
theorem d80_4 : decode cX5_dilutedLeavingOut 4 = .ok (.aload_n 0, 1) := by decide +kernel
theorem z80_4 {st : List Value} {w : pm_H} {b1 b2 b3 : Option Value} {x0 : Nat} : pm_ev 80 4 [some (.ref x0), b1, b2, b3] st w = pm_ev 80 5 [some (.ref x0), b1, b2, b3] (.ref x0 :: st) w := pm_ny pt_80 d80_4 rfl rfl rfl
theorem d80_5 : decode cX5_dilutedLeavingOut 5 = .ok (.getfield 42, 3) := by decide +kernel
theorem z80_5 {st : List Value} {w : pm_H} {pl : pm_L} {x0 : Nat} : pm_ev 80 5 pl (.ref x0 :: st) w = pm_kv 80 8 pl st w (pm_gf (w x0) 5 4) := pm_ng pt_80 pt_F_5_42 d80_5
theorem d80_8 : decode cX5_dilutedLeavingOut 8 = .ok (.iload_n 2, 1) := by decide +kernel
theorem z80_8 {st : List Value} {w : pm_H} {b0 b1 b3 : Option Value} {x0 : Int32} : pm_ev 80 8 [b0, b1, some (.int x0), b3] st w = pm_ev 80 9 [b0, b1, some (.int x0), b3] (.int x0 :: st) w := pm_ny pt_80 d80_8 rfl rfl rfl
theorem d80_9 : decode cX5_dilutedLeavingOut 9 = .ok (.iload_n 3, 1) := by decide +kernel
theorem z80_9 {st : List Value} {w : pm_H} {b0 b1 b2 : Option Value} {x0 : Int32} : pm_ev 80 9 [b0, b1, b2, some (.int x0)] st w = pm_ev 80 10 [b0, b1, b2, some (.int x0)] (.int x0 :: st) w := pm_ny pt_80 d80_9 rfl rfl rfl
theorem d80_10 : decode cX5_dilutedLeavingOut 10 = .ok (.iload_n 1, 1) := by decide +kernel
theorem z80_10 {st : List Value} {w : pm_H} {b0 b2 b3 : Option Value} {x0 : Int32} : pm_ev 80 10 [b0, some (.int x0), b2, b3] st w = pm_ev 80 11 [b0, some (.int x0), b2, b3] (.int x0 :: st) w := pm_ny pt_80 d80_10 rfl rfl rfl
theorem d80_11 : decode cX5_dilutedLeavingOut 11 = .ok (.invokevirtual 171, 3) := by decide +kernel
theorem z80_11 {w : pm_H} {b0 b1 b2 b3 : Option Value} {x0 : Int32} {x1 : Int32} {x2 : Int32} {x3 : Nat} {x4 : Nat} : pm_ev 80 11 [b0, b1, b2, b3] [.int x0, .int x1, .int x2, .ref x3, .ref x4] w = pm_k 80 14 [b0, b1, b2, b3] [] (pm_vc (w x4) 0 (pm_call 0 [.ref x4, .ref x3, .int x2, .int x1, .int x0] w)) := pm_nv pt_80 pt_0 pt_M_5_171 d80_11 ⟨rfl, rfl⟩ ⟨⟨rfl, Nat.le_of_ble_eq_true rfl, Nat.le_of_ble_eq_true rfl, Nat.le_of_ble_eq_true rfl, Nat.le_of_ble_eq_true rfl⟩, rfl⟩
theorem d80_14 : decode cX5_dilutedLeavingOut 14 = .ok (.aload_n 0, 1) := by decide +kernel
theorem z80_14 {st : List Value} {w : pm_H} {b1 b2 b3 : Option Value} {x0 : Nat} : pm_ev 80 14 [some (.ref x0), b1, b2, b3] st w = pm_ev 80 15 [some (.ref x0), b1, b2, b3] (.ref x0 :: st) w := pm_ny pt_80 d80_14 rfl rfl rfl
theorem d80_15 : decode cX5_dilutedLeavingOut 15 = .ok (.getfield 28, 3) := by decide +kernel
theorem z80_15 {st : List Value} {w : pm_H} {pl : pm_L} {x0 : Nat} : pm_ev 80 15 pl (.ref x0 :: st) w = pm_kv 80 18 pl st w (pm_gf (w x0) 5 2) := pm_ng pt_80 pt_F_5_28 d80_15
theorem d80_18 : decode cX5_dilutedLeavingOut 18 = .ok (.invokevirtual 179, 3) := by decide +kernel
theorem z80_18 {w : pm_H} {b0 b1 b2 b3 : Option Value} {x0 : Nat} : pm_ev 80 18 [b0, b1, b2, b3] [.ref x0] w = pm_k 80 21 [b0, b1, b2, b3] [] (pm_vc (w x0) 0 (pm_call 7 [.ref x0] w)) := pm_nv pt_80 pt_7 pt_M_5_179 d80_18 ⟨rfl, rfl⟩ ⟨⟨rfl, Nat.le_of_ble_eq_true rfl, Nat.le_of_ble_eq_true rfl, Nat.le_of_ble_eq_true rfl, Nat.le_of_ble_eq_true rfl⟩, rfl⟩
theorem d80_21 : decode cX5_dilutedLeavingOut 21 = .ok (.ireturn, 1) := by decide +kernel
theorem z80_21 {w : pm_H} {pl : pm_L} {x0 : Int32} : pm_ev 80 21 pl [.int x0] w = some (some (.int x0), w) := pm_nr pt_80 d80_21 rfl
theorem d81_0 : decode cX5_with 0 = .ok (.iload_n 2, 1) := by decide +kernel
theorem z81_0 {st : List Value} {w : pm_H} {b0 b1 b3 : Option Value} {x0 : Int32} : pm_ev 81 0 [b0, b1, some (.int x0), b3] st w = pm_ev 81 1 [b0, b1, some (.int x0), b3] (.int x0 :: st) w := pm_ny pt_81 d81_0 rfl rfl rfl
theorem d81_1 : decode cX5_with 1 = .ok (.iload_n 3, 1) := by decide +kernel
theorem z81_1 {st : List Value} {w : pm_H} {b0 b1 b2 : Option Value} {x0 : Int32} : pm_ev 81 1 [b0, b1, b2, some (.int x0)] st w = pm_ev 81 2 [b0, b1, b2, some (.int x0)] (.int x0 :: st) w := pm_ny pt_81 d81_1 rfl rfl rfl
theorem d81_2 : decode cX5_with 2 = .ok (.invokestatic 145, 3) := by decide +kernel
theorem z81_2 {w : pm_H} {b0 b1 b2 b3 : Option Value} {x0 : Int32} {x1 : Int32} : pm_ev 81 2 [b0, b1, b2, b3] [.int x0, .int x1] w = pm_k 81 5 [b0, b1, b2, b3] [] (pm_call 75 [.int x1, .int x0] w) := pm_ns pt_81 pt_75 pt_M_5_145 (Or.inl rfl) d81_2 ⟨rfl, rfl⟩ ⟨⟨rfl, Nat.le_of_ble_eq_true rfl, Nat.le_of_ble_eq_true rfl, Nat.le_of_ble_eq_true rfl, Nat.le_of_ble_eq_true rfl⟩, rfl⟩
theorem d81_5 : decode cX5_with 5 = .ok (.iload_n 1, 1) := by decide +kernel
theorem z81_5 {st : List Value} {w : pm_H} {b0 b2 b3 : Option Value} {x0 : Int32} : pm_ev 81 5 [b0, some (.int x0), b2, b3] st w = pm_ev 81 6 [b0, some (.int x0), b2, b3] (.int x0 :: st) w := pm_ny pt_81 d81_5 rfl rfl rfl
theorem d81_6 : decode cX5_with 6 = .ok (.ifCond .lt 16, 3) := by decide +kernel
theorem z81_6 {st : List Value} {w : pm_H} {pl : pm_L} {x0 : Int32} : pm_ev 81 6 pl (.int x0 :: st) w = if x0 < 0 then pm_ev 81 22 pl st w else pm_ev 81 9 pl st w := pm_nif pt_81 d81_6 rfl rfl rfl
theorem d81_9 : decode cX5_with 9 = .ok (.iload_n 1, 1) := by decide +kernel
theorem z81_9 {st : List Value} {w : pm_H} {b0 b2 b3 : Option Value} {x0 : Int32} : pm_ev 81 9 [b0, some (.int x0), b2, b3] st w = pm_ev 81 10 [b0, some (.int x0), b2, b3] (.int x0 :: st) w := pm_ny pt_81 d81_9 rfl rfl rfl
theorem d81_10 : decode cX5_with 10 = .ok (.iconst 1, 1) := by decide +kernel
theorem z81_10 {st : List Value} {w : pm_H} {pl : pm_L} : pm_ev 81 10 pl st w = pm_ev 81 11 pl (.int 1 :: st) w := pm_ny pt_81 d81_10 rfl rfl rfl
theorem d81_11 : decode cX5_with 11 = .ok (.aload_n 0, 1) := by decide +kernel
theorem z81_11 {st : List Value} {w : pm_H} {b1 b2 b3 : Option Value} {x0 : Nat} : pm_ev 81 11 [some (.ref x0), b1, b2, b3] st w = pm_ev 81 12 [some (.ref x0), b1, b2, b3] (.ref x0 :: st) w := pm_ny pt_81 d81_11 rfl rfl rfl
theorem d81_12 : decode cX5_with 12 = .ok (.getfield 42, 3) := by decide +kernel
theorem z81_12 {st : List Value} {w : pm_H} {pl : pm_L} {x0 : Nat} : pm_ev 81 12 pl (.ref x0 :: st) w = pm_kv 81 15 pl st w (pm_gf (w x0) 5 4) := pm_ng pt_81 pt_F_5_42 d81_12
theorem d81_15 : decode cX5_with 15 = .ok (.getfield 78, 3) := by decide +kernel
theorem z81_15 {st : List Value} {w : pm_H} {pl : pm_L} {x0 : Nat} : pm_ev 81 15 pl (.ref x0 :: st) w = pm_kv 81 18 pl st w (pm_gf (w x0) 4 7) := pm_ng pt_81 pt_F_5_78 d81_15
theorem d81_18 : decode cX5_with 18 = .ok (.ishl, 1) := by decide +kernel
theorem z81_18 {st : List Value} {w : pm_H} {pl : pm_L} {x0 x1 : Int32} : pm_ev 81 18 pl (.int x1 :: .int x0 :: st) w = pm_ev 81 19 pl (.int (x0 <<< (x1 &&& 31)) :: st) w := pm_ny pt_81 d81_18 rfl rfl rfl
theorem d81_19 : decode cX5_with 19 = .ok (.if_icmp .lt 6, 3) := by decide +kernel
theorem z81_19 {st : List Value} {w : pm_H} {pl : pm_L} {x0 x1 : Int32} : pm_ev 81 19 pl (.int x1 :: .int x0 :: st) w = if x0 < x1 then pm_ev 81 25 pl st w else pm_ev 81 22 pl st w := pm_nif pt_81 d81_19 rfl rfl rfl
theorem d81_22 : decode cX5_with 22 = .ok (.ldc 194, 2) := by decide +kernel
theorem z81_22 {st : List Value} {w : pm_H} {pl : pm_L} : pm_ev 81 22 pl st w = pm_ev 81 24 pl (.int (-1000000000) :: st) w := pm_nk pt_81 pt_K_5_194 (by decide) d81_22
theorem d81_24 : decode cX5_with 24 = .ok (.ireturn, 1) := by decide +kernel
theorem z81_24 {w : pm_H} {pl : pm_L} {x0 : Int32} : pm_ev 81 24 pl [.int x0] w = some (some (.int x0), w) := pm_nr pt_81 d81_24 rfl
theorem d81_25 : decode cX5_with 25 = .ok (.aload_n 0, 1) := by decide +kernel
theorem z81_25 {st : List Value} {w : pm_H} {b1 b2 b3 : Option Value} {x0 : Nat} : pm_ev 81 25 [some (.ref x0), b1, b2, b3] st w = pm_ev 81 26 [some (.ref x0), b1, b2, b3] (.ref x0 :: st) w := pm_ny pt_81 d81_25 rfl rfl rfl
theorem d81_26 : decode cX5_with 26 = .ok (.getfield 28, 3) := by decide +kernel
theorem z81_26 {st : List Value} {w : pm_H} {pl : pm_L} {x0 : Nat} : pm_ev 81 26 pl (.ref x0 :: st) w = pm_kv 81 29 pl st w (pm_gf (w x0) 5 2) := pm_ng pt_81 pt_F_5_28 d81_26
theorem d81_29 : decode cX5_with 29 = .ok (.aload_n 0, 1) := by decide +kernel
theorem z81_29 {st : List Value} {w : pm_H} {b1 b2 b3 : Option Value} {x0 : Nat} : pm_ev 81 29 [some (.ref x0), b1, b2, b3] st w = pm_ev 81 30 [some (.ref x0), b1, b2, b3] (.ref x0 :: st) w := pm_ny pt_81 d81_29 rfl rfl rfl
theorem d81_30 : decode cX5_with 30 = .ok (.getfield 42, 3) := by decide +kernel
theorem z81_30 {st : List Value} {w : pm_H} {pl : pm_L} {x0 : Nat} : pm_ev 81 30 pl (.ref x0 :: st) w = pm_kv 81 33 pl st w (pm_gf (w x0) 5 4) := pm_ng pt_81 pt_F_5_42 d81_30
theorem d81_33 : decode cX5_with 33 = .ok (.iload_n 2, 1) := by decide +kernel
theorem z81_33 {st : List Value} {w : pm_H} {b0 b1 b3 : Option Value} {x0 : Int32} : pm_ev 81 33 [b0, b1, some (.int x0), b3] st w = pm_ev 81 34 [b0, b1, some (.int x0), b3] (.int x0 :: st) w := pm_ny pt_81 d81_33 rfl rfl rfl
theorem d81_34 : decode cX5_with 34 = .ok (.iload_n 3, 1) := by decide +kernel
theorem z81_34 {st : List Value} {w : pm_H} {b0 b1 b2 : Option Value} {x0 : Int32} : pm_ev 81 34 [b0, b1, b2, some (.int x0)] st w = pm_ev 81 35 [b0, b1, b2, some (.int x0)] (.int x0 :: st) w := pm_ny pt_81 d81_34 rfl rfl rfl
theorem d81_35 : decode cX5_with 35 = .ok (.iconst (-1), 1) := by decide +kernel
theorem z81_35 {st : List Value} {w : pm_H} {pl : pm_L} : pm_ev 81 35 pl st w = pm_ev 81 36 pl (.int (-1) :: st) w := pm_ny pt_81 d81_35 rfl rfl rfl
theorem d81_36 : decode cX5_with 36 = .ok (.invokevirtual 171, 3) := by decide +kernel
theorem z81_36 {w : pm_H} {b0 b1 b2 b3 : Option Value} {x0 : Int32} {x1 : Int32} {x2 : Int32} {x3 : Nat} {x4 : Nat} : pm_ev 81 36 [b0, b1, b2, b3] [.int x0, .int x1, .int x2, .ref x3, .ref x4] w = pm_k 81 39 [b0, b1, b2, b3] [] (pm_vc (w x4) 0 (pm_call 0 [.ref x4, .ref x3, .int x2, .int x1, .int x0] w)) := pm_nv pt_81 pt_0 pt_M_5_171 d81_36 ⟨rfl, rfl⟩ ⟨⟨rfl, Nat.le_of_ble_eq_true rfl, Nat.le_of_ble_eq_true rfl, Nat.le_of_ble_eq_true rfl, Nat.le_of_ble_eq_true rfl⟩, rfl⟩
theorem d81_39 : decode cX5_with 39 = .ok (.aload_n 0, 1) := by decide +kernel
theorem z81_39 {st : List Value} {w : pm_H} {b1 b2 b3 : Option Value} {x0 : Nat} : pm_ev 81 39 [some (.ref x0), b1, b2, b3] st w = pm_ev 81 40 [some (.ref x0), b1, b2, b3] (.ref x0 :: st) w := pm_ny pt_81 d81_39 rfl rfl rfl
theorem d81_40 : decode cX5_with 40 = .ok (.getfield 28, 3) := by decide +kernel
theorem z81_40 {st : List Value} {w : pm_H} {pl : pm_L} {x0 : Nat} : pm_ev 81 40 pl (.ref x0 :: st) w = pm_kv 81 43 pl st w (pm_gf (w x0) 5 2) := pm_ng pt_81 pt_F_5_28 d81_40
theorem d81_43 : decode cX5_with 43 = .ok (.iload_n 1, 1) := by decide +kernel
theorem z81_43 {st : List Value} {w : pm_H} {b0 b2 b3 : Option Value} {x0 : Int32} : pm_ev 81 43 [b0, some (.int x0), b2, b3] st w = pm_ev 81 44 [b0, some (.int x0), b2, b3] (.int x0 :: st) w := pm_ny pt_81 d81_43 rfl rfl rfl
theorem d81_44 : decode cX5_with 44 = .ok (.aload_n 0, 1) := by decide +kernel
theorem z81_44 {st : List Value} {w : pm_H} {b1 b2 b3 : Option Value} {x0 : Nat} : pm_ev 81 44 [some (.ref x0), b1, b2, b3] st w = pm_ev 81 45 [some (.ref x0), b1, b2, b3] (.ref x0 :: st) w := pm_ny pt_81 d81_44 rfl rfl rfl
theorem d81_45 : decode cX5_with 45 = .ok (.getfield 28, 3) := by decide +kernel
theorem z81_45 {st : List Value} {w : pm_H} {pl : pm_L} {x0 : Nat} : pm_ev 81 45 pl (.ref x0 :: st) w = pm_kv 81 48 pl st w (pm_gf (w x0) 5 2) := pm_ng pt_81 pt_F_5_28 d81_45
theorem d81_48 : decode cX5_with 48 = .ok (.invokevirtual 199, 3) := by decide +kernel
theorem z81_48 {w : pm_H} {b0 b1 b2 b3 : Option Value} {x0 : Nat} {x1 : Int32} {x2 : Nat} : pm_ev 81 48 [b0, b1, b2, b3] [.ref x0, .int x1, .ref x2] w = pm_k 81 51 [b0, b1, b2, b3] [.int x1, .ref x2] (pm_vc (w x0) 0 (pm_call 8 [.ref x0] w)) := pm_nv pt_81 pt_8 pt_M_5_199 d81_48 ⟨rfl, rfl⟩ ⟨⟨rfl, Nat.le_of_ble_eq_true rfl, Nat.le_of_ble_eq_true rfl, Nat.le_of_ble_eq_true rfl, Nat.le_of_ble_eq_true rfl⟩, rfl⟩
theorem d81_51 : decode cX5_with 51 = .ok (.iand, 1) := by decide +kernel
theorem z81_51 {st : List Value} {w : pm_H} {pl : pm_L} {x0 x1 : Int32} : pm_ev 81 51 pl (.int x1 :: .int x0 :: st) w = pm_ev 81 52 pl (.int (x0 &&& x1) :: st) w := pm_ny pt_81 d81_51 rfl rfl rfl
theorem d81_52 : decode cX5_with 52 = .ok (.aload_n 0, 1) := by decide +kernel
theorem z81_52 {st : List Value} {w : pm_H} {b1 b2 b3 : Option Value} {x0 : Nat} : pm_ev 81 52 [some (.ref x0), b1, b2, b3] st w = pm_ev 81 53 [some (.ref x0), b1, b2, b3] (.ref x0 :: st) w := pm_ny pt_81 d81_52 rfl rfl rfl
theorem d81_53 : decode cX5_with 53 = .ok (.getfield 42, 3) := by decide +kernel
theorem z81_53 {st : List Value} {w : pm_H} {pl : pm_L} {x0 : Nat} : pm_ev 81 53 pl (.ref x0 :: st) w = pm_kv 81 56 pl st w (pm_gf (w x0) 5 4) := pm_ng pt_81 pt_F_5_42 d81_53
theorem d81_56 : decode cX5_with 56 = .ok (.iload_n 2, 1) := by decide +kernel
theorem z81_56 {st : List Value} {w : pm_H} {b0 b1 b3 : Option Value} {x0 : Int32} : pm_ev 81 56 [b0, b1, some (.int x0), b3] st w = pm_ev 81 57 [b0, b1, some (.int x0), b3] (.int x0 :: st) w := pm_ny pt_81 d81_56 rfl rfl rfl
theorem d81_57 : decode cX5_with 57 = .ok (.iload_n 3, 1) := by decide +kernel
theorem z81_57 {st : List Value} {w : pm_H} {b0 b1 b2 : Option Value} {x0 : Int32} : pm_ev 81 57 [b0, b1, b2, some (.int x0)] st w = pm_ev 81 58 [b0, b1, b2, some (.int x0)] (.int x0 :: st) w := pm_ny pt_81 d81_57 rfl rfl rfl
theorem d81_58 : decode cX5_with 58 = .ok (.invokevirtual 163, 3) := by decide +kernel
theorem z81_58 {w : pm_H} {b0 b1 b2 b3 : Option Value} {x0 : Int32} {x1 : Int32} {x2 : Nat} {x3 : Int32} {x4 : Nat} : pm_ev 81 58 [b0, b1, b2, b3] [.int x0, .int x1, .ref x2, .int x3, .ref x4] w = pm_k 81 61 [b0, b1, b2, b3] [.int x3, .ref x4] (pm_vc (w x2) 4 (pm_call 51 [.ref x2, .int x1, .int x0] w)) := pm_nv pt_81 pt_51 pt_M_5_163 d81_58 ⟨rfl, rfl⟩ ⟨⟨rfl, Nat.le_of_ble_eq_true rfl, Nat.le_of_ble_eq_true rfl, Nat.le_of_ble_eq_true rfl, Nat.le_of_ble_eq_true rfl⟩, rfl⟩
theorem d81_61 : decode cX5_with 61 = .ok (.invokevirtual 175, 3) := by decide +kernel
theorem z81_61 {w : pm_H} {b0 b1 b2 b3 : Option Value} {x0 : Int64} {x1 : Int32} {x2 : Nat} : pm_ev 81 61 [b0, b1, b2, b3] [.long x0, .int x1, .ref x2] w = pm_k 81 64 [b0, b1, b2, b3] [] (pm_vc (w x2) 0 (pm_call 6 [.ref x2, .int x1, .long x0] w)) := pm_nv pt_81 pt_6 pt_M_5_175 d81_61 ⟨rfl, rfl⟩ ⟨⟨rfl, Nat.le_of_ble_eq_true rfl, Nat.le_of_ble_eq_true rfl, Nat.le_of_ble_eq_true rfl, Nat.le_of_ble_eq_true rfl⟩, rfl⟩
theorem d81_64 : decode cX5_with 64 = .ok (.ireturn, 1) := by decide +kernel
theorem z81_64 {w : pm_H} {pl : pm_L} {x0 : Int32} : pm_ev 81 64 pl [.int x0] w = some (some (.int x0), w) := pm_nr pt_81 d81_64 rfl
theorem d82_0 : decode cX5_priced 0 = .ok (.iload_n 3, 1) := by decide +kernel
theorem z82_0 {st : List Value} {w : pm_H} {b0 b1 b2 b4 b5 b6 : Option Value} {x0 : Int32} : pm_ev 82 0 [b0, b1, b2, some (.int x0), b4, b5, b6] st w = pm_ev 82 1 [b0, b1, b2, some (.int x0), b4, b5, b6] (.int x0 :: st) w := pm_ny pt_82 d82_0 rfl rfl rfl
theorem d82_1 : decode cX5_priced 1 = .ok (.iload 4, 2) := by decide +kernel
theorem z82_1 {st : List Value} {w : pm_H} {b0 b1 b2 b3 b5 b6 : Option Value} {x0 : Int32} : pm_ev 82 1 [b0, b1, b2, b3, some (.int x0), b5, b6] st w = pm_ev 82 3 [b0, b1, b2, b3, some (.int x0), b5, b6] (.int x0 :: st) w := pm_ny pt_82 d82_1 rfl rfl rfl
theorem d82_3 : decode cX5_priced 3 = .ok (.invokestatic 145, 3) := by decide +kernel
theorem z82_3 {w : pm_H} {b0 b1 b2 b3 b4 b5 b6 : Option Value} {x0 : Int32} {x1 : Int32} : pm_ev 82 3 [b0, b1, b2, b3, b4, b5, b6] [.int x0, .int x1] w = pm_k 82 6 [b0, b1, b2, b3, b4, b5, b6] [] (pm_call 75 [.int x1, .int x0] w) := pm_ns pt_82 pt_75 pt_M_5_145 (Or.inl rfl) d82_3 ⟨rfl, rfl⟩ ⟨⟨rfl, Nat.le_of_ble_eq_true rfl, Nat.le_of_ble_eq_true rfl, Nat.le_of_ble_eq_true rfl, Nat.le_of_ble_eq_true rfl⟩, rfl⟩
theorem d82_6 : decode cX5_priced 6 = .ok (.iload_n 1, 1) := by decide +kernel
theorem z82_6 {st : List Value} {w : pm_H} {b0 b2 b3 b4 b5 b6 : Option Value} {x0 : Int32} : pm_ev 82 6 [b0, some (.int x0), b2, b3, b4, b5, b6] st w = pm_ev 82 7 [b0, some (.int x0), b2, b3, b4, b5, b6] (.int x0 :: st) w := pm_ny pt_82 d82_6 rfl rfl rfl
theorem d82_7 : decode cX5_priced 7 = .ok (.invokestatic 99, 3) := by decide +kernel
theorem z82_7 {w : pm_H} {b0 b1 b2 b3 b4 b5 b6 : Option Value} {x0 : Int32} : pm_ev 82 7 [b0, b1, b2, b3, b4, b5, b6] [.int x0] w = pm_k 82 10 [b0, b1, b2, b3, b4, b5, b6] [] (pm_call 69 [.int x0] w) := pm_ns pt_82 pt_69 pt_M_5_99 (Or.inl rfl) d82_7 ⟨rfl, rfl⟩ ⟨⟨rfl, Nat.le_of_ble_eq_true rfl, Nat.le_of_ble_eq_true rfl, Nat.le_of_ble_eq_true rfl, Nat.le_of_ble_eq_true rfl⟩, rfl⟩
theorem d82_10 : decode cX5_priced 10 = .ok (.ifCond .eq 10, 3) := by decide +kernel
theorem z82_10 {st : List Value} {w : pm_H} {pl : pm_L} {x0 : Int32} : pm_ev 82 10 pl (.int x0 :: st) w = if x0 = 0 then pm_ev 82 20 pl st w else pm_ev 82 13 pl st w := pm_nif pt_82 d82_10 rfl rfl rfl
theorem d82_13 : decode cX5_priced 13 = .ok (.iload_n 2, 1) := by decide +kernel
theorem z82_13 {st : List Value} {w : pm_H} {b0 b1 b3 b4 b5 b6 : Option Value} {x0 : Int32} : pm_ev 82 13 [b0, b1, some (.int x0), b3, b4, b5, b6] st w = pm_ev 82 14 [b0, b1, some (.int x0), b3, b4, b5, b6] (.int x0 :: st) w := pm_ny pt_82 d82_13 rfl rfl rfl
theorem d82_14 : decode cX5_priced 14 = .ok (.invokestatic 202, 3) := by decide +kernel
theorem z82_14 {w : pm_H} {b0 b1 b2 b3 b4 b5 b6 : Option Value} {x0 : Int32} : pm_ev 82 14 [b0, b1, b2, b3, b4, b5, b6] [.int x0] w = pm_k 82 17 [b0, b1, b2, b3, b4, b5, b6] [] (pm_call 71 [.int x0] w) := pm_ns pt_82 pt_71 pt_M_5_202 (Or.inl rfl) d82_14 ⟨rfl, rfl⟩ ⟨⟨rfl, Nat.le_of_ble_eq_true rfl, Nat.le_of_ble_eq_true rfl, Nat.le_of_ble_eq_true rfl, Nat.le_of_ble_eq_true rfl⟩, rfl⟩
theorem d82_17 : decode cX5_priced 17 = .ok (.ifCond .ne 6, 3) := by decide +kernel
theorem z82_17 {st : List Value} {w : pm_H} {pl : pm_L} {x0 : Int32} : pm_ev 82 17 pl (.int x0 :: st) w = if x0 = 0 then pm_ev 82 20 pl st w else pm_ev 82 23 pl st w := pm_nin (c := ¬ x0 = 0) pt_82 d82_17 rfl rfl rfl Iff.rfl
theorem d82_20 : decode cX5_priced 20 = .ok (.ldc 194, 2) := by decide +kernel
theorem z82_20 {st : List Value} {w : pm_H} {pl : pm_L} : pm_ev 82 20 pl st w = pm_ev 82 22 pl (.int (-1000000000) :: st) w := pm_nk pt_82 pt_K_5_194 (by decide) d82_20
theorem d82_22 : decode cX5_priced 22 = .ok (.ireturn, 1) := by decide +kernel
theorem z82_22 {w : pm_H} {pl : pm_L} {x0 : Int32} : pm_ev 82 22 pl [.int x0] w = some (some (.int x0), w) := pm_nr pt_82 d82_22 rfl
theorem d82_23 : decode cX5_priced 23 = .ok (.aload_n 0, 1) := by decide +kernel
theorem z82_23 {st : List Value} {w : pm_H} {b1 b2 b3 b4 b5 b6 : Option Value} {x0 : Nat} : pm_ev 82 23 [some (.ref x0), b1, b2, b3, b4, b5, b6] st w = pm_ev 82 24 [some (.ref x0), b1, b2, b3, b4, b5, b6] (.ref x0 :: st) w := pm_ny pt_82 d82_23 rfl rfl rfl
theorem d82_24 : decode cX5_priced 24 = .ok (.getfield 42, 3) := by decide +kernel
theorem z82_24 {st : List Value} {w : pm_H} {pl : pm_L} {x0 : Nat} : pm_ev 82 24 pl (.ref x0 :: st) w = pm_kv 82 27 pl st w (pm_gf (w x0) 5 4) := pm_ng pt_82 pt_F_5_42 d82_24
theorem d82_27 : decode cX5_priced 27 = .ok (.getfield 113, 3) := by decide +kernel
theorem z82_27 {st : List Value} {w : pm_H} {pl : pm_L} {x0 : Nat} : pm_ev 82 27 pl (.ref x0 :: st) w = pm_kv 82 30 pl st w (pm_gf (w x0) 4 2) := pm_ng pt_82 pt_F_5_113 d82_27
theorem d82_30 : decode cX5_priced 30 = .ok (.iload_n 1, 1) := by decide +kernel
theorem z82_30 {st : List Value} {w : pm_H} {b0 b2 b3 b4 b5 b6 : Option Value} {x0 : Int32} : pm_ev 82 30 [b0, some (.int x0), b2, b3, b4, b5, b6] st w = pm_ev 82 31 [b0, some (.int x0), b2, b3, b4, b5, b6] (.int x0 :: st) w := pm_ny pt_82 d82_30 rfl rfl rfl
theorem d82_31 : decode cX5_priced 31 = .ok (.iaload, 1) := by decide +kernel
theorem z82_31 {st : List Value} {w : pm_H} {pl : pm_L} {x0 : Nat} {x1 : Int32} : pm_ev 82 31 pl (.int x1 :: .ref x0 :: st) w = pm_kv 82 32 pl st w (pm_ia (w x0) 0 x1) := pm_nia pt_82 d82_31
theorem d82_32 : decode cX5_priced 32 = .ok (.istore 5, 2) := by decide +kernel
theorem z82_32 {st : List Value} {w : pm_H} {b0 b1 b2 b3 b5 b6 : Option Value} {x0 : Int32} {x9 : Int32} : pm_ev 82 32 [b0, b1, b2, b3, some (.int x9), b5, b6] (.int x0 :: st) w = pm_ev 82 34 [b0, b1, b2, b3, some (.int x9), some (.int x0), b6] st w := pm_ny pt_82 d82_32 rfl rfl rfl
theorem d82_34 : decode cX5_priced 34 = .ok (.aload_n 0, 1) := by decide +kernel
theorem z82_34 {st : List Value} {w : pm_H} {b1 b2 b3 b4 b5 b6 : Option Value} {x0 : Nat} : pm_ev 82 34 [some (.ref x0), b1, b2, b3, b4, b5, b6] st w = pm_ev 82 35 [some (.ref x0), b1, b2, b3, b4, b5, b6] (.ref x0 :: st) w := pm_ny pt_82 d82_34 rfl rfl rfl
theorem d82_35 : decode cX5_priced 35 = .ok (.getfield 42, 3) := by decide +kernel
theorem z82_35 {st : List Value} {w : pm_H} {pl : pm_L} {x0 : Nat} : pm_ev 82 35 pl (.ref x0 :: st) w = pm_kv 82 38 pl st w (pm_gf (w x0) 5 4) := pm_ng pt_82 pt_F_5_42 d82_35
theorem d82_38 : decode cX5_priced 38 = .ok (.getfield 113, 3) := by decide +kernel
theorem z82_38 {st : List Value} {w : pm_H} {pl : pm_L} {x0 : Nat} : pm_ev 82 38 pl (.ref x0 :: st) w = pm_kv 82 41 pl st w (pm_gf (w x0) 4 2) := pm_ng pt_82 pt_F_5_113 d82_38
theorem d82_41 : decode cX5_priced 41 = .ok (.iload_n 1, 1) := by decide +kernel
theorem z82_41 {st : List Value} {w : pm_H} {b0 b2 b3 b4 b5 b6 : Option Value} {x0 : Int32} : pm_ev 82 41 [b0, some (.int x0), b2, b3, b4, b5, b6] st w = pm_ev 82 42 [b0, some (.int x0), b2, b3, b4, b5, b6] (.int x0 :: st) w := pm_ny pt_82 d82_41 rfl rfl rfl
theorem d82_42 : decode cX5_priced 42 = .ok (.iload_n 2, 1) := by decide +kernel
theorem z82_42 {st : List Value} {w : pm_H} {b0 b1 b3 b4 b5 b6 : Option Value} {x0 : Int32} : pm_ev 82 42 [b0, b1, some (.int x0), b3, b4, b5, b6] st w = pm_ev 82 43 [b0, b1, some (.int x0), b3, b4, b5, b6] (.int x0 :: st) w := pm_ny pt_82 d82_42 rfl rfl rfl
theorem d82_43 : decode cX5_priced 43 = .ok (.iastore, 1) := by decide +kernel
theorem z82_43 {st : List Value} {w : pm_H} {pl : pm_L} {x0 : Nat} {x1 : Int32} {x2 : Int32} : pm_ev 82 43 pl (.int x2 :: .int x1 :: .ref x0 :: st) w = pm_kw 82 44 pl st (pm_is w x0 (w x0) x1 x2) := pm_nis pt_82 d82_43
theorem d82_44 : decode cX5_priced 44 = .ok (.aload_n 0, 1) := by decide +kernel
theorem z82_44 {st : List Value} {w : pm_H} {b1 b2 b3 b4 b5 b6 : Option Value} {x0 : Nat} : pm_ev 82 44 [some (.ref x0), b1, b2, b3, b4, b5, b6] st w = pm_ev 82 45 [some (.ref x0), b1, b2, b3, b4, b5, b6] (.ref x0 :: st) w := pm_ny pt_82 d82_44 rfl rfl rfl
theorem d82_45 : decode cX5_priced 45 = .ok (.iconst (-1), 1) := by decide +kernel
theorem z82_45 {st : List Value} {w : pm_H} {pl : pm_L} : pm_ev 82 45 pl st w = pm_ev 82 46 pl (.int (-1) :: st) w := pm_ny pt_82 d82_45 rfl rfl rfl
theorem d82_46 : decode cX5_priced 46 = .ok (.iload_n 3, 1) := by decide +kernel
theorem z82_46 {st : List Value} {w : pm_H} {b0 b1 b2 b4 b5 b6 : Option Value} {x0 : Int32} : pm_ev 82 46 [b0, b1, b2, some (.int x0), b4, b5, b6] st w = pm_ev 82 47 [b0, b1, b2, some (.int x0), b4, b5, b6] (.int x0 :: st) w := pm_ny pt_82 d82_46 rfl rfl rfl
theorem d82_47 : decode cX5_priced 47 = .ok (.iload 4, 2) := by decide +kernel
theorem z82_47 {st : List Value} {w : pm_H} {b0 b1 b2 b3 b5 b6 : Option Value} {x0 : Int32} : pm_ev 82 47 [b0, b1, b2, b3, some (.int x0), b5, b6] st w = pm_ev 82 49 [b0, b1, b2, b3, some (.int x0), b5, b6] (.int x0 :: st) w := pm_ny pt_82 d82_47 rfl rfl rfl
theorem d82_49 : decode cX5_priced 49 = .ok (.invokevirtual 195, 3) := by decide +kernel
theorem z82_49 {w : pm_H} {b0 b1 b2 b3 b4 b5 b6 : Option Value} {x0 : Int32} {x1 : Int32} {x2 : Int32} {x3 : Nat} : pm_ev 82 49 [b0, b1, b2, b3, b4, b5, b6] [.int x0, .int x1, .int x2, .ref x3] w = pm_k 82 52 [b0, b1, b2, b3, b4, b5, b6] [] (pm_vc (w x3) 5 (pm_call 80 [.ref x3, .int x2, .int x1, .int x0] w)) := pm_nv pt_82 pt_80 pt_M_5_195 d82_49 ⟨rfl, rfl⟩ ⟨⟨rfl, Nat.le_of_ble_eq_true rfl, Nat.le_of_ble_eq_true rfl, Nat.le_of_ble_eq_true rfl, Nat.le_of_ble_eq_true rfl⟩, rfl⟩
theorem d82_52 : decode cX5_priced 52 = .ok (.istore 6, 2) := by decide +kernel
theorem z82_52 {st : List Value} {w : pm_H} {b0 b1 b2 b3 b4 b6 : Option Value} {x0 : Int32} {x9 : Int32} : pm_ev 82 52 [b0, b1, b2, b3, b4, some (.int x9), b6] (.int x0 :: st) w = pm_ev 82 54 [b0, b1, b2, b3, b4, some (.int x9), some (.int x0)] st w := pm_ny pt_82 d82_52 rfl rfl rfl
theorem d82_54 : decode cX5_priced 54 = .ok (.aload_n 0, 1) := by decide +kernel
theorem z82_54 {st : List Value} {w : pm_H} {b1 b2 b3 b4 b5 b6 : Option Value} {x0 : Nat} : pm_ev 82 54 [some (.ref x0), b1, b2, b3, b4, b5, b6] st w = pm_ev 82 55 [some (.ref x0), b1, b2, b3, b4, b5, b6] (.ref x0 :: st) w := pm_ny pt_82 d82_54 rfl rfl rfl
theorem d82_55 : decode cX5_priced 55 = .ok (.getfield 42, 3) := by decide +kernel
theorem z82_55 {st : List Value} {w : pm_H} {pl : pm_L} {x0 : Nat} : pm_ev 82 55 pl (.ref x0 :: st) w = pm_kv 82 58 pl st w (pm_gf (w x0) 5 4) := pm_ng pt_82 pt_F_5_42 d82_55
theorem d82_58 : decode cX5_priced 58 = .ok (.getfield 113, 3) := by decide +kernel
theorem z82_58 {st : List Value} {w : pm_H} {pl : pm_L} {x0 : Nat} : pm_ev 82 58 pl (.ref x0 :: st) w = pm_kv 82 61 pl st w (pm_gf (w x0) 4 2) := pm_ng pt_82 pt_F_5_113 d82_58
theorem d82_61 : decode cX5_priced 61 = .ok (.iload_n 1, 1) := by decide +kernel
theorem z82_61 {st : List Value} {w : pm_H} {b0 b2 b3 b4 b5 b6 : Option Value} {x0 : Int32} : pm_ev 82 61 [b0, some (.int x0), b2, b3, b4, b5, b6] st w = pm_ev 82 62 [b0, some (.int x0), b2, b3, b4, b5, b6] (.int x0 :: st) w := pm_ny pt_82 d82_61 rfl rfl rfl
theorem d82_62 : decode cX5_priced 62 = .ok (.iload 5, 2) := by decide +kernel
theorem z82_62 {st : List Value} {w : pm_H} {b0 b1 b2 b3 b4 b6 : Option Value} {x0 : Int32} : pm_ev 82 62 [b0, b1, b2, b3, b4, some (.int x0), b6] st w = pm_ev 82 64 [b0, b1, b2, b3, b4, some (.int x0), b6] (.int x0 :: st) w := pm_ny pt_82 d82_62 rfl rfl rfl
theorem d82_64 : decode cX5_priced 64 = .ok (.iastore, 1) := by decide +kernel
theorem z82_64 {st : List Value} {w : pm_H} {pl : pm_L} {x0 : Nat} {x1 : Int32} {x2 : Int32} : pm_ev 82 64 pl (.int x2 :: .int x1 :: .ref x0 :: st) w = pm_kw 82 65 pl st (pm_is w x0 (w x0) x1 x2) := pm_nis pt_82 d82_64
theorem d82_65 : decode cX5_priced 65 = .ok (.iload 6, 2) := by decide +kernel
theorem z82_65 {st : List Value} {w : pm_H} {b0 b1 b2 b3 b4 b5 : Option Value} {x0 : Int32} : pm_ev 82 65 [b0, b1, b2, b3, b4, b5, some (.int x0)] st w = pm_ev 82 67 [b0, b1, b2, b3, b4, b5, some (.int x0)] (.int x0 :: st) w := pm_ny pt_82 d82_65 rfl rfl rfl
theorem d82_67 : decode cX5_priced 67 = .ok (.ireturn, 1) := by decide +kernel
theorem z82_67 {w : pm_H} {pl : pm_L} {x0 : Int32} : pm_ev 82 67 pl [.int x0] w = some (some (.int x0), w) := pm_nr pt_82 d82_67 rfl
theorem d83_0 : decode cX5_profit 0 = .ok (.iload_n 3, 1) := by decide +kernel
theorem z83_0 {st : List Value} {w : pm_H} {b0 b1 b2 b4 : Option Value} {x0 : Int32} : pm_ev 83 0 [b0, b1, b2, some (.int x0), b4] st w = pm_ev 83 1 [b0, b1, b2, some (.int x0), b4] (.int x0 :: st) w := pm_ny pt_83 d83_0 rfl rfl rfl
theorem d83_1 : decode cX5_profit 1 = .ok (.iload 4, 2) := by decide +kernel
theorem z83_1 {st : List Value} {w : pm_H} {b0 b1 b2 b3 : Option Value} {x0 : Int32} : pm_ev 83 1 [b0, b1, b2, b3, some (.int x0)] st w = pm_ev 83 3 [b0, b1, b2, b3, some (.int x0)] (.int x0 :: st) w := pm_ny pt_83 d83_1 rfl rfl rfl
theorem d83_3 : decode cX5_profit 3 = .ok (.invokestatic 145, 3) := by decide +kernel
theorem z83_3 {w : pm_H} {b0 b1 b2 b3 b4 : Option Value} {x0 : Int32} {x1 : Int32} : pm_ev 83 3 [b0, b1, b2, b3, b4] [.int x0, .int x1] w = pm_k 83 6 [b0, b1, b2, b3, b4] [] (pm_call 75 [.int x1, .int x0] w) := pm_ns pt_83 pt_75 pt_M_5_145 (Or.inl rfl) d83_3 ⟨rfl, rfl⟩ ⟨⟨rfl, Nat.le_of_ble_eq_true rfl, Nat.le_of_ble_eq_true rfl, Nat.le_of_ble_eq_true rfl, Nat.le_of_ble_eq_true rfl⟩, rfl⟩
theorem d83_6 : decode cX5_profit 6 = .ok (.iload_n 1, 1) := by decide +kernel
theorem z83_6 {st : List Value} {w : pm_H} {b0 b2 b3 b4 : Option Value} {x0 : Int32} : pm_ev 83 6 [b0, some (.int x0), b2, b3, b4] st w = pm_ev 83 7 [b0, some (.int x0), b2, b3, b4] (.int x0 :: st) w := pm_ny pt_83 d83_6 rfl rfl rfl
theorem d83_7 : decode cX5_profit 7 = .ok (.invokestatic 99, 3) := by decide +kernel
theorem z83_7 {w : pm_H} {b0 b1 b2 b3 b4 : Option Value} {x0 : Int32} : pm_ev 83 7 [b0, b1, b2, b3, b4] [.int x0] w = pm_k 83 10 [b0, b1, b2, b3, b4] [] (pm_call 69 [.int x0] w) := pm_ns pt_83 pt_69 pt_M_5_99 (Or.inl rfl) d83_7 ⟨rfl, rfl⟩ ⟨⟨rfl, Nat.le_of_ble_eq_true rfl, Nat.le_of_ble_eq_true rfl, Nat.le_of_ble_eq_true rfl, Nat.le_of_ble_eq_true rfl⟩, rfl⟩
theorem d83_10 : decode cX5_profit 10 = .ok (.ifCond .eq 14, 3) := by decide +kernel
theorem z83_10 {st : List Value} {w : pm_H} {pl : pm_L} {x0 : Int32} : pm_ev 83 10 pl (.int x0 :: st) w = if x0 = 0 then pm_ev 83 24 pl st w else pm_ev 83 13 pl st w := pm_nif pt_83 d83_10 rfl rfl rfl
theorem d83_13 : decode cX5_profit 13 = .ok (.aload_n 0, 1) := by decide +kernel
theorem z83_13 {st : List Value} {w : pm_H} {b1 b2 b3 b4 : Option Value} {x0 : Nat} : pm_ev 83 13 [some (.ref x0), b1, b2, b3, b4] st w = pm_ev 83 14 [some (.ref x0), b1, b2, b3, b4] (.ref x0 :: st) w := pm_ny pt_83 d83_13 rfl rfl rfl
theorem d83_14 : decode cX5_profit 14 = .ok (.getfield 42, 3) := by decide +kernel
theorem z83_14 {st : List Value} {w : pm_H} {pl : pm_L} {x0 : Nat} : pm_ev 83 14 pl (.ref x0 :: st) w = pm_kv 83 17 pl st w (pm_gf (w x0) 5 4) := pm_ng pt_83 pt_F_5_42 d83_14
theorem d83_17 : decode cX5_profit 17 = .ok (.iload_n 2, 1) := by decide +kernel
theorem z83_17 {st : List Value} {w : pm_H} {b0 b1 b3 b4 : Option Value} {x0 : Int32} : pm_ev 83 17 [b0, b1, some (.int x0), b3, b4] st w = pm_ev 83 18 [b0, b1, some (.int x0), b3, b4] (.int x0 :: st) w := pm_ny pt_83 d83_17 rfl rfl rfl
theorem d83_18 : decode cX5_profit 18 = .ok (.invokevirtual 127, 3) := by decide +kernel
theorem z83_18 {w : pm_H} {b0 b1 b2 b3 b4 : Option Value} {x0 : Int32} {x1 : Nat} : pm_ev 83 18 [b0, b1, b2, b3, b4] [.int x0, .ref x1] w = pm_k 83 21 [b0, b1, b2, b3, b4] [] (pm_vc (w x1) 4 (pm_call 42 [.ref x1, .int x0] w)) := pm_nv pt_83 pt_42 pt_M_5_127 d83_18 ⟨rfl, rfl⟩ ⟨⟨rfl, Nat.le_of_ble_eq_true rfl, Nat.le_of_ble_eq_true rfl, Nat.le_of_ble_eq_true rfl, Nat.le_of_ble_eq_true rfl⟩, rfl⟩
theorem d83_21 : decode cX5_profit 21 = .ok (.ifCond .ne 5, 3) := by decide +kernel
theorem z83_21 {st : List Value} {w : pm_H} {pl : pm_L} {x0 : Int32} : pm_ev 83 21 pl (.int x0 :: st) w = if x0 = 0 then pm_ev 83 24 pl st w else pm_ev 83 26 pl st w := pm_nin (c := ¬ x0 = 0) pt_83 d83_21 rfl rfl rfl Iff.rfl
theorem d83_24 : decode cX5_profit 24 = .ok (.iconst (-1), 1) := by decide +kernel
theorem z83_24 {st : List Value} {w : pm_H} {pl : pm_L} : pm_ev 83 24 pl st w = pm_ev 83 25 pl (.int (-1) :: st) w := pm_ny pt_83 d83_24 rfl rfl rfl
theorem d83_25 : decode cX5_profit 25 = .ok (.ireturn, 1) := by decide +kernel
theorem z83_25 {w : pm_H} {pl : pm_L} {x0 : Int32} : pm_ev 83 25 pl [.int x0] w = some (some (.int x0), w) := pm_nr pt_83 d83_25 rfl
theorem d83_26 : decode cX5_profit 26 = .ok (.aload_n 0, 1) := by decide +kernel
theorem z83_26 {st : List Value} {w : pm_H} {b1 b2 b3 b4 : Option Value} {x0 : Nat} : pm_ev 83 26 [some (.ref x0), b1, b2, b3, b4] st w = pm_ev 83 27 [some (.ref x0), b1, b2, b3, b4] (.ref x0 :: st) w := pm_ny pt_83 d83_26 rfl rfl rfl
theorem d83_27 : decode cX5_profit 27 = .ok (.iload_n 1, 1) := by decide +kernel
theorem z83_27 {st : List Value} {w : pm_H} {b0 b2 b3 b4 : Option Value} {x0 : Int32} : pm_ev 83 27 [b0, some (.int x0), b2, b3, b4] st w = pm_ev 83 28 [b0, some (.int x0), b2, b3, b4] (.int x0 :: st) w := pm_ny pt_83 d83_27 rfl rfl rfl
theorem d83_28 : decode cX5_profit 28 = .ok (.iload_n 2, 1) := by decide +kernel
theorem z83_28 {st : List Value} {w : pm_H} {b0 b1 b3 b4 : Option Value} {x0 : Int32} : pm_ev 83 28 [b0, b1, some (.int x0), b3, b4] st w = pm_ev 83 29 [b0, b1, some (.int x0), b3, b4] (.int x0 :: st) w := pm_ny pt_83 d83_28 rfl rfl rfl
theorem d83_29 : decode cX5_profit 29 = .ok (.iload_n 3, 1) := by decide +kernel
theorem z83_29 {st : List Value} {w : pm_H} {b0 b1 b2 b4 : Option Value} {x0 : Int32} : pm_ev 83 29 [b0, b1, b2, some (.int x0), b4] st w = pm_ev 83 30 [b0, b1, b2, some (.int x0), b4] (.int x0 :: st) w := pm_ny pt_83 d83_29 rfl rfl rfl
theorem d83_30 : decode cX5_profit 30 = .ok (.iload 4, 2) := by decide +kernel
theorem z83_30 {st : List Value} {w : pm_H} {b0 b1 b2 b3 : Option Value} {x0 : Int32} : pm_ev 83 30 [b0, b1, b2, b3, some (.int x0)] st w = pm_ev 83 32 [b0, b1, b2, b3, some (.int x0)] (.int x0 :: st) w := pm_ny pt_83 d83_30 rfl rfl rfl
theorem d83_32 : decode cX5_profit 32 = .ok (.invokevirtual 205, 3) := by decide +kernel
theorem z83_32 {w : pm_H} {b0 b1 b2 b3 b4 : Option Value} {x0 : Int32} {x1 : Int32} {x2 : Int32} {x3 : Int32} {x4 : Nat} : pm_ev 83 32 [b0, b1, b2, b3, b4] [.int x0, .int x1, .int x2, .int x3, .ref x4] w = pm_k 83 35 [b0, b1, b2, b3, b4] [] (pm_vc (w x4) 5 (pm_call 84 [.ref x4, .int x3, .int x2, .int x1, .int x0] w)) := pm_nv pt_83 pt_84 pt_M_5_205 d83_32 ⟨rfl, rfl⟩ ⟨⟨rfl, Nat.le_of_ble_eq_true rfl, Nat.le_of_ble_eq_true rfl, Nat.le_of_ble_eq_true rfl, Nat.le_of_ble_eq_true rfl⟩, rfl⟩
theorem d83_35 : decode cX5_profit 35 = .ok (.ireturn, 1) := by decide +kernel
theorem z83_35 {w : pm_H} {pl : pm_L} {x0 : Int32} : pm_ev 83 35 pl [.int x0] w = some (some (.int x0), w) := pm_nr pt_83 d83_35 rfl
theorem d84_0 : decode cX5_leastProfitThatTakesIn 0 = .ok (.aload_n 0, 1) := by decide +kernel
theorem z84_0 {st : List Value} {w : pm_H} {b1 b2 b3 b4 b5 b6 b7 b8 b9 b10 b11 b12 : Option Value} {x0 : Nat} : pm_ev 84 0 [some (.ref x0), b1, b2, b3, b4, b5, b6, b7, b8, b9, b10, b11, b12] st w = pm_ev 84 1 [some (.ref x0), b1, b2, b3, b4, b5, b6, b7, b8, b9, b10, b11, b12] (.ref x0 :: st) w := pm_ny pt_84 d84_0 rfl rfl rfl
theorem d84_1 : decode cX5_leastProfitThatTakesIn 1 = .ok (.getfield 28, 3) := by decide +kernel
theorem z84_1 {st : List Value} {w : pm_H} {pl : pm_L} {x0 : Nat} : pm_ev 84 1 pl (.ref x0 :: st) w = pm_kv 84 4 pl st w (pm_gf (w x0) 5 2) := pm_ng pt_84 pt_F_5_28 d84_1
theorem d84_4 : decode cX5_leastProfitThatTakesIn 4 = .ok (.aload_n 0, 1) := by decide +kernel
theorem z84_4 {st : List Value} {w : pm_H} {b1 b2 b3 b4 b5 b6 b7 b8 b9 b10 b11 b12 : Option Value} {x0 : Nat} : pm_ev 84 4 [some (.ref x0), b1, b2, b3, b4, b5, b6, b7, b8, b9, b10, b11, b12] st w = pm_ev 84 5 [some (.ref x0), b1, b2, b3, b4, b5, b6, b7, b8, b9, b10, b11, b12] (.ref x0 :: st) w := pm_ny pt_84 d84_4 rfl rfl rfl
theorem d84_5 : decode cX5_leastProfitThatTakesIn 5 = .ok (.getfield 42, 3) := by decide +kernel
theorem z84_5 {st : List Value} {w : pm_H} {pl : pm_L} {x0 : Nat} : pm_ev 84 5 pl (.ref x0 :: st) w = pm_kv 84 8 pl st w (pm_gf (w x0) 5 4) := pm_ng pt_84 pt_F_5_42 d84_5
theorem d84_8 : decode cX5_leastProfitThatTakesIn 8 = .ok (.iload_n 3, 1) := by decide +kernel
theorem z84_8 {st : List Value} {w : pm_H} {b0 b1 b2 b4 b5 b6 b7 b8 b9 b10 b11 b12 : Option Value} {x0 : Int32} : pm_ev 84 8 [b0, b1, b2, some (.int x0), b4, b5, b6, b7, b8, b9, b10, b11, b12] st w = pm_ev 84 9 [b0, b1, b2, some (.int x0), b4, b5, b6, b7, b8, b9, b10, b11, b12] (.int x0 :: st) w := pm_ny pt_84 d84_8 rfl rfl rfl
theorem d84_9 : decode cX5_leastProfitThatTakesIn 9 = .ok (.iload 4, 2) := by decide +kernel
theorem z84_9 {st : List Value} {w : pm_H} {b0 b1 b2 b3 b5 b6 b7 b8 b9 b10 b11 b12 : Option Value} {x0 : Int32} : pm_ev 84 9 [b0, b1, b2, b3, some (.int x0), b5, b6, b7, b8, b9, b10, b11, b12] st w = pm_ev 84 11 [b0, b1, b2, b3, some (.int x0), b5, b6, b7, b8, b9, b10, b11, b12] (.int x0 :: st) w := pm_ny pt_84 d84_9 rfl rfl rfl
theorem d84_11 : decode cX5_leastProfitThatTakesIn 11 = .ok (.iconst (-1), 1) := by decide +kernel
theorem z84_11 {st : List Value} {w : pm_H} {pl : pm_L} : pm_ev 84 11 pl st w = pm_ev 84 12 pl (.int (-1) :: st) w := pm_ny pt_84 d84_11 rfl rfl rfl
theorem d84_12 : decode cX5_leastProfitThatTakesIn 12 = .ok (.invokevirtual 252, 3) := by decide +kernel
theorem z84_12 {w : pm_H} {b0 b1 b2 b3 b4 b5 b6 b7 b8 b9 b10 b11 b12 : Option Value} {x0 : Int32} {x1 : Int32} {x2 : Int32} {x3 : Nat} {x4 : Nat} : pm_ev 84 12 [b0, b1, b2, b3, b4, b5, b6, b7, b8, b9, b10, b11, b12] [.int x0, .int x1, .int x2, .ref x3, .ref x4] w = pm_k 84 15 [b0, b1, b2, b3, b4, b5, b6, b7, b8, b9, b10, b11, b12] [] (pm_vc (w x4) 0 (pm_call 1 [.ref x4, .ref x3, .int x2, .int x1, .int x0] w)) := pm_nv pt_84 pt_1 pt_M_5_252 d84_12 ⟨rfl, rfl⟩ ⟨⟨rfl, Nat.le_of_ble_eq_true rfl, Nat.le_of_ble_eq_true rfl, Nat.le_of_ble_eq_true rfl, Nat.le_of_ble_eq_true rfl⟩, rfl⟩
theorem d84_15 : decode cX5_leastProfitThatTakesIn 15 = .ok (.iload_n 1, 1) := by decide +kernel
theorem z84_15 {st : List Value} {w : pm_H} {b0 b2 b3 b4 b5 b6 b7 b8 b9 b10 b11 b12 : Option Value} {x0 : Int32} : pm_ev 84 15 [b0, some (.int x0), b2, b3, b4, b5, b6, b7, b8, b9, b10, b11, b12] st w = pm_ev 84 16 [b0, some (.int x0), b2, b3, b4, b5, b6, b7, b8, b9, b10, b11, b12] (.int x0 :: st) w := pm_ny pt_84 d84_15 rfl rfl rfl
theorem d84_16 : decode cX5_leastProfitThatTakesIn 16 = .ok (.iload_n 3, 1) := by decide +kernel
theorem z84_16 {st : List Value} {w : pm_H} {b0 b1 b2 b4 b5 b6 b7 b8 b9 b10 b11 b12 : Option Value} {x0 : Int32} : pm_ev 84 16 [b0, b1, b2, some (.int x0), b4, b5, b6, b7, b8, b9, b10, b11, b12] st w = pm_ev 84 17 [b0, b1, b2, some (.int x0), b4, b5, b6, b7, b8, b9, b10, b11, b12] (.int x0 :: st) w := pm_ny pt_84 d84_16 rfl rfl rfl
theorem d84_17 : decode cX5_leastProfitThatTakesIn 17 = .ok (.if_icmp .lt 13, 3) := by decide +kernel
theorem z84_17 {st : List Value} {w : pm_H} {pl : pm_L} {x0 x1 : Int32} : pm_ev 84 17 pl (.int x1 :: .int x0 :: st) w = if x0 < x1 then pm_ev 84 30 pl st w else pm_ev 84 20 pl st w := pm_nif pt_84 d84_17 rfl rfl rfl
theorem d84_20 : decode cX5_leastProfitThatTakesIn 20 = .ok (.iload_n 1, 1) := by decide +kernel
theorem z84_20 {st : List Value} {w : pm_H} {b0 b2 b3 b4 b5 b6 b7 b8 b9 b10 b11 b12 : Option Value} {x0 : Int32} : pm_ev 84 20 [b0, some (.int x0), b2, b3, b4, b5, b6, b7, b8, b9, b10, b11, b12] st w = pm_ev 84 21 [b0, some (.int x0), b2, b3, b4, b5, b6, b7, b8, b9, b10, b11, b12] (.int x0 :: st) w := pm_ny pt_84 d84_20 rfl rfl rfl
theorem d84_21 : decode cX5_leastProfitThatTakesIn 21 = .ok (.iload 4, 2) := by decide +kernel
theorem z84_21 {st : List Value} {w : pm_H} {b0 b1 b2 b3 b5 b6 b7 b8 b9 b10 b11 b12 : Option Value} {x0 : Int32} : pm_ev 84 21 [b0, b1, b2, b3, some (.int x0), b5, b6, b7, b8, b9, b10, b11, b12] st w = pm_ev 84 23 [b0, b1, b2, b3, some (.int x0), b5, b6, b7, b8, b9, b10, b11, b12] (.int x0 :: st) w := pm_ny pt_84 d84_21 rfl rfl rfl
theorem d84_23 : decode cX5_leastProfitThatTakesIn 23 = .ok (.if_icmp .gt 7, 3) := by decide +kernel
theorem z84_23 {st : List Value} {w : pm_H} {pl : pm_L} {x0 x1 : Int32} : pm_ev 84 23 pl (.int x1 :: .int x0 :: st) w = if x1 < x0 then pm_ev 84 30 pl st w else pm_ev 84 26 pl st w := pm_nif pt_84 d84_23 rfl rfl rfl
theorem d84_26 : decode cX5_leastProfitThatTakesIn 26 = .ok (.iconst 1, 1) := by decide +kernel
theorem z84_26 {st : List Value} {w : pm_H} {pl : pm_L} : pm_ev 84 26 pl st w = pm_ev 84 27 pl (.int 1 :: st) w := pm_ny pt_84 d84_26 rfl rfl rfl
theorem d84_27 : decode cX5_leastProfitThatTakesIn 27 = .ok (.goto 4, 3) := by decide +kernel
theorem z84_27 {st : List Value} {w : pm_H} {pl : pm_L} : pm_ev 84 27 pl st w = pm_ev 84 31 pl st w := pm_ny pt_84 d84_27 rfl rfl rfl
theorem d84_30 : decode cX5_leastProfitThatTakesIn 30 = .ok (.iconst 0, 1) := by decide +kernel
theorem z84_30 {st : List Value} {w : pm_H} {pl : pm_L} : pm_ev 84 30 pl st w = pm_ev 84 31 pl (.int 0 :: st) w := pm_ny pt_84 d84_30 rfl rfl rfl
theorem d84_31 : decode cX5_leastProfitThatTakesIn 31 = .ok (.istore 5, 2) := by decide +kernel
theorem z84_31 {st : List Value} {w : pm_H} {b0 b1 b2 b3 b5 b6 b7 b8 b9 b10 b11 b12 : Option Value} {x0 : Int32} {x9 : Int32} : pm_ev 84 31 [b0, b1, b2, b3, some (.int x9), b5, b6, b7, b8, b9, b10, b11, b12] (.int x0 :: st) w = pm_ev 84 33 [b0, b1, b2, b3, some (.int x9), some (.int x0), b6, b7, b8, b9, b10, b11, b12] st w := pm_ny pt_84 d84_31 rfl rfl rfl
theorem d84_33 : decode cX5_leastProfitThatTakesIn 33 = .ok (.iload_n 1, 1) := by decide +kernel
theorem z84_33 {st : List Value} {w : pm_H} {b0 b2 b3 b4 b5 b6 b7 b8 b9 b10 b11 b12 : Option Value} {x0 : Int32} : pm_ev 84 33 [b0, some (.int x0), b2, b3, b4, b5, b6, b7, b8, b9, b10, b11, b12] st w = pm_ev 84 34 [b0, some (.int x0), b2, b3, b4, b5, b6, b7, b8, b9, b10, b11, b12] (.int x0 :: st) w := pm_ny pt_84 d84_33 rfl rfl rfl
theorem d84_34 : decode cX5_leastProfitThatTakesIn 34 = .ok (.iload 4, 2) := by decide +kernel
theorem z84_34 {st : List Value} {w : pm_H} {b0 b1 b2 b3 b5 b6 b7 b8 b9 b10 b11 b12 : Option Value} {x0 : Int32} : pm_ev 84 34 [b0, b1, b2, b3, some (.int x0), b5, b6, b7, b8, b9, b10, b11, b12] st w = pm_ev 84 36 [b0, b1, b2, b3, some (.int x0), b5, b6, b7, b8, b9, b10, b11, b12] (.int x0 :: st) w := pm_ny pt_84 d84_34 rfl rfl rfl
theorem d84_36 : decode cX5_leastProfitThatTakesIn 36 = .ok (.if_icmp .gt 7, 3) := by decide +kernel
theorem z84_36 {st : List Value} {w : pm_H} {pl : pm_L} {x0 x1 : Int32} : pm_ev 84 36 pl (.int x1 :: .int x0 :: st) w = if x1 < x0 then pm_ev 84 43 pl st w else pm_ev 84 39 pl st w := pm_nif pt_84 d84_36 rfl rfl rfl
theorem d84_39 : decode cX5_leastProfitThatTakesIn 39 = .ok (.iconst 1, 1) := by decide +kernel
theorem z84_39 {st : List Value} {w : pm_H} {pl : pm_L} : pm_ev 84 39 pl st w = pm_ev 84 40 pl (.int 1 :: st) w := pm_ny pt_84 d84_39 rfl rfl rfl
theorem d84_40 : decode cX5_leastProfitThatTakesIn 40 = .ok (.goto 4, 3) := by decide +kernel
theorem z84_40 {st : List Value} {w : pm_H} {pl : pm_L} : pm_ev 84 40 pl st w = pm_ev 84 44 pl st w := pm_ny pt_84 d84_40 rfl rfl rfl
theorem d84_43 : decode cX5_leastProfitThatTakesIn 43 = .ok (.iconst 0, 1) := by decide +kernel
theorem z84_43 {st : List Value} {w : pm_H} {pl : pm_L} : pm_ev 84 43 pl st w = pm_ev 84 44 pl (.int 0 :: st) w := pm_ny pt_84 d84_43 rfl rfl rfl
theorem d84_44 : decode cX5_leastProfitThatTakesIn 44 = .ok (.istore 6, 2) := by decide +kernel
theorem z84_44 {st : List Value} {w : pm_H} {b0 b1 b2 b3 b4 b6 b7 b8 b9 b10 b11 b12 : Option Value} {x0 : Int32} {x9 : Int32} : pm_ev 84 44 [b0, b1, b2, b3, b4, some (.int x9), b6, b7, b8, b9, b10, b11, b12] (.int x0 :: st) w = pm_ev 84 46 [b0, b1, b2, b3, b4, some (.int x9), some (.int x0), b7, b8, b9, b10, b11, b12] st w := pm_ny pt_84 d84_44 rfl rfl rfl
theorem d84_46 : decode cX5_leastProfitThatTakesIn 46 = .ok (.aload_n 0, 1) := by decide +kernel
theorem z84_46 {st : List Value} {w : pm_H} {b1 b2 b3 b4 b5 b6 b7 b8 b9 b10 b11 b12 : Option Value} {x0 : Nat} : pm_ev 84 46 [some (.ref x0), b1, b2, b3, b4, b5, b6, b7, b8, b9, b10, b11, b12] st w = pm_ev 84 47 [some (.ref x0), b1, b2, b3, b4, b5, b6, b7, b8, b9, b10, b11, b12] (.ref x0 :: st) w := pm_ny pt_84 d84_46 rfl rfl rfl
theorem d84_47 : decode cX5_leastProfitThatTakesIn 47 = .ok (.getfield 42, 3) := by decide +kernel
theorem z84_47 {st : List Value} {w : pm_H} {pl : pm_L} {x0 : Nat} : pm_ev 84 47 pl (.ref x0 :: st) w = pm_kv 84 50 pl st w (pm_gf (w x0) 5 4) := pm_ng pt_84 pt_F_5_42 d84_47
theorem d84_50 : decode cX5_leastProfitThatTakesIn 50 = .ok (.getfield 109, 3) := by decide +kernel
theorem z84_50 {st : List Value} {w : pm_H} {pl : pm_L} {x0 : Nat} : pm_ev 84 50 pl (.ref x0 :: st) w = pm_kv 84 53 pl st w (pm_gf (w x0) 4 1) := pm_ng pt_84 pt_F_5_109 d84_50
theorem d84_53 : decode cX5_leastProfitThatTakesIn 53 = .ok (.iload_n 1, 1) := by decide +kernel
theorem z84_53 {st : List Value} {w : pm_H} {b0 b2 b3 b4 b5 b6 b7 b8 b9 b10 b11 b12 : Option Value} {x0 : Int32} : pm_ev 84 53 [b0, some (.int x0), b2, b3, b4, b5, b6, b7, b8, b9, b10, b11, b12] st w = pm_ev 84 54 [b0, some (.int x0), b2, b3, b4, b5, b6, b7, b8, b9, b10, b11, b12] (.int x0 :: st) w := pm_ny pt_84 d84_53 rfl rfl rfl
theorem d84_54 : decode cX5_leastProfitThatTakesIn 54 = .ok (.iaload, 1) := by decide +kernel
theorem z84_54 {st : List Value} {w : pm_H} {pl : pm_L} {x0 : Nat} {x1 : Int32} : pm_ev 84 54 pl (.int x1 :: .ref x0 :: st) w = pm_kv 84 55 pl st w (pm_ia (w x0) 0 x1) := pm_nia pt_84 d84_54
theorem d84_55 : decode cX5_leastProfitThatTakesIn 55 = .ok (.istore 7, 2) := by decide +kernel
theorem z84_55 {st : List Value} {w : pm_H} {b0 b1 b2 b3 b4 b5 b7 b8 b9 b10 b11 b12 : Option Value} {x0 : Int32} {x9 : Int32} : pm_ev 84 55 [b0, b1, b2, b3, b4, b5, some (.int x9), b7, b8, b9, b10, b11, b12] (.int x0 :: st) w = pm_ev 84 57 [b0, b1, b2, b3, b4, b5, some (.int x9), some (.int x0), b8, b9, b10, b11, b12] st w := pm_ny pt_84 d84_55 rfl rfl rfl
theorem d84_57 : decode cX5_leastProfitThatTakesIn 57 = .ok (.aload_n 0, 1) := by decide +kernel
theorem z84_57 {st : List Value} {w : pm_H} {b1 b2 b3 b4 b5 b6 b7 b8 b9 b10 b11 b12 : Option Value} {x0 : Nat} : pm_ev 84 57 [some (.ref x0), b1, b2, b3, b4, b5, b6, b7, b8, b9, b10, b11, b12] st w = pm_ev 84 58 [some (.ref x0), b1, b2, b3, b4, b5, b6, b7, b8, b9, b10, b11, b12] (.ref x0 :: st) w := pm_ny pt_84 d84_57 rfl rfl rfl
theorem d84_58 : decode cX5_leastProfitThatTakesIn 58 = .ok (.getfield 42, 3) := by decide +kernel
theorem z84_58 {st : List Value} {w : pm_H} {pl : pm_L} {x0 : Nat} : pm_ev 84 58 pl (.ref x0 :: st) w = pm_kv 84 61 pl st w (pm_gf (w x0) 5 4) := pm_ng pt_84 pt_F_5_42 d84_58
theorem d84_61 : decode cX5_leastProfitThatTakesIn 61 = .ok (.iload_n 3, 1) := by decide +kernel
theorem z84_61 {st : List Value} {w : pm_H} {b0 b1 b2 b4 b5 b6 b7 b8 b9 b10 b11 b12 : Option Value} {x0 : Int32} : pm_ev 84 61 [b0, b1, b2, some (.int x0), b4, b5, b6, b7, b8, b9, b10, b11, b12] st w = pm_ev 84 62 [b0, b1, b2, some (.int x0), b4, b5, b6, b7, b8, b9, b10, b11, b12] (.int x0 :: st) w := pm_ny pt_84 d84_61 rfl rfl rfl
theorem d84_62 : decode cX5_leastProfitThatTakesIn 62 = .ok (.iload 4, 2) := by decide +kernel
theorem z84_62 {st : List Value} {w : pm_H} {b0 b1 b2 b3 b5 b6 b7 b8 b9 b10 b11 b12 : Option Value} {x0 : Int32} : pm_ev 84 62 [b0, b1, b2, b3, some (.int x0), b5, b6, b7, b8, b9, b10, b11, b12] st w = pm_ev 84 64 [b0, b1, b2, b3, some (.int x0), b5, b6, b7, b8, b9, b10, b11, b12] (.int x0 :: st) w := pm_ny pt_84 d84_62 rfl rfl rfl
theorem d84_64 : decode cX5_leastProfitThatTakesIn 64 = .ok (.invokevirtual 163, 3) := by decide +kernel
theorem z84_64 {w : pm_H} {b0 b1 b2 b3 b4 b5 b6 b7 b8 b9 b10 b11 b12 : Option Value} {x0 : Int32} {x1 : Int32} {x2 : Nat} : pm_ev 84 64 [b0, b1, b2, b3, b4, b5, b6, b7, b8, b9, b10, b11, b12] [.int x0, .int x1, .ref x2] w = pm_k 84 67 [b0, b1, b2, b3, b4, b5, b6, b7, b8, b9, b10, b11, b12] [] (pm_vc (w x2) 4 (pm_call 51 [.ref x2, .int x1, .int x0] w)) := pm_nv pt_84 pt_51 pt_M_5_163 d84_64 ⟨rfl, rfl⟩ ⟨⟨rfl, Nat.le_of_ble_eq_true rfl, Nat.le_of_ble_eq_true rfl, Nat.le_of_ble_eq_true rfl, Nat.le_of_ble_eq_true rfl⟩, rfl⟩
theorem d84_67 : decode cX5_leastProfitThatTakesIn 67 = .ok (.iload 5, 2) := by decide +kernel
theorem z84_67 {st : List Value} {w : pm_H} {b0 b1 b2 b3 b4 b6 b7 b8 b9 b10 b11 b12 : Option Value} {x0 : Int32} : pm_ev 84 67 [b0, b1, b2, b3, b4, some (.int x0), b6, b7, b8, b9, b10, b11, b12] st w = pm_ev 84 69 [b0, b1, b2, b3, b4, some (.int x0), b6, b7, b8, b9, b10, b11, b12] (.int x0 :: st) w := pm_ny pt_84 d84_67 rfl rfl rfl
theorem d84_69 : decode cX5_leastProfitThatTakesIn 69 = .ok (.ifCond .eq 8, 3) := by decide +kernel
theorem z84_69 {st : List Value} {w : pm_H} {pl : pm_L} {x0 : Int32} : pm_ev 84 69 pl (.int x0 :: st) w = if x0 = 0 then pm_ev 84 77 pl st w else pm_ev 84 72 pl st w := pm_nif pt_84 d84_69 rfl rfl rfl
theorem d84_72 : decode cX5_leastProfitThatTakesIn 72 = .ok (.iload 7, 2) := by decide +kernel
theorem z84_72 {st : List Value} {w : pm_H} {b0 b1 b2 b3 b4 b5 b6 b8 b9 b10 b11 b12 : Option Value} {x0 : Int32} : pm_ev 84 72 [b0, b1, b2, b3, b4, b5, b6, some (.int x0), b8, b9, b10, b11, b12] st w = pm_ev 84 74 [b0, b1, b2, b3, b4, b5, b6, some (.int x0), b8, b9, b10, b11, b12] (.int x0 :: st) w := pm_ny pt_84 d84_72 rfl rfl rfl
theorem d84_74 : decode cX5_leastProfitThatTakesIn 74 = .ok (.goto 4, 3) := by decide +kernel
theorem z84_74 {st : List Value} {w : pm_H} {pl : pm_L} : pm_ev 84 74 pl st w = pm_ev 84 78 pl st w := pm_ny pt_84 d84_74 rfl rfl rfl
theorem d84_77 : decode cX5_leastProfitThatTakesIn 77 = .ok (.iconst 0, 1) := by decide +kernel
theorem z84_77 {st : List Value} {w : pm_H} {pl : pm_L} : pm_ev 84 77 pl st w = pm_ev 84 78 pl (.int 0 :: st) w := pm_ny pt_84 d84_77 rfl rfl rfl
theorem d84_78 : decode cX5_leastProfitThatTakesIn 78 = .ok (.i2l, 1) := by decide +kernel
theorem z84_78 {st : List Value} {w : pm_H} {pl : pm_L} {x0 : Int32} : pm_ev 84 78 pl (.int x0 :: st) w = pm_ev 84 79 pl (.long x0.toInt64 :: st) w := pm_ny pt_84 d84_78 rfl rfl rfl
theorem d84_79 : decode cX5_leastProfitThatTakesIn 79 = .ok (.lsub, 1) := by decide +kernel
theorem z84_79 {st : List Value} {w : pm_H} {pl : pm_L} {x0 x1 : Int64} : pm_ev 84 79 pl (.long x1 :: .long x0 :: st) w = pm_ev 84 80 pl (.long (x0 - x1) :: st) w := pm_ny pt_84 d84_79 rfl rfl rfl
theorem d84_80 : decode cX5_leastProfitThatTakesIn 80 = .ok (.lstore 8, 2) := by decide +kernel
theorem z84_80 {st : List Value} {w : pm_H} {b0 b1 b2 b3 b4 b5 b6 b8 b9 b10 b11 b12 : Option Value} {x0 : Int64} {x9 : Int32} : pm_ev 84 80 [b0, b1, b2, b3, b4, b5, b6, some (.int x9), b8, b9, b10, b11, b12] (.long x0 :: st) w = pm_ev 84 82 [b0, b1, b2, b3, b4, b5, b6, some (.int x9), some (.long x0), none, b10, b11, b12] st w := pm_ny pt_84 d84_80 rfl rfl rfl
theorem d84_82 : decode cX5_leastProfitThatTakesIn 82 = .ok (.aload_n 0, 1) := by decide +kernel
theorem z84_82 {st : List Value} {w : pm_H} {b1 b2 b3 b4 b5 b6 b7 b8 b9 b10 b11 b12 : Option Value} {x0 : Nat} : pm_ev 84 82 [some (.ref x0), b1, b2, b3, b4, b5, b6, b7, b8, b9, b10, b11, b12] st w = pm_ev 84 83 [some (.ref x0), b1, b2, b3, b4, b5, b6, b7, b8, b9, b10, b11, b12] (.ref x0 :: st) w := pm_ny pt_84 d84_82 rfl rfl rfl
theorem d84_83 : decode cX5_leastProfitThatTakesIn 83 = .ok (.getfield 42, 3) := by decide +kernel
theorem z84_83 {st : List Value} {w : pm_H} {pl : pm_L} {x0 : Nat} : pm_ev 84 83 pl (.ref x0 :: st) w = pm_kv 84 86 pl st w (pm_gf (w x0) 5 4) := pm_ng pt_84 pt_F_5_42 d84_83
theorem d84_86 : decode cX5_leastProfitThatTakesIn 86 = .ok (.iconst 0, 1) := by decide +kernel
theorem z84_86 {st : List Value} {w : pm_H} {pl : pm_L} : pm_ev 84 86 pl st w = pm_ev 84 87 pl (.int 0 :: st) w := pm_ny pt_84 d84_86 rfl rfl rfl
theorem d84_87 : decode cX5_leastProfitThatTakesIn 87 = .ok (.iload 4, 2) := by decide +kernel
theorem z84_87 {st : List Value} {w : pm_H} {b0 b1 b2 b3 b5 b6 b7 b8 b9 b10 b11 b12 : Option Value} {x0 : Int32} : pm_ev 84 87 [b0, b1, b2, b3, some (.int x0), b5, b6, b7, b8, b9, b10, b11, b12] st w = pm_ev 84 89 [b0, b1, b2, b3, some (.int x0), b5, b6, b7, b8, b9, b10, b11, b12] (.int x0 :: st) w := pm_ny pt_84 d84_87 rfl rfl rfl
theorem d84_89 : decode cX5_leastProfitThatTakesIn 89 = .ok (.invokevirtual 163, 3) := by decide +kernel
theorem z84_89 {w : pm_H} {b0 b1 b2 b3 b4 b5 b6 b7 b8 b9 b10 b11 b12 : Option Value} {x0 : Int32} {x1 : Int32} {x2 : Nat} : pm_ev 84 89 [b0, b1, b2, b3, b4, b5, b6, b7, b8, b9, b10, b11, b12] [.int x0, .int x1, .ref x2] w = pm_k 84 92 [b0, b1, b2, b3, b4, b5, b6, b7, b8, b9, b10, b11, b12] [] (pm_vc (w x2) 4 (pm_call 51 [.ref x2, .int x1, .int x0] w)) := pm_nv pt_84 pt_51 pt_M_5_163 d84_89 ⟨rfl, rfl⟩ ⟨⟨rfl, Nat.le_of_ble_eq_true rfl, Nat.le_of_ble_eq_true rfl, Nat.le_of_ble_eq_true rfl, Nat.le_of_ble_eq_true rfl⟩, rfl⟩
theorem d84_92 : decode cX5_leastProfitThatTakesIn 92 = .ok (.iload 6, 2) := by decide +kernel
theorem z84_92 {st : List Value} {w : pm_H} {b0 b1 b2 b3 b4 b5 b7 b8 b9 b10 b11 b12 : Option Value} {x0 : Int32} : pm_ev 84 92 [b0, b1, b2, b3, b4, b5, some (.int x0), b7, b8, b9, b10, b11, b12] st w = pm_ev 84 94 [b0, b1, b2, b3, b4, b5, some (.int x0), b7, b8, b9, b10, b11, b12] (.int x0 :: st) w := pm_ny pt_84 d84_92 rfl rfl rfl
theorem d84_94 : decode cX5_leastProfitThatTakesIn 94 = .ok (.ifCond .eq 8, 3) := by decide +kernel
theorem z84_94 {st : List Value} {w : pm_H} {pl : pm_L} {x0 : Int32} : pm_ev 84 94 pl (.int x0 :: st) w = if x0 = 0 then pm_ev 84 102 pl st w else pm_ev 84 97 pl st w := pm_nif pt_84 d84_94 rfl rfl rfl
theorem d84_97 : decode cX5_leastProfitThatTakesIn 97 = .ok (.iload 7, 2) := by decide +kernel
theorem z84_97 {st : List Value} {w : pm_H} {b0 b1 b2 b3 b4 b5 b6 b8 b9 b10 b11 b12 : Option Value} {x0 : Int32} : pm_ev 84 97 [b0, b1, b2, b3, b4, b5, b6, some (.int x0), b8, b9, b10, b11, b12] st w = pm_ev 84 99 [b0, b1, b2, b3, b4, b5, b6, some (.int x0), b8, b9, b10, b11, b12] (.int x0 :: st) w := pm_ny pt_84 d84_97 rfl rfl rfl
theorem d84_99 : decode cX5_leastProfitThatTakesIn 99 = .ok (.goto 4, 3) := by decide +kernel
theorem z84_99 {st : List Value} {w : pm_H} {pl : pm_L} : pm_ev 84 99 pl st w = pm_ev 84 103 pl st w := pm_ny pt_84 d84_99 rfl rfl rfl
theorem d84_102 : decode cX5_leastProfitThatTakesIn 102 = .ok (.iconst 0, 1) := by decide +kernel
theorem z84_102 {st : List Value} {w : pm_H} {pl : pm_L} : pm_ev 84 102 pl st w = pm_ev 84 103 pl (.int 0 :: st) w := pm_ny pt_84 d84_102 rfl rfl rfl
theorem d84_103 : decode cX5_leastProfitThatTakesIn 103 = .ok (.i2l, 1) := by decide +kernel
theorem z84_103 {st : List Value} {w : pm_H} {pl : pm_L} {x0 : Int32} : pm_ev 84 103 pl (.int x0 :: st) w = pm_ev 84 104 pl (.long x0.toInt64 :: st) w := pm_ny pt_84 d84_103 rfl rfl rfl
theorem d84_104 : decode cX5_leastProfitThatTakesIn 104 = .ok (.lsub, 1) := by decide +kernel
theorem z84_104 {st : List Value} {w : pm_H} {pl : pm_L} {x0 x1 : Int64} : pm_ev 84 104 pl (.long x1 :: .long x0 :: st) w = pm_ev 84 105 pl (.long (x0 - x1) :: st) w := pm_ny pt_84 d84_104 rfl rfl rfl
theorem d84_105 : decode cX5_leastProfitThatTakesIn 105 = .ok (.lstore 10, 2) := by decide +kernel
theorem z84_105 {st : List Value} {w : pm_H} {b0 b1 b2 b3 b4 b5 b6 b7 b8 b10 b11 b12 : Option Value} {x0 : Int64} : pm_ev 84 105 [b0, b1, b2, b3, b4, b5, b6, b7, b8, none, b10, b11, b12] (.long x0 :: st) w = pm_ev 84 107 [b0, b1, b2, b3, b4, b5, b6, b7, b8, none, some (.long x0), none, b12] st w := pm_ny pt_84 d84_105 rfl rfl rfl
theorem d84_107 : decode cX5_leastProfitThatTakesIn 107 = .ok (.iconst 0, 1) := by decide +kernel
theorem z84_107 {st : List Value} {w : pm_H} {pl : pm_L} : pm_ev 84 107 pl st w = pm_ev 84 108 pl (.int 0 :: st) w := pm_ny pt_84 d84_107 rfl rfl rfl
theorem d84_108 : decode cX5_leastProfitThatTakesIn 108 = .ok (.istore 12, 2) := by decide +kernel
theorem z84_108 {st : List Value} {w : pm_H} {b0 b1 b2 b3 b4 b5 b6 b7 b8 b9 b10 b12 : Option Value} {x0 : Int32} : pm_ev 84 108 [b0, b1, b2, b3, b4, b5, b6, b7, b8, b9, b10, none, b12] (.int x0 :: st) w = pm_ev 84 110 [b0, b1, b2, b3, b4, b5, b6, b7, b8, b9, b10, none, some (.int x0)] st w := pm_ny pt_84 d84_108 rfl rfl rfl
theorem d84_110 : decode cX5_leastProfitThatTakesIn 110 = .ok (.iload 12, 2) := by decide +kernel
theorem z84_110 {st : List Value} {w : pm_H} {b0 b1 b2 b3 b4 b5 b6 b7 b8 b9 b10 b11 : Option Value} {x0 : Int32} : pm_ev 84 110 [b0, b1, b2, b3, b4, b5, b6, b7, b8, b9, b10, b11, some (.int x0)] st w = pm_ev 84 112 [b0, b1, b2, b3, b4, b5, b6, b7, b8, b9, b10, b11, some (.int x0)] (.int x0 :: st) w := pm_ny pt_84 d84_110 rfl rfl rfl
theorem d84_112 : decode cX5_leastProfitThatTakesIn 112 = .ok (.ldc 255, 2) := by decide +kernel
theorem z84_112 {st : List Value} {w : pm_H} {pl : pm_L} : pm_ev 84 112 pl st w = pm_ev 84 114 pl (.int (99900) :: st) w := pm_nk pt_84 pt_K_5_255 (by decide) d84_112
theorem d84_114 : decode cX5_leastProfitThatTakesIn 114 = .ok (.if_icmp .gt 64, 3) := by decide +kernel
theorem z84_114 {st : List Value} {w : pm_H} {pl : pm_L} {x0 x1 : Int32} : pm_ev 84 114 pl (.int x1 :: .int x0 :: st) w = if x1 < x0 then pm_ev 84 178 pl st w else pm_ev 84 117 pl st w := pm_nif pt_84 d84_114 rfl rfl rfl
theorem d84_117 : decode cX5_leastProfitThatTakesIn 117 = .ok (.aload_n 0, 1) := by decide +kernel
theorem z84_117 {st : List Value} {w : pm_H} {b1 b2 b3 b4 b5 b6 b7 b8 b9 b10 b11 b12 : Option Value} {x0 : Nat} : pm_ev 84 117 [some (.ref x0), b1, b2, b3, b4, b5, b6, b7, b8, b9, b10, b11, b12] st w = pm_ev 84 118 [some (.ref x0), b1, b2, b3, b4, b5, b6, b7, b8, b9, b10, b11, b12] (.ref x0 :: st) w := pm_ny pt_84 d84_117 rfl rfl rfl
theorem d84_118 : decode cX5_leastProfitThatTakesIn 118 = .ok (.getfield 28, 3) := by decide +kernel
theorem z84_118 {st : List Value} {w : pm_H} {pl : pm_L} {x0 : Nat} : pm_ev 84 118 pl (.ref x0 :: st) w = pm_kv 84 121 pl st w (pm_gf (w x0) 5 2) := pm_ng pt_84 pt_F_5_28 d84_118
theorem d84_121 : decode cX5_leastProfitThatTakesIn 121 = .ok (.lload 8, 2) := by decide +kernel
theorem z84_121 {st : List Value} {w : pm_H} {b0 b1 b2 b3 b4 b5 b6 b7 b9 b10 b11 b12 : Option Value} {x0 : Int64} : pm_ev 84 121 [b0, b1, b2, b3, b4, b5, b6, b7, some (.long x0), b9, b10, b11, b12] st w = pm_ev 84 123 [b0, b1, b2, b3, b4, b5, b6, b7, some (.long x0), b9, b10, b11, b12] (.long x0 :: st) w := pm_ny pt_84 d84_121 rfl rfl rfl
theorem d84_123 : decode cX5_leastProfitThatTakesIn 123 = .ok (.iload 5, 2) := by decide +kernel
theorem z84_123 {st : List Value} {w : pm_H} {b0 b1 b2 b3 b4 b6 b7 b8 b9 b10 b11 b12 : Option Value} {x0 : Int32} : pm_ev 84 123 [b0, b1, b2, b3, b4, some (.int x0), b6, b7, b8, b9, b10, b11, b12] st w = pm_ev 84 125 [b0, b1, b2, b3, b4, some (.int x0), b6, b7, b8, b9, b10, b11, b12] (.int x0 :: st) w := pm_ny pt_84 d84_123 rfl rfl rfl
theorem d84_125 : decode cX5_leastProfitThatTakesIn 125 = .ok (.ifCond .eq 8, 3) := by decide +kernel
theorem z84_125 {st : List Value} {w : pm_H} {pl : pm_L} {x0 : Int32} : pm_ev 84 125 pl (.int x0 :: st) w = if x0 = 0 then pm_ev 84 133 pl st w else pm_ev 84 128 pl st w := pm_nif pt_84 d84_125 rfl rfl rfl
theorem d84_128 : decode cX5_leastProfitThatTakesIn 128 = .ok (.iload 12, 2) := by decide +kernel
theorem z84_128 {st : List Value} {w : pm_H} {b0 b1 b2 b3 b4 b5 b6 b7 b8 b9 b10 b11 : Option Value} {x0 : Int32} : pm_ev 84 128 [b0, b1, b2, b3, b4, b5, b6, b7, b8, b9, b10, b11, some (.int x0)] st w = pm_ev 84 130 [b0, b1, b2, b3, b4, b5, b6, b7, b8, b9, b10, b11, some (.int x0)] (.int x0 :: st) w := pm_ny pt_84 d84_128 rfl rfl rfl
theorem d84_130 : decode cX5_leastProfitThatTakesIn 130 = .ok (.goto 4, 3) := by decide +kernel
theorem z84_130 {st : List Value} {w : pm_H} {pl : pm_L} : pm_ev 84 130 pl st w = pm_ev 84 134 pl st w := pm_ny pt_84 d84_130 rfl rfl rfl
theorem d84_133 : decode cX5_leastProfitThatTakesIn 133 = .ok (.iconst 0, 1) := by decide +kernel
theorem z84_133 {st : List Value} {w : pm_H} {pl : pm_L} : pm_ev 84 133 pl st w = pm_ev 84 134 pl (.int 0 :: st) w := pm_ny pt_84 d84_133 rfl rfl rfl
theorem d84_134 : decode cX5_leastProfitThatTakesIn 134 = .ok (.i2l, 1) := by decide +kernel
theorem z84_134 {st : List Value} {w : pm_H} {pl : pm_L} {x0 : Int32} : pm_ev 84 134 pl (.int x0 :: st) w = pm_ev 84 135 pl (.long x0.toInt64 :: st) w := pm_ny pt_84 d84_134 rfl rfl rfl
theorem d84_135 : decode cX5_leastProfitThatTakesIn 135 = .ok (.ladd, 1) := by decide +kernel
theorem z84_135 {st : List Value} {w : pm_H} {pl : pm_L} {x0 x1 : Int64} : pm_ev 84 135 pl (.long x1 :: .long x0 :: st) w = pm_ev 84 136 pl (.long (x0 + x1) :: st) w := pm_ny pt_84 d84_135 rfl rfl rfl
theorem d84_136 : decode cX5_leastProfitThatTakesIn 136 = .ok (.lload 10, 2) := by decide +kernel
theorem z84_136 {st : List Value} {w : pm_H} {b0 b1 b2 b3 b4 b5 b6 b7 b8 b9 b11 b12 : Option Value} {x0 : Int64} : pm_ev 84 136 [b0, b1, b2, b3, b4, b5, b6, b7, b8, b9, some (.long x0), b11, b12] st w = pm_ev 84 138 [b0, b1, b2, b3, b4, b5, b6, b7, b8, b9, some (.long x0), b11, b12] (.long x0 :: st) w := pm_ny pt_84 d84_136 rfl rfl rfl
theorem d84_138 : decode cX5_leastProfitThatTakesIn 138 = .ok (.iload 6, 2) := by decide +kernel
theorem z84_138 {st : List Value} {w : pm_H} {b0 b1 b2 b3 b4 b5 b7 b8 b9 b10 b11 b12 : Option Value} {x0 : Int32} : pm_ev 84 138 [b0, b1, b2, b3, b4, b5, some (.int x0), b7, b8, b9, b10, b11, b12] st w = pm_ev 84 140 [b0, b1, b2, b3, b4, b5, some (.int x0), b7, b8, b9, b10, b11, b12] (.int x0 :: st) w := pm_ny pt_84 d84_138 rfl rfl rfl
theorem d84_140 : decode cX5_leastProfitThatTakesIn 140 = .ok (.ifCond .eq 8, 3) := by decide +kernel
theorem z84_140 {st : List Value} {w : pm_H} {pl : pm_L} {x0 : Int32} : pm_ev 84 140 pl (.int x0 :: st) w = if x0 = 0 then pm_ev 84 148 pl st w else pm_ev 84 143 pl st w := pm_nif pt_84 d84_140 rfl rfl rfl
theorem d84_143 : decode cX5_leastProfitThatTakesIn 143 = .ok (.iload 12, 2) := by decide +kernel
theorem z84_143 {st : List Value} {w : pm_H} {b0 b1 b2 b3 b4 b5 b6 b7 b8 b9 b10 b11 : Option Value} {x0 : Int32} : pm_ev 84 143 [b0, b1, b2, b3, b4, b5, b6, b7, b8, b9, b10, b11, some (.int x0)] st w = pm_ev 84 145 [b0, b1, b2, b3, b4, b5, b6, b7, b8, b9, b10, b11, some (.int x0)] (.int x0 :: st) w := pm_ny pt_84 d84_143 rfl rfl rfl
theorem d84_145 : decode cX5_leastProfitThatTakesIn 145 = .ok (.goto 4, 3) := by decide +kernel
theorem z84_145 {st : List Value} {w : pm_H} {pl : pm_L} : pm_ev 84 145 pl st w = pm_ev 84 149 pl st w := pm_ny pt_84 d84_145 rfl rfl rfl
theorem d84_148 : decode cX5_leastProfitThatTakesIn 148 = .ok (.iconst 0, 1) := by decide +kernel
theorem z84_148 {st : List Value} {w : pm_H} {pl : pm_L} : pm_ev 84 148 pl st w = pm_ev 84 149 pl (.int 0 :: st) w := pm_ny pt_84 d84_148 rfl rfl rfl
theorem d84_149 : decode cX5_leastProfitThatTakesIn 149 = .ok (.i2l, 1) := by decide +kernel
theorem z84_149 {st : List Value} {w : pm_H} {pl : pm_L} {x0 : Int32} : pm_ev 84 149 pl (.int x0 :: st) w = pm_ev 84 150 pl (.long x0.toInt64 :: st) w := pm_ny pt_84 d84_149 rfl rfl rfl
theorem d84_150 : decode cX5_leastProfitThatTakesIn 150 = .ok (.ladd, 1) := by decide +kernel
theorem z84_150 {st : List Value} {w : pm_H} {pl : pm_L} {x0 x1 : Int64} : pm_ev 84 150 pl (.long x1 :: .long x0 :: st) w = pm_ev 84 151 pl (.long (x0 + x1) :: st) w := pm_ny pt_84 d84_150 rfl rfl rfl
theorem d84_151 : decode cX5_leastProfitThatTakesIn 151 = .ok (.invokevirtual 256, 3) := by decide +kernel
theorem z84_151 {w : pm_H} {b0 b1 b2 b3 b4 b5 b6 b7 b8 b9 b10 b11 b12 : Option Value} {x0 : Int64} {x1 : Int64} {x2 : Nat} : pm_ev 84 151 [b0, b1, b2, b3, b4, b5, b6, b7, b8, b9, b10, b11, b12] [.long x0, .long x1, .ref x2] w = pm_k 84 154 [b0, b1, b2, b3, b4, b5, b6, b7, b8, b9, b10, b11, b12] [] (pm_vc (w x2) 0 (pm_call 4 [.ref x2, .long x1, .long x0] w)) := pm_nv pt_84 pt_4 pt_M_5_256 d84_151 ⟨rfl, rfl⟩ ⟨⟨rfl, Nat.le_of_ble_eq_true rfl, Nat.le_of_ble_eq_true rfl, Nat.le_of_ble_eq_true rfl, Nat.le_of_ble_eq_true rfl⟩, rfl⟩
theorem d84_154 : decode cX5_leastProfitThatTakesIn 154 = .ok (.aload_n 0, 1) := by decide +kernel
theorem z84_154 {st : List Value} {w : pm_H} {b1 b2 b3 b4 b5 b6 b7 b8 b9 b10 b11 b12 : Option Value} {x0 : Nat} : pm_ev 84 154 [some (.ref x0), b1, b2, b3, b4, b5, b6, b7, b8, b9, b10, b11, b12] st w = pm_ev 84 155 [some (.ref x0), b1, b2, b3, b4, b5, b6, b7, b8, b9, b10, b11, b12] (.ref x0 :: st) w := pm_ny pt_84 d84_154 rfl rfl rfl
theorem d84_155 : decode cX5_leastProfitThatTakesIn 155 = .ok (.getfield 28, 3) := by decide +kernel
theorem z84_155 {st : List Value} {w : pm_H} {pl : pm_L} {x0 : Nat} : pm_ev 84 155 pl (.ref x0 :: st) w = pm_kv 84 158 pl st w (pm_gf (w x0) 5 2) := pm_ng pt_84 pt_F_5_28 d84_155
theorem d84_158 : decode cX5_leastProfitThatTakesIn 158 = .ok (.getfield 182, 3) := by decide +kernel
theorem z84_158 {st : List Value} {w : pm_H} {pl : pm_L} {x0 : Nat} : pm_ev 84 158 pl (.ref x0 :: st) w = pm_kv 84 161 pl st w (pm_gf (w x0) 0 2) := pm_ng pt_84 pt_F_5_182 d84_158
theorem d84_161 : decode cX5_leastProfitThatTakesIn 161 = .ok (.iload_n 2, 1) := by decide +kernel
theorem z84_161 {st : List Value} {w : pm_H} {b0 b1 b3 b4 b5 b6 b7 b8 b9 b10 b11 b12 : Option Value} {x0 : Int32} : pm_ev 84 161 [b0, b1, some (.int x0), b3, b4, b5, b6, b7, b8, b9, b10, b11, b12] st w = pm_ev 84 162 [b0, b1, some (.int x0), b3, b4, b5, b6, b7, b8, b9, b10, b11, b12] (.int x0 :: st) w := pm_ny pt_84 d84_161 rfl rfl rfl
theorem d84_162 : decode cX5_leastProfitThatTakesIn 162 = .ok (.ishr, 1) := by decide +kernel
theorem z84_162 {st : List Value} {w : pm_H} {pl : pm_L} {x0 x1 : Int32} : pm_ev 84 162 pl (.int x1 :: .int x0 :: st) w = pm_ev 84 163 pl (.int (x0 >>> (x1 &&& 31)) :: st) w := pm_ny pt_84 d84_162 rfl rfl rfl
theorem d84_163 : decode cX5_leastProfitThatTakesIn 163 = .ok (.iconst 1, 1) := by decide +kernel
theorem z84_163 {st : List Value} {w : pm_H} {pl : pm_L} : pm_ev 84 163 pl st w = pm_ev 84 164 pl (.int 1 :: st) w := pm_ny pt_84 d84_163 rfl rfl rfl
theorem d84_164 : decode cX5_leastProfitThatTakesIn 164 = .ok (.iand, 1) := by decide +kernel
theorem z84_164 {st : List Value} {w : pm_H} {pl : pm_L} {x0 x1 : Int32} : pm_ev 84 164 pl (.int x1 :: .int x0 :: st) w = pm_ev 84 165 pl (.int (x0 &&& x1) :: st) w := pm_ny pt_84 d84_164 rfl rfl rfl
theorem d84_165 : decode cX5_leastProfitThatTakesIn 165 = .ok (.iconst 1, 1) := by decide +kernel
theorem z84_165 {st : List Value} {w : pm_H} {pl : pm_L} : pm_ev 84 165 pl st w = pm_ev 84 166 pl (.int 1 :: st) w := pm_ny pt_84 d84_165 rfl rfl rfl
theorem d84_166 : decode cX5_leastProfitThatTakesIn 166 = .ok (.if_icmp .ne 6, 3) := by decide +kernel
theorem z84_166 {st : List Value} {w : pm_H} {pl : pm_L} {x0 x1 : Int32} : pm_ev 84 166 pl (.int x1 :: .int x0 :: st) w = if x0 = x1 then pm_ev 84 169 pl st w else pm_ev 84 172 pl st w := pm_nin (c := ¬ x0 = x1) pt_84 d84_166 rfl rfl rfl Iff.rfl
theorem d84_169 : decode cX5_leastProfitThatTakesIn 169 = .ok (.iload 12, 2) := by decide +kernel
theorem z84_169 {st : List Value} {w : pm_H} {b0 b1 b2 b3 b4 b5 b6 b7 b8 b9 b10 b11 : Option Value} {x0 : Int32} : pm_ev 84 169 [b0, b1, b2, b3, b4, b5, b6, b7, b8, b9, b10, b11, some (.int x0)] st w = pm_ev 84 171 [b0, b1, b2, b3, b4, b5, b6, b7, b8, b9, b10, b11, some (.int x0)] (.int x0 :: st) w := pm_ny pt_84 d84_169 rfl rfl rfl
theorem d84_171 : decode cX5_leastProfitThatTakesIn 171 = .ok (.ireturn, 1) := by decide +kernel
theorem z84_171 {w : pm_H} {pl : pm_L} {x0 : Int32} : pm_ev 84 171 pl [.int x0] w = some (some (.int x0), w) := pm_nr pt_84 d84_171 rfl
theorem d84_172 : decode cX5_leastProfitThatTakesIn 172 = .ok (.iinc 12 100, 3) := by decide +kernel
theorem z84_172 {st : List Value} {w : pm_H} {b0 b1 b2 b3 b4 b5 b6 b7 b8 b9 b10 : Option Value} {x0 : Int32} : pm_ev 84 172 [b0, b1, b2, b3, b4, b5, b6, b7, b8, b9, b10, none, some (.int x0)] st w = pm_ev 84 175 [b0, b1, b2, b3, b4, b5, b6, b7, b8, b9, b10, none, some (.int (x0 + 100))] st w := pm_ny pt_84 d84_172 rfl rfl rfl
theorem d84_175 : decode cX5_leastProfitThatTakesIn 175 = .ok (.goto (-65), 3) := by decide +kernel
theorem z84_175 {st : List Value} {w : pm_H} {pl : pm_L} : pm_ev 84 175 pl st w = pm_ev 84 110 pl st w := pm_ny pt_84 d84_175 rfl rfl rfl
theorem d84_178 : decode cX5_leastProfitThatTakesIn 178 = .ok (.bipush (-2), 2) := by decide +kernel
theorem z84_178 {st : List Value} {w : pm_H} {pl : pm_L} : pm_ev 84 178 pl st w = pm_ev 84 180 pl (.int (-2) :: st) w := pm_ny pt_84 d84_178 rfl rfl rfl
theorem d84_180 : decode cX5_leastProfitThatTakesIn 180 = .ok (.ireturn, 1) := by decide +kernel
theorem z84_180 {w : pm_H} {pl : pm_L} {x0 : Int32} : pm_ev 84 180 pl [.int x0] w = some (some (.int x0), w) := pm_nr pt_84 d84_180 rfl
theorem d85_0 : decode cX5_ifSplit 0 = .ok (.iload_n 2, 1) := by decide +kernel
theorem z85_0 {st : List Value} {w : pm_H} {b0 b1 b3 b4 : Option Value} {x0 : Int32} : pm_ev 85 0 [b0, b1, some (.int x0), b3, b4] st w = pm_ev 85 1 [b0, b1, some (.int x0), b3, b4] (.int x0 :: st) w := pm_ny pt_85 d85_0 rfl rfl rfl
theorem d85_1 : decode cX5_ifSplit 1 = .ok (.iload_n 3, 1) := by decide +kernel
theorem z85_1 {st : List Value} {w : pm_H} {b0 b1 b2 b4 : Option Value} {x0 : Int32} : pm_ev 85 1 [b0, b1, b2, some (.int x0), b4] st w = pm_ev 85 2 [b0, b1, b2, some (.int x0), b4] (.int x0 :: st) w := pm_ny pt_85 d85_1 rfl rfl rfl
theorem d85_2 : decode cX5_ifSplit 2 = .ok (.invokestatic 145, 3) := by decide +kernel
theorem z85_2 {w : pm_H} {b0 b1 b2 b3 b4 : Option Value} {x0 : Int32} {x1 : Int32} : pm_ev 85 2 [b0, b1, b2, b3, b4] [.int x0, .int x1] w = pm_k 85 5 [b0, b1, b2, b3, b4] [] (pm_call 75 [.int x1, .int x0] w) := pm_ns pt_85 pt_75 pt_M_5_145 (Or.inl rfl) d85_2 ⟨rfl, rfl⟩ ⟨⟨rfl, Nat.le_of_ble_eq_true rfl, Nat.le_of_ble_eq_true rfl, Nat.le_of_ble_eq_true rfl, Nat.le_of_ble_eq_true rfl⟩, rfl⟩
theorem d85_5 : decode cX5_ifSplit 5 = .ok (.iload_n 1, 1) := by decide +kernel
theorem z85_5 {st : List Value} {w : pm_H} {b0 b2 b3 b4 : Option Value} {x0 : Int32} : pm_ev 85 5 [b0, some (.int x0), b2, b3, b4] st w = pm_ev 85 6 [b0, some (.int x0), b2, b3, b4] (.int x0 :: st) w := pm_ny pt_85 d85_5 rfl rfl rfl
theorem d85_6 : decode cX5_ifSplit 6 = .ok (.iconst 2, 1) := by decide +kernel
theorem z85_6 {st : List Value} {w : pm_H} {pl : pm_L} : pm_ev 85 6 pl st w = pm_ev 85 7 pl (.int 2 :: st) w := pm_ny pt_85 d85_6 rfl rfl rfl
theorem d85_7 : decode cX5_ifSplit 7 = .ok (.if_icmp .lt 20, 3) := by decide +kernel
theorem z85_7 {st : List Value} {w : pm_H} {pl : pm_L} {x0 x1 : Int32} : pm_ev 85 7 pl (.int x1 :: .int x0 :: st) w = if x0 < x1 then pm_ev 85 27 pl st w else pm_ev 85 10 pl st w := pm_nif pt_85 d85_7 rfl rfl rfl
theorem d85_10 : decode cX5_ifSplit 10 = .ok (.iload_n 1, 1) := by decide +kernel
theorem z85_10 {st : List Value} {w : pm_H} {b0 b2 b3 b4 : Option Value} {x0 : Int32} : pm_ev 85 10 [b0, some (.int x0), b2, b3, b4] st w = pm_ev 85 11 [b0, some (.int x0), b2, b3, b4] (.int x0 :: st) w := pm_ny pt_85 d85_10 rfl rfl rfl
theorem d85_11 : decode cX5_ifSplit 11 = .ok (.bipush 9, 2) := by decide +kernel
theorem z85_11 {st : List Value} {w : pm_H} {pl : pm_L} : pm_ev 85 11 pl st w = pm_ev 85 13 pl (.int 9 :: st) w := pm_ny pt_85 d85_11 rfl rfl rfl
theorem d85_13 : decode cX5_ifSplit 13 = .ok (.if_icmp .gt 14, 3) := by decide +kernel
theorem z85_13 {st : List Value} {w : pm_H} {pl : pm_L} {x0 x1 : Int32} : pm_ev 85 13 pl (.int x1 :: .int x0 :: st) w = if x1 < x0 then pm_ev 85 27 pl st w else pm_ev 85 16 pl st w := pm_nif pt_85 d85_13 rfl rfl rfl
theorem d85_16 : decode cX5_ifSplit 16 = .ok (.aload_n 0, 1) := by decide +kernel
theorem z85_16 {st : List Value} {w : pm_H} {b1 b2 b3 b4 : Option Value} {x0 : Nat} : pm_ev 85 16 [some (.ref x0), b1, b2, b3, b4] st w = pm_ev 85 17 [some (.ref x0), b1, b2, b3, b4] (.ref x0 :: st) w := pm_ny pt_85 d85_16 rfl rfl rfl
theorem d85_17 : decode cX5_ifSplit 17 = .ok (.getfield 42, 3) := by decide +kernel
theorem z85_17 {st : List Value} {w : pm_H} {pl : pm_L} {x0 : Nat} : pm_ev 85 17 pl (.ref x0 :: st) w = pm_kv 85 20 pl st w (pm_gf (w x0) 5 4) := pm_ng pt_85 pt_F_5_42 d85_17
theorem d85_20 : decode cX5_ifSplit 20 = .ok (.iconst 2, 1) := by decide +kernel
theorem z85_20 {st : List Value} {w : pm_H} {pl : pm_L} : pm_ev 85 20 pl st w = pm_ev 85 21 pl (.int 2 :: st) w := pm_ny pt_85 d85_20 rfl rfl rfl
theorem d85_21 : decode cX5_ifSplit 21 = .ok (.invokevirtual 209, 3) := by decide +kernel
theorem z85_21 {w : pm_H} {b0 b1 b2 b3 b4 : Option Value} {x0 : Int32} {x1 : Nat} : pm_ev 85 21 [b0, b1, b2, b3, b4] [.int x0, .ref x1] w = pm_k 85 24 [b0, b1, b2, b3, b4] [] (pm_vc (w x1) 4 (pm_call 30 [.ref x1, .int x0] w)) := pm_nv pt_85 pt_30 pt_M_5_209 d85_21 ⟨rfl, rfl⟩ ⟨⟨rfl, Nat.le_of_ble_eq_true rfl, Nat.le_of_ble_eq_true rfl, Nat.le_of_ble_eq_true rfl, Nat.le_of_ble_eq_true rfl⟩, rfl⟩
theorem d85_24 : decode cX5_ifSplit 24 = .ok (.ifCond .ne 6, 3) := by decide +kernel
theorem z85_24 {st : List Value} {w : pm_H} {pl : pm_L} {x0 : Int32} : pm_ev 85 24 pl (.int x0 :: st) w = if x0 = 0 then pm_ev 85 27 pl st w else pm_ev 85 30 pl st w := pm_nin (c := ¬ x0 = 0) pt_85 d85_24 rfl rfl rfl Iff.rfl
theorem d85_27 : decode cX5_ifSplit 27 = .ok (.ldc 194, 2) := by decide +kernel
theorem z85_27 {st : List Value} {w : pm_H} {pl : pm_L} : pm_ev 85 27 pl st w = pm_ev 85 29 pl (.int (-1000000000) :: st) w := pm_nk pt_85 pt_K_5_194 (by decide) d85_27
theorem d85_29 : decode cX5_ifSplit 29 = .ok (.ireturn, 1) := by decide +kernel
theorem z85_29 {w : pm_H} {pl : pm_L} {x0 : Int32} : pm_ev 85 29 pl [.int x0] w = some (some (.int x0), w) := pm_nr pt_85 d85_29 rfl
theorem d85_30 : decode cX5_ifSplit 30 = .ok (.aload_n 0, 1) := by decide +kernel
theorem z85_30 {st : List Value} {w : pm_H} {b1 b2 b3 b4 : Option Value} {x0 : Nat} : pm_ev 85 30 [some (.ref x0), b1, b2, b3, b4] st w = pm_ev 85 31 [some (.ref x0), b1, b2, b3, b4] (.ref x0 :: st) w := pm_ny pt_85 d85_30 rfl rfl rfl
theorem d85_31 : decode cX5_ifSplit 31 = .ok (.getfield 42, 3) := by decide +kernel
theorem z85_31 {st : List Value} {w : pm_H} {pl : pm_L} {x0 : Nat} : pm_ev 85 31 pl (.ref x0 :: st) w = pm_kv 85 34 pl st w (pm_gf (w x0) 5 4) := pm_ng pt_85 pt_F_5_42 d85_31
theorem d85_34 : decode cX5_ifSplit 34 = .ok (.iconst 2, 1) := by decide +kernel
theorem z85_34 {st : List Value} {w : pm_H} {pl : pm_L} : pm_ev 85 34 pl st w = pm_ev 85 35 pl (.int 2 :: st) w := pm_ny pt_85 d85_34 rfl rfl rfl
theorem d85_35 : decode cX5_ifSplit 35 = .ok (.aload_n 0, 1) := by decide +kernel
theorem z85_35 {st : List Value} {w : pm_H} {b1 b2 b3 b4 : Option Value} {x0 : Nat} : pm_ev 85 35 [some (.ref x0), b1, b2, b3, b4] st w = pm_ev 85 36 [some (.ref x0), b1, b2, b3, b4] (.ref x0 :: st) w := pm_ny pt_85 d85_35 rfl rfl rfl
theorem d85_36 : decode cX5_ifSplit 36 = .ok (.getfield 42, 3) := by decide +kernel
theorem z85_36 {st : List Value} {w : pm_H} {pl : pm_L} {x0 : Nat} : pm_ev 85 36 pl (.ref x0 :: st) w = pm_kv 85 39 pl st w (pm_gf (w x0) 5 4) := pm_ng pt_85 pt_F_5_42 d85_36
theorem d85_39 : decode cX5_ifSplit 39 = .ok (.invokevirtual 212, 3) := by decide +kernel
theorem z85_39 {w : pm_H} {b0 b1 b2 b3 b4 : Option Value} {x0 : Nat} {x1 : Int32} {x2 : Nat} : pm_ev 85 39 [b0, b1, b2, b3, b4] [.ref x0, .int x1, .ref x2] w = pm_k 85 42 [b0, b1, b2, b3, b4] [.int x1, .ref x2] (pm_vc (w x0) 4 (pm_call 32 [.ref x0] w)) := pm_nv pt_85 pt_32 pt_M_5_212 d85_39 ⟨rfl, rfl⟩ ⟨⟨rfl, Nat.le_of_ble_eq_true rfl, Nat.le_of_ble_eq_true rfl, Nat.le_of_ble_eq_true rfl, Nat.le_of_ble_eq_true rfl⟩, rfl⟩
theorem d85_42 : decode cX5_ifSplit 42 = .ok (.iload_n 1, 1) := by decide +kernel
theorem z85_42 {st : List Value} {w : pm_H} {b0 b2 b3 b4 : Option Value} {x0 : Int32} : pm_ev 85 42 [b0, some (.int x0), b2, b3, b4] st w = pm_ev 85 43 [b0, some (.int x0), b2, b3, b4] (.int x0 :: st) w := pm_ny pt_85 d85_42 rfl rfl rfl
theorem d85_43 : decode cX5_ifSplit 43 = .ok (.invokevirtual 215, 3) := by decide +kernel
theorem z85_43 {w : pm_H} {b0 b1 b2 b3 b4 : Option Value} {x0 : Int32} {x1 : Int32} {x2 : Int32} {x3 : Nat} : pm_ev 85 43 [b0, b1, b2, b3, b4] [.int x0, .int x1, .int x2, .ref x3] w = pm_k 85 46 [b0, b1, b2, b3, b4] [] (pm_vc (w x3) 4 (pm_call 37 [.ref x3, .int x2, .int x1, .int x0] w)) := pm_nv pt_85 pt_37 pt_M_5_215 d85_43 ⟨rfl, rfl⟩ ⟨⟨rfl, Nat.le_of_ble_eq_true rfl, Nat.le_of_ble_eq_true rfl, Nat.le_of_ble_eq_true rfl, Nat.le_of_ble_eq_true rfl⟩, rfl⟩
theorem d85_46 : decode cX5_ifSplit 46 = .ok (.aload_n 0, 1) := by decide +kernel
theorem z85_46 {st : List Value} {w : pm_H} {b1 b2 b3 b4 : Option Value} {x0 : Nat} : pm_ev 85 46 [some (.ref x0), b1, b2, b3, b4] st w = pm_ev 85 47 [some (.ref x0), b1, b2, b3, b4] (.ref x0 :: st) w := pm_ny pt_85 d85_46 rfl rfl rfl
theorem d85_47 : decode cX5_ifSplit 47 = .ok (.iconst (-1), 1) := by decide +kernel
theorem z85_47 {st : List Value} {w : pm_H} {pl : pm_L} : pm_ev 85 47 pl st w = pm_ev 85 48 pl (.int (-1) :: st) w := pm_ny pt_85 d85_47 rfl rfl rfl
theorem d85_48 : decode cX5_ifSplit 48 = .ok (.iload_n 2, 1) := by decide +kernel
theorem z85_48 {st : List Value} {w : pm_H} {b0 b1 b3 b4 : Option Value} {x0 : Int32} : pm_ev 85 48 [b0, b1, some (.int x0), b3, b4] st w = pm_ev 85 49 [b0, b1, some (.int x0), b3, b4] (.int x0 :: st) w := pm_ny pt_85 d85_48 rfl rfl rfl
theorem d85_49 : decode cX5_ifSplit 49 = .ok (.iload_n 3, 1) := by decide +kernel
theorem z85_49 {st : List Value} {w : pm_H} {b0 b1 b2 b4 : Option Value} {x0 : Int32} : pm_ev 85 49 [b0, b1, b2, some (.int x0), b4] st w = pm_ev 85 50 [b0, b1, b2, some (.int x0), b4] (.int x0 :: st) w := pm_ny pt_85 d85_49 rfl rfl rfl
theorem d85_50 : decode cX5_ifSplit 50 = .ok (.invokevirtual 195, 3) := by decide +kernel
theorem z85_50 {w : pm_H} {b0 b1 b2 b3 b4 : Option Value} {x0 : Int32} {x1 : Int32} {x2 : Int32} {x3 : Nat} : pm_ev 85 50 [b0, b1, b2, b3, b4] [.int x0, .int x1, .int x2, .ref x3] w = pm_k 85 53 [b0, b1, b2, b3, b4] [] (pm_vc (w x3) 5 (pm_call 80 [.ref x3, .int x2, .int x1, .int x0] w)) := pm_nv pt_85 pt_80 pt_M_5_195 d85_50 ⟨rfl, rfl⟩ ⟨⟨rfl, Nat.le_of_ble_eq_true rfl, Nat.le_of_ble_eq_true rfl, Nat.le_of_ble_eq_true rfl, Nat.le_of_ble_eq_true rfl⟩, rfl⟩
theorem d85_53 : decode cX5_ifSplit 53 = .ok (.istore 4, 2) := by decide +kernel
theorem z85_53 {st : List Value} {w : pm_H} {b0 b1 b2 b4 : Option Value} {x0 : Int32} {x9 : Int32} : pm_ev 85 53 [b0, b1, b2, some (.int x9), b4] (.int x0 :: st) w = pm_ev 85 55 [b0, b1, b2, some (.int x9), some (.int x0)] st w := pm_ny pt_85 d85_53 rfl rfl rfl
theorem d85_55 : decode cX5_ifSplit 55 = .ok (.aload_n 0, 1) := by decide +kernel
theorem z85_55 {st : List Value} {w : pm_H} {b1 b2 b3 b4 : Option Value} {x0 : Nat} : pm_ev 85 55 [some (.ref x0), b1, b2, b3, b4] st w = pm_ev 85 56 [some (.ref x0), b1, b2, b3, b4] (.ref x0 :: st) w := pm_ny pt_85 d85_55 rfl rfl rfl
theorem d85_56 : decode cX5_ifSplit 56 = .ok (.getfield 42, 3) := by decide +kernel
theorem z85_56 {st : List Value} {w : pm_H} {pl : pm_L} {x0 : Nat} : pm_ev 85 56 pl (.ref x0 :: st) w = pm_kv 85 59 pl st w (pm_gf (w x0) 5 4) := pm_ng pt_85 pt_F_5_42 d85_56
theorem d85_59 : decode cX5_ifSplit 59 = .ok (.invokevirtual 219, 3) := by decide +kernel
theorem z85_59 {w : pm_H} {b0 b1 b2 b3 b4 : Option Value} {x0 : Nat} : pm_ev 85 59 [b0, b1, b2, b3, b4] [.ref x0] w = pm_k 85 62 [b0, b1, b2, b3, b4] [] (pm_vc (w x0) 4 (pm_call 44 [.ref x0] w)) := pm_nv pt_85 pt_44 pt_M_5_219 d85_59 ⟨rfl, rfl⟩ ⟨⟨rfl, Nat.le_of_ble_eq_true rfl, Nat.le_of_ble_eq_true rfl, Nat.le_of_ble_eq_true rfl, Nat.le_of_ble_eq_true rfl⟩, rfl⟩
theorem d85_62 : decode cX5_ifSplit 62 = .ok (.iload 4, 2) := by decide +kernel
theorem z85_62 {st : List Value} {w : pm_H} {b0 b1 b2 b3 : Option Value} {x0 : Int32} : pm_ev 85 62 [b0, b1, b2, b3, some (.int x0)] st w = pm_ev 85 64 [b0, b1, b2, b3, some (.int x0)] (.int x0 :: st) w := pm_ny pt_85 d85_62 rfl rfl rfl
theorem d85_64 : decode cX5_ifSplit 64 = .ok (.ireturn, 1) := by decide +kernel
theorem z85_64 {w : pm_H} {pl : pm_L} {x0 : Int32} : pm_ev 85 64 pl [.int x0] w = some (some (.int x0), w) := pm_nr pt_85 d85_64 rfl
